section
-- ===== PART A: goes FIRST, ahead of the names: the tables' words, and 'selects' of the private methods out of them =====
/-- a private method of a class that the tables say can be made, by its rows of tables_1 -/
def lw_okq (q : MethodName × Nat) : Prop := (q.1.cls ≠ "java/lang/invoke/MethodHandle" ∧ q.1.cls ≠ "java/lang/invoke/VarHandle") ∧ Cond.instantiable q.1.cls q.2 ∈ tables_1 ∧ Cond.privateMethod q.1 ∈ tables_1 ∧ Cond.instanceMethod q.1 ∈ tables_1
theorem lw_p0 : lw_okq (⟨"WalledIn$Stones", "areTold", "(I)Z"⟩, 6) := ⟨⟨by decide +kernel, by decide +kernel⟩, List.mem_of_getElem? (i := 38) (by decide +kernel), List.mem_of_getElem? (i := 418) (by decide +kernel), List.mem_of_getElem? (i := 419) (by decide +kernel)⟩
theorem lw_p1 : lw_okq (⟨"WalledIn$Stones", "all", "()I"⟩, 6) := ⟨⟨by decide +kernel, by decide +kernel⟩, List.mem_of_getElem? (i := 38) (by decide +kernel), List.mem_of_getElem? (i := 422) (by decide +kernel), List.mem_of_getElem? (i := 423) (by decide +kernel)⟩
theorem lw_p2 : lw_okq (⟨"WalledIn$Plan", "forget", "()V"⟩, 11) := ⟨⟨by decide +kernel, by decide +kernel⟩, List.mem_of_getElem? (i := 321) (by decide +kernel), List.mem_of_getElem? (i := 432) (by decide +kernel), List.mem_of_getElem? (i := 433) (by decide +kernel)⟩
theorem lw_p3 : lw_okq (⟨"WalledIn$Houses", "has", "(I)Z"⟩, 5) := ⟨⟨by decide +kernel, by decide +kernel⟩, List.mem_of_getElem? (i := 75) (by decide +kernel), List.mem_of_getElem? (i := 448) (by decide +kernel), List.mem_of_getElem? (i := 449) (by decide +kernel)⟩
theorem lw_p4 : lw_okq (⟨"WalledIn$Houses", "setNear", "(IIZ)V"⟩, 5) := ⟨⟨by decide +kernel, by decide +kernel⟩, List.mem_of_getElem? (i := 75) (by decide +kernel), List.mem_of_getElem? (i := 452) (by decide +kernel), List.mem_of_getElem? (i := 453) (by decide +kernel)⟩
theorem lw_p5 : lw_okq (⟨"WalledIn$Tape", "addFour", "(I)V"⟩, 8) := ⟨⟨by decide +kernel, by decide +kernel⟩, List.mem_of_getElem? (i := 214) (by decide +kernel), List.mem_of_getElem? (i := 460) (by decide +kernel), List.mem_of_getElem? (i := 461) (by decide +kernel)⟩
theorem lw_p6 : lw_okq (⟨"WalledIn$Reader", "read", "(LWalledIn$Tape;)V"⟩, 17) := ⟨⟨by decide +kernel, by decide +kernel⟩, List.mem_of_getElem? (i := 247) (by decide +kernel), List.mem_of_getElem? (i := 472) (by decide +kernel), List.mem_of_getElem? (i := 473) (by decide +kernel)⟩
theorem lw_p7 : lw_okq (⟨"WalledIn$Tape", "split", "()V"⟩, 8) := ⟨⟨by decide +kernel, by decide +kernel⟩, List.mem_of_getElem? (i := 214) (by decide +kernel), List.mem_of_getElem? (i := 476) (by decide +kernel), List.mem_of_getElem? (i := 477) (by decide +kernel)⟩
theorem lw_p8 : lw_okq (⟨"WalledIn$Tape", "skipBlanks", "()V"⟩, 8) := ⟨⟨by decide +kernel, by decide +kernel⟩, List.mem_of_getElem? (i := 214) (by decide +kernel), List.mem_of_getElem? (i := 480) (by decide +kernel), List.mem_of_getElem? (i := 481) (by decide +kernel)⟩
theorem lw_p9 : lw_okq (⟨"WalledIn$Tape", "byteAt", "(I)I"⟩, 8) := ⟨⟨by decide +kernel, by decide +kernel⟩, List.mem_of_getElem? (i := 214) (by decide +kernel), List.mem_of_getElem? (i := 484) (by decide +kernel), List.mem_of_getElem? (i := 485) (by decide +kernel)⟩
theorem lw_p10 : lw_okq (⟨"WalledIn$Tape", "takeToken", "(I)I"⟩, 8) := ⟨⟨by decide +kernel, by decide +kernel⟩, List.mem_of_getElem? (i := 214) (by decide +kernel), List.mem_of_getElem? (i := 488) (by decide +kernel), List.mem_of_getElem? (i := 489) (by decide +kernel)⟩
theorem lw_p11 : lw_okq (⟨"WalledIn$Tape", "isLetter", "(I)Z"⟩, 8) := ⟨⟨by decide +kernel, by decide +kernel⟩, List.mem_of_getElem? (i := 214) (by decide +kernel), List.mem_of_getElem? (i := 492) (by decide +kernel), List.mem_of_getElem? (i := 493) (by decide +kernel)⟩
theorem lw_p12 : lw_okq (⟨"WalledIn$Tape", "takeWord", "()I"⟩, 8) := ⟨⟨by decide +kernel, by decide +kernel⟩, List.mem_of_getElem? (i := 214) (by decide +kernel), List.mem_of_getElem? (i := 496) (by decide +kernel), List.mem_of_getElem? (i := 497) (by decide +kernel)⟩
theorem lw_p13 : lw_okq (⟨"WalledIn$Tape", "wordFrom", "(II)I"⟩, 8) := ⟨⟨by decide +kernel, by decide +kernel⟩, List.mem_of_getElem? (i := 214) (by decide +kernel), List.mem_of_getElem? (i := 500) (by decide +kernel), List.mem_of_getElem? (i := 501) (by decide +kernel)⟩
theorem lw_p14 : lw_okq (⟨"WalledIn$Tape", "isDigit", "(I)Z"⟩, 8) := ⟨⟨by decide +kernel, by decide +kernel⟩, List.mem_of_getElem? (i := 214) (by decide +kernel), List.mem_of_getElem? (i := 553) (by decide +kernel), List.mem_of_getElem? (i := 554) (by decide +kernel)⟩
theorem lw_p15 : lw_okq (⟨"WalledIn$Tape", "takeDigits", "()I"⟩, 8) := ⟨⟨by decide +kernel, by decide +kernel⟩, List.mem_of_getElem? (i := 214) (by decide +kernel), List.mem_of_getElem? (i := 557) (by decide +kernel), List.mem_of_getElem? (i := 558) (by decide +kernel)⟩
def lw_privs_1 : List (MethodName × Nat) := [(⟨"WalledIn$Stones", "areTold", "(I)Z"⟩, 6), (⟨"WalledIn$Stones", "all", "()I"⟩, 6), (⟨"WalledIn$Plan", "forget", "()V"⟩, 11), (⟨"WalledIn$Houses", "has", "(I)Z"⟩, 5), (⟨"WalledIn$Houses", "setNear", "(IIZ)V"⟩, 5), (⟨"WalledIn$Tape", "addFour", "(I)V"⟩, 8), (⟨"WalledIn$Reader", "read", "(LWalledIn$Tape;)V"⟩, 17), (⟨"WalledIn$Tape", "split", "()V"⟩, 8), (⟨"WalledIn$Tape", "skipBlanks", "()V"⟩, 8), (⟨"WalledIn$Tape", "byteAt", "(I)I"⟩, 8), (⟨"WalledIn$Tape", "takeToken", "(I)I"⟩, 8), (⟨"WalledIn$Tape", "isLetter", "(I)Z"⟩, 8), (⟨"WalledIn$Tape", "takeWord", "()I"⟩, 8), (⟨"WalledIn$Tape", "wordFrom", "(II)I"⟩, 8), (⟨"WalledIn$Tape", "isDigit", "(I)Z"⟩, 8), (⟨"WalledIn$Tape", "takeDigits", "()I"⟩, 8)]
theorem lw_r1 : ∀ q ∈ lw_privs_1, lw_okq q := List.forall_mem_cons.mpr ⟨lw_p0, List.forall_mem_cons.mpr ⟨lw_p1, List.forall_mem_cons.mpr ⟨lw_p2, List.forall_mem_cons.mpr ⟨lw_p3, List.forall_mem_cons.mpr ⟨lw_p4, List.forall_mem_cons.mpr ⟨lw_p5, List.forall_mem_cons.mpr ⟨lw_p6, List.forall_mem_cons.mpr ⟨lw_p7, List.forall_mem_cons.mpr ⟨lw_p8, List.forall_mem_cons.mpr ⟨lw_p9, List.forall_mem_cons.mpr ⟨lw_p10, List.forall_mem_cons.mpr ⟨lw_p11, List.forall_mem_cons.mpr ⟨lw_p12, List.forall_mem_cons.mpr ⟨lw_p13, List.forall_mem_cons.mpr ⟨lw_p14, List.forall_mem_cons.mpr ⟨lw_p15, fun _ h => absurd h List.not_mem_nil⟩⟩⟩⟩⟩⟩⟩⟩⟩⟩⟩⟩⟩⟩⟩⟩
theorem lw_p16 : lw_okq (⟨"WalledIn$Tape", "takeMark", "(I)I"⟩, 8) := ⟨⟨by decide +kernel, by decide +kernel⟩, List.mem_of_getElem? (i := 214) (by decide +kernel), List.mem_of_getElem? (i := 564) (by decide +kernel), List.mem_of_getElem? (i := 565) (by decide +kernel)⟩
theorem lw_p17 : lw_okq (⟨"WalledIn$Tape", "kind", "()I"⟩, 8) := ⟨⟨by decide +kernel, by decide +kernel⟩, List.mem_of_getElem? (i := 214) (by decide +kernel), List.mem_of_getElem? (i := 626) (by decide +kernel), List.mem_of_getElem? (i := 627) (by decide +kernel)⟩
theorem lw_p18 : lw_okq (⟨"WalledIn$Reader", "readClause", "(LWalledIn$Tape;)V"⟩, 17) := ⟨⟨by decide +kernel, by decide +kernel⟩, List.mem_of_getElem? (i := 247) (by decide +kernel), List.mem_of_getElem? (i := 630) (by decide +kernel), List.mem_of_getElem? (i := 631) (by decide +kernel)⟩
theorem lw_p19 : lw_okq (⟨"WalledIn$Reader", "fail", "(LWalledIn$Tape;I)V"⟩, 17) := ⟨⟨by decide +kernel, by decide +kernel⟩, List.mem_of_getElem? (i := 247) (by decide +kernel), List.mem_of_getElem? (i := 634) (by decide +kernel), List.mem_of_getElem? (i := 635) (by decide +kernel)⟩
theorem lw_p20 : lw_okq (⟨"WalledIn$Tape", "start", "()I"⟩, 8) := ⟨⟨by decide +kernel, by decide +kernel⟩, List.mem_of_getElem? (i := 214) (by decide +kernel), List.mem_of_getElem? (i := 638) (by decide +kernel), List.mem_of_getElem? (i := 639) (by decide +kernel)⟩
theorem lw_p21 : lw_okq (⟨"WalledIn$Reader", "isTold", "(I)Z"⟩, 17) := ⟨⟨by decide +kernel, by decide +kernel⟩, List.mem_of_getElem? (i := 247) (by decide +kernel), List.mem_of_getElem? (i := 642) (by decide +kernel), List.mem_of_getElem? (i := 643) (by decide +kernel)⟩
theorem lw_p22 : lw_okq (⟨"WalledIn$Tape", "advance", "()V"⟩, 8) := ⟨⟨by decide +kernel, by decide +kernel⟩, List.mem_of_getElem? (i := 214) (by decide +kernel), List.mem_of_getElem? (i := 646) (by decide +kernel), List.mem_of_getElem? (i := 647) (by decide +kernel)⟩
theorem lw_p23 : lw_okq (⟨"WalledIn$Reader", "readLaw", "(LWalledIn$Tape;)V"⟩, 17) := ⟨⟨by decide +kernel, by decide +kernel⟩, List.mem_of_getElem? (i := 247) (by decide +kernel), List.mem_of_getElem? (i := 650) (by decide +kernel), List.mem_of_getElem? (i := 651) (by decide +kernel)⟩
theorem lw_p24 : lw_okq (⟨"WalledIn$Reader", "isAtEnd", "(I)Z"⟩, 17) := ⟨⟨by decide +kernel, by decide +kernel⟩, List.mem_of_getElem? (i := 247) (by decide +kernel), List.mem_of_getElem? (i := 654) (by decide +kernel), List.mem_of_getElem? (i := 655) (by decide +kernel)⟩
theorem lw_p25 : lw_okq (⟨"WalledIn$Reader", "takeOne", "(LWalledIn$Tape;)I"⟩, 17) := ⟨⟨by decide +kernel, by decide +kernel⟩, List.mem_of_getElem? (i := 247) (by decide +kernel), List.mem_of_getElem? (i := 658) (by decide +kernel), List.mem_of_getElem? (i := 659) (by decide +kernel)⟩
theorem lw_p26 : lw_okq (⟨"WalledIn$Reader", "openOne", "(I)I"⟩, 17) := ⟨⟨by decide +kernel, by decide +kernel⟩, List.mem_of_getElem? (i := 247) (by decide +kernel), List.mem_of_getElem? (i := 662) (by decide +kernel), List.mem_of_getElem? (i := 663) (by decide +kernel)⟩
theorem lw_p27 : lw_okq (⟨"WalledIn$Reader", "putOff", "(I)V"⟩, 17) := ⟨⟨by decide +kernel, by decide +kernel⟩, List.mem_of_getElem? (i := 247) (by decide +kernel), List.mem_of_getElem? (i := 666) (by decide +kernel), List.mem_of_getElem? (i := 667) (by decide +kernel)⟩
theorem lw_p28 : lw_okq (⟨"WalledIn$Tape", "number", "()I"⟩, 8) := ⟨⟨by decide +kernel, by decide +kernel⟩, List.mem_of_getElem? (i := 214) (by decide +kernel), List.mem_of_getElem? (i := 670) (by decide +kernel), List.mem_of_getElem? (i := 671) (by decide +kernel)⟩
theorem lw_p29 : lw_okq (⟨"WalledIn$Reader", "addCode", "(I)V"⟩, 17) := ⟨⟨by decide +kernel, by decide +kernel⟩, List.mem_of_getElem? (i := 247) (by decide +kernel), List.mem_of_getElem? (i := 674) (by decide +kernel), List.mem_of_getElem? (i := 675) (by decide +kernel)⟩
theorem lw_p30 : lw_okq (⟨"WalledIn$Reader", "isOfClause", "(I)Z"⟩, 17) := ⟨⟨by decide +kernel, by decide +kernel⟩, List.mem_of_getElem? (i := 247) (by decide +kernel), List.mem_of_getElem? (i := 678) (by decide +kernel), List.mem_of_getElem? (i := 679) (by decide +kernel)⟩
theorem lw_p31 : lw_okq (⟨"WalledIn$Reader", "takeSign", "(I)I"⟩, 17) := ⟨⟨by decide +kernel, by decide +kernel⟩, List.mem_of_getElem? (i := 247) (by decide +kernel), List.mem_of_getElem? (i := 682) (by decide +kernel), List.mem_of_getElem? (i := 683) (by decide +kernel)⟩
def lw_privs_2 : List (MethodName × Nat) := [(⟨"WalledIn$Tape", "takeMark", "(I)I"⟩, 8), (⟨"WalledIn$Tape", "kind", "()I"⟩, 8), (⟨"WalledIn$Reader", "readClause", "(LWalledIn$Tape;)V"⟩, 17), (⟨"WalledIn$Reader", "fail", "(LWalledIn$Tape;I)V"⟩, 17), (⟨"WalledIn$Tape", "start", "()I"⟩, 8), (⟨"WalledIn$Reader", "isTold", "(I)Z"⟩, 17), (⟨"WalledIn$Tape", "advance", "()V"⟩, 8), (⟨"WalledIn$Reader", "readLaw", "(LWalledIn$Tape;)V"⟩, 17), (⟨"WalledIn$Reader", "isAtEnd", "(I)Z"⟩, 17), (⟨"WalledIn$Reader", "takeOne", "(LWalledIn$Tape;)I"⟩, 17), (⟨"WalledIn$Reader", "openOne", "(I)I"⟩, 17), (⟨"WalledIn$Reader", "putOff", "(I)V"⟩, 17), (⟨"WalledIn$Tape", "number", "()I"⟩, 8), (⟨"WalledIn$Reader", "addCode", "(I)V"⟩, 17), (⟨"WalledIn$Reader", "isOfClause", "(I)Z"⟩, 17), (⟨"WalledIn$Reader", "takeSign", "(I)I"⟩, 17)]
theorem lw_r2 : ∀ q ∈ lw_privs_2, lw_okq q := List.forall_mem_cons.mpr ⟨lw_p16, List.forall_mem_cons.mpr ⟨lw_p17, List.forall_mem_cons.mpr ⟨lw_p18, List.forall_mem_cons.mpr ⟨lw_p19, List.forall_mem_cons.mpr ⟨lw_p20, List.forall_mem_cons.mpr ⟨lw_p21, List.forall_mem_cons.mpr ⟨lw_p22, List.forall_mem_cons.mpr ⟨lw_p23, List.forall_mem_cons.mpr ⟨lw_p24, List.forall_mem_cons.mpr ⟨lw_p25, List.forall_mem_cons.mpr ⟨lw_p26, List.forall_mem_cons.mpr ⟨lw_p27, List.forall_mem_cons.mpr ⟨lw_p28, List.forall_mem_cons.mpr ⟨lw_p29, List.forall_mem_cons.mpr ⟨lw_p30, List.forall_mem_cons.mpr ⟨lw_p31, fun _ h => absurd h List.not_mem_nil⟩⟩⟩⟩⟩⟩⟩⟩⟩⟩⟩⟩⟩⟩⟩⟩
theorem lw_p32 : lw_okq (⟨"WalledIn$Reader", "join", "(I)V"⟩, 17) := ⟨⟨by decide +kernel, by decide +kernel⟩, List.mem_of_getElem? (i := 247) (by decide +kernel), List.mem_of_getElem? (i := 686) (by decide +kernel), List.mem_of_getElem? (i := 687) (by decide +kernel)⟩
theorem lw_p33 : lw_okq (⟨"WalledIn$Reader", "settle", "(I)V"⟩, 17) := ⟨⟨by decide +kernel, by decide +kernel⟩, List.mem_of_getElem? (i := 247) (by decide +kernel), List.mem_of_getElem? (i := 690) (by decide +kernel), List.mem_of_getElem? (i := 691) (by decide +kernel)⟩
theorem lw_p34 : lw_okq (⟨"WalledIn$Reader", "closeness", "(I)I"⟩, 17) := ⟨⟨by decide +kernel, by decide +kernel⟩, List.mem_of_getElem? (i := 247) (by decide +kernel), List.mem_of_getElem? (i := 694) (by decide +kernel), List.mem_of_getElem? (i := 695) (by decide +kernel)⟩
theorem lw_p35 : lw_okq (⟨"WalledIn$Reader", "endWait", "()V"⟩, 17) := ⟨⟨by decide +kernel, by decide +kernel⟩, List.mem_of_getElem? (i := 247) (by decide +kernel), List.mem_of_getElem? (i := 698) (by decide +kernel), List.mem_of_getElem? (i := 699) (by decide +kernel)⟩
theorem lw_p36 : lw_okq (⟨"WalledIn$Reader", "isComparison", "(I)Z"⟩, 17) := ⟨⟨by decide +kernel, by decide +kernel⟩, List.mem_of_getElem? (i := 247) (by decide +kernel), List.mem_of_getElem? (i := 702) (by decide +kernel), List.mem_of_getElem? (i := 703) (by decide +kernel)⟩
theorem lw_p37 : lw_okq (⟨"WalledIn$Reader", "keepLaw", "()V"⟩, 17) := ⟨⟨by decide +kernel, by decide +kernel⟩, List.mem_of_getElem? (i := 247) (by decide +kernel), List.mem_of_getElem? (i := 706) (by decide +kernel), List.mem_of_getElem? (i := 707) (by decide +kernel)⟩
theorem lw_p38 : lw_okq (⟨"WalledIn$Reader", "addClause", "(II)V"⟩, 17) := ⟨⟨by decide +kernel, by decide +kernel⟩, List.mem_of_getElem? (i := 247) (by decide +kernel), List.mem_of_getElem? (i := 724) (by decide +kernel), List.mem_of_getElem? (i := 725) (by decide +kernel)⟩
theorem lw_p39 : lw_okq (⟨"WalledIn$Reader", "readDeed", "(LWalledIn$Tape;)V"⟩, 17) := ⟨⟨by decide +kernel, by decide +kernel⟩, List.mem_of_getElem? (i := 247) (by decide +kernel), List.mem_of_getElem? (i := 728) (by decide +kernel), List.mem_of_getElem? (i := 729) (by decide +kernel)⟩
theorem lw_p40 : lw_okq (⟨"WalledIn$Reader", "readNumber", "(LWalledIn$Tape;I)I"⟩, 17) := ⟨⟨by decide +kernel, by decide +kernel⟩, List.mem_of_getElem? (i := 247) (by decide +kernel), List.mem_of_getElem? (i := 732) (by decide +kernel), List.mem_of_getElem? (i := 733) (by decide +kernel)⟩
theorem lw_p41 : lw_okq (⟨"WalledIn$Reader", "pass", "(LWalledIn$Tape;I)V"⟩, 17) := ⟨⟨by decide +kernel, by decide +kernel⟩, List.mem_of_getElem? (i := 247) (by decide +kernel), List.mem_of_getElem? (i := 736) (by decide +kernel), List.mem_of_getElem? (i := 737) (by decide +kernel)⟩
theorem lw_p42 : lw_okq (⟨"WalledIn$Reader", "newText", "()LWalledIn$Text;"⟩, 17) := ⟨⟨by decide +kernel, by decide +kernel⟩, List.mem_of_getElem? (i := 247) (by decide +kernel), List.mem_of_getElem? (i := 740) (by decide +kernel), List.mem_of_getElem? (i := 741) (by decide +kernel)⟩
theorem lw_p43 : lw_okq (⟨"WalledIn$State", "hasText", "(I)Z"⟩, 10) := ⟨⟨by decide +kernel, by decide +kernel⟩, List.mem_of_getElem? (i := 32) (by decide +kernel), List.mem_of_getElem? (i := 754) (by decide +kernel), List.mem_of_getElem? (i := 755) (by decide +kernel)⟩
theorem lw_p44 : lw_okq (⟨"WalledIn$Stones", "has", "(I)Z"⟩, 6) := ⟨⟨by decide +kernel, by decide +kernel⟩, List.mem_of_getElem? (i := 38) (by decide +kernel), List.mem_of_getElem? (i := 762) (by decide +kernel), List.mem_of_getElem? (i := 763) (by decide +kernel)⟩
theorem lw_p45 : lw_okq (⟨"WalledIn$State", "isLaid", "(I)Z"⟩, 10) := ⟨⟨by decide +kernel, by decide +kernel⟩, List.mem_of_getElem? (i := 32) (by decide +kernel), List.mem_of_getElem? (i := 766) (by decide +kernel), List.mem_of_getElem? (i := 767) (by decide +kernel)⟩
theorem lw_p46 : lw_okq (⟨"WalledIn", "canBeLaid", "(I)Z"⟩, 10) := ⟨⟨by decide +kernel, by decide +kernel⟩, List.mem_of_getElem? (i := 24) (by decide +kernel), List.mem_of_getElem? (i := 770) (by decide +kernel), List.mem_of_getElem? (i := 771) (by decide +kernel)⟩
theorem lw_p47 : lw_okq (⟨"WalledIn$Stones", "isBorne", "(II)Z"⟩, 6) := ⟨⟨by decide +kernel, by decide +kernel⟩, List.mem_of_getElem? (i := 38) (by decide +kernel), List.mem_of_getElem? (i := 774) (by decide +kernel), List.mem_of_getElem? (i := 775) (by decide +kernel)⟩
def lw_privs_3 : List (MethodName × Nat) := [(⟨"WalledIn$Reader", "join", "(I)V"⟩, 17), (⟨"WalledIn$Reader", "settle", "(I)V"⟩, 17), (⟨"WalledIn$Reader", "closeness", "(I)I"⟩, 17), (⟨"WalledIn$Reader", "endWait", "()V"⟩, 17), (⟨"WalledIn$Reader", "isComparison", "(I)Z"⟩, 17), (⟨"WalledIn$Reader", "keepLaw", "()V"⟩, 17), (⟨"WalledIn$Reader", "addClause", "(II)V"⟩, 17), (⟨"WalledIn$Reader", "readDeed", "(LWalledIn$Tape;)V"⟩, 17), (⟨"WalledIn$Reader", "readNumber", "(LWalledIn$Tape;I)I"⟩, 17), (⟨"WalledIn$Reader", "pass", "(LWalledIn$Tape;I)V"⟩, 17), (⟨"WalledIn$Reader", "newText", "()LWalledIn$Text;"⟩, 17), (⟨"WalledIn$State", "hasText", "(I)Z"⟩, 10), (⟨"WalledIn$Stones", "has", "(I)Z"⟩, 6), (⟨"WalledIn$State", "isLaid", "(I)Z"⟩, 10), (⟨"WalledIn", "canBeLaid", "(I)Z"⟩, 10), (⟨"WalledIn$Stones", "isBorne", "(II)Z"⟩, 6)]
theorem lw_r3 : ∀ q ∈ lw_privs_3, lw_okq q := List.forall_mem_cons.mpr ⟨lw_p32, List.forall_mem_cons.mpr ⟨lw_p33, List.forall_mem_cons.mpr ⟨lw_p34, List.forall_mem_cons.mpr ⟨lw_p35, List.forall_mem_cons.mpr ⟨lw_p36, List.forall_mem_cons.mpr ⟨lw_p37, List.forall_mem_cons.mpr ⟨lw_p38, List.forall_mem_cons.mpr ⟨lw_p39, List.forall_mem_cons.mpr ⟨lw_p40, List.forall_mem_cons.mpr ⟨lw_p41, List.forall_mem_cons.mpr ⟨lw_p42, List.forall_mem_cons.mpr ⟨lw_p43, List.forall_mem_cons.mpr ⟨lw_p44, List.forall_mem_cons.mpr ⟨lw_p45, List.forall_mem_cons.mpr ⟨lw_p46, List.forall_mem_cons.mpr ⟨lw_p47, fun _ h => absurd h List.not_mem_nil⟩⟩⟩⟩⟩⟩⟩⟩⟩⟩⟩⟩⟩⟩⟩⟩
theorem lw_p48 : lw_okq (⟨"WalledIn$Stones", "topOf", "(I)I"⟩, 6) := ⟨⟨by decide +kernel, by decide +kernel⟩, List.mem_of_getElem? (i := 38) (by decide +kernel), List.mem_of_getElem? (i := 779) (by decide +kernel), List.mem_of_getElem? (i := 780) (by decide +kernel)⟩
theorem lw_p49 : lw_okq (⟨"WalledIn$Law", "isLet", "(LWalledIn$State;III)Z"⟩, 2) := ⟨⟨by decide +kernel, by decide +kernel⟩, List.mem_of_getElem? (i := 308) (by decide +kernel), List.mem_of_getElem? (i := 784) (by decide +kernel), List.mem_of_getElem? (i := 785) (by decide +kernel)⟩
theorem lw_p50 : lw_okq (⟨"WalledIn$State", "rule", "()LWalledIn$Text;"⟩, 10) := ⟨⟨by decide +kernel, by decide +kernel⟩, List.mem_of_getElem? (i := 32) (by decide +kernel), List.mem_of_getElem? (i := 788) (by decide +kernel), List.mem_of_getElem? (i := 789) (by decide +kernel)⟩
theorem lw_p51 : lw_okq (⟨"WalledIn$Law", "setStone", "(LWalledIn$Stones;I)V"⟩, 2) := ⟨⟨by decide +kernel, by decide +kernel⟩, List.mem_of_getElem? (i := 308) (by decide +kernel), List.mem_of_getElem? (i := 793) (by decide +kernel), List.mem_of_getElem? (i := 794) (by decide +kernel)⟩
theorem lw_p52 : lw_okq (⟨"WalledIn$Law", "setPlace", "(III)V"⟩, 2) := ⟨⟨by decide +kernel, by decide +kernel⟩, List.mem_of_getElem? (i := 308) (by decide +kernel), List.mem_of_getElem? (i := 797) (by decide +kernel), List.mem_of_getElem? (i := 798) (by decide +kernel)⟩
theorem lw_p53 : lw_okq (⟨"WalledIn$Law", "run", "([I)I"⟩, 2) := ⟨⟨by decide +kernel, by decide +kernel⟩, List.mem_of_getElem? (i := 308) (by decide +kernel), List.mem_of_getElem? (i := 801) (by decide +kernel), List.mem_of_getElem? (i := 802) (by decide +kernel)⟩
theorem lw_p54 : lw_okq (⟨"WalledIn$Law", "outcome", "(IJJ)J"⟩, 2) := ⟨⟨by decide +kernel, by decide +kernel⟩, List.mem_of_getElem? (i := 308) (by decide +kernel), List.mem_of_getElem? (i := 805) (by decide +kernel), List.mem_of_getElem? (i := 806) (by decide +kernel)⟩
theorem lw_p55 : lw_okq (⟨"WalledIn", "liftUponLaid", "(I)I"⟩, 10) := ⟨⟨by decide +kernel, by decide +kernel⟩, List.mem_of_getElem? (i := 24) (by decide +kernel), List.mem_of_getElem? (i := 817) (by decide +kernel), List.mem_of_getElem? (i := 818) (by decide +kernel)⟩
theorem lw_p56 : lw_okq (⟨"WalledIn$Law", "liftOf", "(LWalledIn$State;III)I"⟩, 2) := ⟨⟨by decide +kernel, by decide +kernel⟩, List.mem_of_getElem? (i := 308) (by decide +kernel), List.mem_of_getElem? (i := 821) (by decide +kernel), List.mem_of_getElem? (i := 822) (by decide +kernel)⟩
theorem lw_p57 : lw_okq (⟨"WalledIn$Law", "quarriesOf", "(LWalledIn$State;I)I"⟩, 2) := ⟨⟨by decide +kernel, by decide +kernel⟩, List.mem_of_getElem? (i := 308) (by decide +kernel), List.mem_of_getElem? (i := 827) (by decide +kernel), List.mem_of_getElem? (i := 828) (by decide +kernel)⟩
theorem lw_p58 : lw_okq (⟨"WalledIn$Stones", "isStanding", "(I)Z"⟩, 6) := ⟨⟨by decide +kernel, by decide +kernel⟩, List.mem_of_getElem? (i := 38) (by decide +kernel), List.mem_of_getElem? (i := 835) (by decide +kernel), List.mem_of_getElem? (i := 836) (by decide +kernel)⟩
theorem lw_p59 : lw_okq (⟨"WalledIn$Steps", "keep", "(ILWalledIn$Houses;)V"⟩, 3) := ⟨⟨by decide +kernel, by decide +kernel⟩, List.mem_of_getElem? (i := 124) (by decide +kernel), List.mem_of_getElem? (i := 844) (by decide +kernel), List.mem_of_getElem? (i := 845) (by decide +kernel)⟩
theorem lw_p60 : lw_okq (⟨"WalledIn$Houses", "canLend", "(II)Z"⟩, 5) := ⟨⟨by decide +kernel, by decide +kernel⟩, List.mem_of_getElem? (i := 75) (by decide +kernel), List.mem_of_getElem? (i := 857) (by decide +kernel), List.mem_of_getElem? (i := 858) (by decide +kernel)⟩
theorem lw_p61 : lw_okq (⟨"WalledIn$Houses", "moveOne", "(II)V"⟩, 5) := ⟨⟨by decide +kernel, by decide +kernel⟩, List.mem_of_getElem? (i := 75) (by decide +kernel), List.mem_of_getElem? (i := 862) (by decide +kernel), List.mem_of_getElem? (i := 863) (by decide +kernel)⟩
theorem lw_p62 : lw_okq (⟨"WalledIn", "isPlayed", "(LWalledIn$Text;I)Z"⟩, 10) := ⟨⟨by decide +kernel, by decide +kernel⟩, List.mem_of_getElem? (i := 24) (by decide +kernel), List.mem_of_getElem? (i := 870) (by decide +kernel), List.mem_of_getElem? (i := 871) (by decide +kernel)⟩
theorem lw_p63 : lw_okq (⟨"WalledIn$Text", "firstOf", "(I)I"⟩, 5) := ⟨⟨by decide +kernel, by decide +kernel⟩, List.mem_of_getElem? (i := 141) (by decide +kernel), List.mem_of_getElem? (i := 874) (by decide +kernel), List.mem_of_getElem? (i := 875) (by decide +kernel)⟩
def lw_privs_4 : List (MethodName × Nat) := [(⟨"WalledIn$Stones", "topOf", "(I)I"⟩, 6), (⟨"WalledIn$Law", "isLet", "(LWalledIn$State;III)Z"⟩, 2), (⟨"WalledIn$State", "rule", "()LWalledIn$Text;"⟩, 10), (⟨"WalledIn$Law", "setStone", "(LWalledIn$Stones;I)V"⟩, 2), (⟨"WalledIn$Law", "setPlace", "(III)V"⟩, 2), (⟨"WalledIn$Law", "run", "([I)I"⟩, 2), (⟨"WalledIn$Law", "outcome", "(IJJ)J"⟩, 2), (⟨"WalledIn", "liftUponLaid", "(I)I"⟩, 10), (⟨"WalledIn$Law", "liftOf", "(LWalledIn$State;III)I"⟩, 2), (⟨"WalledIn$Law", "quarriesOf", "(LWalledIn$State;I)I"⟩, 2), (⟨"WalledIn$Stones", "isStanding", "(I)Z"⟩, 6), (⟨"WalledIn$Steps", "keep", "(ILWalledIn$Houses;)V"⟩, 3), (⟨"WalledIn$Houses", "canLend", "(II)Z"⟩, 5), (⟨"WalledIn$Houses", "moveOne", "(II)V"⟩, 5), (⟨"WalledIn", "isPlayed", "(LWalledIn$Text;I)Z"⟩, 10), (⟨"WalledIn$Text", "firstOf", "(I)I"⟩, 5)]
theorem lw_r4 : ∀ q ∈ lw_privs_4, lw_okq q := List.forall_mem_cons.mpr ⟨lw_p48, List.forall_mem_cons.mpr ⟨lw_p49, List.forall_mem_cons.mpr ⟨lw_p50, List.forall_mem_cons.mpr ⟨lw_p51, List.forall_mem_cons.mpr ⟨lw_p52, List.forall_mem_cons.mpr ⟨lw_p53, List.forall_mem_cons.mpr ⟨lw_p54, List.forall_mem_cons.mpr ⟨lw_p55, List.forall_mem_cons.mpr ⟨lw_p56, List.forall_mem_cons.mpr ⟨lw_p57, List.forall_mem_cons.mpr ⟨lw_p58, List.forall_mem_cons.mpr ⟨lw_p59, List.forall_mem_cons.mpr ⟨lw_p60, List.forall_mem_cons.mpr ⟨lw_p61, List.forall_mem_cons.mpr ⟨lw_p62, List.forall_mem_cons.mpr ⟨lw_p63, fun _ h => absurd h List.not_mem_nil⟩⟩⟩⟩⟩⟩⟩⟩⟩⟩⟩⟩⟩⟩⟩⟩
theorem lw_p64 : lw_okq (⟨"WalledIn$Text", "partOf", "(II)I"⟩, 5) := ⟨⟨by decide +kernel, by decide +kernel⟩, List.mem_of_getElem? (i := 141) (by decide +kernel), List.mem_of_getElem? (i := 878) (by decide +kernel), List.mem_of_getElem? (i := 879) (by decide +kernel)⟩
theorem lw_p65 : lw_okq (⟨"WalledIn$Text", "deedOf", "(I)I"⟩, 5) := ⟨⟨by decide +kernel, by decide +kernel⟩, List.mem_of_getElem? (i := 141) (by decide +kernel), List.mem_of_getElem? (i := 882) (by decide +kernel), List.mem_of_getElem? (i := 883) (by decide +kernel)⟩
theorem lw_p66 : lw_okq (⟨"WalledIn$Text", "secondOf", "(I)I"⟩, 5) := ⟨⟨by decide +kernel, by decide +kernel⟩, List.mem_of_getElem? (i := 141) (by decide +kernel), List.mem_of_getElem? (i := 888) (by decide +kernel), List.mem_of_getElem? (i := 889) (by decide +kernel)⟩
theorem lw_p67 : lw_okq (⟨"WalledIn$Steps", "takeLatest", "(LWalledIn$Houses;)I"⟩, 3) := ⟨⟨by decide +kernel, by decide +kernel⟩, List.mem_of_getElem? (i := 124) (by decide +kernel), List.mem_of_getElem? (i := 897) (by decide +kernel), List.mem_of_getElem? (i := 898) (by decide +kernel)⟩
theorem lw_p68 : lw_okq (⟨"WalledIn$Plan", "prepare", "(LWalledIn$State;)V"⟩, 11) := ⟨⟨by decide +kernel, by decide +kernel⟩, List.mem_of_getElem? (i := 321) (by decide +kernel), List.mem_of_getElem? (i := 906) (by decide +kernel), List.mem_of_getElem? (i := 907) (by decide +kernel)⟩
theorem lw_p69 : lw_okq (⟨"WalledIn$Plan", "countWays", "(LWalledIn$State;IZ)V"⟩, 11) := ⟨⟨by decide +kernel, by decide +kernel⟩, List.mem_of_getElem? (i := 321) (by decide +kernel), List.mem_of_getElem? (i := 913) (by decide +kernel), List.mem_of_getElem? (i := 914) (by decide +kernel)⟩
theorem lw_p70 : lw_okq (⟨"WalledIn$Plan", "spread", "(LWalledIn$State;IZ)V"⟩, 11) := ⟨⟨by decide +kernel, by decide +kernel⟩, List.mem_of_getElem? (i := 321) (by decide +kernel), List.mem_of_getElem? (i := 919) (by decide +kernel), List.mem_of_getElem? (i := 920) (by decide +kernel)⟩
theorem lw_p71 : lw_okq (⟨"WalledIn$Sounds", "isFit", "(II)Z"⟩, 3) := ⟨⟨by decide +kernel, by decide +kernel⟩, List.mem_of_getElem? (i := 106) (by decide +kernel), List.mem_of_getElem? (i := 924) (by decide +kernel), List.mem_of_getElem? (i := 925) (by decide +kernel)⟩
theorem lw_p72 : lw_okq (⟨"WalledIn$Plan", "liftUpon", "(LWalledIn$State;III)I"⟩, 11) := ⟨⟨by decide +kernel, by decide +kernel⟩, List.mem_of_getElem? (i := 321) (by decide +kernel), List.mem_of_getElem? (i := 928) (by decide +kernel), List.mem_of_getElem? (i := 929) (by decide +kernel)⟩
theorem lw_p73 : lw_okq (⟨"WalledIn$Plan", "lowestOfMost", "(I)I"⟩, 11) := ⟨⟨by decide +kernel, by decide +kernel⟩, List.mem_of_getElem? (i := 321) (by decide +kernel), List.mem_of_getElem? (i := 935) (by decide +kernel), List.mem_of_getElem? (i := 936) (by decide +kernel)⟩
theorem lw_p74 : lw_okq (⟨"WalledIn$Plan", "measure", "(LWalledIn$State;I)V"⟩, 11) := ⟨⟨by decide +kernel, by decide +kernel⟩, List.mem_of_getElem? (i := 321) (by decide +kernel), List.mem_of_getElem? (i := 939) (by decide +kernel), List.mem_of_getElem? (i := 940) (by decide +kernel)⟩
theorem lw_p75 : lw_okq (⟨"WalledIn$Plan", "leastAhead", "(LWalledIn$State;II)I"⟩, 11) := ⟨⟨by decide +kernel, by decide +kernel⟩, List.mem_of_getElem? (i := 321) (by decide +kernel), List.mem_of_getElem? (i := 943) (by decide +kernel), List.mem_of_getElem? (i := 944) (by decide +kernel)⟩
theorem lw_p76 : lw_okq (⟨"WalledIn$Plan", "choose", "(LWalledIn$State;I)V"⟩, 11) := ⟨⟨by decide +kernel, by decide +kernel⟩, List.mem_of_getElem? (i := 321) (by decide +kernel), List.mem_of_getElem? (i := 949) (by decide +kernel), List.mem_of_getElem? (i := 950) (by decide +kernel)⟩
theorem lw_p77 : lw_okq (⟨"WalledIn$Plan", "firstOfLeast", "(LWalledIn$State;II)I"⟩, 11) := ⟨⟨by decide +kernel, by decide +kernel⟩, List.mem_of_getElem? (i := 321) (by decide +kernel), List.mem_of_getElem? (i := 953) (by decide +kernel), List.mem_of_getElem? (i := 954) (by decide +kernel)⟩
theorem lw_p78 : lw_okq (⟨"WalledIn$Sounds", "add", "(II)V"⟩, 3) := ⟨⟨by decide +kernel, by decide +kernel⟩, List.mem_of_getElem? (i := 106) (by decide +kernel), List.mem_of_getElem? (i := 965) (by decide +kernel), List.mem_of_getElem? (i := 966) (by decide +kernel)⟩
theorem lw_p79 : lw_okq (⟨"WalledIn$Plan", "listen", "(LWalledIn$State;)V"⟩, 11) := ⟨⟨by decide +kernel, by decide +kernel⟩, List.mem_of_getElem? (i := 321) (by decide +kernel), List.mem_of_getElem? (i := 978) (by decide +kernel), List.mem_of_getElem? (i := 979) (by decide +kernel)⟩
def lw_privs_5 : List (MethodName × Nat) := [(⟨"WalledIn$Text", "partOf", "(II)I"⟩, 5), (⟨"WalledIn$Text", "deedOf", "(I)I"⟩, 5), (⟨"WalledIn$Text", "secondOf", "(I)I"⟩, 5), (⟨"WalledIn$Steps", "takeLatest", "(LWalledIn$Houses;)I"⟩, 3), (⟨"WalledIn$Plan", "prepare", "(LWalledIn$State;)V"⟩, 11), (⟨"WalledIn$Plan", "countWays", "(LWalledIn$State;IZ)V"⟩, 11), (⟨"WalledIn$Plan", "spread", "(LWalledIn$State;IZ)V"⟩, 11), (⟨"WalledIn$Sounds", "isFit", "(II)Z"⟩, 3), (⟨"WalledIn$Plan", "liftUpon", "(LWalledIn$State;III)I"⟩, 11), (⟨"WalledIn$Plan", "lowestOfMost", "(I)I"⟩, 11), (⟨"WalledIn$Plan", "measure", "(LWalledIn$State;I)V"⟩, 11), (⟨"WalledIn$Plan", "leastAhead", "(LWalledIn$State;II)I"⟩, 11), (⟨"WalledIn$Plan", "choose", "(LWalledIn$State;I)V"⟩, 11), (⟨"WalledIn$Plan", "firstOfLeast", "(LWalledIn$State;II)I"⟩, 11), (⟨"WalledIn$Sounds", "add", "(II)V"⟩, 3), (⟨"WalledIn$Plan", "listen", "(LWalledIn$State;)V"⟩, 11)]
theorem lw_r5 : ∀ q ∈ lw_privs_5, lw_okq q := List.forall_mem_cons.mpr ⟨lw_p64, List.forall_mem_cons.mpr ⟨lw_p65, List.forall_mem_cons.mpr ⟨lw_p66, List.forall_mem_cons.mpr ⟨lw_p67, List.forall_mem_cons.mpr ⟨lw_p68, List.forall_mem_cons.mpr ⟨lw_p69, List.forall_mem_cons.mpr ⟨lw_p70, List.forall_mem_cons.mpr ⟨lw_p71, List.forall_mem_cons.mpr ⟨lw_p72, List.forall_mem_cons.mpr ⟨lw_p73, List.forall_mem_cons.mpr ⟨lw_p74, List.forall_mem_cons.mpr ⟨lw_p75, List.forall_mem_cons.mpr ⟨lw_p76, List.forall_mem_cons.mpr ⟨lw_p77, List.forall_mem_cons.mpr ⟨lw_p78, List.forall_mem_cons.mpr ⟨lw_p79, fun _ h => absurd h List.not_mem_nil⟩⟩⟩⟩⟩⟩⟩⟩⟩⟩⟩⟩⟩⟩⟩⟩
theorem lw_p80 : lw_okq (⟨"WalledIn$Houses", "rowLength", "(II)I"⟩, 5) := ⟨⟨by decide +kernel, by decide +kernel⟩, List.mem_of_getElem? (i := 75) (by decide +kernel), List.mem_of_getElem? (i := 994) (by decide +kernel), List.mem_of_getElem? (i := 995) (by decide +kernel)⟩
theorem lw_p81 : lw_okq (⟨"WalledIn$Houses", "lendersTo", "(I)I"⟩, 5) := ⟨⟨by decide +kernel, by decide +kernel⟩, List.mem_of_getElem? (i := 75) (by decide +kernel), List.mem_of_getElem? (i := 998) (by decide +kernel), List.mem_of_getElem? (i := 999) (by decide +kernel)⟩
theorem lw_p82 : lw_okq (⟨"WalledIn$Houses", "rowAt", "(III)I"⟩, 5) := ⟨⟨by decide +kernel, by decide +kernel⟩, List.mem_of_getElem? (i := 75) (by decide +kernel), List.mem_of_getElem? (i := 1002) (by decide +kernel), List.mem_of_getElem? (i := 1003) (by decide +kernel)⟩
theorem lw_p83 : lw_okq (⟨"WalledIn$Debts", "fewestReturns", "(LWalledIn$Houses;)I"⟩, 2) := ⟨⟨by decide +kernel, by decide +kernel⟩, List.mem_of_getElem? (i := 370) (by decide +kernel), List.mem_of_getElem? (i := 1014) (by decide +kernel), List.mem_of_getElem? (i := 1015) (by decide +kernel)⟩
theorem lw_p84 : lw_okq (⟨"WalledIn$Debts", "mostWithoutOne", "(II)I"⟩, 2) := ⟨⟨by decide +kernel, by decide +kernel⟩, List.mem_of_getElem? (i := 370) (by decide +kernel), List.mem_of_getElem? (i := 1019) (by decide +kernel), List.mem_of_getElem? (i := 1020) (by decide +kernel)⟩
theorem lw_p85 : lw_okq (⟨"WalledIn$Houses", "lendByDraws", "(II)I"⟩, 5) := ⟨⟨by decide +kernel, by decide +kernel⟩, List.mem_of_getElem? (i := 75) (by decide +kernel), List.mem_of_getElem? (i := 1028) (by decide +kernel), List.mem_of_getElem? (i := 1029) (by decide +kernel)⟩
theorem lw_p86 : lw_okq (⟨"WalledIn$Houses", "nextDraw", "(I)I"⟩, 5) := ⟨⟨by decide +kernel, by decide +kernel⟩, List.mem_of_getElem? (i := 75) (by decide +kernel), List.mem_of_getElem? (i := 1032) (by decide +kernel), List.mem_of_getElem? (i := 1033) (by decide +kernel)⟩
theorem lw_p87 : lw_okq (⟨"WalledIn$Houses", "nearAt", "(II)I"⟩, 5) := ⟨⟨by decide +kernel, by decide +kernel⟩, List.mem_of_getElem? (i := 75) (by decide +kernel), List.mem_of_getElem? (i := 1037) (by decide +kernel), List.mem_of_getElem? (i := 1038) (by decide +kernel)⟩
theorem lw_p88 : lw_okq (⟨"WalledIn$State", "become", "(LWalledIn$State;)V"⟩, 10) := ⟨⟨by decide +kernel, by decide +kernel⟩, List.mem_of_getElem? (i := 32) (by decide +kernel), List.mem_of_getElem? (i := 1047) (by decide +kernel), List.mem_of_getElem? (i := 1048) (by decide +kernel)⟩
theorem lw_p89 : lw_okq (⟨"WalledIn$Stones", "takeAll", "(LWalledIn$Stones;)V"⟩, 6) := ⟨⟨by decide +kernel, by decide +kernel⟩, List.mem_of_getElem? (i := 38) (by decide +kernel), List.mem_of_getElem? (i := 1051) (by decide +kernel), List.mem_of_getElem? (i := 1052) (by decide +kernel)⟩
theorem lw_p90 : lw_okq (⟨"WalledIn$Houses", "takeAll", "(LWalledIn$Houses;)V"⟩, 5) := ⟨⟨by decide +kernel, by decide +kernel⟩, List.mem_of_getElem? (i := 75) (by decide +kernel), List.mem_of_getElem? (i := 1056) (by decide +kernel), List.mem_of_getElem? (i := 1057) (by decide +kernel)⟩
theorem lw_p91 : lw_okq (⟨"WalledIn$Sounds", "takeAll", "(LWalledIn$Sounds;)V"⟩, 3) := ⟨⟨by decide +kernel, by decide +kernel⟩, List.mem_of_getElem? (i := 106) (by decide +kernel), List.mem_of_getElem? (i := 1061) (by decide +kernel), List.mem_of_getElem? (i := 1062) (by decide +kernel)⟩
theorem lw_p92 : lw_okq (⟨"WalledIn$Steps", "takeAll", "(LWalledIn$Steps;)V"⟩, 3) := ⟨⟨by decide +kernel, by decide +kernel⟩, List.mem_of_getElem? (i := 124) (by decide +kernel), List.mem_of_getElem? (i := 1066) (by decide +kernel), List.mem_of_getElem? (i := 1067) (by decide +kernel)⟩
theorem lw_p93 : lw_okq (⟨"WalledIn", "aboutStone", "(I)I"⟩, 10) := ⟨⟨by decide +kernel, by decide +kernel⟩, List.mem_of_getElem? (i := 24) (by decide +kernel), List.mem_of_getElem? (i := 1078) (by decide +kernel), List.mem_of_getElem? (i := 1079) (by decide +kernel)⟩
theorem lw_p94 : lw_okq (⟨"WalledInModel", "all", "()I"⟩, 32) := ⟨⟨by decide +kernel, by decide +kernel⟩, List.mem_of_getElem? (i := 1082) (by decide +kernel), List.mem_of_getElem? (i := 1195) (by decide +kernel), List.mem_of_getElem? (i := 1196) (by decide +kernel)⟩
theorem lw_p95 : lw_okq (⟨"WalledInModel", "isHouse", "(I)Z"⟩, 32) := ⟨⟨by decide +kernel, by decide +kernel⟩, List.mem_of_getElem? (i := 1082) (by decide +kernel), List.mem_of_getElem? (i := 1220) (by decide +kernel), List.mem_of_getElem? (i := 1221) (by decide +kernel)⟩
def lw_privs_6 : List (MethodName × Nat) := [(⟨"WalledIn$Houses", "rowLength", "(II)I"⟩, 5), (⟨"WalledIn$Houses", "lendersTo", "(I)I"⟩, 5), (⟨"WalledIn$Houses", "rowAt", "(III)I"⟩, 5), (⟨"WalledIn$Debts", "fewestReturns", "(LWalledIn$Houses;)I"⟩, 2), (⟨"WalledIn$Debts", "mostWithoutOne", "(II)I"⟩, 2), (⟨"WalledIn$Houses", "lendByDraws", "(II)I"⟩, 5), (⟨"WalledIn$Houses", "nextDraw", "(I)I"⟩, 5), (⟨"WalledIn$Houses", "nearAt", "(II)I"⟩, 5), (⟨"WalledIn$State", "become", "(LWalledIn$State;)V"⟩, 10), (⟨"WalledIn$Stones", "takeAll", "(LWalledIn$Stones;)V"⟩, 6), (⟨"WalledIn$Houses", "takeAll", "(LWalledIn$Houses;)V"⟩, 5), (⟨"WalledIn$Sounds", "takeAll", "(LWalledIn$Sounds;)V"⟩, 3), (⟨"WalledIn$Steps", "takeAll", "(LWalledIn$Steps;)V"⟩, 3), (⟨"WalledIn", "aboutStone", "(I)I"⟩, 10), (⟨"WalledInModel", "all", "()I"⟩, 32), (⟨"WalledInModel", "isHouse", "(I)Z"⟩, 32)]
theorem lw_r6 : ∀ q ∈ lw_privs_6, lw_okq q := List.forall_mem_cons.mpr ⟨lw_p80, List.forall_mem_cons.mpr ⟨lw_p81, List.forall_mem_cons.mpr ⟨lw_p82, List.forall_mem_cons.mpr ⟨lw_p83, List.forall_mem_cons.mpr ⟨lw_p84, List.forall_mem_cons.mpr ⟨lw_p85, List.forall_mem_cons.mpr ⟨lw_p86, List.forall_mem_cons.mpr ⟨lw_p87, List.forall_mem_cons.mpr ⟨lw_p88, List.forall_mem_cons.mpr ⟨lw_p89, List.forall_mem_cons.mpr ⟨lw_p90, List.forall_mem_cons.mpr ⟨lw_p91, List.forall_mem_cons.mpr ⟨lw_p92, List.forall_mem_cons.mpr ⟨lw_p93, List.forall_mem_cons.mpr ⟨lw_p94, List.forall_mem_cons.mpr ⟨lw_p95, fun _ h => absurd h List.not_mem_nil⟩⟩⟩⟩⟩⟩⟩⟩⟩⟩⟩⟩⟩⟩⟩⟩
theorem lw_p96 : lw_okq (⟨"WalledInModel", "touches", "(IIZ)V"⟩, 32) := ⟨⟨by decide +kernel, by decide +kernel⟩, List.mem_of_getElem? (i := 1082) (by decide +kernel), List.mem_of_getElem? (i := 1224) (by decide +kernel), List.mem_of_getElem? (i := 1225) (by decide +kernel)⟩
theorem lw_p97 : lw_okq (⟨"WalledInModel", "four", "(I)V"⟩, 32) := ⟨⟨by decide +kernel, by decide +kernel⟩, List.mem_of_getElem? (i := 1082) (by decide +kernel), List.mem_of_getElem? (i := 1232) (by decide +kernel), List.mem_of_getElem? (i := 1233) (by decide +kernel)⟩
theorem lw_p98 : lw_okq (⟨"WalledInModel", "readText", "()I"⟩, 32) := ⟨⟨by decide +kernel, by decide +kernel⟩, List.mem_of_getElem? (i := 1082) (by decide +kernel), List.mem_of_getElem? (i := 1244) (by decide +kernel), List.mem_of_getElem? (i := 1245) (by decide +kernel)⟩
theorem lw_p99 : lw_okq (⟨"WalledInModel", "nextToken", "()V"⟩, 32) := ⟨⟨by decide +kernel, by decide +kernel⟩, List.mem_of_getElem? (i := 1082) (by decide +kernel), List.mem_of_getElem? (i := 1248) (by decide +kernel), List.mem_of_getElem? (i := 1249) (by decide +kernel)⟩
theorem lw_p100 : lw_okq (⟨"WalledInModel", "byteAt", "(I)I"⟩, 32) := ⟨⟨by decide +kernel, by decide +kernel⟩, List.mem_of_getElem? (i := 1082) (by decide +kernel), List.mem_of_getElem? (i := 1252) (by decide +kernel), List.mem_of_getElem? (i := 1253) (by decide +kernel)⟩
theorem lw_p101 : lw_okq (⟨"WalledInModel", "clause", "()I"⟩, 32) := ⟨⟨by decide +kernel, by decide +kernel⟩, List.mem_of_getElem? (i := 1082) (by decide +kernel), List.mem_of_getElem? (i := 1263) (by decide +kernel), List.mem_of_getElem? (i := 1264) (by decide +kernel)⟩
theorem lw_p102 : lw_okq (⟨"WalledInModel", "sortOf", "()I"⟩, 32) := ⟨⟨by decide +kernel, by decide +kernel⟩, List.mem_of_getElem? (i := 1082) (by decide +kernel), List.mem_of_getElem? (i := 1267) (by decide +kernel), List.mem_of_getElem? (i := 1268) (by decide +kernel)⟩
theorem lw_p103 : lw_okq (⟨"WalledInModel", "isWord", "(J)Z"⟩, 32) := ⟨⟨by decide +kernel, by decide +kernel⟩, List.mem_of_getElem? (i := 1082) (by decide +kernel), List.mem_of_getElem? (i := 1277) (by decide +kernel), List.mem_of_getElem? (i := 1278) (by decide +kernel)⟩
theorem lw_p104 : lw_okq (⟨"WalledInModel", "lent", "(I)I"⟩, 32) := ⟨⟨by decide +kernel, by decide +kernel⟩, List.mem_of_getElem? (i := 1082) (by decide +kernel), List.mem_of_getElem? (i := 1281) (by decide +kernel), List.mem_of_getElem? (i := 1282) (by decide +kernel)⟩
theorem lw_p105 : lw_okq (⟨"WalledInModel", "figure", "(II)I"⟩, 32) := ⟨⟨by decide +kernel, by decide +kernel⟩, List.mem_of_getElem? (i := 1082) (by decide +kernel), List.mem_of_getElem? (i := 1285) (by decide +kernel), List.mem_of_getElem? (i := 1286) (by decide +kernel)⟩
theorem lw_p106 : lw_okq (⟨"WalledInModel", "summed", "()I"⟩, 32) := ⟨⟨by decide +kernel, by decide +kernel⟩, List.mem_of_getElem? (i := 1082) (by decide +kernel), List.mem_of_getElem? (i := 1290) (by decide +kernel), List.mem_of_getElem? (i := 1291) (by decide +kernel)⟩
theorem lw_p107 : lw_okq (⟨"WalledInModel", "goesOn", "()Z"⟩, 32) := ⟨⟨by decide +kernel, by decide +kernel⟩, List.mem_of_getElem? (i := 1082) (by decide +kernel), List.mem_of_getElem? (i := 1294) (by decide +kernel), List.mem_of_getElem? (i := 1295) (by decide +kernel)⟩
theorem lw_p108 : lw_okq (⟨"WalledInModel", "hasParen", "()Z"⟩, 32) := ⟨⟨by decide +kernel, by decide +kernel⟩, List.mem_of_getElem? (i := 1082) (by decide +kernel), List.mem_of_getElem? (i := 1298) (by decide +kernel), List.mem_of_getElem? (i := 1299) (by decide +kernel)⟩
theorem lw_p109 : lw_okq (⟨"WalledInModel", "behindOne", "()I"⟩, 32) := ⟨⟨by decide +kernel, by decide +kernel⟩, List.mem_of_getElem? (i := 1082) (by decide +kernel), List.mem_of_getElem? (i := 1302) (by decide +kernel), List.mem_of_getElem? (i := 1303) (by decide +kernel)⟩
theorem lw_p110 : lw_okq (⟨"WalledInModel", "settle", "(I)V"⟩, 32) := ⟨⟨by decide +kernel, by decide +kernel⟩, List.mem_of_getElem? (i := 1082) (by decide +kernel), List.mem_of_getElem? (i := 1306) (by decide +kernel), List.mem_of_getElem? (i := 1307) (by decide +kernel)⟩
theorem lw_p111 : lw_okq (⟨"WalledInModel", "emit", "(II)V"⟩, 32) := ⟨⟨by decide +kernel, by decide +kernel⟩, List.mem_of_getElem? (i := 1082) (by decide +kernel), List.mem_of_getElem? (i := 1310) (by decide +kernel), List.mem_of_getElem? (i := 1311) (by decide +kernel)⟩
def lw_privs_7 : List (MethodName × Nat) := [(⟨"WalledInModel", "touches", "(IIZ)V"⟩, 32), (⟨"WalledInModel", "four", "(I)V"⟩, 32), (⟨"WalledInModel", "readText", "()I"⟩, 32), (⟨"WalledInModel", "nextToken", "()V"⟩, 32), (⟨"WalledInModel", "byteAt", "(I)I"⟩, 32), (⟨"WalledInModel", "clause", "()I"⟩, 32), (⟨"WalledInModel", "sortOf", "()I"⟩, 32), (⟨"WalledInModel", "isWord", "(J)Z"⟩, 32), (⟨"WalledInModel", "lent", "(I)I"⟩, 32), (⟨"WalledInModel", "figure", "(II)I"⟩, 32), (⟨"WalledInModel", "summed", "()I"⟩, 32), (⟨"WalledInModel", "goesOn", "()Z"⟩, 32), (⟨"WalledInModel", "hasParen", "()Z"⟩, 32), (⟨"WalledInModel", "behindOne", "()I"⟩, 32), (⟨"WalledInModel", "settle", "(I)V"⟩, 32), (⟨"WalledInModel", "emit", "(II)V"⟩, 32)]
theorem lw_r7 : ∀ q ∈ lw_privs_7, lw_okq q := List.forall_mem_cons.mpr ⟨lw_p96, List.forall_mem_cons.mpr ⟨lw_p97, List.forall_mem_cons.mpr ⟨lw_p98, List.forall_mem_cons.mpr ⟨lw_p99, List.forall_mem_cons.mpr ⟨lw_p100, List.forall_mem_cons.mpr ⟨lw_p101, List.forall_mem_cons.mpr ⟨lw_p102, List.forall_mem_cons.mpr ⟨lw_p103, List.forall_mem_cons.mpr ⟨lw_p104, List.forall_mem_cons.mpr ⟨lw_p105, List.forall_mem_cons.mpr ⟨lw_p106, List.forall_mem_cons.mpr ⟨lw_p107, List.forall_mem_cons.mpr ⟨lw_p108, List.forall_mem_cons.mpr ⟨lw_p109, List.forall_mem_cons.mpr ⟨lw_p110, List.forall_mem_cons.mpr ⟨lw_p111, fun _ h => absurd h List.not_mem_nil⟩⟩⟩⟩⟩⟩⟩⟩⟩⟩⟩⟩⟩⟩⟩⟩
theorem lw_p112 : lw_okq (⟨"WalledInModel", "push", "(I)V"⟩, 32) := ⟨⟨by decide +kernel, by decide +kernel⟩, List.mem_of_getElem? (i := 1082) (by decide +kernel), List.mem_of_getElem? (i := 1314) (by decide +kernel), List.mem_of_getElem? (i := 1315) (by decide +kernel)⟩
theorem lw_p113 : lw_okq (⟨"WalledInModel", "whole", "()V"⟩, 32) := ⟨⟨by decide +kernel, by decide +kernel⟩, List.mem_of_getElem? (i := 1082) (by decide +kernel), List.mem_of_getElem? (i := 1318) (by decide +kernel), List.mem_of_getElem? (i := 1319) (by decide +kernel)⟩
theorem lw_p114 : lw_okq (⟨"WalledInModel", "beginOne", "()I"⟩, 32) := ⟨⟨by decide +kernel, by decide +kernel⟩, List.mem_of_getElem? (i := 1082) (by decide +kernel), List.mem_of_getElem? (i := 1322) (by decide +kernel), List.mem_of_getElem? (i := 1323) (by decide +kernel)⟩
theorem lw_p115 : lw_okq (⟨"WalledInModel", "nameOf", "()I"⟩, 32) := ⟨⟨by decide +kernel, by decide +kernel⟩, List.mem_of_getElem? (i := 1082) (by decide +kernel), List.mem_of_getElem? (i := 1326) (by decide +kernel), List.mem_of_getElem? (i := 1327) (by decide +kernel)⟩
theorem lw_p116 : lw_okq (⟨"WalledInModel", "isBarred", "(I)Z"⟩, 32) := ⟨⟨by decide +kernel, by decide +kernel⟩, List.mem_of_getElem? (i := 1082) (by decide +kernel), List.mem_of_getElem? (i := 1336) (by decide +kernel), List.mem_of_getElem? (i := 1337) (by decide +kernel)⟩
theorem lw_p117 : lw_okq (⟨"WalledInModel", "either", "()I"⟩, 32) := ⟨⟨by decide +kernel, by decide +kernel⟩, List.mem_of_getElem? (i := 1082) (by decide +kernel), List.mem_of_getElem? (i := 1340) (by decide +kernel), List.mem_of_getElem? (i := 1341) (by decide +kernel)⟩
theorem lw_p118 : lw_okq (⟨"WalledInModel", "asks", "()I"⟩, 32) := ⟨⟨by decide +kernel, by decide +kernel⟩, List.mem_of_getElem? (i := 1082) (by decide +kernel), List.mem_of_getElem? (i := 1344) (by decide +kernel), List.mem_of_getElem? (i := 1345) (by decide +kernel)⟩
theorem lw_p119 : lw_okq (⟨"WalledInModel", "compareOf", "()I"⟩, 32) := ⟨⟨by decide +kernel, by decide +kernel⟩, List.mem_of_getElem? (i := 1082) (by decide +kernel), List.mem_of_getElem? (i := 1348) (by decide +kernel), List.mem_of_getElem? (i := 1349) (by decide +kernel)⟩
theorem lw_p120 : lw_okq (⟨"WalledInModel", "standing", "(I)Z"⟩, 32) := ⟨⟨by decide +kernel, by decide +kernel⟩, List.mem_of_getElem? (i := 1082) (by decide +kernel), List.mem_of_getElem? (i := 1365) (by decide +kernel), List.mem_of_getElem? (i := 1366) (by decide +kernel)⟩
theorem lw_p121 : lw_okq (⟨"WalledInModel", "isBorne", "(II)Z"⟩, 32) := ⟨⟨by decide +kernel, by decide +kernel⟩, List.mem_of_getElem? (i := 1082) (by decide +kernel), List.mem_of_getElem? (i := 1372) (by decide +kernel), List.mem_of_getElem? (i := 1373) (by decide +kernel)⟩
theorem lw_p122 : lw_okq (⟨"WalledInModel", "isStone", "(I)Z"⟩, 32) := ⟨⟨by decide +kernel, by decide +kernel⟩, List.mem_of_getElem? (i := 1082) (by decide +kernel), List.mem_of_getElem? (i := 1380) (by decide +kernel), List.mem_of_getElem? (i := 1381) (by decide +kernel)⟩
theorem lw_p123 : lw_okq (⟨"WalledInModel", "may", "(II)Z"⟩, 32) := ⟨⟨by decide +kernel, by decide +kernel⟩, List.mem_of_getElem? (i := 1082) (by decide +kernel), List.mem_of_getElem? (i := 1384) (by decide +kernel), List.mem_of_getElem? (i := 1385) (by decide +kernel)⟩
theorem lw_p124 : lw_okq (⟨"WalledInModel", "clauseOf", "(I)I"⟩, 32) := ⟨⟨by decide +kernel, by decide +kernel⟩, List.mem_of_getElem? (i := 1082) (by decide +kernel), List.mem_of_getElem? (i := 1388) (by decide +kernel), List.mem_of_getElem? (i := 1389) (by decide +kernel)⟩
theorem lw_p125 : lw_okq (⟨"WalledInModel", "nameUpon", "(II)V"⟩, 32) := ⟨⟨by decide +kernel, by decide +kernel⟩, List.mem_of_getElem? (i := 1082) (by decide +kernel), List.mem_of_getElem? (i := 1392) (by decide +kernel), List.mem_of_getElem? (i := 1393) (by decide +kernel)⟩
theorem lw_p126 : lw_okq (⟨"WalledInModel", "name", "(I)V"⟩, 32) := ⟨⟨by decide +kernel, by decide +kernel⟩, List.mem_of_getElem? (i := 1082) (by decide +kernel), List.mem_of_getElem? (i := 1396) (by decide +kernel), List.mem_of_getElem? (i := 1397) (by decide +kernel)⟩
theorem lw_p127 : lw_okq (⟨"WalledInModel", "work", "(I)V"⟩, 32) := ⟨⟨by decide +kernel, by decide +kernel⟩, List.mem_of_getElem? (i := 1082) (by decide +kernel), List.mem_of_getElem? (i := 1400) (by decide +kernel), List.mem_of_getElem? (i := 1401) (by decide +kernel)⟩
def lw_privs_8 : List (MethodName × Nat) := [(⟨"WalledInModel", "push", "(I)V"⟩, 32), (⟨"WalledInModel", "whole", "()V"⟩, 32), (⟨"WalledInModel", "beginOne", "()I"⟩, 32), (⟨"WalledInModel", "nameOf", "()I"⟩, 32), (⟨"WalledInModel", "isBarred", "(I)Z"⟩, 32), (⟨"WalledInModel", "either", "()I"⟩, 32), (⟨"WalledInModel", "asks", "()I"⟩, 32), (⟨"WalledInModel", "compareOf", "()I"⟩, 32), (⟨"WalledInModel", "standing", "(I)Z"⟩, 32), (⟨"WalledInModel", "isBorne", "(II)Z"⟩, 32), (⟨"WalledInModel", "isStone", "(I)Z"⟩, 32), (⟨"WalledInModel", "may", "(II)Z"⟩, 32), (⟨"WalledInModel", "clauseOf", "(I)I"⟩, 32), (⟨"WalledInModel", "nameUpon", "(II)V"⟩, 32), (⟨"WalledInModel", "name", "(I)V"⟩, 32), (⟨"WalledInModel", "work", "(I)V"⟩, 32)]
theorem lw_r8 : ∀ q ∈ lw_privs_8, lw_okq q := List.forall_mem_cons.mpr ⟨lw_p112, List.forall_mem_cons.mpr ⟨lw_p113, List.forall_mem_cons.mpr ⟨lw_p114, List.forall_mem_cons.mpr ⟨lw_p115, List.forall_mem_cons.mpr ⟨lw_p116, List.forall_mem_cons.mpr ⟨lw_p117, List.forall_mem_cons.mpr ⟨lw_p118, List.forall_mem_cons.mpr ⟨lw_p119, List.forall_mem_cons.mpr ⟨lw_p120, List.forall_mem_cons.mpr ⟨lw_p121, List.forall_mem_cons.mpr ⟨lw_p122, List.forall_mem_cons.mpr ⟨lw_p123, List.forall_mem_cons.mpr ⟨lw_p124, List.forall_mem_cons.mpr ⟨lw_p125, List.forall_mem_cons.mpr ⟨lw_p126, List.forall_mem_cons.mpr ⟨lw_p127, fun _ h => absurd h List.not_mem_nil⟩⟩⟩⟩⟩⟩⟩⟩⟩⟩⟩⟩⟩⟩⟩⟩
theorem lw_p128 : lw_okq (⟨"WalledInModel", "lift", "(II)I"⟩, 32) := ⟨⟨by decide +kernel, by decide +kernel⟩, List.mem_of_getElem? (i := 1082) (by decide +kernel), List.mem_of_getElem? (i := 1415) (by decide +kernel), List.mem_of_getElem? (i := 1416) (by decide +kernel)⟩
theorem lw_p129 : lw_okq (⟨"WalledInModel", "quarries", "(I)I"⟩, 32) := ⟨⟨by decide +kernel, by decide +kernel⟩, List.mem_of_getElem? (i := 1082) (by decide +kernel), List.mem_of_getElem? (i := 1422) (by decide +kernel), List.mem_of_getElem? (i := 1423) (by decide +kernel)⟩
theorem lw_p130 : lw_okq (⟨"WalledInModel", "keep", "()V"⟩, 32) := ⟨⟨by decide +kernel, by decide +kernel⟩, List.mem_of_getElem? (i := 1082) (by decide +kernel), List.mem_of_getElem? (i := 1434) (by decide +kernel), List.mem_of_getElem? (i := 1435) (by decide +kernel)⟩
theorem lw_p131 : lw_okq (⟨"WalledInModel", "canLend", "(II)Z"⟩, 32) := ⟨⟨by decide +kernel, by decide +kernel⟩, List.mem_of_getElem? (i := 1082) (by decide +kernel), List.mem_of_getElem? (i := 1446) (by decide +kernel), List.mem_of_getElem? (i := 1447) (by decide +kernel)⟩
theorem lw_p132 : lw_okq (⟨"WalledInModel", "lends", "(II)V"⟩, 32) := ⟨⟨by decide +kernel, by decide +kernel⟩, List.mem_of_getElem? (i := 1082) (by decide +kernel), List.mem_of_getElem? (i := 1450) (by decide +kernel), List.mem_of_getElem? (i := 1451) (by decide +kernel)⟩
theorem lw_p133 : lw_okq (⟨"WalledInModel", "isPlayed", "(I)Z"⟩, 32) := ⟨⟨by decide +kernel, by decide +kernel⟩, List.mem_of_getElem? (i := 1082) (by decide +kernel), List.mem_of_getElem? (i := 1458) (by decide +kernel), List.mem_of_getElem? (i := 1459) (by decide +kernel)⟩
theorem lw_p134 : lw_okq (⟨"WalledInModel", "findLeft", "()V"⟩, 32) := ⟨⟨by decide +kernel, by decide +kernel⟩, List.mem_of_getElem? (i := 1082) (by decide +kernel), List.mem_of_getElem? (i := 1469) (by decide +kernel), List.mem_of_getElem? (i := 1470) (by decide +kernel)⟩
theorem lw_p135 : lw_okq (⟨"WalledInModel", "findSought", "()V"⟩, 32) := ⟨⟨by decide +kernel, by decide +kernel⟩, List.mem_of_getElem? (i := 1082) (by decide +kernel), List.mem_of_getElem? (i := 1473) (by decide +kernel), List.mem_of_getElem? (i := 1474) (by decide +kernel)⟩
theorem lw_p136 : lw_okq (⟨"WalledInModel", "count", "(IZ)V"⟩, 32) := ⟨⟨by decide +kernel, by decide +kernel⟩, List.mem_of_getElem? (i := 1082) (by decide +kernel), List.mem_of_getElem? (i := 1482) (by decide +kernel), List.mem_of_getElem? (i := 1483) (by decide +kernel)⟩
theorem lw_p137 : lw_okq (⟨"WalledInModel", "findFar", "(I)V"⟩, 32) := ⟨⟨by decide +kernel, by decide +kernel⟩, List.mem_of_getElem? (i := 1082) (by decide +kernel), List.mem_of_getElem? (i := 1511) (by decide +kernel), List.mem_of_getElem? (i := 1512) (by decide +kernel)⟩
theorem lw_p138 : lw_okq (⟨"WalledInModel", "draw", "(I)I"⟩, 32) := ⟨⟨by decide +kernel, by decide +kernel⟩, List.mem_of_getElem? (i := 1082) (by decide +kernel), List.mem_of_getElem? (i := 1523) (by decide +kernel), List.mem_of_getElem? (i := 1524) (by decide +kernel)⟩
def lw_privs_9 : List (MethodName × Nat) := [(⟨"WalledInModel", "lift", "(II)I"⟩, 32), (⟨"WalledInModel", "quarries", "(I)I"⟩, 32), (⟨"WalledInModel", "keep", "()V"⟩, 32), (⟨"WalledInModel", "canLend", "(II)Z"⟩, 32), (⟨"WalledInModel", "lends", "(II)V"⟩, 32), (⟨"WalledInModel", "isPlayed", "(I)Z"⟩, 32), (⟨"WalledInModel", "findLeft", "()V"⟩, 32), (⟨"WalledInModel", "findSought", "()V"⟩, 32), (⟨"WalledInModel", "count", "(IZ)V"⟩, 32), (⟨"WalledInModel", "findFar", "(I)V"⟩, 32), (⟨"WalledInModel", "draw", "(I)I"⟩, 32)]
theorem lw_r9 : ∀ q ∈ lw_privs_9, lw_okq q := List.forall_mem_cons.mpr ⟨lw_p128, List.forall_mem_cons.mpr ⟨lw_p129, List.forall_mem_cons.mpr ⟨lw_p130, List.forall_mem_cons.mpr ⟨lw_p131, List.forall_mem_cons.mpr ⟨lw_p132, List.forall_mem_cons.mpr ⟨lw_p133, List.forall_mem_cons.mpr ⟨lw_p134, List.forall_mem_cons.mpr ⟨lw_p135, List.forall_mem_cons.mpr ⟨lw_p136, List.forall_mem_cons.mpr ⟨lw_p137, List.forall_mem_cons.mpr ⟨lw_p138, fun _ h => absurd h List.not_mem_nil⟩⟩⟩⟩⟩⟩⟩⟩⟩⟩⟩
def lw_privs : List (MethodName × Nat) := lw_privs_1 ++ (lw_privs_2 ++ (lw_privs_3 ++ (lw_privs_4 ++ (lw_privs_5 ++ (lw_privs_6 ++ (lw_privs_7 ++ (lw_privs_8 ++ (lw_privs_9))))))))
def lw_tbl : List Cond := k2_sels lw_privs ++ tables_1
theorem lw_privs_ok : ∀ q ∈ lw_privs, lw_okq q := by
  show ∀ q ∈ lw_privs_1 ++ (lw_privs_2 ++ (lw_privs_3 ++ (lw_privs_4 ++ (lw_privs_5 ++ (lw_privs_6 ++ (lw_privs_7 ++ (lw_privs_8 ++ (lw_privs_9)))))))), lw_okq q
  exact List.forall_mem_append.mpr ⟨lw_r1, List.forall_mem_append.mpr ⟨lw_r2, List.forall_mem_append.mpr ⟨lw_r3, List.forall_mem_append.mpr ⟨lw_r4, List.forall_mem_append.mpr ⟨lw_r5, List.forall_mem_append.mpr ⟨lw_r6, List.forall_mem_append.mpr ⟨lw_r7, List.forall_mem_append.mpr ⟨lw_r8, lw_r9⟩⟩⟩⟩⟩⟩⟩⟩
end
section
def RX0 : String := "WalledIn$Debts"
def TX0 : u_T := fun k => match k with
  | 0 => ("WalledIn$Debts", "sums", "[I", true)
  | _ => ("WalledIn$Debts", "groups", "[I", true)
def tyX0 : Nat → FieldType := fun k => match k with
  | 0 => .array .int
  | _ => .array .int
abbrev wsX00 : List Cond := u_ws RX0 TX0 2
theorem nmX0 : ∀ a, a < 2 → ∀ b, b < 2 → a ≠ b → (TX0 a).2.1 ≠ (TX0 b).2.1 := by decide +kernel
theorem tyX0_ok : ∀ k, k < 2 → parseFieldDescriptor (TX0 k).2.2.1 = some (tyX0 k) := by decide +kernel
abbrev cX0_init : ByteArray := prog_2_method_1_code
def yX0_init : MethodName := ⟨RX0, "<init>", "()V"⟩
abbrev cX0_fewestReturns : ByteArray := prog_2_method_2_code
def yX0_fewestReturns : MethodName := ⟨RX0, "fewestReturns", "(LWalledIn$Houses;)I"⟩
abbrev cX0_mostWithoutOne : ByteArray := prog_2_method_3_code
def yX0_mostWithoutOne : MethodName := ⟨RX0, "mostWithoutOne", "(II)I"⟩
def RX1 : String := "WalledIn$Houses"
def TX1 : u_T := fun k => match k with
  | 0 => ("WalledIn$Houses", "spare", "[I", true)
  | 1 => ("WalledIn$Houses", "owes", "[I", true)
  | 2 => ("WalledIn$Houses", "near", "[I", true)
  | 3 => ("WalledIn$Houses", "layers", "[I", true)
  | _ => ("WalledIn$Houses", "count", "I", false)
def tyX1 : Nat → FieldType := fun k => match k with
  | 0 => .array .int
  | 1 => .array .int
  | 2 => .array .int
  | 3 => .array .int
  | _ => .int
abbrev wsX10 : List Cond := u_ws RX1 TX1 5
theorem nmX1 : ∀ a, a < 5 → ∀ b, b < 5 → a ≠ b → (TX1 a).2.1 ≠ (TX1 b).2.1 := by decide +kernel
theorem tyX1_ok : ∀ k, k < 5 → parseFieldDescriptor (TX1 k).2.2.1 = some (tyX1 k) := by decide +kernel
abbrev cX1_init : ByteArray := prog_3_method_1_code
def yX1_init : MethodName := ⟨RX1, "<init>", "()V"⟩
abbrev cX1_has : ByteArray := prog_3_method_2_code
def yX1_has : MethodName := ⟨RX1, "has", "(I)Z"⟩
abbrev cX1_setNear : ByteArray := prog_3_method_3_code
def yX1_setNear : MethodName := ⟨RX1, "setNear", "(IIZ)V"⟩
abbrev cX1_canLend : ByteArray := prog_3_method_4_code
def yX1_canLend : MethodName := ⟨RX1, "canLend", "(II)Z"⟩
abbrev cX1_moveOne : ByteArray := prog_3_method_5_code
def yX1_moveOne : MethodName := ⟨RX1, "moveOne", "(II)V"⟩
abbrev cX1_rowLength : ByteArray := prog_3_method_6_code
def yX1_rowLength : MethodName := ⟨RX1, "rowLength", "(II)I"⟩
abbrev cX1_lendersTo : ByteArray := prog_3_method_7_code
def yX1_lendersTo : MethodName := ⟨RX1, "lendersTo", "(I)I"⟩
abbrev cX1_rowAt : ByteArray := prog_3_method_8_code
def yX1_rowAt : MethodName := ⟨RX1, "rowAt", "(III)I"⟩
abbrev cX1_lendByDraws : ByteArray := prog_3_method_9_code
def yX1_lendByDraws : MethodName := ⟨RX1, "lendByDraws", "(II)I"⟩
abbrev cX1_nextDraw : ByteArray := prog_3_method_10_code
def yX1_nextDraw : MethodName := ⟨RX1, "nextDraw", "(I)I"⟩
abbrev cX1_nearAt : ByteArray := prog_3_method_11_code
def yX1_nearAt : MethodName := ⟨RX1, "nearAt", "(II)I"⟩
abbrev cX1_takeAll : ByteArray := prog_3_method_12_code
def yX1_takeAll : MethodName := ⟨RX1, "takeAll", "(LWalledIn$Houses;)V"⟩
def RX2 : String := "WalledIn$Law"
def TX2 : u_T := fun k => match k with
  | 0 => ("WalledIn$Law", "values", "[I", true)
  | _ => ("WalledIn$Law", "pile", "[I", true)
def tyX2 : Nat → FieldType := fun k => match k with
  | 0 => .array .int
  | _ => .array .int
abbrev wsX20 : List Cond := u_ws RX2 TX2 2
theorem nmX2 : ∀ a, a < 2 → ∀ b, b < 2 → a ≠ b → (TX2 a).2.1 ≠ (TX2 b).2.1 := by decide +kernel
theorem tyX2_ok : ∀ k, k < 2 → parseFieldDescriptor (TX2 k).2.2.1 = some (tyX2 k) := by decide +kernel
abbrev cX2_init : ByteArray := prog_4_method_1_code
def yX2_init : MethodName := ⟨RX2, "<init>", "()V"⟩
abbrev cX2_liftOf : ByteArray := prog_4_method_2_code
def yX2_liftOf : MethodName := ⟨RX2, "liftOf", "(LWalledIn$State;III)I"⟩
abbrev cX2_isLet : ByteArray := prog_4_method_3_code
def yX2_isLet : MethodName := ⟨RX2, "isLet", "(LWalledIn$State;III)Z"⟩
abbrev cX2_quarriesOf : ByteArray := prog_4_method_4_code
def yX2_quarriesOf : MethodName := ⟨RX2, "quarriesOf", "(LWalledIn$State;I)I"⟩
abbrev cX2_setStone : ByteArray := prog_4_method_5_code
def yX2_setStone : MethodName := ⟨RX2, "setStone", "(LWalledIn$Stones;I)V"⟩
abbrev cX2_setPlace : ByteArray := prog_4_method_6_code
def yX2_setPlace : MethodName := ⟨RX2, "setPlace", "(III)V"⟩
abbrev cX2_run : ByteArray := prog_4_method_7_code
def yX2_run : MethodName := ⟨RX2, "run", "([I)I"⟩
abbrev cX2_outcome : ByteArray := prog_4_method_8_code
def yX2_outcome : MethodName := ⟨RX2, "outcome", "(IJJ)J"⟩
def RX3 : String := "WalledIn$Plan"
def TX3 : u_T := fun k => match k with
  | 0 => ("WalledIn$Plan", "lifts", "[I", true)
  | 1 => ("WalledIn$Plan", "ofSet", "[I", true)
  | 2 => ("WalledIn$Plan", "order", "[I", true)
  | 3 => ("WalledIn$Plan", "law", "LWalledIn$Law;", true)
  | 4 => ("WalledIn$Plan", "isKnown", "Z", false)
  | 5 => ("WalledIn$Plan", "length", "I", false)
  | 6 => ("WalledIn$Plan", "lift", "I", false)
  | 7 => ("WalledIn$Plan", "ordersOfAll", "J", false)
  | 8 => ("WalledIn$Plan", "heardOrders", "J", false)
  | 9 => ("WalledIn$Plan", "heardInEach", "I", false)
  | _ => ("WalledIn$Plan", "heardInSome", "I", false)
def tyX3 : Nat → FieldType := fun k => match k with
  | 0 => .array .int
  | 1 => .array .int
  | 2 => .array .int
  | 3 => .object "WalledIn$Law"
  | 4 => .boolean
  | 5 => .int
  | 6 => .int
  | 7 => .long
  | 8 => .long
  | 9 => .int
  | _ => .int
abbrev wsX30 : List Cond := u_ws RX3 TX3 11
theorem nmX3 : ∀ a, a < 11 → ∀ b, b < 11 → a ≠ b → (TX3 a).2.1 ≠ (TX3 b).2.1 := by decide +kernel
theorem tyX3_ok : ∀ k, k < 11 → parseFieldDescriptor (TX3 k).2.2.1 = some (tyX3 k) := by decide +kernel
abbrev cX3_init : ByteArray := prog_5_method_1_code
def yX3_init : MethodName := ⟨RX3, "<init>", "()V"⟩
abbrev cX3_forget : ByteArray := prog_5_method_2_code
def yX3_forget : MethodName := ⟨RX3, "forget", "()V"⟩
abbrev cX3_prepare : ByteArray := prog_5_method_3_code
def yX3_prepare : MethodName := ⟨RX3, "prepare", "(LWalledIn$State;)V"⟩
abbrev cX3_countWays : ByteArray := prog_5_method_4_code
def yX3_countWays : MethodName := ⟨RX3, "countWays", "(LWalledIn$State;IZ)V"⟩
abbrev cX3_spread : ByteArray := prog_5_method_5_code
def yX3_spread : MethodName := ⟨RX3, "spread", "(LWalledIn$State;IZ)V"⟩
abbrev cX3_liftUpon : ByteArray := prog_5_method_6_code
def yX3_liftUpon : MethodName := ⟨RX3, "liftUpon", "(LWalledIn$State;III)I"⟩
abbrev cX3_lowestOfMost : ByteArray := prog_5_method_7_code
def yX3_lowestOfMost : MethodName := ⟨RX3, "lowestOfMost", "(I)I"⟩
abbrev cX3_measure : ByteArray := prog_5_method_8_code
def yX3_measure : MethodName := ⟨RX3, "measure", "(LWalledIn$State;I)V"⟩
abbrev cX3_leastAhead : ByteArray := prog_5_method_9_code
def yX3_leastAhead : MethodName := ⟨RX3, "leastAhead", "(LWalledIn$State;II)I"⟩
abbrev cX3_choose : ByteArray := prog_5_method_10_code
def yX3_choose : MethodName := ⟨RX3, "choose", "(LWalledIn$State;I)V"⟩
abbrev cX3_firstOfLeast : ByteArray := prog_5_method_11_code
def yX3_firstOfLeast : MethodName := ⟨RX3, "firstOfLeast", "(LWalledIn$State;II)I"⟩
abbrev cX3_listen : ByteArray := prog_5_method_12_code
def yX3_listen : MethodName := ⟨RX3, "listen", "(LWalledIn$State;)V"⟩
def RX4 : String := "WalledIn$Reader"
def TX4 : u_T := fun k => match k with
  | 0 => ("WalledIn$Reader", "script", "[I", true)
  | 1 => ("WalledIn$Reader", "code", "[I", true)
  | 2 => ("WalledIn$Reader", "waiting", "[I", true)
  | 3 => ("WalledIn$Reader", "lift", "[I", false)
  | 4 => ("WalledIn$Reader", "may", "[I", false)
  | 5 => ("WalledIn$Reader", "fits", "[I", false)
  | 6 => ("WalledIn$Reader", "clauses", "I", false)
  | 7 => ("WalledIn$Reader", "codeLength", "I", false)
  | 8 => ("WalledIn$Reader", "waitingCount", "I", false)
  | 9 => ("WalledIn$Reader", "fault", "I", false)
  | 10 => ("WalledIn$Reader", "place", "I", false)
  | 11 => ("WalledIn$Reader", "clause", "I", false)
  | 12 => ("WalledIn$Reader", "open", "I", false)
  | 13 => ("WalledIn$Reader", "brackets", "I", false)
  | 14 => ("WalledIn$Reader", "wantsOne", "Z", false)
  | 15 => ("WalledIn$Reader", "isAskStart", "Z", false)
  | _ => ("WalledIn$Reader", "isCompared", "Z", false)
def tyX4 : Nat → FieldType := fun k => match k with
  | 0 => .array .int
  | 1 => .array .int
  | 2 => .array .int
  | 3 => .array .int
  | 4 => .array .int
  | 5 => .array .int
  | 6 => .int
  | 7 => .int
  | 8 => .int
  | 9 => .int
  | 10 => .int
  | 11 => .int
  | 12 => .int
  | 13 => .int
  | 14 => .boolean
  | 15 => .boolean
  | _ => .boolean
abbrev wsX40 : List Cond := u_ws RX4 TX4 17
theorem nmX4 : ∀ a, a < 17 → ∀ b, b < 17 → a ≠ b → (TX4 a).2.1 ≠ (TX4 b).2.1 := by decide +kernel
theorem tyX4_ok : ∀ k, k < 17 → parseFieldDescriptor (TX4 k).2.2.1 = some (tyX4 k) := by decide +kernel
abbrev cX4_init : ByteArray := prog_6_method_1_code
def yX4_init : MethodName := ⟨RX4, "<init>", "()V"⟩
abbrev cX4_read : ByteArray := prog_6_method_2_code
def yX4_read : MethodName := ⟨RX4, "read", "(LWalledIn$Tape;)V"⟩
abbrev cX4_newText : ByteArray := prog_6_method_3_code
def yX4_newText : MethodName := ⟨RX4, "newText", "()LWalledIn$Text;"⟩
abbrev cX4_fail : ByteArray := prog_6_method_4_code
def yX4_fail : MethodName := ⟨RX4, "fail", "(LWalledIn$Tape;I)V"⟩
abbrev cX4_readClause : ByteArray := prog_6_method_5_code
def yX4_readClause : MethodName := ⟨RX4, "readClause", "(LWalledIn$Tape;)V"⟩
abbrev cX4_isTold : ByteArray := prog_6_method_6_code
def yX4_isTold : MethodName := ⟨RX4, "isTold", "(I)Z"⟩
abbrev cX4_addClause : ByteArray := prog_6_method_7_code
def yX4_addClause : MethodName := ⟨RX4, "addClause", "(II)V"⟩
abbrev cX4_readDeed : ByteArray := prog_6_method_8_code
def yX4_readDeed : MethodName := ⟨RX4, "readDeed", "(LWalledIn$Tape;)V"⟩
abbrev cX4_readNumber : ByteArray := prog_6_method_9_code
def yX4_readNumber : MethodName := ⟨RX4, "readNumber", "(LWalledIn$Tape;I)I"⟩
abbrev cX4_pass : ByteArray := prog_6_method_10_code
def yX4_pass : MethodName := ⟨RX4, "pass", "(LWalledIn$Tape;I)V"⟩
abbrev cX4_readLaw : ByteArray := prog_6_method_11_code
def yX4_readLaw : MethodName := ⟨RX4, "readLaw", "(LWalledIn$Tape;)V"⟩
abbrev cX4_isAtEnd : ByteArray := prog_6_method_12_code
def yX4_isAtEnd : MethodName := ⟨RX4, "isAtEnd", "(I)Z"⟩
abbrev cX4_keepLaw : ByteArray := prog_6_method_13_code
def yX4_keepLaw : MethodName := ⟨RX4, "keepLaw", "()V"⟩
abbrev cX4_takeOne : ByteArray := prog_6_method_14_code
def yX4_takeOne : MethodName := ⟨RX4, "takeOne", "(LWalledIn$Tape;)I"⟩
abbrev cX4_isOfClause : ByteArray := prog_6_method_15_code
def yX4_isOfClause : MethodName := ⟨RX4, "isOfClause", "(I)Z"⟩
abbrev cX4_openOne : ByteArray := prog_6_method_16_code
def yX4_openOne : MethodName := ⟨RX4, "openOne", "(I)I"⟩
abbrev cX4_takeSign : ByteArray := prog_6_method_17_code
def yX4_takeSign : MethodName := ⟨RX4, "takeSign", "(I)I"⟩
abbrev cX4_isComparison : ByteArray := prog_6_method_18_code
def yX4_isComparison : MethodName := ⟨RX4, "isComparison", "(I)Z"⟩
abbrev cX4_join : ByteArray := prog_6_method_19_code
def yX4_join : MethodName := ⟨RX4, "join", "(I)V"⟩
abbrev cX4_settle : ByteArray := prog_6_method_20_code
def yX4_settle : MethodName := ⟨RX4, "settle", "(I)V"⟩
abbrev cX4_closeness : ByteArray := prog_6_method_21_code
def yX4_closeness : MethodName := ⟨RX4, "closeness", "(I)I"⟩
abbrev cX4_putOff : ByteArray := prog_6_method_22_code
def yX4_putOff : MethodName := ⟨RX4, "putOff", "(I)V"⟩
abbrev cX4_endWait : ByteArray := prog_6_method_23_code
def yX4_endWait : MethodName := ⟨RX4, "endWait", "()V"⟩
abbrev cX4_addCode : ByteArray := prog_6_method_24_code
def yX4_addCode : MethodName := ⟨RX4, "addCode", "(I)V"⟩
def RX5 : String := "WalledIn$Sounds"
def TX5 : u_T := fun k => match k with
  | 0 => ("WalledIn$Sounds", "low", "[I", true)
  | 1 => ("WalledIn$Sounds", "high", "[I", true)
  | _ => ("WalledIn$Sounds", "count", "I", false)
def tyX5 : Nat → FieldType := fun k => match k with
  | 0 => .array .int
  | 1 => .array .int
  | _ => .int
abbrev wsX50 : List Cond := u_ws RX5 TX5 3
theorem nmX5 : ∀ a, a < 3 → ∀ b, b < 3 → a ≠ b → (TX5 a).2.1 ≠ (TX5 b).2.1 := by decide +kernel
theorem tyX5_ok : ∀ k, k < 3 → parseFieldDescriptor (TX5 k).2.2.1 = some (tyX5 k) := by decide +kernel
abbrev cX5_init : ByteArray := prog_7_method_1_code
def yX5_init : MethodName := ⟨RX5, "<init>", "()V"⟩
abbrev cX5_add : ByteArray := prog_7_method_2_code
def yX5_add : MethodName := ⟨RX5, "add", "(II)V"⟩
abbrev cX5_isFit : ByteArray := prog_7_method_3_code
def yX5_isFit : MethodName := ⟨RX5, "isFit", "(II)Z"⟩
abbrev cX5_takeAll : ByteArray := prog_7_method_4_code
def yX5_takeAll : MethodName := ⟨RX5, "takeAll", "(LWalledIn$Sounds;)V"⟩
def RX6 : String := "WalledIn$State"
def TX6 : u_T := fun k => match k with
  | 0 => ("WalledIn$State", "stones", "LWalledIn$Stones;", true)
  | 1 => ("WalledIn$State", "houses", "LWalledIn$Houses;", true)
  | 2 => ("WalledIn$State", "sounds", "LWalledIn$Sounds;", true)
  | 3 => ("WalledIn$State", "steps", "LWalledIn$Steps;", true)
  | 4 => ("WalledIn$State", "noText", "LWalledIn$Text;", true)
  | 5 => ("WalledIn$State", "texts", "[LWalledIn$Text;", true)
  | 6 => ("WalledIn$State", "textCount", "I", false)
  | 7 => ("WalledIn$State", "ruling", "I", false)
  | 8 => ("WalledIn$State", "hour", "I", false)
  | _ => ("WalledIn$State", "laid", "I", false)
def tyX6 : Nat → FieldType := fun k => match k with
  | 0 => .object "WalledIn$Stones"
  | 1 => .object "WalledIn$Houses"
  | 2 => .object "WalledIn$Sounds"
  | 3 => .object "WalledIn$Steps"
  | 4 => .object "WalledIn$Text"
  | 5 => .array (.object "WalledIn$Text")
  | 6 => .int
  | 7 => .int
  | 8 => .int
  | _ => .int
abbrev wsX60 : List Cond := u_ws RX6 TX6 10
theorem nmX6 : ∀ a, a < 10 → ∀ b, b < 10 → a ≠ b → (TX6 a).2.1 ≠ (TX6 b).2.1 := by decide +kernel
theorem tyX6_ok : ∀ k, k < 10 → parseFieldDescriptor (TX6 k).2.2.1 = some (tyX6 k) := by decide +kernel
abbrev cX6_init : ByteArray := prog_8_method_1_code
def yX6_init : MethodName := ⟨RX6, "<init>", "()V"⟩
abbrev cX6_isLaid : ByteArray := prog_8_method_2_code
def yX6_isLaid : MethodName := ⟨RX6, "isLaid", "(I)Z"⟩
abbrev cX6_hasText : ByteArray := prog_8_method_3_code
def yX6_hasText : MethodName := ⟨RX6, "hasText", "(I)Z"⟩
abbrev cX6_rule : ByteArray := prog_8_method_4_code
def yX6_rule : MethodName := ⟨RX6, "rule", "()LWalledIn$Text;"⟩
abbrev cX6_become : ByteArray := prog_8_method_5_code
def yX6_become : MethodName := ⟨RX6, "become", "(LWalledIn$State;)V"⟩
def RX7 : String := "WalledIn$Steps"
def TX7 : u_T := fun k => match k with
  | 0 => ("WalledIn$Steps", "rows", "[I", true)
  | 1 => ("WalledIn$Steps", "first", "I", false)
  | _ => ("WalledIn$Steps", "count", "I", false)
def tyX7 : Nat → FieldType := fun k => match k with
  | 0 => .array .int
  | 1 => .int
  | _ => .int
abbrev wsX70 : List Cond := u_ws RX7 TX7 3
theorem nmX7 : ∀ a, a < 3 → ∀ b, b < 3 → a ≠ b → (TX7 a).2.1 ≠ (TX7 b).2.1 := by decide +kernel
theorem tyX7_ok : ∀ k, k < 3 → parseFieldDescriptor (TX7 k).2.2.1 = some (tyX7 k) := by decide +kernel
abbrev cX7_init : ByteArray := prog_9_method_1_code
def yX7_init : MethodName := ⟨RX7, "<init>", "()V"⟩
abbrev cX7_keep : ByteArray := prog_9_method_2_code
def yX7_keep : MethodName := ⟨RX7, "keep", "(ILWalledIn$Houses;)V"⟩
abbrev cX7_takeLatest : ByteArray := prog_9_method_3_code
def yX7_takeLatest : MethodName := ⟨RX7, "takeLatest", "(LWalledIn$Houses;)I"⟩
abbrev cX7_takeAll : ByteArray := prog_9_method_4_code
def yX7_takeAll : MethodName := ⟨RX7, "takeAll", "(LWalledIn$Steps;)V"⟩
def RX8 : String := "WalledIn$Stones"
def TX8 : u_T := fun k => match k with
  | 0 => ("WalledIn$Stones", "weight", "[I", true)
  | 1 => ("WalledIn$Stones", "height", "[I", true)
  | 2 => ("WalledIn$Stones", "vein", "[I", true)
  | 3 => ("WalledIn$Stones", "bearers", "[I", true)
  | 4 => ("WalledIn$Stones", "need", "[I", true)
  | _ => ("WalledIn$Stones", "count", "I", false)
def tyX8 : Nat → FieldType := fun k => match k with
  | 0 => .array .int
  | 1 => .array .int
  | 2 => .array .int
  | 3 => .array .int
  | 4 => .array .int
  | _ => .int
abbrev wsX80 : List Cond := u_ws RX8 TX8 6
theorem nmX8 : ∀ a, a < 6 → ∀ b, b < 6 → a ≠ b → (TX8 a).2.1 ≠ (TX8 b).2.1 := by decide +kernel
theorem tyX8_ok : ∀ k, k < 6 → parseFieldDescriptor (TX8 k).2.2.1 = some (tyX8 k) := by decide +kernel
abbrev cX8_init : ByteArray := prog_10_method_1_code
def yX8_init : MethodName := ⟨RX8, "<init>", "()V"⟩
abbrev cX8_has : ByteArray := prog_10_method_2_code
def yX8_has : MethodName := ⟨RX8, "has", "(I)Z"⟩
abbrev cX8_all : ByteArray := prog_10_method_3_code
def yX8_all : MethodName := ⟨RX8, "all", "()I"⟩
abbrev cX8_areTold : ByteArray := prog_10_method_4_code
def yX8_areTold : MethodName := ⟨RX8, "areTold", "(I)Z"⟩
abbrev cX8_isBorne : ByteArray := prog_10_method_5_code
def yX8_isBorne : MethodName := ⟨RX8, "isBorne", "(II)Z"⟩
abbrev cX8_isStanding : ByteArray := prog_10_method_6_code
def yX8_isStanding : MethodName := ⟨RX8, "isStanding", "(I)Z"⟩
abbrev cX8_topOf : ByteArray := prog_10_method_7_code
def yX8_topOf : MethodName := ⟨RX8, "topOf", "(I)I"⟩
abbrev cX8_takeAll : ByteArray := prog_10_method_8_code
def yX8_takeAll : MethodName := ⟨RX8, "takeAll", "(LWalledIn$Stones;)V"⟩
def RX9 : String := "WalledIn$Tape"
def TX9 : u_T := fun k => match k with
  | 0 => ("WalledIn$Tape", "bytes", "[B", true)
  | 1 => ("WalledIn$Tape", "kinds", "[I", true)
  | 2 => ("WalledIn$Tape", "starts", "[I", true)
  | 3 => ("WalledIn$Tape", "numbers", "[I", true)
  | 4 => ("WalledIn$Tape", "length", "I", false)
  | 5 => ("WalledIn$Tape", "at", "I", false)
  | 6 => ("WalledIn$Tape", "tokens", "I", false)
  | _ => ("WalledIn$Tape", "current", "I", false)
def tyX9 : Nat → FieldType := fun k => match k with
  | 0 => .array .byte
  | 1 => .array .int
  | 2 => .array .int
  | 3 => .array .int
  | 4 => .int
  | 5 => .int
  | 6 => .int
  | _ => .int
abbrev wsX90 : List Cond := u_ws RX9 TX9 8
theorem nmX9 : ∀ a, a < 8 → ∀ b, b < 8 → a ≠ b → (TX9 a).2.1 ≠ (TX9 b).2.1 := by decide +kernel
theorem tyX9_ok : ∀ k, k < 8 → parseFieldDescriptor (TX9 k).2.2.1 = some (tyX9 k) := by decide +kernel
abbrev cX9_init : ByteArray := prog_11_method_1_code
def yX9_init : MethodName := ⟨RX9, "<init>", "()V"⟩
abbrev cX9_addFour : ByteArray := prog_11_method_2_code
def yX9_addFour : MethodName := ⟨RX9, "addFour", "(I)V"⟩
abbrev cX9_kind : ByteArray := prog_11_method_3_code
def yX9_kind : MethodName := ⟨RX9, "kind", "()I"⟩
abbrev cX9_start : ByteArray := prog_11_method_4_code
def yX9_start : MethodName := ⟨RX9, "start", "()I"⟩
abbrev cX9_number : ByteArray := prog_11_method_5_code
def yX9_number : MethodName := ⟨RX9, "number", "()I"⟩
abbrev cX9_advance : ByteArray := prog_11_method_6_code
def yX9_advance : MethodName := ⟨RX9, "advance", "()V"⟩
abbrev cX9_split : ByteArray := prog_11_method_7_code
def yX9_split : MethodName := ⟨RX9, "split", "()V"⟩
abbrev cX9_skipBlanks : ByteArray := prog_11_method_8_code
def yX9_skipBlanks : MethodName := ⟨RX9, "skipBlanks", "()V"⟩
abbrev cX9_byteAt : ByteArray := prog_11_method_9_code
def yX9_byteAt : MethodName := ⟨RX9, "byteAt", "(I)I"⟩
abbrev cX9_isLetter : ByteArray := prog_11_method_10_code
def yX9_isLetter : MethodName := ⟨RX9, "isLetter", "(I)Z"⟩
abbrev cX9_isDigit : ByteArray := prog_11_method_11_code
def yX9_isDigit : MethodName := ⟨RX9, "isDigit", "(I)Z"⟩
abbrev cX9_takeToken : ByteArray := prog_11_method_12_code
def yX9_takeToken : MethodName := ⟨RX9, "takeToken", "(I)I"⟩
abbrev cX9_takeWord : ByteArray := prog_11_method_13_code
def yX9_takeWord : MethodName := ⟨RX9, "takeWord", "()I"⟩
abbrev cX9_wordFrom : ByteArray := prog_11_method_14_code
def yX9_wordFrom : MethodName := ⟨RX9, "wordFrom", "(II)I"⟩
abbrev cX9_takeDigits : ByteArray := prog_11_method_15_code
def yX9_takeDigits : MethodName := ⟨RX9, "takeDigits", "()I"⟩
abbrev cX9_takeMark : ByteArray := prog_11_method_16_code
def yX9_takeMark : MethodName := ⟨RX9, "takeMark", "(I)I"⟩
def RX10 : String := "WalledIn$Text"
def TX10 : u_T := fun k => match k with
  | 0 => ("WalledIn$Text", "lift", "[I", true)
  | 1 => ("WalledIn$Text", "may", "[I", true)
  | 2 => ("WalledIn$Text", "fits", "[I", true)
  | 3 => ("WalledIn$Text", "script", "[I", true)
  | _ => ("WalledIn$Text", "clauses", "I", true)
def tyX10 : Nat → FieldType := fun k => match k with
  | 0 => .array .int
  | 1 => .array .int
  | 2 => .array .int
  | 3 => .array .int
  | _ => .int
abbrev wsX100 : List Cond := u_ws RX10 TX10 5
theorem nmX10 : ∀ a, a < 5 → ∀ b, b < 5 → a ≠ b → (TX10 a).2.1 ≠ (TX10 b).2.1 := by decide +kernel
theorem tyX10_ok : ∀ k, k < 5 → parseFieldDescriptor (TX10 k).2.2.1 = some (tyX10 k) := by decide +kernel
abbrev cX10_init : ByteArray := prog_12_method_1_code
def yX10_init : MethodName := ⟨RX10, "<init>", "([I[I[I[I)V"⟩
abbrev cX10_deedOf : ByteArray := prog_12_method_2_code
def yX10_deedOf : MethodName := ⟨RX10, "deedOf", "(I)I"⟩
abbrev cX10_firstOf : ByteArray := prog_12_method_3_code
def yX10_firstOf : MethodName := ⟨RX10, "firstOf", "(I)I"⟩
abbrev cX10_secondOf : ByteArray := prog_12_method_4_code
def yX10_secondOf : MethodName := ⟨RX10, "secondOf", "(I)I"⟩
abbrev cX10_partOf : ByteArray := prog_12_method_5_code
def yX10_partOf : MethodName := ⟨RX10, "partOf", "(II)I"⟩
def RX11 : String := "WalledIn"
def TX11 : u_T := fun k => match k with
  | 0 => ("WalledIn", "now", "LWalledIn$State;", true)
  | 1 => ("WalledIn", "kept", "LWalledIn$State;", true)
  | 2 => ("WalledIn", "tape", "LWalledIn$Tape;", true)
  | 3 => ("WalledIn", "reader", "LWalledIn$Reader;", true)
  | 4 => ("WalledIn", "law", "LWalledIn$Law;", true)
  | 5 => ("WalledIn", "plan", "LWalledIn$Plan;", true)
  | 6 => ("WalledIn", "debts", "LWalledIn$Debts;", true)
  | 7 => ("WalledIn", "anyRead", "Z", false)
  | 8 => ("WalledIn", "latestFault", "I", false)
  | _ => ("WalledIn", "latestPlace", "I", false)
def tyX11 : Nat → FieldType := fun k => match k with
  | 0 => .object "WalledIn$State"
  | 1 => .object "WalledIn$State"
  | 2 => .object "WalledIn$Tape"
  | 3 => .object "WalledIn$Reader"
  | 4 => .object "WalledIn$Law"
  | 5 => .object "WalledIn$Plan"
  | 6 => .object "WalledIn$Debts"
  | 7 => .boolean
  | 8 => .int
  | _ => .int
abbrev wsX110 : List Cond := u_ws RX11 TX11 10
theorem nmX11 : ∀ a, a < 10 → ∀ b, b < 10 → a ≠ b → (TX11 a).2.1 ≠ (TX11 b).2.1 := by decide +kernel
theorem tyX11_ok : ∀ k, k < 10 → parseFieldDescriptor (TX11 k).2.2.1 = some (tyX11 k) := by decide +kernel
abbrev cX11_init : ByteArray := prog_1_method_1_code
def yX11_init : MethodName := ⟨RX11, "<init>", "()V"⟩
abbrev cX11_stone : ByteArray := prog_1_method_2_code
def yX11_stone : MethodName := ⟨RX11, "stone", "(IIIII)I"⟩
abbrev cX11_hour : ByteArray := prog_1_method_3_code
def yX11_hour : MethodName := ⟨RX11, "hour", "(I)Z"⟩
abbrev cX11_house : ByteArray := prog_1_method_4_code
def yX11_house : MethodName := ⟨RX11, "house", "(I)I"⟩
abbrev cX11_touch : ByteArray := prog_1_method_5_code
def yX11_touch : MethodName := ⟨RX11, "touch", "(IIZ)Z"⟩
abbrev cX11_feed : ByteArray := prog_1_method_6_code
def yX11_feed : MethodName := ⟨RX11, "feed", "(IIIII)I"⟩
abbrev cX11_end : ByteArray := prog_1_method_7_code
def yX11_end : MethodName := ⟨RX11, "end", "(I)I"⟩
abbrev cX11_text : ByteArray := prog_1_method_8_code
def yX11_text : MethodName := ⟨RX11, "text", "()I"⟩
abbrev cX11_fault : ByteArray := prog_1_method_9_code
def yX11_fault : MethodName := ⟨RX11, "fault", "(I)I"⟩
abbrev cX11_by : ByteArray := prog_1_method_10_code
def yX11_by : MethodName := ⟨RX11, "by", "(I)Z"⟩
abbrev cX11_of : ByteArray := prog_1_method_11_code
def yX11_of : MethodName := ⟨RX11, "of", "(II)I"⟩
abbrev cX11_stands : ByteArray := prog_1_method_12_code
def yX11_stands : MethodName := ⟨RX11, "stands", "(I)Z"⟩
abbrev cX11_lay : ByteArray := prog_1_method_13_code
def yX11_lay : MethodName := ⟨RX11, "lay", "(I)I"⟩
abbrev cX11_out : ByteArray := prog_1_method_14_code
def yX11_out : MethodName := ⟨RX11, "out", "(I)I"⟩
abbrev cX11_lend : ByteArray := prog_1_method_15_code
def yX11_lend : MethodName := ⟨RX11, "lend", "(II)I"⟩
abbrev cX11_played : ByteArray := prog_1_method_16_code
def yX11_played : MethodName := ⟨RX11, "played", "(I)I"⟩
abbrev cX11_undo : ByteArray := prog_1_method_17_code
def yX11_undo : MethodName := ⟨RX11, "undo", "()I"⟩
abbrev cX11_least : ByteArray := prog_1_method_18_code
def yX11_least : MethodName := ⟨RX11, "least", "(I)I"⟩
abbrev cX11_orders : ByteArray := prog_1_method_19_code
def yX11_orders : MethodName := ⟨RX11, "orders", "()J"⟩
abbrev cX11_sound : ByteArray := prog_1_method_20_code
def yX11_sound : MethodName := ⟨RX11, "sound", "(II)I"⟩
abbrev cX11_hush : ByteArray := prog_1_method_21_code
def yX11_hush : MethodName := ⟨RX11, "hush", "()I"⟩
abbrev cX11_heard : ByteArray := prog_1_method_22_code
def yX11_heard : MethodName := ⟨RX11, "heard", "(I)J"⟩
abbrev cX11_with : ByteArray := prog_1_method_23_code
def yX11_with : MethodName := ⟨RX11, "with", "(I)I"⟩
abbrev cX11_houseOf : ByteArray := prog_1_method_24_code
def yX11_houseOf : MethodName := ⟨RX11, "houseOf", "(II)I"⟩
abbrev cX11_row : ByteArray := prog_1_method_25_code
def yX11_row : MethodName := ⟨RX11, "row", "(III)I"⟩
abbrev cX11_winter : ByteArray := prog_1_method_26_code
def yX11_winter : MethodName := ⟨RX11, "winter", "()I"⟩
abbrev cX11_town : ByteArray := prog_1_method_27_code
def yX11_town : MethodName := ⟨RX11, "town", "(II)I"⟩
abbrev cX11_image : ByteArray := prog_1_method_28_code
def yX11_image : MethodName := ⟨RX11, "image", "()I"⟩
abbrev cX11_back : ByteArray := prog_1_method_29_code
def yX11_back : MethodName := ⟨RX11, "back", "()I"⟩
abbrev cX11_about : ByteArray := prog_1_method_30_code
def yX11_about : MethodName := ⟨RX11, "about", "(I)I"⟩
abbrev cX11_aboutStone : ByteArray := prog_1_method_31_code
def yX11_aboutStone : MethodName := ⟨RX11, "aboutStone", "(I)I"⟩
abbrev cX11_canBeLaid : ByteArray := prog_1_method_32_code
def yX11_canBeLaid : MethodName := ⟨RX11, "canBeLaid", "(I)Z"⟩
abbrev cX11_liftUponLaid : ByteArray := prog_1_method_33_code
def yX11_liftUponLaid : MethodName := ⟨RX11, "liftUponLaid", "(I)I"⟩
abbrev cX11_isPlayed : ByteArray := prog_1_method_34_code
def yX11_isPlayed : MethodName := ⟨RX11, "isPlayed", "(LWalledIn$Text;I)Z"⟩
def RX12 : String := "WalledInModel"
def TX12 : u_T := fun k => match k with
  | 0 => ("WalledInModel", "a", "[I", true)
  | 1 => ("WalledInModel", "image", "[I", true)
  | 2 => ("WalledInModel", "texts", "[I", true)
  | 3 => ("WalledInModel", "tape", "[I", true)
  | 4 => ("WalledInModel", "taped", "I", false)
  | 5 => ("WalledInModel", "fault", "I", false)
  | 6 => ("WalledInModel", "faultPlace", "I", false)
  | 7 => ("WalledInModel", "at", "I", false)
  | 8 => ("WalledInModel", "place", "I", false)
  | 9 => ("WalledInModel", "token", "I", false)
  | 10 => ("WalledInModel", "number", "I", false)
  | 11 => ("WalledInModel", "word", "J", false)
  | 12 => ("WalledInModel", "text0", "I", false)
  | 13 => ("WalledInModel", "clauses", "I", false)
  | 14 => ("WalledInModel", "written", "I", false)
  | 15 => ("WalledInModel", "came", "I", false)
  | 16 => ("WalledInModel", "pile", "[I", true)
  | 17 => ("WalledInModel", "piled", "I", false)
  | 18 => ("WalledInModel", "opens", "I", false)
  | 19 => ("WalledInModel", "isWhole", "Z", false)
  | 20 => ("WalledInModel", "sort0", "I", false)
  | 21 => ("WalledInModel", "once", "I", false)
  | 22 => ("WalledInModel", "named", "[I", true)
  | 23 => ("WalledInModel", "values", "[J", true)
  | 24 => ("WalledInModel", "truth", "[Z", true)
  | 25 => ("WalledInModel", "comes", "[Z", true)
  | 26 => ("WalledInModel", "left", "[I", true)
  | 27 => ("WalledInModel", "sought", "I", false)
  | 28 => ("WalledInModel", "ways", "[J", true)
  | 29 => ("WalledInModel", "far", "[I", true)
  | 30 => ("WalledInModel", "parts", "[I", true)
  | _ => ("WalledInModel", "drawn", "I", false)
def tyX12 : Nat → FieldType := fun k => match k with
  | 0 => .array .int
  | 1 => .array .int
  | 2 => .array .int
  | 3 => .array .int
  | 4 => .int
  | 5 => .int
  | 6 => .int
  | 7 => .int
  | 8 => .int
  | 9 => .int
  | 10 => .int
  | 11 => .long
  | 12 => .int
  | 13 => .int
  | 14 => .int
  | 15 => .int
  | 16 => .array .int
  | 17 => .int
  | 18 => .int
  | 19 => .boolean
  | 20 => .int
  | 21 => .int
  | 22 => .array .int
  | 23 => .array .long
  | 24 => .array .boolean
  | 25 => .array .boolean
  | 26 => .array .int
  | 27 => .int
  | 28 => .array .long
  | 29 => .array .int
  | 30 => .array .int
  | _ => .int
abbrev wsX120 : List Cond := u_ws RX12 TX12 32
theorem nmX12 : ∀ a, a < 32 → ∀ b, b < 32 → a ≠ b → (TX12 a).2.1 ≠ (TX12 b).2.1 := by decide +kernel
theorem tyX12_ok : ∀ k, k < 32 → parseFieldDescriptor (TX12 k).2.2.1 = some (tyX12 k) := by decide +kernel
abbrev cX12_init : ByteArray := prog_14_method_1_code
def yX12_init : MethodName := ⟨RX12, "<init>", "()V"⟩
abbrev cX12_copy : ByteArray := prog_14_method_2_code
def yX12_copy : MethodName := ⟨RX12, "copy", "([I[I)V"⟩
abbrev cX12_isIn : ByteArray := prog_14_method_3_code
def yX12_isIn : MethodName := ⟨RX12, "isIn", "(III)Z"⟩
abbrev cX12_held : ByteArray := prog_14_method_4_code
def yX12_held : MethodName := ⟨RX12, "held", "(JII)I"⟩
abbrev cX12_bits : ByteArray := prog_14_method_5_code
def yX12_bits : MethodName := ⟨RX12, "bits", "(I)I"⟩
abbrev cX12_has : ByteArray := prog_14_method_6_code
def yX12_has : MethodName := ⟨RX12, "has", "(II)Z"⟩
abbrev cX12_isStone : ByteArray := prog_14_method_7_code
def yX12_isStone : MethodName := ⟨RX12, "isStone", "(I)Z"⟩
abbrev cX12_isHouse : ByteArray := prog_14_method_8_code
def yX12_isHouse : MethodName := ⟨RX12, "isHouse", "(I)Z"⟩
abbrev cX12_all : ByteArray := prog_14_method_9_code
def yX12_all : MethodName := ⟨RX12, "all", "()I"⟩
abbrev cX12_stoneAt : ByteArray := prog_14_method_10_code
def yX12_stoneAt : MethodName := ⟨RX12, "stoneAt", "(I)I"⟩
abbrev cX12_houseAt : ByteArray := prog_14_method_11_code
def yX12_houseAt : MethodName := ⟨RX12, "houseAt", "(I)I"⟩
abbrev cX12_stone : ByteArray := prog_14_method_12_code
def yX12_stone : MethodName := ⟨RX12, "stone", "(IIIII)I"⟩
abbrev cX12_hour : ByteArray := prog_14_method_13_code
def yX12_hour : MethodName := ⟨RX12, "hour", "(I)Z"⟩
abbrev cX12_house : ByteArray := prog_14_method_14_code
def yX12_house : MethodName := ⟨RX12, "house", "(I)I"⟩
abbrev cX12_touches : ByteArray := prog_14_method_15_code
def yX12_touches : MethodName := ⟨RX12, "touches", "(IIZ)V"⟩
abbrev cX12_touch : ByteArray := prog_14_method_16_code
def yX12_touch : MethodName := ⟨RX12, "touch", "(IIZ)Z"⟩
abbrev cX12_four : ByteArray := prog_14_method_17_code
def yX12_four : MethodName := ⟨RX12, "four", "(I)V"⟩
abbrev cX12_feed : ByteArray := prog_14_method_18_code
def yX12_feed : MethodName := ⟨RX12, "feed", "(IIIII)I"⟩
abbrev cX12_end : ByteArray := prog_14_method_19_code
def yX12_end : MethodName := ⟨RX12, "end", "(I)I"⟩
abbrev cX12_byteAt : ByteArray := prog_14_method_20_code
def yX12_byteAt : MethodName := ⟨RX12, "byteAt", "(I)I"⟩
abbrev cX12_isLetter : ByteArray := prog_14_method_21_code
def yX12_isLetter : MethodName := ⟨RX12, "isLetter", "(I)Z"⟩
abbrev cX12_isDigit : ByteArray := prog_14_method_22_code
def yX12_isDigit : MethodName := ⟨RX12, "isDigit", "(I)Z"⟩
abbrev cX12_nextToken : ByteArray := prog_14_method_23_code
def yX12_nextToken : MethodName := ⟨RX12, "nextToken", "()V"⟩
abbrev cX12_w3 : ByteArray := prog_14_method_24_code
def yX12_w3 : MethodName := ⟨RX12, "w3", "(III)J"⟩
abbrev cX12_w5 : ByteArray := prog_14_method_25_code
def yX12_w5 : MethodName := ⟨RX12, "w5", "(IIIII)J"⟩
abbrev cX12_w4 : ByteArray := prog_14_method_26_code
def yX12_w4 : MethodName := ⟨RX12, "w4", "(IIII)J"⟩
abbrev cX12_w6 : ByteArray := prog_14_method_27_code
def yX12_w6 : MethodName := ⟨RX12, "w6", "(IIIIII)J"⟩
abbrev cX12_isWord : ByteArray := prog_14_method_28_code
def yX12_isWord : MethodName := ⟨RX12, "isWord", "(J)Z"⟩
abbrev cX12_emit : ByteArray := prog_14_method_29_code
def yX12_emit : MethodName := ⟨RX12, "emit", "(II)V"⟩
abbrev cX12_push : ByteArray := prog_14_method_30_code
def yX12_push : MethodName := ⟨RX12, "push", "(I)V"⟩
abbrev cX12_whole : ByteArray := prog_14_method_31_code
def yX12_whole : MethodName := ⟨RX12, "whole", "()V"⟩
abbrev cX12_settle : ByteArray := prog_14_method_32_code
def yX12_settle : MethodName := ⟨RX12, "settle", "(I)V"⟩
abbrev cX12_nameOf : ByteArray := prog_14_method_33_code
def yX12_nameOf : MethodName := ⟨RX12, "nameOf", "()I"⟩
abbrev cX12_isBarred : ByteArray := prog_14_method_34_code
def yX12_isBarred : MethodName := ⟨RX12, "isBarred", "(I)Z"⟩
abbrev cX12_beginOne : ByteArray := prog_14_method_35_code
def yX12_beginOne : MethodName := ⟨RX12, "beginOne", "()I"⟩
abbrev cX12_hasParen : ByteArray := prog_14_method_36_code
def yX12_hasParen : MethodName := ⟨RX12, "hasParen", "()Z"⟩
abbrev cX12_goesOn : ByteArray := prog_14_method_37_code
def yX12_goesOn : MethodName := ⟨RX12, "goesOn", "()Z"⟩
abbrev cX12_behindOne : ByteArray := prog_14_method_38_code
def yX12_behindOne : MethodName := ⟨RX12, "behindOne", "()I"⟩
abbrev cX12_summed : ByteArray := prog_14_method_39_code
def yX12_summed : MethodName := ⟨RX12, "summed", "()I"⟩
abbrev cX12_compareOf : ByteArray := prog_14_method_40_code
def yX12_compareOf : MethodName := ⟨RX12, "compareOf", "()I"⟩
abbrev cX12_asks : ByteArray := prog_14_method_41_code
def yX12_asks : MethodName := ⟨RX12, "asks", "()I"⟩
abbrev cX12_either : ByteArray := prog_14_method_42_code
def yX12_either : MethodName := ⟨RX12, "either", "()I"⟩
abbrev cX12_sortOf : ByteArray := prog_14_method_43_code
def yX12_sortOf : MethodName := ⟨RX12, "sortOf", "()I"⟩
abbrev cX12_figure : ByteArray := prog_14_method_44_code
def yX12_figure : MethodName := ⟨RX12, "figure", "(II)I"⟩
abbrev cX12_lent : ByteArray := prog_14_method_45_code
def yX12_lent : MethodName := ⟨RX12, "lent", "(I)I"⟩
abbrev cX12_clause : ByteArray := prog_14_method_46_code
def yX12_clause : MethodName := ⟨RX12, "clause", "()I"⟩
abbrev cX12_readText : ByteArray := prog_14_method_47_code
def yX12_readText : MethodName := ⟨RX12, "readText", "()I"⟩
abbrev cX12_text : ByteArray := prog_14_method_48_code
def yX12_text : MethodName := ⟨RX12, "text", "()I"⟩
abbrev cX12_fault : ByteArray := prog_14_method_49_code
def yX12_fault : MethodName := ⟨RX12, "fault", "(I)I"⟩
abbrev cX12_by : ByteArray := prog_14_method_50_code
def yX12_by : MethodName := ⟨RX12, "by", "(I)Z"⟩
abbrev cX12_clip : ByteArray := prog_14_method_51_code
def yX12_clip : MethodName := ⟨RX12, "clip", "(J)J"⟩
abbrev cX12_two : ByteArray := prog_14_method_52_code
def yX12_two : MethodName := ⟨RX12, "two", "(IJJ)J"⟩
abbrev cX12_isAsked : ByteArray := prog_14_method_53_code
def yX12_isAsked : MethodName := ⟨RX12, "isAsked", "(IJJ)Z"⟩
abbrev cX12_work : ByteArray := prog_14_method_54_code
def yX12_work : MethodName := ⟨RX12, "work", "(I)V"⟩
abbrev cX12_clauseOf : ByteArray := prog_14_method_55_code
def yX12_clauseOf : MethodName := ⟨RX12, "clauseOf", "(I)I"⟩
abbrev cX12_name : ByteArray := prog_14_method_56_code
def yX12_name : MethodName := ⟨RX12, "name", "(I)V"⟩
abbrev cX12_nameUpon : ByteArray := prog_14_method_57_code
def yX12_nameUpon : MethodName := ⟨RX12, "nameUpon", "(II)V"⟩
abbrev cX12_isBorne : ByteArray := prog_14_method_58_code
def yX12_isBorne : MethodName := ⟨RX12, "isBorne", "(II)Z"⟩
abbrev cX12_standing : ByteArray := prog_14_method_59_code
def yX12_standing : MethodName := ⟨RX12, "standing", "(I)Z"⟩
abbrev cX12_stands : ByteArray := prog_14_method_60_code
def yX12_stands : MethodName := ⟨RX12, "stands", "(I)Z"⟩
abbrev cX12_may : ByteArray := prog_14_method_61_code
def yX12_may : MethodName := ⟨RX12, "may", "(II)Z"⟩
abbrev cX12_lift : ByteArray := prog_14_method_62_code
def yX12_lift : MethodName := ⟨RX12, "lift", "(II)I"⟩
abbrev cX12_quarries : ByteArray := prog_14_method_63_code
def yX12_quarries : MethodName := ⟨RX12, "quarries", "(I)I"⟩
abbrev cX12_of : ByteArray := prog_14_method_64_code
def yX12_of : MethodName := ⟨RX12, "of", "(II)I"⟩
abbrev cX12_keep : ByteArray := prog_14_method_65_code
def yX12_keep : MethodName := ⟨RX12, "keep", "()V"⟩
abbrev cX12_undo : ByteArray := prog_14_method_66_code
def yX12_undo : MethodName := ⟨RX12, "undo", "()I"⟩
abbrev cX12_lay : ByteArray := prog_14_method_67_code
def yX12_lay : MethodName := ⟨RX12, "lay", "(I)I"⟩
abbrev cX12_out : ByteArray := prog_14_method_68_code
def yX12_out : MethodName := ⟨RX12, "out", "(I)I"⟩
abbrev cX12_canLend : ByteArray := prog_14_method_69_code
def yX12_canLend : MethodName := ⟨RX12, "canLend", "(II)Z"⟩
abbrev cX12_lends : ByteArray := prog_14_method_70_code
def yX12_lends : MethodName := ⟨RX12, "lends", "(II)V"⟩
abbrev cX12_lend : ByteArray := prog_14_method_71_code
def yX12_lend : MethodName := ⟨RX12, "lend", "(II)I"⟩
abbrev cX12_isPlayed : ByteArray := prog_14_method_72_code
def yX12_isPlayed : MethodName := ⟨RX12, "isPlayed", "(I)Z"⟩
abbrev cX12_played : ByteArray := prog_14_method_73_code
def yX12_played : MethodName := ⟨RX12, "played", "(I)I"⟩
abbrev cX12_findSought : ByteArray := prog_14_method_74_code
def yX12_findSought : MethodName := ⟨RX12, "findSought", "()V"⟩
abbrev cX12_findLeft : ByteArray := prog_14_method_75_code
def yX12_findLeft : MethodName := ⟨RX12, "findLeft", "()V"⟩
abbrev cX12_least : ByteArray := prog_14_method_76_code
def yX12_least : MethodName := ⟨RX12, "least", "(I)I"⟩
abbrev cX12_count : ByteArray := prog_14_method_77_code
def yX12_count : MethodName := ⟨RX12, "count", "(IZ)V"⟩
abbrev cX12_orders : ByteArray := prog_14_method_78_code
def yX12_orders : MethodName := ⟨RX12, "orders", "()J"⟩
abbrev cX12_sound : ByteArray := prog_14_method_79_code
def yX12_sound : MethodName := ⟨RX12, "sound", "(II)I"⟩
abbrev cX12_hush : ByteArray := prog_14_method_80_code
def yX12_hush : MethodName := ⟨RX12, "hush", "()I"⟩
abbrev cX12_heard : ByteArray := prog_14_method_81_code
def yX12_heard : MethodName := ⟨RX12, "heard", "(I)J"⟩
abbrev cX12_with : ByteArray := prog_14_method_82_code
def yX12_with : MethodName := ⟨RX12, "with", "(I)I"⟩
abbrev cX12_houseOf : ByteArray := prog_14_method_83_code
def yX12_houseOf : MethodName := ⟨RX12, "houseOf", "(II)I"⟩
abbrev cX12_findFar : ByteArray := prog_14_method_84_code
def yX12_findFar : MethodName := ⟨RX12, "findFar", "(I)V"⟩
abbrev cX12_row : ByteArray := prog_14_method_85_code
def yX12_row : MethodName := ⟨RX12, "row", "(III)I"⟩
abbrev cX12_winter : ByteArray := prog_14_method_86_code
def yX12_winter : MethodName := ⟨RX12, "winter", "()I"⟩
abbrev cX12_draw : ByteArray := prog_14_method_87_code
def yX12_draw : MethodName := ⟨RX12, "draw", "(I)I"⟩
abbrev cX12_town : ByteArray := prog_14_method_88_code
def yX12_town : MethodName := ⟨RX12, "town", "(II)I"⟩
abbrev cX12_image : ByteArray := prog_14_method_89_code
def yX12_image : MethodName := ⟨RX12, "image", "()I"⟩
abbrev cX12_back : ByteArray := prog_14_method_90_code
def yX12_back : MethodName := ⟨RX12, "back", "()I"⟩
abbrev cX12_about : ByteArray := prog_14_method_91_code
def yX12_about : MethodName := ⟨RX12, "about", "(I)I"⟩
def RJx145de : String := "java/io/Serializable"
def TJx145de : u_T := fun k => match k with
  | _ => ("", "", "", false)
def tyJx145de : Nat → FieldType := fun k => match k with
  | _ => .int
theorem nmJx145de : ∀ a, a < 0 → ∀ b, b < 0 → a ≠ b → (TJx145de a).2.1 ≠ (TJx145de b).2.1 := by decide +kernel
def RJx9f9b0 : String := "java/lang/CharSequence"
def TJx9f9b0 : u_T := fun k => match k with
  | _ => ("", "", "", false)
def tyJx9f9b0 : Nat → FieldType := fun k => match k with
  | _ => .int
theorem nmJx9f9b0 : ∀ a, a < 0 → ∀ b, b < 0 → a ≠ b → (TJx9f9b0 a).2.1 ≠ (TJx9f9b0 b).2.1 := by decide +kernel
def RJ11 : String := "java/lang/Character"
def TJ11 : u_T := fun k => match k with
  | _ => ("", "", "", false)
def tyJ11 : Nat → FieldType := fun k => match k with
  | _ => .int
abbrev wsJ110 : List Cond := u_ws RJ11 TJ11 0
theorem nmJ11 : ∀ a, a < 0 → ∀ b, b < 0 → a ≠ b → (TJ11 a).2.1 ≠ (TJ11 b).2.1 := by decide +kernel
theorem tyJ11_ok : ∀ k, k < 0 → parseFieldDescriptor (TJ11 k).2.2.1 = some (tyJ11 k) := by decide +kernel
abbrev cJ11_isValidCodePoint_9a6ad : ByteArray := prog_15_method_11_code
def yJ11_isValidCodePoint_9a6ad : MethodName := ⟨RJ11, "isValidCodePoint", "(I)Z"⟩
abbrev cJ11_highSurrogate_5068e : ByteArray := prog_15_method_28_code
def yJ11_highSurrogate_5068e : MethodName := ⟨RJ11, "highSurrogate", "(I)C"⟩
abbrev cJ11_lowSurrogate_5068e : ByteArray := prog_15_method_29_code
def yJ11_lowSurrogate_5068e : MethodName := ⟨RJ11, "lowSurrogate", "(I)C"⟩
def RJx8e188 : String := "java/lang/Cloneable"
def TJx8e188 : u_T := fun k => match k with
  | _ => ("", "", "", false)
def tyJx8e188 : Nat → FieldType := fun k => match k with
  | _ => .int
theorem nmJx8e188 : ∀ a, a < 0 → ∀ b, b < 0 → a ≠ b → (TJx8e188 a).2.1 ≠ (TJx8e188 b).2.1 := by decide +kernel
def RJxb160c : String := "java/lang/Comparable"
def TJxb160c : u_T := fun k => match k with
  | _ => ("", "", "", false)
def tyJxb160c : Nat → FieldType := fun k => match k with
  | _ => .int
theorem nmJxb160c : ∀ a, a < 0 → ∀ b, b < 0 → a ≠ b → (TJxb160c a).2.1 ≠ (TJxb160c b).2.1 := by decide +kernel
def RJ6 : String := "java/lang/Integer"
def TJ6 : u_T := fun k => match k with
  | _ => ("", "", "", false)
def tyJ6 : Nat → FieldType := fun k => match k with
  | _ => .int
abbrev wsJ60 : List Cond := u_ws RJ6 TJ6 0
theorem nmJ6 : ∀ a, a < 0 → ∀ b, b < 0 → a ≠ b → (TJ6 a).2.1 ≠ (TJ6 b).2.1 := by decide +kernel
theorem tyJ6_ok : ∀ k, k < 0 → parseFieldDescriptor (TJ6 k).2.2.1 = some (tyJ6 k) := by decide +kernel
abbrev cJ6_numberOfTrailingZeros_0f7a4 : ByteArray := prog_17_method_48_code
def yJ6_numberOfTrailingZeros_0f7a4 : MethodName := ⟨RJ6, "numberOfTrailingZeros", "(I)I"⟩
abbrev cJ6_bitCount_0f7a4 : ByteArray := prog_17_method_49_code
def yJ6_bitCount_0f7a4 : MethodName := ⟨RJ6, "bitCount", "(I)I"⟩
def RJ9 : String := "java/lang/Math"
def TJ9 : u_T := fun k => match k with
  | _ => ("", "", "", false)
def tyJ9 : Nat → FieldType := fun k => match k with
  | _ => .int
abbrev wsJ90 : List Cond := u_ws RJ9 TJ9 0
theorem nmJ9 : ∀ a, a < 0 → ∀ b, b < 0 → a ≠ b → (TJ9 a).2.1 ≠ (TJ9 b).2.1 := by decide +kernel
theorem tyJ9_ok : ∀ k, k < 0 → parseFieldDescriptor (TJ9 k).2.2.1 = some (tyJ9 k) := by decide +kernel
abbrev cJ9_max_7cf53 : ByteArray := prog_18_method_65_code
def yJ9_max_7cf53 : MethodName := ⟨RJ9, "max", "(II)I"⟩
abbrev cJ9_max_f86c9 : ByteArray := prog_18_method_66_code
def yJ9_max_f86c9 : MethodName := ⟨RJ9, "max", "(JJ)J"⟩
abbrev cJ9_min_7cf53 : ByteArray := prog_18_method_69_code
def yJ9_min_7cf53 : MethodName := ⟨RJ9, "min", "(II)I"⟩
abbrev cJ9_min_f86c9 : ByteArray := prog_18_method_70_code
def yJ9_min_f86c9 : MethodName := ⟨RJ9, "min", "(JJ)J"⟩
def RJ0 : String := "java/lang/String"
def TJ0 : u_T := fun k => match k with
  | _ => ("", "", "", false)
def tyJ0 : Nat → FieldType := fun k => match k with
  | _ => .int
abbrev wsJ00 : List Cond := u_ws RJ0 TJ0 0
theorem nmJ0 : ∀ a, a < 0 → ∀ b, b < 0 → a ≠ b → (TJ0 a).2.1 ≠ (TJ0 b).2.1 := by decide +kernel
theorem tyJ0_ok : ∀ k, k < 0 → parseFieldDescriptor (TJ0 k).2.2.1 = some (tyJ0 k) := by decide +kernel
abbrev cJ0_length_8abf5 : ByteArray := prog_19_method_54_code
def yJ0_length_8abf5 : MethodName := ⟨RJ0, "length", "()I"⟩
abbrev cJ0_charAt_5068e : ByteArray := prog_19_method_56_code
def yJ0_charAt_5068e : MethodName := ⟨RJ0, "charAt", "(I)C"⟩
abbrev cJ0_indexOf_0f7a4 : ByteArray := prog_19_method_79_code
def yJ0_indexOf_0f7a4 : MethodName := ⟨RJ0, "indexOf", "(I)I"⟩
abbrev cJ0_indexOf_7cf53 : ByteArray := prog_19_method_80_code
def yJ0_indexOf_7cf53 : MethodName := ⟨RJ0, "indexOf", "(II)I"⟩
abbrev cJ0_coder_7d493 : ByteArray := prog_19_method_152_code
def yJ0_coder_7d493 : MethodName := ⟨RJ0, "coder", "()B"⟩
abbrev cJ0_isLatin1_aae02 : ByteArray := prog_19_method_154_code
def yJ0_isLatin1_aae02 : MethodName := ⟨RJ0, "isLatin1", "()Z"⟩
abbrev cJ0_checkIndex_df160 : ByteArray := prog_19_method_155_code
def yJ0_checkIndex_df160 : MethodName := ⟨RJ0, "checkIndex", "(II)V"⟩
abbrev cJ0_checkBoundsBeginEnd_23922 : ByteArray := prog_19_method_158_code
def yJ0_checkBoundsBeginEnd_23922 : MethodName := ⟨RJ0, "checkBoundsBeginEnd", "(III)V"⟩
def RJ1 : String := "java/lang/StringLatin1"
def TJ1 : u_T := fun k => match k with
  | _ => ("", "", "", false)
def tyJ1 : Nat → FieldType := fun k => match k with
  | _ => .int
abbrev wsJ10 : List Cond := u_ws RJ1 TJ1 0
theorem nmJ1 : ∀ a, a < 0 → ∀ b, b < 0 → a ≠ b → (TJ1 a).2.1 ≠ (TJ1 b).2.1 := by decide +kernel
theorem tyJ1_ok : ∀ k, k < 0 → parseFieldDescriptor (TJ1 k).2.2.1 = some (tyJ1 k) := by decide +kernel
abbrev cJ1_charAt_3b067 : ByteArray := prog_20_method_2_code
def yJ1_charAt_3b067 : MethodName := ⟨RJ1, "charAt", "([BI)C"⟩
abbrev cJ1_canEncode_9a6ad : ByteArray := prog_20_method_4_code
def yJ1_canEncode_9a6ad : MethodName := ⟨RJ1, "canEncode", "(I)Z"⟩
abbrev cJ1_indexOf_4cfef : ByteArray := prog_20_method_22_code
def yJ1_indexOf_4cfef : MethodName := ⟨RJ1, "indexOf", "([BIII)I"⟩
abbrev cJ1_indexOfChar_4cfef : ByteArray := prog_20_method_23_code
def yJ1_indexOfChar_4cfef : MethodName := ⟨RJ1, "indexOfChar", "([BIII)I"⟩
def RJ2 : String := "java/lang/StringUTF16"
def TJ2 : u_T := fun k => match k with
  | _ => ("", "", "", false)
def tyJ2 : Nat → FieldType := fun k => match k with
  | _ => .int
abbrev wsJ20 : List Cond := u_ws RJ2 TJ2 0
theorem nmJ2 : ∀ a, a < 0 → ∀ b, b < 0 → a ≠ b → (TJ2 a).2.1 ≠ (TJ2 b).2.1 := by decide +kernel
theorem tyJ2_ok : ∀ k, k < 0 → parseFieldDescriptor (TJ2 k).2.2.1 = some (tyJ2 k) := by decide +kernel
abbrev cJ2_getChar_3b067 : ByteArray := prog_21_method_5_code
def yJ2_getChar_3b067 : MethodName := ⟨RJ2, "getChar", "([BI)C"⟩
abbrev cJ2_length_9d52b : ByteArray := prog_21_method_6_code
def yJ2_length_9d52b : MethodName := ⟨RJ2, "length", "([B)I"⟩
abbrev cJ2_indexOf_4cfef : ByteArray := prog_21_method_40_code
def yJ2_indexOf_4cfef : MethodName := ⟨RJ2, "indexOf", "([BIII)I"⟩
abbrev cJ2_indexOfChar_4cfef : ByteArray := prog_21_method_47_code
def yJ2_indexOfChar_4cfef : MethodName := ⟨RJ2, "indexOfChar", "([BIII)I"⟩
abbrev cJ2_indexOfCharUnsafe_4cfef : ByteArray := prog_21_method_48_code
def yJ2_indexOfCharUnsafe_4cfef : MethodName := ⟨RJ2, "indexOfCharUnsafe", "([BIII)I"⟩
abbrev cJ2_indexOfSupplementary_4cfef : ByteArray := prog_21_method_49_code
def yJ2_indexOfSupplementary_4cfef : MethodName := ⟨RJ2, "indexOfSupplementary", "([BIII)I"⟩
abbrev cJ2_charAt_3b067 : ByteArray := prog_21_method_83_code
def yJ2_charAt_3b067 : MethodName := ⟨RJ2, "charAt", "([BI)C"⟩
abbrev cJ2_checkIndex_2214a : ByteArray := prog_21_method_91_code
def yJ2_checkIndex_2214a : MethodName := ⟨RJ2, "checkIndex", "(I[B)V"⟩
abbrev cJ2_checkBoundsBeginEnd_d044e : ByteArray := prog_21_method_93_code
def yJ2_checkBoundsBeginEnd_d044e : MethodName := ⟨RJ2, "checkBoundsBeginEnd", "(II[B)V"⟩
def RJ10 : String := "java/lang/System"
def TJ10 : u_T := fun k => match k with
  | _ => ("", "", "", false)
def tyJ10 : Nat → FieldType := fun k => match k with
  | _ => .int
abbrev wsJ100 : List Cond := u_ws RJ10 TJ10 0
theorem nmJ10 : ∀ a, a < 0 → ∀ b, b < 0 → a ≠ b → (TJ10 a).2.1 ≠ (TJ10 b).2.1 := by decide +kernel
theorem tyJ10_ok : ∀ k, k < 0 → parseFieldDescriptor (TJ10 k).2.2.1 = some (tyJ10 k) := by decide +kernel
def RJxfd54e : String := "java/lang/constant/Constable"
def TJxfd54e : u_T := fun k => match k with
  | _ => ("", "", "", false)
def tyJxfd54e : Nat → FieldType := fun k => match k with
  | _ => .int
theorem nmJxfd54e : ∀ a, a < 0 → ∀ b, b < 0 → a ≠ b → (TJxfd54e a).2.1 ≠ (TJxfd54e b).2.1 := by decide +kernel
def RJx3cf43 : String := "java/lang/constant/ConstantDesc"
def TJx3cf43 : u_T := fun k => match k with
  | _ => ("", "", "", false)
def tyJx3cf43 : Nat → FieldType := fun k => match k with
  | _ => .int
theorem nmJx3cf43 : ∀ a, a < 0 → ∀ b, b < 0 → a ≠ b → (TJx3cf43 a).2.1 ≠ (TJx3cf43 b).2.1 := by decide +kernel
def RJ7 : String := "java/util/Arrays"
def TJ7 : u_T := fun k => match k with
  | _ => ("", "", "", false)
def tyJ7 : Nat → FieldType := fun k => match k with
  | _ => .int
abbrev wsJ70 : List Cond := u_ws RJ7 TJ7 0
theorem nmJ7 : ∀ a, a < 0 → ∀ b, b < 0 → a ≠ b → (TJ7 a).2.1 ≠ (TJ7 b).2.1 := by decide +kernel
theorem tyJ7_ok : ∀ k, k < 0 → parseFieldDescriptor (TJ7 k).2.2.1 = some (tyJ7 k) := by decide +kernel
abbrev cJ7_fill_53178 : ByteArray := prog_23_method_103_code
def yJ7_fill_53178 : MethodName := ⟨RJ7, "fill", "([II)V"⟩
abbrev cJ7_copyOf_59c91 : ByteArray := prog_23_method_123_code
def yJ7_copyOf_59c91 : MethodName := ⟨RJ7, "copyOf", "([II)[I"⟩
def RJ3 : String := "jdk/internal/util/Preconditions"
def TJ3 : u_T := fun k => match k with
  | _ => ("", "", "", false)
def tyJ3 : Nat → FieldType := fun k => match k with
  | _ => .int
abbrev wsJ30 : List Cond := u_ws RJ3 TJ3 0
theorem nmJ3 : ∀ a, a < 0 → ∀ b, b < 0 → a ≠ b → (TJ3 a).2.1 ≠ (TJ3 b).2.1 := by decide +kernel
theorem tyJ3_ok : ∀ k, k < 0 → parseFieldDescriptor (TJ3 k).2.2.1 = some (tyJ3 k) := by decide +kernel
abbrev cJ3_checkIndex_8e157 : ByteArray := prog_24_method_11_code
def yJ3_checkIndex_8e157 : MethodName := ⟨RJ3, "checkIndex", "(IILjava/util/function/BiFunction;)I"⟩
abbrev cJ3_checkFromToIndex_8c36e : ByteArray := prog_24_method_12_code
def yJ3_checkFromToIndex_8c36e : MethodName := ⟨RJ3, "checkFromToIndex", "(IIILjava/util/function/BiFunction;)I"⟩
def RL : String := "WalledInLaw"
abbrev cL_law : ByteArray := code
def yL_law : MethodName := ⟨RL, "law", "([I)Z"⟩
abbrev vwCl : List vw_C := [(RX0, TX0, 2), (RX1, TX1, 5), (RX2, TX2, 2), (RX3, TX3, 11), (RX4, TX4, 17), (RX5, TX5, 3), (RX6, TX6, 10), (RX7, TX7, 3), (RX8, TX8, 6), (RX9, TX9, 8), (RX10, TX10, 5), (RX11, TX11, 10), (RX12, TX12, 32)]
end
section
theorem dX0_init_0 : decode cX0_init 0 = .ok (.aload_n 0, 1) := by decide +kernel
theorem dX0_init_1 : decode cX0_init 1 = .ok (.invokespecial 3, 3) := by decide +kernel
theorem dX0_init_4 : decode cX0_init 4 = .ok (.aload_n 0, 1) := by decide +kernel
theorem dX0_init_5 : decode cX0_init 5 = .ok (.sipush 1024, 3) := by decide +kernel
theorem dX0_init_8 : decode cX0_init 8 = .ok (.newarray .int, 2) := by decide +kernel
theorem dX0_init_10 : decode cX0_init 10 = .ok (.putfield 9, 3) := by decide +kernel
theorem dX0_init_13 : decode cX0_init 13 = .ok (.aload_n 0, 1) := by decide +kernel
theorem dX0_init_14 : decode cX0_init 14 = .ok (.sipush 1024, 3) := by decide +kernel
theorem dX0_init_17 : decode cX0_init 17 = .ok (.newarray .int, 2) := by decide +kernel
theorem dX0_init_19 : decode cX0_init 19 = .ok (.putfield 15, 3) := by decide +kernel
theorem dX0_init_22 : decode cX0_init 22 = .ok (.return_, 1) := by decide +kernel
theorem dX0_fewestReturns_0 : decode cX0_fewestReturns 0 = .ok (.iconst 1, 1) := by decide +kernel
theorem dX0_fewestReturns_1 : decode cX0_fewestReturns 1 = .ok (.aload_n 1, 1) := by decide +kernel
theorem dX0_fewestReturns_2 : decode cX0_fewestReturns 2 = .ok (.getfield 18, 3) := by decide +kernel
theorem dX0_fewestReturns_5 : decode cX0_fewestReturns 5 = .ok (.ishl, 1) := by decide +kernel
theorem dX0_fewestReturns_6 : decode cX0_fewestReturns 6 = .ok (.iconst 1, 1) := by decide +kernel
theorem dX0_fewestReturns_7 : decode cX0_fewestReturns 7 = .ok (.isub, 1) := by decide +kernel
theorem dX0_fewestReturns_8 : decode cX0_fewestReturns 8 = .ok (.istore_n 2, 1) := by decide +kernel
theorem dX0_fewestReturns_9 : decode cX0_fewestReturns 9 = .ok (.aload_n 0, 1) := by decide +kernel
theorem dX0_fewestReturns_10 : decode cX0_fewestReturns 10 = .ok (.getfield 9, 3) := by decide +kernel
theorem dX0_fewestReturns_13 : decode cX0_fewestReturns 13 = .ok (.iconst 0, 1) := by decide +kernel
theorem dX0_fewestReturns_14 : decode cX0_fewestReturns 14 = .ok (.iconst 0, 1) := by decide +kernel
theorem dX0_fewestReturns_15 : decode cX0_fewestReturns 15 = .ok (.iastore, 1) := by decide +kernel
theorem dX0_fewestReturns_16 : decode cX0_fewestReturns 16 = .ok (.aload_n 0, 1) := by decide +kernel
theorem dX0_fewestReturns_17 : decode cX0_fewestReturns 17 = .ok (.getfield 15, 3) := by decide +kernel
theorem dX0_fewestReturns_20 : decode cX0_fewestReturns 20 = .ok (.iconst 0, 1) := by decide +kernel
theorem dX0_fewestReturns_21 : decode cX0_fewestReturns 21 = .ok (.iconst 0, 1) := by decide +kernel
theorem dX0_fewestReturns_22 : decode cX0_fewestReturns 22 = .ok (.iastore, 1) := by decide +kernel
theorem dX0_fewestReturns_23 : decode cX0_fewestReturns 23 = .ok (.iconst 1, 1) := by decide +kernel
theorem dX0_fewestReturns_24 : decode cX0_fewestReturns 24 = .ok (.istore_n 3, 1) := by decide +kernel
theorem dX0_fewestReturns_25 : decode cX0_fewestReturns 25 = .ok (.iload_n 3, 1) := by decide +kernel
theorem dX0_fewestReturns_26 : decode cX0_fewestReturns 26 = .ok (.iload_n 2, 1) := by decide +kernel
theorem dX0_fewestReturns_27 : decode cX0_fewestReturns 27 = .ok (.if_icmp .gt 69, 3) := by decide +kernel
theorem dX0_fewestReturns_30 : decode cX0_fewestReturns 30 = .ok (.iload_n 3, 1) := by decide +kernel
theorem dX0_fewestReturns_31 : decode cX0_fewestReturns 31 = .ok (.invokestatic 24, 3) := by decide +kernel
theorem dX0_fewestReturns_34 : decode cX0_fewestReturns 34 = .ok (.istore 4, 2) := by decide +kernel
theorem dX0_fewestReturns_36 : decode cX0_fewestReturns 36 = .ok (.aload_n 0, 1) := by decide +kernel
theorem dX0_fewestReturns_37 : decode cX0_fewestReturns 37 = .ok (.getfield 9, 3) := by decide +kernel
theorem dX0_fewestReturns_40 : decode cX0_fewestReturns 40 = .ok (.iload_n 3, 1) := by decide +kernel
theorem dX0_fewestReturns_41 : decode cX0_fewestReturns 41 = .ok (.aload_n 0, 1) := by decide +kernel
theorem dX0_fewestReturns_42 : decode cX0_fewestReturns 42 = .ok (.getfield 9, 3) := by decide +kernel
theorem dX0_fewestReturns_45 : decode cX0_fewestReturns 45 = .ok (.iload_n 3, 1) := by decide +kernel
theorem dX0_fewestReturns_46 : decode cX0_fewestReturns 46 = .ok (.iload_n 3, 1) := by decide +kernel
theorem dX0_fewestReturns_47 : decode cX0_fewestReturns 47 = .ok (.iconst 1, 1) := by decide +kernel
theorem dX0_fewestReturns_48 : decode cX0_fewestReturns 48 = .ok (.isub, 1) := by decide +kernel
theorem dX0_fewestReturns_49 : decode cX0_fewestReturns 49 = .ok (.iand, 1) := by decide +kernel
theorem dX0_fewestReturns_50 : decode cX0_fewestReturns 50 = .ok (.iaload, 1) := by decide +kernel
theorem dX0_fewestReturns_51 : decode cX0_fewestReturns 51 = .ok (.aload_n 1, 1) := by decide +kernel
theorem dX0_fewestReturns_52 : decode cX0_fewestReturns 52 = .ok (.getfield 30, 3) := by decide +kernel
theorem dX0_fewestReturns_55 : decode cX0_fewestReturns 55 = .ok (.iload 4, 2) := by decide +kernel
theorem dX0_fewestReturns_57 : decode cX0_fewestReturns 57 = .ok (.iaload, 1) := by decide +kernel
theorem dX0_fewestReturns_58 : decode cX0_fewestReturns 58 = .ok (.iadd, 1) := by decide +kernel
theorem dX0_fewestReturns_59 : decode cX0_fewestReturns 59 = .ok (.iastore, 1) := by decide +kernel
theorem dX0_fewestReturns_60 : decode cX0_fewestReturns 60 = .ok (.aload_n 0, 1) := by decide +kernel
theorem dX0_fewestReturns_61 : decode cX0_fewestReturns 61 = .ok (.getfield 15, 3) := by decide +kernel
theorem dX0_fewestReturns_64 : decode cX0_fewestReturns 64 = .ok (.iload_n 3, 1) := by decide +kernel
theorem dX0_fewestReturns_65 : decode cX0_fewestReturns 65 = .ok (.aload_n 0, 1) := by decide +kernel
theorem dX0_fewestReturns_66 : decode cX0_fewestReturns 66 = .ok (.iload_n 3, 1) := by decide +kernel
theorem dX0_fewestReturns_67 : decode cX0_fewestReturns 67 = .ok (.aload_n 1, 1) := by decide +kernel
theorem dX0_fewestReturns_68 : decode cX0_fewestReturns 68 = .ok (.getfield 18, 3) := by decide +kernel
theorem dX0_fewestReturns_71 : decode cX0_fewestReturns 71 = .ok (.invokevirtual 33, 3) := by decide +kernel
theorem dX0_fewestReturns_74 : decode cX0_fewestReturns 74 = .ok (.aload_n 0, 1) := by decide +kernel
theorem dX0_fewestReturns_75 : decode cX0_fewestReturns 75 = .ok (.getfield 9, 3) := by decide +kernel
theorem dX0_fewestReturns_78 : decode cX0_fewestReturns 78 = .ok (.iload_n 3, 1) := by decide +kernel
theorem dX0_fewestReturns_79 : decode cX0_fewestReturns 79 = .ok (.iaload, 1) := by decide +kernel
theorem dX0_fewestReturns_80 : decode cX0_fewestReturns 80 = .ok (.ifCond .ne 7, 3) := by decide +kernel
theorem dX0_fewestReturns_83 : decode cX0_fewestReturns 83 = .ok (.iconst 1, 1) := by decide +kernel
theorem dX0_fewestReturns_84 : decode cX0_fewestReturns 84 = .ok (.goto 4, 3) := by decide +kernel
theorem dX0_fewestReturns_87 : decode cX0_fewestReturns 87 = .ok (.iconst 0, 1) := by decide +kernel
theorem dX0_fewestReturns_88 : decode cX0_fewestReturns 88 = .ok (.iadd, 1) := by decide +kernel
theorem dX0_fewestReturns_89 : decode cX0_fewestReturns 89 = .ok (.iastore, 1) := by decide +kernel
theorem dX0_fewestReturns_90 : decode cX0_fewestReturns 90 = .ok (.iinc 3 1, 3) := by decide +kernel
theorem dX0_fewestReturns_93 : decode cX0_fewestReturns 93 = .ok (.goto (-68), 3) := by decide +kernel
theorem dX0_fewestReturns_96 : decode cX0_fewestReturns 96 = .ok (.aload_n 1, 1) := by decide +kernel
theorem dX0_fewestReturns_97 : decode cX0_fewestReturns 97 = .ok (.getfield 18, 3) := by decide +kernel
theorem dX0_fewestReturns_100 : decode cX0_fewestReturns 100 = .ok (.aload_n 0, 1) := by decide +kernel
theorem dX0_fewestReturns_101 : decode cX0_fewestReturns 101 = .ok (.getfield 15, 3) := by decide +kernel
theorem dX0_fewestReturns_104 : decode cX0_fewestReturns 104 = .ok (.iload_n 2, 1) := by decide +kernel
theorem dX0_fewestReturns_105 : decode cX0_fewestReturns 105 = .ok (.iaload, 1) := by decide +kernel
theorem dX0_fewestReturns_106 : decode cX0_fewestReturns 106 = .ok (.isub, 1) := by decide +kernel
theorem dX0_fewestReturns_107 : decode cX0_fewestReturns 107 = .ok (.ireturn, 1) := by decide +kernel
theorem dX0_mostWithoutOne_0 : decode cX0_mostWithoutOne 0 = .ok (.iconst 0, 1) := by decide +kernel
theorem dX0_mostWithoutOne_1 : decode cX0_mostWithoutOne 1 = .ok (.istore_n 3, 1) := by decide +kernel
theorem dX0_mostWithoutOne_2 : decode cX0_mostWithoutOne 2 = .ok (.iconst 0, 1) := by decide +kernel
theorem dX0_mostWithoutOne_3 : decode cX0_mostWithoutOne 3 = .ok (.istore 4, 2) := by decide +kernel
theorem dX0_mostWithoutOne_5 : decode cX0_mostWithoutOne 5 = .ok (.iload 4, 2) := by decide +kernel
theorem dX0_mostWithoutOne_7 : decode cX0_mostWithoutOne 7 = .ok (.iload_n 2, 1) := by decide +kernel
theorem dX0_mostWithoutOne_8 : decode cX0_mostWithoutOne 8 = .ok (.if_icmp .ge 37, 3) := by decide +kernel
theorem dX0_mostWithoutOne_11 : decode cX0_mostWithoutOne 11 = .ok (.iload_n 1, 1) := by decide +kernel
theorem dX0_mostWithoutOne_12 : decode cX0_mostWithoutOne 12 = .ok (.iload 4, 2) := by decide +kernel
theorem dX0_mostWithoutOne_14 : decode cX0_mostWithoutOne 14 = .ok (.ishr, 1) := by decide +kernel
theorem dX0_mostWithoutOne_15 : decode cX0_mostWithoutOne 15 = .ok (.iconst 1, 1) := by decide +kernel
theorem dX0_mostWithoutOne_16 : decode cX0_mostWithoutOne 16 = .ok (.iand, 1) := by decide +kernel
theorem dX0_mostWithoutOne_17 : decode cX0_mostWithoutOne 17 = .ok (.iconst 1, 1) := by decide +kernel
theorem dX0_mostWithoutOne_18 : decode cX0_mostWithoutOne 18 = .ok (.if_icmp .ne 21, 3) := by decide +kernel
theorem dX0_mostWithoutOne_21 : decode cX0_mostWithoutOne 21 = .ok (.iload_n 3, 1) := by decide +kernel
theorem dX0_mostWithoutOne_22 : decode cX0_mostWithoutOne 22 = .ok (.aload_n 0, 1) := by decide +kernel
theorem dX0_mostWithoutOne_23 : decode cX0_mostWithoutOne 23 = .ok (.getfield 15, 3) := by decide +kernel
theorem dX0_mostWithoutOne_26 : decode cX0_mostWithoutOne 26 = .ok (.iload_n 1, 1) := by decide +kernel
theorem dX0_mostWithoutOne_27 : decode cX0_mostWithoutOne 27 = .ok (.iconst 1, 1) := by decide +kernel
theorem dX0_mostWithoutOne_28 : decode cX0_mostWithoutOne 28 = .ok (.iload 4, 2) := by decide +kernel
theorem dX0_mostWithoutOne_30 : decode cX0_mostWithoutOne 30 = .ok (.ishl, 1) := by decide +kernel
theorem dX0_mostWithoutOne_31 : decode cX0_mostWithoutOne 31 = .ok (.iconst (-1), 1) := by decide +kernel
theorem dX0_mostWithoutOne_32 : decode cX0_mostWithoutOne 32 = .ok (.ixor, 1) := by decide +kernel
theorem dX0_mostWithoutOne_33 : decode cX0_mostWithoutOne 33 = .ok (.iand, 1) := by decide +kernel
theorem dX0_mostWithoutOne_34 : decode cX0_mostWithoutOne 34 = .ok (.iaload, 1) := by decide +kernel
theorem dX0_mostWithoutOne_35 : decode cX0_mostWithoutOne 35 = .ok (.invokestatic 37, 3) := by decide +kernel
theorem dX0_mostWithoutOne_38 : decode cX0_mostWithoutOne 38 = .ok (.istore_n 3, 1) := by decide +kernel
theorem dX0_mostWithoutOne_39 : decode cX0_mostWithoutOne 39 = .ok (.iinc 4 1, 3) := by decide +kernel
theorem dX0_mostWithoutOne_42 : decode cX0_mostWithoutOne 42 = .ok (.goto (-37), 3) := by decide +kernel
theorem dX0_mostWithoutOne_45 : decode cX0_mostWithoutOne 45 = .ok (.iload_n 3, 1) := by decide +kernel
theorem dX0_mostWithoutOne_46 : decode cX0_mostWithoutOne 46 = .ok (.ireturn, 1) := by decide +kernel
theorem dX1_init_0 : decode cX1_init 0 = .ok (.aload_n 0, 1) := by decide +kernel
theorem dX1_init_1 : decode cX1_init 1 = .ok (.invokespecial 3, 3) := by decide +kernel
theorem dX1_init_4 : decode cX1_init 4 = .ok (.aload_n 0, 1) := by decide +kernel
theorem dX1_init_5 : decode cX1_init 5 = .ok (.bipush 10, 2) := by decide +kernel
theorem dX1_init_7 : decode cX1_init 7 = .ok (.newarray .int, 2) := by decide +kernel
theorem dX1_init_9 : decode cX1_init 9 = .ok (.putfield 9, 3) := by decide +kernel
theorem dX1_init_12 : decode cX1_init 12 = .ok (.aload_n 0, 1) := by decide +kernel
theorem dX1_init_13 : decode cX1_init 13 = .ok (.bipush 10, 2) := by decide +kernel
theorem dX1_init_15 : decode cX1_init 15 = .ok (.newarray .int, 2) := by decide +kernel
theorem dX1_init_17 : decode cX1_init 17 = .ok (.putfield 15, 3) := by decide +kernel
theorem dX1_init_20 : decode cX1_init 20 = .ok (.aload_n 0, 1) := by decide +kernel
theorem dX1_init_21 : decode cX1_init 21 = .ok (.bipush 10, 2) := by decide +kernel
theorem dX1_init_23 : decode cX1_init 23 = .ok (.newarray .int, 2) := by decide +kernel
theorem dX1_init_25 : decode cX1_init 25 = .ok (.putfield 18, 3) := by decide +kernel
theorem dX1_init_28 : decode cX1_init 28 = .ok (.aload_n 0, 1) := by decide +kernel
theorem dX1_init_29 : decode cX1_init 29 = .ok (.bipush 10, 2) := by decide +kernel
theorem dX1_init_31 : decode cX1_init 31 = .ok (.newarray .int, 2) := by decide +kernel
theorem dX1_init_33 : decode cX1_init 33 = .ok (.putfield 21, 3) := by decide +kernel
theorem dX1_init_36 : decode cX1_init 36 = .ok (.aload_n 0, 1) := by decide +kernel
theorem dX1_init_37 : decode cX1_init 37 = .ok (.iconst 0, 1) := by decide +kernel
theorem dX1_init_38 : decode cX1_init 38 = .ok (.putfield 24, 3) := by decide +kernel
theorem dX1_init_41 : decode cX1_init 41 = .ok (.return_, 1) := by decide +kernel
theorem dX1_has_0 : decode cX1_has 0 = .ok (.iload_n 1, 1) := by decide +kernel
theorem dX1_has_1 : decode cX1_has 1 = .ok (.ifCond .lt 21, 3) := by decide +kernel
theorem dX1_has_4 : decode cX1_has 4 = .ok (.iload_n 1, 1) := by decide +kernel
theorem dX1_has_5 : decode cX1_has 5 = .ok (.aload_n 0, 1) := by decide +kernel
theorem dX1_has_6 : decode cX1_has 6 = .ok (.getfield 24, 3) := by decide +kernel
theorem dX1_has_9 : decode cX1_has 9 = .ok (.if_icmp .ge 13, 3) := by decide +kernel
theorem dX1_has_12 : decode cX1_has 12 = .ok (.iload_n 1, 1) := by decide +kernel
theorem dX1_has_13 : decode cX1_has 13 = .ok (.bipush 10, 2) := by decide +kernel
theorem dX1_has_15 : decode cX1_has 15 = .ok (.if_icmp .ge 7, 3) := by decide +kernel
theorem dX1_has_18 : decode cX1_has 18 = .ok (.iconst 1, 1) := by decide +kernel
theorem dX1_has_19 : decode cX1_has 19 = .ok (.goto 4, 3) := by decide +kernel
theorem dX1_has_22 : decode cX1_has 22 = .ok (.iconst 0, 1) := by decide +kernel
theorem dX1_has_23 : decode cX1_has 23 = .ok (.ireturn, 1) := by decide +kernel
theorem dX1_setNear_0 : decode cX1_setNear 0 = .ok (.iload_n 3, 1) := by decide +kernel
theorem dX1_setNear_1 : decode cX1_setNear 1 = .ok (.ifCond .eq 18, 3) := by decide +kernel
theorem dX1_setNear_4 : decode cX1_setNear 4 = .ok (.aload_n 0, 1) := by decide +kernel
theorem dX1_setNear_5 : decode cX1_setNear 5 = .ok (.getfield 18, 3) := by decide +kernel
theorem dX1_setNear_8 : decode cX1_setNear 8 = .ok (.iload_n 1, 1) := by decide +kernel
theorem dX1_setNear_9 : decode cX1_setNear 9 = .ok (.dup2, 1) := by decide +kernel
theorem dX1_setNear_10 : decode cX1_setNear 10 = .ok (.iaload, 1) := by decide +kernel
theorem dX1_setNear_11 : decode cX1_setNear 11 = .ok (.iconst 1, 1) := by decide +kernel
theorem dX1_setNear_12 : decode cX1_setNear 12 = .ok (.iload_n 2, 1) := by decide +kernel
theorem dX1_setNear_13 : decode cX1_setNear 13 = .ok (.ishl, 1) := by decide +kernel
theorem dX1_setNear_14 : decode cX1_setNear 14 = .ok (.ior, 1) := by decide +kernel
theorem dX1_setNear_15 : decode cX1_setNear 15 = .ok (.iastore, 1) := by decide +kernel
theorem dX1_setNear_16 : decode cX1_setNear 16 = .ok (.goto 17, 3) := by decide +kernel
theorem dX1_setNear_19 : decode cX1_setNear 19 = .ok (.aload_n 0, 1) := by decide +kernel
theorem dX1_setNear_20 : decode cX1_setNear 20 = .ok (.getfield 18, 3) := by decide +kernel
theorem dX1_setNear_23 : decode cX1_setNear 23 = .ok (.iload_n 1, 1) := by decide +kernel
theorem dX1_setNear_24 : decode cX1_setNear 24 = .ok (.dup2, 1) := by decide +kernel
theorem dX1_setNear_25 : decode cX1_setNear 25 = .ok (.iaload, 1) := by decide +kernel
theorem dX1_setNear_26 : decode cX1_setNear 26 = .ok (.iconst 1, 1) := by decide +kernel
theorem dX1_setNear_27 : decode cX1_setNear 27 = .ok (.iload_n 2, 1) := by decide +kernel
theorem dX1_setNear_28 : decode cX1_setNear 28 = .ok (.ishl, 1) := by decide +kernel
theorem dX1_setNear_29 : decode cX1_setNear 29 = .ok (.iconst (-1), 1) := by decide +kernel
theorem dX1_setNear_30 : decode cX1_setNear 30 = .ok (.ixor, 1) := by decide +kernel
theorem dX1_setNear_31 : decode cX1_setNear 31 = .ok (.iand, 1) := by decide +kernel
theorem dX1_setNear_32 : decode cX1_setNear 32 = .ok (.iastore, 1) := by decide +kernel
theorem dX1_setNear_33 : decode cX1_setNear 33 = .ok (.return_, 1) := by decide +kernel
theorem dX1_canLend_0 : decode cX1_canLend 0 = .ok (.aload_n 0, 1) := by decide +kernel
theorem dX1_canLend_1 : decode cX1_canLend 1 = .ok (.iload_n 1, 1) := by decide +kernel
theorem dX1_canLend_2 : decode cX1_canLend 2 = .ok (.invokevirtual 28, 3) := by decide +kernel
theorem dX1_canLend_5 : decode cX1_canLend 5 = .ok (.ifCond .eq 39, 3) := by decide +kernel
theorem dX1_canLend_8 : decode cX1_canLend 8 = .ok (.aload_n 0, 1) := by decide +kernel
theorem dX1_canLend_9 : decode cX1_canLend 9 = .ok (.iload_n 2, 1) := by decide +kernel
theorem dX1_canLend_10 : decode cX1_canLend 10 = .ok (.invokevirtual 28, 3) := by decide +kernel
theorem dX1_canLend_13 : decode cX1_canLend 13 = .ok (.ifCond .eq 31, 3) := by decide +kernel
theorem dX1_canLend_16 : decode cX1_canLend 16 = .ok (.aload_n 0, 1) := by decide +kernel
theorem dX1_canLend_17 : decode cX1_canLend 17 = .ok (.getfield 18, 3) := by decide +kernel
theorem dX1_canLend_20 : decode cX1_canLend 20 = .ok (.iload_n 1, 1) := by decide +kernel
theorem dX1_canLend_21 : decode cX1_canLend 21 = .ok (.iaload, 1) := by decide +kernel
theorem dX1_canLend_22 : decode cX1_canLend 22 = .ok (.iload_n 2, 1) := by decide +kernel
theorem dX1_canLend_23 : decode cX1_canLend 23 = .ok (.ishr, 1) := by decide +kernel
theorem dX1_canLend_24 : decode cX1_canLend 24 = .ok (.iconst 1, 1) := by decide +kernel
theorem dX1_canLend_25 : decode cX1_canLend 25 = .ok (.iand, 1) := by decide +kernel
theorem dX1_canLend_26 : decode cX1_canLend 26 = .ok (.iconst 1, 1) := by decide +kernel
theorem dX1_canLend_27 : decode cX1_canLend 27 = .ok (.if_icmp .ne 17, 3) := by decide +kernel
theorem dX1_canLend_30 : decode cX1_canLend 30 = .ok (.aload_n 0, 1) := by decide +kernel
theorem dX1_canLend_31 : decode cX1_canLend 31 = .ok (.getfield 9, 3) := by decide +kernel
theorem dX1_canLend_34 : decode cX1_canLend 34 = .ok (.iload_n 1, 1) := by decide +kernel
theorem dX1_canLend_35 : decode cX1_canLend 35 = .ok (.iaload, 1) := by decide +kernel
theorem dX1_canLend_36 : decode cX1_canLend 36 = .ok (.iconst 1, 1) := by decide +kernel
theorem dX1_canLend_37 : decode cX1_canLend 37 = .ok (.if_icmp .lt 7, 3) := by decide +kernel
theorem dX1_canLend_40 : decode cX1_canLend 40 = .ok (.iconst 1, 1) := by decide +kernel
theorem dX1_canLend_41 : decode cX1_canLend 41 = .ok (.goto 4, 3) := by decide +kernel
theorem dX1_canLend_44 : decode cX1_canLend 44 = .ok (.iconst 0, 1) := by decide +kernel
theorem dX1_canLend_45 : decode cX1_canLend 45 = .ok (.ireturn, 1) := by decide +kernel
theorem dX1_moveOne_0 : decode cX1_moveOne 0 = .ok (.aload_n 0, 1) := by decide +kernel
theorem dX1_moveOne_1 : decode cX1_moveOne 1 = .ok (.getfield 9, 3) := by decide +kernel
theorem dX1_moveOne_4 : decode cX1_moveOne 4 = .ok (.iload_n 1, 1) := by decide +kernel
theorem dX1_moveOne_5 : decode cX1_moveOne 5 = .ok (.dup2, 1) := by decide +kernel
theorem dX1_moveOne_6 : decode cX1_moveOne 6 = .ok (.iaload, 1) := by decide +kernel
theorem dX1_moveOne_7 : decode cX1_moveOne 7 = .ok (.iconst 1, 1) := by decide +kernel
theorem dX1_moveOne_8 : decode cX1_moveOne 8 = .ok (.isub, 1) := by decide +kernel
theorem dX1_moveOne_9 : decode cX1_moveOne 9 = .ok (.iastore, 1) := by decide +kernel
theorem dX1_moveOne_10 : decode cX1_moveOne 10 = .ok (.aload_n 0, 1) := by decide +kernel
theorem dX1_moveOne_11 : decode cX1_moveOne 11 = .ok (.getfield 15, 3) := by decide +kernel
theorem dX1_moveOne_14 : decode cX1_moveOne 14 = .ok (.iload_n 1, 1) := by decide +kernel
theorem dX1_moveOne_15 : decode cX1_moveOne 15 = .ok (.dup2, 1) := by decide +kernel
theorem dX1_moveOne_16 : decode cX1_moveOne 16 = .ok (.iaload, 1) := by decide +kernel
theorem dX1_moveOne_17 : decode cX1_moveOne 17 = .ok (.iconst 1, 1) := by decide +kernel
theorem dX1_moveOne_18 : decode cX1_moveOne 18 = .ok (.isub, 1) := by decide +kernel
theorem dX1_moveOne_19 : decode cX1_moveOne 19 = .ok (.iastore, 1) := by decide +kernel
theorem dX1_moveOne_20 : decode cX1_moveOne 20 = .ok (.aload_n 0, 1) := by decide +kernel
theorem dX1_moveOne_21 : decode cX1_moveOne 21 = .ok (.getfield 9, 3) := by decide +kernel
theorem dX1_moveOne_24 : decode cX1_moveOne 24 = .ok (.iload_n 2, 1) := by decide +kernel
theorem dX1_moveOne_25 : decode cX1_moveOne 25 = .ok (.dup2, 1) := by decide +kernel
theorem dX1_moveOne_26 : decode cX1_moveOne 26 = .ok (.iaload, 1) := by decide +kernel
theorem dX1_moveOne_27 : decode cX1_moveOne 27 = .ok (.iconst 1, 1) := by decide +kernel
theorem dX1_moveOne_28 : decode cX1_moveOne 28 = .ok (.iadd, 1) := by decide +kernel
theorem dX1_moveOne_29 : decode cX1_moveOne 29 = .ok (.iastore, 1) := by decide +kernel
theorem dX1_moveOne_30 : decode cX1_moveOne 30 = .ok (.aload_n 0, 1) := by decide +kernel
theorem dX1_moveOne_31 : decode cX1_moveOne 31 = .ok (.getfield 15, 3) := by decide +kernel
theorem dX1_moveOne_34 : decode cX1_moveOne 34 = .ok (.iload_n 2, 1) := by decide +kernel
theorem dX1_moveOne_35 : decode cX1_moveOne 35 = .ok (.dup2, 1) := by decide +kernel
theorem dX1_moveOne_36 : decode cX1_moveOne 36 = .ok (.iaload, 1) := by decide +kernel
theorem dX1_moveOne_37 : decode cX1_moveOne 37 = .ok (.iconst 1, 1) := by decide +kernel
theorem dX1_moveOne_38 : decode cX1_moveOne 38 = .ok (.iadd, 1) := by decide +kernel
theorem dX1_moveOne_39 : decode cX1_moveOne 39 = .ok (.iastore, 1) := by decide +kernel
theorem dX1_moveOne_40 : decode cX1_moveOne 40 = .ok (.return_, 1) := by decide +kernel
theorem dX1_rowLength_0 : decode cX1_rowLength 0 = .ok (.iconst 1, 1) := by decide +kernel
theorem dX1_rowLength_1 : decode cX1_rowLength 1 = .ok (.iload_n 2, 1) := by decide +kernel
theorem dX1_rowLength_2 : decode cX1_rowLength 2 = .ok (.ishl, 1) := by decide +kernel
theorem dX1_rowLength_3 : decode cX1_rowLength 3 = .ok (.istore_n 3, 1) := by decide +kernel
theorem dX1_rowLength_4 : decode cX1_rowLength 4 = .ok (.iload_n 3, 1) := by decide +kernel
theorem dX1_rowLength_5 : decode cX1_rowLength 5 = .ok (.istore 4, 2) := by decide +kernel
theorem dX1_rowLength_7 : decode cX1_rowLength 7 = .ok (.iconst 1, 1) := by decide +kernel
theorem dX1_rowLength_8 : decode cX1_rowLength 8 = .ok (.istore 5, 2) := by decide +kernel
theorem dX1_rowLength_10 : decode cX1_rowLength 10 = .ok (.aload_n 0, 1) := by decide +kernel
theorem dX1_rowLength_11 : decode cX1_rowLength 11 = .ok (.getfield 21, 3) := by decide +kernel
theorem dX1_rowLength_14 : decode cX1_rowLength 14 = .ok (.iconst 0, 1) := by decide +kernel
theorem dX1_rowLength_15 : decode cX1_rowLength 15 = .ok (.iload_n 3, 1) := by decide +kernel
theorem dX1_rowLength_16 : decode cX1_rowLength 16 = .ok (.iastore, 1) := by decide +kernel
theorem dX1_rowLength_17 : decode cX1_rowLength 17 = .ok (.iload 5, 2) := by decide +kernel
theorem dX1_rowLength_19 : decode cX1_rowLength 19 = .ok (.bipush 10, 2) := by decide +kernel
theorem dX1_rowLength_21 : decode cX1_rowLength 21 = .ok (.if_icmp .ge 42, 3) := by decide +kernel
theorem dX1_rowLength_24 : decode cX1_rowLength 24 = .ok (.iload_n 3, 1) := by decide +kernel
theorem dX1_rowLength_25 : decode cX1_rowLength 25 = .ok (.iload_n 1, 1) := by decide +kernel
theorem dX1_rowLength_26 : decode cX1_rowLength 26 = .ok (.ishr, 1) := by decide +kernel
theorem dX1_rowLength_27 : decode cX1_rowLength 27 = .ok (.iconst 1, 1) := by decide +kernel
theorem dX1_rowLength_28 : decode cX1_rowLength 28 = .ok (.iand, 1) := by decide +kernel
theorem dX1_rowLength_29 : decode cX1_rowLength 29 = .ok (.ifCond .ne 34, 3) := by decide +kernel
theorem dX1_rowLength_32 : decode cX1_rowLength 32 = .ok (.aload_n 0, 1) := by decide +kernel
theorem dX1_rowLength_33 : decode cX1_rowLength 33 = .ok (.iload_n 3, 1) := by decide +kernel
theorem dX1_rowLength_34 : decode cX1_rowLength 34 = .ok (.invokevirtual 32, 3) := by decide +kernel
theorem dX1_rowLength_37 : decode cX1_rowLength 37 = .ok (.iload 4, 2) := by decide +kernel
theorem dX1_rowLength_39 : decode cX1_rowLength 39 = .ok (.iconst (-1), 1) := by decide +kernel
theorem dX1_rowLength_40 : decode cX1_rowLength 40 = .ok (.ixor, 1) := by decide +kernel
theorem dX1_rowLength_41 : decode cX1_rowLength 41 = .ok (.iand, 1) := by decide +kernel
theorem dX1_rowLength_42 : decode cX1_rowLength 42 = .ok (.istore_n 3, 1) := by decide +kernel
theorem dX1_rowLength_43 : decode cX1_rowLength 43 = .ok (.iload 4, 2) := by decide +kernel
theorem dX1_rowLength_45 : decode cX1_rowLength 45 = .ok (.iload_n 3, 1) := by decide +kernel
theorem dX1_rowLength_46 : decode cX1_rowLength 46 = .ok (.ior, 1) := by decide +kernel
theorem dX1_rowLength_47 : decode cX1_rowLength 47 = .ok (.istore 4, 2) := by decide +kernel
theorem dX1_rowLength_49 : decode cX1_rowLength 49 = .ok (.aload_n 0, 1) := by decide +kernel
theorem dX1_rowLength_50 : decode cX1_rowLength 50 = .ok (.getfield 21, 3) := by decide +kernel
theorem dX1_rowLength_53 : decode cX1_rowLength 53 = .ok (.iload 5, 2) := by decide +kernel
theorem dX1_rowLength_55 : decode cX1_rowLength 55 = .ok (.iload_n 3, 1) := by decide +kernel
theorem dX1_rowLength_56 : decode cX1_rowLength 56 = .ok (.iastore, 1) := by decide +kernel
theorem dX1_rowLength_57 : decode cX1_rowLength 57 = .ok (.iinc 5 1, 3) := by decide +kernel
theorem dX1_rowLength_60 : decode cX1_rowLength 60 = .ok (.goto (-43), 3) := by decide +kernel
theorem dX1_rowLength_63 : decode cX1_rowLength 63 = .ok (.iload_n 3, 1) := by decide +kernel
theorem dX1_rowLength_64 : decode cX1_rowLength 64 = .ok (.iload_n 1, 1) := by decide +kernel
theorem dX1_rowLength_65 : decode cX1_rowLength 65 = .ok (.ishr, 1) := by decide +kernel
theorem dX1_rowLength_66 : decode cX1_rowLength 66 = .ok (.iconst 1, 1) := by decide +kernel
theorem dX1_rowLength_67 : decode cX1_rowLength 67 = .ok (.iand, 1) := by decide +kernel
theorem dX1_rowLength_68 : decode cX1_rowLength 68 = .ok (.iconst 1, 1) := by decide +kernel
theorem dX1_rowLength_69 : decode cX1_rowLength 69 = .ok (.if_icmp .ne 8, 3) := by decide +kernel
theorem dX1_rowLength_72 : decode cX1_rowLength 72 = .ok (.iload 5, 2) := by decide +kernel
theorem dX1_rowLength_74 : decode cX1_rowLength 74 = .ok (.goto 4, 3) := by decide +kernel
theorem dX1_rowLength_77 : decode cX1_rowLength 77 = .ok (.iconst 0, 1) := by decide +kernel
theorem dX1_rowLength_78 : decode cX1_rowLength 78 = .ok (.ireturn, 1) := by decide +kernel
theorem dX1_lendersTo_0 : decode cX1_lendersTo 0 = .ok (.iconst 0, 1) := by decide +kernel
theorem dX1_lendersTo_1 : decode cX1_lendersTo 1 = .ok (.istore_n 2, 1) := by decide +kernel
theorem dX1_lendersTo_2 : decode cX1_lendersTo 2 = .ok (.iconst 0, 1) := by decide +kernel
theorem dX1_lendersTo_3 : decode cX1_lendersTo 3 = .ok (.istore_n 3, 1) := by decide +kernel
theorem dX1_lendersTo_4 : decode cX1_lendersTo 4 = .ok (.iload_n 3, 1) := by decide +kernel
theorem dX1_lendersTo_5 : decode cX1_lendersTo 5 = .ok (.aload_n 0, 1) := by decide +kernel
theorem dX1_lendersTo_6 : decode cX1_lendersTo 6 = .ok (.getfield 24, 3) := by decide +kernel
theorem dX1_lendersTo_9 : decode cX1_lendersTo 9 = .ok (.if_icmp .ge 36, 3) := by decide +kernel
theorem dX1_lendersTo_12 : decode cX1_lendersTo 12 = .ok (.aload_n 0, 1) := by decide +kernel
theorem dX1_lendersTo_13 : decode cX1_lendersTo 13 = .ok (.getfield 9, 3) := by decide +kernel
theorem dX1_lendersTo_16 : decode cX1_lendersTo 16 = .ok (.iload_n 3, 1) := by decide +kernel
theorem dX1_lendersTo_17 : decode cX1_lendersTo 17 = .ok (.iaload, 1) := by decide +kernel
theorem dX1_lendersTo_18 : decode cX1_lendersTo 18 = .ok (.iconst 1, 1) := by decide +kernel
theorem dX1_lendersTo_19 : decode cX1_lendersTo 19 = .ok (.if_icmp .lt 20, 3) := by decide +kernel
theorem dX1_lendersTo_22 : decode cX1_lendersTo 22 = .ok (.aload_n 0, 1) := by decide +kernel
theorem dX1_lendersTo_23 : decode cX1_lendersTo 23 = .ok (.getfield 18, 3) := by decide +kernel
theorem dX1_lendersTo_26 : decode cX1_lendersTo 26 = .ok (.iload_n 3, 1) := by decide +kernel
theorem dX1_lendersTo_27 : decode cX1_lendersTo 27 = .ok (.iaload, 1) := by decide +kernel
theorem dX1_lendersTo_28 : decode cX1_lendersTo 28 = .ok (.iload_n 1, 1) := by decide +kernel
theorem dX1_lendersTo_29 : decode cX1_lendersTo 29 = .ok (.iand, 1) := by decide +kernel
theorem dX1_lendersTo_30 : decode cX1_lendersTo 30 = .ok (.ifCond .eq 9, 3) := by decide +kernel
theorem dX1_lendersTo_33 : decode cX1_lendersTo 33 = .ok (.iload_n 2, 1) := by decide +kernel
theorem dX1_lendersTo_34 : decode cX1_lendersTo 34 = .ok (.iconst 1, 1) := by decide +kernel
theorem dX1_lendersTo_35 : decode cX1_lendersTo 35 = .ok (.iload_n 3, 1) := by decide +kernel
theorem dX1_lendersTo_36 : decode cX1_lendersTo 36 = .ok (.ishl, 1) := by decide +kernel
theorem dX1_lendersTo_37 : decode cX1_lendersTo 37 = .ok (.ior, 1) := by decide +kernel
theorem dX1_lendersTo_38 : decode cX1_lendersTo 38 = .ok (.istore_n 2, 1) := by decide +kernel
theorem dX1_lendersTo_39 : decode cX1_lendersTo 39 = .ok (.iinc 3 1, 3) := by decide +kernel
theorem dX1_lendersTo_42 : decode cX1_lendersTo 42 = .ok (.goto (-38), 3) := by decide +kernel
theorem dX1_lendersTo_45 : decode cX1_lendersTo 45 = .ok (.iload_n 2, 1) := by decide +kernel
theorem dX1_lendersTo_46 : decode cX1_lendersTo 46 = .ok (.ireturn, 1) := by decide +kernel
theorem dX1_rowAt_0 : decode cX1_rowAt 0 = .ok (.iload_n 1, 1) := by decide +kernel
theorem dX1_rowAt_1 : decode cX1_rowAt 1 = .ok (.istore 4, 2) := by decide +kernel
theorem dX1_rowAt_3 : decode cX1_rowAt 3 = .ok (.iload_n 2, 1) := by decide +kernel
theorem dX1_rowAt_4 : decode cX1_rowAt 4 = .ok (.iconst 2, 1) := by decide +kernel
theorem dX1_rowAt_5 : decode cX1_rowAt 5 = .ok (.isub, 1) := by decide +kernel
theorem dX1_rowAt_6 : decode cX1_rowAt 6 = .ok (.istore 5, 2) := by decide +kernel
theorem dX1_rowAt_8 : decode cX1_rowAt 8 = .ok (.iload 5, 2) := by decide +kernel
theorem dX1_rowAt_10 : decode cX1_rowAt 10 = .ok (.iload_n 2, 1) := by decide +kernel
theorem dX1_rowAt_11 : decode cX1_rowAt 11 = .ok (.iconst 1, 1) := by decide +kernel
theorem dX1_rowAt_12 : decode cX1_rowAt 12 = .ok (.isub, 1) := by decide +kernel
theorem dX1_rowAt_13 : decode cX1_rowAt 13 = .ok (.iload_n 3, 1) := by decide +kernel
theorem dX1_rowAt_14 : decode cX1_rowAt 14 = .ok (.isub, 1) := by decide +kernel
theorem dX1_rowAt_15 : decode cX1_rowAt 15 = .ok (.if_icmp .lt 52, 3) := by decide +kernel
theorem dX1_rowAt_18 : decode cX1_rowAt 18 = .ok (.aload_n 0, 1) := by decide +kernel
theorem dX1_rowAt_19 : decode cX1_rowAt 19 = .ok (.iload 4, 2) := by decide +kernel
theorem dX1_rowAt_21 : decode cX1_rowAt 21 = .ok (.invokevirtual 28, 3) := by decide +kernel
theorem dX1_rowAt_24 : decode cX1_rowAt 24 = .ok (.ifCond .eq 15, 3) := by decide +kernel
theorem dX1_rowAt_27 : decode cX1_rowAt 27 = .ok (.iload 5, 2) := by decide +kernel
theorem dX1_rowAt_29 : decode cX1_rowAt 29 = .ok (.ifCond .lt 10, 3) := by decide +kernel
theorem dX1_rowAt_32 : decode cX1_rowAt 32 = .ok (.iload 5, 2) := by decide +kernel
theorem dX1_rowAt_34 : decode cX1_rowAt 34 = .ok (.bipush 10, 2) := by decide +kernel
theorem dX1_rowAt_36 : decode cX1_rowAt 36 = .ok (.if_icmp .lt 5, 3) := by decide +kernel
theorem dX1_rowAt_39 : decode cX1_rowAt 39 = .ok (.iconst (-1), 1) := by decide +kernel
theorem dX1_rowAt_40 : decode cX1_rowAt 40 = .ok (.ireturn, 1) := by decide +kernel
theorem dX1_rowAt_41 : decode cX1_rowAt 41 = .ok (.aload_n 0, 1) := by decide +kernel
theorem dX1_rowAt_42 : decode cX1_rowAt 42 = .ok (.getfield 18, 3) := by decide +kernel
theorem dX1_rowAt_45 : decode cX1_rowAt 45 = .ok (.iload 4, 2) := by decide +kernel
theorem dX1_rowAt_47 : decode cX1_rowAt 47 = .ok (.iaload, 1) := by decide +kernel
theorem dX1_rowAt_48 : decode cX1_rowAt 48 = .ok (.aload_n 0, 1) := by decide +kernel
theorem dX1_rowAt_49 : decode cX1_rowAt 49 = .ok (.getfield 21, 3) := by decide +kernel
theorem dX1_rowAt_52 : decode cX1_rowAt 52 = .ok (.iload 5, 2) := by decide +kernel
theorem dX1_rowAt_54 : decode cX1_rowAt 54 = .ok (.iaload, 1) := by decide +kernel
theorem dX1_rowAt_55 : decode cX1_rowAt 55 = .ok (.iand, 1) := by decide +kernel
theorem dX1_rowAt_56 : decode cX1_rowAt 56 = .ok (.invokestatic 36, 3) := by decide +kernel
theorem dX1_rowAt_59 : decode cX1_rowAt 59 = .ok (.istore 4, 2) := by decide +kernel
theorem dX1_rowAt_61 : decode cX1_rowAt 61 = .ok (.iinc 5 (-1), 3) := by decide +kernel
theorem dX1_rowAt_64 : decode cX1_rowAt 64 = .ok (.goto (-56), 3) := by decide +kernel
theorem dX1_rowAt_67 : decode cX1_rowAt 67 = .ok (.aload_n 0, 1) := by decide +kernel
theorem dX1_rowAt_68 : decode cX1_rowAt 68 = .ok (.iload 4, 2) := by decide +kernel
theorem dX1_rowAt_70 : decode cX1_rowAt 70 = .ok (.invokevirtual 28, 3) := by decide +kernel
theorem dX1_rowAt_73 : decode cX1_rowAt 73 = .ok (.ifCond .eq 8, 3) := by decide +kernel
theorem dX1_rowAt_76 : decode cX1_rowAt 76 = .ok (.iload 4, 2) := by decide +kernel
theorem dX1_rowAt_78 : decode cX1_rowAt 78 = .ok (.goto 4, 3) := by decide +kernel
theorem dX1_rowAt_81 : decode cX1_rowAt 81 = .ok (.iconst (-1), 1) := by decide +kernel
theorem dX1_rowAt_82 : decode cX1_rowAt 82 = .ok (.ireturn, 1) := by decide +kernel
theorem dX1_lendByDraws_0 : decode cX1_lendByDraws 0 = .ok (.iload_n 1, 1) := by decide +kernel
theorem dX1_lendByDraws_1 : decode cX1_lendByDraws 1 = .ok (.bipush 9, 2) := by decide +kernel
theorem dX1_lendByDraws_3 : decode cX1_lendByDraws 3 = .ok (.imul, 1) := by decide +kernel
theorem dX1_lendByDraws_4 : decode cX1_lendByDraws 4 = .ok (.iconst 4, 1) := by decide +kernel
theorem dX1_lendByDraws_5 : decode cX1_lendByDraws 5 = .ok (.iadd, 1) := by decide +kernel
theorem dX1_lendByDraws_6 : decode cX1_lendByDraws 6 = .ok (.istore_n 3, 1) := by decide +kernel
theorem dX1_lendByDraws_7 : decode cX1_lendByDraws 7 = .ok (.iconst 0, 1) := by decide +kernel
theorem dX1_lendByDraws_8 : decode cX1_lendByDraws 8 = .ok (.istore 4, 2) := by decide +kernel
theorem dX1_lendByDraws_10 : decode cX1_lendByDraws 10 = .ok (.iconst 0, 1) := by decide +kernel
theorem dX1_lendByDraws_11 : decode cX1_lendByDraws 11 = .ok (.istore 5, 2) := by decide +kernel
theorem dX1_lendByDraws_13 : decode cX1_lendByDraws 13 = .ok (.iload 5, 2) := by decide +kernel
theorem dX1_lendByDraws_15 : decode cX1_lendByDraws 15 = .ok (.iload_n 2, 1) := by decide +kernel
theorem dX1_lendByDraws_16 : decode cX1_lendByDraws 16 = .ok (.if_icmp .ge 87, 3) := by decide +kernel
theorem dX1_lendByDraws_19 : decode cX1_lendByDraws 19 = .ok (.aload_n 0, 1) := by decide +kernel
theorem dX1_lendByDraws_20 : decode cX1_lendByDraws 20 = .ok (.getfield 24, 3) := by decide +kernel
theorem dX1_lendByDraws_23 : decode cX1_lendByDraws 23 = .ok (.ifCond .le 80, 3) := by decide +kernel
theorem dX1_lendByDraws_26 : decode cX1_lendByDraws 26 = .ok (.iload_n 3, 1) := by decide +kernel
theorem dX1_lendByDraws_27 : decode cX1_lendByDraws 27 = .ok (.aload_n 0, 1) := by decide +kernel
theorem dX1_lendByDraws_28 : decode cX1_lendByDraws 28 = .ok (.getfield 24, 3) := by decide +kernel
theorem dX1_lendByDraws_31 : decode cX1_lendByDraws 31 = .ok (.irem, 1) := by decide +kernel
theorem dX1_lendByDraws_32 : decode cX1_lendByDraws 32 = .ok (.istore 6, 2) := by decide +kernel
theorem dX1_lendByDraws_34 : decode cX1_lendByDraws 34 = .ok (.aload_n 0, 1) := by decide +kernel
theorem dX1_lendByDraws_35 : decode cX1_lendByDraws 35 = .ok (.iload_n 3, 1) := by decide +kernel
theorem dX1_lendByDraws_36 : decode cX1_lendByDraws 36 = .ok (.invokevirtual 41, 3) := by decide +kernel
theorem dX1_lendByDraws_39 : decode cX1_lendByDraws 39 = .ok (.istore_n 3, 1) := by decide +kernel
theorem dX1_lendByDraws_40 : decode cX1_lendByDraws 40 = .ok (.aload_n 0, 1) := by decide +kernel
theorem dX1_lendByDraws_41 : decode cX1_lendByDraws 41 = .ok (.getfield 18, 3) := by decide +kernel
theorem dX1_lendByDraws_44 : decode cX1_lendByDraws 44 = .ok (.iload 6, 2) := by decide +kernel
theorem dX1_lendByDraws_46 : decode cX1_lendByDraws 46 = .ok (.iaload, 1) := by decide +kernel
theorem dX1_lendByDraws_47 : decode cX1_lendByDraws 47 = .ok (.invokestatic 44, 3) := by decide +kernel
theorem dX1_lendByDraws_50 : decode cX1_lendByDraws 50 = .ok (.istore 7, 2) := by decide +kernel
theorem dX1_lendByDraws_52 : decode cX1_lendByDraws 52 = .ok (.iload 7, 2) := by decide +kernel
theorem dX1_lendByDraws_54 : decode cX1_lendByDraws 54 = .ok (.ifCond .le 43, 3) := by decide +kernel
theorem dX1_lendByDraws_57 : decode cX1_lendByDraws 57 = .ok (.aload_n 0, 1) := by decide +kernel
theorem dX1_lendByDraws_58 : decode cX1_lendByDraws 58 = .ok (.iload 6, 2) := by decide +kernel
theorem dX1_lendByDraws_60 : decode cX1_lendByDraws 60 = .ok (.iload_n 3, 1) := by decide +kernel
theorem dX1_lendByDraws_61 : decode cX1_lendByDraws 61 = .ok (.iload 7, 2) := by decide +kernel
theorem dX1_lendByDraws_63 : decode cX1_lendByDraws 63 = .ok (.irem, 1) := by decide +kernel
theorem dX1_lendByDraws_64 : decode cX1_lendByDraws 64 = .ok (.invokevirtual 47, 3) := by decide +kernel
theorem dX1_lendByDraws_67 : decode cX1_lendByDraws 67 = .ok (.istore 8, 2) := by decide +kernel
theorem dX1_lendByDraws_69 : decode cX1_lendByDraws 69 = .ok (.aload_n 0, 1) := by decide +kernel
theorem dX1_lendByDraws_70 : decode cX1_lendByDraws 70 = .ok (.iload_n 3, 1) := by decide +kernel
theorem dX1_lendByDraws_71 : decode cX1_lendByDraws 71 = .ok (.invokevirtual 41, 3) := by decide +kernel
theorem dX1_lendByDraws_74 : decode cX1_lendByDraws 74 = .ok (.istore_n 3, 1) := by decide +kernel
theorem dX1_lendByDraws_75 : decode cX1_lendByDraws 75 = .ok (.aload_n 0, 1) := by decide +kernel
theorem dX1_lendByDraws_76 : decode cX1_lendByDraws 76 = .ok (.iload 6, 2) := by decide +kernel
theorem dX1_lendByDraws_78 : decode cX1_lendByDraws 78 = .ok (.iload 8, 2) := by decide +kernel
theorem dX1_lendByDraws_80 : decode cX1_lendByDraws 80 = .ok (.invokevirtual 51, 3) := by decide +kernel
theorem dX1_lendByDraws_83 : decode cX1_lendByDraws 83 = .ok (.ifCond .eq 14, 3) := by decide +kernel
theorem dX1_lendByDraws_86 : decode cX1_lendByDraws 86 = .ok (.aload_n 0, 1) := by decide +kernel
theorem dX1_lendByDraws_87 : decode cX1_lendByDraws 87 = .ok (.iload 6, 2) := by decide +kernel
theorem dX1_lendByDraws_89 : decode cX1_lendByDraws 89 = .ok (.iload 8, 2) := by decide +kernel
theorem dX1_lendByDraws_91 : decode cX1_lendByDraws 91 = .ok (.invokevirtual 55, 3) := by decide +kernel
theorem dX1_lendByDraws_94 : decode cX1_lendByDraws 94 = .ok (.iinc 4 1, 3) := by decide +kernel
theorem dX1_lendByDraws_97 : decode cX1_lendByDraws 97 = .ok (.iinc 5 1, 3) := by decide +kernel
theorem dX1_lendByDraws_100 : decode cX1_lendByDraws 100 = .ok (.goto (-87), 3) := by decide +kernel
theorem dX1_lendByDraws_103 : decode cX1_lendByDraws 103 = .ok (.iload 4, 2) := by decide +kernel
theorem dX1_lendByDraws_105 : decode cX1_lendByDraws 105 = .ok (.ireturn, 1) := by decide +kernel
theorem dX1_nextDraw_0 : decode cX1_nextDraw 0 = .ok (.iload_n 1, 1) := by decide +kernel
theorem dX1_nextDraw_1 : decode cX1_nextDraw 1 = .ok (.sipush 181, 3) := by decide +kernel
theorem dX1_nextDraw_4 : decode cX1_nextDraw 4 = .ok (.imul, 1) := by decide +kernel
theorem dX1_nextDraw_5 : decode cX1_nextDraw 5 = .ok (.bipush 37, 2) := by decide +kernel
theorem dX1_nextDraw_7 : decode cX1_nextDraw 7 = .ok (.iadd, 1) := by decide +kernel
theorem dX1_nextDraw_8 : decode cX1_nextDraw 8 = .ok (.sipush 30091, 3) := by decide +kernel
theorem dX1_nextDraw_11 : decode cX1_nextDraw 11 = .ok (.irem, 1) := by decide +kernel
theorem dX1_nextDraw_12 : decode cX1_nextDraw 12 = .ok (.ireturn, 1) := by decide +kernel
theorem dX1_nearAt_0 : decode cX1_nearAt 0 = .ok (.aload_n 0, 1) := by decide +kernel
theorem dX1_nearAt_1 : decode cX1_nearAt 1 = .ok (.getfield 18, 3) := by decide +kernel
theorem dX1_nearAt_4 : decode cX1_nearAt 4 = .ok (.iload_n 1, 1) := by decide +kernel
theorem dX1_nearAt_5 : decode cX1_nearAt 5 = .ok (.iaload, 1) := by decide +kernel
theorem dX1_nearAt_6 : decode cX1_nearAt 6 = .ok (.istore_n 3, 1) := by decide +kernel
theorem dX1_nearAt_7 : decode cX1_nearAt 7 = .ok (.iconst 0, 1) := by decide +kernel
theorem dX1_nearAt_8 : decode cX1_nearAt 8 = .ok (.istore 4, 2) := by decide +kernel
theorem dX1_nearAt_10 : decode cX1_nearAt 10 = .ok (.iload 4, 2) := by decide +kernel
theorem dX1_nearAt_12 : decode cX1_nearAt 12 = .ok (.iload_n 2, 1) := by decide +kernel
theorem dX1_nearAt_13 : decode cX1_nearAt 13 = .ok (.if_icmp .ge 15, 3) := by decide +kernel
theorem dX1_nearAt_16 : decode cX1_nearAt 16 = .ok (.iload_n 3, 1) := by decide +kernel
theorem dX1_nearAt_17 : decode cX1_nearAt 17 = .ok (.iload_n 3, 1) := by decide +kernel
theorem dX1_nearAt_18 : decode cX1_nearAt 18 = .ok (.iconst 1, 1) := by decide +kernel
theorem dX1_nearAt_19 : decode cX1_nearAt 19 = .ok (.isub, 1) := by decide +kernel
theorem dX1_nearAt_20 : decode cX1_nearAt 20 = .ok (.iand, 1) := by decide +kernel
theorem dX1_nearAt_21 : decode cX1_nearAt 21 = .ok (.istore_n 3, 1) := by decide +kernel
theorem dX1_nearAt_22 : decode cX1_nearAt 22 = .ok (.iinc 4 1, 3) := by decide +kernel
theorem dX1_nearAt_25 : decode cX1_nearAt 25 = .ok (.goto (-15), 3) := by decide +kernel
theorem dX1_nearAt_28 : decode cX1_nearAt 28 = .ok (.iload_n 3, 1) := by decide +kernel
theorem dX1_nearAt_29 : decode cX1_nearAt 29 = .ok (.invokestatic 36, 3) := by decide +kernel
theorem dX1_nearAt_32 : decode cX1_nearAt 32 = .ok (.ireturn, 1) := by decide +kernel
theorem dX1_takeAll_0 : decode cX1_takeAll 0 = .ok (.aload_n 1, 1) := by decide +kernel
theorem dX1_takeAll_1 : decode cX1_takeAll 1 = .ok (.getfield 9, 3) := by decide +kernel
theorem dX1_takeAll_4 : decode cX1_takeAll 4 = .ok (.iconst 0, 1) := by decide +kernel
theorem dX1_takeAll_5 : decode cX1_takeAll 5 = .ok (.aload_n 0, 1) := by decide +kernel
theorem dX1_takeAll_6 : decode cX1_takeAll 6 = .ok (.getfield 9, 3) := by decide +kernel
theorem dX1_takeAll_9 : decode cX1_takeAll 9 = .ok (.iconst 0, 1) := by decide +kernel
theorem dX1_takeAll_10 : decode cX1_takeAll 10 = .ok (.bipush 10, 2) := by decide +kernel
theorem dX1_takeAll_12 : decode cX1_takeAll 12 = .ok (.invokestatic 59, 3) := by decide +kernel
theorem dX1_takeAll_15 : decode cX1_takeAll 15 = .ok (.aload_n 1, 1) := by decide +kernel
theorem dX1_takeAll_16 : decode cX1_takeAll 16 = .ok (.getfield 15, 3) := by decide +kernel
theorem dX1_takeAll_19 : decode cX1_takeAll 19 = .ok (.iconst 0, 1) := by decide +kernel
theorem dX1_takeAll_20 : decode cX1_takeAll 20 = .ok (.aload_n 0, 1) := by decide +kernel
theorem dX1_takeAll_21 : decode cX1_takeAll 21 = .ok (.getfield 15, 3) := by decide +kernel
theorem dX1_takeAll_24 : decode cX1_takeAll 24 = .ok (.iconst 0, 1) := by decide +kernel
theorem dX1_takeAll_25 : decode cX1_takeAll 25 = .ok (.bipush 10, 2) := by decide +kernel
theorem dX1_takeAll_27 : decode cX1_takeAll 27 = .ok (.invokestatic 59, 3) := by decide +kernel
theorem dX1_takeAll_30 : decode cX1_takeAll 30 = .ok (.aload_n 1, 1) := by decide +kernel
theorem dX1_takeAll_31 : decode cX1_takeAll 31 = .ok (.getfield 18, 3) := by decide +kernel
theorem dX1_takeAll_34 : decode cX1_takeAll 34 = .ok (.iconst 0, 1) := by decide +kernel
theorem dX1_takeAll_35 : decode cX1_takeAll 35 = .ok (.aload_n 0, 1) := by decide +kernel
theorem dX1_takeAll_36 : decode cX1_takeAll 36 = .ok (.getfield 18, 3) := by decide +kernel
theorem dX1_takeAll_39 : decode cX1_takeAll 39 = .ok (.iconst 0, 1) := by decide +kernel
theorem dX1_takeAll_40 : decode cX1_takeAll 40 = .ok (.bipush 10, 2) := by decide +kernel
theorem dX1_takeAll_42 : decode cX1_takeAll 42 = .ok (.invokestatic 59, 3) := by decide +kernel
theorem dX1_takeAll_45 : decode cX1_takeAll 45 = .ok (.aload_n 0, 1) := by decide +kernel
theorem dX1_takeAll_46 : decode cX1_takeAll 46 = .ok (.aload_n 1, 1) := by decide +kernel
theorem dX1_takeAll_47 : decode cX1_takeAll 47 = .ok (.getfield 24, 3) := by decide +kernel
theorem dX1_takeAll_50 : decode cX1_takeAll 50 = .ok (.putfield 24, 3) := by decide +kernel
theorem dX1_takeAll_53 : decode cX1_takeAll 53 = .ok (.return_, 1) := by decide +kernel
theorem dX2_init_0 : decode cX2_init 0 = .ok (.aload_n 0, 1) := by decide +kernel
theorem dX2_init_1 : decode cX2_init 1 = .ok (.invokespecial 3, 3) := by decide +kernel
theorem dX2_init_4 : decode cX2_init 4 = .ok (.aload_n 0, 1) := by decide +kernel
theorem dX2_init_5 : decode cX2_init 5 = .ok (.bipush 8, 2) := by decide +kernel
theorem dX2_init_7 : decode cX2_init 7 = .ok (.newarray .int, 2) := by decide +kernel
theorem dX2_init_9 : decode cX2_init 9 = .ok (.putfield 9, 3) := by decide +kernel
theorem dX2_init_12 : decode cX2_init 12 = .ok (.aload_n 0, 1) := by decide +kernel
theorem dX2_init_13 : decode cX2_init 13 = .ok (.bipush 40, 2) := by decide +kernel
theorem dX2_init_15 : decode cX2_init 15 = .ok (.newarray .int, 2) := by decide +kernel
theorem dX2_init_17 : decode cX2_init 17 = .ok (.putfield 15, 3) := by decide +kernel
theorem dX2_init_20 : decode cX2_init 20 = .ok (.return_, 1) := by decide +kernel
theorem dX2_liftOf_0 : decode cX2_liftOf 0 = .ok (.aload_n 1, 1) := by decide +kernel
theorem dX2_liftOf_1 : decode cX2_liftOf 1 = .ok (.invokevirtual 18, 3) := by decide +kernel
theorem dX2_liftOf_4 : decode cX2_liftOf 4 = .ok (.getfield 24, 3) := by decide +kernel
theorem dX2_liftOf_7 : decode cX2_liftOf 7 = .ok (.astore 5, 2) := by decide +kernel
theorem dX2_liftOf_9 : decode cX2_liftOf 9 = .ok (.aload 5, 2) := by decide +kernel
theorem dX2_liftOf_11 : decode cX2_liftOf 11 = .ok (.arraylength, 1) := by decide +kernel
theorem dX2_liftOf_12 : decode cX2_liftOf 12 = .ok (.ifCond .ne 23, 3) := by decide +kernel
theorem dX2_liftOf_15 : decode cX2_liftOf 15 = .ok (.aload_n 1, 1) := by decide +kernel
theorem dX2_liftOf_16 : decode cX2_liftOf 16 = .ok (.getfield 29, 3) := by decide +kernel
theorem dX2_liftOf_19 : decode cX2_liftOf 19 = .ok (.getfield 33, 3) := by decide +kernel
theorem dX2_liftOf_22 : decode cX2_liftOf 22 = .ok (.iload_n 2, 1) := by decide +kernel
theorem dX2_liftOf_23 : decode cX2_liftOf 23 = .ok (.iaload, 1) := by decide +kernel
theorem dX2_liftOf_24 : decode cX2_liftOf 24 = .ok (.aload_n 1, 1) := by decide +kernel
theorem dX2_liftOf_25 : decode cX2_liftOf 25 = .ok (.getfield 29, 3) := by decide +kernel
theorem dX2_liftOf_28 : decode cX2_liftOf 28 = .ok (.getfield 38, 3) := by decide +kernel
theorem dX2_liftOf_31 : decode cX2_liftOf 31 = .ok (.iload_n 2, 1) := by decide +kernel
theorem dX2_liftOf_32 : decode cX2_liftOf 32 = .ok (.iaload, 1) := by decide +kernel
theorem dX2_liftOf_33 : decode cX2_liftOf 33 = .ok (.imul, 1) := by decide +kernel
theorem dX2_liftOf_34 : decode cX2_liftOf 34 = .ok (.ireturn, 1) := by decide +kernel
theorem dX2_liftOf_35 : decode cX2_liftOf 35 = .ok (.aload_n 0, 1) := by decide +kernel
theorem dX2_liftOf_36 : decode cX2_liftOf 36 = .ok (.aload_n 1, 1) := by decide +kernel
theorem dX2_liftOf_37 : decode cX2_liftOf 37 = .ok (.getfield 29, 3) := by decide +kernel
theorem dX2_liftOf_40 : decode cX2_liftOf 40 = .ok (.iload_n 2, 1) := by decide +kernel
theorem dX2_liftOf_41 : decode cX2_liftOf 41 = .ok (.invokevirtual 41, 3) := by decide +kernel
theorem dX2_liftOf_44 : decode cX2_liftOf 44 = .ok (.aload_n 0, 1) := by decide +kernel
theorem dX2_liftOf_45 : decode cX2_liftOf 45 = .ok (.aload_n 1, 1) := by decide +kernel
theorem dX2_liftOf_46 : decode cX2_liftOf 46 = .ok (.getfield 45, 3) := by decide +kernel
theorem dX2_liftOf_49 : decode cX2_liftOf 49 = .ok (.iload_n 3, 1) := by decide +kernel
theorem dX2_liftOf_50 : decode cX2_liftOf 50 = .ok (.iload 4, 2) := by decide +kernel
theorem dX2_liftOf_52 : decode cX2_liftOf 52 = .ok (.invokevirtual 49, 3) := by decide +kernel
theorem dX2_liftOf_55 : decode cX2_liftOf 55 = .ok (.iconst 0, 1) := by decide +kernel
theorem dX2_liftOf_56 : decode cX2_liftOf 56 = .ok (.sipush 9999, 3) := by decide +kernel
theorem dX2_liftOf_59 : decode cX2_liftOf 59 = .ok (.aload_n 0, 1) := by decide +kernel
theorem dX2_liftOf_60 : decode cX2_liftOf 60 = .ok (.aload 5, 2) := by decide +kernel
theorem dX2_liftOf_62 : decode cX2_liftOf 62 = .ok (.invokevirtual 53, 3) := by decide +kernel
theorem dX2_liftOf_65 : decode cX2_liftOf 65 = .ok (.invokestatic 57, 3) := by decide +kernel
theorem dX2_liftOf_68 : decode cX2_liftOf 68 = .ok (.invokestatic 63, 3) := by decide +kernel
theorem dX2_liftOf_71 : decode cX2_liftOf 71 = .ok (.ireturn, 1) := by decide +kernel
theorem dX2_isLet_0 : decode cX2_isLet 0 = .ok (.aload_n 1, 1) := by decide +kernel
theorem dX2_isLet_1 : decode cX2_isLet 1 = .ok (.invokevirtual 18, 3) := by decide +kernel
theorem dX2_isLet_4 : decode cX2_isLet 4 = .ok (.getfield 66, 3) := by decide +kernel
theorem dX2_isLet_7 : decode cX2_isLet 7 = .ok (.astore 5, 2) := by decide +kernel
theorem dX2_isLet_9 : decode cX2_isLet 9 = .ok (.aload 5, 2) := by decide +kernel
theorem dX2_isLet_11 : decode cX2_isLet 11 = .ok (.arraylength, 1) := by decide +kernel
theorem dX2_isLet_12 : decode cX2_isLet 12 = .ok (.ifCond .ne 5, 3) := by decide +kernel
theorem dX2_isLet_15 : decode cX2_isLet 15 = .ok (.iconst 1, 1) := by decide +kernel
theorem dX2_isLet_16 : decode cX2_isLet 16 = .ok (.ireturn, 1) := by decide +kernel
theorem dX2_isLet_17 : decode cX2_isLet 17 = .ok (.aload_n 0, 1) := by decide +kernel
theorem dX2_isLet_18 : decode cX2_isLet 18 = .ok (.aload_n 1, 1) := by decide +kernel
theorem dX2_isLet_19 : decode cX2_isLet 19 = .ok (.getfield 29, 3) := by decide +kernel
theorem dX2_isLet_22 : decode cX2_isLet 22 = .ok (.iload_n 2, 1) := by decide +kernel
theorem dX2_isLet_23 : decode cX2_isLet 23 = .ok (.invokevirtual 41, 3) := by decide +kernel
theorem dX2_isLet_26 : decode cX2_isLet 26 = .ok (.aload_n 0, 1) := by decide +kernel
theorem dX2_isLet_27 : decode cX2_isLet 27 = .ok (.aload_n 1, 1) := by decide +kernel
theorem dX2_isLet_28 : decode cX2_isLet 28 = .ok (.getfield 45, 3) := by decide +kernel
theorem dX2_isLet_31 : decode cX2_isLet 31 = .ok (.iload_n 3, 1) := by decide +kernel
theorem dX2_isLet_32 : decode cX2_isLet 32 = .ok (.iload 4, 2) := by decide +kernel
theorem dX2_isLet_34 : decode cX2_isLet 34 = .ok (.invokevirtual 49, 3) := by decide +kernel
theorem dX2_isLet_37 : decode cX2_isLet 37 = .ok (.aload_n 0, 1) := by decide +kernel
theorem dX2_isLet_38 : decode cX2_isLet 38 = .ok (.aload 5, 2) := by decide +kernel
theorem dX2_isLet_40 : decode cX2_isLet 40 = .ok (.invokevirtual 53, 3) := by decide +kernel
theorem dX2_isLet_43 : decode cX2_isLet 43 = .ok (.ifCond .eq 7, 3) := by decide +kernel
theorem dX2_isLet_46 : decode cX2_isLet 46 = .ok (.iconst 1, 1) := by decide +kernel
theorem dX2_isLet_47 : decode cX2_isLet 47 = .ok (.goto 4, 3) := by decide +kernel
theorem dX2_isLet_50 : decode cX2_isLet 50 = .ok (.iconst 0, 1) := by decide +kernel
theorem dX2_isLet_51 : decode cX2_isLet 51 = .ok (.ireturn, 1) := by decide +kernel
theorem dX2_quarriesOf_0 : decode cX2_quarriesOf 0 = .ok (.aload_n 1, 1) := by decide +kernel
theorem dX2_quarriesOf_1 : decode cX2_quarriesOf 1 = .ok (.invokevirtual 18, 3) := by decide +kernel
theorem dX2_quarriesOf_4 : decode cX2_quarriesOf 4 = .ok (.getfield 69, 3) := by decide +kernel
theorem dX2_quarriesOf_7 : decode cX2_quarriesOf 7 = .ok (.astore_n 3, 1) := by decide +kernel
theorem dX2_quarriesOf_8 : decode cX2_quarriesOf 8 = .ok (.aload_n 3, 1) := by decide +kernel
theorem dX2_quarriesOf_9 : decode cX2_quarriesOf 9 = .ok (.arraylength, 1) := by decide +kernel
theorem dX2_quarriesOf_10 : decode cX2_quarriesOf 10 = .ok (.ifCond .ne 6, 3) := by decide +kernel
theorem dX2_quarriesOf_13 : decode cX2_quarriesOf 13 = .ok (.bipush 63, 2) := by decide +kernel
theorem dX2_quarriesOf_15 : decode cX2_quarriesOf 15 = .ok (.ireturn, 1) := by decide +kernel
theorem dX2_quarriesOf_16 : decode cX2_quarriesOf 16 = .ok (.aload_n 0, 1) := by decide +kernel
theorem dX2_quarriesOf_17 : decode cX2_quarriesOf 17 = .ok (.aload_n 1, 1) := by decide +kernel
theorem dX2_quarriesOf_18 : decode cX2_quarriesOf 18 = .ok (.getfield 29, 3) := by decide +kernel
theorem dX2_quarriesOf_21 : decode cX2_quarriesOf 21 = .ok (.iload_n 2, 1) := by decide +kernel
theorem dX2_quarriesOf_22 : decode cX2_quarriesOf 22 = .ok (.invokevirtual 41, 3) := by decide +kernel
theorem dX2_quarriesOf_25 : decode cX2_quarriesOf 25 = .ok (.iconst 0, 1) := by decide +kernel
theorem dX2_quarriesOf_26 : decode cX2_quarriesOf 26 = .ok (.istore 4, 2) := by decide +kernel
theorem dX2_quarriesOf_28 : decode cX2_quarriesOf 28 = .ok (.iconst 0, 1) := by decide +kernel
theorem dX2_quarriesOf_29 : decode cX2_quarriesOf 29 = .ok (.istore 5, 2) := by decide +kernel
theorem dX2_quarriesOf_31 : decode cX2_quarriesOf 31 = .ok (.iload 5, 2) := by decide +kernel
theorem dX2_quarriesOf_33 : decode cX2_quarriesOf 33 = .ok (.bipush 6, 2) := by decide +kernel
theorem dX2_quarriesOf_35 : decode cX2_quarriesOf 35 = .ok (.if_icmp .ge 35, 3) := by decide +kernel
theorem dX2_quarriesOf_38 : decode cX2_quarriesOf 38 = .ok (.aload_n 0, 1) := by decide +kernel
theorem dX2_quarriesOf_39 : decode cX2_quarriesOf 39 = .ok (.getfield 9, 3) := by decide +kernel
theorem dX2_quarriesOf_42 : decode cX2_quarriesOf 42 = .ok (.bipush 7, 2) := by decide +kernel
theorem dX2_quarriesOf_44 : decode cX2_quarriesOf 44 = .ok (.iload 5, 2) := by decide +kernel
theorem dX2_quarriesOf_46 : decode cX2_quarriesOf 46 = .ok (.iastore, 1) := by decide +kernel
theorem dX2_quarriesOf_47 : decode cX2_quarriesOf 47 = .ok (.aload_n 0, 1) := by decide +kernel
theorem dX2_quarriesOf_48 : decode cX2_quarriesOf 48 = .ok (.aload_n 3, 1) := by decide +kernel
theorem dX2_quarriesOf_49 : decode cX2_quarriesOf 49 = .ok (.invokevirtual 53, 3) := by decide +kernel
theorem dX2_quarriesOf_52 : decode cX2_quarriesOf 52 = .ok (.ifCond .eq 12, 3) := by decide +kernel
theorem dX2_quarriesOf_55 : decode cX2_quarriesOf 55 = .ok (.iload 4, 2) := by decide +kernel
theorem dX2_quarriesOf_57 : decode cX2_quarriesOf 57 = .ok (.iconst 1, 1) := by decide +kernel
theorem dX2_quarriesOf_58 : decode cX2_quarriesOf 58 = .ok (.iload 5, 2) := by decide +kernel
theorem dX2_quarriesOf_60 : decode cX2_quarriesOf 60 = .ok (.ishl, 1) := by decide +kernel
theorem dX2_quarriesOf_61 : decode cX2_quarriesOf 61 = .ok (.ior, 1) := by decide +kernel
theorem dX2_quarriesOf_62 : decode cX2_quarriesOf 62 = .ok (.istore 4, 2) := by decide +kernel
theorem dX2_quarriesOf_64 : decode cX2_quarriesOf 64 = .ok (.iinc 5 1, 3) := by decide +kernel
theorem dX2_quarriesOf_67 : decode cX2_quarriesOf 67 = .ok (.goto (-36), 3) := by decide +kernel
theorem dX2_quarriesOf_70 : decode cX2_quarriesOf 70 = .ok (.iload 4, 2) := by decide +kernel
theorem dX2_quarriesOf_72 : decode cX2_quarriesOf 72 = .ok (.ireturn, 1) := by decide +kernel
theorem dX2_setStone_0 : decode cX2_setStone 0 = .ok (.aload_n 0, 1) := by decide +kernel
theorem dX2_setStone_1 : decode cX2_setStone 1 = .ok (.getfield 9, 3) := by decide +kernel
theorem dX2_setStone_4 : decode cX2_setStone 4 = .ok (.iconst 0, 1) := by decide +kernel
theorem dX2_setStone_5 : decode cX2_setStone 5 = .ok (.iload_n 2, 1) := by decide +kernel
theorem dX2_setStone_6 : decode cX2_setStone 6 = .ok (.iastore, 1) := by decide +kernel
theorem dX2_setStone_7 : decode cX2_setStone 7 = .ok (.aload_n 0, 1) := by decide +kernel
theorem dX2_setStone_8 : decode cX2_setStone 8 = .ok (.getfield 9, 3) := by decide +kernel
theorem dX2_setStone_11 : decode cX2_setStone 11 = .ok (.iconst 1, 1) := by decide +kernel
theorem dX2_setStone_12 : decode cX2_setStone 12 = .ok (.aload_n 1, 1) := by decide +kernel
theorem dX2_setStone_13 : decode cX2_setStone 13 = .ok (.getfield 33, 3) := by decide +kernel
theorem dX2_setStone_16 : decode cX2_setStone 16 = .ok (.iload_n 2, 1) := by decide +kernel
theorem dX2_setStone_17 : decode cX2_setStone 17 = .ok (.iaload, 1) := by decide +kernel
theorem dX2_setStone_18 : decode cX2_setStone 18 = .ok (.iastore, 1) := by decide +kernel
theorem dX2_setStone_19 : decode cX2_setStone 19 = .ok (.aload_n 0, 1) := by decide +kernel
theorem dX2_setStone_20 : decode cX2_setStone 20 = .ok (.getfield 9, 3) := by decide +kernel
theorem dX2_setStone_23 : decode cX2_setStone 23 = .ok (.iconst 2, 1) := by decide +kernel
theorem dX2_setStone_24 : decode cX2_setStone 24 = .ok (.aload_n 1, 1) := by decide +kernel
theorem dX2_setStone_25 : decode cX2_setStone 25 = .ok (.getfield 38, 3) := by decide +kernel
theorem dX2_setStone_28 : decode cX2_setStone 28 = .ok (.iload_n 2, 1) := by decide +kernel
theorem dX2_setStone_29 : decode cX2_setStone 29 = .ok (.iaload, 1) := by decide +kernel
theorem dX2_setStone_30 : decode cX2_setStone 30 = .ok (.iastore, 1) := by decide +kernel
theorem dX2_setStone_31 : decode cX2_setStone 31 = .ok (.aload_n 0, 1) := by decide +kernel
theorem dX2_setStone_32 : decode cX2_setStone 32 = .ok (.getfield 9, 3) := by decide +kernel
theorem dX2_setStone_35 : decode cX2_setStone 35 = .ok (.iconst 3, 1) := by decide +kernel
theorem dX2_setStone_36 : decode cX2_setStone 36 = .ok (.aload_n 1, 1) := by decide +kernel
theorem dX2_setStone_37 : decode cX2_setStone 37 = .ok (.getfield 72, 3) := by decide +kernel
theorem dX2_setStone_40 : decode cX2_setStone 40 = .ok (.iload_n 2, 1) := by decide +kernel
theorem dX2_setStone_41 : decode cX2_setStone 41 = .ok (.iaload, 1) := by decide +kernel
theorem dX2_setStone_42 : decode cX2_setStone 42 = .ok (.iastore, 1) := by decide +kernel
theorem dX2_setStone_43 : decode cX2_setStone 43 = .ok (.return_, 1) := by decide +kernel
theorem dX2_setPlace_0 : decode cX2_setPlace 0 = .ok (.aload_n 0, 1) := by decide +kernel
theorem dX2_setPlace_1 : decode cX2_setPlace 1 = .ok (.getfield 9, 3) := by decide +kernel
theorem dX2_setPlace_4 : decode cX2_setPlace 4 = .ok (.iconst 4, 1) := by decide +kernel
theorem dX2_setPlace_5 : decode cX2_setPlace 5 = .ok (.iload_n 2, 1) := by decide +kernel
theorem dX2_setPlace_6 : decode cX2_setPlace 6 = .ok (.iastore, 1) := by decide +kernel
theorem dX2_setPlace_7 : decode cX2_setPlace 7 = .ok (.aload_n 0, 1) := by decide +kernel
theorem dX2_setPlace_8 : decode cX2_setPlace 8 = .ok (.getfield 9, 3) := by decide +kernel
theorem dX2_setPlace_11 : decode cX2_setPlace 11 = .ok (.iconst 5, 1) := by decide +kernel
theorem dX2_setPlace_12 : decode cX2_setPlace 12 = .ok (.iload_n 3, 1) := by decide +kernel
theorem dX2_setPlace_13 : decode cX2_setPlace 13 = .ok (.iastore, 1) := by decide +kernel
theorem dX2_setPlace_14 : decode cX2_setPlace 14 = .ok (.aload_n 0, 1) := by decide +kernel
theorem dX2_setPlace_15 : decode cX2_setPlace 15 = .ok (.getfield 9, 3) := by decide +kernel
theorem dX2_setPlace_18 : decode cX2_setPlace 18 = .ok (.bipush 6, 2) := by decide +kernel
theorem dX2_setPlace_20 : decode cX2_setPlace 20 = .ok (.iload_n 1, 1) := by decide +kernel
theorem dX2_setPlace_21 : decode cX2_setPlace 21 = .ok (.iload_n 2, 1) := by decide +kernel
theorem dX2_setPlace_22 : decode cX2_setPlace 22 = .ok (.iadd, 1) := by decide +kernel
theorem dX2_setPlace_23 : decode cX2_setPlace 23 = .ok (.bipush 24, 2) := by decide +kernel
theorem dX2_setPlace_25 : decode cX2_setPlace 25 = .ok (.irem, 1) := by decide +kernel
theorem dX2_setPlace_26 : decode cX2_setPlace 26 = .ok (.iastore, 1) := by decide +kernel
theorem dX2_setPlace_27 : decode cX2_setPlace 27 = .ok (.return_, 1) := by decide +kernel
theorem dX2_run_0 : decode cX2_run 0 = .ok (.iconst 0, 1) := by decide +kernel
theorem dX2_run_1 : decode cX2_run 1 = .ok (.istore_n 2, 1) := by decide +kernel
theorem dX2_run_2 : decode cX2_run 2 = .ok (.iconst 0, 1) := by decide +kernel
theorem dX2_run_3 : decode cX2_run 3 = .ok (.istore_n 3, 1) := by decide +kernel
theorem dX2_run_4 : decode cX2_run 4 = .ok (.iload_n 3, 1) := by decide +kernel
theorem dX2_run_5 : decode cX2_run 5 = .ok (.aload_n 1, 1) := by decide +kernel
theorem dX2_run_6 : decode cX2_run 6 = .ok (.arraylength, 1) := by decide +kernel
theorem dX2_run_7 : decode cX2_run 7 = .ok (.if_icmp .ge 173, 3) := by decide +kernel
theorem dX2_run_10 : decode cX2_run 10 = .ok (.aload_n 1, 1) := by decide +kernel
theorem dX2_run_11 : decode cX2_run 11 = .ok (.iload_n 3, 1) := by decide +kernel
theorem dX2_run_12 : decode cX2_run 12 = .ok (.iaload, 1) := by decide +kernel
theorem dX2_run_13 : decode cX2_run 13 = .ok (.sipush 10000, 3) := by decide +kernel
theorem dX2_run_16 : decode cX2_run 16 = .ok (.isub, 1) := by decide +kernel
theorem dX2_run_17 : decode cX2_run 17 = .ok (.istore 4, 2) := by decide +kernel
theorem dX2_run_19 : decode cX2_run 19 = .ok (.iload 4, 2) := by decide +kernel
theorem dX2_run_21 : decode cX2_run 21 = .ok (.bipush 8, 2) := by decide +kernel
theorem dX2_run_23 : decode cX2_run 23 = .ok (.if_icmp .ge 39, 3) := by decide +kernel
theorem dX2_run_26 : decode cX2_run 26 = .ok (.iload_n 2, 1) := by decide +kernel
theorem dX2_run_27 : decode cX2_run 27 = .ok (.bipush 40, 2) := by decide +kernel
theorem dX2_run_29 : decode cX2_run 29 = .ok (.if_icmp .ge 145, 3) := by decide +kernel
theorem dX2_run_32 : decode cX2_run 32 = .ok (.aload_n 0, 1) := by decide +kernel
theorem dX2_run_33 : decode cX2_run 33 = .ok (.getfield 15, 3) := by decide +kernel
theorem dX2_run_36 : decode cX2_run 36 = .ok (.iload_n 2, 1) := by decide +kernel
theorem dX2_run_37 : decode cX2_run 37 = .ok (.iload 4, 2) := by decide +kernel
theorem dX2_run_39 : decode cX2_run 39 = .ok (.ifCond .ge 9, 3) := by decide +kernel
theorem dX2_run_42 : decode cX2_run 42 = .ok (.aload_n 1, 1) := by decide +kernel
theorem dX2_run_43 : decode cX2_run 43 = .ok (.iload_n 3, 1) := by decide +kernel
theorem dX2_run_44 : decode cX2_run 44 = .ok (.iaload, 1) := by decide +kernel
theorem dX2_run_45 : decode cX2_run 45 = .ok (.goto 10, 3) := by decide +kernel
theorem dX2_run_48 : decode cX2_run 48 = .ok (.aload_n 0, 1) := by decide +kernel
theorem dX2_run_49 : decode cX2_run 49 = .ok (.getfield 9, 3) := by decide +kernel
theorem dX2_run_52 : decode cX2_run 52 = .ok (.iload 4, 2) := by decide +kernel
theorem dX2_run_54 : decode cX2_run 54 = .ok (.iaload, 1) := by decide +kernel
theorem dX2_run_55 : decode cX2_run 55 = .ok (.iastore, 1) := by decide +kernel
theorem dX2_run_56 : decode cX2_run 56 = .ok (.iinc 2 1, 3) := by decide +kernel
theorem dX2_run_59 : decode cX2_run 59 = .ok (.goto 115, 3) := by decide +kernel
theorem dX2_run_62 : decode cX2_run 62 = .ok (.iload 4, 2) := by decide +kernel
theorem dX2_run_64 : decode cX2_run 64 = .ok (.bipush 17, 2) := by decide +kernel
theorem dX2_run_66 : decode cX2_run 66 = .ok (.if_icmp .eq 10, 3) := by decide +kernel
theorem dX2_run_69 : decode cX2_run 69 = .ok (.iload 4, 2) := by decide +kernel
theorem dX2_run_71 : decode cX2_run 71 = .ok (.bipush 33, 2) := by decide +kernel
theorem dX2_run_73 : decode cX2_run 73 = .ok (.if_icmp .ne 46, 3) := by decide +kernel
theorem dX2_run_76 : decode cX2_run 76 = .ok (.iload_n 2, 1) := by decide +kernel
theorem dX2_run_77 : decode cX2_run 77 = .ok (.iconst 1, 1) := by decide +kernel
theorem dX2_run_78 : decode cX2_run 78 = .ok (.if_icmp .lt 96, 3) := by decide +kernel
theorem dX2_run_81 : decode cX2_run 81 = .ok (.aload_n 0, 1) := by decide +kernel
theorem dX2_run_82 : decode cX2_run 82 = .ok (.getfield 15, 3) := by decide +kernel
theorem dX2_run_85 : decode cX2_run 85 = .ok (.iload_n 2, 1) := by decide +kernel
theorem dX2_run_86 : decode cX2_run 86 = .ok (.iconst 1, 1) := by decide +kernel
theorem dX2_run_87 : decode cX2_run 87 = .ok (.isub, 1) := by decide +kernel
theorem dX2_run_88 : decode cX2_run 88 = .ok (.iaload, 1) := by decide +kernel
theorem dX2_run_89 : decode cX2_run 89 = .ok (.istore 5, 2) := by decide +kernel
theorem dX2_run_91 : decode cX2_run 91 = .ok (.aload_n 0, 1) := by decide +kernel
theorem dX2_run_92 : decode cX2_run 92 = .ok (.getfield 15, 3) := by decide +kernel
theorem dX2_run_95 : decode cX2_run 95 = .ok (.iload_n 2, 1) := by decide +kernel
theorem dX2_run_96 : decode cX2_run 96 = .ok (.iconst 1, 1) := by decide +kernel
theorem dX2_run_97 : decode cX2_run 97 = .ok (.isub, 1) := by decide +kernel
theorem dX2_run_98 : decode cX2_run 98 = .ok (.iload 4, 2) := by decide +kernel
theorem dX2_run_100 : decode cX2_run 100 = .ok (.bipush 17, 2) := by decide +kernel
theorem dX2_run_102 : decode cX2_run 102 = .ok (.if_icmp .ne 10, 3) := by decide +kernel
theorem dX2_run_105 : decode cX2_run 105 = .ok (.iconst 1, 1) := by decide +kernel
theorem dX2_run_106 : decode cX2_run 106 = .ok (.iload 5, 2) := by decide +kernel
theorem dX2_run_108 : decode cX2_run 108 = .ok (.isub, 1) := by decide +kernel
theorem dX2_run_109 : decode cX2_run 109 = .ok (.goto 6, 3) := by decide +kernel
theorem dX2_run_112 : decode cX2_run 112 = .ok (.iload 5, 2) := by decide +kernel
theorem dX2_run_114 : decode cX2_run 114 = .ok (.ineg, 1) := by decide +kernel
theorem dX2_run_115 : decode cX2_run 115 = .ok (.iastore, 1) := by decide +kernel
theorem dX2_run_116 : decode cX2_run 116 = .ok (.goto 58, 3) := by decide +kernel
theorem dX2_run_119 : decode cX2_run 119 = .ok (.iload_n 2, 1) := by decide +kernel
theorem dX2_run_120 : decode cX2_run 120 = .ok (.iconst 2, 1) := by decide +kernel
theorem dX2_run_121 : decode cX2_run 121 = .ok (.if_icmp .lt 53, 3) := by decide +kernel
theorem dX2_run_124 : decode cX2_run 124 = .ok (.iinc 2 (-1), 3) := by decide +kernel
theorem dX2_run_127 : decode cX2_run 127 = .ok (.aload_n 0, 1) := by decide +kernel
theorem dX2_run_128 : decode cX2_run 128 = .ok (.iload 4, 2) := by decide +kernel
theorem dX2_run_130 : decode cX2_run 130 = .ok (.aload_n 0, 1) := by decide +kernel
theorem dX2_run_131 : decode cX2_run 131 = .ok (.getfield 15, 3) := by decide +kernel
theorem dX2_run_134 : decode cX2_run 134 = .ok (.iload_n 2, 1) := by decide +kernel
theorem dX2_run_135 : decode cX2_run 135 = .ok (.iconst 1, 1) := by decide +kernel
theorem dX2_run_136 : decode cX2_run 136 = .ok (.isub, 1) := by decide +kernel
theorem dX2_run_137 : decode cX2_run 137 = .ok (.iaload, 1) := by decide +kernel
theorem dX2_run_138 : decode cX2_run 138 = .ok (.i2l, 1) := by decide +kernel
theorem dX2_run_139 : decode cX2_run 139 = .ok (.aload_n 0, 1) := by decide +kernel
theorem dX2_run_140 : decode cX2_run 140 = .ok (.getfield 15, 3) := by decide +kernel
theorem dX2_run_143 : decode cX2_run 143 = .ok (.iload_n 2, 1) := by decide +kernel
theorem dX2_run_144 : decode cX2_run 144 = .ok (.iaload, 1) := by decide +kernel
theorem dX2_run_145 : decode cX2_run 145 = .ok (.i2l, 1) := by decide +kernel
theorem dX2_run_146 : decode cX2_run 146 = .ok (.invokevirtual 75, 3) := by decide +kernel
theorem dX2_run_149 : decode cX2_run 149 = .ok (.lstore 5, 2) := by decide +kernel
theorem dX2_run_151 : decode cX2_run 151 = .ok (.aload_n 0, 1) := by decide +kernel
theorem dX2_run_152 : decode cX2_run 152 = .ok (.getfield 15, 3) := by decide +kernel
theorem dX2_run_155 : decode cX2_run 155 = .ok (.iload_n 2, 1) := by decide +kernel
theorem dX2_run_156 : decode cX2_run 156 = .ok (.iconst 1, 1) := by decide +kernel
theorem dX2_run_157 : decode cX2_run 157 = .ok (.isub, 1) := by decide +kernel
theorem dX2_run_158 : decode cX2_run 158 = .ok (.ldc2_w 79, 3) := by decide +kernel
theorem dX2_run_161 : decode cX2_run 161 = .ok (.ldc2_w 81, 3) := by decide +kernel
theorem dX2_run_164 : decode cX2_run 164 = .ok (.lload 5, 2) := by decide +kernel
theorem dX2_run_166 : decode cX2_run 166 = .ok (.invokestatic 83, 3) := by decide +kernel
theorem dX2_run_169 : decode cX2_run 169 = .ok (.invokestatic 86, 3) := by decide +kernel
theorem dX2_run_172 : decode cX2_run 172 = .ok (.l2i, 1) := by decide +kernel
theorem dX2_run_173 : decode cX2_run 173 = .ok (.iastore, 1) := by decide +kernel
theorem dX2_run_174 : decode cX2_run 174 = .ok (.iinc 3 1, 3) := by decide +kernel
theorem dX2_run_177 : decode cX2_run 177 = .ok (.goto (-173), 3) := by decide +kernel
theorem dX2_run_180 : decode cX2_run 180 = .ok (.iload_n 2, 1) := by decide +kernel
theorem dX2_run_181 : decode cX2_run 181 = .ok (.iconst 1, 1) := by decide +kernel
theorem dX2_run_182 : decode cX2_run 182 = .ok (.if_icmp .lt 14, 3) := by decide +kernel
theorem dX2_run_185 : decode cX2_run 185 = .ok (.aload_n 0, 1) := by decide +kernel
theorem dX2_run_186 : decode cX2_run 186 = .ok (.getfield 15, 3) := by decide +kernel
theorem dX2_run_189 : decode cX2_run 189 = .ok (.iload_n 2, 1) := by decide +kernel
theorem dX2_run_190 : decode cX2_run 190 = .ok (.iconst 1, 1) := by decide +kernel
theorem dX2_run_191 : decode cX2_run 191 = .ok (.isub, 1) := by decide +kernel
theorem dX2_run_192 : decode cX2_run 192 = .ok (.iaload, 1) := by decide +kernel
theorem dX2_run_193 : decode cX2_run 193 = .ok (.goto 4, 3) := by decide +kernel
theorem dX2_run_196 : decode cX2_run 196 = .ok (.iconst 0, 1) := by decide +kernel
theorem dX2_run_197 : decode cX2_run 197 = .ok (.ireturn, 1) := by decide +kernel
theorem dX2_outcome_0 : decode cX2_outcome 0 = .ok (.iload_n 1, 1) := by decide +kernel
theorem dX2_outcome_1 : decode cX2_outcome 1 = .ok (.tableswitch 206 15 32 #[201, 196, 206, 206, 206, 118, 144, 170, 183, 87, 92, 97, 102, 206, 206, 206, 131, 157], 87) := by decide +kernel
theorem dX2_outcome_88 : decode cX2_outcome 88 = .ok (.lload_n 2, 1) := by decide +kernel
theorem dX2_outcome_89 : decode cX2_outcome 89 = .ok (.lload 4, 2) := by decide +kernel
theorem dX2_outcome_91 : decode cX2_outcome 91 = .ok (.ladd, 1) := by decide +kernel
theorem dX2_outcome_92 : decode cX2_outcome 92 = .ok (.lreturn, 1) := by decide +kernel
theorem dX2_outcome_93 : decode cX2_outcome 93 = .ok (.lload_n 2, 1) := by decide +kernel
theorem dX2_outcome_94 : decode cX2_outcome 94 = .ok (.lload 4, 2) := by decide +kernel
theorem dX2_outcome_96 : decode cX2_outcome 96 = .ok (.lsub, 1) := by decide +kernel
theorem dX2_outcome_97 : decode cX2_outcome 97 = .ok (.lreturn, 1) := by decide +kernel
theorem dX2_outcome_98 : decode cX2_outcome 98 = .ok (.lload_n 2, 1) := by decide +kernel
theorem dX2_outcome_99 : decode cX2_outcome 99 = .ok (.lload 4, 2) := by decide +kernel
theorem dX2_outcome_101 : decode cX2_outcome 101 = .ok (.lmul, 1) := by decide +kernel
theorem dX2_outcome_102 : decode cX2_outcome 102 = .ok (.lreturn, 1) := by decide +kernel
theorem dX2_outcome_103 : decode cX2_outcome 103 = .ok (.lload 4, 2) := by decide +kernel
theorem dX2_outcome_105 : decode cX2_outcome 105 = .ok (.lconst 0, 1) := by decide +kernel
theorem dX2_outcome_106 : decode cX2_outcome 106 = .ok (.lcmp, 1) := by decide +kernel
theorem dX2_outcome_107 : decode cX2_outcome 107 = .ok (.ifCond .ne 7, 3) := by decide +kernel
theorem dX2_outcome_110 : decode cX2_outcome 110 = .ok (.lconst 0, 1) := by decide +kernel
theorem dX2_outcome_111 : decode cX2_outcome 111 = .ok (.goto 7, 3) := by decide +kernel
theorem dX2_outcome_114 : decode cX2_outcome 114 = .ok (.lload_n 2, 1) := by decide +kernel
theorem dX2_outcome_115 : decode cX2_outcome 115 = .ok (.lload 4, 2) := by decide +kernel
theorem dX2_outcome_117 : decode cX2_outcome 117 = .ok (.ldiv, 1) := by decide +kernel
theorem dX2_outcome_118 : decode cX2_outcome 118 = .ok (.lreturn, 1) := by decide +kernel
theorem dX2_outcome_119 : decode cX2_outcome 119 = .ok (.lload_n 2, 1) := by decide +kernel
theorem dX2_outcome_120 : decode cX2_outcome 120 = .ok (.lload 4, 2) := by decide +kernel
theorem dX2_outcome_122 : decode cX2_outcome 122 = .ok (.lcmp, 1) := by decide +kernel
theorem dX2_outcome_123 : decode cX2_outcome 123 = .ok (.ifCond .ge 7, 3) := by decide +kernel
theorem dX2_outcome_126 : decode cX2_outcome 126 = .ok (.lconst 1, 1) := by decide +kernel
theorem dX2_outcome_127 : decode cX2_outcome 127 = .ok (.goto 4, 3) := by decide +kernel
theorem dX2_outcome_130 : decode cX2_outcome 130 = .ok (.lconst 0, 1) := by decide +kernel
theorem dX2_outcome_131 : decode cX2_outcome 131 = .ok (.lreturn, 1) := by decide +kernel
theorem dX2_outcome_132 : decode cX2_outcome 132 = .ok (.lload_n 2, 1) := by decide +kernel
theorem dX2_outcome_133 : decode cX2_outcome 133 = .ok (.lload 4, 2) := by decide +kernel
theorem dX2_outcome_135 : decode cX2_outcome 135 = .ok (.lcmp, 1) := by decide +kernel
theorem dX2_outcome_136 : decode cX2_outcome 136 = .ok (.ifCond .gt 7, 3) := by decide +kernel
theorem dX2_outcome_139 : decode cX2_outcome 139 = .ok (.lconst 1, 1) := by decide +kernel
theorem dX2_outcome_140 : decode cX2_outcome 140 = .ok (.goto 4, 3) := by decide +kernel
theorem dX2_outcome_143 : decode cX2_outcome 143 = .ok (.lconst 0, 1) := by decide +kernel
theorem dX2_outcome_144 : decode cX2_outcome 144 = .ok (.lreturn, 1) := by decide +kernel
theorem dX2_outcome_145 : decode cX2_outcome 145 = .ok (.lload_n 2, 1) := by decide +kernel
theorem dX2_outcome_146 : decode cX2_outcome 146 = .ok (.lload 4, 2) := by decide +kernel
theorem dX2_outcome_148 : decode cX2_outcome 148 = .ok (.lcmp, 1) := by decide +kernel
theorem dX2_outcome_149 : decode cX2_outcome 149 = .ok (.ifCond .le 7, 3) := by decide +kernel
theorem dX2_outcome_152 : decode cX2_outcome 152 = .ok (.lconst 1, 1) := by decide +kernel
theorem dX2_outcome_153 : decode cX2_outcome 153 = .ok (.goto 4, 3) := by decide +kernel
theorem dX2_outcome_156 : decode cX2_outcome 156 = .ok (.lconst 0, 1) := by decide +kernel
theorem dX2_outcome_157 : decode cX2_outcome 157 = .ok (.lreturn, 1) := by decide +kernel
theorem dX2_outcome_158 : decode cX2_outcome 158 = .ok (.lload_n 2, 1) := by decide +kernel
theorem dX2_outcome_159 : decode cX2_outcome 159 = .ok (.lload 4, 2) := by decide +kernel
theorem dX2_outcome_161 : decode cX2_outcome 161 = .ok (.lcmp, 1) := by decide +kernel
theorem dX2_outcome_162 : decode cX2_outcome 162 = .ok (.ifCond .lt 7, 3) := by decide +kernel
theorem dX2_outcome_165 : decode cX2_outcome 165 = .ok (.lconst 1, 1) := by decide +kernel
theorem dX2_outcome_166 : decode cX2_outcome 166 = .ok (.goto 4, 3) := by decide +kernel
theorem dX2_outcome_169 : decode cX2_outcome 169 = .ok (.lconst 0, 1) := by decide +kernel
theorem dX2_outcome_170 : decode cX2_outcome 170 = .ok (.lreturn, 1) := by decide +kernel
theorem dX2_outcome_171 : decode cX2_outcome 171 = .ok (.lload_n 2, 1) := by decide +kernel
theorem dX2_outcome_172 : decode cX2_outcome 172 = .ok (.lload 4, 2) := by decide +kernel
theorem dX2_outcome_174 : decode cX2_outcome 174 = .ok (.lcmp, 1) := by decide +kernel
theorem dX2_outcome_175 : decode cX2_outcome 175 = .ok (.ifCond .ne 7, 3) := by decide +kernel
theorem dX2_outcome_178 : decode cX2_outcome 178 = .ok (.lconst 1, 1) := by decide +kernel
theorem dX2_outcome_179 : decode cX2_outcome 179 = .ok (.goto 4, 3) := by decide +kernel
theorem dX2_outcome_182 : decode cX2_outcome 182 = .ok (.lconst 0, 1) := by decide +kernel
theorem dX2_outcome_183 : decode cX2_outcome 183 = .ok (.lreturn, 1) := by decide +kernel
theorem dX2_outcome_184 : decode cX2_outcome 184 = .ok (.lload_n 2, 1) := by decide +kernel
theorem dX2_outcome_185 : decode cX2_outcome 185 = .ok (.lload 4, 2) := by decide +kernel
theorem dX2_outcome_187 : decode cX2_outcome 187 = .ok (.lcmp, 1) := by decide +kernel
theorem dX2_outcome_188 : decode cX2_outcome 188 = .ok (.ifCond .eq 7, 3) := by decide +kernel
theorem dX2_outcome_191 : decode cX2_outcome 191 = .ok (.lconst 1, 1) := by decide +kernel
theorem dX2_outcome_192 : decode cX2_outcome 192 = .ok (.goto 4, 3) := by decide +kernel
theorem dX2_outcome_195 : decode cX2_outcome 195 = .ok (.lconst 0, 1) := by decide +kernel
theorem dX2_outcome_196 : decode cX2_outcome 196 = .ok (.lreturn, 1) := by decide +kernel
theorem dX2_outcome_197 : decode cX2_outcome 197 = .ok (.lload_n 2, 1) := by decide +kernel
theorem dX2_outcome_198 : decode cX2_outcome 198 = .ok (.lload 4, 2) := by decide +kernel
theorem dX2_outcome_200 : decode cX2_outcome 200 = .ok (.land, 1) := by decide +kernel
theorem dX2_outcome_201 : decode cX2_outcome 201 = .ok (.lreturn, 1) := by decide +kernel
theorem dX2_outcome_202 : decode cX2_outcome 202 = .ok (.lload_n 2, 1) := by decide +kernel
theorem dX2_outcome_203 : decode cX2_outcome 203 = .ok (.lload 4, 2) := by decide +kernel
theorem dX2_outcome_205 : decode cX2_outcome 205 = .ok (.lor, 1) := by decide +kernel
theorem dX2_outcome_206 : decode cX2_outcome 206 = .ok (.lreturn, 1) := by decide +kernel
theorem dX2_outcome_207 : decode cX2_outcome 207 = .ok (.lconst 0, 1) := by decide +kernel
theorem dX2_outcome_208 : decode cX2_outcome 208 = .ok (.lreturn, 1) := by decide +kernel
theorem dX3_init_0 : decode cX3_init 0 = .ok (.aload_n 0, 1) := by decide +kernel
theorem dX3_init_1 : decode cX3_init 1 = .ok (.invokespecial 3, 3) := by decide +kernel
theorem dX3_init_4 : decode cX3_init 4 = .ok (.aload_n 0, 1) := by decide +kernel
theorem dX3_init_5 : decode cX3_init 5 = .ok (.sipush 3168, 3) := by decide +kernel
theorem dX3_init_8 : decode cX3_init 8 = .ok (.newarray .int, 2) := by decide +kernel
theorem dX3_init_10 : decode cX3_init 10 = .ok (.putfield 11, 3) := by decide +kernel
theorem dX3_init_13 : decode cX3_init 13 = .ok (.aload_n 0, 1) := by decide +kernel
theorem dX3_init_14 : decode cX3_init 14 = .ok (.sipush 4096, 3) := by decide +kernel
theorem dX3_init_17 : decode cX3_init 17 = .ok (.newarray .int, 2) := by decide +kernel
theorem dX3_init_19 : decode cX3_init 19 = .ok (.putfield 15, 3) := by decide +kernel
theorem dX3_init_22 : decode cX3_init 22 = .ok (.aload_n 0, 1) := by decide +kernel
theorem dX3_init_23 : decode cX3_init 23 = .ok (.bipush 12, 2) := by decide +kernel
theorem dX3_init_25 : decode cX3_init 25 = .ok (.newarray .int, 2) := by decide +kernel
theorem dX3_init_27 : decode cX3_init 27 = .ok (.putfield 18, 3) := by decide +kernel
theorem dX3_init_30 : decode cX3_init 30 = .ok (.aload_n 0, 1) := by decide +kernel
theorem dX3_init_31 : decode cX3_init 31 = .ok (.new 21, 3) := by decide +kernel
theorem dX3_init_34 : decode cX3_init 34 = .ok (.dup, 1) := by decide +kernel
theorem dX3_init_35 : decode cX3_init 35 = .ok (.invokespecial 23, 3) := by decide +kernel
theorem dX3_init_38 : decode cX3_init 38 = .ok (.putfield 24, 3) := by decide +kernel
theorem dX3_init_41 : decode cX3_init 41 = .ok (.aload_n 0, 1) := by decide +kernel
theorem dX3_init_42 : decode cX3_init 42 = .ok (.iconst 0, 1) := by decide +kernel
theorem dX3_init_43 : decode cX3_init 43 = .ok (.putfield 28, 3) := by decide +kernel
theorem dX3_init_46 : decode cX3_init 46 = .ok (.aload_n 0, 1) := by decide +kernel
theorem dX3_init_47 : decode cX3_init 47 = .ok (.iconst 0, 1) := by decide +kernel
theorem dX3_init_48 : decode cX3_init 48 = .ok (.putfield 32, 3) := by decide +kernel
theorem dX3_init_51 : decode cX3_init 51 = .ok (.aload_n 0, 1) := by decide +kernel
theorem dX3_init_52 : decode cX3_init 52 = .ok (.iconst 0, 1) := by decide +kernel
theorem dX3_init_53 : decode cX3_init 53 = .ok (.putfield 36, 3) := by decide +kernel
theorem dX3_init_56 : decode cX3_init 56 = .ok (.aload_n 0, 1) := by decide +kernel
theorem dX3_init_57 : decode cX3_init 57 = .ok (.lconst 0, 1) := by decide +kernel
theorem dX3_init_58 : decode cX3_init 58 = .ok (.putfield 39, 3) := by decide +kernel
theorem dX3_init_61 : decode cX3_init 61 = .ok (.aload_n 0, 1) := by decide +kernel
theorem dX3_init_62 : decode cX3_init 62 = .ok (.lconst 0, 1) := by decide +kernel
theorem dX3_init_63 : decode cX3_init 63 = .ok (.putfield 43, 3) := by decide +kernel
theorem dX3_init_66 : decode cX3_init 66 = .ok (.aload_n 0, 1) := by decide +kernel
theorem dX3_init_67 : decode cX3_init 67 = .ok (.iconst 0, 1) := by decide +kernel
theorem dX3_init_68 : decode cX3_init 68 = .ok (.putfield 46, 3) := by decide +kernel
theorem dX3_init_71 : decode cX3_init 71 = .ok (.aload_n 0, 1) := by decide +kernel
theorem dX3_init_72 : decode cX3_init 72 = .ok (.iconst 0, 1) := by decide +kernel
theorem dX3_init_73 : decode cX3_init 73 = .ok (.putfield 49, 3) := by decide +kernel
theorem dX3_init_76 : decode cX3_init 76 = .ok (.return_, 1) := by decide +kernel
theorem dX3_forget_0 : decode cX3_forget 0 = .ok (.aload_n 0, 1) := by decide +kernel
theorem dX3_forget_1 : decode cX3_forget 1 = .ok (.iconst 0, 1) := by decide +kernel
theorem dX3_forget_2 : decode cX3_forget 2 = .ok (.putfield 28, 3) := by decide +kernel
theorem dX3_forget_5 : decode cX3_forget 5 = .ok (.return_, 1) := by decide +kernel
theorem dX3_prepare_0 : decode cX3_prepare 0 = .ok (.aload_n 0, 1) := by decide +kernel
theorem dX3_prepare_1 : decode cX3_prepare 1 = .ok (.getfield 28, 3) := by decide +kernel
theorem dX3_prepare_4 : decode cX3_prepare 4 = .ok (.ifCond .eq 4, 3) := by decide +kernel
theorem dX3_prepare_7 : decode cX3_prepare 7 = .ok (.return_, 1) := by decide +kernel
theorem dX3_prepare_8 : decode cX3_prepare 8 = .ok (.aload_n 0, 1) := by decide +kernel
theorem dX3_prepare_9 : decode cX3_prepare 9 = .ok (.getfield 11, 3) := by decide +kernel
theorem dX3_prepare_12 : decode cX3_prepare 12 = .ok (.bipush (-2), 2) := by decide +kernel
theorem dX3_prepare_14 : decode cX3_prepare 14 = .ok (.invokestatic 52, 3) := by decide +kernel
theorem dX3_prepare_17 : decode cX3_prepare 17 = .ok (.aload_n 0, 1) := by decide +kernel
theorem dX3_prepare_18 : decode cX3_prepare 18 = .ok (.aload_n 1, 1) := by decide +kernel
theorem dX3_prepare_19 : decode cX3_prepare 19 = .ok (.aload_n 1, 1) := by decide +kernel
theorem dX3_prepare_20 : decode cX3_prepare 20 = .ok (.getfield 58, 3) := by decide +kernel
theorem dX3_prepare_23 : decode cX3_prepare 23 = .ok (.getfield 64, 3) := by decide +kernel
theorem dX3_prepare_26 : decode cX3_prepare 26 = .ok (.iconst 0, 1) := by decide +kernel
theorem dX3_prepare_27 : decode cX3_prepare 27 = .ok (.invokevirtual 69, 3) := by decide +kernel
theorem dX3_prepare_30 : decode cX3_prepare 30 = .ok (.aload_n 0, 1) := by decide +kernel
theorem dX3_prepare_31 : decode cX3_prepare 31 = .ok (.aload_n 0, 1) := by decide +kernel
theorem dX3_prepare_32 : decode cX3_prepare 32 = .ok (.getfield 15, 3) := by decide +kernel
theorem dX3_prepare_35 : decode cX3_prepare 35 = .ok (.aload_n 1, 1) := by decide +kernel
theorem dX3_prepare_36 : decode cX3_prepare 36 = .ok (.getfield 58, 3) := by decide +kernel
theorem dX3_prepare_39 : decode cX3_prepare 39 = .ok (.invokevirtual 73, 3) := by decide +kernel
theorem dX3_prepare_42 : decode cX3_prepare 42 = .ok (.iaload, 1) := by decide +kernel
theorem dX3_prepare_43 : decode cX3_prepare 43 = .ok (.i2l, 1) := by decide +kernel
theorem dX3_prepare_44 : decode cX3_prepare 44 = .ok (.putfield 39, 3) := by decide +kernel
theorem dX3_prepare_47 : decode cX3_prepare 47 = .ok (.aload_n 0, 1) := by decide +kernel
theorem dX3_prepare_48 : decode cX3_prepare 48 = .ok (.aload_n 1, 1) := by decide +kernel
theorem dX3_prepare_49 : decode cX3_prepare 49 = .ok (.getfield 58, 3) := by decide +kernel
theorem dX3_prepare_52 : decode cX3_prepare 52 = .ok (.invokevirtual 73, 3) := by decide +kernel
theorem dX3_prepare_55 : decode cX3_prepare 55 = .ok (.invokevirtual 77, 3) := by decide +kernel
theorem dX3_prepare_58 : decode cX3_prepare 58 = .ok (.istore_n 2, 1) := by decide +kernel
theorem dX3_prepare_59 : decode cX3_prepare 59 = .ok (.aload_n 0, 1) := by decide +kernel
theorem dX3_prepare_60 : decode cX3_prepare 60 = .ok (.aload_n 1, 1) := by decide +kernel
theorem dX3_prepare_61 : decode cX3_prepare 61 = .ok (.iload_n 2, 1) := by decide +kernel
theorem dX3_prepare_62 : decode cX3_prepare 62 = .ok (.invokevirtual 81, 3) := by decide +kernel
theorem dX3_prepare_65 : decode cX3_prepare 65 = .ok (.aload_n 0, 1) := by decide +kernel
theorem dX3_prepare_66 : decode cX3_prepare 66 = .ok (.aload_n 1, 1) := by decide +kernel
theorem dX3_prepare_67 : decode cX3_prepare 67 = .ok (.iload_n 2, 1) := by decide +kernel
theorem dX3_prepare_68 : decode cX3_prepare 68 = .ok (.invokevirtual 85, 3) := by decide +kernel
theorem dX3_prepare_71 : decode cX3_prepare 71 = .ok (.aload_n 0, 1) := by decide +kernel
theorem dX3_prepare_72 : decode cX3_prepare 72 = .ok (.iconst 1, 1) := by decide +kernel
theorem dX3_prepare_73 : decode cX3_prepare 73 = .ok (.putfield 28, 3) := by decide +kernel
theorem dX3_prepare_76 : decode cX3_prepare 76 = .ok (.return_, 1) := by decide +kernel
theorem dX3_countWays_0 : decode cX3_countWays 0 = .ok (.aload_n 0, 1) := by decide +kernel
theorem dX3_countWays_1 : decode cX3_countWays 1 = .ok (.getfield 15, 3) := by decide +kernel
theorem dX3_countWays_4 : decode cX3_countWays 4 = .ok (.iconst 0, 1) := by decide +kernel
theorem dX3_countWays_5 : decode cX3_countWays 5 = .ok (.invokestatic 52, 3) := by decide +kernel
theorem dX3_countWays_8 : decode cX3_countWays 8 = .ok (.aload_n 0, 1) := by decide +kernel
theorem dX3_countWays_9 : decode cX3_countWays 9 = .ok (.getfield 15, 3) := by decide +kernel
theorem dX3_countWays_12 : decode cX3_countWays 12 = .ok (.iconst 0, 1) := by decide +kernel
theorem dX3_countWays_13 : decode cX3_countWays 13 = .ok (.iconst 1, 1) := by decide +kernel
theorem dX3_countWays_14 : decode cX3_countWays 14 = .ok (.iastore, 1) := by decide +kernel
theorem dX3_countWays_15 : decode cX3_countWays 15 = .ok (.aload_n 1, 1) := by decide +kernel
theorem dX3_countWays_16 : decode cX3_countWays 16 = .ok (.getfield 58, 3) := by decide +kernel
theorem dX3_countWays_19 : decode cX3_countWays 19 = .ok (.invokevirtual 73, 3) := by decide +kernel
theorem dX3_countWays_22 : decode cX3_countWays 22 = .ok (.istore 4, 2) := by decide +kernel
theorem dX3_countWays_24 : decode cX3_countWays 24 = .ok (.iconst 0, 1) := by decide +kernel
theorem dX3_countWays_25 : decode cX3_countWays 25 = .ok (.istore 5, 2) := by decide +kernel
theorem dX3_countWays_27 : decode cX3_countWays 27 = .ok (.iload 5, 2) := by decide +kernel
theorem dX3_countWays_29 : decode cX3_countWays 29 = .ok (.sipush 4096, 3) := by decide +kernel
theorem dX3_countWays_32 : decode cX3_countWays 32 = .ok (.if_icmp .ge 43, 3) := by decide +kernel
theorem dX3_countWays_35 : decode cX3_countWays 35 = .ok (.iload 5, 2) := by decide +kernel
theorem dX3_countWays_37 : decode cX3_countWays 37 = .ok (.iload 4, 2) := by decide +kernel
theorem dX3_countWays_39 : decode cX3_countWays 39 = .ok (.if_icmp .gt 36, 3) := by decide +kernel
theorem dX3_countWays_42 : decode cX3_countWays 42 = .ok (.aload_n 0, 1) := by decide +kernel
theorem dX3_countWays_43 : decode cX3_countWays 43 = .ok (.getfield 15, 3) := by decide +kernel
theorem dX3_countWays_46 : decode cX3_countWays 46 = .ok (.iload 5, 2) := by decide +kernel
theorem dX3_countWays_48 : decode cX3_countWays 48 = .ok (.iaload, 1) := by decide +kernel
theorem dX3_countWays_49 : decode cX3_countWays 49 = .ok (.ifCond .eq 20, 3) := by decide +kernel
theorem dX3_countWays_52 : decode cX3_countWays 52 = .ok (.iload 5, 2) := by decide +kernel
theorem dX3_countWays_54 : decode cX3_countWays 54 = .ok (.invokestatic 88, 3) := by decide +kernel
theorem dX3_countWays_57 : decode cX3_countWays 57 = .ok (.iload_n 2, 1) := by decide +kernel
theorem dX3_countWays_58 : decode cX3_countWays 58 = .ok (.if_icmp .ge 11, 3) := by decide +kernel
theorem dX3_countWays_61 : decode cX3_countWays 61 = .ok (.aload_n 0, 1) := by decide +kernel
theorem dX3_countWays_62 : decode cX3_countWays 62 = .ok (.aload_n 1, 1) := by decide +kernel
theorem dX3_countWays_63 : decode cX3_countWays 63 = .ok (.iload 5, 2) := by decide +kernel
theorem dX3_countWays_65 : decode cX3_countWays 65 = .ok (.iload_n 3, 1) := by decide +kernel
theorem dX3_countWays_66 : decode cX3_countWays 66 = .ok (.invokevirtual 93, 3) := by decide +kernel
theorem dX3_countWays_69 : decode cX3_countWays 69 = .ok (.iinc 5 1, 3) := by decide +kernel
theorem dX3_countWays_72 : decode cX3_countWays 72 = .ok (.goto (-45), 3) := by decide +kernel
theorem dX3_countWays_75 : decode cX3_countWays 75 = .ok (.return_, 1) := by decide +kernel
theorem dX3_spread_0 : decode cX3_spread 0 = .ok (.aload_n 1, 1) := by decide +kernel
theorem dX3_spread_1 : decode cX3_spread 1 = .ok (.getfield 58, 3) := by decide +kernel
theorem dX3_spread_4 : decode cX3_spread 4 = .ok (.astore 4, 2) := by decide +kernel
theorem dX3_spread_6 : decode cX3_spread 6 = .ok (.iload_n 2, 1) := by decide +kernel
theorem dX3_spread_7 : decode cX3_spread 7 = .ok (.invokestatic 88, 3) := by decide +kernel
theorem dX3_spread_10 : decode cX3_spread 10 = .ok (.istore 5, 2) := by decide +kernel
theorem dX3_spread_12 : decode cX3_spread 12 = .ok (.aload 4, 2) := by decide +kernel
theorem dX3_spread_14 : decode cX3_spread 14 = .ok (.iload_n 2, 1) := by decide +kernel
theorem dX3_spread_15 : decode cX3_spread 15 = .ok (.invokevirtual 96, 3) := by decide +kernel
theorem dX3_spread_18 : decode cX3_spread 18 = .ok (.istore 6, 2) := by decide +kernel
theorem dX3_spread_20 : decode cX3_spread 20 = .ok (.iconst 0, 1) := by decide +kernel
theorem dX3_spread_21 : decode cX3_spread 21 = .ok (.istore 7, 2) := by decide +kernel
theorem dX3_spread_23 : decode cX3_spread 23 = .ok (.iload 7, 2) := by decide +kernel
theorem dX3_spread_25 : decode cX3_spread 25 = .ok (.aload 4, 2) := by decide +kernel
theorem dX3_spread_27 : decode cX3_spread 27 = .ok (.getfield 64, 3) := by decide +kernel
theorem dX3_spread_30 : decode cX3_spread 30 = .ok (.if_icmp .ge 88, 3) := by decide +kernel
theorem dX3_spread_33 : decode cX3_spread 33 = .ok (.iload_n 2, 1) := by decide +kernel
theorem dX3_spread_34 : decode cX3_spread 34 = .ok (.iload 7, 2) := by decide +kernel
theorem dX3_spread_36 : decode cX3_spread 36 = .ok (.ishr, 1) := by decide +kernel
theorem dX3_spread_37 : decode cX3_spread 37 = .ok (.iconst 1, 1) := by decide +kernel
theorem dX3_spread_38 : decode cX3_spread 38 = .ok (.iand, 1) := by decide +kernel
theorem dX3_spread_39 : decode cX3_spread 39 = .ok (.ifCond .ne 31, 3) := by decide +kernel
theorem dX3_spread_42 : decode cX3_spread 42 = .ok (.iload_n 3, 1) := by decide +kernel
theorem dX3_spread_43 : decode cX3_spread 43 = .ok (.ifCond .eq 23, 3) := by decide +kernel
theorem dX3_spread_46 : decode cX3_spread 46 = .ok (.aload_n 1, 1) := by decide +kernel
theorem dX3_spread_47 : decode cX3_spread 47 = .ok (.getfield 99, 3) := by decide +kernel
theorem dX3_spread_50 : decode cX3_spread 50 = .ok (.iload 5, 2) := by decide +kernel
theorem dX3_spread_52 : decode cX3_spread 52 = .ok (.aload 4, 2) := by decide +kernel
theorem dX3_spread_54 : decode cX3_spread 54 = .ok (.getfield 103, 3) := by decide +kernel
theorem dX3_spread_57 : decode cX3_spread 57 = .ok (.iload 7, 2) := by decide +kernel
theorem dX3_spread_59 : decode cX3_spread 59 = .ok (.iaload, 1) := by decide +kernel
theorem dX3_spread_60 : decode cX3_spread 60 = .ok (.invokevirtual 106, 3) := by decide +kernel
theorem dX3_spread_63 : decode cX3_spread 63 = .ok (.ifCond .eq 7, 3) := by decide +kernel
theorem dX3_spread_66 : decode cX3_spread 66 = .ok (.iconst 1, 1) := by decide +kernel
theorem dX3_spread_67 : decode cX3_spread 67 = .ok (.goto 4, 3) := by decide +kernel
theorem dX3_spread_70 : decode cX3_spread 70 = .ok (.iconst 0, 1) := by decide +kernel
theorem dX3_spread_71 : decode cX3_spread 71 = .ok (.istore 8, 2) := by decide +kernel
theorem dX3_spread_73 : decode cX3_spread 73 = .ok (.iload 8, 2) := by decide +kernel
theorem dX3_spread_75 : decode cX3_spread 75 = .ok (.ifCond .eq 37, 3) := by decide +kernel
theorem dX3_spread_78 : decode cX3_spread 78 = .ok (.aload_n 0, 1) := by decide +kernel
theorem dX3_spread_79 : decode cX3_spread 79 = .ok (.aload_n 1, 1) := by decide +kernel
theorem dX3_spread_80 : decode cX3_spread 80 = .ok (.iload 7, 2) := by decide +kernel
theorem dX3_spread_82 : decode cX3_spread 82 = .ok (.iload_n 2, 1) := by decide +kernel
theorem dX3_spread_83 : decode cX3_spread 83 = .ok (.iload 6, 2) := by decide +kernel
theorem dX3_spread_85 : decode cX3_spread 85 = .ok (.invokevirtual 112, 3) := by decide +kernel
theorem dX3_spread_88 : decode cX3_spread 88 = .ok (.iconst (-1), 1) := by decide +kernel
theorem dX3_spread_89 : decode cX3_spread 89 = .ok (.if_icmp .eq 23, 3) := by decide +kernel
theorem dX3_spread_92 : decode cX3_spread 92 = .ok (.aload_n 0, 1) := by decide +kernel
theorem dX3_spread_93 : decode cX3_spread 93 = .ok (.getfield 15, 3) := by decide +kernel
theorem dX3_spread_96 : decode cX3_spread 96 = .ok (.iload_n 2, 1) := by decide +kernel
theorem dX3_spread_97 : decode cX3_spread 97 = .ok (.iconst 1, 1) := by decide +kernel
theorem dX3_spread_98 : decode cX3_spread 98 = .ok (.iload 7, 2) := by decide +kernel
theorem dX3_spread_100 : decode cX3_spread 100 = .ok (.ishl, 1) := by decide +kernel
theorem dX3_spread_101 : decode cX3_spread 101 = .ok (.ior, 1) := by decide +kernel
theorem dX3_spread_102 : decode cX3_spread 102 = .ok (.dup2, 1) := by decide +kernel
theorem dX3_spread_103 : decode cX3_spread 103 = .ok (.iaload, 1) := by decide +kernel
theorem dX3_spread_104 : decode cX3_spread 104 = .ok (.aload_n 0, 1) := by decide +kernel
theorem dX3_spread_105 : decode cX3_spread 105 = .ok (.getfield 15, 3) := by decide +kernel
theorem dX3_spread_108 : decode cX3_spread 108 = .ok (.iload_n 2, 1) := by decide +kernel
theorem dX3_spread_109 : decode cX3_spread 109 = .ok (.iaload, 1) := by decide +kernel
theorem dX3_spread_110 : decode cX3_spread 110 = .ok (.iadd, 1) := by decide +kernel
theorem dX3_spread_111 : decode cX3_spread 111 = .ok (.iastore, 1) := by decide +kernel
theorem dX3_spread_112 : decode cX3_spread 112 = .ok (.iinc 7 1, 3) := by decide +kernel
theorem dX3_spread_115 : decode cX3_spread 115 = .ok (.goto (-92), 3) := by decide +kernel
theorem dX3_spread_118 : decode cX3_spread 118 = .ok (.return_, 1) := by decide +kernel
theorem dX3_liftUpon_0 : decode cX3_liftUpon 0 = .ok (.aload_n 1, 1) := by decide +kernel
theorem dX3_liftUpon_1 : decode cX3_liftUpon 1 = .ok (.getfield 58, 3) := by decide +kernel
theorem dX3_liftUpon_4 : decode cX3_liftUpon 4 = .ok (.iload_n 2, 1) := by decide +kernel
theorem dX3_liftUpon_5 : decode cX3_liftUpon 5 = .ok (.iload_n 3, 1) := by decide +kernel
theorem dX3_liftUpon_6 : decode cX3_liftUpon 6 = .ok (.invokevirtual 116, 3) := by decide +kernel
theorem dX3_liftUpon_9 : decode cX3_liftUpon 9 = .ok (.ifCond .ne 5, 3) := by decide +kernel
theorem dX3_liftUpon_12 : decode cX3_liftUpon 12 = .ok (.iconst (-1), 1) := by decide +kernel
theorem dX3_liftUpon_13 : decode cX3_liftUpon 13 = .ok (.ireturn, 1) := by decide +kernel
theorem dX3_liftUpon_14 : decode cX3_liftUpon 14 = .ok (.iload_n 3, 1) := by decide +kernel
theorem dX3_liftUpon_15 : decode cX3_liftUpon 15 = .ok (.invokestatic 88, 3) := by decide +kernel
theorem dX3_liftUpon_18 : decode cX3_liftUpon 18 = .ok (.istore 5, 2) := by decide +kernel
theorem dX3_liftUpon_20 : decode cX3_liftUpon 20 = .ok (.iload_n 2, 1) := by decide +kernel
theorem dX3_liftUpon_21 : decode cX3_liftUpon 21 = .ok (.bipush 12, 2) := by decide +kernel
theorem dX3_liftUpon_23 : decode cX3_liftUpon 23 = .ok (.imul, 1) := by decide +kernel
theorem dX3_liftUpon_24 : decode cX3_liftUpon 24 = .ok (.iload 5, 2) := by decide +kernel
theorem dX3_liftUpon_26 : decode cX3_liftUpon 26 = .ok (.iadd, 1) := by decide +kernel
theorem dX3_liftUpon_27 : decode cX3_liftUpon 27 = .ok (.bipush 22, 2) := by decide +kernel
theorem dX3_liftUpon_29 : decode cX3_liftUpon 29 = .ok (.imul, 1) := by decide +kernel
theorem dX3_liftUpon_30 : decode cX3_liftUpon 30 = .ok (.iload 4, 2) := by decide +kernel
theorem dX3_liftUpon_32 : decode cX3_liftUpon 32 = .ok (.iadd, 1) := by decide +kernel
theorem dX3_liftUpon_33 : decode cX3_liftUpon 33 = .ok (.iconst 1, 1) := by decide +kernel
theorem dX3_liftUpon_34 : decode cX3_liftUpon 34 = .ok (.iadd, 1) := by decide +kernel
theorem dX3_liftUpon_35 : decode cX3_liftUpon 35 = .ok (.istore 6, 2) := by decide +kernel
theorem dX3_liftUpon_37 : decode cX3_liftUpon 37 = .ok (.iload 6, 2) := by decide +kernel
theorem dX3_liftUpon_39 : decode cX3_liftUpon 39 = .ok (.ifCond .lt 13, 3) := by decide +kernel
theorem dX3_liftUpon_42 : decode cX3_liftUpon 42 = .ok (.iload 6, 2) := by decide +kernel
theorem dX3_liftUpon_44 : decode cX3_liftUpon 44 = .ok (.aload_n 0, 1) := by decide +kernel
theorem dX3_liftUpon_45 : decode cX3_liftUpon 45 = .ok (.getfield 11, 3) := by decide +kernel
theorem dX3_liftUpon_48 : decode cX3_liftUpon 48 = .ok (.arraylength, 1) := by decide +kernel
theorem dX3_liftUpon_49 : decode cX3_liftUpon 49 = .ok (.if_icmp .lt 5, 3) := by decide +kernel
theorem dX3_liftUpon_52 : decode cX3_liftUpon 52 = .ok (.iconst (-1), 1) := by decide +kernel
theorem dX3_liftUpon_53 : decode cX3_liftUpon 53 = .ok (.ireturn, 1) := by decide +kernel
theorem dX3_liftUpon_54 : decode cX3_liftUpon 54 = .ok (.aload_n 0, 1) := by decide +kernel
theorem dX3_liftUpon_55 : decode cX3_liftUpon 55 = .ok (.getfield 11, 3) := by decide +kernel
theorem dX3_liftUpon_58 : decode cX3_liftUpon 58 = .ok (.iload 6, 2) := by decide +kernel
theorem dX3_liftUpon_60 : decode cX3_liftUpon 60 = .ok (.iaload, 1) := by decide +kernel
theorem dX3_liftUpon_61 : decode cX3_liftUpon 61 = .ok (.bipush (-2), 2) := by decide +kernel
theorem dX3_liftUpon_63 : decode cX3_liftUpon 63 = .ok (.if_icmp .ne 47, 3) := by decide +kernel
theorem dX3_liftUpon_66 : decode cX3_liftUpon 66 = .ok (.aload_n 0, 1) := by decide +kernel
theorem dX3_liftUpon_67 : decode cX3_liftUpon 67 = .ok (.getfield 24, 3) := by decide +kernel
theorem dX3_liftUpon_70 : decode cX3_liftUpon 70 = .ok (.aload_n 1, 1) := by decide +kernel
theorem dX3_liftUpon_71 : decode cX3_liftUpon 71 = .ok (.iload_n 2, 1) := by decide +kernel
theorem dX3_liftUpon_72 : decode cX3_liftUpon 72 = .ok (.iload 5, 2) := by decide +kernel
theorem dX3_liftUpon_74 : decode cX3_liftUpon 74 = .ok (.iload 4, 2) := by decide +kernel
theorem dX3_liftUpon_76 : decode cX3_liftUpon 76 = .ok (.invokevirtual 119, 3) := by decide +kernel
theorem dX3_liftUpon_79 : decode cX3_liftUpon 79 = .ok (.istore 7, 2) := by decide +kernel
theorem dX3_liftUpon_81 : decode cX3_liftUpon 81 = .ok (.aload_n 0, 1) := by decide +kernel
theorem dX3_liftUpon_82 : decode cX3_liftUpon 82 = .ok (.getfield 11, 3) := by decide +kernel
theorem dX3_liftUpon_85 : decode cX3_liftUpon 85 = .ok (.iload 6, 2) := by decide +kernel
theorem dX3_liftUpon_87 : decode cX3_liftUpon 87 = .ok (.iload 7, 2) := by decide +kernel
theorem dX3_liftUpon_89 : decode cX3_liftUpon 89 = .ok (.ifCond .eq 19, 3) := by decide +kernel
theorem dX3_liftUpon_92 : decode cX3_liftUpon 92 = .ok (.aload_n 0, 1) := by decide +kernel
theorem dX3_liftUpon_93 : decode cX3_liftUpon 93 = .ok (.getfield 24, 3) := by decide +kernel
theorem dX3_liftUpon_96 : decode cX3_liftUpon 96 = .ok (.aload_n 1, 1) := by decide +kernel
theorem dX3_liftUpon_97 : decode cX3_liftUpon 97 = .ok (.iload_n 2, 1) := by decide +kernel
theorem dX3_liftUpon_98 : decode cX3_liftUpon 98 = .ok (.iload 5, 2) := by decide +kernel
theorem dX3_liftUpon_100 : decode cX3_liftUpon 100 = .ok (.iload 4, 2) := by decide +kernel
theorem dX3_liftUpon_102 : decode cX3_liftUpon 102 = .ok (.invokevirtual 123, 3) := by decide +kernel
theorem dX3_liftUpon_105 : decode cX3_liftUpon 105 = .ok (.goto 4, 3) := by decide +kernel
theorem dX3_liftUpon_108 : decode cX3_liftUpon 108 = .ok (.iconst (-1), 1) := by decide +kernel
theorem dX3_liftUpon_109 : decode cX3_liftUpon 109 = .ok (.iastore, 1) := by decide +kernel
theorem dX3_liftUpon_110 : decode cX3_liftUpon 110 = .ok (.aload_n 0, 1) := by decide +kernel
theorem dX3_liftUpon_111 : decode cX3_liftUpon 111 = .ok (.getfield 11, 3) := by decide +kernel
theorem dX3_liftUpon_114 : decode cX3_liftUpon 114 = .ok (.iload 6, 2) := by decide +kernel
theorem dX3_liftUpon_116 : decode cX3_liftUpon 116 = .ok (.iaload, 1) := by decide +kernel
theorem dX3_liftUpon_117 : decode cX3_liftUpon 117 = .ok (.ireturn, 1) := by decide +kernel
theorem dX3_lowestOfMost_0 : decode cX3_lowestOfMost 0 = .ok (.iconst 0, 1) := by decide +kernel
theorem dX3_lowestOfMost_1 : decode cX3_lowestOfMost 1 = .ok (.istore_n 2, 1) := by decide +kernel
theorem dX3_lowestOfMost_2 : decode cX3_lowestOfMost 2 = .ok (.iconst 1, 1) := by decide +kernel
theorem dX3_lowestOfMost_3 : decode cX3_lowestOfMost 3 = .ok (.istore_n 3, 1) := by decide +kernel
theorem dX3_lowestOfMost_4 : decode cX3_lowestOfMost 4 = .ok (.iload_n 3, 1) := by decide +kernel
theorem dX3_lowestOfMost_5 : decode cX3_lowestOfMost 5 = .ok (.sipush 4096, 3) := by decide +kernel
theorem dX3_lowestOfMost_8 : decode cX3_lowestOfMost 8 = .ok (.if_icmp .ge 36, 3) := by decide +kernel
theorem dX3_lowestOfMost_11 : decode cX3_lowestOfMost 11 = .ok (.iload_n 3, 1) := by decide +kernel
theorem dX3_lowestOfMost_12 : decode cX3_lowestOfMost 12 = .ok (.iload_n 1, 1) := by decide +kernel
theorem dX3_lowestOfMost_13 : decode cX3_lowestOfMost 13 = .ok (.if_icmp .gt 31, 3) := by decide +kernel
theorem dX3_lowestOfMost_16 : decode cX3_lowestOfMost 16 = .ok (.aload_n 0, 1) := by decide +kernel
theorem dX3_lowestOfMost_17 : decode cX3_lowestOfMost 17 = .ok (.getfield 15, 3) := by decide +kernel
theorem dX3_lowestOfMost_20 : decode cX3_lowestOfMost 20 = .ok (.iload_n 3, 1) := by decide +kernel
theorem dX3_lowestOfMost_21 : decode cX3_lowestOfMost 21 = .ok (.iaload, 1) := by decide +kernel
theorem dX3_lowestOfMost_22 : decode cX3_lowestOfMost 22 = .ok (.ifCond .eq 16, 3) := by decide +kernel
theorem dX3_lowestOfMost_25 : decode cX3_lowestOfMost 25 = .ok (.iload_n 3, 1) := by decide +kernel
theorem dX3_lowestOfMost_26 : decode cX3_lowestOfMost 26 = .ok (.invokestatic 88, 3) := by decide +kernel
theorem dX3_lowestOfMost_29 : decode cX3_lowestOfMost 29 = .ok (.iload_n 2, 1) := by decide +kernel
theorem dX3_lowestOfMost_30 : decode cX3_lowestOfMost 30 = .ok (.invokestatic 88, 3) := by decide +kernel
theorem dX3_lowestOfMost_33 : decode cX3_lowestOfMost 33 = .ok (.if_icmp .le 5, 3) := by decide +kernel
theorem dX3_lowestOfMost_36 : decode cX3_lowestOfMost 36 = .ok (.iload_n 3, 1) := by decide +kernel
theorem dX3_lowestOfMost_37 : decode cX3_lowestOfMost 37 = .ok (.istore_n 2, 1) := by decide +kernel
theorem dX3_lowestOfMost_38 : decode cX3_lowestOfMost 38 = .ok (.iinc 3 1, 3) := by decide +kernel
theorem dX3_lowestOfMost_41 : decode cX3_lowestOfMost 41 = .ok (.goto (-37), 3) := by decide +kernel
theorem dX3_lowestOfMost_44 : decode cX3_lowestOfMost 44 = .ok (.iload_n 2, 1) := by decide +kernel
theorem dX3_lowestOfMost_45 : decode cX3_lowestOfMost 45 = .ok (.ireturn, 1) := by decide +kernel
theorem dX3_measure_0 : decode cX3_measure 0 = .ok (.aload_n 0, 1) := by decide +kernel
theorem dX3_measure_1 : decode cX3_measure 1 = .ok (.getfield 15, 3) := by decide +kernel
theorem dX3_measure_4 : decode cX3_measure 4 = .ok (.iload_n 2, 1) := by decide +kernel
theorem dX3_measure_5 : decode cX3_measure 5 = .ok (.iconst 0, 1) := by decide +kernel
theorem dX3_measure_6 : decode cX3_measure 6 = .ok (.iastore, 1) := by decide +kernel
theorem dX3_measure_7 : decode cX3_measure 7 = .ok (.iload_n 2, 1) := by decide +kernel
theorem dX3_measure_8 : decode cX3_measure 8 = .ok (.iconst 1, 1) := by decide +kernel
theorem dX3_measure_9 : decode cX3_measure 9 = .ok (.isub, 1) := by decide +kernel
theorem dX3_measure_10 : decode cX3_measure 10 = .ok (.istore_n 3, 1) := by decide +kernel
theorem dX3_measure_11 : decode cX3_measure 11 = .ok (.iload_n 3, 1) := by decide +kernel
theorem dX3_measure_12 : decode cX3_measure 12 = .ok (.ifCond .lt 56, 3) := by decide +kernel
theorem dX3_measure_15 : decode cX3_measure 15 = .ok (.iload_n 3, 1) := by decide +kernel
theorem dX3_measure_16 : decode cX3_measure 16 = .ok (.iload_n 2, 1) := by decide +kernel
theorem dX3_measure_17 : decode cX3_measure 17 = .ok (.iconst (-1), 1) := by decide +kernel
theorem dX3_measure_18 : decode cX3_measure 18 = .ok (.ixor, 1) := by decide +kernel
theorem dX3_measure_19 : decode cX3_measure 19 = .ok (.iand, 1) := by decide +kernel
theorem dX3_measure_20 : decode cX3_measure 20 = .ok (.ifCond .ne 16, 3) := by decide +kernel
theorem dX3_measure_23 : decode cX3_measure 23 = .ok (.aload_n 0, 1) := by decide +kernel
theorem dX3_measure_24 : decode cX3_measure 24 = .ok (.getfield 15, 3) := by decide +kernel
theorem dX3_measure_27 : decode cX3_measure 27 = .ok (.iload_n 3, 1) := by decide +kernel
theorem dX3_measure_28 : decode cX3_measure 28 = .ok (.iaload, 1) := by decide +kernel
theorem dX3_measure_29 : decode cX3_measure 29 = .ok (.ifCond .eq 7, 3) := by decide +kernel
theorem dX3_measure_32 : decode cX3_measure 32 = .ok (.iconst 1, 1) := by decide +kernel
theorem dX3_measure_33 : decode cX3_measure 33 = .ok (.goto 4, 3) := by decide +kernel
theorem dX3_measure_36 : decode cX3_measure 36 = .ok (.iconst 0, 1) := by decide +kernel
theorem dX3_measure_37 : decode cX3_measure 37 = .ok (.istore 4, 2) := by decide +kernel
theorem dX3_measure_39 : decode cX3_measure 39 = .ok (.aload_n 0, 1) := by decide +kernel
theorem dX3_measure_40 : decode cX3_measure 40 = .ok (.getfield 15, 3) := by decide +kernel
theorem dX3_measure_43 : decode cX3_measure 43 = .ok (.iload_n 3, 1) := by decide +kernel
theorem dX3_measure_44 : decode cX3_measure 44 = .ok (.iload 4, 2) := by decide +kernel
theorem dX3_measure_46 : decode cX3_measure 46 = .ok (.ifCond .eq 13, 3) := by decide +kernel
theorem dX3_measure_49 : decode cX3_measure 49 = .ok (.aload_n 0, 1) := by decide +kernel
theorem dX3_measure_50 : decode cX3_measure 50 = .ok (.aload_n 1, 1) := by decide +kernel
theorem dX3_measure_51 : decode cX3_measure 51 = .ok (.iload_n 3, 1) := by decide +kernel
theorem dX3_measure_52 : decode cX3_measure 52 = .ok (.iload_n 2, 1) := by decide +kernel
theorem dX3_measure_53 : decode cX3_measure 53 = .ok (.invokevirtual 126, 3) := by decide +kernel
theorem dX3_measure_56 : decode cX3_measure 56 = .ok (.goto 5, 3) := by decide +kernel
theorem dX3_measure_59 : decode cX3_measure 59 = .ok (.ldc 130, 2) := by decide +kernel
theorem dX3_measure_61 : decode cX3_measure 61 = .ok (.iastore, 1) := by decide +kernel
theorem dX3_measure_62 : decode cX3_measure 62 = .ok (.iinc 3 (-1), 3) := by decide +kernel
theorem dX3_measure_65 : decode cX3_measure 65 = .ok (.goto (-54), 3) := by decide +kernel
theorem dX3_measure_68 : decode cX3_measure 68 = .ok (.return_, 1) := by decide +kernel
theorem dX3_leastAhead_0 : decode cX3_leastAhead 0 = .ok (.aload_n 1, 1) := by decide +kernel
theorem dX3_leastAhead_1 : decode cX3_leastAhead 1 = .ok (.getfield 58, 3) := by decide +kernel
theorem dX3_leastAhead_4 : decode cX3_leastAhead 4 = .ok (.iload_n 2, 1) := by decide +kernel
theorem dX3_leastAhead_5 : decode cX3_leastAhead 5 = .ok (.invokevirtual 96, 3) := by decide +kernel
theorem dX3_leastAhead_8 : decode cX3_leastAhead 8 = .ok (.istore 4, 2) := by decide +kernel
theorem dX3_leastAhead_10 : decode cX3_leastAhead 10 = .ok (.ldc 130, 2) := by decide +kernel
theorem dX3_leastAhead_12 : decode cX3_leastAhead 12 = .ok (.istore 5, 2) := by decide +kernel
theorem dX3_leastAhead_14 : decode cX3_leastAhead 14 = .ok (.iconst 0, 1) := by decide +kernel
theorem dX3_leastAhead_15 : decode cX3_leastAhead 15 = .ok (.istore 6, 2) := by decide +kernel
theorem dX3_leastAhead_17 : decode cX3_leastAhead 17 = .ok (.iload 6, 2) := by decide +kernel
theorem dX3_leastAhead_19 : decode cX3_leastAhead 19 = .ok (.aload_n 1, 1) := by decide +kernel
theorem dX3_leastAhead_20 : decode cX3_leastAhead 20 = .ok (.getfield 58, 3) := by decide +kernel
theorem dX3_leastAhead_23 : decode cX3_leastAhead 23 = .ok (.getfield 64, 3) := by decide +kernel
theorem dX3_leastAhead_26 : decode cX3_leastAhead 26 = .ok (.if_icmp .ge 62, 3) := by decide +kernel
theorem dX3_leastAhead_29 : decode cX3_leastAhead 29 = .ok (.iload_n 3, 1) := by decide +kernel
theorem dX3_leastAhead_30 : decode cX3_leastAhead 30 = .ok (.iload_n 2, 1) := by decide +kernel
theorem dX3_leastAhead_31 : decode cX3_leastAhead 31 = .ok (.iconst (-1), 1) := by decide +kernel
theorem dX3_leastAhead_32 : decode cX3_leastAhead 32 = .ok (.ixor, 1) := by decide +kernel
theorem dX3_leastAhead_33 : decode cX3_leastAhead 33 = .ok (.iand, 1) := by decide +kernel
theorem dX3_leastAhead_34 : decode cX3_leastAhead 34 = .ok (.iload 6, 2) := by decide +kernel
theorem dX3_leastAhead_36 : decode cX3_leastAhead 36 = .ok (.ishr, 1) := by decide +kernel
theorem dX3_leastAhead_37 : decode cX3_leastAhead 37 = .ok (.iconst 1, 1) := by decide +kernel
theorem dX3_leastAhead_38 : decode cX3_leastAhead 38 = .ok (.iand, 1) := by decide +kernel
theorem dX3_leastAhead_39 : decode cX3_leastAhead 39 = .ok (.iconst 1, 1) := by decide +kernel
theorem dX3_leastAhead_40 : decode cX3_leastAhead 40 = .ok (.if_icmp .ne 42, 3) := by decide +kernel
theorem dX3_leastAhead_43 : decode cX3_leastAhead 43 = .ok (.aload_n 0, 1) := by decide +kernel
theorem dX3_leastAhead_44 : decode cX3_leastAhead 44 = .ok (.aload_n 1, 1) := by decide +kernel
theorem dX3_leastAhead_45 : decode cX3_leastAhead 45 = .ok (.iload 6, 2) := by decide +kernel
theorem dX3_leastAhead_47 : decode cX3_leastAhead 47 = .ok (.iload_n 2, 1) := by decide +kernel
theorem dX3_leastAhead_48 : decode cX3_leastAhead 48 = .ok (.iload 4, 2) := by decide +kernel
theorem dX3_leastAhead_50 : decode cX3_leastAhead 50 = .ok (.invokevirtual 112, 3) := by decide +kernel
theorem dX3_leastAhead_53 : decode cX3_leastAhead 53 = .ok (.istore 7, 2) := by decide +kernel
theorem dX3_leastAhead_55 : decode cX3_leastAhead 55 = .ok (.iload 7, 2) := by decide +kernel
theorem dX3_leastAhead_57 : decode cX3_leastAhead 57 = .ok (.iconst (-1), 1) := by decide +kernel
theorem dX3_leastAhead_58 : decode cX3_leastAhead 58 = .ok (.if_icmp .eq 24, 3) := by decide +kernel
end
section
theorem dX3_leastAhead_61 : decode cX3_leastAhead 61 = .ok (.iload 5, 2) := by decide +kernel
theorem dX3_leastAhead_63 : decode cX3_leastAhead 63 = .ok (.iload 7, 2) := by decide +kernel
theorem dX3_leastAhead_65 : decode cX3_leastAhead 65 = .ok (.aload_n 0, 1) := by decide +kernel
theorem dX3_leastAhead_66 : decode cX3_leastAhead 66 = .ok (.getfield 15, 3) := by decide +kernel
theorem dX3_leastAhead_69 : decode cX3_leastAhead 69 = .ok (.iload_n 2, 1) := by decide +kernel
theorem dX3_leastAhead_70 : decode cX3_leastAhead 70 = .ok (.iconst 1, 1) := by decide +kernel
theorem dX3_leastAhead_71 : decode cX3_leastAhead 71 = .ok (.iload 6, 2) := by decide +kernel
theorem dX3_leastAhead_73 : decode cX3_leastAhead 73 = .ok (.ishl, 1) := by decide +kernel
theorem dX3_leastAhead_74 : decode cX3_leastAhead 74 = .ok (.ior, 1) := by decide +kernel
theorem dX3_leastAhead_75 : decode cX3_leastAhead 75 = .ok (.iaload, 1) := by decide +kernel
theorem dX3_leastAhead_76 : decode cX3_leastAhead 76 = .ok (.iadd, 1) := by decide +kernel
theorem dX3_leastAhead_77 : decode cX3_leastAhead 77 = .ok (.invokestatic 131, 3) := by decide +kernel
theorem dX3_leastAhead_80 : decode cX3_leastAhead 80 = .ok (.istore 5, 2) := by decide +kernel
theorem dX3_leastAhead_82 : decode cX3_leastAhead 82 = .ok (.iinc 6 1, 3) := by decide +kernel
theorem dX3_leastAhead_85 : decode cX3_leastAhead 85 = .ok (.goto (-68), 3) := by decide +kernel
theorem dX3_leastAhead_88 : decode cX3_leastAhead 88 = .ok (.iload 5, 2) := by decide +kernel
theorem dX3_leastAhead_90 : decode cX3_leastAhead 90 = .ok (.ireturn, 1) := by decide +kernel
theorem dX3_choose_0 : decode cX3_choose 0 = .ok (.aload_n 0, 1) := by decide +kernel
theorem dX3_choose_1 : decode cX3_choose 1 = .ok (.aload_n 0, 1) := by decide +kernel
theorem dX3_choose_2 : decode cX3_choose 2 = .ok (.getfield 15, 3) := by decide +kernel
theorem dX3_choose_5 : decode cX3_choose 5 = .ok (.iconst 0, 1) := by decide +kernel
theorem dX3_choose_6 : decode cX3_choose 6 = .ok (.iaload, 1) := by decide +kernel
theorem dX3_choose_7 : decode cX3_choose 7 = .ok (.putfield 36, 3) := by decide +kernel
theorem dX3_choose_10 : decode cX3_choose 10 = .ok (.aload_n 0, 1) := by decide +kernel
theorem dX3_choose_11 : decode cX3_choose 11 = .ok (.iload_n 2, 1) := by decide +kernel
theorem dX3_choose_12 : decode cX3_choose 12 = .ok (.invokestatic 88, 3) := by decide +kernel
theorem dX3_choose_15 : decode cX3_choose 15 = .ok (.putfield 32, 3) := by decide +kernel
theorem dX3_choose_18 : decode cX3_choose 18 = .ok (.iconst 0, 1) := by decide +kernel
theorem dX3_choose_19 : decode cX3_choose 19 = .ok (.istore_n 3, 1) := by decide +kernel
theorem dX3_choose_20 : decode cX3_choose 20 = .ok (.iconst 0, 1) := by decide +kernel
theorem dX3_choose_21 : decode cX3_choose 21 = .ok (.istore 4, 2) := by decide +kernel
theorem dX3_choose_23 : decode cX3_choose 23 = .ok (.iload 4, 2) := by decide +kernel
theorem dX3_choose_25 : decode cX3_choose 25 = .ok (.aload_n 0, 1) := by decide +kernel
theorem dX3_choose_26 : decode cX3_choose 26 = .ok (.getfield 32, 3) := by decide +kernel
theorem dX3_choose_29 : decode cX3_choose 29 = .ok (.if_icmp .ge 41, 3) := by decide +kernel
theorem dX3_choose_32 : decode cX3_choose 32 = .ok (.iload 4, 2) := by decide +kernel
theorem dX3_choose_34 : decode cX3_choose 34 = .ok (.bipush 12, 2) := by decide +kernel
theorem dX3_choose_36 : decode cX3_choose 36 = .ok (.if_icmp .ge 34, 3) := by decide +kernel
theorem dX3_choose_39 : decode cX3_choose 39 = .ok (.aload_n 0, 1) := by decide +kernel
theorem dX3_choose_40 : decode cX3_choose 40 = .ok (.aload_n 1, 1) := by decide +kernel
theorem dX3_choose_41 : decode cX3_choose 41 = .ok (.iload_n 3, 1) := by decide +kernel
theorem dX3_choose_42 : decode cX3_choose 42 = .ok (.iload_n 2, 1) := by decide +kernel
theorem dX3_choose_43 : decode cX3_choose 43 = .ok (.invokevirtual 137, 3) := by decide +kernel
theorem dX3_choose_46 : decode cX3_choose 46 = .ok (.istore 5, 2) := by decide +kernel
theorem dX3_choose_48 : decode cX3_choose 48 = .ok (.aload_n 0, 1) := by decide +kernel
theorem dX3_choose_49 : decode cX3_choose 49 = .ok (.getfield 18, 3) := by decide +kernel
theorem dX3_choose_52 : decode cX3_choose 52 = .ok (.iload 4, 2) := by decide +kernel
theorem dX3_choose_54 : decode cX3_choose 54 = .ok (.iload 5, 2) := by decide +kernel
theorem dX3_choose_56 : decode cX3_choose 56 = .ok (.iastore, 1) := by decide +kernel
theorem dX3_choose_57 : decode cX3_choose 57 = .ok (.iload_n 3, 1) := by decide +kernel
theorem dX3_choose_58 : decode cX3_choose 58 = .ok (.iconst 1, 1) := by decide +kernel
theorem dX3_choose_59 : decode cX3_choose 59 = .ok (.iload 5, 2) := by decide +kernel
theorem dX3_choose_61 : decode cX3_choose 61 = .ok (.ishl, 1) := by decide +kernel
theorem dX3_choose_62 : decode cX3_choose 62 = .ok (.ior, 1) := by decide +kernel
theorem dX3_choose_63 : decode cX3_choose 63 = .ok (.istore_n 3, 1) := by decide +kernel
theorem dX3_choose_64 : decode cX3_choose 64 = .ok (.iinc 4 1, 3) := by decide +kernel
theorem dX3_choose_67 : decode cX3_choose 67 = .ok (.goto (-44), 3) := by decide +kernel
theorem dX3_choose_70 : decode cX3_choose 70 = .ok (.return_, 1) := by decide +kernel
theorem dX3_firstOfLeast_0 : decode cX3_firstOfLeast 0 = .ok (.aload_n 1, 1) := by decide +kernel
theorem dX3_firstOfLeast_1 : decode cX3_firstOfLeast 1 = .ok (.getfield 58, 3) := by decide +kernel
theorem dX3_firstOfLeast_4 : decode cX3_firstOfLeast 4 = .ok (.iload_n 2, 1) := by decide +kernel
theorem dX3_firstOfLeast_5 : decode cX3_firstOfLeast 5 = .ok (.invokevirtual 96, 3) := by decide +kernel
theorem dX3_firstOfLeast_8 : decode cX3_firstOfLeast 8 = .ok (.istore 4, 2) := by decide +kernel
theorem dX3_firstOfLeast_10 : decode cX3_firstOfLeast 10 = .ok (.iconst 0, 1) := by decide +kernel
theorem dX3_firstOfLeast_11 : decode cX3_firstOfLeast 11 = .ok (.istore 5, 2) := by decide +kernel
theorem dX3_firstOfLeast_13 : decode cX3_firstOfLeast 13 = .ok (.iload 5, 2) := by decide +kernel
theorem dX3_firstOfLeast_15 : decode cX3_firstOfLeast 15 = .ok (.aload_n 1, 1) := by decide +kernel
theorem dX3_firstOfLeast_16 : decode cX3_firstOfLeast 16 = .ok (.getfield 58, 3) := by decide +kernel
theorem dX3_firstOfLeast_19 : decode cX3_firstOfLeast 19 = .ok (.getfield 64, 3) := by decide +kernel
theorem dX3_firstOfLeast_22 : decode cX3_firstOfLeast 22 = .ok (.if_icmp .ge 67, 3) := by decide +kernel
theorem dX3_firstOfLeast_25 : decode cX3_firstOfLeast 25 = .ok (.iload_n 3, 1) := by decide +kernel
theorem dX3_firstOfLeast_26 : decode cX3_firstOfLeast 26 = .ok (.iload_n 2, 1) := by decide +kernel
theorem dX3_firstOfLeast_27 : decode cX3_firstOfLeast 27 = .ok (.iconst (-1), 1) := by decide +kernel
theorem dX3_firstOfLeast_28 : decode cX3_firstOfLeast 28 = .ok (.ixor, 1) := by decide +kernel
theorem dX3_firstOfLeast_29 : decode cX3_firstOfLeast 29 = .ok (.iand, 1) := by decide +kernel
theorem dX3_firstOfLeast_30 : decode cX3_firstOfLeast 30 = .ok (.iload 5, 2) := by decide +kernel
theorem dX3_firstOfLeast_32 : decode cX3_firstOfLeast 32 = .ok (.ishr, 1) := by decide +kernel
theorem dX3_firstOfLeast_33 : decode cX3_firstOfLeast 33 = .ok (.iconst 1, 1) := by decide +kernel
theorem dX3_firstOfLeast_34 : decode cX3_firstOfLeast 34 = .ok (.iand, 1) := by decide +kernel
theorem dX3_firstOfLeast_35 : decode cX3_firstOfLeast 35 = .ok (.iconst 1, 1) := by decide +kernel
theorem dX3_firstOfLeast_36 : decode cX3_firstOfLeast 36 = .ok (.if_icmp .ne 47, 3) := by decide +kernel
theorem dX3_firstOfLeast_39 : decode cX3_firstOfLeast 39 = .ok (.aload_n 0, 1) := by decide +kernel
theorem dX3_firstOfLeast_40 : decode cX3_firstOfLeast 40 = .ok (.aload_n 1, 1) := by decide +kernel
theorem dX3_firstOfLeast_41 : decode cX3_firstOfLeast 41 = .ok (.iload 5, 2) := by decide +kernel
theorem dX3_firstOfLeast_43 : decode cX3_firstOfLeast 43 = .ok (.iload_n 2, 1) := by decide +kernel
theorem dX3_firstOfLeast_44 : decode cX3_firstOfLeast 44 = .ok (.iload 4, 2) := by decide +kernel
theorem dX3_firstOfLeast_46 : decode cX3_firstOfLeast 46 = .ok (.invokevirtual 112, 3) := by decide +kernel
theorem dX3_firstOfLeast_49 : decode cX3_firstOfLeast 49 = .ok (.istore 6, 2) := by decide +kernel
theorem dX3_firstOfLeast_51 : decode cX3_firstOfLeast 51 = .ok (.iload 6, 2) := by decide +kernel
theorem dX3_firstOfLeast_53 : decode cX3_firstOfLeast 53 = .ok (.iconst (-1), 1) := by decide +kernel
theorem dX3_firstOfLeast_54 : decode cX3_firstOfLeast 54 = .ok (.if_icmp .eq 29, 3) := by decide +kernel
theorem dX3_firstOfLeast_57 : decode cX3_firstOfLeast 57 = .ok (.iload 6, 2) := by decide +kernel
theorem dX3_firstOfLeast_59 : decode cX3_firstOfLeast 59 = .ok (.aload_n 0, 1) := by decide +kernel
theorem dX3_firstOfLeast_60 : decode cX3_firstOfLeast 60 = .ok (.getfield 15, 3) := by decide +kernel
theorem dX3_firstOfLeast_63 : decode cX3_firstOfLeast 63 = .ok (.iload_n 2, 1) := by decide +kernel
theorem dX3_firstOfLeast_64 : decode cX3_firstOfLeast 64 = .ok (.iconst 1, 1) := by decide +kernel
theorem dX3_firstOfLeast_65 : decode cX3_firstOfLeast 65 = .ok (.iload 5, 2) := by decide +kernel
theorem dX3_firstOfLeast_67 : decode cX3_firstOfLeast 67 = .ok (.ishl, 1) := by decide +kernel
theorem dX3_firstOfLeast_68 : decode cX3_firstOfLeast 68 = .ok (.ior, 1) := by decide +kernel
theorem dX3_firstOfLeast_69 : decode cX3_firstOfLeast 69 = .ok (.iaload, 1) := by decide +kernel
theorem dX3_firstOfLeast_70 : decode cX3_firstOfLeast 70 = .ok (.iadd, 1) := by decide +kernel
theorem dX3_firstOfLeast_71 : decode cX3_firstOfLeast 71 = .ok (.aload_n 0, 1) := by decide +kernel
theorem dX3_firstOfLeast_72 : decode cX3_firstOfLeast 72 = .ok (.getfield 15, 3) := by decide +kernel
theorem dX3_firstOfLeast_75 : decode cX3_firstOfLeast 75 = .ok (.iload_n 2, 1) := by decide +kernel
theorem dX3_firstOfLeast_76 : decode cX3_firstOfLeast 76 = .ok (.iaload, 1) := by decide +kernel
theorem dX3_firstOfLeast_77 : decode cX3_firstOfLeast 77 = .ok (.if_icmp .ne 6, 3) := by decide +kernel
theorem dX3_firstOfLeast_80 : decode cX3_firstOfLeast 80 = .ok (.iload 5, 2) := by decide +kernel
theorem dX3_firstOfLeast_82 : decode cX3_firstOfLeast 82 = .ok (.ireturn, 1) := by decide +kernel
theorem dX3_firstOfLeast_83 : decode cX3_firstOfLeast 83 = .ok (.iinc 5 1, 3) := by decide +kernel
theorem dX3_firstOfLeast_86 : decode cX3_firstOfLeast 86 = .ok (.goto (-73), 3) := by decide +kernel
theorem dX3_firstOfLeast_89 : decode cX3_firstOfLeast 89 = .ok (.iconst 0, 1) := by decide +kernel
theorem dX3_firstOfLeast_90 : decode cX3_firstOfLeast 90 = .ok (.ireturn, 1) := by decide +kernel
theorem dX3_listen_0 : decode cX3_listen 0 = .ok (.aload_n 1, 1) := by decide +kernel
theorem dX3_listen_1 : decode cX3_listen 1 = .ok (.getfield 99, 3) := by decide +kernel
theorem dX3_listen_4 : decode cX3_listen 4 = .ok (.getfield 140, 3) := by decide +kernel
theorem dX3_listen_7 : decode cX3_listen 7 = .ok (.istore_n 2, 1) := by decide +kernel
theorem dX3_listen_8 : decode cX3_listen 8 = .ok (.aload_n 1, 1) := by decide +kernel
theorem dX3_listen_9 : decode cX3_listen 9 = .ok (.getfield 58, 3) := by decide +kernel
theorem dX3_listen_12 : decode cX3_listen 12 = .ok (.invokevirtual 73, 3) := by decide +kernel
theorem dX3_listen_15 : decode cX3_listen 15 = .ok (.istore_n 3, 1) := by decide +kernel
theorem dX3_listen_16 : decode cX3_listen 16 = .ok (.aload_n 0, 1) := by decide +kernel
theorem dX3_listen_17 : decode cX3_listen 17 = .ok (.aload_n 1, 1) := by decide +kernel
theorem dX3_listen_18 : decode cX3_listen 18 = .ok (.iload_n 2, 1) := by decide +kernel
theorem dX3_listen_19 : decode cX3_listen 19 = .ok (.iconst 1, 1) := by decide +kernel
theorem dX3_listen_20 : decode cX3_listen 20 = .ok (.invokevirtual 69, 3) := by decide +kernel
theorem dX3_listen_23 : decode cX3_listen 23 = .ok (.aload_n 0, 1) := by decide +kernel
theorem dX3_listen_24 : decode cX3_listen 24 = .ok (.lconst 0, 1) := by decide +kernel
theorem dX3_listen_25 : decode cX3_listen 25 = .ok (.putfield 43, 3) := by decide +kernel
theorem dX3_listen_28 : decode cX3_listen 28 = .ok (.aload_n 0, 1) := by decide +kernel
theorem dX3_listen_29 : decode cX3_listen 29 = .ok (.iload_n 3, 1) := by decide +kernel
theorem dX3_listen_30 : decode cX3_listen 30 = .ok (.putfield 46, 3) := by decide +kernel
theorem dX3_listen_33 : decode cX3_listen 33 = .ok (.aload_n 0, 1) := by decide +kernel
theorem dX3_listen_34 : decode cX3_listen 34 = .ok (.iconst 0, 1) := by decide +kernel
theorem dX3_listen_35 : decode cX3_listen 35 = .ok (.putfield 49, 3) := by decide +kernel
theorem dX3_listen_38 : decode cX3_listen 38 = .ok (.iconst 0, 1) := by decide +kernel
theorem dX3_listen_39 : decode cX3_listen 39 = .ok (.istore 4, 2) := by decide +kernel
theorem dX3_listen_41 : decode cX3_listen 41 = .ok (.iload 4, 2) := by decide +kernel
theorem dX3_listen_43 : decode cX3_listen 43 = .ok (.sipush 4096, 3) := by decide +kernel
theorem dX3_listen_46 : decode cX3_listen 46 = .ok (.if_icmp .ge 73, 3) := by decide +kernel
theorem dX3_listen_49 : decode cX3_listen 49 = .ok (.iload 4, 2) := by decide +kernel
theorem dX3_listen_51 : decode cX3_listen 51 = .ok (.iload_n 3, 1) := by decide +kernel
theorem dX3_listen_52 : decode cX3_listen 52 = .ok (.if_icmp .gt 67, 3) := by decide +kernel
theorem dX3_listen_55 : decode cX3_listen 55 = .ok (.aload_n 0, 1) := by decide +kernel
theorem dX3_listen_56 : decode cX3_listen 56 = .ok (.getfield 15, 3) := by decide +kernel
theorem dX3_listen_59 : decode cX3_listen 59 = .ok (.iload 4, 2) := by decide +kernel
theorem dX3_listen_61 : decode cX3_listen 61 = .ok (.iaload, 1) := by decide +kernel
theorem dX3_listen_62 : decode cX3_listen 62 = .ok (.ifCond .eq 51, 3) := by decide +kernel
theorem dX3_listen_65 : decode cX3_listen 65 = .ok (.iload 4, 2) := by decide +kernel
theorem dX3_listen_67 : decode cX3_listen 67 = .ok (.invokestatic 88, 3) := by decide +kernel
theorem dX3_listen_70 : decode cX3_listen 70 = .ok (.iload_n 2, 1) := by decide +kernel
theorem dX3_listen_71 : decode cX3_listen 71 = .ok (.if_icmp .ne 42, 3) := by decide +kernel
theorem dX3_listen_74 : decode cX3_listen 74 = .ok (.aload_n 0, 1) := by decide +kernel
theorem dX3_listen_75 : decode cX3_listen 75 = .ok (.dup, 1) := by decide +kernel
theorem dX3_listen_76 : decode cX3_listen 76 = .ok (.getfield 43, 3) := by decide +kernel
theorem dX3_listen_79 : decode cX3_listen 79 = .ok (.aload_n 0, 1) := by decide +kernel
theorem dX3_listen_80 : decode cX3_listen 80 = .ok (.getfield 15, 3) := by decide +kernel
theorem dX3_listen_83 : decode cX3_listen 83 = .ok (.iload 4, 2) := by decide +kernel
theorem dX3_listen_85 : decode cX3_listen 85 = .ok (.iaload, 1) := by decide +kernel
theorem dX3_listen_86 : decode cX3_listen 86 = .ok (.i2l, 1) := by decide +kernel
theorem dX3_listen_87 : decode cX3_listen 87 = .ok (.ladd, 1) := by decide +kernel
theorem dX3_listen_88 : decode cX3_listen 88 = .ok (.putfield 43, 3) := by decide +kernel
theorem dX3_listen_91 : decode cX3_listen 91 = .ok (.aload_n 0, 1) := by decide +kernel
theorem dX3_listen_92 : decode cX3_listen 92 = .ok (.dup, 1) := by decide +kernel
theorem dX3_listen_93 : decode cX3_listen 93 = .ok (.getfield 46, 3) := by decide +kernel
theorem dX3_listen_96 : decode cX3_listen 96 = .ok (.iload 4, 2) := by decide +kernel
theorem dX3_listen_98 : decode cX3_listen 98 = .ok (.iand, 1) := by decide +kernel
theorem dX3_listen_99 : decode cX3_listen 99 = .ok (.putfield 46, 3) := by decide +kernel
theorem dX3_listen_102 : decode cX3_listen 102 = .ok (.aload_n 0, 1) := by decide +kernel
theorem dX3_listen_103 : decode cX3_listen 103 = .ok (.dup, 1) := by decide +kernel
theorem dX3_listen_104 : decode cX3_listen 104 = .ok (.getfield 49, 3) := by decide +kernel
theorem dX3_listen_107 : decode cX3_listen 107 = .ok (.iload 4, 2) := by decide +kernel
theorem dX3_listen_109 : decode cX3_listen 109 = .ok (.ior, 1) := by decide +kernel
theorem dX3_listen_110 : decode cX3_listen 110 = .ok (.putfield 49, 3) := by decide +kernel
theorem dX3_listen_113 : decode cX3_listen 113 = .ok (.iinc 4 1, 3) := by decide +kernel
theorem dX3_listen_116 : decode cX3_listen 116 = .ok (.goto (-75), 3) := by decide +kernel
theorem dX3_listen_119 : decode cX3_listen 119 = .ok (.aload_n 0, 1) := by decide +kernel
theorem dX3_listen_120 : decode cX3_listen 120 = .ok (.getfield 43, 3) := by decide +kernel
theorem dX3_listen_123 : decode cX3_listen 123 = .ok (.lconst 0, 1) := by decide +kernel
theorem dX3_listen_124 : decode cX3_listen 124 = .ok (.lcmp, 1) := by decide +kernel
theorem dX3_listen_125 : decode cX3_listen 125 = .ok (.ifCond .ne 8, 3) := by decide +kernel
theorem dX3_listen_128 : decode cX3_listen 128 = .ok (.aload_n 0, 1) := by decide +kernel
theorem dX3_listen_129 : decode cX3_listen 129 = .ok (.iconst 0, 1) := by decide +kernel
theorem dX3_listen_130 : decode cX3_listen 130 = .ok (.putfield 46, 3) := by decide +kernel
theorem dX3_listen_133 : decode cX3_listen 133 = .ok (.return_, 1) := by decide +kernel
theorem dX4_init_0 : decode cX4_init 0 = .ok (.aload_n 0, 1) := by decide +kernel
theorem dX4_init_1 : decode cX4_init 1 = .ok (.invokespecial 3, 3) := by decide +kernel
theorem dX4_init_4 : decode cX4_init 4 = .ok (.aload_n 0, 1) := by decide +kernel
theorem dX4_init_5 : decode cX4_init 5 = .ok (.bipush 72, 2) := by decide +kernel
theorem dX4_init_7 : decode cX4_init 7 = .ok (.newarray .int, 2) := by decide +kernel
theorem dX4_init_9 : decode cX4_init 9 = .ok (.putfield 11, 3) := by decide +kernel
theorem dX4_init_12 : decode cX4_init 12 = .ok (.aload_n 0, 1) := by decide +kernel
theorem dX4_init_13 : decode cX4_init 13 = .ok (.sipush 300, 3) := by decide +kernel
theorem dX4_init_16 : decode cX4_init 16 = .ok (.newarray .int, 2) := by decide +kernel
theorem dX4_init_18 : decode cX4_init 18 = .ok (.putfield 17, 3) := by decide +kernel
theorem dX4_init_21 : decode cX4_init 21 = .ok (.aload_n 0, 1) := by decide +kernel
theorem dX4_init_22 : decode cX4_init 22 = .ok (.bipush 40, 2) := by decide +kernel
theorem dX4_init_24 : decode cX4_init 24 = .ok (.newarray .int, 2) := by decide +kernel
theorem dX4_init_26 : decode cX4_init 26 = .ok (.putfield 20, 3) := by decide +kernel
theorem dX4_init_29 : decode cX4_init 29 = .ok (.aload_n 0, 1) := by decide +kernel
theorem dX4_init_30 : decode cX4_init 30 = .ok (.getstatic 23, 3) := by decide +kernel
theorem dX4_init_33 : decode cX4_init 33 = .ok (.putfield 26, 3) := by decide +kernel
theorem dX4_init_36 : decode cX4_init 36 = .ok (.aload_n 0, 1) := by decide +kernel
theorem dX4_init_37 : decode cX4_init 37 = .ok (.getstatic 23, 3) := by decide +kernel
theorem dX4_init_40 : decode cX4_init 40 = .ok (.putfield 29, 3) := by decide +kernel
theorem dX4_init_43 : decode cX4_init 43 = .ok (.aload_n 0, 1) := by decide +kernel
theorem dX4_init_44 : decode cX4_init 44 = .ok (.getstatic 23, 3) := by decide +kernel
theorem dX4_init_47 : decode cX4_init 47 = .ok (.putfield 32, 3) := by decide +kernel
theorem dX4_init_50 : decode cX4_init 50 = .ok (.aload_n 0, 1) := by decide +kernel
theorem dX4_init_51 : decode cX4_init 51 = .ok (.iconst 0, 1) := by decide +kernel
theorem dX4_init_52 : decode cX4_init 52 = .ok (.putfield 35, 3) := by decide +kernel
theorem dX4_init_55 : decode cX4_init 55 = .ok (.aload_n 0, 1) := by decide +kernel
theorem dX4_init_56 : decode cX4_init 56 = .ok (.iconst 0, 1) := by decide +kernel
theorem dX4_init_57 : decode cX4_init 57 = .ok (.putfield 39, 3) := by decide +kernel
theorem dX4_init_60 : decode cX4_init 60 = .ok (.aload_n 0, 1) := by decide +kernel
theorem dX4_init_61 : decode cX4_init 61 = .ok (.iconst 0, 1) := by decide +kernel
theorem dX4_init_62 : decode cX4_init 62 = .ok (.putfield 42, 3) := by decide +kernel
theorem dX4_init_65 : decode cX4_init 65 = .ok (.aload_n 0, 1) := by decide +kernel
theorem dX4_init_66 : decode cX4_init 66 = .ok (.iconst 0, 1) := by decide +kernel
theorem dX4_init_67 : decode cX4_init 67 = .ok (.putfield 45, 3) := by decide +kernel
theorem dX4_init_70 : decode cX4_init 70 = .ok (.aload_n 0, 1) := by decide +kernel
theorem dX4_init_71 : decode cX4_init 71 = .ok (.iconst (-1), 1) := by decide +kernel
theorem dX4_init_72 : decode cX4_init 72 = .ok (.putfield 48, 3) := by decide +kernel
theorem dX4_init_75 : decode cX4_init 75 = .ok (.aload_n 0, 1) := by decide +kernel
theorem dX4_init_76 : decode cX4_init 76 = .ok (.iconst 0, 1) := by decide +kernel
theorem dX4_init_77 : decode cX4_init 77 = .ok (.putfield 51, 3) := by decide +kernel
theorem dX4_init_80 : decode cX4_init 80 = .ok (.aload_n 0, 1) := by decide +kernel
theorem dX4_init_81 : decode cX4_init 81 = .ok (.iconst 0, 1) := by decide +kernel
theorem dX4_init_82 : decode cX4_init 82 = .ok (.putfield 54, 3) := by decide +kernel
theorem dX4_init_85 : decode cX4_init 85 = .ok (.aload_n 0, 1) := by decide +kernel
theorem dX4_init_86 : decode cX4_init 86 = .ok (.iconst 0, 1) := by decide +kernel
theorem dX4_init_87 : decode cX4_init 87 = .ok (.putfield 57, 3) := by decide +kernel
theorem dX4_init_90 : decode cX4_init 90 = .ok (.aload_n 0, 1) := by decide +kernel
theorem dX4_init_91 : decode cX4_init 91 = .ok (.iconst 1, 1) := by decide +kernel
theorem dX4_init_92 : decode cX4_init 92 = .ok (.putfield 60, 3) := by decide +kernel
theorem dX4_init_95 : decode cX4_init 95 = .ok (.aload_n 0, 1) := by decide +kernel
theorem dX4_init_96 : decode cX4_init 96 = .ok (.iconst 0, 1) := by decide +kernel
theorem dX4_init_97 : decode cX4_init 97 = .ok (.putfield 64, 3) := by decide +kernel
theorem dX4_init_100 : decode cX4_init 100 = .ok (.aload_n 0, 1) := by decide +kernel
theorem dX4_init_101 : decode cX4_init 101 = .ok (.iconst 0, 1) := by decide +kernel
theorem dX4_init_102 : decode cX4_init 102 = .ok (.putfield 67, 3) := by decide +kernel
theorem dX4_init_105 : decode cX4_init 105 = .ok (.return_, 1) := by decide +kernel
theorem dX4_read_0 : decode cX4_read 0 = .ok (.aload_n 0, 1) := by decide +kernel
theorem dX4_read_1 : decode cX4_read 1 = .ok (.getstatic 23, 3) := by decide +kernel
theorem dX4_read_4 : decode cX4_read 4 = .ok (.putfield 26, 3) := by decide +kernel
theorem dX4_read_7 : decode cX4_read 7 = .ok (.aload_n 0, 1) := by decide +kernel
theorem dX4_read_8 : decode cX4_read 8 = .ok (.getstatic 23, 3) := by decide +kernel
theorem dX4_read_11 : decode cX4_read 11 = .ok (.putfield 29, 3) := by decide +kernel
theorem dX4_read_14 : decode cX4_read 14 = .ok (.aload_n 0, 1) := by decide +kernel
theorem dX4_read_15 : decode cX4_read 15 = .ok (.getstatic 23, 3) := by decide +kernel
theorem dX4_read_18 : decode cX4_read 18 = .ok (.putfield 32, 3) := by decide +kernel
theorem dX4_read_21 : decode cX4_read 21 = .ok (.aload_n 0, 1) := by decide +kernel
theorem dX4_read_22 : decode cX4_read 22 = .ok (.iconst 0, 1) := by decide +kernel
theorem dX4_read_23 : decode cX4_read 23 = .ok (.putfield 35, 3) := by decide +kernel
theorem dX4_read_26 : decode cX4_read 26 = .ok (.aload_n 0, 1) := by decide +kernel
theorem dX4_read_27 : decode cX4_read 27 = .ok (.iconst 0, 1) := by decide +kernel
theorem dX4_read_28 : decode cX4_read 28 = .ok (.putfield 45, 3) := by decide +kernel
theorem dX4_read_31 : decode cX4_read 31 = .ok (.aload_n 0, 1) := by decide +kernel
theorem dX4_read_32 : decode cX4_read 32 = .ok (.iconst (-1), 1) := by decide +kernel
theorem dX4_read_33 : decode cX4_read 33 = .ok (.putfield 48, 3) := by decide +kernel
theorem dX4_read_36 : decode cX4_read 36 = .ok (.aload_n 1, 1) := by decide +kernel
theorem dX4_read_37 : decode cX4_read 37 = .ok (.invokevirtual 70, 3) := by decide +kernel
theorem dX4_read_40 : decode cX4_read 40 = .ok (.iconst 0, 1) := by decide +kernel
theorem dX4_read_41 : decode cX4_read 41 = .ok (.istore_n 2, 1) := by decide +kernel
theorem dX4_read_42 : decode cX4_read 42 = .ok (.iload_n 2, 1) := by decide +kernel
theorem dX4_read_43 : decode cX4_read 43 = .ok (.bipush 24, 2) := by decide +kernel
theorem dX4_read_45 : decode cX4_read 45 = .ok (.if_icmp .gt 30, 3) := by decide +kernel
theorem dX4_read_48 : decode cX4_read 48 = .ok (.aload_n 0, 1) := by decide +kernel
theorem dX4_read_49 : decode cX4_read 49 = .ok (.getfield 45, 3) := by decide +kernel
theorem dX4_read_52 : decode cX4_read 52 = .ok (.ifCond .ne 23, 3) := by decide +kernel
theorem dX4_read_55 : decode cX4_read 55 = .ok (.aload_n 1, 1) := by decide +kernel
theorem dX4_read_56 : decode cX4_read 56 = .ok (.invokevirtual 75, 3) := by decide +kernel
theorem dX4_read_59 : decode cX4_read 59 = .ok (.bipush 41, 2) := by decide +kernel
theorem dX4_read_61 : decode cX4_read 61 = .ok (.if_icmp .eq 14, 3) := by decide +kernel
theorem dX4_read_64 : decode cX4_read 64 = .ok (.aload_n 0, 1) := by decide +kernel
theorem dX4_read_65 : decode cX4_read 65 = .ok (.aload_n 1, 1) := by decide +kernel
theorem dX4_read_66 : decode cX4_read 66 = .ok (.invokevirtual 79, 3) := by decide +kernel
theorem dX4_read_69 : decode cX4_read 69 = .ok (.iinc 2 1, 3) := by decide +kernel
theorem dX4_read_72 : decode cX4_read 72 = .ok (.goto (-30), 3) := by decide +kernel
theorem dX4_read_75 : decode cX4_read 75 = .ok (.return_, 1) := by decide +kernel
theorem dX4_newText_0 : decode cX4_newText 0 = .ok (.new 9, 3) := by decide +kernel
theorem dX4_newText_3 : decode cX4_newText 3 = .ok (.dup, 1) := by decide +kernel
theorem dX4_newText_4 : decode cX4_newText 4 = .ok (.aload_n 0, 1) := by decide +kernel
theorem dX4_newText_5 : decode cX4_newText 5 = .ok (.getfield 26, 3) := by decide +kernel
theorem dX4_newText_8 : decode cX4_newText 8 = .ok (.aload_n 0, 1) := by decide +kernel
theorem dX4_newText_9 : decode cX4_newText 9 = .ok (.getfield 29, 3) := by decide +kernel
theorem dX4_newText_12 : decode cX4_newText 12 = .ok (.aload_n 0, 1) := by decide +kernel
theorem dX4_newText_13 : decode cX4_newText 13 = .ok (.getfield 32, 3) := by decide +kernel
theorem dX4_newText_16 : decode cX4_newText 16 = .ok (.aload_n 0, 1) := by decide +kernel
theorem dX4_newText_17 : decode cX4_newText 17 = .ok (.getfield 11, 3) := by decide +kernel
theorem dX4_newText_20 : decode cX4_newText 20 = .ok (.aload_n 0, 1) := by decide +kernel
theorem dX4_newText_21 : decode cX4_newText 21 = .ok (.getfield 35, 3) := by decide +kernel
theorem dX4_newText_24 : decode cX4_newText 24 = .ok (.iconst 3, 1) := by decide +kernel
theorem dX4_newText_25 : decode cX4_newText 25 = .ok (.imul, 1) := by decide +kernel
theorem dX4_newText_26 : decode cX4_newText 26 = .ok (.invokestatic 83, 3) := by decide +kernel
theorem dX4_newText_29 : decode cX4_newText 29 = .ok (.invokespecial 89, 3) := by decide +kernel
theorem dX4_newText_32 : decode cX4_newText 32 = .ok (.areturn, 1) := by decide +kernel
theorem dX4_fail_0 : decode cX4_fail 0 = .ok (.aload_n 0, 1) := by decide +kernel
theorem dX4_fail_1 : decode cX4_fail 1 = .ok (.iload_n 2, 1) := by decide +kernel
theorem dX4_fail_2 : decode cX4_fail 2 = .ok (.putfield 45, 3) := by decide +kernel
theorem dX4_fail_5 : decode cX4_fail 5 = .ok (.aload_n 0, 1) := by decide +kernel
theorem dX4_fail_6 : decode cX4_fail 6 = .ok (.aload_n 1, 1) := by decide +kernel
theorem dX4_fail_7 : decode cX4_fail 7 = .ok (.invokevirtual 92, 3) := by decide +kernel
theorem dX4_fail_10 : decode cX4_fail 10 = .ok (.putfield 48, 3) := by decide +kernel
theorem dX4_fail_13 : decode cX4_fail 13 = .ok (.return_, 1) := by decide +kernel
theorem dX4_readClause_0 : decode cX4_readClause 0 = .ok (.aload_n 0, 1) := by decide +kernel
theorem dX4_readClause_1 : decode cX4_readClause 1 = .ok (.aload_n 1, 1) := by decide +kernel
theorem dX4_readClause_2 : decode cX4_readClause 2 = .ok (.invokevirtual 75, 3) := by decide +kernel
theorem dX4_readClause_5 : decode cX4_readClause 5 = .ok (.putfield 51, 3) := by decide +kernel
theorem dX4_readClause_8 : decode cX4_readClause 8 = .ok (.aload_n 0, 1) := by decide +kernel
theorem dX4_readClause_9 : decode cX4_readClause 9 = .ok (.getfield 51, 3) := by decide +kernel
theorem dX4_readClause_12 : decode cX4_readClause 12 = .ok (.bipush 8, 2) := by decide +kernel
theorem dX4_readClause_14 : decode cX4_readClause 14 = .ok (.if_icmp .lt 12, 3) := by decide +kernel
theorem dX4_readClause_17 : decode cX4_readClause 17 = .ok (.aload_n 0, 1) := by decide +kernel
theorem dX4_readClause_18 : decode cX4_readClause 18 = .ok (.getfield 51, 3) := by decide +kernel
theorem dX4_readClause_21 : decode cX4_readClause 21 = .ok (.bipush 13, 2) := by decide +kernel
theorem dX4_readClause_23 : decode cX4_readClause 23 = .ok (.if_icmp .le 12, 3) := by decide +kernel
theorem dX4_readClause_26 : decode cX4_readClause 26 = .ok (.aload_n 0, 1) := by decide +kernel
theorem dX4_readClause_27 : decode cX4_readClause 27 = .ok (.aload_n 1, 1) := by decide +kernel
theorem dX4_readClause_28 : decode cX4_readClause 28 = .ok (.iconst 1, 1) := by decide +kernel
theorem dX4_readClause_29 : decode cX4_readClause 29 = .ok (.invokevirtual 95, 3) := by decide +kernel
theorem dX4_readClause_32 : decode cX4_readClause 32 = .ok (.goto 68, 3) := by decide +kernel
theorem dX4_readClause_35 : decode cX4_readClause 35 = .ok (.aload_n 0, 1) := by decide +kernel
theorem dX4_readClause_36 : decode cX4_readClause 36 = .ok (.aload_n 0, 1) := by decide +kernel
theorem dX4_readClause_37 : decode cX4_readClause 37 = .ok (.getfield 51, 3) := by decide +kernel
theorem dX4_readClause_40 : decode cX4_readClause 40 = .ok (.invokevirtual 99, 3) := by decide +kernel
theorem dX4_readClause_43 : decode cX4_readClause 43 = .ok (.ifCond .eq 12, 3) := by decide +kernel
theorem dX4_readClause_46 : decode cX4_readClause 46 = .ok (.aload_n 0, 1) := by decide +kernel
theorem dX4_readClause_47 : decode cX4_readClause 47 = .ok (.aload_n 1, 1) := by decide +kernel
theorem dX4_readClause_48 : decode cX4_readClause 48 = .ok (.iconst 4, 1) := by decide +kernel
theorem dX4_readClause_49 : decode cX4_readClause 49 = .ok (.invokevirtual 95, 3) := by decide +kernel
theorem dX4_readClause_52 : decode cX4_readClause 52 = .ok (.goto 48, 3) := by decide +kernel
theorem dX4_readClause_55 : decode cX4_readClause 55 = .ok (.aload_n 0, 1) := by decide +kernel
theorem dX4_readClause_56 : decode cX4_readClause 56 = .ok (.getfield 35, 3) := by decide +kernel
theorem dX4_readClause_59 : decode cX4_readClause 59 = .ok (.bipush 24, 2) := by decide +kernel
theorem dX4_readClause_61 : decode cX4_readClause 61 = .ok (.if_icmp .lt 13, 3) := by decide +kernel
theorem dX4_readClause_64 : decode cX4_readClause 64 = .ok (.aload_n 0, 1) := by decide +kernel
theorem dX4_readClause_65 : decode cX4_readClause 65 = .ok (.aload_n 1, 1) := by decide +kernel
theorem dX4_readClause_66 : decode cX4_readClause 66 = .ok (.bipush 6, 2) := by decide +kernel
theorem dX4_readClause_68 : decode cX4_readClause 68 = .ok (.invokevirtual 95, 3) := by decide +kernel
theorem dX4_readClause_71 : decode cX4_readClause 71 = .ok (.goto 29, 3) := by decide +kernel
theorem dX4_readClause_74 : decode cX4_readClause 74 = .ok (.aload_n 1, 1) := by decide +kernel
theorem dX4_readClause_75 : decode cX4_readClause 75 = .ok (.invokevirtual 103, 3) := by decide +kernel
theorem dX4_readClause_78 : decode cX4_readClause 78 = .ok (.aload_n 0, 1) := by decide +kernel
theorem dX4_readClause_79 : decode cX4_readClause 79 = .ok (.getfield 51, 3) := by decide +kernel
theorem dX4_readClause_82 : decode cX4_readClause 82 = .ok (.bipush 10, 2) := by decide +kernel
theorem dX4_readClause_84 : decode cX4_readClause 84 = .ok (.if_icmp .gt 11, 3) := by decide +kernel
theorem dX4_readClause_87 : decode cX4_readClause 87 = .ok (.aload_n 0, 1) := by decide +kernel
theorem dX4_readClause_88 : decode cX4_readClause 88 = .ok (.aload_n 1, 1) := by decide +kernel
theorem dX4_readClause_89 : decode cX4_readClause 89 = .ok (.invokevirtual 106, 3) := by decide +kernel
theorem dX4_readClause_92 : decode cX4_readClause 92 = .ok (.goto 8, 3) := by decide +kernel
theorem dX4_readClause_95 : decode cX4_readClause 95 = .ok (.aload_n 0, 1) := by decide +kernel
theorem dX4_readClause_96 : decode cX4_readClause 96 = .ok (.aload_n 1, 1) := by decide +kernel
theorem dX4_readClause_97 : decode cX4_readClause 97 = .ok (.invokevirtual 109, 3) := by decide +kernel
theorem dX4_readClause_100 : decode cX4_readClause 100 = .ok (.return_, 1) := by decide +kernel
theorem dX4_isTold_0 : decode cX4_isTold 0 = .ok (.iload_n 1, 1) := by decide +kernel
theorem dX4_isTold_1 : decode cX4_isTold 1 = .ok (.bipush 8, 2) := by decide +kernel
theorem dX4_isTold_3 : decode cX4_isTold 3 = .ok (.if_icmp .ne 11, 3) := by decide +kernel
theorem dX4_isTold_6 : decode cX4_isTold 6 = .ok (.aload_n 0, 1) := by decide +kernel
theorem dX4_isTold_7 : decode cX4_isTold 7 = .ok (.getfield 26, 3) := by decide +kernel
theorem dX4_isTold_10 : decode cX4_isTold 10 = .ok (.arraylength, 1) := by decide +kernel
theorem dX4_isTold_11 : decode cX4_isTold 11 = .ok (.ifCond .gt 31, 3) := by decide +kernel
theorem dX4_isTold_14 : decode cX4_isTold 14 = .ok (.iload_n 1, 1) := by decide +kernel
theorem dX4_isTold_15 : decode cX4_isTold 15 = .ok (.bipush 9, 2) := by decide +kernel
theorem dX4_isTold_17 : decode cX4_isTold 17 = .ok (.if_icmp .ne 11, 3) := by decide +kernel
theorem dX4_isTold_20 : decode cX4_isTold 20 = .ok (.aload_n 0, 1) := by decide +kernel
theorem dX4_isTold_21 : decode cX4_isTold 21 = .ok (.getfield 29, 3) := by decide +kernel
theorem dX4_isTold_24 : decode cX4_isTold 24 = .ok (.arraylength, 1) := by decide +kernel
theorem dX4_isTold_25 : decode cX4_isTold 25 = .ok (.ifCond .gt 17, 3) := by decide +kernel
theorem dX4_isTold_28 : decode cX4_isTold 28 = .ok (.iload_n 1, 1) := by decide +kernel
theorem dX4_isTold_29 : decode cX4_isTold 29 = .ok (.bipush 10, 2) := by decide +kernel
theorem dX4_isTold_31 : decode cX4_isTold 31 = .ok (.if_icmp .ne 15, 3) := by decide +kernel
theorem dX4_isTold_34 : decode cX4_isTold 34 = .ok (.aload_n 0, 1) := by decide +kernel
theorem dX4_isTold_35 : decode cX4_isTold 35 = .ok (.getfield 32, 3) := by decide +kernel
theorem dX4_isTold_38 : decode cX4_isTold 38 = .ok (.arraylength, 1) := by decide +kernel
theorem dX4_isTold_39 : decode cX4_isTold 39 = .ok (.ifCond .le 7, 3) := by decide +kernel
theorem dX4_isTold_42 : decode cX4_isTold 42 = .ok (.iconst 1, 1) := by decide +kernel
theorem dX4_isTold_43 : decode cX4_isTold 43 = .ok (.goto 4, 3) := by decide +kernel
theorem dX4_isTold_46 : decode cX4_isTold 46 = .ok (.iconst 0, 1) := by decide +kernel
theorem dX4_isTold_47 : decode cX4_isTold 47 = .ok (.ireturn, 1) := by decide +kernel
theorem dX4_addClause_0 : decode cX4_addClause 0 = .ok (.aload_n 0, 1) := by decide +kernel
theorem dX4_addClause_1 : decode cX4_addClause 1 = .ok (.getfield 35, 3) := by decide +kernel
theorem dX4_addClause_4 : decode cX4_addClause 4 = .ok (.bipush 24, 2) := by decide +kernel
theorem dX4_addClause_6 : decode cX4_addClause 6 = .ok (.if_icmp .ge 56, 3) := by decide +kernel
theorem dX4_addClause_9 : decode cX4_addClause 9 = .ok (.aload_n 0, 1) := by decide +kernel
theorem dX4_addClause_10 : decode cX4_addClause 10 = .ok (.getfield 11, 3) := by decide +kernel
theorem dX4_addClause_13 : decode cX4_addClause 13 = .ok (.aload_n 0, 1) := by decide +kernel
theorem dX4_addClause_14 : decode cX4_addClause 14 = .ok (.getfield 35, 3) := by decide +kernel
theorem dX4_addClause_17 : decode cX4_addClause 17 = .ok (.iconst 3, 1) := by decide +kernel
theorem dX4_addClause_18 : decode cX4_addClause 18 = .ok (.imul, 1) := by decide +kernel
theorem dX4_addClause_19 : decode cX4_addClause 19 = .ok (.aload_n 0, 1) := by decide +kernel
theorem dX4_addClause_20 : decode cX4_addClause 20 = .ok (.getfield 51, 3) := by decide +kernel
theorem dX4_addClause_23 : decode cX4_addClause 23 = .ok (.iastore, 1) := by decide +kernel
theorem dX4_addClause_24 : decode cX4_addClause 24 = .ok (.aload_n 0, 1) := by decide +kernel
theorem dX4_addClause_25 : decode cX4_addClause 25 = .ok (.getfield 11, 3) := by decide +kernel
theorem dX4_addClause_28 : decode cX4_addClause 28 = .ok (.aload_n 0, 1) := by decide +kernel
theorem dX4_addClause_29 : decode cX4_addClause 29 = .ok (.getfield 35, 3) := by decide +kernel
theorem dX4_addClause_32 : decode cX4_addClause 32 = .ok (.iconst 3, 1) := by decide +kernel
theorem dX4_addClause_33 : decode cX4_addClause 33 = .ok (.imul, 1) := by decide +kernel
theorem dX4_addClause_34 : decode cX4_addClause 34 = .ok (.iconst 1, 1) := by decide +kernel
theorem dX4_addClause_35 : decode cX4_addClause 35 = .ok (.iadd, 1) := by decide +kernel
theorem dX4_addClause_36 : decode cX4_addClause 36 = .ok (.iload_n 1, 1) := by decide +kernel
theorem dX4_addClause_37 : decode cX4_addClause 37 = .ok (.iastore, 1) := by decide +kernel
theorem dX4_addClause_38 : decode cX4_addClause 38 = .ok (.aload_n 0, 1) := by decide +kernel
theorem dX4_addClause_39 : decode cX4_addClause 39 = .ok (.getfield 11, 3) := by decide +kernel
theorem dX4_addClause_42 : decode cX4_addClause 42 = .ok (.aload_n 0, 1) := by decide +kernel
theorem dX4_addClause_43 : decode cX4_addClause 43 = .ok (.getfield 35, 3) := by decide +kernel
theorem dX4_addClause_46 : decode cX4_addClause 46 = .ok (.iconst 3, 1) := by decide +kernel
theorem dX4_addClause_47 : decode cX4_addClause 47 = .ok (.imul, 1) := by decide +kernel
theorem dX4_addClause_48 : decode cX4_addClause 48 = .ok (.iconst 2, 1) := by decide +kernel
theorem dX4_addClause_49 : decode cX4_addClause 49 = .ok (.iadd, 1) := by decide +kernel
theorem dX4_addClause_50 : decode cX4_addClause 50 = .ok (.iload_n 2, 1) := by decide +kernel
theorem dX4_addClause_51 : decode cX4_addClause 51 = .ok (.iastore, 1) := by decide +kernel
theorem dX4_addClause_52 : decode cX4_addClause 52 = .ok (.aload_n 0, 1) := by decide +kernel
theorem dX4_addClause_53 : decode cX4_addClause 53 = .ok (.dup, 1) := by decide +kernel
theorem dX4_addClause_54 : decode cX4_addClause 54 = .ok (.getfield 35, 3) := by decide +kernel
theorem dX4_addClause_57 : decode cX4_addClause 57 = .ok (.iconst 1, 1) := by decide +kernel
theorem dX4_addClause_58 : decode cX4_addClause 58 = .ok (.iadd, 1) := by decide +kernel
theorem dX4_addClause_59 : decode cX4_addClause 59 = .ok (.putfield 35, 3) := by decide +kernel
theorem dX4_addClause_62 : decode cX4_addClause 62 = .ok (.return_, 1) := by decide +kernel
theorem dX4_readDeed_0 : decode cX4_readDeed 0 = .ok (.aload_n 0, 1) := by decide +kernel
theorem dX4_readDeed_1 : decode cX4_readDeed 1 = .ok (.getfield 51, 3) := by decide +kernel
theorem dX4_readDeed_4 : decode cX4_readDeed 4 = .ok (.bipush 13, 2) := by decide +kernel
theorem dX4_readDeed_6 : decode cX4_readDeed 6 = .ok (.if_icmp .ne 8, 3) := by decide +kernel
theorem dX4_readDeed_9 : decode cX4_readDeed 9 = .ok (.bipush 9, 2) := by decide +kernel
theorem dX4_readDeed_11 : decode cX4_readDeed 11 = .ok (.goto 5, 3) := by decide +kernel
theorem dX4_readDeed_14 : decode cX4_readDeed 14 = .ok (.bipush 11, 2) := by decide +kernel
theorem dX4_readDeed_16 : decode cX4_readDeed 16 = .ok (.istore_n 2, 1) := by decide +kernel
theorem dX4_readDeed_17 : decode cX4_readDeed 17 = .ok (.aload_n 0, 1) := by decide +kernel
theorem dX4_readDeed_18 : decode cX4_readDeed 18 = .ok (.aload_n 1, 1) := by decide +kernel
theorem dX4_readDeed_19 : decode cX4_readDeed 19 = .ok (.iload_n 2, 1) := by decide +kernel
theorem dX4_readDeed_20 : decode cX4_readDeed 20 = .ok (.invokevirtual 112, 3) := by decide +kernel
theorem dX4_readDeed_23 : decode cX4_readDeed 23 = .ok (.istore_n 3, 1) := by decide +kernel
theorem dX4_readDeed_24 : decode cX4_readDeed 24 = .ok (.iconst (-1), 1) := by decide +kernel
theorem dX4_readDeed_25 : decode cX4_readDeed 25 = .ok (.istore 4, 2) := by decide +kernel
theorem dX4_readDeed_27 : decode cX4_readDeed 27 = .ok (.aload_n 0, 1) := by decide +kernel
theorem dX4_readDeed_28 : decode cX4_readDeed 28 = .ok (.getfield 51, 3) := by decide +kernel
theorem dX4_readDeed_31 : decode cX4_readDeed 31 = .ok (.bipush 13, 2) := by decide +kernel
theorem dX4_readDeed_33 : decode cX4_readDeed 33 = .ok (.if_icmp .ne 18, 3) := by decide +kernel
theorem dX4_readDeed_36 : decode cX4_readDeed 36 = .ok (.aload_n 0, 1) := by decide +kernel
theorem dX4_readDeed_37 : decode cX4_readDeed 37 = .ok (.aload_n 1, 1) := by decide +kernel
theorem dX4_readDeed_38 : decode cX4_readDeed 38 = .ok (.bipush 14, 2) := by decide +kernel
theorem dX4_readDeed_40 : decode cX4_readDeed 40 = .ok (.invokevirtual 116, 3) := by decide +kernel
theorem dX4_readDeed_43 : decode cX4_readDeed 43 = .ok (.aload_n 0, 1) := by decide +kernel
theorem dX4_readDeed_44 : decode cX4_readDeed 44 = .ok (.aload_n 1, 1) := by decide +kernel
theorem dX4_readDeed_45 : decode cX4_readDeed 45 = .ok (.iload_n 2, 1) := by decide +kernel
theorem dX4_readDeed_46 : decode cX4_readDeed 46 = .ok (.invokevirtual 112, 3) := by decide +kernel
theorem dX4_readDeed_49 : decode cX4_readDeed 49 = .ok (.istore 4, 2) := by decide +kernel
theorem dX4_readDeed_51 : decode cX4_readDeed 51 = .ok (.aload_n 0, 1) := by decide +kernel
theorem dX4_readDeed_52 : decode cX4_readDeed 52 = .ok (.aload_n 1, 1) := by decide +kernel
theorem dX4_readDeed_53 : decode cX4_readDeed 53 = .ok (.bipush 30, 2) := by decide +kernel
theorem dX4_readDeed_55 : decode cX4_readDeed 55 = .ok (.invokevirtual 116, 3) := by decide +kernel
theorem dX4_readDeed_58 : decode cX4_readDeed 58 = .ok (.aload_n 0, 1) := by decide +kernel
theorem dX4_readDeed_59 : decode cX4_readDeed 59 = .ok (.getfield 45, 3) := by decide +kernel
theorem dX4_readDeed_62 : decode cX4_readDeed 62 = .ok (.ifCond .ne 10, 3) := by decide +kernel
theorem dX4_readDeed_65 : decode cX4_readDeed 65 = .ok (.aload_n 0, 1) := by decide +kernel
theorem dX4_readDeed_66 : decode cX4_readDeed 66 = .ok (.iload_n 3, 1) := by decide +kernel
theorem dX4_readDeed_67 : decode cX4_readDeed 67 = .ok (.iload 4, 2) := by decide +kernel
theorem dX4_readDeed_69 : decode cX4_readDeed 69 = .ok (.invokevirtual 119, 3) := by decide +kernel
theorem dX4_readDeed_72 : decode cX4_readDeed 72 = .ok (.return_, 1) := by decide +kernel
theorem dX4_readNumber_0 : decode cX4_readNumber 0 = .ok (.aload_n 1, 1) := by decide +kernel
theorem dX4_readNumber_1 : decode cX4_readNumber 1 = .ok (.invokevirtual 123, 3) := by decide +kernel
theorem dX4_readNumber_4 : decode cX4_readNumber 4 = .ok (.istore_n 3, 1) := by decide +kernel
theorem dX4_readNumber_5 : decode cX4_readNumber 5 = .ok (.aload_n 0, 1) := by decide +kernel
theorem dX4_readNumber_6 : decode cX4_readNumber 6 = .ok (.getfield 45, 3) := by decide +kernel
theorem dX4_readNumber_9 : decode cX4_readNumber 9 = .ok (.ifCond .ne 23, 3) := by decide +kernel
theorem dX4_readNumber_12 : decode cX4_readNumber 12 = .ok (.aload_n 1, 1) := by decide +kernel
theorem dX4_readNumber_13 : decode cX4_readNumber 13 = .ok (.invokevirtual 75, 3) := by decide +kernel
theorem dX4_readNumber_16 : decode cX4_readNumber 16 = .ok (.bipush 40, 2) := by decide +kernel
theorem dX4_readNumber_18 : decode cX4_readNumber 18 = .ok (.if_icmp .ne 14, 3) := by decide +kernel
theorem dX4_readNumber_21 : decode cX4_readNumber 21 = .ok (.iload_n 3, 1) := by decide +kernel
theorem dX4_readNumber_22 : decode cX4_readNumber 22 = .ok (.iload_n 2, 1) := by decide +kernel
theorem dX4_readNumber_23 : decode cX4_readNumber 23 = .ok (.if_icmp .le 9, 3) := by decide +kernel
theorem dX4_readNumber_26 : decode cX4_readNumber 26 = .ok (.aload_n 0, 1) := by decide +kernel
theorem dX4_readNumber_27 : decode cX4_readNumber 27 = .ok (.aload_n 1, 1) := by decide +kernel
theorem dX4_readNumber_28 : decode cX4_readNumber 28 = .ok (.iconst 2, 1) := by decide +kernel
theorem dX4_readNumber_29 : decode cX4_readNumber 29 = .ok (.invokevirtual 95, 3) := by decide +kernel
theorem dX4_readNumber_32 : decode cX4_readNumber 32 = .ok (.aload_n 0, 1) := by decide +kernel
theorem dX4_readNumber_33 : decode cX4_readNumber 33 = .ok (.aload_n 1, 1) := by decide +kernel
theorem dX4_readNumber_34 : decode cX4_readNumber 34 = .ok (.bipush 40, 2) := by decide +kernel
theorem dX4_readNumber_36 : decode cX4_readNumber 36 = .ok (.invokevirtual 116, 3) := by decide +kernel
theorem dX4_readNumber_39 : decode cX4_readNumber 39 = .ok (.iload_n 3, 1) := by decide +kernel
theorem dX4_readNumber_40 : decode cX4_readNumber 40 = .ok (.ireturn, 1) := by decide +kernel
theorem dX4_pass_0 : decode cX4_pass 0 = .ok (.aload_n 0, 1) := by decide +kernel
theorem dX4_pass_1 : decode cX4_pass 1 = .ok (.getfield 45, 3) := by decide +kernel
theorem dX4_pass_4 : decode cX4_pass 4 = .ok (.ifCond .ne 20, 3) := by decide +kernel
theorem dX4_pass_7 : decode cX4_pass 7 = .ok (.aload_n 1, 1) := by decide +kernel
theorem dX4_pass_8 : decode cX4_pass 8 = .ok (.invokevirtual 75, 3) := by decide +kernel
theorem dX4_pass_11 : decode cX4_pass 11 = .ok (.iload_n 2, 1) := by decide +kernel
theorem dX4_pass_12 : decode cX4_pass 12 = .ok (.if_icmp .eq 12, 3) := by decide +kernel
theorem dX4_pass_15 : decode cX4_pass 15 = .ok (.aload_n 0, 1) := by decide +kernel
theorem dX4_pass_16 : decode cX4_pass 16 = .ok (.aload_n 1, 1) := by decide +kernel
theorem dX4_pass_17 : decode cX4_pass 17 = .ok (.iconst 1, 1) := by decide +kernel
theorem dX4_pass_18 : decode cX4_pass 18 = .ok (.invokevirtual 95, 3) := by decide +kernel
theorem dX4_pass_21 : decode cX4_pass 21 = .ok (.goto 14, 3) := by decide +kernel
theorem dX4_pass_24 : decode cX4_pass 24 = .ok (.aload_n 0, 1) := by decide +kernel
theorem dX4_pass_25 : decode cX4_pass 25 = .ok (.getfield 45, 3) := by decide +kernel
theorem dX4_pass_28 : decode cX4_pass 28 = .ok (.ifCond .ne 7, 3) := by decide +kernel
theorem dX4_pass_31 : decode cX4_pass 31 = .ok (.aload_n 1, 1) := by decide +kernel
theorem dX4_pass_32 : decode cX4_pass 32 = .ok (.invokevirtual 103, 3) := by decide +kernel
theorem dX4_pass_35 : decode cX4_pass 35 = .ok (.return_, 1) := by decide +kernel
theorem dX4_readLaw_0 : decode cX4_readLaw 0 = .ok (.aload_n 0, 1) := by decide +kernel
theorem dX4_readLaw_1 : decode cX4_readLaw 1 = .ok (.iconst 0, 1) := by decide +kernel
theorem dX4_readLaw_2 : decode cX4_readLaw 2 = .ok (.putfield 39, 3) := by decide +kernel
theorem dX4_readLaw_5 : decode cX4_readLaw 5 = .ok (.aload_n 0, 1) := by decide +kernel
theorem dX4_readLaw_6 : decode cX4_readLaw 6 = .ok (.iconst 0, 1) := by decide +kernel
theorem dX4_readLaw_7 : decode cX4_readLaw 7 = .ok (.putfield 42, 3) := by decide +kernel
theorem dX4_readLaw_10 : decode cX4_readLaw 10 = .ok (.aload_n 0, 1) := by decide +kernel
theorem dX4_readLaw_11 : decode cX4_readLaw 11 = .ok (.iconst 0, 1) := by decide +kernel
theorem dX4_readLaw_12 : decode cX4_readLaw 12 = .ok (.putfield 54, 3) := by decide +kernel
theorem dX4_readLaw_15 : decode cX4_readLaw 15 = .ok (.aload_n 0, 1) := by decide +kernel
theorem dX4_readLaw_16 : decode cX4_readLaw 16 = .ok (.iconst 0, 1) := by decide +kernel
theorem dX4_readLaw_17 : decode cX4_readLaw 17 = .ok (.putfield 57, 3) := by decide +kernel
theorem dX4_readLaw_20 : decode cX4_readLaw 20 = .ok (.aload_n 0, 1) := by decide +kernel
theorem dX4_readLaw_21 : decode cX4_readLaw 21 = .ok (.iconst 1, 1) := by decide +kernel
theorem dX4_readLaw_22 : decode cX4_readLaw 22 = .ok (.putfield 60, 3) := by decide +kernel
theorem dX4_readLaw_25 : decode cX4_readLaw 25 = .ok (.aload_n 0, 1) := by decide +kernel
theorem dX4_readLaw_26 : decode cX4_readLaw 26 = .ok (.aload_n 0, 1) := by decide +kernel
theorem dX4_readLaw_27 : decode cX4_readLaw 27 = .ok (.getfield 51, 3) := by decide +kernel
theorem dX4_readLaw_30 : decode cX4_readLaw 30 = .ok (.bipush 8, 2) := by decide +kernel
theorem dX4_readLaw_32 : decode cX4_readLaw 32 = .ok (.if_icmp .eq 7, 3) := by decide +kernel
theorem dX4_readLaw_35 : decode cX4_readLaw 35 = .ok (.iconst 1, 1) := by decide +kernel
theorem dX4_readLaw_36 : decode cX4_readLaw 36 = .ok (.goto 4, 3) := by decide +kernel
theorem dX4_readLaw_39 : decode cX4_readLaw 39 = .ok (.iconst 0, 1) := by decide +kernel
theorem dX4_readLaw_40 : decode cX4_readLaw 40 = .ok (.putfield 64, 3) := by decide +kernel
theorem dX4_readLaw_43 : decode cX4_readLaw 43 = .ok (.aload_n 0, 1) := by decide +kernel
theorem dX4_readLaw_44 : decode cX4_readLaw 44 = .ok (.iconst 0, 1) := by decide +kernel
theorem dX4_readLaw_45 : decode cX4_readLaw 45 = .ok (.putfield 67, 3) := by decide +kernel
theorem dX4_readLaw_48 : decode cX4_readLaw 48 = .ok (.iconst 0, 1) := by decide +kernel
theorem dX4_readLaw_49 : decode cX4_readLaw 49 = .ok (.istore_n 2, 1) := by decide +kernel
theorem dX4_readLaw_50 : decode cX4_readLaw 50 = .ok (.iload_n 2, 1) := by decide +kernel
theorem dX4_readLaw_51 : decode cX4_readLaw 51 = .ok (.sipush 300, 3) := by decide +kernel
theorem dX4_readLaw_54 : decode cX4_readLaw 54 = .ok (.if_icmp .gt 68, 3) := by decide +kernel
theorem dX4_readLaw_57 : decode cX4_readLaw 57 = .ok (.aload_n 0, 1) := by decide +kernel
theorem dX4_readLaw_58 : decode cX4_readLaw 58 = .ok (.getfield 45, 3) := by decide +kernel
theorem dX4_readLaw_61 : decode cX4_readLaw 61 = .ok (.ifCond .ne 61, 3) := by decide +kernel
theorem dX4_readLaw_64 : decode cX4_readLaw 64 = .ok (.aload_n 0, 1) := by decide +kernel
theorem dX4_readLaw_65 : decode cX4_readLaw 65 = .ok (.aload_n 1, 1) := by decide +kernel
theorem dX4_readLaw_66 : decode cX4_readLaw 66 = .ok (.invokevirtual 75, 3) := by decide +kernel
theorem dX4_readLaw_69 : decode cX4_readLaw 69 = .ok (.invokevirtual 126, 3) := by decide +kernel
theorem dX4_readLaw_72 : decode cX4_readLaw 72 = .ok (.ifCond .ne 50, 3) := by decide +kernel
theorem dX4_readLaw_75 : decode cX4_readLaw 75 = .ok (.aload_n 0, 1) := by decide +kernel
theorem dX4_readLaw_76 : decode cX4_readLaw 76 = .ok (.getfield 60, 3) := by decide +kernel
theorem dX4_readLaw_79 : decode cX4_readLaw 79 = .ok (.ifCond .eq 11, 3) := by decide +kernel
theorem dX4_readLaw_82 : decode cX4_readLaw 82 = .ok (.aload_n 0, 1) := by decide +kernel
theorem dX4_readLaw_83 : decode cX4_readLaw 83 = .ok (.aload_n 1, 1) := by decide +kernel
theorem dX4_readLaw_84 : decode cX4_readLaw 84 = .ok (.invokevirtual 129, 3) := by decide +kernel
theorem dX4_readLaw_87 : decode cX4_readLaw 87 = .ok (.goto 11, 3) := by decide +kernel
theorem dX4_readLaw_90 : decode cX4_readLaw 90 = .ok (.aload_n 0, 1) := by decide +kernel
theorem dX4_readLaw_91 : decode cX4_readLaw 91 = .ok (.aload_n 1, 1) := by decide +kernel
theorem dX4_readLaw_92 : decode cX4_readLaw 92 = .ok (.invokevirtual 75, 3) := by decide +kernel
theorem dX4_readLaw_95 : decode cX4_readLaw 95 = .ok (.invokevirtual 133, 3) := by decide +kernel
theorem dX4_readLaw_98 : decode cX4_readLaw 98 = .ok (.istore_n 3, 1) := by decide +kernel
theorem dX4_readLaw_99 : decode cX4_readLaw 99 = .ok (.iload_n 3, 1) := by decide +kernel
theorem dX4_readLaw_100 : decode cX4_readLaw 100 = .ok (.ifCond .eq 12, 3) := by decide +kernel
theorem dX4_readLaw_103 : decode cX4_readLaw 103 = .ok (.aload_n 0, 1) := by decide +kernel
theorem dX4_readLaw_104 : decode cX4_readLaw 104 = .ok (.aload_n 1, 1) := by decide +kernel
theorem dX4_readLaw_105 : decode cX4_readLaw 105 = .ok (.iload_n 3, 1) := by decide +kernel
theorem dX4_readLaw_106 : decode cX4_readLaw 106 = .ok (.invokevirtual 95, 3) := by decide +kernel
theorem dX4_readLaw_109 : decode cX4_readLaw 109 = .ok (.goto 7, 3) := by decide +kernel
theorem dX4_readLaw_112 : decode cX4_readLaw 112 = .ok (.aload_n 1, 1) := by decide +kernel
theorem dX4_readLaw_113 : decode cX4_readLaw 113 = .ok (.invokevirtual 103, 3) := by decide +kernel
theorem dX4_readLaw_116 : decode cX4_readLaw 116 = .ok (.iinc 2 1, 3) := by decide +kernel
theorem dX4_readLaw_119 : decode cX4_readLaw 119 = .ok (.goto (-69), 3) := by decide +kernel
theorem dX4_readLaw_122 : decode cX4_readLaw 122 = .ok (.aload_n 0, 1) := by decide +kernel
theorem dX4_readLaw_123 : decode cX4_readLaw 123 = .ok (.getfield 45, 3) := by decide +kernel
theorem dX4_readLaw_126 : decode cX4_readLaw 126 = .ok (.ifCond .ne 23, 3) := by decide +kernel
theorem dX4_readLaw_129 : decode cX4_readLaw 129 = .ok (.aload_n 0, 1) := by decide +kernel
theorem dX4_readLaw_130 : decode cX4_readLaw 130 = .ok (.bipush 15, 2) := by decide +kernel
theorem dX4_readLaw_132 : decode cX4_readLaw 132 = .ok (.invokevirtual 137, 3) := by decide +kernel
theorem dX4_readLaw_135 : decode cX4_readLaw 135 = .ok (.aload_n 0, 1) := by decide +kernel
theorem dX4_readLaw_136 : decode cX4_readLaw 136 = .ok (.invokevirtual 141, 3) := by decide +kernel
theorem dX4_readLaw_139 : decode cX4_readLaw 139 = .ok (.aload_n 0, 1) := by decide +kernel
theorem dX4_readLaw_140 : decode cX4_readLaw 140 = .ok (.iconst (-1), 1) := by decide +kernel
theorem dX4_readLaw_141 : decode cX4_readLaw 141 = .ok (.iconst (-1), 1) := by decide +kernel
theorem dX4_readLaw_142 : decode cX4_readLaw 142 = .ok (.invokevirtual 119, 3) := by decide +kernel
theorem dX4_readLaw_145 : decode cX4_readLaw 145 = .ok (.aload_n 1, 1) := by decide +kernel
theorem dX4_readLaw_146 : decode cX4_readLaw 146 = .ok (.invokevirtual 103, 3) := by decide +kernel
theorem dX4_readLaw_149 : decode cX4_readLaw 149 = .ok (.return_, 1) := by decide +kernel
theorem dX4_isAtEnd_0 : decode cX4_isAtEnd 0 = .ok (.iload_n 1, 1) := by decide +kernel
theorem dX4_isAtEnd_1 : decode cX4_isAtEnd 1 = .ok (.bipush 30, 2) := by decide +kernel
theorem dX4_isAtEnd_3 : decode cX4_isAtEnd 3 = .ok (.if_icmp .ne 37, 3) := by decide +kernel
theorem dX4_isAtEnd_6 : decode cX4_isAtEnd 6 = .ok (.aload_n 0, 1) := by decide +kernel
theorem dX4_isAtEnd_7 : decode cX4_isAtEnd 7 = .ok (.getfield 60, 3) := by decide +kernel
theorem dX4_isAtEnd_10 : decode cX4_isAtEnd 10 = .ok (.ifCond .ne 30, 3) := by decide +kernel
theorem dX4_isAtEnd_13 : decode cX4_isAtEnd 13 = .ok (.aload_n 0, 1) := by decide +kernel
theorem dX4_isAtEnd_14 : decode cX4_isAtEnd 14 = .ok (.getfield 57, 3) := by decide +kernel
theorem dX4_isAtEnd_17 : decode cX4_isAtEnd 17 = .ok (.ifCond .ne 23, 3) := by decide +kernel
theorem dX4_isAtEnd_20 : decode cX4_isAtEnd 20 = .ok (.aload_n 0, 1) := by decide +kernel
theorem dX4_isAtEnd_21 : decode cX4_isAtEnd 21 = .ok (.getfield 67, 3) := by decide +kernel
theorem dX4_isAtEnd_24 : decode cX4_isAtEnd 24 = .ok (.ifCond .ne 12, 3) := by decide +kernel
theorem dX4_isAtEnd_27 : decode cX4_isAtEnd 27 = .ok (.aload_n 0, 1) := by decide +kernel
theorem dX4_isAtEnd_28 : decode cX4_isAtEnd 28 = .ok (.getfield 51, 3) := by decide +kernel
theorem dX4_isAtEnd_31 : decode cX4_isAtEnd 31 = .ok (.bipush 8, 2) := by decide +kernel
theorem dX4_isAtEnd_33 : decode cX4_isAtEnd 33 = .ok (.if_icmp .ne 7, 3) := by decide +kernel
theorem dX4_isAtEnd_36 : decode cX4_isAtEnd 36 = .ok (.iconst 1, 1) := by decide +kernel
theorem dX4_isAtEnd_37 : decode cX4_isAtEnd 37 = .ok (.goto 4, 3) := by decide +kernel
theorem dX4_isAtEnd_40 : decode cX4_isAtEnd 40 = .ok (.iconst 0, 1) := by decide +kernel
theorem dX4_isAtEnd_41 : decode cX4_isAtEnd 41 = .ok (.ireturn, 1) := by decide +kernel
theorem dX4_keepLaw_0 : decode cX4_keepLaw 0 = .ok (.aload_n 0, 1) := by decide +kernel
theorem dX4_keepLaw_1 : decode cX4_keepLaw 1 = .ok (.getfield 17, 3) := by decide +kernel
theorem dX4_keepLaw_4 : decode cX4_keepLaw 4 = .ok (.aload_n 0, 1) := by decide +kernel
theorem dX4_keepLaw_5 : decode cX4_keepLaw 5 = .ok (.getfield 39, 3) := by decide +kernel
theorem dX4_keepLaw_8 : decode cX4_keepLaw 8 = .ok (.invokestatic 83, 3) := by decide +kernel
theorem dX4_keepLaw_11 : decode cX4_keepLaw 11 = .ok (.astore_n 1, 1) := by decide +kernel
theorem dX4_keepLaw_12 : decode cX4_keepLaw 12 = .ok (.aload_n 0, 1) := by decide +kernel
theorem dX4_keepLaw_13 : decode cX4_keepLaw 13 = .ok (.getfield 51, 3) := by decide +kernel
theorem dX4_keepLaw_16 : decode cX4_keepLaw 16 = .ok (.bipush 8, 2) := by decide +kernel
theorem dX4_keepLaw_18 : decode cX4_keepLaw 18 = .ok (.if_icmp .ne 11, 3) := by decide +kernel
theorem dX4_keepLaw_21 : decode cX4_keepLaw 21 = .ok (.aload_n 0, 1) := by decide +kernel
theorem dX4_keepLaw_22 : decode cX4_keepLaw 22 = .ok (.aload_n 1, 1) := by decide +kernel
theorem dX4_keepLaw_23 : decode cX4_keepLaw 23 = .ok (.putfield 26, 3) := by decide +kernel
theorem dX4_keepLaw_26 : decode cX4_keepLaw 26 = .ok (.goto 25, 3) := by decide +kernel
theorem dX4_keepLaw_29 : decode cX4_keepLaw 29 = .ok (.aload_n 0, 1) := by decide +kernel
theorem dX4_keepLaw_30 : decode cX4_keepLaw 30 = .ok (.getfield 51, 3) := by decide +kernel
theorem dX4_keepLaw_33 : decode cX4_keepLaw 33 = .ok (.bipush 9, 2) := by decide +kernel
theorem dX4_keepLaw_35 : decode cX4_keepLaw 35 = .ok (.if_icmp .ne 11, 3) := by decide +kernel
theorem dX4_keepLaw_38 : decode cX4_keepLaw 38 = .ok (.aload_n 0, 1) := by decide +kernel
theorem dX4_keepLaw_39 : decode cX4_keepLaw 39 = .ok (.aload_n 1, 1) := by decide +kernel
theorem dX4_keepLaw_40 : decode cX4_keepLaw 40 = .ok (.putfield 29, 3) := by decide +kernel
theorem dX4_keepLaw_43 : decode cX4_keepLaw 43 = .ok (.goto 8, 3) := by decide +kernel
theorem dX4_keepLaw_46 : decode cX4_keepLaw 46 = .ok (.aload_n 0, 1) := by decide +kernel
theorem dX4_keepLaw_47 : decode cX4_keepLaw 47 = .ok (.aload_n 1, 1) := by decide +kernel
theorem dX4_keepLaw_48 : decode cX4_keepLaw 48 = .ok (.putfield 32, 3) := by decide +kernel
theorem dX4_keepLaw_51 : decode cX4_keepLaw 51 = .ok (.return_, 1) := by decide +kernel
theorem dX4_takeOne_0 : decode cX4_takeOne 0 = .ok (.aload_n 1, 1) := by decide +kernel
theorem dX4_takeOne_1 : decode cX4_takeOne 1 = .ok (.invokevirtual 75, 3) := by decide +kernel
theorem dX4_takeOne_4 : decode cX4_takeOne 4 = .ok (.istore_n 2, 1) := by decide +kernel
theorem dX4_takeOne_5 : decode cX4_takeOne 5 = .ok (.iload_n 2, 1) := by decide +kernel
theorem dX4_takeOne_6 : decode cX4_takeOne 6 = .ok (.bipush 17, 2) := by decide +kernel
theorem dX4_takeOne_8 : decode cX4_takeOne 8 = .ok (.if_icmp .ne 17, 3) := by decide +kernel
theorem dX4_takeOne_11 : decode cX4_takeOne 11 = .ok (.aload_n 0, 1) := by decide +kernel
theorem dX4_takeOne_12 : decode cX4_takeOne 12 = .ok (.getfield 64, 3) := by decide +kernel
theorem dX4_takeOne_15 : decode cX4_takeOne 15 = .ok (.ifCond .eq 10, 3) := by decide +kernel
theorem dX4_takeOne_18 : decode cX4_takeOne 18 = .ok (.aload_n 0, 1) := by decide +kernel
theorem dX4_takeOne_19 : decode cX4_takeOne 19 = .ok (.bipush 17, 2) := by decide +kernel
theorem dX4_takeOne_21 : decode cX4_takeOne 21 = .ok (.invokevirtual 144, 3) := by decide +kernel
theorem dX4_takeOne_24 : decode cX4_takeOne 24 = .ok (.ireturn, 1) := by decide +kernel
theorem dX4_takeOne_25 : decode cX4_takeOne 25 = .ok (.aload_n 0, 1) := by decide +kernel
theorem dX4_takeOne_26 : decode cX4_takeOne 26 = .ok (.iconst 0, 1) := by decide +kernel
theorem dX4_takeOne_27 : decode cX4_takeOne 27 = .ok (.putfield 64, 3) := by decide +kernel
theorem dX4_takeOne_30 : decode cX4_takeOne 30 = .ok (.iload_n 2, 1) := by decide +kernel
theorem dX4_takeOne_31 : decode cX4_takeOne 31 = .ok (.bipush 40, 2) := by decide +kernel
theorem dX4_takeOne_33 : decode cX4_takeOne 33 = .ok (.if_icmp .ne 32, 3) := by decide +kernel
theorem dX4_takeOne_36 : decode cX4_takeOne 36 = .ok (.aload_n 0, 1) := by decide +kernel
theorem dX4_takeOne_37 : decode cX4_takeOne 37 = .ok (.iconst 0, 1) := by decide +kernel
theorem dX4_takeOne_38 : decode cX4_takeOne 38 = .ok (.putfield 60, 3) := by decide +kernel
theorem dX4_takeOne_41 : decode cX4_takeOne 41 = .ok (.aload_n 0, 1) := by decide +kernel
theorem dX4_takeOne_42 : decode cX4_takeOne 42 = .ok (.aload_n 1, 1) := by decide +kernel
theorem dX4_takeOne_43 : decode cX4_takeOne 43 = .ok (.invokevirtual 123, 3) := by decide +kernel
theorem dX4_takeOne_46 : decode cX4_takeOne 46 = .ok (.invokevirtual 147, 3) := by decide +kernel
theorem dX4_takeOne_49 : decode cX4_takeOne 49 = .ok (.aload_n 1, 1) := by decide +kernel
theorem dX4_takeOne_50 : decode cX4_takeOne 50 = .ok (.invokevirtual 123, 3) := by decide +kernel
theorem dX4_takeOne_53 : decode cX4_takeOne 53 = .ok (.sipush 9999, 3) := by decide +kernel
theorem dX4_takeOne_56 : decode cX4_takeOne 56 = .ok (.if_icmp .le 7, 3) := by decide +kernel
theorem dX4_takeOne_59 : decode cX4_takeOne 59 = .ok (.iconst 2, 1) := by decide +kernel
theorem dX4_takeOne_60 : decode cX4_takeOne 60 = .ok (.goto 4, 3) := by decide +kernel
theorem dX4_takeOne_63 : decode cX4_takeOne 63 = .ok (.iconst 0, 1) := by decide +kernel
theorem dX4_takeOne_64 : decode cX4_takeOne 64 = .ok (.ireturn, 1) := by decide +kernel
theorem dX4_takeOne_65 : decode cX4_takeOne 65 = .ok (.iload_n 2, 1) := by decide +kernel
theorem dX4_takeOne_66 : decode cX4_takeOne 66 = .ok (.bipush 8, 2) := by decide +kernel
theorem dX4_takeOne_68 : decode cX4_takeOne 68 = .ok (.if_icmp .ge 31, 3) := by decide +kernel
theorem dX4_takeOne_71 : decode cX4_takeOne 71 = .ok (.aload_n 0, 1) := by decide +kernel
theorem dX4_takeOne_72 : decode cX4_takeOne 72 = .ok (.iconst 0, 1) := by decide +kernel
theorem dX4_takeOne_73 : decode cX4_takeOne 73 = .ok (.putfield 60, 3) := by decide +kernel
theorem dX4_takeOne_76 : decode cX4_takeOne 76 = .ok (.aload_n 0, 1) := by decide +kernel
theorem dX4_takeOne_77 : decode cX4_takeOne 77 = .ok (.sipush 10000, 3) := by decide +kernel
theorem dX4_takeOne_80 : decode cX4_takeOne 80 = .ok (.iload_n 2, 1) := by decide +kernel
theorem dX4_takeOne_81 : decode cX4_takeOne 81 = .ok (.iadd, 1) := by decide +kernel
theorem dX4_takeOne_82 : decode cX4_takeOne 82 = .ok (.invokevirtual 147, 3) := by decide +kernel
theorem dX4_takeOne_85 : decode cX4_takeOne 85 = .ok (.aload_n 0, 1) := by decide +kernel
theorem dX4_takeOne_86 : decode cX4_takeOne 86 = .ok (.iload_n 2, 1) := by decide +kernel
theorem dX4_takeOne_87 : decode cX4_takeOne 87 = .ok (.invokevirtual 150, 3) := by decide +kernel
theorem dX4_takeOne_90 : decode cX4_takeOne 90 = .ok (.ifCond .eq 7, 3) := by decide +kernel
theorem dX4_takeOne_93 : decode cX4_takeOne 93 = .ok (.iconst 0, 1) := by decide +kernel
theorem dX4_takeOne_94 : decode cX4_takeOne 94 = .ok (.goto 4, 3) := by decide +kernel
theorem dX4_takeOne_97 : decode cX4_takeOne 97 = .ok (.iconst 5, 1) := by decide +kernel
theorem dX4_takeOne_98 : decode cX4_takeOne 98 = .ok (.ireturn, 1) := by decide +kernel
theorem dX4_takeOne_99 : decode cX4_takeOne 99 = .ok (.iload_n 2, 1) := by decide +kernel
theorem dX4_takeOne_100 : decode cX4_takeOne 100 = .ok (.bipush 28, 2) := by decide +kernel
theorem dX4_takeOne_102 : decode cX4_takeOne 102 = .ok (.if_icmp .ne 20, 3) := by decide +kernel
theorem dX4_takeOne_105 : decode cX4_takeOne 105 = .ok (.aload_n 0, 1) := by decide +kernel
theorem dX4_takeOne_106 : decode cX4_takeOne 106 = .ok (.dup, 1) := by decide +kernel
theorem dX4_takeOne_107 : decode cX4_takeOne 107 = .ok (.getfield 57, 3) := by decide +kernel
theorem dX4_takeOne_110 : decode cX4_takeOne 110 = .ok (.iconst 1, 1) := by decide +kernel
theorem dX4_takeOne_111 : decode cX4_takeOne 111 = .ok (.iadd, 1) := by decide +kernel
theorem dX4_takeOne_112 : decode cX4_takeOne 112 = .ok (.putfield 57, 3) := by decide +kernel
theorem dX4_takeOne_115 : decode cX4_takeOne 115 = .ok (.aload_n 0, 1) := by decide +kernel
theorem dX4_takeOne_116 : decode cX4_takeOne 116 = .ok (.bipush 28, 2) := by decide +kernel
theorem dX4_takeOne_118 : decode cX4_takeOne 118 = .ok (.invokevirtual 144, 3) := by decide +kernel
theorem dX4_takeOne_121 : decode cX4_takeOne 121 = .ok (.ireturn, 1) := by decide +kernel
theorem dX4_takeOne_122 : decode cX4_takeOne 122 = .ok (.iload_n 2, 1) := by decide +kernel
theorem dX4_takeOne_123 : decode cX4_takeOne 123 = .ok (.bipush 25, 2) := by decide +kernel
theorem dX4_takeOne_125 : decode cX4_takeOne 125 = .ok (.if_icmp .ne 12, 3) := by decide +kernel
theorem dX4_takeOne_128 : decode cX4_takeOne 128 = .ok (.aload_n 0, 1) := by decide +kernel
theorem dX4_takeOne_129 : decode cX4_takeOne 129 = .ok (.bipush 33, 2) := by decide +kernel
theorem dX4_takeOne_131 : decode cX4_takeOne 131 = .ok (.invokevirtual 144, 3) := by decide +kernel
theorem dX4_takeOne_134 : decode cX4_takeOne 134 = .ok (.goto 4, 3) := by decide +kernel
theorem dX4_takeOne_137 : decode cX4_takeOne 137 = .ok (.iconst 1, 1) := by decide +kernel
theorem dX4_takeOne_138 : decode cX4_takeOne 138 = .ok (.ireturn, 1) := by decide +kernel
theorem dX4_isOfClause_0 : decode cX4_isOfClause 0 = .ok (.iload_n 1, 1) := by decide +kernel
theorem dX4_isOfClause_1 : decode cX4_isOfClause 1 = .ok (.bipush 7, 2) := by decide +kernel
theorem dX4_isOfClause_3 : decode cX4_isOfClause 3 = .ok (.if_icmp .ne 18, 3) := by decide +kernel
theorem dX4_isOfClause_6 : decode cX4_isOfClause 6 = .ok (.aload_n 0, 1) := by decide +kernel
theorem dX4_isOfClause_7 : decode cX4_isOfClause 7 = .ok (.getfield 51, 3) := by decide +kernel
theorem dX4_isOfClause_10 : decode cX4_isOfClause 10 = .ok (.bipush 10, 2) := by decide +kernel
theorem dX4_isOfClause_12 : decode cX4_isOfClause 12 = .ok (.if_icmp .ne 7, 3) := by decide +kernel
theorem dX4_isOfClause_15 : decode cX4_isOfClause 15 = .ok (.iconst 1, 1) := by decide +kernel
theorem dX4_isOfClause_16 : decode cX4_isOfClause 16 = .ok (.goto 4, 3) := by decide +kernel
theorem dX4_isOfClause_19 : decode cX4_isOfClause 19 = .ok (.iconst 0, 1) := by decide +kernel
theorem dX4_isOfClause_20 : decode cX4_isOfClause 20 = .ok (.ireturn, 1) := by decide +kernel
theorem dX4_isOfClause_21 : decode cX4_isOfClause 21 = .ok (.iload_n 1, 1) := by decide +kernel
theorem dX4_isOfClause_22 : decode cX4_isOfClause 22 = .ok (.iconst 3, 1) := by decide +kernel
theorem dX4_isOfClause_23 : decode cX4_isOfClause 23 = .ok (.if_icmp .le 12, 3) := by decide +kernel
theorem dX4_isOfClause_26 : decode cX4_isOfClause 26 = .ok (.aload_n 0, 1) := by decide +kernel
theorem dX4_isOfClause_27 : decode cX4_isOfClause 27 = .ok (.getfield 51, 3) := by decide +kernel
theorem dX4_isOfClause_30 : decode cX4_isOfClause 30 = .ok (.bipush 10, 2) := by decide +kernel
theorem dX4_isOfClause_32 : decode cX4_isOfClause 32 = .ok (.if_icmp .eq 7, 3) := by decide +kernel
theorem dX4_isOfClause_35 : decode cX4_isOfClause 35 = .ok (.iconst 1, 1) := by decide +kernel
theorem dX4_isOfClause_36 : decode cX4_isOfClause 36 = .ok (.goto 4, 3) := by decide +kernel
theorem dX4_isOfClause_39 : decode cX4_isOfClause 39 = .ok (.iconst 0, 1) := by decide +kernel
theorem dX4_isOfClause_40 : decode cX4_isOfClause 40 = .ok (.ireturn, 1) := by decide +kernel
theorem dX4_openOne_0 : decode cX4_openOne 0 = .ok (.aload_n 0, 1) := by decide +kernel
theorem dX4_openOne_1 : decode cX4_openOne 1 = .ok (.getfield 54, 3) := by decide +kernel
theorem dX4_openOne_4 : decode cX4_openOne 4 = .ok (.bipush 8, 2) := by decide +kernel
theorem dX4_openOne_6 : decode cX4_openOne 6 = .ok (.if_icmp .lt 5, 3) := by decide +kernel
theorem dX4_openOne_9 : decode cX4_openOne 9 = .ok (.iconst 3, 1) := by decide +kernel
theorem dX4_openOne_10 : decode cX4_openOne 10 = .ok (.ireturn, 1) := by decide +kernel
theorem dX4_openOne_11 : decode cX4_openOne 11 = .ok (.aload_n 0, 1) := by decide +kernel
theorem dX4_openOne_12 : decode cX4_openOne 12 = .ok (.dup, 1) := by decide +kernel
theorem dX4_openOne_13 : decode cX4_openOne 13 = .ok (.getfield 54, 3) := by decide +kernel
theorem dX4_openOne_16 : decode cX4_openOne 16 = .ok (.iconst 1, 1) := by decide +kernel
theorem dX4_openOne_17 : decode cX4_openOne 17 = .ok (.iadd, 1) := by decide +kernel
theorem dX4_openOne_18 : decode cX4_openOne 18 = .ok (.putfield 54, 3) := by decide +kernel
theorem dX4_openOne_21 : decode cX4_openOne 21 = .ok (.aload_n 0, 1) := by decide +kernel
theorem dX4_openOne_22 : decode cX4_openOne 22 = .ok (.iload_n 1, 1) := by decide +kernel
theorem dX4_openOne_23 : decode cX4_openOne 23 = .ok (.invokevirtual 153, 3) := by decide +kernel
theorem dX4_openOne_26 : decode cX4_openOne 26 = .ok (.iconst 0, 1) := by decide +kernel
theorem dX4_openOne_27 : decode cX4_openOne 27 = .ok (.ireturn, 1) := by decide +kernel
theorem dX4_takeSign_0 : decode cX4_takeSign 0 = .ok (.aload_n 0, 1) := by decide +kernel
theorem dX4_takeSign_1 : decode cX4_takeSign 1 = .ok (.getfield 57, 3) := by decide +kernel
theorem dX4_takeSign_4 : decode cX4_takeSign 4 = .ok (.ifCond .ne 16, 3) := by decide +kernel
theorem dX4_takeSign_7 : decode cX4_takeSign 7 = .ok (.aload_n 0, 1) := by decide +kernel
theorem dX4_takeSign_8 : decode cX4_takeSign 8 = .ok (.getfield 51, 3) := by decide +kernel
theorem dX4_takeSign_11 : decode cX4_takeSign 11 = .ok (.bipush 8, 2) := by decide +kernel
theorem dX4_takeSign_13 : decode cX4_takeSign 13 = .ok (.if_icmp .eq 7, 3) := by decide +kernel
theorem dX4_takeSign_16 : decode cX4_takeSign 16 = .ok (.iconst 1, 1) := by decide +kernel
theorem dX4_takeSign_17 : decode cX4_takeSign 17 = .ok (.goto 4, 3) := by decide +kernel
theorem dX4_takeSign_20 : decode cX4_takeSign 20 = .ok (.iconst 0, 1) := by decide +kernel
theorem dX4_takeSign_21 : decode cX4_takeSign 21 = .ok (.istore_n 2, 1) := by decide +kernel
theorem dX4_takeSign_22 : decode cX4_takeSign 22 = .ok (.iload_n 1, 1) := by decide +kernel
theorem dX4_takeSign_23 : decode cX4_takeSign 23 = .ok (.bipush 24, 2) := by decide +kernel
theorem dX4_takeSign_25 : decode cX4_takeSign 25 = .ok (.if_icmp .lt 16, 3) := by decide +kernel
theorem dX4_takeSign_28 : decode cX4_takeSign 28 = .ok (.iload_n 1, 1) := by decide +kernel
theorem dX4_takeSign_29 : decode cX4_takeSign 29 = .ok (.bipush 27, 2) := by decide +kernel
theorem dX4_takeSign_31 : decode cX4_takeSign 31 = .ok (.if_icmp .gt 10, 3) := by decide +kernel
theorem dX4_takeSign_34 : decode cX4_takeSign 34 = .ok (.aload_n 0, 1) := by decide +kernel
theorem dX4_takeSign_35 : decode cX4_takeSign 35 = .ok (.iload_n 1, 1) := by decide +kernel
theorem dX4_takeSign_36 : decode cX4_takeSign 36 = .ok (.invokevirtual 156, 3) := by decide +kernel
theorem dX4_takeSign_39 : decode cX4_takeSign 39 = .ok (.iconst 0, 1) := by decide +kernel
theorem dX4_takeSign_40 : decode cX4_takeSign 40 = .ok (.ireturn, 1) := by decide +kernel
theorem dX4_takeSign_41 : decode cX4_takeSign 41 = .ok (.iload_n 1, 1) := by decide +kernel
theorem dX4_takeSign_42 : decode cX4_takeSign 42 = .ok (.bipush 29, 2) := by decide +kernel
theorem dX4_takeSign_44 : decode cX4_takeSign 44 = .ok (.if_icmp .ne 32, 3) := by decide +kernel
theorem dX4_takeSign_47 : decode cX4_takeSign 47 = .ok (.aload_n 0, 1) := by decide +kernel
theorem dX4_takeSign_48 : decode cX4_takeSign 48 = .ok (.getfield 57, 3) := by decide +kernel
theorem dX4_takeSign_51 : decode cX4_takeSign 51 = .ok (.ifCond .le 25, 3) := by decide +kernel
theorem dX4_takeSign_54 : decode cX4_takeSign 54 = .ok (.aload_n 0, 1) := by decide +kernel
theorem dX4_takeSign_55 : decode cX4_takeSign 55 = .ok (.dup, 1) := by decide +kernel
theorem dX4_takeSign_56 : decode cX4_takeSign 56 = .ok (.getfield 57, 3) := by decide +kernel
theorem dX4_takeSign_59 : decode cX4_takeSign 59 = .ok (.iconst 1, 1) := by decide +kernel
theorem dX4_takeSign_60 : decode cX4_takeSign 60 = .ok (.isub, 1) := by decide +kernel
theorem dX4_takeSign_61 : decode cX4_takeSign 61 = .ok (.putfield 57, 3) := by decide +kernel
theorem dX4_takeSign_64 : decode cX4_takeSign 64 = .ok (.aload_n 0, 1) := by decide +kernel
theorem dX4_takeSign_65 : decode cX4_takeSign 65 = .ok (.bipush 15, 2) := by decide +kernel
theorem dX4_takeSign_67 : decode cX4_takeSign 67 = .ok (.invokevirtual 137, 3) := by decide +kernel
theorem dX4_takeSign_70 : decode cX4_takeSign 70 = .ok (.aload_n 0, 1) := by decide +kernel
theorem dX4_takeSign_71 : decode cX4_takeSign 71 = .ok (.invokevirtual 159, 3) := by decide +kernel
theorem dX4_takeSign_74 : decode cX4_takeSign 74 = .ok (.iconst 0, 1) := by decide +kernel
theorem dX4_takeSign_75 : decode cX4_takeSign 75 = .ok (.ireturn, 1) := by decide +kernel
theorem dX4_takeSign_76 : decode cX4_takeSign 76 = .ok (.aload_n 0, 1) := by decide +kernel
theorem dX4_takeSign_77 : decode cX4_takeSign 77 = .ok (.iload_n 1, 1) := by decide +kernel
theorem dX4_takeSign_78 : decode cX4_takeSign 78 = .ok (.invokevirtual 162, 3) := by decide +kernel
theorem dX4_takeSign_81 : decode cX4_takeSign 81 = .ok (.ifCond .eq 26, 3) := by decide +kernel
theorem dX4_takeSign_84 : decode cX4_takeSign 84 = .ok (.iload_n 2, 1) := by decide +kernel
theorem dX4_takeSign_85 : decode cX4_takeSign 85 = .ok (.ifCond .eq 22, 3) := by decide +kernel
theorem dX4_takeSign_88 : decode cX4_takeSign 88 = .ok (.aload_n 0, 1) := by decide +kernel
theorem dX4_takeSign_89 : decode cX4_takeSign 89 = .ok (.getfield 67, 3) := by decide +kernel
theorem dX4_takeSign_92 : decode cX4_takeSign 92 = .ok (.ifCond .ne 15, 3) := by decide +kernel
theorem dX4_takeSign_95 : decode cX4_takeSign 95 = .ok (.aload_n 0, 1) := by decide +kernel
theorem dX4_takeSign_96 : decode cX4_takeSign 96 = .ok (.iconst 1, 1) := by decide +kernel
theorem dX4_takeSign_97 : decode cX4_takeSign 97 = .ok (.putfield 67, 3) := by decide +kernel
theorem dX4_takeSign_100 : decode cX4_takeSign 100 = .ok (.aload_n 0, 1) := by decide +kernel
theorem dX4_takeSign_101 : decode cX4_takeSign 101 = .ok (.iload_n 1, 1) := by decide +kernel
theorem dX4_takeSign_102 : decode cX4_takeSign 102 = .ok (.invokevirtual 156, 3) := by decide +kernel
theorem dX4_takeSign_105 : decode cX4_takeSign 105 = .ok (.iconst 0, 1) := by decide +kernel
theorem dX4_takeSign_106 : decode cX4_takeSign 106 = .ok (.ireturn, 1) := by decide +kernel
theorem dX4_takeSign_107 : decode cX4_takeSign 107 = .ok (.iload_n 1, 1) := by decide +kernel
theorem dX4_takeSign_108 : decode cX4_takeSign 108 = .ok (.bipush 16, 2) := by decide +kernel
theorem dX4_takeSign_110 : decode cX4_takeSign 110 = .ok (.if_icmp .eq 9, 3) := by decide +kernel
theorem dX4_takeSign_113 : decode cX4_takeSign 113 = .ok (.iload_n 1, 1) := by decide +kernel
theorem dX4_takeSign_114 : decode cX4_takeSign 114 = .ok (.bipush 15, 2) := by decide +kernel
theorem dX4_takeSign_116 : decode cX4_takeSign 116 = .ok (.if_icmp .ne 31, 3) := by decide +kernel
theorem dX4_takeSign_119 : decode cX4_takeSign 119 = .ok (.iload_n 2, 1) := by decide +kernel
theorem dX4_takeSign_120 : decode cX4_takeSign 120 = .ok (.ifCond .eq 27, 3) := by decide +kernel
theorem dX4_takeSign_123 : decode cX4_takeSign 123 = .ok (.aload_n 0, 1) := by decide +kernel
theorem dX4_takeSign_124 : decode cX4_takeSign 124 = .ok (.getfield 67, 3) := by decide +kernel
theorem dX4_takeSign_127 : decode cX4_takeSign 127 = .ok (.ifCond .eq 20, 3) := by decide +kernel
theorem dX4_takeSign_130 : decode cX4_takeSign 130 = .ok (.aload_n 0, 1) := by decide +kernel
theorem dX4_takeSign_131 : decode cX4_takeSign 131 = .ok (.iconst 0, 1) := by decide +kernel
theorem dX4_takeSign_132 : decode cX4_takeSign 132 = .ok (.putfield 67, 3) := by decide +kernel
theorem dX4_takeSign_135 : decode cX4_takeSign 135 = .ok (.aload_n 0, 1) := by decide +kernel
theorem dX4_takeSign_136 : decode cX4_takeSign 136 = .ok (.iconst 1, 1) := by decide +kernel
theorem dX4_takeSign_137 : decode cX4_takeSign 137 = .ok (.putfield 64, 3) := by decide +kernel
theorem dX4_takeSign_140 : decode cX4_takeSign 140 = .ok (.aload_n 0, 1) := by decide +kernel
theorem dX4_takeSign_141 : decode cX4_takeSign 141 = .ok (.iload_n 1, 1) := by decide +kernel
theorem dX4_takeSign_142 : decode cX4_takeSign 142 = .ok (.invokevirtual 156, 3) := by decide +kernel
theorem dX4_takeSign_145 : decode cX4_takeSign 145 = .ok (.iconst 0, 1) := by decide +kernel
theorem dX4_takeSign_146 : decode cX4_takeSign 146 = .ok (.ireturn, 1) := by decide +kernel
theorem dX4_takeSign_147 : decode cX4_takeSign 147 = .ok (.iconst 1, 1) := by decide +kernel
theorem dX4_takeSign_148 : decode cX4_takeSign 148 = .ok (.ireturn, 1) := by decide +kernel
theorem dX4_isComparison_0 : decode cX4_isComparison 0 = .ok (.iload_n 1, 1) := by decide +kernel
theorem dX4_isComparison_1 : decode cX4_isComparison 1 = .ok (.bipush 20, 2) := by decide +kernel
theorem dX4_isComparison_3 : decode cX4_isComparison 3 = .ok (.if_icmp .lt 9, 3) := by decide +kernel
theorem dX4_isComparison_6 : decode cX4_isComparison 6 = .ok (.iload_n 1, 1) := by decide +kernel
theorem dX4_isComparison_7 : decode cX4_isComparison 7 = .ok (.bipush 23, 2) := by decide +kernel
theorem dX4_isComparison_9 : decode cX4_isComparison 9 = .ok (.if_icmp .le 15, 3) := by decide +kernel
theorem dX4_isComparison_12 : decode cX4_isComparison 12 = .ok (.iload_n 1, 1) := by decide +kernel
theorem dX4_isComparison_13 : decode cX4_isComparison 13 = .ok (.bipush 31, 2) := by decide +kernel
theorem dX4_isComparison_15 : decode cX4_isComparison 15 = .ok (.if_icmp .eq 9, 3) := by decide +kernel
theorem dX4_isComparison_18 : decode cX4_isComparison 18 = .ok (.iload_n 1, 1) := by decide +kernel
theorem dX4_isComparison_19 : decode cX4_isComparison 19 = .ok (.bipush 32, 2) := by decide +kernel
theorem dX4_isComparison_21 : decode cX4_isComparison 21 = .ok (.if_icmp .ne 7, 3) := by decide +kernel
theorem dX4_isComparison_24 : decode cX4_isComparison 24 = .ok (.iconst 1, 1) := by decide +kernel
theorem dX4_isComparison_25 : decode cX4_isComparison 25 = .ok (.goto 4, 3) := by decide +kernel
theorem dX4_isComparison_28 : decode cX4_isComparison 28 = .ok (.iconst 0, 1) := by decide +kernel
theorem dX4_isComparison_29 : decode cX4_isComparison 29 = .ok (.ireturn, 1) := by decide +kernel
theorem dX4_join_0 : decode cX4_join 0 = .ok (.aload_n 0, 1) := by decide +kernel
theorem dX4_join_1 : decode cX4_join 1 = .ok (.iload_n 1, 1) := by decide +kernel
theorem dX4_join_2 : decode cX4_join 2 = .ok (.invokevirtual 137, 3) := by decide +kernel
theorem dX4_join_5 : decode cX4_join 5 = .ok (.aload_n 0, 1) := by decide +kernel
theorem dX4_join_6 : decode cX4_join 6 = .ok (.iload_n 1, 1) := by decide +kernel
theorem dX4_join_7 : decode cX4_join 7 = .ok (.invokevirtual 153, 3) := by decide +kernel
theorem dX4_join_10 : decode cX4_join 10 = .ok (.aload_n 0, 1) := by decide +kernel
theorem dX4_join_11 : decode cX4_join 11 = .ok (.iconst 1, 1) := by decide +kernel
theorem dX4_join_12 : decode cX4_join 12 = .ok (.putfield 60, 3) := by decide +kernel
theorem dX4_join_15 : decode cX4_join 15 = .ok (.return_, 1) := by decide +kernel
theorem dX4_settle_0 : decode cX4_settle 0 = .ok (.aload_n 0, 1) := by decide +kernel
theorem dX4_settle_1 : decode cX4_settle 1 = .ok (.iload_n 1, 1) := by decide +kernel
theorem dX4_settle_2 : decode cX4_settle 2 = .ok (.invokevirtual 165, 3) := by decide +kernel
theorem dX4_settle_5 : decode cX4_settle 5 = .ok (.istore_n 2, 1) := by decide +kernel
theorem dX4_settle_6 : decode cX4_settle 6 = .ok (.aload_n 0, 1) := by decide +kernel
theorem dX4_settle_7 : decode cX4_settle 7 = .ok (.getfield 42, 3) := by decide +kernel
theorem dX4_settle_10 : decode cX4_settle 10 = .ok (.iconst 1, 1) := by decide +kernel
theorem dX4_settle_11 : decode cX4_settle 11 = .ok (.isub, 1) := by decide +kernel
theorem dX4_settle_12 : decode cX4_settle 12 = .ok (.istore_n 3, 1) := by decide +kernel
theorem dX4_settle_13 : decode cX4_settle 13 = .ok (.iload_n 3, 1) := by decide +kernel
theorem dX4_settle_14 : decode cX4_settle 14 = .ok (.ifCond .lt 41, 3) := by decide +kernel
theorem dX4_settle_17 : decode cX4_settle 17 = .ok (.aload_n 0, 1) := by decide +kernel
theorem dX4_settle_18 : decode cX4_settle 18 = .ok (.aload_n 0, 1) := by decide +kernel
theorem dX4_settle_19 : decode cX4_settle 19 = .ok (.getfield 20, 3) := by decide +kernel
theorem dX4_settle_22 : decode cX4_settle 22 = .ok (.iload_n 3, 1) := by decide +kernel
theorem dX4_settle_23 : decode cX4_settle 23 = .ok (.iaload, 1) := by decide +kernel
theorem dX4_settle_24 : decode cX4_settle 24 = .ok (.invokevirtual 165, 3) := by decide +kernel
theorem dX4_settle_27 : decode cX4_settle 27 = .ok (.iload_n 2, 1) := by decide +kernel
theorem dX4_settle_28 : decode cX4_settle 28 = .ok (.if_icmp .lt 27, 3) := by decide +kernel
theorem dX4_settle_31 : decode cX4_settle 31 = .ok (.aload_n 0, 1) := by decide +kernel
theorem dX4_settle_32 : decode cX4_settle 32 = .ok (.sipush 10000, 3) := by decide +kernel
theorem dX4_settle_35 : decode cX4_settle 35 = .ok (.aload_n 0, 1) := by decide +kernel
theorem dX4_settle_36 : decode cX4_settle 36 = .ok (.getfield 20, 3) := by decide +kernel
theorem dX4_settle_39 : decode cX4_settle 39 = .ok (.iload_n 3, 1) := by decide +kernel
theorem dX4_settle_40 : decode cX4_settle 40 = .ok (.iaload, 1) := by decide +kernel
theorem dX4_settle_41 : decode cX4_settle 41 = .ok (.iadd, 1) := by decide +kernel
theorem dX4_settle_42 : decode cX4_settle 42 = .ok (.invokevirtual 147, 3) := by decide +kernel
theorem dX4_settle_45 : decode cX4_settle 45 = .ok (.aload_n 0, 1) := by decide +kernel
theorem dX4_settle_46 : decode cX4_settle 46 = .ok (.invokevirtual 159, 3) := by decide +kernel
theorem dX4_settle_49 : decode cX4_settle 49 = .ok (.iinc 3 (-1), 3) := by decide +kernel
theorem dX4_settle_52 : decode cX4_settle 52 = .ok (.goto (-39), 3) := by decide +kernel
theorem dX4_settle_55 : decode cX4_settle 55 = .ok (.return_, 1) := by decide +kernel
theorem dX4_closeness_0 : decode cX4_closeness 0 = .ok (.iload_n 1, 1) := by decide +kernel
theorem dX4_closeness_1 : decode cX4_closeness 1 = .ok (.tableswitch 107 15 33 #[93, 95, 97, 107, 107, 107, 107, 107, 107, 99, 99, 101, 101, 91, 107, 107, 107, 107, 104], 91) := by decide +kernel
theorem dX4_closeness_92 : decode cX4_closeness 92 = .ok (.iconst 0, 1) := by decide +kernel
theorem dX4_closeness_93 : decode cX4_closeness 93 = .ok (.ireturn, 1) := by decide +kernel
theorem dX4_closeness_94 : decode cX4_closeness 94 = .ok (.iconst 1, 1) := by decide +kernel
theorem dX4_closeness_95 : decode cX4_closeness 95 = .ok (.ireturn, 1) := by decide +kernel
theorem dX4_closeness_96 : decode cX4_closeness 96 = .ok (.iconst 2, 1) := by decide +kernel
theorem dX4_closeness_97 : decode cX4_closeness 97 = .ok (.ireturn, 1) := by decide +kernel
theorem dX4_closeness_98 : decode cX4_closeness 98 = .ok (.iconst 3, 1) := by decide +kernel
theorem dX4_closeness_99 : decode cX4_closeness 99 = .ok (.ireturn, 1) := by decide +kernel
theorem dX4_closeness_100 : decode cX4_closeness 100 = .ok (.iconst 5, 1) := by decide +kernel
theorem dX4_closeness_101 : decode cX4_closeness 101 = .ok (.ireturn, 1) := by decide +kernel
theorem dX4_closeness_102 : decode cX4_closeness 102 = .ok (.bipush 6, 2) := by decide +kernel
theorem dX4_closeness_104 : decode cX4_closeness 104 = .ok (.ireturn, 1) := by decide +kernel
theorem dX4_closeness_105 : decode cX4_closeness 105 = .ok (.bipush 7, 2) := by decide +kernel
theorem dX4_closeness_107 : decode cX4_closeness 107 = .ok (.ireturn, 1) := by decide +kernel
theorem dX4_closeness_108 : decode cX4_closeness 108 = .ok (.iconst 4, 1) := by decide +kernel
theorem dX4_closeness_109 : decode cX4_closeness 109 = .ok (.ireturn, 1) := by decide +kernel
theorem dX4_putOff_0 : decode cX4_putOff 0 = .ok (.aload_n 0, 1) := by decide +kernel
theorem dX4_putOff_1 : decode cX4_putOff 1 = .ok (.getfield 42, 3) := by decide +kernel
theorem dX4_putOff_4 : decode cX4_putOff 4 = .ok (.bipush 40, 2) := by decide +kernel
theorem dX4_putOff_6 : decode cX4_putOff 6 = .ok (.if_icmp .ge 23, 3) := by decide +kernel
theorem dX4_putOff_9 : decode cX4_putOff 9 = .ok (.aload_n 0, 1) := by decide +kernel
theorem dX4_putOff_10 : decode cX4_putOff 10 = .ok (.getfield 20, 3) := by decide +kernel
theorem dX4_putOff_13 : decode cX4_putOff 13 = .ok (.aload_n 0, 1) := by decide +kernel
theorem dX4_putOff_14 : decode cX4_putOff 14 = .ok (.getfield 42, 3) := by decide +kernel
theorem dX4_putOff_17 : decode cX4_putOff 17 = .ok (.iload_n 1, 1) := by decide +kernel
theorem dX4_putOff_18 : decode cX4_putOff 18 = .ok (.iastore, 1) := by decide +kernel
theorem dX4_putOff_19 : decode cX4_putOff 19 = .ok (.aload_n 0, 1) := by decide +kernel
theorem dX4_putOff_20 : decode cX4_putOff 20 = .ok (.dup, 1) := by decide +kernel
theorem dX4_putOff_21 : decode cX4_putOff 21 = .ok (.getfield 42, 3) := by decide +kernel
theorem dX4_putOff_24 : decode cX4_putOff 24 = .ok (.iconst 1, 1) := by decide +kernel
theorem dX4_putOff_25 : decode cX4_putOff 25 = .ok (.iadd, 1) := by decide +kernel
theorem dX4_putOff_26 : decode cX4_putOff 26 = .ok (.putfield 42, 3) := by decide +kernel
theorem dX4_putOff_29 : decode cX4_putOff 29 = .ok (.return_, 1) := by decide +kernel
theorem dX4_endWait_0 : decode cX4_endWait 0 = .ok (.aload_n 0, 1) := by decide +kernel
theorem dX4_endWait_1 : decode cX4_endWait 1 = .ok (.getfield 42, 3) := by decide +kernel
theorem dX4_endWait_4 : decode cX4_endWait 4 = .ok (.ifCond .le 51, 3) := by decide +kernel
theorem dX4_endWait_7 : decode cX4_endWait 7 = .ok (.aload_n 0, 1) := by decide +kernel
theorem dX4_endWait_8 : decode cX4_endWait 8 = .ok (.dup, 1) := by decide +kernel
theorem dX4_endWait_9 : decode cX4_endWait 9 = .ok (.getfield 42, 3) := by decide +kernel
theorem dX4_endWait_12 : decode cX4_endWait 12 = .ok (.iconst 1, 1) := by decide +kernel
theorem dX4_endWait_13 : decode cX4_endWait 13 = .ok (.isub, 1) := by decide +kernel
theorem dX4_endWait_14 : decode cX4_endWait 14 = .ok (.putfield 42, 3) := by decide +kernel
theorem dX4_endWait_17 : decode cX4_endWait 17 = .ok (.aload_n 0, 1) := by decide +kernel
theorem dX4_endWait_18 : decode cX4_endWait 18 = .ok (.getfield 20, 3) := by decide +kernel
theorem dX4_endWait_21 : decode cX4_endWait 21 = .ok (.aload_n 0, 1) := by decide +kernel
theorem dX4_endWait_22 : decode cX4_endWait 22 = .ok (.getfield 42, 3) := by decide +kernel
theorem dX4_endWait_25 : decode cX4_endWait 25 = .ok (.iaload, 1) := by decide +kernel
theorem dX4_endWait_26 : decode cX4_endWait 26 = .ok (.istore_n 1, 1) := by decide +kernel
theorem dX4_endWait_27 : decode cX4_endWait 27 = .ok (.iload_n 1, 1) := by decide +kernel
theorem dX4_endWait_28 : decode cX4_endWait 28 = .ok (.bipush 28, 2) := by decide +kernel
theorem dX4_endWait_30 : decode cX4_endWait 30 = .ok (.if_icmp .eq 15, 3) := by decide +kernel
theorem dX4_endWait_33 : decode cX4_endWait 33 = .ok (.iload_n 1, 1) := by decide +kernel
theorem dX4_endWait_34 : decode cX4_endWait 34 = .ok (.bipush 17, 2) := by decide +kernel
theorem dX4_endWait_36 : decode cX4_endWait 36 = .ok (.if_icmp .eq 9, 3) := by decide +kernel
theorem dX4_endWait_39 : decode cX4_endWait 39 = .ok (.iload_n 1, 1) := by decide +kernel
theorem dX4_endWait_40 : decode cX4_endWait 40 = .ok (.bipush 33, 2) := by decide +kernel
theorem dX4_endWait_42 : decode cX4_endWait 42 = .ok (.if_icmp .ne 13, 3) := by decide +kernel
theorem dX4_endWait_45 : decode cX4_endWait 45 = .ok (.aload_n 0, 1) := by decide +kernel
theorem dX4_endWait_46 : decode cX4_endWait 46 = .ok (.dup, 1) := by decide +kernel
theorem dX4_endWait_47 : decode cX4_endWait 47 = .ok (.getfield 54, 3) := by decide +kernel
theorem dX4_endWait_50 : decode cX4_endWait 50 = .ok (.iconst 1, 1) := by decide +kernel
theorem dX4_endWait_51 : decode cX4_endWait 51 = .ok (.isub, 1) := by decide +kernel
theorem dX4_endWait_52 : decode cX4_endWait 52 = .ok (.putfield 54, 3) := by decide +kernel
theorem dX4_endWait_55 : decode cX4_endWait 55 = .ok (.return_, 1) := by decide +kernel
theorem dX4_addCode_0 : decode cX4_addCode 0 = .ok (.aload_n 0, 1) := by decide +kernel
theorem dX4_addCode_1 : decode cX4_addCode 1 = .ok (.getfield 39, 3) := by decide +kernel
theorem dX4_addCode_4 : decode cX4_addCode 4 = .ok (.sipush 300, 3) := by decide +kernel
theorem dX4_addCode_7 : decode cX4_addCode 7 = .ok (.if_icmp .ge 23, 3) := by decide +kernel
theorem dX4_addCode_10 : decode cX4_addCode 10 = .ok (.aload_n 0, 1) := by decide +kernel
theorem dX4_addCode_11 : decode cX4_addCode 11 = .ok (.getfield 17, 3) := by decide +kernel
theorem dX4_addCode_14 : decode cX4_addCode 14 = .ok (.aload_n 0, 1) := by decide +kernel
theorem dX4_addCode_15 : decode cX4_addCode 15 = .ok (.getfield 39, 3) := by decide +kernel
theorem dX4_addCode_18 : decode cX4_addCode 18 = .ok (.iload_n 1, 1) := by decide +kernel
theorem dX4_addCode_19 : decode cX4_addCode 19 = .ok (.iastore, 1) := by decide +kernel
theorem dX4_addCode_20 : decode cX4_addCode 20 = .ok (.aload_n 0, 1) := by decide +kernel
theorem dX4_addCode_21 : decode cX4_addCode 21 = .ok (.dup, 1) := by decide +kernel
theorem dX4_addCode_22 : decode cX4_addCode 22 = .ok (.getfield 39, 3) := by decide +kernel
theorem dX4_addCode_25 : decode cX4_addCode 25 = .ok (.iconst 1, 1) := by decide +kernel
theorem dX4_addCode_26 : decode cX4_addCode 26 = .ok (.iadd, 1) := by decide +kernel
theorem dX4_addCode_27 : decode cX4_addCode 27 = .ok (.putfield 39, 3) := by decide +kernel
theorem dX4_addCode_30 : decode cX4_addCode 30 = .ok (.return_, 1) := by decide +kernel
theorem dX5_init_0 : decode cX5_init 0 = .ok (.aload_n 0, 1) := by decide +kernel
theorem dX5_init_1 : decode cX5_init 1 = .ok (.invokespecial 3, 3) := by decide +kernel
theorem dX5_init_4 : decode cX5_init 4 = .ok (.aload_n 0, 1) := by decide +kernel
theorem dX5_init_5 : decode cX5_init 5 = .ok (.bipush 8, 2) := by decide +kernel
theorem dX5_init_7 : decode cX5_init 7 = .ok (.newarray .int, 2) := by decide +kernel
theorem dX5_init_9 : decode cX5_init 9 = .ok (.putfield 9, 3) := by decide +kernel
theorem dX5_init_12 : decode cX5_init 12 = .ok (.aload_n 0, 1) := by decide +kernel
theorem dX5_init_13 : decode cX5_init 13 = .ok (.bipush 8, 2) := by decide +kernel
theorem dX5_init_15 : decode cX5_init 15 = .ok (.newarray .int, 2) := by decide +kernel
theorem dX5_init_17 : decode cX5_init 17 = .ok (.putfield 15, 3) := by decide +kernel
theorem dX5_init_20 : decode cX5_init 20 = .ok (.aload_n 0, 1) := by decide +kernel
theorem dX5_init_21 : decode cX5_init 21 = .ok (.iconst 0, 1) := by decide +kernel
theorem dX5_init_22 : decode cX5_init 22 = .ok (.putfield 18, 3) := by decide +kernel
theorem dX5_init_25 : decode cX5_init 25 = .ok (.return_, 1) := by decide +kernel
theorem dX5_add_0 : decode cX5_add 0 = .ok (.aload_n 0, 1) := by decide +kernel
theorem dX5_add_1 : decode cX5_add 1 = .ok (.getfield 18, 3) := by decide +kernel
theorem dX5_add_4 : decode cX5_add 4 = .ok (.bipush 8, 2) := by decide +kernel
theorem dX5_add_6 : decode cX5_add 6 = .ok (.if_icmp .ge 33, 3) := by decide +kernel
theorem dX5_add_9 : decode cX5_add 9 = .ok (.aload_n 0, 1) := by decide +kernel
theorem dX5_add_10 : decode cX5_add 10 = .ok (.getfield 9, 3) := by decide +kernel
theorem dX5_add_13 : decode cX5_add 13 = .ok (.aload_n 0, 1) := by decide +kernel
theorem dX5_add_14 : decode cX5_add 14 = .ok (.getfield 18, 3) := by decide +kernel
theorem dX5_add_17 : decode cX5_add 17 = .ok (.iload_n 1, 1) := by decide +kernel
theorem dX5_add_18 : decode cX5_add 18 = .ok (.iastore, 1) := by decide +kernel
theorem dX5_add_19 : decode cX5_add 19 = .ok (.aload_n 0, 1) := by decide +kernel
theorem dX5_add_20 : decode cX5_add 20 = .ok (.getfield 15, 3) := by decide +kernel
theorem dX5_add_23 : decode cX5_add 23 = .ok (.aload_n 0, 1) := by decide +kernel
theorem dX5_add_24 : decode cX5_add 24 = .ok (.getfield 18, 3) := by decide +kernel
theorem dX5_add_27 : decode cX5_add 27 = .ok (.iload_n 2, 1) := by decide +kernel
theorem dX5_add_28 : decode cX5_add 28 = .ok (.iastore, 1) := by decide +kernel
theorem dX5_add_29 : decode cX5_add 29 = .ok (.aload_n 0, 1) := by decide +kernel
theorem dX5_add_30 : decode cX5_add 30 = .ok (.dup, 1) := by decide +kernel
theorem dX5_add_31 : decode cX5_add 31 = .ok (.getfield 18, 3) := by decide +kernel
theorem dX5_add_34 : decode cX5_add 34 = .ok (.iconst 1, 1) := by decide +kernel
theorem dX5_add_35 : decode cX5_add 35 = .ok (.iadd, 1) := by decide +kernel
theorem dX5_add_36 : decode cX5_add 36 = .ok (.putfield 18, 3) := by decide +kernel
theorem dX5_add_39 : decode cX5_add 39 = .ok (.return_, 1) := by decide +kernel
theorem dX5_isFit_0 : decode cX5_isFit 0 = .ok (.iload_n 1, 1) := by decide +kernel
theorem dX5_isFit_1 : decode cX5_isFit 1 = .ok (.ifCond .lt 35, 3) := by decide +kernel
theorem dX5_isFit_4 : decode cX5_isFit 4 = .ok (.iload_n 1, 1) := by decide +kernel
theorem dX5_isFit_5 : decode cX5_isFit 5 = .ok (.aload_n 0, 1) := by decide +kernel
theorem dX5_isFit_6 : decode cX5_isFit 6 = .ok (.getfield 18, 3) := by decide +kernel
theorem dX5_isFit_9 : decode cX5_isFit 9 = .ok (.if_icmp .ge 27, 3) := by decide +kernel
theorem dX5_isFit_12 : decode cX5_isFit 12 = .ok (.iload_n 2, 1) := by decide +kernel
theorem dX5_isFit_13 : decode cX5_isFit 13 = .ok (.aload_n 0, 1) := by decide +kernel
theorem dX5_isFit_14 : decode cX5_isFit 14 = .ok (.getfield 9, 3) := by decide +kernel
theorem dX5_isFit_17 : decode cX5_isFit 17 = .ok (.iload_n 1, 1) := by decide +kernel
theorem dX5_isFit_18 : decode cX5_isFit 18 = .ok (.iaload, 1) := by decide +kernel
theorem dX5_isFit_19 : decode cX5_isFit 19 = .ok (.if_icmp .lt 17, 3) := by decide +kernel
theorem dX5_isFit_22 : decode cX5_isFit 22 = .ok (.iload_n 2, 1) := by decide +kernel
theorem dX5_isFit_23 : decode cX5_isFit 23 = .ok (.aload_n 0, 1) := by decide +kernel
theorem dX5_isFit_24 : decode cX5_isFit 24 = .ok (.getfield 15, 3) := by decide +kernel
theorem dX5_isFit_27 : decode cX5_isFit 27 = .ok (.iload_n 1, 1) := by decide +kernel
theorem dX5_isFit_28 : decode cX5_isFit 28 = .ok (.iaload, 1) := by decide +kernel
theorem dX5_isFit_29 : decode cX5_isFit 29 = .ok (.if_icmp .gt 7, 3) := by decide +kernel
theorem dX5_isFit_32 : decode cX5_isFit 32 = .ok (.iconst 1, 1) := by decide +kernel
theorem dX5_isFit_33 : decode cX5_isFit 33 = .ok (.goto 4, 3) := by decide +kernel
theorem dX5_isFit_36 : decode cX5_isFit 36 = .ok (.iconst 0, 1) := by decide +kernel
theorem dX5_isFit_37 : decode cX5_isFit 37 = .ok (.ireturn, 1) := by decide +kernel
theorem dX5_takeAll_0 : decode cX5_takeAll 0 = .ok (.aload_n 1, 1) := by decide +kernel
theorem dX5_takeAll_1 : decode cX5_takeAll 1 = .ok (.getfield 9, 3) := by decide +kernel
theorem dX5_takeAll_4 : decode cX5_takeAll 4 = .ok (.iconst 0, 1) := by decide +kernel
theorem dX5_takeAll_5 : decode cX5_takeAll 5 = .ok (.aload_n 0, 1) := by decide +kernel
theorem dX5_takeAll_6 : decode cX5_takeAll 6 = .ok (.getfield 9, 3) := by decide +kernel
theorem dX5_takeAll_9 : decode cX5_takeAll 9 = .ok (.iconst 0, 1) := by decide +kernel
theorem dX5_takeAll_10 : decode cX5_takeAll 10 = .ok (.bipush 8, 2) := by decide +kernel
theorem dX5_takeAll_12 : decode cX5_takeAll 12 = .ok (.invokestatic 22, 3) := by decide +kernel
theorem dX5_takeAll_15 : decode cX5_takeAll 15 = .ok (.aload_n 1, 1) := by decide +kernel
theorem dX5_takeAll_16 : decode cX5_takeAll 16 = .ok (.getfield 15, 3) := by decide +kernel
theorem dX5_takeAll_19 : decode cX5_takeAll 19 = .ok (.iconst 0, 1) := by decide +kernel
theorem dX5_takeAll_20 : decode cX5_takeAll 20 = .ok (.aload_n 0, 1) := by decide +kernel
theorem dX5_takeAll_21 : decode cX5_takeAll 21 = .ok (.getfield 15, 3) := by decide +kernel
theorem dX5_takeAll_24 : decode cX5_takeAll 24 = .ok (.iconst 0, 1) := by decide +kernel
theorem dX5_takeAll_25 : decode cX5_takeAll 25 = .ok (.bipush 8, 2) := by decide +kernel
theorem dX5_takeAll_27 : decode cX5_takeAll 27 = .ok (.invokestatic 22, 3) := by decide +kernel
theorem dX5_takeAll_30 : decode cX5_takeAll 30 = .ok (.aload_n 0, 1) := by decide +kernel
theorem dX5_takeAll_31 : decode cX5_takeAll 31 = .ok (.aload_n 1, 1) := by decide +kernel
theorem dX5_takeAll_32 : decode cX5_takeAll 32 = .ok (.getfield 18, 3) := by decide +kernel
theorem dX5_takeAll_35 : decode cX5_takeAll 35 = .ok (.putfield 18, 3) := by decide +kernel
theorem dX5_takeAll_38 : decode cX5_takeAll 38 = .ok (.return_, 1) := by decide +kernel
theorem dX6_init_0 : decode cX6_init 0 = .ok (.aload_n 0, 1) := by decide +kernel
theorem dX6_init_1 : decode cX6_init 1 = .ok (.invokespecial 3, 3) := by decide +kernel
theorem dX6_init_4 : decode cX6_init 4 = .ok (.aload_n 0, 1) := by decide +kernel
theorem dX6_init_5 : decode cX6_init 5 = .ok (.new 9, 3) := by decide +kernel
theorem dX6_init_8 : decode cX6_init 8 = .ok (.dup, 1) := by decide +kernel
theorem dX6_init_9 : decode cX6_init 9 = .ok (.invokespecial 11, 3) := by decide +kernel
theorem dX6_init_12 : decode cX6_init 12 = .ok (.putfield 12, 3) := by decide +kernel
theorem dX6_init_15 : decode cX6_init 15 = .ok (.aload_n 0, 1) := by decide +kernel
theorem dX6_init_16 : decode cX6_init 16 = .ok (.new 18, 3) := by decide +kernel
theorem dX6_init_19 : decode cX6_init 19 = .ok (.dup, 1) := by decide +kernel
theorem dX6_init_20 : decode cX6_init 20 = .ok (.invokespecial 20, 3) := by decide +kernel
theorem dX6_init_23 : decode cX6_init 23 = .ok (.putfield 21, 3) := by decide +kernel
theorem dX6_init_26 : decode cX6_init 26 = .ok (.aload_n 0, 1) := by decide +kernel
theorem dX6_init_27 : decode cX6_init 27 = .ok (.new 25, 3) := by decide +kernel
theorem dX6_init_30 : decode cX6_init 30 = .ok (.dup, 1) := by decide +kernel
theorem dX6_init_31 : decode cX6_init 31 = .ok (.invokespecial 27, 3) := by decide +kernel
theorem dX6_init_34 : decode cX6_init 34 = .ok (.putfield 28, 3) := by decide +kernel
theorem dX6_init_37 : decode cX6_init 37 = .ok (.aload_n 0, 1) := by decide +kernel
theorem dX6_init_38 : decode cX6_init 38 = .ok (.new 32, 3) := by decide +kernel
theorem dX6_init_41 : decode cX6_init 41 = .ok (.dup, 1) := by decide +kernel
theorem dX6_init_42 : decode cX6_init 42 = .ok (.invokespecial 34, 3) := by decide +kernel
theorem dX6_init_45 : decode cX6_init 45 = .ok (.putfield 35, 3) := by decide +kernel
theorem dX6_init_48 : decode cX6_init 48 = .ok (.aload_n 0, 1) := by decide +kernel
theorem dX6_init_49 : decode cX6_init 49 = .ok (.new 39, 3) := by decide +kernel
theorem dX6_init_52 : decode cX6_init 52 = .ok (.dup, 1) := by decide +kernel
theorem dX6_init_53 : decode cX6_init 53 = .ok (.getstatic 41, 3) := by decide +kernel
theorem dX6_init_56 : decode cX6_init 56 = .ok (.getstatic 41, 3) := by decide +kernel
theorem dX6_init_59 : decode cX6_init 59 = .ok (.getstatic 41, 3) := by decide +kernel
theorem dX6_init_62 : decode cX6_init 62 = .ok (.getstatic 41, 3) := by decide +kernel
theorem dX6_init_65 : decode cX6_init 65 = .ok (.invokespecial 45, 3) := by decide +kernel
theorem dX6_init_68 : decode cX6_init 68 = .ok (.putfield 48, 3) := by decide +kernel
theorem dX6_init_71 : decode cX6_init 71 = .ok (.aload_n 0, 1) := by decide +kernel
theorem dX6_init_72 : decode cX6_init 72 = .ok (.iconst 4, 1) := by decide +kernel
theorem dX6_init_73 : decode cX6_init 73 = .ok (.anewarray 39, 3) := by decide +kernel
theorem dX6_init_76 : decode cX6_init 76 = .ok (.dup, 1) := by decide +kernel
theorem dX6_init_77 : decode cX6_init 77 = .ok (.iconst 0, 1) := by decide +kernel
theorem dX6_init_78 : decode cX6_init 78 = .ok (.aload_n 0, 1) := by decide +kernel
theorem dX6_init_79 : decode cX6_init 79 = .ok (.getfield 48, 3) := by decide +kernel
theorem dX6_init_82 : decode cX6_init 82 = .ok (.aastore, 1) := by decide +kernel
theorem dX6_init_83 : decode cX6_init 83 = .ok (.dup, 1) := by decide +kernel
theorem dX6_init_84 : decode cX6_init 84 = .ok (.iconst 1, 1) := by decide +kernel
theorem dX6_init_85 : decode cX6_init 85 = .ok (.aload_n 0, 1) := by decide +kernel
theorem dX6_init_86 : decode cX6_init 86 = .ok (.getfield 48, 3) := by decide +kernel
theorem dX6_init_89 : decode cX6_init 89 = .ok (.aastore, 1) := by decide +kernel
theorem dX6_init_90 : decode cX6_init 90 = .ok (.dup, 1) := by decide +kernel
theorem dX6_init_91 : decode cX6_init 91 = .ok (.iconst 2, 1) := by decide +kernel
theorem dX6_init_92 : decode cX6_init 92 = .ok (.aload_n 0, 1) := by decide +kernel
theorem dX6_init_93 : decode cX6_init 93 = .ok (.getfield 48, 3) := by decide +kernel
theorem dX6_init_96 : decode cX6_init 96 = .ok (.aastore, 1) := by decide +kernel
theorem dX6_init_97 : decode cX6_init 97 = .ok (.dup, 1) := by decide +kernel
theorem dX6_init_98 : decode cX6_init 98 = .ok (.iconst 3, 1) := by decide +kernel
theorem dX6_init_99 : decode cX6_init 99 = .ok (.aload_n 0, 1) := by decide +kernel
theorem dX6_init_100 : decode cX6_init 100 = .ok (.getfield 48, 3) := by decide +kernel
theorem dX6_init_103 : decode cX6_init 103 = .ok (.aastore, 1) := by decide +kernel
theorem dX6_init_104 : decode cX6_init 104 = .ok (.putfield 52, 3) := by decide +kernel
theorem dX6_init_107 : decode cX6_init 107 = .ok (.aload_n 0, 1) := by decide +kernel
theorem dX6_init_108 : decode cX6_init 108 = .ok (.iconst 0, 1) := by decide +kernel
theorem dX6_init_109 : decode cX6_init 109 = .ok (.putfield 56, 3) := by decide +kernel
theorem dX6_init_112 : decode cX6_init 112 = .ok (.aload_n 0, 1) := by decide +kernel
theorem dX6_init_113 : decode cX6_init 113 = .ok (.iconst (-1), 1) := by decide +kernel
theorem dX6_init_114 : decode cX6_init 114 = .ok (.putfield 60, 3) := by decide +kernel
theorem dX6_init_117 : decode cX6_init 117 = .ok (.aload_n 0, 1) := by decide +kernel
theorem dX6_init_118 : decode cX6_init 118 = .ok (.iconst 0, 1) := by decide +kernel
theorem dX6_init_119 : decode cX6_init 119 = .ok (.putfield 63, 3) := by decide +kernel
theorem dX6_init_122 : decode cX6_init 122 = .ok (.aload_n 0, 1) := by decide +kernel
theorem dX6_init_123 : decode cX6_init 123 = .ok (.iconst 0, 1) := by decide +kernel
theorem dX6_init_124 : decode cX6_init 124 = .ok (.putfield 66, 3) := by decide +kernel
theorem dX6_init_127 : decode cX6_init 127 = .ok (.return_, 1) := by decide +kernel
theorem dX6_isLaid_0 : decode cX6_isLaid 0 = .ok (.aload_n 0, 1) := by decide +kernel
theorem dX6_isLaid_1 : decode cX6_isLaid 1 = .ok (.getfield 66, 3) := by decide +kernel
theorem dX6_isLaid_4 : decode cX6_isLaid 4 = .ok (.iload_n 1, 1) := by decide +kernel
theorem dX6_isLaid_5 : decode cX6_isLaid 5 = .ok (.ishr, 1) := by decide +kernel
theorem dX6_isLaid_6 : decode cX6_isLaid 6 = .ok (.iconst 1, 1) := by decide +kernel
theorem dX6_isLaid_7 : decode cX6_isLaid 7 = .ok (.iand, 1) := by decide +kernel
theorem dX6_isLaid_8 : decode cX6_isLaid 8 = .ok (.iconst 1, 1) := by decide +kernel
theorem dX6_isLaid_9 : decode cX6_isLaid 9 = .ok (.if_icmp .ne 7, 3) := by decide +kernel
theorem dX6_isLaid_12 : decode cX6_isLaid 12 = .ok (.iconst 1, 1) := by decide +kernel
theorem dX6_isLaid_13 : decode cX6_isLaid 13 = .ok (.goto 4, 3) := by decide +kernel
theorem dX6_isLaid_16 : decode cX6_isLaid 16 = .ok (.iconst 0, 1) := by decide +kernel
theorem dX6_isLaid_17 : decode cX6_isLaid 17 = .ok (.ireturn, 1) := by decide +kernel
theorem dX6_hasText_0 : decode cX6_hasText 0 = .ok (.iload_n 1, 1) := by decide +kernel
theorem dX6_hasText_1 : decode cX6_hasText 1 = .ok (.ifCond .lt 20, 3) := by decide +kernel
theorem dX6_hasText_4 : decode cX6_hasText 4 = .ok (.iload_n 1, 1) := by decide +kernel
theorem dX6_hasText_5 : decode cX6_hasText 5 = .ok (.aload_n 0, 1) := by decide +kernel
theorem dX6_hasText_6 : decode cX6_hasText 6 = .ok (.getfield 56, 3) := by decide +kernel
theorem dX6_hasText_9 : decode cX6_hasText 9 = .ok (.if_icmp .ge 12, 3) := by decide +kernel
theorem dX6_hasText_12 : decode cX6_hasText 12 = .ok (.iload_n 1, 1) := by decide +kernel
theorem dX6_hasText_13 : decode cX6_hasText 13 = .ok (.iconst 4, 1) := by decide +kernel
theorem dX6_hasText_14 : decode cX6_hasText 14 = .ok (.if_icmp .ge 7, 3) := by decide +kernel
theorem dX6_hasText_17 : decode cX6_hasText 17 = .ok (.iconst 1, 1) := by decide +kernel
theorem dX6_hasText_18 : decode cX6_hasText 18 = .ok (.goto 4, 3) := by decide +kernel
theorem dX6_hasText_21 : decode cX6_hasText 21 = .ok (.iconst 0, 1) := by decide +kernel
theorem dX6_hasText_22 : decode cX6_hasText 22 = .ok (.ireturn, 1) := by decide +kernel
theorem dX6_rule_0 : decode cX6_rule 0 = .ok (.aload_n 0, 1) := by decide +kernel
theorem dX6_rule_1 : decode cX6_rule 1 = .ok (.aload_n 0, 1) := by decide +kernel
theorem dX6_rule_2 : decode cX6_rule 2 = .ok (.getfield 60, 3) := by decide +kernel
theorem dX6_rule_5 : decode cX6_rule 5 = .ok (.invokevirtual 69, 3) := by decide +kernel
theorem dX6_rule_8 : decode cX6_rule 8 = .ok (.ifCond .eq 15, 3) := by decide +kernel
theorem dX6_rule_11 : decode cX6_rule 11 = .ok (.aload_n 0, 1) := by decide +kernel
theorem dX6_rule_12 : decode cX6_rule 12 = .ok (.getfield 52, 3) := by decide +kernel
theorem dX6_rule_15 : decode cX6_rule 15 = .ok (.aload_n 0, 1) := by decide +kernel
theorem dX6_rule_16 : decode cX6_rule 16 = .ok (.getfield 60, 3) := by decide +kernel
theorem dX6_rule_19 : decode cX6_rule 19 = .ok (.aaload, 1) := by decide +kernel
theorem dX6_rule_20 : decode cX6_rule 20 = .ok (.goto 7, 3) := by decide +kernel
theorem dX6_rule_23 : decode cX6_rule 23 = .ok (.aload_n 0, 1) := by decide +kernel
theorem dX6_rule_24 : decode cX6_rule 24 = .ok (.getfield 48, 3) := by decide +kernel
theorem dX6_rule_27 : decode cX6_rule 27 = .ok (.areturn, 1) := by decide +kernel
theorem dX6_become_0 : decode cX6_become 0 = .ok (.aload_n 0, 1) := by decide +kernel
theorem dX6_become_1 : decode cX6_become 1 = .ok (.getfield 12, 3) := by decide +kernel
theorem dX6_become_4 : decode cX6_become 4 = .ok (.aload_n 1, 1) := by decide +kernel
theorem dX6_become_5 : decode cX6_become 5 = .ok (.getfield 12, 3) := by decide +kernel
theorem dX6_become_8 : decode cX6_become 8 = .ok (.invokevirtual 73, 3) := by decide +kernel
theorem dX6_become_11 : decode cX6_become 11 = .ok (.aload_n 0, 1) := by decide +kernel
theorem dX6_become_12 : decode cX6_become 12 = .ok (.getfield 21, 3) := by decide +kernel
theorem dX6_become_15 : decode cX6_become 15 = .ok (.aload_n 1, 1) := by decide +kernel
theorem dX6_become_16 : decode cX6_become 16 = .ok (.getfield 21, 3) := by decide +kernel
theorem dX6_become_19 : decode cX6_become 19 = .ok (.invokevirtual 77, 3) := by decide +kernel
theorem dX6_become_22 : decode cX6_become 22 = .ok (.aload_n 0, 1) := by decide +kernel
theorem dX6_become_23 : decode cX6_become 23 = .ok (.getfield 28, 3) := by decide +kernel
theorem dX6_become_26 : decode cX6_become 26 = .ok (.aload_n 1, 1) := by decide +kernel
theorem dX6_become_27 : decode cX6_become 27 = .ok (.getfield 28, 3) := by decide +kernel
theorem dX6_become_30 : decode cX6_become 30 = .ok (.invokevirtual 80, 3) := by decide +kernel
theorem dX6_become_33 : decode cX6_become 33 = .ok (.aload_n 0, 1) := by decide +kernel
theorem dX6_become_34 : decode cX6_become 34 = .ok (.getfield 35, 3) := by decide +kernel
theorem dX6_become_37 : decode cX6_become 37 = .ok (.aload_n 1, 1) := by decide +kernel
theorem dX6_become_38 : decode cX6_become 38 = .ok (.getfield 35, 3) := by decide +kernel
theorem dX6_become_41 : decode cX6_become 41 = .ok (.invokevirtual 83, 3) := by decide +kernel
theorem dX6_become_44 : decode cX6_become 44 = .ok (.iconst 0, 1) := by decide +kernel
theorem dX6_become_45 : decode cX6_become 45 = .ok (.istore_n 2, 1) := by decide +kernel
theorem dX6_become_46 : decode cX6_become 46 = .ok (.iload_n 2, 1) := by decide +kernel
theorem dX6_become_47 : decode cX6_become 47 = .ok (.iconst 4, 1) := by decide +kernel
theorem dX6_become_48 : decode cX6_become 48 = .ok (.if_icmp .ge 21, 3) := by decide +kernel
theorem dX6_become_51 : decode cX6_become 51 = .ok (.aload_n 0, 1) := by decide +kernel
theorem dX6_become_52 : decode cX6_become 52 = .ok (.getfield 52, 3) := by decide +kernel
theorem dX6_become_55 : decode cX6_become 55 = .ok (.iload_n 2, 1) := by decide +kernel
theorem dX6_become_56 : decode cX6_become 56 = .ok (.aload_n 1, 1) := by decide +kernel
theorem dX6_become_57 : decode cX6_become 57 = .ok (.getfield 52, 3) := by decide +kernel
theorem dX6_become_60 : decode cX6_become 60 = .ok (.iload_n 2, 1) := by decide +kernel
theorem dX6_become_61 : decode cX6_become 61 = .ok (.aaload, 1) := by decide +kernel
theorem dX6_become_62 : decode cX6_become 62 = .ok (.aastore, 1) := by decide +kernel
theorem dX6_become_63 : decode cX6_become 63 = .ok (.iinc 2 1, 3) := by decide +kernel
theorem dX6_become_66 : decode cX6_become 66 = .ok (.goto (-20), 3) := by decide +kernel
theorem dX6_become_69 : decode cX6_become 69 = .ok (.aload_n 0, 1) := by decide +kernel
theorem dX6_become_70 : decode cX6_become 70 = .ok (.aload_n 1, 1) := by decide +kernel
theorem dX6_become_71 : decode cX6_become 71 = .ok (.getfield 56, 3) := by decide +kernel
theorem dX6_become_74 : decode cX6_become 74 = .ok (.putfield 56, 3) := by decide +kernel
theorem dX6_become_77 : decode cX6_become 77 = .ok (.aload_n 0, 1) := by decide +kernel
theorem dX6_become_78 : decode cX6_become 78 = .ok (.aload_n 1, 1) := by decide +kernel
theorem dX6_become_79 : decode cX6_become 79 = .ok (.getfield 60, 3) := by decide +kernel
theorem dX6_become_82 : decode cX6_become 82 = .ok (.putfield 60, 3) := by decide +kernel
theorem dX6_become_85 : decode cX6_become 85 = .ok (.aload_n 0, 1) := by decide +kernel
theorem dX6_become_86 : decode cX6_become 86 = .ok (.aload_n 1, 1) := by decide +kernel
theorem dX6_become_87 : decode cX6_become 87 = .ok (.getfield 63, 3) := by decide +kernel
theorem dX6_become_90 : decode cX6_become 90 = .ok (.putfield 63, 3) := by decide +kernel
theorem dX6_become_93 : decode cX6_become 93 = .ok (.aload_n 0, 1) := by decide +kernel
theorem dX6_become_94 : decode cX6_become 94 = .ok (.aload_n 1, 1) := by decide +kernel
theorem dX6_become_95 : decode cX6_become 95 = .ok (.getfield 66, 3) := by decide +kernel
theorem dX6_become_98 : decode cX6_become 98 = .ok (.putfield 66, 3) := by decide +kernel
theorem dX6_become_101 : decode cX6_become 101 = .ok (.return_, 1) := by decide +kernel
end
section
theorem dX7_init_0 : decode cX7_init 0 = .ok (.aload_n 0, 1) := by decide +kernel
theorem dX7_init_1 : decode cX7_init 1 = .ok (.invokespecial 5, 3) := by decide +kernel
theorem dX7_init_4 : decode cX7_init 4 = .ok (.aload_n 0, 1) := by decide +kernel
theorem dX7_init_5 : decode cX7_init 5 = .ok (.sipush 660, 3) := by decide +kernel
theorem dX7_init_8 : decode cX7_init 8 = .ok (.newarray .int, 2) := by decide +kernel
theorem dX7_init_10 : decode cX7_init 10 = .ok (.putfield 11, 3) := by decide +kernel
theorem dX7_init_13 : decode cX7_init 13 = .ok (.aload_n 0, 1) := by decide +kernel
theorem dX7_init_14 : decode cX7_init 14 = .ok (.iconst 0, 1) := by decide +kernel
theorem dX7_init_15 : decode cX7_init 15 = .ok (.putfield 15, 3) := by decide +kernel
theorem dX7_init_18 : decode cX7_init 18 = .ok (.aload_n 0, 1) := by decide +kernel
theorem dX7_init_19 : decode cX7_init 19 = .ok (.iconst 0, 1) := by decide +kernel
theorem dX7_init_20 : decode cX7_init 20 = .ok (.putfield 19, 3) := by decide +kernel
theorem dX7_init_23 : decode cX7_init 23 = .ok (.return_, 1) := by decide +kernel
theorem dX7_keep_0 : decode cX7_keep 0 = .ok (.aload_n 0, 1) := by decide +kernel
theorem dX7_keep_1 : decode cX7_keep 1 = .ok (.getfield 19, 3) := by decide +kernel
theorem dX7_keep_4 : decode cX7_keep 4 = .ok (.bipush 30, 2) := by decide +kernel
theorem dX7_keep_6 : decode cX7_keep 6 = .ok (.if_icmp .lt 22, 3) := by decide +kernel
theorem dX7_keep_9 : decode cX7_keep 9 = .ok (.aload_n 0, 1) := by decide +kernel
theorem dX7_keep_10 : decode cX7_keep 10 = .ok (.aload_n 0, 1) := by decide +kernel
theorem dX7_keep_11 : decode cX7_keep 11 = .ok (.getfield 15, 3) := by decide +kernel
theorem dX7_keep_14 : decode cX7_keep 14 = .ok (.iconst 1, 1) := by decide +kernel
theorem dX7_keep_15 : decode cX7_keep 15 = .ok (.iadd, 1) := by decide +kernel
theorem dX7_keep_16 : decode cX7_keep 16 = .ok (.bipush 30, 2) := by decide +kernel
theorem dX7_keep_18 : decode cX7_keep 18 = .ok (.irem, 1) := by decide +kernel
theorem dX7_keep_19 : decode cX7_keep 19 = .ok (.putfield 15, 3) := by decide +kernel
theorem dX7_keep_22 : decode cX7_keep 22 = .ok (.aload_n 0, 1) := by decide +kernel
theorem dX7_keep_23 : decode cX7_keep 23 = .ok (.bipush 29, 2) := by decide +kernel
theorem dX7_keep_25 : decode cX7_keep 25 = .ok (.putfield 19, 3) := by decide +kernel
theorem dX7_keep_28 : decode cX7_keep 28 = .ok (.aload_n 0, 1) := by decide +kernel
theorem dX7_keep_29 : decode cX7_keep 29 = .ok (.getfield 15, 3) := by decide +kernel
theorem dX7_keep_32 : decode cX7_keep 32 = .ok (.aload_n 0, 1) := by decide +kernel
theorem dX7_keep_33 : decode cX7_keep 33 = .ok (.getfield 19, 3) := by decide +kernel
theorem dX7_keep_36 : decode cX7_keep 36 = .ok (.iadd, 1) := by decide +kernel
theorem dX7_keep_37 : decode cX7_keep 37 = .ok (.bipush 30, 2) := by decide +kernel
theorem dX7_keep_39 : decode cX7_keep 39 = .ok (.irem, 1) := by decide +kernel
theorem dX7_keep_40 : decode cX7_keep 40 = .ok (.bipush 22, 2) := by decide +kernel
theorem dX7_keep_42 : decode cX7_keep 42 = .ok (.imul, 1) := by decide +kernel
theorem dX7_keep_43 : decode cX7_keep 43 = .ok (.istore_n 3, 1) := by decide +kernel
theorem dX7_keep_44 : decode cX7_keep 44 = .ok (.aload_n 0, 1) := by decide +kernel
theorem dX7_keep_45 : decode cX7_keep 45 = .ok (.getfield 11, 3) := by decide +kernel
theorem dX7_keep_48 : decode cX7_keep 48 = .ok (.iload_n 3, 1) := by decide +kernel
theorem dX7_keep_49 : decode cX7_keep 49 = .ok (.iload_n 1, 1) := by decide +kernel
theorem dX7_keep_50 : decode cX7_keep 50 = .ok (.iastore, 1) := by decide +kernel
theorem dX7_keep_51 : decode cX7_keep 51 = .ok (.aload_n 0, 1) := by decide +kernel
theorem dX7_keep_52 : decode cX7_keep 52 = .ok (.getfield 11, 3) := by decide +kernel
theorem dX7_keep_55 : decode cX7_keep 55 = .ok (.iload_n 3, 1) := by decide +kernel
theorem dX7_keep_56 : decode cX7_keep 56 = .ok (.iconst 1, 1) := by decide +kernel
theorem dX7_keep_57 : decode cX7_keep 57 = .ok (.iadd, 1) := by decide +kernel
theorem dX7_keep_58 : decode cX7_keep 58 = .ok (.aload_n 2, 1) := by decide +kernel
theorem dX7_keep_59 : decode cX7_keep 59 = .ok (.getfield 22, 3) := by decide +kernel
theorem dX7_keep_62 : decode cX7_keep 62 = .ok (.iastore, 1) := by decide +kernel
theorem dX7_keep_63 : decode cX7_keep 63 = .ok (.aload_n 2, 1) := by decide +kernel
theorem dX7_keep_64 : decode cX7_keep 64 = .ok (.getfield 25, 3) := by decide +kernel
theorem dX7_keep_67 : decode cX7_keep 67 = .ok (.iconst 0, 1) := by decide +kernel
theorem dX7_keep_68 : decode cX7_keep 68 = .ok (.aload_n 0, 1) := by decide +kernel
theorem dX7_keep_69 : decode cX7_keep 69 = .ok (.getfield 11, 3) := by decide +kernel
theorem dX7_keep_72 : decode cX7_keep 72 = .ok (.iload_n 3, 1) := by decide +kernel
theorem dX7_keep_73 : decode cX7_keep 73 = .ok (.iconst 2, 1) := by decide +kernel
theorem dX7_keep_74 : decode cX7_keep 74 = .ok (.iadd, 1) := by decide +kernel
theorem dX7_keep_75 : decode cX7_keep 75 = .ok (.bipush 10, 2) := by decide +kernel
theorem dX7_keep_77 : decode cX7_keep 77 = .ok (.invokestatic 28, 3) := by decide +kernel
theorem dX7_keep_80 : decode cX7_keep 80 = .ok (.aload_n 2, 1) := by decide +kernel
theorem dX7_keep_81 : decode cX7_keep 81 = .ok (.getfield 34, 3) := by decide +kernel
theorem dX7_keep_84 : decode cX7_keep 84 = .ok (.iconst 0, 1) := by decide +kernel
theorem dX7_keep_85 : decode cX7_keep 85 = .ok (.aload_n 0, 1) := by decide +kernel
theorem dX7_keep_86 : decode cX7_keep 86 = .ok (.getfield 11, 3) := by decide +kernel
theorem dX7_keep_89 : decode cX7_keep 89 = .ok (.iload_n 3, 1) := by decide +kernel
theorem dX7_keep_90 : decode cX7_keep 90 = .ok (.bipush 12, 2) := by decide +kernel
theorem dX7_keep_92 : decode cX7_keep 92 = .ok (.iadd, 1) := by decide +kernel
theorem dX7_keep_93 : decode cX7_keep 93 = .ok (.bipush 10, 2) := by decide +kernel
theorem dX7_keep_95 : decode cX7_keep 95 = .ok (.invokestatic 28, 3) := by decide +kernel
theorem dX7_keep_98 : decode cX7_keep 98 = .ok (.aload_n 0, 1) := by decide +kernel
theorem dX7_keep_99 : decode cX7_keep 99 = .ok (.dup, 1) := by decide +kernel
theorem dX7_keep_100 : decode cX7_keep 100 = .ok (.getfield 19, 3) := by decide +kernel
theorem dX7_keep_103 : decode cX7_keep 103 = .ok (.iconst 1, 1) := by decide +kernel
theorem dX7_keep_104 : decode cX7_keep 104 = .ok (.iadd, 1) := by decide +kernel
theorem dX7_keep_105 : decode cX7_keep 105 = .ok (.putfield 19, 3) := by decide +kernel
theorem dX7_keep_108 : decode cX7_keep 108 = .ok (.return_, 1) := by decide +kernel
theorem dX7_takeLatest_0 : decode cX7_takeLatest 0 = .ok (.aload_n 0, 1) := by decide +kernel
theorem dX7_takeLatest_1 : decode cX7_takeLatest 1 = .ok (.dup, 1) := by decide +kernel
theorem dX7_takeLatest_2 : decode cX7_takeLatest 2 = .ok (.getfield 19, 3) := by decide +kernel
theorem dX7_takeLatest_5 : decode cX7_takeLatest 5 = .ok (.iconst 1, 1) := by decide +kernel
theorem dX7_takeLatest_6 : decode cX7_takeLatest 6 = .ok (.isub, 1) := by decide +kernel
theorem dX7_takeLatest_7 : decode cX7_takeLatest 7 = .ok (.putfield 19, 3) := by decide +kernel
theorem dX7_takeLatest_10 : decode cX7_takeLatest 10 = .ok (.aload_n 0, 1) := by decide +kernel
theorem dX7_takeLatest_11 : decode cX7_takeLatest 11 = .ok (.getfield 15, 3) := by decide +kernel
theorem dX7_takeLatest_14 : decode cX7_takeLatest 14 = .ok (.aload_n 0, 1) := by decide +kernel
theorem dX7_takeLatest_15 : decode cX7_takeLatest 15 = .ok (.getfield 19, 3) := by decide +kernel
theorem dX7_takeLatest_18 : decode cX7_takeLatest 18 = .ok (.iadd, 1) := by decide +kernel
theorem dX7_takeLatest_19 : decode cX7_takeLatest 19 = .ok (.bipush 30, 2) := by decide +kernel
theorem dX7_takeLatest_21 : decode cX7_takeLatest 21 = .ok (.irem, 1) := by decide +kernel
theorem dX7_takeLatest_22 : decode cX7_takeLatest 22 = .ok (.bipush 22, 2) := by decide +kernel
theorem dX7_takeLatest_24 : decode cX7_takeLatest 24 = .ok (.imul, 1) := by decide +kernel
theorem dX7_takeLatest_25 : decode cX7_takeLatest 25 = .ok (.istore_n 2, 1) := by decide +kernel
theorem dX7_takeLatest_26 : decode cX7_takeLatest 26 = .ok (.aload_n 0, 1) := by decide +kernel
theorem dX7_takeLatest_27 : decode cX7_takeLatest 27 = .ok (.getfield 11, 3) := by decide +kernel
theorem dX7_takeLatest_30 : decode cX7_takeLatest 30 = .ok (.iload_n 2, 1) := by decide +kernel
theorem dX7_takeLatest_31 : decode cX7_takeLatest 31 = .ok (.iconst 1, 1) := by decide +kernel
theorem dX7_takeLatest_32 : decode cX7_takeLatest 32 = .ok (.iadd, 1) := by decide +kernel
theorem dX7_takeLatest_33 : decode cX7_takeLatest 33 = .ok (.iaload, 1) := by decide +kernel
theorem dX7_takeLatest_34 : decode cX7_takeLatest 34 = .ok (.bipush 10, 2) := by decide +kernel
theorem dX7_takeLatest_36 : decode cX7_takeLatest 36 = .ok (.invokestatic 37, 3) := by decide +kernel
theorem dX7_takeLatest_39 : decode cX7_takeLatest 39 = .ok (.istore_n 3, 1) := by decide +kernel
theorem dX7_takeLatest_40 : decode cX7_takeLatest 40 = .ok (.aload_n 0, 1) := by decide +kernel
theorem dX7_takeLatest_41 : decode cX7_takeLatest 41 = .ok (.getfield 11, 3) := by decide +kernel
theorem dX7_takeLatest_44 : decode cX7_takeLatest 44 = .ok (.iload_n 2, 1) := by decide +kernel
theorem dX7_takeLatest_45 : decode cX7_takeLatest 45 = .ok (.iconst 2, 1) := by decide +kernel
theorem dX7_takeLatest_46 : decode cX7_takeLatest 46 = .ok (.iadd, 1) := by decide +kernel
theorem dX7_takeLatest_47 : decode cX7_takeLatest 47 = .ok (.aload_n 1, 1) := by decide +kernel
theorem dX7_takeLatest_48 : decode cX7_takeLatest 48 = .ok (.getfield 25, 3) := by decide +kernel
theorem dX7_takeLatest_51 : decode cX7_takeLatest 51 = .ok (.iconst 0, 1) := by decide +kernel
theorem dX7_takeLatest_52 : decode cX7_takeLatest 52 = .ok (.iload_n 3, 1) := by decide +kernel
theorem dX7_takeLatest_53 : decode cX7_takeLatest 53 = .ok (.invokestatic 28, 3) := by decide +kernel
theorem dX7_takeLatest_56 : decode cX7_takeLatest 56 = .ok (.aload_n 0, 1) := by decide +kernel
theorem dX7_takeLatest_57 : decode cX7_takeLatest 57 = .ok (.getfield 11, 3) := by decide +kernel
theorem dX7_takeLatest_60 : decode cX7_takeLatest 60 = .ok (.iload_n 2, 1) := by decide +kernel
theorem dX7_takeLatest_61 : decode cX7_takeLatest 61 = .ok (.bipush 12, 2) := by decide +kernel
theorem dX7_takeLatest_63 : decode cX7_takeLatest 63 = .ok (.iadd, 1) := by decide +kernel
theorem dX7_takeLatest_64 : decode cX7_takeLatest 64 = .ok (.aload_n 1, 1) := by decide +kernel
theorem dX7_takeLatest_65 : decode cX7_takeLatest 65 = .ok (.getfield 34, 3) := by decide +kernel
theorem dX7_takeLatest_68 : decode cX7_takeLatest 68 = .ok (.iconst 0, 1) := by decide +kernel
theorem dX7_takeLatest_69 : decode cX7_takeLatest 69 = .ok (.iload_n 3, 1) := by decide +kernel
theorem dX7_takeLatest_70 : decode cX7_takeLatest 70 = .ok (.invokestatic 28, 3) := by decide +kernel
theorem dX7_takeLatest_73 : decode cX7_takeLatest 73 = .ok (.aload_n 0, 1) := by decide +kernel
theorem dX7_takeLatest_74 : decode cX7_takeLatest 74 = .ok (.getfield 11, 3) := by decide +kernel
theorem dX7_takeLatest_77 : decode cX7_takeLatest 77 = .ok (.iload_n 2, 1) := by decide +kernel
theorem dX7_takeLatest_78 : decode cX7_takeLatest 78 = .ok (.iaload, 1) := by decide +kernel
theorem dX7_takeLatest_79 : decode cX7_takeLatest 79 = .ok (.ireturn, 1) := by decide +kernel
theorem dX7_takeAll_0 : decode cX7_takeAll 0 = .ok (.aload_n 1, 1) := by decide +kernel
theorem dX7_takeAll_1 : decode cX7_takeAll 1 = .ok (.getfield 11, 3) := by decide +kernel
theorem dX7_takeAll_4 : decode cX7_takeAll 4 = .ok (.iconst 0, 1) := by decide +kernel
theorem dX7_takeAll_5 : decode cX7_takeAll 5 = .ok (.aload_n 0, 1) := by decide +kernel
theorem dX7_takeAll_6 : decode cX7_takeAll 6 = .ok (.getfield 11, 3) := by decide +kernel
theorem dX7_takeAll_9 : decode cX7_takeAll 9 = .ok (.iconst 0, 1) := by decide +kernel
theorem dX7_takeAll_10 : decode cX7_takeAll 10 = .ok (.aload_n 0, 1) := by decide +kernel
theorem dX7_takeAll_11 : decode cX7_takeAll 11 = .ok (.getfield 11, 3) := by decide +kernel
theorem dX7_takeAll_14 : decode cX7_takeAll 14 = .ok (.arraylength, 1) := by decide +kernel
theorem dX7_takeAll_15 : decode cX7_takeAll 15 = .ok (.invokestatic 28, 3) := by decide +kernel
theorem dX7_takeAll_18 : decode cX7_takeAll 18 = .ok (.aload_n 0, 1) := by decide +kernel
theorem dX7_takeAll_19 : decode cX7_takeAll 19 = .ok (.aload_n 1, 1) := by decide +kernel
theorem dX7_takeAll_20 : decode cX7_takeAll 20 = .ok (.getfield 15, 3) := by decide +kernel
theorem dX7_takeAll_23 : decode cX7_takeAll 23 = .ok (.putfield 15, 3) := by decide +kernel
theorem dX7_takeAll_26 : decode cX7_takeAll 26 = .ok (.aload_n 0, 1) := by decide +kernel
theorem dX7_takeAll_27 : decode cX7_takeAll 27 = .ok (.aload_n 1, 1) := by decide +kernel
theorem dX7_takeAll_28 : decode cX7_takeAll 28 = .ok (.getfield 19, 3) := by decide +kernel
theorem dX7_takeAll_31 : decode cX7_takeAll 31 = .ok (.putfield 19, 3) := by decide +kernel
theorem dX7_takeAll_34 : decode cX7_takeAll 34 = .ok (.return_, 1) := by decide +kernel
theorem dX8_init_0 : decode cX8_init 0 = .ok (.aload_n 0, 1) := by decide +kernel
theorem dX8_init_1 : decode cX8_init 1 = .ok (.invokespecial 3, 3) := by decide +kernel
theorem dX8_init_4 : decode cX8_init 4 = .ok (.aload_n 0, 1) := by decide +kernel
theorem dX8_init_5 : decode cX8_init 5 = .ok (.bipush 12, 2) := by decide +kernel
theorem dX8_init_7 : decode cX8_init 7 = .ok (.newarray .int, 2) := by decide +kernel
theorem dX8_init_9 : decode cX8_init 9 = .ok (.putfield 9, 3) := by decide +kernel
theorem dX8_init_12 : decode cX8_init 12 = .ok (.aload_n 0, 1) := by decide +kernel
theorem dX8_init_13 : decode cX8_init 13 = .ok (.bipush 12, 2) := by decide +kernel
theorem dX8_init_15 : decode cX8_init 15 = .ok (.newarray .int, 2) := by decide +kernel
theorem dX8_init_17 : decode cX8_init 17 = .ok (.putfield 15, 3) := by decide +kernel
theorem dX8_init_20 : decode cX8_init 20 = .ok (.aload_n 0, 1) := by decide +kernel
theorem dX8_init_21 : decode cX8_init 21 = .ok (.bipush 12, 2) := by decide +kernel
theorem dX8_init_23 : decode cX8_init 23 = .ok (.newarray .int, 2) := by decide +kernel
theorem dX8_init_25 : decode cX8_init 25 = .ok (.putfield 18, 3) := by decide +kernel
theorem dX8_init_28 : decode cX8_init 28 = .ok (.aload_n 0, 1) := by decide +kernel
theorem dX8_init_29 : decode cX8_init 29 = .ok (.bipush 12, 2) := by decide +kernel
theorem dX8_init_31 : decode cX8_init 31 = .ok (.newarray .int, 2) := by decide +kernel
theorem dX8_init_33 : decode cX8_init 33 = .ok (.putfield 21, 3) := by decide +kernel
theorem dX8_init_36 : decode cX8_init 36 = .ok (.aload_n 0, 1) := by decide +kernel
theorem dX8_init_37 : decode cX8_init 37 = .ok (.bipush 12, 2) := by decide +kernel
theorem dX8_init_39 : decode cX8_init 39 = .ok (.newarray .int, 2) := by decide +kernel
theorem dX8_init_41 : decode cX8_init 41 = .ok (.putfield 24, 3) := by decide +kernel
theorem dX8_init_44 : decode cX8_init 44 = .ok (.aload_n 0, 1) := by decide +kernel
theorem dX8_init_45 : decode cX8_init 45 = .ok (.iconst 0, 1) := by decide +kernel
theorem dX8_init_46 : decode cX8_init 46 = .ok (.putfield 27, 3) := by decide +kernel
theorem dX8_init_49 : decode cX8_init 49 = .ok (.return_, 1) := by decide +kernel
theorem dX8_has_0 : decode cX8_has 0 = .ok (.iload_n 1, 1) := by decide +kernel
theorem dX8_has_1 : decode cX8_has 1 = .ok (.ifCond .lt 21, 3) := by decide +kernel
theorem dX8_has_4 : decode cX8_has 4 = .ok (.iload_n 1, 1) := by decide +kernel
theorem dX8_has_5 : decode cX8_has 5 = .ok (.aload_n 0, 1) := by decide +kernel
theorem dX8_has_6 : decode cX8_has 6 = .ok (.getfield 27, 3) := by decide +kernel
theorem dX8_has_9 : decode cX8_has 9 = .ok (.if_icmp .ge 13, 3) := by decide +kernel
theorem dX8_has_12 : decode cX8_has 12 = .ok (.iload_n 1, 1) := by decide +kernel
theorem dX8_has_13 : decode cX8_has 13 = .ok (.bipush 12, 2) := by decide +kernel
theorem dX8_has_15 : decode cX8_has 15 = .ok (.if_icmp .ge 7, 3) := by decide +kernel
theorem dX8_has_18 : decode cX8_has 18 = .ok (.iconst 1, 1) := by decide +kernel
theorem dX8_has_19 : decode cX8_has 19 = .ok (.goto 4, 3) := by decide +kernel
theorem dX8_has_22 : decode cX8_has 22 = .ok (.iconst 0, 1) := by decide +kernel
theorem dX8_has_23 : decode cX8_has 23 = .ok (.ireturn, 1) := by decide +kernel
theorem dX8_all_0 : decode cX8_all 0 = .ok (.iconst 1, 1) := by decide +kernel
theorem dX8_all_1 : decode cX8_all 1 = .ok (.aload_n 0, 1) := by decide +kernel
theorem dX8_all_2 : decode cX8_all 2 = .ok (.getfield 27, 3) := by decide +kernel
theorem dX8_all_5 : decode cX8_all 5 = .ok (.ishl, 1) := by decide +kernel
theorem dX8_all_6 : decode cX8_all 6 = .ok (.iconst 1, 1) := by decide +kernel
theorem dX8_all_7 : decode cX8_all 7 = .ok (.isub, 1) := by decide +kernel
theorem dX8_all_8 : decode cX8_all 8 = .ok (.ireturn, 1) := by decide +kernel
theorem dX8_areTold_0 : decode cX8_areTold 0 = .ok (.iload_n 1, 1) := by decide +kernel
theorem dX8_areTold_1 : decode cX8_areTold 1 = .ok (.ifCond .lt 15, 3) := by decide +kernel
theorem dX8_areTold_4 : decode cX8_areTold 4 = .ok (.iload_n 1, 1) := by decide +kernel
theorem dX8_areTold_5 : decode cX8_areTold 5 = .ok (.aload_n 0, 1) := by decide +kernel
theorem dX8_areTold_6 : decode cX8_areTold 6 = .ok (.invokevirtual 31, 3) := by decide +kernel
theorem dX8_areTold_9 : decode cX8_areTold 9 = .ok (.if_icmp .gt 7, 3) := by decide +kernel
theorem dX8_areTold_12 : decode cX8_areTold 12 = .ok (.iconst 1, 1) := by decide +kernel
theorem dX8_areTold_13 : decode cX8_areTold 13 = .ok (.goto 4, 3) := by decide +kernel
theorem dX8_areTold_16 : decode cX8_areTold 16 = .ok (.iconst 0, 1) := by decide +kernel
theorem dX8_areTold_17 : decode cX8_areTold 17 = .ok (.ireturn, 1) := by decide +kernel
theorem dX8_isBorne_0 : decode cX8_isBorne 0 = .ok (.aload_n 0, 1) := by decide +kernel
theorem dX8_isBorne_1 : decode cX8_isBorne 1 = .ok (.getfield 21, 3) := by decide +kernel
theorem dX8_isBorne_4 : decode cX8_isBorne 4 = .ok (.iload_n 1, 1) := by decide +kernel
theorem dX8_isBorne_5 : decode cX8_isBorne 5 = .ok (.iaload, 1) := by decide +kernel
theorem dX8_isBorne_6 : decode cX8_isBorne 6 = .ok (.iload_n 2, 1) := by decide +kernel
theorem dX8_isBorne_7 : decode cX8_isBorne 7 = .ok (.iand, 1) := by decide +kernel
theorem dX8_isBorne_8 : decode cX8_isBorne 8 = .ok (.invokestatic 35, 3) := by decide +kernel
theorem dX8_isBorne_11 : decode cX8_isBorne 11 = .ok (.aload_n 0, 1) := by decide +kernel
theorem dX8_isBorne_12 : decode cX8_isBorne 12 = .ok (.getfield 24, 3) := by decide +kernel
theorem dX8_isBorne_15 : decode cX8_isBorne 15 = .ok (.iload_n 1, 1) := by decide +kernel
theorem dX8_isBorne_16 : decode cX8_isBorne 16 = .ok (.iaload, 1) := by decide +kernel
theorem dX8_isBorne_17 : decode cX8_isBorne 17 = .ok (.if_icmp .lt 7, 3) := by decide +kernel
theorem dX8_isBorne_20 : decode cX8_isBorne 20 = .ok (.iconst 1, 1) := by decide +kernel
theorem dX8_isBorne_21 : decode cX8_isBorne 21 = .ok (.goto 4, 3) := by decide +kernel
theorem dX8_isBorne_24 : decode cX8_isBorne 24 = .ok (.iconst 0, 1) := by decide +kernel
theorem dX8_isBorne_25 : decode cX8_isBorne 25 = .ok (.ireturn, 1) := by decide +kernel
theorem dX8_isStanding_0 : decode cX8_isStanding 0 = .ok (.iconst 0, 1) := by decide +kernel
theorem dX8_isStanding_1 : decode cX8_isStanding 1 = .ok (.istore_n 2, 1) := by decide +kernel
theorem dX8_isStanding_2 : decode cX8_isStanding 2 = .ok (.iload_n 2, 1) := by decide +kernel
theorem dX8_isStanding_3 : decode cX8_isStanding 3 = .ok (.aload_n 0, 1) := by decide +kernel
theorem dX8_isStanding_4 : decode cX8_isStanding 4 = .ok (.getfield 27, 3) := by decide +kernel
theorem dX8_isStanding_7 : decode cX8_isStanding 7 = .ok (.if_icmp .ge 29, 3) := by decide +kernel
theorem dX8_isStanding_10 : decode cX8_isStanding 10 = .ok (.iload_n 1, 1) := by decide +kernel
theorem dX8_isStanding_11 : decode cX8_isStanding 11 = .ok (.iload_n 2, 1) := by decide +kernel
theorem dX8_isStanding_12 : decode cX8_isStanding 12 = .ok (.ishr, 1) := by decide +kernel
theorem dX8_isStanding_13 : decode cX8_isStanding 13 = .ok (.iconst 1, 1) := by decide +kernel
theorem dX8_isStanding_14 : decode cX8_isStanding 14 = .ok (.iand, 1) := by decide +kernel
theorem dX8_isStanding_15 : decode cX8_isStanding 15 = .ok (.iconst 1, 1) := by decide +kernel
theorem dX8_isStanding_16 : decode cX8_isStanding 16 = .ok (.if_icmp .ne 14, 3) := by decide +kernel
theorem dX8_isStanding_19 : decode cX8_isStanding 19 = .ok (.aload_n 0, 1) := by decide +kernel
theorem dX8_isStanding_20 : decode cX8_isStanding 20 = .ok (.iload_n 2, 1) := by decide +kernel
theorem dX8_isStanding_21 : decode cX8_isStanding 21 = .ok (.iload_n 1, 1) := by decide +kernel
theorem dX8_isStanding_22 : decode cX8_isStanding 22 = .ok (.invokevirtual 41, 3) := by decide +kernel
theorem dX8_isStanding_25 : decode cX8_isStanding 25 = .ok (.ifCond .ne 5, 3) := by decide +kernel
theorem dX8_isStanding_28 : decode cX8_isStanding 28 = .ok (.iconst 0, 1) := by decide +kernel
theorem dX8_isStanding_29 : decode cX8_isStanding 29 = .ok (.ireturn, 1) := by decide +kernel
theorem dX8_isStanding_30 : decode cX8_isStanding 30 = .ok (.iinc 2 1, 3) := by decide +kernel
theorem dX8_isStanding_33 : decode cX8_isStanding 33 = .ok (.goto (-31), 3) := by decide +kernel
theorem dX8_isStanding_36 : decode cX8_isStanding 36 = .ok (.iconst 1, 1) := by decide +kernel
theorem dX8_isStanding_37 : decode cX8_isStanding 37 = .ok (.ireturn, 1) := by decide +kernel
theorem dX8_topOf_0 : decode cX8_topOf 0 = .ok (.iconst (-1), 1) := by decide +kernel
theorem dX8_topOf_1 : decode cX8_topOf 1 = .ok (.istore_n 2, 1) := by decide +kernel
theorem dX8_topOf_2 : decode cX8_topOf 2 = .ok (.iconst 0, 1) := by decide +kernel
theorem dX8_topOf_3 : decode cX8_topOf 3 = .ok (.istore_n 3, 1) := by decide +kernel
theorem dX8_topOf_4 : decode cX8_topOf 4 = .ok (.iload_n 3, 1) := by decide +kernel
theorem dX8_topOf_5 : decode cX8_topOf 5 = .ok (.aload_n 0, 1) := by decide +kernel
theorem dX8_topOf_6 : decode cX8_topOf 6 = .ok (.getfield 27, 3) := by decide +kernel
theorem dX8_topOf_9 : decode cX8_topOf 9 = .ok (.if_icmp .ge 29, 3) := by decide +kernel
theorem dX8_topOf_12 : decode cX8_topOf 12 = .ok (.iload_n 1, 1) := by decide +kernel
theorem dX8_topOf_13 : decode cX8_topOf 13 = .ok (.iload_n 3, 1) := by decide +kernel
theorem dX8_topOf_14 : decode cX8_topOf 14 = .ok (.ishr, 1) := by decide +kernel
theorem dX8_topOf_15 : decode cX8_topOf 15 = .ok (.iconst 1, 1) := by decide +kernel
theorem dX8_topOf_16 : decode cX8_topOf 16 = .ok (.iand, 1) := by decide +kernel
theorem dX8_topOf_17 : decode cX8_topOf 17 = .ok (.iconst 1, 1) := by decide +kernel
theorem dX8_topOf_18 : decode cX8_topOf 18 = .ok (.if_icmp .ne 14, 3) := by decide +kernel
theorem dX8_topOf_21 : decode cX8_topOf 21 = .ok (.iload_n 2, 1) := by decide +kernel
theorem dX8_topOf_22 : decode cX8_topOf 22 = .ok (.aload_n 0, 1) := by decide +kernel
theorem dX8_topOf_23 : decode cX8_topOf 23 = .ok (.getfield 15, 3) := by decide +kernel
theorem dX8_topOf_26 : decode cX8_topOf 26 = .ok (.iload_n 3, 1) := by decide +kernel
theorem dX8_topOf_27 : decode cX8_topOf 27 = .ok (.iaload, 1) := by decide +kernel
theorem dX8_topOf_28 : decode cX8_topOf 28 = .ok (.invokestatic 45, 3) := by decide +kernel
theorem dX8_topOf_31 : decode cX8_topOf 31 = .ok (.istore_n 2, 1) := by decide +kernel
theorem dX8_topOf_32 : decode cX8_topOf 32 = .ok (.iinc 3 1, 3) := by decide +kernel
theorem dX8_topOf_35 : decode cX8_topOf 35 = .ok (.goto (-31), 3) := by decide +kernel
theorem dX8_topOf_38 : decode cX8_topOf 38 = .ok (.iload_n 2, 1) := by decide +kernel
theorem dX8_topOf_39 : decode cX8_topOf 39 = .ok (.ireturn, 1) := by decide +kernel
theorem dX8_takeAll_0 : decode cX8_takeAll 0 = .ok (.aload_n 1, 1) := by decide +kernel
theorem dX8_takeAll_1 : decode cX8_takeAll 1 = .ok (.getfield 9, 3) := by decide +kernel
theorem dX8_takeAll_4 : decode cX8_takeAll 4 = .ok (.iconst 0, 1) := by decide +kernel
theorem dX8_takeAll_5 : decode cX8_takeAll 5 = .ok (.aload_n 0, 1) := by decide +kernel
theorem dX8_takeAll_6 : decode cX8_takeAll 6 = .ok (.getfield 9, 3) := by decide +kernel
theorem dX8_takeAll_9 : decode cX8_takeAll 9 = .ok (.iconst 0, 1) := by decide +kernel
theorem dX8_takeAll_10 : decode cX8_takeAll 10 = .ok (.bipush 12, 2) := by decide +kernel
theorem dX8_takeAll_12 : decode cX8_takeAll 12 = .ok (.invokestatic 51, 3) := by decide +kernel
theorem dX8_takeAll_15 : decode cX8_takeAll 15 = .ok (.aload_n 1, 1) := by decide +kernel
theorem dX8_takeAll_16 : decode cX8_takeAll 16 = .ok (.getfield 15, 3) := by decide +kernel
theorem dX8_takeAll_19 : decode cX8_takeAll 19 = .ok (.iconst 0, 1) := by decide +kernel
theorem dX8_takeAll_20 : decode cX8_takeAll 20 = .ok (.aload_n 0, 1) := by decide +kernel
theorem dX8_takeAll_21 : decode cX8_takeAll 21 = .ok (.getfield 15, 3) := by decide +kernel
theorem dX8_takeAll_24 : decode cX8_takeAll 24 = .ok (.iconst 0, 1) := by decide +kernel
theorem dX8_takeAll_25 : decode cX8_takeAll 25 = .ok (.bipush 12, 2) := by decide +kernel
theorem dX8_takeAll_27 : decode cX8_takeAll 27 = .ok (.invokestatic 51, 3) := by decide +kernel
theorem dX8_takeAll_30 : decode cX8_takeAll 30 = .ok (.aload_n 1, 1) := by decide +kernel
theorem dX8_takeAll_31 : decode cX8_takeAll 31 = .ok (.getfield 18, 3) := by decide +kernel
theorem dX8_takeAll_34 : decode cX8_takeAll 34 = .ok (.iconst 0, 1) := by decide +kernel
theorem dX8_takeAll_35 : decode cX8_takeAll 35 = .ok (.aload_n 0, 1) := by decide +kernel
theorem dX8_takeAll_36 : decode cX8_takeAll 36 = .ok (.getfield 18, 3) := by decide +kernel
theorem dX8_takeAll_39 : decode cX8_takeAll 39 = .ok (.iconst 0, 1) := by decide +kernel
theorem dX8_takeAll_40 : decode cX8_takeAll 40 = .ok (.bipush 12, 2) := by decide +kernel
theorem dX8_takeAll_42 : decode cX8_takeAll 42 = .ok (.invokestatic 51, 3) := by decide +kernel
theorem dX8_takeAll_45 : decode cX8_takeAll 45 = .ok (.aload_n 1, 1) := by decide +kernel
theorem dX8_takeAll_46 : decode cX8_takeAll 46 = .ok (.getfield 21, 3) := by decide +kernel
theorem dX8_takeAll_49 : decode cX8_takeAll 49 = .ok (.iconst 0, 1) := by decide +kernel
theorem dX8_takeAll_50 : decode cX8_takeAll 50 = .ok (.aload_n 0, 1) := by decide +kernel
theorem dX8_takeAll_51 : decode cX8_takeAll 51 = .ok (.getfield 21, 3) := by decide +kernel
theorem dX8_takeAll_54 : decode cX8_takeAll 54 = .ok (.iconst 0, 1) := by decide +kernel
theorem dX8_takeAll_55 : decode cX8_takeAll 55 = .ok (.bipush 12, 2) := by decide +kernel
theorem dX8_takeAll_57 : decode cX8_takeAll 57 = .ok (.invokestatic 51, 3) := by decide +kernel
theorem dX8_takeAll_60 : decode cX8_takeAll 60 = .ok (.aload_n 1, 1) := by decide +kernel
theorem dX8_takeAll_61 : decode cX8_takeAll 61 = .ok (.getfield 24, 3) := by decide +kernel
theorem dX8_takeAll_64 : decode cX8_takeAll 64 = .ok (.iconst 0, 1) := by decide +kernel
theorem dX8_takeAll_65 : decode cX8_takeAll 65 = .ok (.aload_n 0, 1) := by decide +kernel
theorem dX8_takeAll_66 : decode cX8_takeAll 66 = .ok (.getfield 24, 3) := by decide +kernel
theorem dX8_takeAll_69 : decode cX8_takeAll 69 = .ok (.iconst 0, 1) := by decide +kernel
theorem dX8_takeAll_70 : decode cX8_takeAll 70 = .ok (.bipush 12, 2) := by decide +kernel
theorem dX8_takeAll_72 : decode cX8_takeAll 72 = .ok (.invokestatic 51, 3) := by decide +kernel
theorem dX8_takeAll_75 : decode cX8_takeAll 75 = .ok (.aload_n 0, 1) := by decide +kernel
theorem dX8_takeAll_76 : decode cX8_takeAll 76 = .ok (.aload_n 1, 1) := by decide +kernel
theorem dX8_takeAll_77 : decode cX8_takeAll 77 = .ok (.getfield 27, 3) := by decide +kernel
theorem dX8_takeAll_80 : decode cX8_takeAll 80 = .ok (.putfield 27, 3) := by decide +kernel
theorem dX8_takeAll_83 : decode cX8_takeAll 83 = .ok (.return_, 1) := by decide +kernel
theorem dX9_init_0 : decode cX9_init 0 = .ok (.aload_n 0, 1) := by decide +kernel
theorem dX9_init_1 : decode cX9_init 1 = .ok (.invokespecial 3, 3) := by decide +kernel
theorem dX9_init_4 : decode cX9_init 4 = .ok (.aload_n 0, 1) := by decide +kernel
theorem dX9_init_5 : decode cX9_init 5 = .ok (.sipush 300, 3) := by decide +kernel
theorem dX9_init_8 : decode cX9_init 8 = .ok (.newarray .byte, 2) := by decide +kernel
theorem dX9_init_10 : decode cX9_init 10 = .ok (.putfield 9, 3) := by decide +kernel
theorem dX9_init_13 : decode cX9_init 13 = .ok (.aload_n 0, 1) := by decide +kernel
theorem dX9_init_14 : decode cX9_init 14 = .ok (.sipush 301, 3) := by decide +kernel
theorem dX9_init_17 : decode cX9_init 17 = .ok (.newarray .int, 2) := by decide +kernel
theorem dX9_init_19 : decode cX9_init 19 = .ok (.putfield 15, 3) := by decide +kernel
theorem dX9_init_22 : decode cX9_init 22 = .ok (.aload_n 0, 1) := by decide +kernel
theorem dX9_init_23 : decode cX9_init 23 = .ok (.sipush 301, 3) := by decide +kernel
theorem dX9_init_26 : decode cX9_init 26 = .ok (.newarray .int, 2) := by decide +kernel
theorem dX9_init_28 : decode cX9_init 28 = .ok (.putfield 19, 3) := by decide +kernel
theorem dX9_init_31 : decode cX9_init 31 = .ok (.aload_n 0, 1) := by decide +kernel
theorem dX9_init_32 : decode cX9_init 32 = .ok (.sipush 301, 3) := by decide +kernel
theorem dX9_init_35 : decode cX9_init 35 = .ok (.newarray .int, 2) := by decide +kernel
theorem dX9_init_37 : decode cX9_init 37 = .ok (.putfield 22, 3) := by decide +kernel
theorem dX9_init_40 : decode cX9_init 40 = .ok (.aload_n 0, 1) := by decide +kernel
theorem dX9_init_41 : decode cX9_init 41 = .ok (.iconst 0, 1) := by decide +kernel
theorem dX9_init_42 : decode cX9_init 42 = .ok (.putfield 25, 3) := by decide +kernel
theorem dX9_init_45 : decode cX9_init 45 = .ok (.aload_n 0, 1) := by decide +kernel
theorem dX9_init_46 : decode cX9_init 46 = .ok (.iconst 0, 1) := by decide +kernel
theorem dX9_init_47 : decode cX9_init 47 = .ok (.putfield 29, 3) := by decide +kernel
theorem dX9_init_50 : decode cX9_init 50 = .ok (.aload_n 0, 1) := by decide +kernel
theorem dX9_init_51 : decode cX9_init 51 = .ok (.iconst 0, 1) := by decide +kernel
theorem dX9_init_52 : decode cX9_init 52 = .ok (.putfield 32, 3) := by decide +kernel
theorem dX9_init_55 : decode cX9_init 55 = .ok (.aload_n 0, 1) := by decide +kernel
theorem dX9_init_56 : decode cX9_init 56 = .ok (.iconst 0, 1) := by decide +kernel
theorem dX9_init_57 : decode cX9_init 57 = .ok (.putfield 35, 3) := by decide +kernel
theorem dX9_init_60 : decode cX9_init 60 = .ok (.return_, 1) := by decide +kernel
theorem dX9_addFour_0 : decode cX9_addFour 0 = .ok (.bipush 24, 2) := by decide +kernel
theorem dX9_addFour_2 : decode cX9_addFour 2 = .ok (.istore_n 2, 1) := by decide +kernel
theorem dX9_addFour_3 : decode cX9_addFour 3 = .ok (.iload_n 2, 1) := by decide +kernel
theorem dX9_addFour_4 : decode cX9_addFour 4 = .ok (.ifCond .lt 42, 3) := by decide +kernel
theorem dX9_addFour_7 : decode cX9_addFour 7 = .ok (.aload_n 0, 1) := by decide +kernel
theorem dX9_addFour_8 : decode cX9_addFour 8 = .ok (.getfield 25, 3) := by decide +kernel
theorem dX9_addFour_11 : decode cX9_addFour 11 = .ok (.sipush 300, 3) := by decide +kernel
theorem dX9_addFour_14 : decode cX9_addFour 14 = .ok (.if_icmp .ge 32, 3) := by decide +kernel
theorem dX9_addFour_17 : decode cX9_addFour 17 = .ok (.aload_n 0, 1) := by decide +kernel
theorem dX9_addFour_18 : decode cX9_addFour 18 = .ok (.getfield 9, 3) := by decide +kernel
theorem dX9_addFour_21 : decode cX9_addFour 21 = .ok (.aload_n 0, 1) := by decide +kernel
theorem dX9_addFour_22 : decode cX9_addFour 22 = .ok (.getfield 25, 3) := by decide +kernel
theorem dX9_addFour_25 : decode cX9_addFour 25 = .ok (.iload_n 1, 1) := by decide +kernel
theorem dX9_addFour_26 : decode cX9_addFour 26 = .ok (.iload_n 2, 1) := by decide +kernel
theorem dX9_addFour_27 : decode cX9_addFour 27 = .ok (.iushr, 1) := by decide +kernel
theorem dX9_addFour_28 : decode cX9_addFour 28 = .ok (.i2b, 1) := by decide +kernel
theorem dX9_addFour_29 : decode cX9_addFour 29 = .ok (.bastore, 1) := by decide +kernel
theorem dX9_addFour_30 : decode cX9_addFour 30 = .ok (.aload_n 0, 1) := by decide +kernel
theorem dX9_addFour_31 : decode cX9_addFour 31 = .ok (.dup, 1) := by decide +kernel
theorem dX9_addFour_32 : decode cX9_addFour 32 = .ok (.getfield 25, 3) := by decide +kernel
theorem dX9_addFour_35 : decode cX9_addFour 35 = .ok (.iconst 1, 1) := by decide +kernel
theorem dX9_addFour_36 : decode cX9_addFour 36 = .ok (.iadd, 1) := by decide +kernel
theorem dX9_addFour_37 : decode cX9_addFour 37 = .ok (.putfield 25, 3) := by decide +kernel
theorem dX9_addFour_40 : decode cX9_addFour 40 = .ok (.iinc 2 (-8), 3) := by decide +kernel
theorem dX9_addFour_43 : decode cX9_addFour 43 = .ok (.goto (-40), 3) := by decide +kernel
theorem dX9_addFour_46 : decode cX9_addFour 46 = .ok (.return_, 1) := by decide +kernel
theorem dX9_kind_0 : decode cX9_kind 0 = .ok (.aload_n 0, 1) := by decide +kernel
theorem dX9_kind_1 : decode cX9_kind 1 = .ok (.getfield 15, 3) := by decide +kernel
theorem dX9_kind_4 : decode cX9_kind 4 = .ok (.aload_n 0, 1) := by decide +kernel
theorem dX9_kind_5 : decode cX9_kind 5 = .ok (.getfield 35, 3) := by decide +kernel
theorem dX9_kind_8 : decode cX9_kind 8 = .ok (.iaload, 1) := by decide +kernel
theorem dX9_kind_9 : decode cX9_kind 9 = .ok (.ireturn, 1) := by decide +kernel
theorem dX9_start_0 : decode cX9_start 0 = .ok (.aload_n 0, 1) := by decide +kernel
theorem dX9_start_1 : decode cX9_start 1 = .ok (.getfield 19, 3) := by decide +kernel
theorem dX9_start_4 : decode cX9_start 4 = .ok (.aload_n 0, 1) := by decide +kernel
theorem dX9_start_5 : decode cX9_start 5 = .ok (.getfield 35, 3) := by decide +kernel
theorem dX9_start_8 : decode cX9_start 8 = .ok (.iaload, 1) := by decide +kernel
theorem dX9_start_9 : decode cX9_start 9 = .ok (.ireturn, 1) := by decide +kernel
theorem dX9_number_0 : decode cX9_number 0 = .ok (.aload_n 0, 1) := by decide +kernel
theorem dX9_number_1 : decode cX9_number 1 = .ok (.getfield 22, 3) := by decide +kernel
theorem dX9_number_4 : decode cX9_number 4 = .ok (.aload_n 0, 1) := by decide +kernel
theorem dX9_number_5 : decode cX9_number 5 = .ok (.getfield 35, 3) := by decide +kernel
theorem dX9_number_8 : decode cX9_number 8 = .ok (.iaload, 1) := by decide +kernel
theorem dX9_number_9 : decode cX9_number 9 = .ok (.ireturn, 1) := by decide +kernel
theorem dX9_advance_0 : decode cX9_advance 0 = .ok (.aload_n 0, 1) := by decide +kernel
theorem dX9_advance_1 : decode cX9_advance 1 = .ok (.getfield 35, 3) := by decide +kernel
theorem dX9_advance_4 : decode cX9_advance 4 = .ok (.aload_n 0, 1) := by decide +kernel
theorem dX9_advance_5 : decode cX9_advance 5 = .ok (.getfield 32, 3) := by decide +kernel
theorem dX9_advance_8 : decode cX9_advance 8 = .ok (.iconst 1, 1) := by decide +kernel
theorem dX9_advance_9 : decode cX9_advance 9 = .ok (.isub, 1) := by decide +kernel
theorem dX9_advance_10 : decode cX9_advance 10 = .ok (.if_icmp .ge 13, 3) := by decide +kernel
theorem dX9_advance_13 : decode cX9_advance 13 = .ok (.aload_n 0, 1) := by decide +kernel
theorem dX9_advance_14 : decode cX9_advance 14 = .ok (.dup, 1) := by decide +kernel
theorem dX9_advance_15 : decode cX9_advance 15 = .ok (.getfield 35, 3) := by decide +kernel
theorem dX9_advance_18 : decode cX9_advance 18 = .ok (.iconst 1, 1) := by decide +kernel
theorem dX9_advance_19 : decode cX9_advance 19 = .ok (.iadd, 1) := by decide +kernel
theorem dX9_advance_20 : decode cX9_advance 20 = .ok (.putfield 35, 3) := by decide +kernel
theorem dX9_advance_23 : decode cX9_advance 23 = .ok (.return_, 1) := by decide +kernel
theorem dX9_split_0 : decode cX9_split 0 = .ok (.aload_n 0, 1) := by decide +kernel
theorem dX9_split_1 : decode cX9_split 1 = .ok (.iconst 0, 1) := by decide +kernel
theorem dX9_split_2 : decode cX9_split 2 = .ok (.putfield 29, 3) := by decide +kernel
theorem dX9_split_5 : decode cX9_split 5 = .ok (.aload_n 0, 1) := by decide +kernel
theorem dX9_split_6 : decode cX9_split 6 = .ok (.iconst 0, 1) := by decide +kernel
theorem dX9_split_7 : decode cX9_split 7 = .ok (.putfield 32, 3) := by decide +kernel
theorem dX9_split_10 : decode cX9_split 10 = .ok (.aload_n 0, 1) := by decide +kernel
theorem dX9_split_11 : decode cX9_split 11 = .ok (.iconst 0, 1) := by decide +kernel
theorem dX9_split_12 : decode cX9_split 12 = .ok (.putfield 35, 3) := by decide +kernel
theorem dX9_split_15 : decode cX9_split 15 = .ok (.aload_n 0, 1) := by decide +kernel
theorem dX9_split_16 : decode cX9_split 16 = .ok (.invokevirtual 38, 3) := by decide +kernel
theorem dX9_split_19 : decode cX9_split 19 = .ok (.aload_n 0, 1) := by decide +kernel
theorem dX9_split_20 : decode cX9_split 20 = .ok (.getfield 29, 3) := by decide +kernel
theorem dX9_split_23 : decode cX9_split 23 = .ok (.aload_n 0, 1) := by decide +kernel
theorem dX9_split_24 : decode cX9_split 24 = .ok (.getfield 25, 3) := by decide +kernel
theorem dX9_split_27 : decode cX9_split 27 = .ok (.if_icmp .ge 73, 3) := by decide +kernel
theorem dX9_split_30 : decode cX9_split 30 = .ok (.aload_n 0, 1) := by decide +kernel
theorem dX9_split_31 : decode cX9_split 31 = .ok (.getfield 32, 3) := by decide +kernel
theorem dX9_split_34 : decode cX9_split 34 = .ok (.sipush 300, 3) := by decide +kernel
theorem dX9_split_37 : decode cX9_split 37 = .ok (.if_icmp .ge 63, 3) := by decide +kernel
theorem dX9_split_40 : decode cX9_split 40 = .ok (.aload_n 0, 1) := by decide +kernel
theorem dX9_split_41 : decode cX9_split 41 = .ok (.getfield 29, 3) := by decide +kernel
theorem dX9_split_44 : decode cX9_split 44 = .ok (.istore_n 1, 1) := by decide +kernel
theorem dX9_split_45 : decode cX9_split 45 = .ok (.aload_n 0, 1) := by decide +kernel
theorem dX9_split_46 : decode cX9_split 46 = .ok (.getfield 22, 3) := by decide +kernel
theorem dX9_split_49 : decode cX9_split 49 = .ok (.aload_n 0, 1) := by decide +kernel
theorem dX9_split_50 : decode cX9_split 50 = .ok (.getfield 32, 3) := by decide +kernel
theorem dX9_split_53 : decode cX9_split 53 = .ok (.iconst 0, 1) := by decide +kernel
theorem dX9_split_54 : decode cX9_split 54 = .ok (.iastore, 1) := by decide +kernel
theorem dX9_split_55 : decode cX9_split 55 = .ok (.aload_n 0, 1) := by decide +kernel
theorem dX9_split_56 : decode cX9_split 56 = .ok (.getfield 15, 3) := by decide +kernel
theorem dX9_split_59 : decode cX9_split 59 = .ok (.aload_n 0, 1) := by decide +kernel
theorem dX9_split_60 : decode cX9_split 60 = .ok (.getfield 32, 3) := by decide +kernel
theorem dX9_split_63 : decode cX9_split 63 = .ok (.aload_n 0, 1) := by decide +kernel
theorem dX9_split_64 : decode cX9_split 64 = .ok (.aload_n 0, 1) := by decide +kernel
theorem dX9_split_65 : decode cX9_split 65 = .ok (.iload_n 1, 1) := by decide +kernel
theorem dX9_split_66 : decode cX9_split 66 = .ok (.invokevirtual 41, 3) := by decide +kernel
theorem dX9_split_69 : decode cX9_split 69 = .ok (.invokevirtual 45, 3) := by decide +kernel
theorem dX9_split_72 : decode cX9_split 72 = .ok (.iastore, 1) := by decide +kernel
theorem dX9_split_73 : decode cX9_split 73 = .ok (.aload_n 0, 1) := by decide +kernel
theorem dX9_split_74 : decode cX9_split 74 = .ok (.getfield 19, 3) := by decide +kernel
theorem dX9_split_77 : decode cX9_split 77 = .ok (.aload_n 0, 1) := by decide +kernel
theorem dX9_split_78 : decode cX9_split 78 = .ok (.getfield 32, 3) := by decide +kernel
theorem dX9_split_81 : decode cX9_split 81 = .ok (.iload_n 1, 1) := by decide +kernel
theorem dX9_split_82 : decode cX9_split 82 = .ok (.iastore, 1) := by decide +kernel
theorem dX9_split_83 : decode cX9_split 83 = .ok (.aload_n 0, 1) := by decide +kernel
theorem dX9_split_84 : decode cX9_split 84 = .ok (.dup, 1) := by decide +kernel
theorem dX9_split_85 : decode cX9_split 85 = .ok (.getfield 32, 3) := by decide +kernel
theorem dX9_split_88 : decode cX9_split 88 = .ok (.iconst 1, 1) := by decide +kernel
theorem dX9_split_89 : decode cX9_split 89 = .ok (.iadd, 1) := by decide +kernel
theorem dX9_split_90 : decode cX9_split 90 = .ok (.putfield 32, 3) := by decide +kernel
theorem dX9_split_93 : decode cX9_split 93 = .ok (.aload_n 0, 1) := by decide +kernel
theorem dX9_split_94 : decode cX9_split 94 = .ok (.invokevirtual 38, 3) := by decide +kernel
theorem dX9_split_97 : decode cX9_split 97 = .ok (.goto (-78), 3) := by decide +kernel
theorem dX9_split_100 : decode cX9_split 100 = .ok (.aload_n 0, 1) := by decide +kernel
theorem dX9_split_101 : decode cX9_split 101 = .ok (.getfield 15, 3) := by decide +kernel
theorem dX9_split_104 : decode cX9_split 104 = .ok (.aload_n 0, 1) := by decide +kernel
theorem dX9_split_105 : decode cX9_split 105 = .ok (.getfield 32, 3) := by decide +kernel
theorem dX9_split_108 : decode cX9_split 108 = .ok (.bipush 41, 2) := by decide +kernel
theorem dX9_split_110 : decode cX9_split 110 = .ok (.iastore, 1) := by decide +kernel
theorem dX9_split_111 : decode cX9_split 111 = .ok (.aload_n 0, 1) := by decide +kernel
theorem dX9_split_112 : decode cX9_split 112 = .ok (.getfield 19, 3) := by decide +kernel
theorem dX9_split_115 : decode cX9_split 115 = .ok (.aload_n 0, 1) := by decide +kernel
theorem dX9_split_116 : decode cX9_split 116 = .ok (.getfield 32, 3) := by decide +kernel
theorem dX9_split_119 : decode cX9_split 119 = .ok (.aload_n 0, 1) := by decide +kernel
theorem dX9_split_120 : decode cX9_split 120 = .ok (.getfield 25, 3) := by decide +kernel
theorem dX9_split_123 : decode cX9_split 123 = .ok (.iastore, 1) := by decide +kernel
theorem dX9_split_124 : decode cX9_split 124 = .ok (.aload_n 0, 1) := by decide +kernel
theorem dX9_split_125 : decode cX9_split 125 = .ok (.getfield 22, 3) := by decide +kernel
theorem dX9_split_128 : decode cX9_split 128 = .ok (.aload_n 0, 1) := by decide +kernel
theorem dX9_split_129 : decode cX9_split 129 = .ok (.getfield 32, 3) := by decide +kernel
theorem dX9_split_132 : decode cX9_split 132 = .ok (.iconst 0, 1) := by decide +kernel
theorem dX9_split_133 : decode cX9_split 133 = .ok (.iastore, 1) := by decide +kernel
theorem dX9_split_134 : decode cX9_split 134 = .ok (.aload_n 0, 1) := by decide +kernel
theorem dX9_split_135 : decode cX9_split 135 = .ok (.dup, 1) := by decide +kernel
theorem dX9_split_136 : decode cX9_split 136 = .ok (.getfield 32, 3) := by decide +kernel
theorem dX9_split_139 : decode cX9_split 139 = .ok (.iconst 1, 1) := by decide +kernel
theorem dX9_split_140 : decode cX9_split 140 = .ok (.iadd, 1) := by decide +kernel
theorem dX9_split_141 : decode cX9_split 141 = .ok (.putfield 32, 3) := by decide +kernel
theorem dX9_split_144 : decode cX9_split 144 = .ok (.return_, 1) := by decide +kernel
theorem dX9_skipBlanks_0 : decode cX9_skipBlanks 0 = .ok (.aload_n 0, 1) := by decide +kernel
theorem dX9_skipBlanks_1 : decode cX9_skipBlanks 1 = .ok (.getfield 29, 3) := by decide +kernel
theorem dX9_skipBlanks_4 : decode cX9_skipBlanks 4 = .ok (.aload_n 0, 1) := by decide +kernel
theorem dX9_skipBlanks_5 : decode cX9_skipBlanks 5 = .ok (.getfield 25, 3) := by decide +kernel
theorem dX9_skipBlanks_8 : decode cX9_skipBlanks 8 = .ok (.if_icmp .ge 42, 3) := by decide +kernel
theorem dX9_skipBlanks_11 : decode cX9_skipBlanks 11 = .ok (.aload_n 0, 1) := by decide +kernel
theorem dX9_skipBlanks_12 : decode cX9_skipBlanks 12 = .ok (.aload_n 0, 1) := by decide +kernel
theorem dX9_skipBlanks_13 : decode cX9_skipBlanks 13 = .ok (.getfield 29, 3) := by decide +kernel
theorem dX9_skipBlanks_16 : decode cX9_skipBlanks 16 = .ok (.invokevirtual 41, 3) := by decide +kernel
theorem dX9_skipBlanks_19 : decode cX9_skipBlanks 19 = .ok (.bipush 32, 2) := by decide +kernel
theorem dX9_skipBlanks_21 : decode cX9_skipBlanks 21 = .ok (.if_icmp .eq 16, 3) := by decide +kernel
theorem dX9_skipBlanks_24 : decode cX9_skipBlanks 24 = .ok (.aload_n 0, 1) := by decide +kernel
theorem dX9_skipBlanks_25 : decode cX9_skipBlanks 25 = .ok (.aload_n 0, 1) := by decide +kernel
theorem dX9_skipBlanks_26 : decode cX9_skipBlanks 26 = .ok (.getfield 29, 3) := by decide +kernel
theorem dX9_skipBlanks_29 : decode cX9_skipBlanks 29 = .ok (.invokevirtual 41, 3) := by decide +kernel
theorem dX9_skipBlanks_32 : decode cX9_skipBlanks 32 = .ok (.bipush 10, 2) := by decide +kernel
theorem dX9_skipBlanks_34 : decode cX9_skipBlanks 34 = .ok (.if_icmp .ne 16, 3) := by decide +kernel
theorem dX9_skipBlanks_37 : decode cX9_skipBlanks 37 = .ok (.aload_n 0, 1) := by decide +kernel
theorem dX9_skipBlanks_38 : decode cX9_skipBlanks 38 = .ok (.dup, 1) := by decide +kernel
theorem dX9_skipBlanks_39 : decode cX9_skipBlanks 39 = .ok (.getfield 29, 3) := by decide +kernel
theorem dX9_skipBlanks_42 : decode cX9_skipBlanks 42 = .ok (.iconst 1, 1) := by decide +kernel
theorem dX9_skipBlanks_43 : decode cX9_skipBlanks 43 = .ok (.iadd, 1) := by decide +kernel
theorem dX9_skipBlanks_44 : decode cX9_skipBlanks 44 = .ok (.putfield 29, 3) := by decide +kernel
theorem dX9_skipBlanks_47 : decode cX9_skipBlanks 47 = .ok (.goto (-47), 3) := by decide +kernel
theorem dX9_skipBlanks_50 : decode cX9_skipBlanks 50 = .ok (.return_, 1) := by decide +kernel
theorem dX9_byteAt_0 : decode cX9_byteAt 0 = .ok (.iload_n 1, 1) := by decide +kernel
theorem dX9_byteAt_1 : decode cX9_byteAt 1 = .ok (.ifCond .lt 31, 3) := by decide +kernel
theorem dX9_byteAt_4 : decode cX9_byteAt 4 = .ok (.iload_n 1, 1) := by decide +kernel
theorem dX9_byteAt_5 : decode cX9_byteAt 5 = .ok (.aload_n 0, 1) := by decide +kernel
theorem dX9_byteAt_6 : decode cX9_byteAt 6 = .ok (.getfield 25, 3) := by decide +kernel
theorem dX9_byteAt_9 : decode cX9_byteAt 9 = .ok (.if_icmp .ge 23, 3) := by decide +kernel
theorem dX9_byteAt_12 : decode cX9_byteAt 12 = .ok (.iload_n 1, 1) := by decide +kernel
theorem dX9_byteAt_13 : decode cX9_byteAt 13 = .ok (.sipush 300, 3) := by decide +kernel
theorem dX9_byteAt_16 : decode cX9_byteAt 16 = .ok (.if_icmp .ge 16, 3) := by decide +kernel
theorem dX9_byteAt_19 : decode cX9_byteAt 19 = .ok (.aload_n 0, 1) := by decide +kernel
theorem dX9_byteAt_20 : decode cX9_byteAt 20 = .ok (.getfield 9, 3) := by decide +kernel
theorem dX9_byteAt_23 : decode cX9_byteAt 23 = .ok (.iload_n 1, 1) := by decide +kernel
theorem dX9_byteAt_24 : decode cX9_byteAt 24 = .ok (.baload, 1) := by decide +kernel
theorem dX9_byteAt_25 : decode cX9_byteAt 25 = .ok (.sipush 255, 3) := by decide +kernel
theorem dX9_byteAt_28 : decode cX9_byteAt 28 = .ok (.iand, 1) := by decide +kernel
theorem dX9_byteAt_29 : decode cX9_byteAt 29 = .ok (.goto 4, 3) := by decide +kernel
theorem dX9_byteAt_32 : decode cX9_byteAt 32 = .ok (.iconst (-1), 1) := by decide +kernel
theorem dX9_byteAt_33 : decode cX9_byteAt 33 = .ok (.ireturn, 1) := by decide +kernel
theorem dX9_isLetter_0 : decode cX9_isLetter 0 = .ok (.iload_n 1, 1) := by decide +kernel
theorem dX9_isLetter_1 : decode cX9_isLetter 1 = .ok (.bipush 97, 2) := by decide +kernel
theorem dX9_isLetter_3 : decode cX9_isLetter 3 = .ok (.if_icmp .lt 9, 3) := by decide +kernel
theorem dX9_isLetter_6 : decode cX9_isLetter 6 = .ok (.iload_n 1, 1) := by decide +kernel
theorem dX9_isLetter_7 : decode cX9_isLetter 7 = .ok (.bipush 122, 2) := by decide +kernel
theorem dX9_isLetter_9 : decode cX9_isLetter 9 = .ok (.if_icmp .le 15, 3) := by decide +kernel
theorem dX9_isLetter_12 : decode cX9_isLetter 12 = .ok (.iload_n 1, 1) := by decide +kernel
theorem dX9_isLetter_13 : decode cX9_isLetter 13 = .ok (.bipush 65, 2) := by decide +kernel
theorem dX9_isLetter_15 : decode cX9_isLetter 15 = .ok (.if_icmp .lt 13, 3) := by decide +kernel
theorem dX9_isLetter_18 : decode cX9_isLetter 18 = .ok (.iload_n 1, 1) := by decide +kernel
theorem dX9_isLetter_19 : decode cX9_isLetter 19 = .ok (.bipush 90, 2) := by decide +kernel
theorem dX9_isLetter_21 : decode cX9_isLetter 21 = .ok (.if_icmp .gt 7, 3) := by decide +kernel
theorem dX9_isLetter_24 : decode cX9_isLetter 24 = .ok (.iconst 1, 1) := by decide +kernel
theorem dX9_isLetter_25 : decode cX9_isLetter 25 = .ok (.goto 4, 3) := by decide +kernel
theorem dX9_isLetter_28 : decode cX9_isLetter 28 = .ok (.iconst 0, 1) := by decide +kernel
theorem dX9_isLetter_29 : decode cX9_isLetter 29 = .ok (.ireturn, 1) := by decide +kernel
theorem dX9_isDigit_0 : decode cX9_isDigit 0 = .ok (.iload_n 1, 1) := by decide +kernel
theorem dX9_isDigit_1 : decode cX9_isDigit 1 = .ok (.bipush 48, 2) := by decide +kernel
theorem dX9_isDigit_3 : decode cX9_isDigit 3 = .ok (.if_icmp .lt 13, 3) := by decide +kernel
theorem dX9_isDigit_6 : decode cX9_isDigit 6 = .ok (.iload_n 1, 1) := by decide +kernel
theorem dX9_isDigit_7 : decode cX9_isDigit 7 = .ok (.bipush 57, 2) := by decide +kernel
theorem dX9_isDigit_9 : decode cX9_isDigit 9 = .ok (.if_icmp .gt 7, 3) := by decide +kernel
theorem dX9_isDigit_12 : decode cX9_isDigit 12 = .ok (.iconst 1, 1) := by decide +kernel
theorem dX9_isDigit_13 : decode cX9_isDigit 13 = .ok (.goto 4, 3) := by decide +kernel
theorem dX9_isDigit_16 : decode cX9_isDigit 16 = .ok (.iconst 0, 1) := by decide +kernel
theorem dX9_isDigit_17 : decode cX9_isDigit 17 = .ok (.ireturn, 1) := by decide +kernel
theorem dX9_takeToken_0 : decode cX9_takeToken 0 = .ok (.aload_n 0, 1) := by decide +kernel
theorem dX9_takeToken_1 : decode cX9_takeToken 1 = .ok (.iload_n 1, 1) := by decide +kernel
theorem dX9_takeToken_2 : decode cX9_takeToken 2 = .ok (.invokevirtual 48, 3) := by decide +kernel
theorem dX9_takeToken_5 : decode cX9_takeToken 5 = .ok (.ifCond .eq 8, 3) := by decide +kernel
theorem dX9_takeToken_8 : decode cX9_takeToken 8 = .ok (.aload_n 0, 1) := by decide +kernel
theorem dX9_takeToken_9 : decode cX9_takeToken 9 = .ok (.invokevirtual 52, 3) := by decide +kernel
theorem dX9_takeToken_12 : decode cX9_takeToken 12 = .ok (.ireturn, 1) := by decide +kernel
theorem dX9_takeToken_13 : decode cX9_takeToken 13 = .ok (.aload_n 0, 1) := by decide +kernel
theorem dX9_takeToken_14 : decode cX9_takeToken 14 = .ok (.iload_n 1, 1) := by decide +kernel
theorem dX9_takeToken_15 : decode cX9_takeToken 15 = .ok (.invokevirtual 56, 3) := by decide +kernel
theorem dX9_takeToken_18 : decode cX9_takeToken 18 = .ok (.ifCond .eq 19, 3) := by decide +kernel
theorem dX9_takeToken_21 : decode cX9_takeToken 21 = .ok (.aload_n 0, 1) := by decide +kernel
theorem dX9_takeToken_22 : decode cX9_takeToken 22 = .ok (.getfield 22, 3) := by decide +kernel
theorem dX9_takeToken_25 : decode cX9_takeToken 25 = .ok (.aload_n 0, 1) := by decide +kernel
theorem dX9_takeToken_26 : decode cX9_takeToken 26 = .ok (.getfield 32, 3) := by decide +kernel
theorem dX9_takeToken_29 : decode cX9_takeToken 29 = .ok (.aload_n 0, 1) := by decide +kernel
theorem dX9_takeToken_30 : decode cX9_takeToken 30 = .ok (.invokevirtual 59, 3) := by decide +kernel
theorem dX9_takeToken_33 : decode cX9_takeToken 33 = .ok (.iastore, 1) := by decide +kernel
theorem dX9_takeToken_34 : decode cX9_takeToken 34 = .ok (.bipush 40, 2) := by decide +kernel
theorem dX9_takeToken_36 : decode cX9_takeToken 36 = .ok (.ireturn, 1) := by decide +kernel
theorem dX9_takeToken_37 : decode cX9_takeToken 37 = .ok (.aload_n 0, 1) := by decide +kernel
theorem dX9_takeToken_38 : decode cX9_takeToken 38 = .ok (.iload_n 1, 1) := by decide +kernel
theorem dX9_takeToken_39 : decode cX9_takeToken 39 = .ok (.invokevirtual 62, 3) := by decide +kernel
theorem dX9_takeToken_42 : decode cX9_takeToken 42 = .ok (.ireturn, 1) := by decide +kernel
theorem dX9_takeWord_0 : decode cX9_takeWord 0 = .ok (.aload_n 0, 1) := by decide +kernel
theorem dX9_takeWord_1 : decode cX9_takeWord 1 = .ok (.getfield 29, 3) := by decide +kernel
theorem dX9_takeWord_4 : decode cX9_takeWord 4 = .ok (.istore_n 1, 1) := by decide +kernel
theorem dX9_takeWord_5 : decode cX9_takeWord 5 = .ok (.aload_n 0, 1) := by decide +kernel
theorem dX9_takeWord_6 : decode cX9_takeWord 6 = .ok (.getfield 29, 3) := by decide +kernel
theorem dX9_takeWord_9 : decode cX9_takeWord 9 = .ok (.aload_n 0, 1) := by decide +kernel
theorem dX9_takeWord_10 : decode cX9_takeWord 10 = .ok (.getfield 25, 3) := by decide +kernel
theorem dX9_takeWord_13 : decode cX9_takeWord 13 = .ok (.if_icmp .ge 31, 3) := by decide +kernel
theorem dX9_takeWord_16 : decode cX9_takeWord 16 = .ok (.aload_n 0, 1) := by decide +kernel
theorem dX9_takeWord_17 : decode cX9_takeWord 17 = .ok (.aload_n 0, 1) := by decide +kernel
theorem dX9_takeWord_18 : decode cX9_takeWord 18 = .ok (.aload_n 0, 1) := by decide +kernel
theorem dX9_takeWord_19 : decode cX9_takeWord 19 = .ok (.getfield 29, 3) := by decide +kernel
theorem dX9_takeWord_22 : decode cX9_takeWord 22 = .ok (.invokevirtual 41, 3) := by decide +kernel
theorem dX9_takeWord_25 : decode cX9_takeWord 25 = .ok (.invokevirtual 48, 3) := by decide +kernel
theorem dX9_takeWord_28 : decode cX9_takeWord 28 = .ok (.ifCond .eq 16, 3) := by decide +kernel
theorem dX9_takeWord_31 : decode cX9_takeWord 31 = .ok (.aload_n 0, 1) := by decide +kernel
theorem dX9_takeWord_32 : decode cX9_takeWord 32 = .ok (.dup, 1) := by decide +kernel
theorem dX9_takeWord_33 : decode cX9_takeWord 33 = .ok (.getfield 29, 3) := by decide +kernel
theorem dX9_takeWord_36 : decode cX9_takeWord 36 = .ok (.iconst 1, 1) := by decide +kernel
theorem dX9_takeWord_37 : decode cX9_takeWord 37 = .ok (.iadd, 1) := by decide +kernel
theorem dX9_takeWord_38 : decode cX9_takeWord 38 = .ok (.putfield 29, 3) := by decide +kernel
theorem dX9_takeWord_41 : decode cX9_takeWord 41 = .ok (.goto (-36), 3) := by decide +kernel
theorem dX9_takeWord_44 : decode cX9_takeWord 44 = .ok (.aload_n 0, 1) := by decide +kernel
theorem dX9_takeWord_45 : decode cX9_takeWord 45 = .ok (.iload_n 1, 1) := by decide +kernel
theorem dX9_takeWord_46 : decode cX9_takeWord 46 = .ok (.aload_n 0, 1) := by decide +kernel
theorem dX9_takeWord_47 : decode cX9_takeWord 47 = .ok (.getfield 29, 3) := by decide +kernel
theorem dX9_takeWord_50 : decode cX9_takeWord 50 = .ok (.invokevirtual 65, 3) := by decide +kernel
theorem dX9_takeWord_53 : decode cX9_takeWord 53 = .ok (.ireturn, 1) := by decide +kernel
theorem dX9_wordFrom_0 : decode cX9_wordFrom 0 = .ok (.iconst 0, 1) := by decide +kernel
theorem dX9_wordFrom_1 : decode cX9_wordFrom 1 = .ok (.istore_n 3, 1) := by decide +kernel
theorem dX9_wordFrom_2 : decode cX9_wordFrom 2 = .ok (.iload_n 1, 1) := by decide +kernel
theorem dX9_wordFrom_3 : decode cX9_wordFrom 3 = .ok (.istore 4, 2) := by decide +kernel
theorem dX9_wordFrom_5 : decode cX9_wordFrom 5 = .ok (.iconst 1, 1) := by decide +kernel
theorem dX9_wordFrom_6 : decode cX9_wordFrom 6 = .ok (.istore 5, 2) := by decide +kernel
theorem dX9_wordFrom_8 : decode cX9_wordFrom 8 = .ok (.iconst 0, 1) := by decide +kernel
theorem dX9_wordFrom_9 : decode cX9_wordFrom 9 = .ok (.istore 6, 2) := by decide +kernel
theorem dX9_wordFrom_11 : decode cX9_wordFrom 11 = .ok (.iload 6, 2) := by decide +kernel
theorem dX9_wordFrom_13 : decode cX9_wordFrom 13 = .ok (.ldc 69, 2) := by decide +kernel
theorem dX9_wordFrom_15 : decode cX9_wordFrom 15 = .ok (.invokevirtual 71, 3) := by decide +kernel
theorem dX9_wordFrom_18 : decode cX9_wordFrom 18 = .ok (.if_icmp .ge 82, 3) := by decide +kernel
theorem dX9_wordFrom_21 : decode cX9_wordFrom 21 = .ok (.ldc 69, 2) := by decide +kernel
theorem dX9_wordFrom_23 : decode cX9_wordFrom 23 = .ok (.iload 6, 2) := by decide +kernel
theorem dX9_wordFrom_25 : decode cX9_wordFrom 25 = .ok (.invokevirtual 75, 3) := by decide +kernel
theorem dX9_wordFrom_28 : decode cX9_wordFrom 28 = .ok (.istore 7, 2) := by decide +kernel
theorem dX9_wordFrom_30 : decode cX9_wordFrom 30 = .ok (.iload 7, 2) := by decide +kernel
theorem dX9_wordFrom_32 : decode cX9_wordFrom 32 = .ok (.bipush 32, 2) := by decide +kernel
theorem dX9_wordFrom_34 : decode cX9_wordFrom 34 = .ok (.if_icmp .eq 38, 3) := by decide +kernel
theorem dX9_wordFrom_37 : decode cX9_wordFrom 37 = .ok (.iload 5, 2) := by decide +kernel
theorem dX9_wordFrom_39 : decode cX9_wordFrom 39 = .ok (.ifCond .eq 24, 3) := by decide +kernel
theorem dX9_wordFrom_42 : decode cX9_wordFrom 42 = .ok (.iload 4, 2) := by decide +kernel
theorem dX9_wordFrom_44 : decode cX9_wordFrom 44 = .ok (.iload_n 2, 1) := by decide +kernel
theorem dX9_wordFrom_45 : decode cX9_wordFrom 45 = .ok (.if_icmp .ge 18, 3) := by decide +kernel
theorem dX9_wordFrom_48 : decode cX9_wordFrom 48 = .ok (.aload_n 0, 1) := by decide +kernel
theorem dX9_wordFrom_49 : decode cX9_wordFrom 49 = .ok (.iload 4, 2) := by decide +kernel
theorem dX9_wordFrom_51 : decode cX9_wordFrom 51 = .ok (.invokevirtual 41, 3) := by decide +kernel
theorem dX9_wordFrom_54 : decode cX9_wordFrom 54 = .ok (.iload 7, 2) := by decide +kernel
theorem dX9_wordFrom_56 : decode cX9_wordFrom 56 = .ok (.if_icmp .ne 7, 3) := by decide +kernel
theorem dX9_wordFrom_59 : decode cX9_wordFrom 59 = .ok (.iconst 1, 1) := by decide +kernel
theorem dX9_wordFrom_60 : decode cX9_wordFrom 60 = .ok (.goto 4, 3) := by decide +kernel
theorem dX9_wordFrom_63 : decode cX9_wordFrom 63 = .ok (.iconst 0, 1) := by decide +kernel
theorem dX9_wordFrom_64 : decode cX9_wordFrom 64 = .ok (.istore 5, 2) := by decide +kernel
theorem dX9_wordFrom_66 : decode cX9_wordFrom 66 = .ok (.iinc 4 1, 3) := by decide +kernel
theorem dX9_wordFrom_69 : decode cX9_wordFrom 69 = .ok (.goto 25, 3) := by decide +kernel
theorem dX9_wordFrom_72 : decode cX9_wordFrom 72 = .ok (.iload 5, 2) := by decide +kernel
theorem dX9_wordFrom_74 : decode cX9_wordFrom 74 = .ok (.ifCond .eq 11, 3) := by decide +kernel
theorem dX9_wordFrom_77 : decode cX9_wordFrom 77 = .ok (.iload 4, 2) := by decide +kernel
theorem dX9_wordFrom_79 : decode cX9_wordFrom 79 = .ok (.iload_n 2, 1) := by decide +kernel
theorem dX9_wordFrom_80 : decode cX9_wordFrom 80 = .ok (.if_icmp .ne 5, 3) := by decide +kernel
theorem dX9_wordFrom_83 : decode cX9_wordFrom 83 = .ok (.iload_n 3, 1) := by decide +kernel
theorem dX9_wordFrom_84 : decode cX9_wordFrom 84 = .ok (.ireturn, 1) := by decide +kernel
theorem dX9_wordFrom_85 : decode cX9_wordFrom 85 = .ok (.iinc 3 1, 3) := by decide +kernel
theorem dX9_wordFrom_88 : decode cX9_wordFrom 88 = .ok (.iload_n 1, 1) := by decide +kernel
theorem dX9_wordFrom_89 : decode cX9_wordFrom 89 = .ok (.istore 4, 2) := by decide +kernel
theorem dX9_wordFrom_91 : decode cX9_wordFrom 91 = .ok (.iconst 1, 1) := by decide +kernel
theorem dX9_wordFrom_92 : decode cX9_wordFrom 92 = .ok (.istore 5, 2) := by decide +kernel
theorem dX9_wordFrom_94 : decode cX9_wordFrom 94 = .ok (.iinc 6 1, 3) := by decide +kernel
theorem dX9_wordFrom_97 : decode cX9_wordFrom 97 = .ok (.goto (-86), 3) := by decide +kernel
theorem dX9_wordFrom_100 : decode cX9_wordFrom 100 = .ok (.bipush 42, 2) := by decide +kernel
theorem dX9_wordFrom_102 : decode cX9_wordFrom 102 = .ok (.ireturn, 1) := by decide +kernel
theorem dX9_takeDigits_0 : decode cX9_takeDigits 0 = .ok (.iconst 0, 1) := by decide +kernel
theorem dX9_takeDigits_1 : decode cX9_takeDigits 1 = .ok (.istore_n 1, 1) := by decide +kernel
theorem dX9_takeDigits_2 : decode cX9_takeDigits 2 = .ok (.aload_n 0, 1) := by decide +kernel
theorem dX9_takeDigits_3 : decode cX9_takeDigits 3 = .ok (.getfield 29, 3) := by decide +kernel
theorem dX9_takeDigits_6 : decode cX9_takeDigits 6 = .ok (.aload_n 0, 1) := by decide +kernel
theorem dX9_takeDigits_7 : decode cX9_takeDigits 7 = .ok (.getfield 25, 3) := by decide +kernel
theorem dX9_takeDigits_10 : decode cX9_takeDigits 10 = .ok (.if_icmp .ge 54, 3) := by decide +kernel
theorem dX9_takeDigits_13 : decode cX9_takeDigits 13 = .ok (.aload_n 0, 1) := by decide +kernel
theorem dX9_takeDigits_14 : decode cX9_takeDigits 14 = .ok (.aload_n 0, 1) := by decide +kernel
theorem dX9_takeDigits_15 : decode cX9_takeDigits 15 = .ok (.aload_n 0, 1) := by decide +kernel
theorem dX9_takeDigits_16 : decode cX9_takeDigits 16 = .ok (.getfield 29, 3) := by decide +kernel
theorem dX9_takeDigits_19 : decode cX9_takeDigits 19 = .ok (.invokevirtual 41, 3) := by decide +kernel
theorem dX9_takeDigits_22 : decode cX9_takeDigits 22 = .ok (.invokevirtual 56, 3) := by decide +kernel
theorem dX9_takeDigits_25 : decode cX9_takeDigits 25 = .ok (.ifCond .eq 39, 3) := by decide +kernel
theorem dX9_takeDigits_28 : decode cX9_takeDigits 28 = .ok (.iload_n 1, 1) := by decide +kernel
theorem dX9_takeDigits_29 : decode cX9_takeDigits 29 = .ok (.bipush 10, 2) := by decide +kernel
theorem dX9_takeDigits_31 : decode cX9_takeDigits 31 = .ok (.imul, 1) := by decide +kernel
theorem dX9_takeDigits_32 : decode cX9_takeDigits 32 = .ok (.aload_n 0, 1) := by decide +kernel
theorem dX9_takeDigits_33 : decode cX9_takeDigits 33 = .ok (.aload_n 0, 1) := by decide +kernel
theorem dX9_takeDigits_34 : decode cX9_takeDigits 34 = .ok (.getfield 29, 3) := by decide +kernel
theorem dX9_takeDigits_37 : decode cX9_takeDigits 37 = .ok (.invokevirtual 41, 3) := by decide +kernel
theorem dX9_takeDigits_40 : decode cX9_takeDigits 40 = .ok (.iadd, 1) := by decide +kernel
theorem dX9_takeDigits_41 : decode cX9_takeDigits 41 = .ok (.bipush 48, 2) := by decide +kernel
theorem dX9_takeDigits_43 : decode cX9_takeDigits 43 = .ok (.isub, 1) := by decide +kernel
theorem dX9_takeDigits_44 : decode cX9_takeDigits 44 = .ok (.sipush 10000, 3) := by decide +kernel
theorem dX9_takeDigits_47 : decode cX9_takeDigits 47 = .ok (.invokestatic 79, 3) := by decide +kernel
theorem dX9_takeDigits_50 : decode cX9_takeDigits 50 = .ok (.istore_n 1, 1) := by decide +kernel
theorem dX9_takeDigits_51 : decode cX9_takeDigits 51 = .ok (.aload_n 0, 1) := by decide +kernel
theorem dX9_takeDigits_52 : decode cX9_takeDigits 52 = .ok (.dup, 1) := by decide +kernel
theorem dX9_takeDigits_53 : decode cX9_takeDigits 53 = .ok (.getfield 29, 3) := by decide +kernel
theorem dX9_takeDigits_56 : decode cX9_takeDigits 56 = .ok (.iconst 1, 1) := by decide +kernel
theorem dX9_takeDigits_57 : decode cX9_takeDigits 57 = .ok (.iadd, 1) := by decide +kernel
theorem dX9_takeDigits_58 : decode cX9_takeDigits 58 = .ok (.putfield 29, 3) := by decide +kernel
theorem dX9_takeDigits_61 : decode cX9_takeDigits 61 = .ok (.goto (-59), 3) := by decide +kernel
theorem dX9_takeDigits_64 : decode cX9_takeDigits 64 = .ok (.iload_n 1, 1) := by decide +kernel
theorem dX9_takeDigits_65 : decode cX9_takeDigits 65 = .ok (.ireturn, 1) := by decide +kernel
theorem dX9_takeMark_0 : decode cX9_takeMark 0 = .ok (.ldc 84, 2) := by decide +kernel
theorem dX9_takeMark_2 : decode cX9_takeMark 2 = .ok (.iload_n 1, 1) := by decide +kernel
theorem dX9_takeMark_3 : decode cX9_takeMark 3 = .ok (.i2c, 1) := by decide +kernel
theorem dX9_takeMark_4 : decode cX9_takeMark 4 = .ok (.invokevirtual 86, 3) := by decide +kernel
theorem dX9_takeMark_7 : decode cX9_takeMark 7 = .ok (.istore_n 2, 1) := by decide +kernel
theorem dX9_takeMark_8 : decode cX9_takeMark 8 = .ok (.aload_n 0, 1) := by decide +kernel
theorem dX9_takeMark_9 : decode cX9_takeMark 9 = .ok (.dup, 1) := by decide +kernel
theorem dX9_takeMark_10 : decode cX9_takeMark 10 = .ok (.getfield 29, 3) := by decide +kernel
theorem dX9_takeMark_13 : decode cX9_takeMark 13 = .ok (.iconst 1, 1) := by decide +kernel
theorem dX9_takeMark_14 : decode cX9_takeMark 14 = .ok (.iadd, 1) := by decide +kernel
theorem dX9_takeMark_15 : decode cX9_takeMark 15 = .ok (.putfield 29, 3) := by decide +kernel
theorem dX9_takeMark_18 : decode cX9_takeMark 18 = .ok (.iload_n 2, 1) := by decide +kernel
theorem dX9_takeMark_19 : decode cX9_takeMark 19 = .ok (.ifCond .ge 6, 3) := by decide +kernel
theorem dX9_takeMark_22 : decode cX9_takeMark 22 = .ok (.bipush 42, 2) := by decide +kernel
theorem dX9_takeMark_24 : decode cX9_takeMark 24 = .ok (.ireturn, 1) := by decide +kernel
theorem dX9_takeMark_25 : decode cX9_takeMark 25 = .ok (.bipush 20, 2) := by decide +kernel
theorem dX9_takeMark_27 : decode cX9_takeMark 27 = .ok (.iload_n 2, 1) := by decide +kernel
theorem dX9_takeMark_28 : decode cX9_takeMark 28 = .ok (.iadd, 1) := by decide +kernel
theorem dX9_takeMark_29 : decode cX9_takeMark 29 = .ok (.istore_n 3, 1) := by decide +kernel
theorem dX9_takeMark_30 : decode cX9_takeMark 30 = .ok (.iload_n 3, 1) := by decide +kernel
theorem dX9_takeMark_31 : decode cX9_takeMark 31 = .ok (.bipush 20, 2) := by decide +kernel
theorem dX9_takeMark_33 : decode cX9_takeMark 33 = .ok (.if_icmp .eq 9, 3) := by decide +kernel
theorem dX9_takeMark_36 : decode cX9_takeMark 36 = .ok (.iload_n 3, 1) := by decide +kernel
theorem dX9_takeMark_37 : decode cX9_takeMark 37 = .ok (.bipush 21, 2) := by decide +kernel
theorem dX9_takeMark_39 : decode cX9_takeMark 39 = .ok (.if_icmp .ne 40, 3) := by decide +kernel
theorem dX9_takeMark_42 : decode cX9_takeMark 42 = .ok (.aload_n 0, 1) := by decide +kernel
theorem dX9_takeMark_43 : decode cX9_takeMark 43 = .ok (.aload_n 0, 1) := by decide +kernel
theorem dX9_takeMark_44 : decode cX9_takeMark 44 = .ok (.getfield 29, 3) := by decide +kernel
theorem dX9_takeMark_47 : decode cX9_takeMark 47 = .ok (.invokevirtual 41, 3) := by decide +kernel
theorem dX9_takeMark_50 : decode cX9_takeMark 50 = .ok (.bipush 61, 2) := by decide +kernel
theorem dX9_takeMark_52 : decode cX9_takeMark 52 = .ok (.if_icmp .ne 27, 3) := by decide +kernel
theorem dX9_takeMark_55 : decode cX9_takeMark 55 = .ok (.aload_n 0, 1) := by decide +kernel
theorem dX9_takeMark_56 : decode cX9_takeMark 56 = .ok (.dup, 1) := by decide +kernel
theorem dX9_takeMark_57 : decode cX9_takeMark 57 = .ok (.getfield 29, 3) := by decide +kernel
theorem dX9_takeMark_60 : decode cX9_takeMark 60 = .ok (.iconst 1, 1) := by decide +kernel
theorem dX9_takeMark_61 : decode cX9_takeMark 61 = .ok (.iadd, 1) := by decide +kernel
theorem dX9_takeMark_62 : decode cX9_takeMark 62 = .ok (.putfield 29, 3) := by decide +kernel
theorem dX9_takeMark_65 : decode cX9_takeMark 65 = .ok (.iload_n 3, 1) := by decide +kernel
theorem dX9_takeMark_66 : decode cX9_takeMark 66 = .ok (.bipush 20, 2) := by decide +kernel
theorem dX9_takeMark_68 : decode cX9_takeMark 68 = .ok (.if_icmp .ne 8, 3) := by decide +kernel
theorem dX9_takeMark_71 : decode cX9_takeMark 71 = .ok (.bipush 31, 2) := by decide +kernel
theorem dX9_takeMark_73 : decode cX9_takeMark 73 = .ok (.goto 5, 3) := by decide +kernel
theorem dX9_takeMark_76 : decode cX9_takeMark 76 = .ok (.bipush 32, 2) := by decide +kernel
theorem dX9_takeMark_78 : decode cX9_takeMark 78 = .ok (.ireturn, 1) := by decide +kernel
theorem dX9_takeMark_79 : decode cX9_takeMark 79 = .ok (.iload_n 3, 1) := by decide +kernel
theorem dX9_takeMark_80 : decode cX9_takeMark 80 = .ok (.ireturn, 1) := by decide +kernel
theorem dX10_init_0 : decode cX10_init 0 = .ok (.aload_n 0, 1) := by decide +kernel
theorem dX10_init_1 : decode cX10_init 1 = .ok (.invokespecial 3, 3) := by decide +kernel
theorem dX10_init_4 : decode cX10_init 4 = .ok (.aload_n 0, 1) := by decide +kernel
theorem dX10_init_5 : decode cX10_init 5 = .ok (.aload_n 1, 1) := by decide +kernel
theorem dX10_init_6 : decode cX10_init 6 = .ok (.putfield 9, 3) := by decide +kernel
theorem dX10_init_9 : decode cX10_init 9 = .ok (.aload_n 0, 1) := by decide +kernel
theorem dX10_init_10 : decode cX10_init 10 = .ok (.aload_n 2, 1) := by decide +kernel
theorem dX10_init_11 : decode cX10_init 11 = .ok (.putfield 15, 3) := by decide +kernel
theorem dX10_init_14 : decode cX10_init 14 = .ok (.aload_n 0, 1) := by decide +kernel
theorem dX10_init_15 : decode cX10_init 15 = .ok (.aload_n 3, 1) := by decide +kernel
theorem dX10_init_16 : decode cX10_init 16 = .ok (.putfield 18, 3) := by decide +kernel
theorem dX10_init_19 : decode cX10_init 19 = .ok (.aload_n 0, 1) := by decide +kernel
theorem dX10_init_20 : decode cX10_init 20 = .ok (.aload 4, 2) := by decide +kernel
theorem dX10_init_22 : decode cX10_init 22 = .ok (.putfield 21, 3) := by decide +kernel
theorem dX10_init_25 : decode cX10_init 25 = .ok (.aload_n 0, 1) := by decide +kernel
theorem dX10_init_26 : decode cX10_init 26 = .ok (.aload 4, 2) := by decide +kernel
theorem dX10_init_28 : decode cX10_init 28 = .ok (.arraylength, 1) := by decide +kernel
theorem dX10_init_29 : decode cX10_init 29 = .ok (.iconst 3, 1) := by decide +kernel
theorem dX10_init_30 : decode cX10_init 30 = .ok (.idiv, 1) := by decide +kernel
theorem dX10_init_31 : decode cX10_init 31 = .ok (.putfield 24, 3) := by decide +kernel
theorem dX10_init_34 : decode cX10_init 34 = .ok (.return_, 1) := by decide +kernel
theorem dX10_deedOf_0 : decode cX10_deedOf 0 = .ok (.aload_n 0, 1) := by decide +kernel
theorem dX10_deedOf_1 : decode cX10_deedOf 1 = .ok (.iload_n 1, 1) := by decide +kernel
theorem dX10_deedOf_2 : decode cX10_deedOf 2 = .ok (.iconst 0, 1) := by decide +kernel
theorem dX10_deedOf_3 : decode cX10_deedOf 3 = .ok (.invokevirtual 28, 3) := by decide +kernel
theorem dX10_deedOf_6 : decode cX10_deedOf 6 = .ok (.ireturn, 1) := by decide +kernel
theorem dX10_firstOf_0 : decode cX10_firstOf 0 = .ok (.aload_n 0, 1) := by decide +kernel
theorem dX10_firstOf_1 : decode cX10_firstOf 1 = .ok (.iload_n 1, 1) := by decide +kernel
theorem dX10_firstOf_2 : decode cX10_firstOf 2 = .ok (.iconst 1, 1) := by decide +kernel
theorem dX10_firstOf_3 : decode cX10_firstOf 3 = .ok (.invokevirtual 28, 3) := by decide +kernel
theorem dX10_firstOf_6 : decode cX10_firstOf 6 = .ok (.ireturn, 1) := by decide +kernel
theorem dX10_secondOf_0 : decode cX10_secondOf 0 = .ok (.aload_n 0, 1) := by decide +kernel
theorem dX10_secondOf_1 : decode cX10_secondOf 1 = .ok (.iload_n 1, 1) := by decide +kernel
theorem dX10_secondOf_2 : decode cX10_secondOf 2 = .ok (.iconst 2, 1) := by decide +kernel
theorem dX10_secondOf_3 : decode cX10_secondOf 3 = .ok (.invokevirtual 28, 3) := by decide +kernel
theorem dX10_secondOf_6 : decode cX10_secondOf 6 = .ok (.ireturn, 1) := by decide +kernel
theorem dX10_partOf_0 : decode cX10_partOf 0 = .ok (.iload_n 1, 1) := by decide +kernel
theorem dX10_partOf_1 : decode cX10_partOf 1 = .ok (.ifCond .lt 24, 3) := by decide +kernel
theorem dX10_partOf_4 : decode cX10_partOf 4 = .ok (.iload_n 1, 1) := by decide +kernel
theorem dX10_partOf_5 : decode cX10_partOf 5 = .ok (.aload_n 0, 1) := by decide +kernel
theorem dX10_partOf_6 : decode cX10_partOf 6 = .ok (.getfield 24, 3) := by decide +kernel
theorem dX10_partOf_9 : decode cX10_partOf 9 = .ok (.if_icmp .ge 16, 3) := by decide +kernel
theorem dX10_partOf_12 : decode cX10_partOf 12 = .ok (.aload_n 0, 1) := by decide +kernel
theorem dX10_partOf_13 : decode cX10_partOf 13 = .ok (.getfield 21, 3) := by decide +kernel
theorem dX10_partOf_16 : decode cX10_partOf 16 = .ok (.iload_n 1, 1) := by decide +kernel
theorem dX10_partOf_17 : decode cX10_partOf 17 = .ok (.iconst 3, 1) := by decide +kernel
theorem dX10_partOf_18 : decode cX10_partOf 18 = .ok (.imul, 1) := by decide +kernel
theorem dX10_partOf_19 : decode cX10_partOf 19 = .ok (.iload_n 2, 1) := by decide +kernel
theorem dX10_partOf_20 : decode cX10_partOf 20 = .ok (.iadd, 1) := by decide +kernel
theorem dX10_partOf_21 : decode cX10_partOf 21 = .ok (.iaload, 1) := by decide +kernel
theorem dX10_partOf_22 : decode cX10_partOf 22 = .ok (.goto 4, 3) := by decide +kernel
theorem dX10_partOf_25 : decode cX10_partOf 25 = .ok (.iconst (-1), 1) := by decide +kernel
theorem dX10_partOf_26 : decode cX10_partOf 26 = .ok (.ireturn, 1) := by decide +kernel
theorem dX11_init_0 : decode cX11_init 0 = .ok (.aload_n 0, 1) := by decide +kernel
theorem dX11_init_1 : decode cX11_init 1 = .ok (.invokespecial 3, 3) := by decide +kernel
theorem dX11_init_4 : decode cX11_init 4 = .ok (.aload_n 0, 1) := by decide +kernel
theorem dX11_init_5 : decode cX11_init 5 = .ok (.new 9, 3) := by decide +kernel
theorem dX11_init_8 : decode cX11_init 8 = .ok (.dup, 1) := by decide +kernel
theorem dX11_init_9 : decode cX11_init 9 = .ok (.invokespecial 11, 3) := by decide +kernel
theorem dX11_init_12 : decode cX11_init 12 = .ok (.putfield 12, 3) := by decide +kernel
theorem dX11_init_15 : decode cX11_init 15 = .ok (.aload_n 0, 1) := by decide +kernel
theorem dX11_init_16 : decode cX11_init 16 = .ok (.new 9, 3) := by decide +kernel
theorem dX11_init_19 : decode cX11_init 19 = .ok (.dup, 1) := by decide +kernel
theorem dX11_init_20 : decode cX11_init 20 = .ok (.invokespecial 11, 3) := by decide +kernel
theorem dX11_init_23 : decode cX11_init 23 = .ok (.putfield 16, 3) := by decide +kernel
theorem dX11_init_26 : decode cX11_init 26 = .ok (.aload_n 0, 1) := by decide +kernel
theorem dX11_init_27 : decode cX11_init 27 = .ok (.new 19, 3) := by decide +kernel
theorem dX11_init_30 : decode cX11_init 30 = .ok (.dup, 1) := by decide +kernel
theorem dX11_init_31 : decode cX11_init 31 = .ok (.invokespecial 21, 3) := by decide +kernel
theorem dX11_init_34 : decode cX11_init 34 = .ok (.putfield 22, 3) := by decide +kernel
theorem dX11_init_37 : decode cX11_init 37 = .ok (.aload_n 0, 1) := by decide +kernel
theorem dX11_init_38 : decode cX11_init 38 = .ok (.new 26, 3) := by decide +kernel
theorem dX11_init_41 : decode cX11_init 41 = .ok (.dup, 1) := by decide +kernel
theorem dX11_init_42 : decode cX11_init 42 = .ok (.invokespecial 28, 3) := by decide +kernel
theorem dX11_init_45 : decode cX11_init 45 = .ok (.putfield 29, 3) := by decide +kernel
theorem dX11_init_48 : decode cX11_init 48 = .ok (.aload_n 0, 1) := by decide +kernel
theorem dX11_init_49 : decode cX11_init 49 = .ok (.new 33, 3) := by decide +kernel
theorem dX11_init_52 : decode cX11_init 52 = .ok (.dup, 1) := by decide +kernel
theorem dX11_init_53 : decode cX11_init 53 = .ok (.invokespecial 35, 3) := by decide +kernel
theorem dX11_init_56 : decode cX11_init 56 = .ok (.putfield 36, 3) := by decide +kernel
theorem dX11_init_59 : decode cX11_init 59 = .ok (.aload_n 0, 1) := by decide +kernel
theorem dX11_init_60 : decode cX11_init 60 = .ok (.new 40, 3) := by decide +kernel
theorem dX11_init_63 : decode cX11_init 63 = .ok (.dup, 1) := by decide +kernel
theorem dX11_init_64 : decode cX11_init 64 = .ok (.invokespecial 42, 3) := by decide +kernel
theorem dX11_init_67 : decode cX11_init 67 = .ok (.putfield 43, 3) := by decide +kernel
theorem dX11_init_70 : decode cX11_init 70 = .ok (.aload_n 0, 1) := by decide +kernel
theorem dX11_init_71 : decode cX11_init 71 = .ok (.new 47, 3) := by decide +kernel
theorem dX11_init_74 : decode cX11_init 74 = .ok (.dup, 1) := by decide +kernel
theorem dX11_init_75 : decode cX11_init 75 = .ok (.invokespecial 49, 3) := by decide +kernel
theorem dX11_init_78 : decode cX11_init 78 = .ok (.putfield 50, 3) := by decide +kernel
theorem dX11_init_81 : decode cX11_init 81 = .ok (.aload_n 0, 1) := by decide +kernel
theorem dX11_init_82 : decode cX11_init 82 = .ok (.iconst 0, 1) := by decide +kernel
theorem dX11_init_83 : decode cX11_init 83 = .ok (.putfield 54, 3) := by decide +kernel
theorem dX11_init_86 : decode cX11_init 86 = .ok (.aload_n 0, 1) := by decide +kernel
theorem dX11_init_87 : decode cX11_init 87 = .ok (.iconst 0, 1) := by decide +kernel
theorem dX11_init_88 : decode cX11_init 88 = .ok (.putfield 58, 3) := by decide +kernel
theorem dX11_init_91 : decode cX11_init 91 = .ok (.aload_n 0, 1) := by decide +kernel
theorem dX11_init_92 : decode cX11_init 92 = .ok (.iconst (-1), 1) := by decide +kernel
theorem dX11_init_93 : decode cX11_init 93 = .ok (.putfield 62, 3) := by decide +kernel
theorem dX11_init_96 : decode cX11_init 96 = .ok (.return_, 1) := by decide +kernel
theorem dX11_stone_0 : decode cX11_stone 0 = .ok (.aload_n 0, 1) := by decide +kernel
theorem dX11_stone_1 : decode cX11_stone 1 = .ok (.getfield 12, 3) := by decide +kernel
theorem dX11_stone_4 : decode cX11_stone 4 = .ok (.getfield 65, 3) := by decide +kernel
theorem dX11_stone_7 : decode cX11_stone 7 = .ok (.astore 6, 2) := by decide +kernel
theorem dX11_stone_9 : decode cX11_stone 9 = .ok (.iload_n 1, 1) := by decide +kernel
theorem dX11_stone_10 : decode cX11_stone 10 = .ok (.iconst 1, 1) := by decide +kernel
theorem dX11_stone_11 : decode cX11_stone 11 = .ok (.if_icmp .lt 58, 3) := by decide +kernel
theorem dX11_stone_14 : decode cX11_stone 14 = .ok (.iload_n 1, 1) := by decide +kernel
theorem dX11_stone_15 : decode cX11_stone 15 = .ok (.bipush 99, 2) := by decide +kernel
theorem dX11_stone_17 : decode cX11_stone 17 = .ok (.if_icmp .gt 52, 3) := by decide +kernel
theorem dX11_stone_20 : decode cX11_stone 20 = .ok (.iload_n 2, 1) := by decide +kernel
theorem dX11_stone_21 : decode cX11_stone 21 = .ok (.ifCond .lt 48, 3) := by decide +kernel
theorem dX11_stone_24 : decode cX11_stone 24 = .ok (.iload_n 2, 1) := by decide +kernel
theorem dX11_stone_25 : decode cX11_stone 25 = .ok (.bipush 20, 2) := by decide +kernel
theorem dX11_stone_27 : decode cX11_stone 27 = .ok (.if_icmp .gt 42, 3) := by decide +kernel
theorem dX11_stone_30 : decode cX11_stone 30 = .ok (.iload_n 3, 1) := by decide +kernel
theorem dX11_stone_31 : decode cX11_stone 31 = .ok (.ifCond .lt 38, 3) := by decide +kernel
theorem dX11_stone_34 : decode cX11_stone 34 = .ok (.iload_n 3, 1) := by decide +kernel
theorem dX11_stone_35 : decode cX11_stone 35 = .ok (.bipush 99, 2) := by decide +kernel
theorem dX11_stone_37 : decode cX11_stone 37 = .ok (.if_icmp .gt 32, 3) := by decide +kernel
theorem dX11_stone_40 : decode cX11_stone 40 = .ok (.aload 6, 2) := by decide +kernel
theorem dX11_stone_42 : decode cX11_stone 42 = .ok (.iload 4, 2) := by decide +kernel
theorem dX11_stone_44 : decode cX11_stone 44 = .ok (.invokevirtual 69, 3) := by decide +kernel
theorem dX11_stone_47 : decode cX11_stone 47 = .ok (.ifCond .eq 22, 3) := by decide +kernel
theorem dX11_stone_50 : decode cX11_stone 50 = .ok (.iload 5, 2) := by decide +kernel
theorem dX11_stone_52 : decode cX11_stone 52 = .ok (.ifCond .lt 17, 3) := by decide +kernel
theorem dX11_stone_55 : decode cX11_stone 55 = .ok (.iload 5, 2) := by decide +kernel
theorem dX11_stone_57 : decode cX11_stone 57 = .ok (.iload 4, 2) := by decide +kernel
theorem dX11_stone_59 : decode cX11_stone 59 = .ok (.invokestatic 75, 3) := by decide +kernel
theorem dX11_stone_62 : decode cX11_stone 62 = .ok (.if_icmp .gt 7, 3) := by decide +kernel
theorem dX11_stone_65 : decode cX11_stone 65 = .ok (.iconst 1, 1) := by decide +kernel
theorem dX11_stone_66 : decode cX11_stone 66 = .ok (.goto 4, 3) := by decide +kernel
theorem dX11_stone_69 : decode cX11_stone 69 = .ok (.iconst 0, 1) := by decide +kernel
theorem dX11_stone_70 : decode cX11_stone 70 = .ok (.istore 7, 2) := by decide +kernel
theorem dX11_stone_72 : decode cX11_stone 72 = .ok (.iload 7, 2) := by decide +kernel
theorem dX11_stone_74 : decode cX11_stone 74 = .ok (.ifCond .eq 13, 3) := by decide +kernel
theorem dX11_stone_77 : decode cX11_stone 77 = .ok (.aload 6, 2) := by decide +kernel
theorem dX11_stone_79 : decode cX11_stone 79 = .ok (.getfield 81, 3) := by decide +kernel
theorem dX11_stone_82 : decode cX11_stone 82 = .ok (.bipush 12, 2) := by decide +kernel
theorem dX11_stone_84 : decode cX11_stone 84 = .ok (.if_icmp .lt 5, 3) := by decide +kernel
theorem dX11_stone_87 : decode cX11_stone 87 = .ok (.iconst (-1), 1) := by decide +kernel
theorem dX11_stone_88 : decode cX11_stone 88 = .ok (.ireturn, 1) := by decide +kernel
theorem dX11_stone_89 : decode cX11_stone 89 = .ok (.aload_n 0, 1) := by decide +kernel
theorem dX11_stone_90 : decode cX11_stone 90 = .ok (.getfield 43, 3) := by decide +kernel
theorem dX11_stone_93 : decode cX11_stone 93 = .ok (.invokevirtual 84, 3) := by decide +kernel
theorem dX11_stone_96 : decode cX11_stone 96 = .ok (.aload 6, 2) := by decide +kernel
theorem dX11_stone_98 : decode cX11_stone 98 = .ok (.getfield 81, 3) := by decide +kernel
theorem dX11_stone_101 : decode cX11_stone 101 = .ok (.istore 8, 2) := by decide +kernel
theorem dX11_stone_103 : decode cX11_stone 103 = .ok (.aload 6, 2) := by decide +kernel
theorem dX11_stone_105 : decode cX11_stone 105 = .ok (.getfield 87, 3) := by decide +kernel
theorem dX11_stone_108 : decode cX11_stone 108 = .ok (.iload 8, 2) := by decide +kernel
theorem dX11_stone_110 : decode cX11_stone 110 = .ok (.iload_n 1, 1) := by decide +kernel
theorem dX11_stone_111 : decode cX11_stone 111 = .ok (.iastore, 1) := by decide +kernel
theorem dX11_stone_112 : decode cX11_stone 112 = .ok (.aload 6, 2) := by decide +kernel
theorem dX11_stone_114 : decode cX11_stone 114 = .ok (.getfield 91, 3) := by decide +kernel
theorem dX11_stone_117 : decode cX11_stone 117 = .ok (.iload 8, 2) := by decide +kernel
theorem dX11_stone_119 : decode cX11_stone 119 = .ok (.iload_n 2, 1) := by decide +kernel
theorem dX11_stone_120 : decode cX11_stone 120 = .ok (.iastore, 1) := by decide +kernel
theorem dX11_stone_121 : decode cX11_stone 121 = .ok (.aload 6, 2) := by decide +kernel
theorem dX11_stone_123 : decode cX11_stone 123 = .ok (.getfield 94, 3) := by decide +kernel
theorem dX11_stone_126 : decode cX11_stone 126 = .ok (.iload 8, 2) := by decide +kernel
theorem dX11_stone_128 : decode cX11_stone 128 = .ok (.iload_n 3, 1) := by decide +kernel
theorem dX11_stone_129 : decode cX11_stone 129 = .ok (.iastore, 1) := by decide +kernel
theorem dX11_stone_130 : decode cX11_stone 130 = .ok (.aload 6, 2) := by decide +kernel
theorem dX11_stone_132 : decode cX11_stone 132 = .ok (.getfield 97, 3) := by decide +kernel
theorem dX11_stone_135 : decode cX11_stone 135 = .ok (.iload 8, 2) := by decide +kernel
theorem dX11_stone_137 : decode cX11_stone 137 = .ok (.iload 4, 2) := by decide +kernel
theorem dX11_stone_139 : decode cX11_stone 139 = .ok (.iastore, 1) := by decide +kernel
theorem dX11_stone_140 : decode cX11_stone 140 = .ok (.aload 6, 2) := by decide +kernel
theorem dX11_stone_142 : decode cX11_stone 142 = .ok (.getfield 100, 3) := by decide +kernel
theorem dX11_stone_145 : decode cX11_stone 145 = .ok (.iload 8, 2) := by decide +kernel
theorem dX11_stone_147 : decode cX11_stone 147 = .ok (.iload 5, 2) := by decide +kernel
theorem dX11_stone_149 : decode cX11_stone 149 = .ok (.iastore, 1) := by decide +kernel
theorem dX11_stone_150 : decode cX11_stone 150 = .ok (.aload 6, 2) := by decide +kernel
theorem dX11_stone_152 : decode cX11_stone 152 = .ok (.iload 8, 2) := by decide +kernel
theorem dX11_stone_154 : decode cX11_stone 154 = .ok (.iconst 1, 1) := by decide +kernel
theorem dX11_stone_155 : decode cX11_stone 155 = .ok (.iadd, 1) := by decide +kernel
theorem dX11_stone_156 : decode cX11_stone 156 = .ok (.putfield 81, 3) := by decide +kernel
theorem dX11_stone_159 : decode cX11_stone 159 = .ok (.iload 8, 2) := by decide +kernel
theorem dX11_stone_161 : decode cX11_stone 161 = .ok (.ireturn, 1) := by decide +kernel
theorem dX11_hour_0 : decode cX11_hour 0 = .ok (.iload_n 1, 1) := by decide +kernel
theorem dX11_hour_1 : decode cX11_hour 1 = .ok (.ifCond .lt 9, 3) := by decide +kernel
theorem dX11_hour_4 : decode cX11_hour 4 = .ok (.iload_n 1, 1) := by decide +kernel
theorem dX11_hour_5 : decode cX11_hour 5 = .ok (.bipush 24, 2) := by decide +kernel
theorem dX11_hour_7 : decode cX11_hour 7 = .ok (.if_icmp .lt 5, 3) := by decide +kernel
theorem dX11_hour_10 : decode cX11_hour 10 = .ok (.iconst 0, 1) := by decide +kernel
theorem dX11_hour_11 : decode cX11_hour 11 = .ok (.ireturn, 1) := by decide +kernel
theorem dX11_hour_12 : decode cX11_hour 12 = .ok (.aload_n 0, 1) := by decide +kernel
theorem dX11_hour_13 : decode cX11_hour 13 = .ok (.getfield 43, 3) := by decide +kernel
theorem dX11_hour_16 : decode cX11_hour 16 = .ok (.invokevirtual 84, 3) := by decide +kernel
theorem dX11_hour_19 : decode cX11_hour 19 = .ok (.aload_n 0, 1) := by decide +kernel
theorem dX11_hour_20 : decode cX11_hour 20 = .ok (.getfield 12, 3) := by decide +kernel
theorem dX11_hour_23 : decode cX11_hour 23 = .ok (.iload_n 1, 1) := by decide +kernel
theorem dX11_hour_24 : decode cX11_hour 24 = .ok (.putfield 103, 3) := by decide +kernel
theorem dX11_hour_27 : decode cX11_hour 27 = .ok (.iconst 1, 1) := by decide +kernel
theorem dX11_hour_28 : decode cX11_hour 28 = .ok (.ireturn, 1) := by decide +kernel
theorem dX11_house_0 : decode cX11_house 0 = .ok (.aload_n 0, 1) := by decide +kernel
theorem dX11_house_1 : decode cX11_house 1 = .ok (.getfield 12, 3) := by decide +kernel
theorem dX11_house_4 : decode cX11_house 4 = .ok (.getfield 106, 3) := by decide +kernel
theorem dX11_house_7 : decode cX11_house 7 = .ok (.astore_n 2, 1) := by decide +kernel
theorem dX11_house_8 : decode cX11_house 8 = .ok (.iload_n 1, 1) := by decide +kernel
theorem dX11_house_9 : decode cX11_house 9 = .ok (.ifCond .lt 18, 3) := by decide +kernel
theorem dX11_house_12 : decode cX11_house 12 = .ok (.iload_n 1, 1) := by decide +kernel
theorem dX11_house_13 : decode cX11_house 13 = .ok (.bipush 99, 2) := by decide +kernel
theorem dX11_house_15 : decode cX11_house 15 = .ok (.if_icmp .gt 12, 3) := by decide +kernel
theorem dX11_house_18 : decode cX11_house 18 = .ok (.aload_n 2, 1) := by decide +kernel
theorem dX11_house_19 : decode cX11_house 19 = .ok (.getfield 110, 3) := by decide +kernel
theorem dX11_house_22 : decode cX11_house 22 = .ok (.bipush 10, 2) := by decide +kernel
theorem dX11_house_24 : decode cX11_house 24 = .ok (.if_icmp .lt 5, 3) := by decide +kernel
theorem dX11_house_27 : decode cX11_house 27 = .ok (.iconst (-1), 1) := by decide +kernel
theorem dX11_house_28 : decode cX11_house 28 = .ok (.ireturn, 1) := by decide +kernel
theorem dX11_house_29 : decode cX11_house 29 = .ok (.aload_n 2, 1) := by decide +kernel
theorem dX11_house_30 : decode cX11_house 30 = .ok (.getfield 110, 3) := by decide +kernel
theorem dX11_house_33 : decode cX11_house 33 = .ok (.istore_n 3, 1) := by decide +kernel
theorem dX11_house_34 : decode cX11_house 34 = .ok (.aload_n 2, 1) := by decide +kernel
theorem dX11_house_35 : decode cX11_house 35 = .ok (.getfield 113, 3) := by decide +kernel
theorem dX11_house_38 : decode cX11_house 38 = .ok (.iload_n 3, 1) := by decide +kernel
theorem dX11_house_39 : decode cX11_house 39 = .ok (.iload_n 1, 1) := by decide +kernel
theorem dX11_house_40 : decode cX11_house 40 = .ok (.iastore, 1) := by decide +kernel
theorem dX11_house_41 : decode cX11_house 41 = .ok (.aload_n 2, 1) := by decide +kernel
theorem dX11_house_42 : decode cX11_house 42 = .ok (.getfield 116, 3) := by decide +kernel
theorem dX11_house_45 : decode cX11_house 45 = .ok (.iload_n 3, 1) := by decide +kernel
theorem dX11_house_46 : decode cX11_house 46 = .ok (.iconst 0, 1) := by decide +kernel
theorem dX11_house_47 : decode cX11_house 47 = .ok (.iastore, 1) := by decide +kernel
theorem dX11_house_48 : decode cX11_house 48 = .ok (.aload_n 2, 1) := by decide +kernel
theorem dX11_house_49 : decode cX11_house 49 = .ok (.getfield 119, 3) := by decide +kernel
theorem dX11_house_52 : decode cX11_house 52 = .ok (.iload_n 3, 1) := by decide +kernel
theorem dX11_house_53 : decode cX11_house 53 = .ok (.iconst 0, 1) := by decide +kernel
theorem dX11_house_54 : decode cX11_house 54 = .ok (.iastore, 1) := by decide +kernel
theorem dX11_house_55 : decode cX11_house 55 = .ok (.aload_n 2, 1) := by decide +kernel
theorem dX11_house_56 : decode cX11_house 56 = .ok (.iload_n 3, 1) := by decide +kernel
theorem dX11_house_57 : decode cX11_house 57 = .ok (.iconst 1, 1) := by decide +kernel
theorem dX11_house_58 : decode cX11_house 58 = .ok (.iadd, 1) := by decide +kernel
theorem dX11_house_59 : decode cX11_house 59 = .ok (.putfield 110, 3) := by decide +kernel
theorem dX11_house_62 : decode cX11_house 62 = .ok (.iload_n 3, 1) := by decide +kernel
theorem dX11_house_63 : decode cX11_house 63 = .ok (.ireturn, 1) := by decide +kernel
theorem dX11_touch_0 : decode cX11_touch 0 = .ok (.aload_n 0, 1) := by decide +kernel
theorem dX11_touch_1 : decode cX11_touch 1 = .ok (.getfield 12, 3) := by decide +kernel
theorem dX11_touch_4 : decode cX11_touch 4 = .ok (.getfield 106, 3) := by decide +kernel
theorem dX11_touch_7 : decode cX11_touch 7 = .ok (.iload_n 1, 1) := by decide +kernel
theorem dX11_touch_8 : decode cX11_touch 8 = .ok (.invokevirtual 122, 3) := by decide +kernel
theorem dX11_touch_11 : decode cX11_touch 11 = .ok (.ifCond .eq 22, 3) := by decide +kernel
theorem dX11_touch_14 : decode cX11_touch 14 = .ok (.aload_n 0, 1) := by decide +kernel
theorem dX11_touch_15 : decode cX11_touch 15 = .ok (.getfield 12, 3) := by decide +kernel
theorem dX11_touch_18 : decode cX11_touch 18 = .ok (.getfield 106, 3) := by decide +kernel
theorem dX11_touch_21 : decode cX11_touch 21 = .ok (.iload_n 2, 1) := by decide +kernel
theorem dX11_touch_22 : decode cX11_touch 22 = .ok (.invokevirtual 122, 3) := by decide +kernel
theorem dX11_touch_25 : decode cX11_touch 25 = .ok (.ifCond .eq 8, 3) := by decide +kernel
theorem dX11_touch_28 : decode cX11_touch 28 = .ok (.iload_n 1, 1) := by decide +kernel
theorem dX11_touch_29 : decode cX11_touch 29 = .ok (.iload_n 2, 1) := by decide +kernel
theorem dX11_touch_30 : decode cX11_touch 30 = .ok (.if_icmp .ne 5, 3) := by decide +kernel
theorem dX11_touch_33 : decode cX11_touch 33 = .ok (.iconst 0, 1) := by decide +kernel
theorem dX11_touch_34 : decode cX11_touch 34 = .ok (.ireturn, 1) := by decide +kernel
theorem dX11_touch_35 : decode cX11_touch 35 = .ok (.aload_n 0, 1) := by decide +kernel
theorem dX11_touch_36 : decode cX11_touch 36 = .ok (.getfield 12, 3) := by decide +kernel
theorem dX11_touch_39 : decode cX11_touch 39 = .ok (.getfield 106, 3) := by decide +kernel
theorem dX11_touch_42 : decode cX11_touch 42 = .ok (.iload_n 1, 1) := by decide +kernel
theorem dX11_touch_43 : decode cX11_touch 43 = .ok (.iload_n 2, 1) := by decide +kernel
theorem dX11_touch_44 : decode cX11_touch 44 = .ok (.iload_n 3, 1) := by decide +kernel
theorem dX11_touch_45 : decode cX11_touch 45 = .ok (.invokevirtual 125, 3) := by decide +kernel
theorem dX11_touch_48 : decode cX11_touch 48 = .ok (.aload_n 0, 1) := by decide +kernel
theorem dX11_touch_49 : decode cX11_touch 49 = .ok (.getfield 12, 3) := by decide +kernel
theorem dX11_touch_52 : decode cX11_touch 52 = .ok (.getfield 106, 3) := by decide +kernel
theorem dX11_touch_55 : decode cX11_touch 55 = .ok (.iload_n 2, 1) := by decide +kernel
theorem dX11_touch_56 : decode cX11_touch 56 = .ok (.iload_n 1, 1) := by decide +kernel
theorem dX11_touch_57 : decode cX11_touch 57 = .ok (.iload_n 3, 1) := by decide +kernel
theorem dX11_touch_58 : decode cX11_touch 58 = .ok (.invokevirtual 125, 3) := by decide +kernel
theorem dX11_touch_61 : decode cX11_touch 61 = .ok (.iconst 1, 1) := by decide +kernel
theorem dX11_touch_62 : decode cX11_touch 62 = .ok (.ireturn, 1) := by decide +kernel
theorem dX11_feed_0 : decode cX11_feed 0 = .ok (.aload_n 0, 1) := by decide +kernel
theorem dX11_feed_1 : decode cX11_feed 1 = .ok (.getfield 22, 3) := by decide +kernel
theorem dX11_feed_4 : decode cX11_feed 4 = .ok (.getfield 129, 3) := by decide +kernel
theorem dX11_feed_7 : decode cX11_feed 7 = .ok (.sipush 280, 3) := by decide +kernel
theorem dX11_feed_10 : decode cX11_feed 10 = .ok (.if_icmp .le 5, 3) := by decide +kernel
theorem dX11_feed_13 : decode cX11_feed 13 = .ok (.iconst (-1), 1) := by decide +kernel
theorem dX11_feed_14 : decode cX11_feed 14 = .ok (.ireturn, 1) := by decide +kernel
theorem dX11_feed_15 : decode cX11_feed 15 = .ok (.aload_n 0, 1) := by decide +kernel
theorem dX11_feed_16 : decode cX11_feed 16 = .ok (.getfield 22, 3) := by decide +kernel
theorem dX11_feed_19 : decode cX11_feed 19 = .ok (.iload_n 1, 1) := by decide +kernel
theorem dX11_feed_20 : decode cX11_feed 20 = .ok (.invokevirtual 132, 3) := by decide +kernel
theorem dX11_feed_23 : decode cX11_feed 23 = .ok (.aload_n 0, 1) := by decide +kernel
theorem dX11_feed_24 : decode cX11_feed 24 = .ok (.getfield 22, 3) := by decide +kernel
theorem dX11_feed_27 : decode cX11_feed 27 = .ok (.iload_n 2, 1) := by decide +kernel
theorem dX11_feed_28 : decode cX11_feed 28 = .ok (.invokevirtual 132, 3) := by decide +kernel
theorem dX11_feed_31 : decode cX11_feed 31 = .ok (.aload_n 0, 1) := by decide +kernel
theorem dX11_feed_32 : decode cX11_feed 32 = .ok (.getfield 22, 3) := by decide +kernel
theorem dX11_feed_35 : decode cX11_feed 35 = .ok (.iload_n 3, 1) := by decide +kernel
theorem dX11_feed_36 : decode cX11_feed 36 = .ok (.invokevirtual 132, 3) := by decide +kernel
theorem dX11_feed_39 : decode cX11_feed 39 = .ok (.aload_n 0, 1) := by decide +kernel
theorem dX11_feed_40 : decode cX11_feed 40 = .ok (.getfield 22, 3) := by decide +kernel
theorem dX11_feed_43 : decode cX11_feed 43 = .ok (.iload 4, 2) := by decide +kernel
theorem dX11_feed_45 : decode cX11_feed 45 = .ok (.invokevirtual 132, 3) := by decide +kernel
theorem dX11_feed_48 : decode cX11_feed 48 = .ok (.aload_n 0, 1) := by decide +kernel
theorem dX11_feed_49 : decode cX11_feed 49 = .ok (.getfield 22, 3) := by decide +kernel
theorem dX11_feed_52 : decode cX11_feed 52 = .ok (.iload 5, 2) := by decide +kernel
theorem dX11_feed_54 : decode cX11_feed 54 = .ok (.invokevirtual 132, 3) := by decide +kernel
theorem dX11_feed_57 : decode cX11_feed 57 = .ok (.aload_n 0, 1) := by decide +kernel
theorem dX11_feed_58 : decode cX11_feed 58 = .ok (.getfield 22, 3) := by decide +kernel
theorem dX11_feed_61 : decode cX11_feed 61 = .ok (.getfield 129, 3) := by decide +kernel
theorem dX11_feed_64 : decode cX11_feed 64 = .ok (.ireturn, 1) := by decide +kernel
theorem dX11_end_0 : decode cX11_end 0 = .ok (.iload_n 1, 1) := by decide +kernel
theorem dX11_end_1 : decode cX11_end 1 = .ok (.ifCond .lt 14, 3) := by decide +kernel
theorem dX11_end_4 : decode cX11_end 4 = .ok (.iload_n 1, 1) := by decide +kernel
theorem dX11_end_5 : decode cX11_end 5 = .ok (.aload_n 0, 1) := by decide +kernel
theorem dX11_end_6 : decode cX11_end 6 = .ok (.getfield 22, 3) := by decide +kernel
theorem dX11_end_9 : decode cX11_end 9 = .ok (.getfield 129, 3) := by decide +kernel
theorem dX11_end_12 : decode cX11_end 12 = .ok (.if_icmp .le 5, 3) := by decide +kernel
theorem dX11_end_15 : decode cX11_end 15 = .ok (.iconst (-1), 1) := by decide +kernel
theorem dX11_end_16 : decode cX11_end 16 = .ok (.ireturn, 1) := by decide +kernel
theorem dX11_end_17 : decode cX11_end 17 = .ok (.aload_n 0, 1) := by decide +kernel
theorem dX11_end_18 : decode cX11_end 18 = .ok (.getfield 22, 3) := by decide +kernel
theorem dX11_end_21 : decode cX11_end 21 = .ok (.iload_n 1, 1) := by decide +kernel
theorem dX11_end_22 : decode cX11_end 22 = .ok (.putfield 129, 3) := by decide +kernel
theorem dX11_end_25 : decode cX11_end 25 = .ok (.iload_n 1, 1) := by decide +kernel
theorem dX11_end_26 : decode cX11_end 26 = .ok (.ireturn, 1) := by decide +kernel
theorem dX11_text_0 : decode cX11_text 0 = .ok (.aload_n 0, 1) := by decide +kernel
theorem dX11_text_1 : decode cX11_text 1 = .ok (.getfield 12, 3) := by decide +kernel
theorem dX11_text_4 : decode cX11_text 4 = .ok (.getfield 136, 3) := by decide +kernel
theorem dX11_text_7 : decode cX11_text 7 = .ok (.iconst 4, 1) := by decide +kernel
theorem dX11_text_8 : decode cX11_text 8 = .ok (.if_icmp .lt 5, 3) := by decide +kernel
theorem dX11_text_11 : decode cX11_text 11 = .ok (.iconst (-1), 1) := by decide +kernel
theorem dX11_text_12 : decode cX11_text 12 = .ok (.ireturn, 1) := by decide +kernel
theorem dX11_text_13 : decode cX11_text 13 = .ok (.aload_n 0, 1) := by decide +kernel
theorem dX11_text_14 : decode cX11_text 14 = .ok (.getfield 29, 3) := by decide +kernel
theorem dX11_text_17 : decode cX11_text 17 = .ok (.aload_n 0, 1) := by decide +kernel
theorem dX11_text_18 : decode cX11_text 18 = .ok (.getfield 22, 3) := by decide +kernel
theorem dX11_text_21 : decode cX11_text 21 = .ok (.invokevirtual 139, 3) := by decide +kernel
theorem dX11_text_24 : decode cX11_text 24 = .ok (.aload_n 0, 1) := by decide +kernel
theorem dX11_text_25 : decode cX11_text 25 = .ok (.iconst 1, 1) := by decide +kernel
theorem dX11_text_26 : decode cX11_text 26 = .ok (.putfield 54, 3) := by decide +kernel
theorem dX11_text_29 : decode cX11_text 29 = .ok (.aload_n 0, 1) := by decide +kernel
theorem dX11_text_30 : decode cX11_text 30 = .ok (.aload_n 0, 1) := by decide +kernel
theorem dX11_text_31 : decode cX11_text 31 = .ok (.getfield 29, 3) := by decide +kernel
theorem dX11_text_34 : decode cX11_text 34 = .ok (.getfield 143, 3) := by decide +kernel
theorem dX11_text_37 : decode cX11_text 37 = .ok (.putfield 58, 3) := by decide +kernel
theorem dX11_text_40 : decode cX11_text 40 = .ok (.aload_n 0, 1) := by decide +kernel
theorem dX11_text_41 : decode cX11_text 41 = .ok (.aload_n 0, 1) := by decide +kernel
theorem dX11_text_42 : decode cX11_text 42 = .ok (.getfield 29, 3) := by decide +kernel
theorem dX11_text_45 : decode cX11_text 45 = .ok (.getfield 146, 3) := by decide +kernel
theorem dX11_text_48 : decode cX11_text 48 = .ok (.putfield 62, 3) := by decide +kernel
theorem dX11_text_51 : decode cX11_text 51 = .ok (.aload_n 0, 1) := by decide +kernel
theorem dX11_text_52 : decode cX11_text 52 = .ok (.getfield 22, 3) := by decide +kernel
theorem dX11_text_55 : decode cX11_text 55 = .ok (.iconst 0, 1) := by decide +kernel
theorem dX11_text_56 : decode cX11_text 56 = .ok (.putfield 129, 3) := by decide +kernel
theorem dX11_text_59 : decode cX11_text 59 = .ok (.aload_n 0, 1) := by decide +kernel
theorem dX11_text_60 : decode cX11_text 60 = .ok (.getfield 58, 3) := by decide +kernel
theorem dX11_text_63 : decode cX11_text 63 = .ok (.ifCond .eq 5, 3) := by decide +kernel
theorem dX11_text_66 : decode cX11_text 66 = .ok (.iconst (-1), 1) := by decide +kernel
theorem dX11_text_67 : decode cX11_text 67 = .ok (.ireturn, 1) := by decide +kernel
theorem dX11_text_68 : decode cX11_text 68 = .ok (.aload_n 0, 1) := by decide +kernel
theorem dX11_text_69 : decode cX11_text 69 = .ok (.getfield 12, 3) := by decide +kernel
theorem dX11_text_72 : decode cX11_text 72 = .ok (.getfield 136, 3) := by decide +kernel
theorem dX11_text_75 : decode cX11_text 75 = .ok (.istore_n 1, 1) := by decide +kernel
theorem dX11_text_76 : decode cX11_text 76 = .ok (.aload_n 0, 1) := by decide +kernel
theorem dX11_text_77 : decode cX11_text 77 = .ok (.getfield 12, 3) := by decide +kernel
theorem dX11_text_80 : decode cX11_text 80 = .ok (.getfield 149, 3) := by decide +kernel
theorem dX11_text_83 : decode cX11_text 83 = .ok (.iload_n 1, 1) := by decide +kernel
theorem dX11_text_84 : decode cX11_text 84 = .ok (.aload_n 0, 1) := by decide +kernel
theorem dX11_text_85 : decode cX11_text 85 = .ok (.getfield 29, 3) := by decide +kernel
theorem dX11_text_88 : decode cX11_text 88 = .ok (.invokevirtual 153, 3) := by decide +kernel
theorem dX11_text_91 : decode cX11_text 91 = .ok (.aastore, 1) := by decide +kernel
theorem dX11_text_92 : decode cX11_text 92 = .ok (.aload_n 0, 1) := by decide +kernel
theorem dX11_text_93 : decode cX11_text 93 = .ok (.getfield 12, 3) := by decide +kernel
theorem dX11_text_96 : decode cX11_text 96 = .ok (.iload_n 1, 1) := by decide +kernel
theorem dX11_text_97 : decode cX11_text 97 = .ok (.iconst 1, 1) := by decide +kernel
theorem dX11_text_98 : decode cX11_text 98 = .ok (.iadd, 1) := by decide +kernel
theorem dX11_text_99 : decode cX11_text 99 = .ok (.putfield 136, 3) := by decide +kernel
theorem dX11_text_102 : decode cX11_text 102 = .ok (.iload_n 1, 1) := by decide +kernel
theorem dX11_text_103 : decode cX11_text 103 = .ok (.ireturn, 1) := by decide +kernel
theorem dX11_fault_0 : decode cX11_fault 0 = .ok (.aload_n 0, 1) := by decide +kernel
theorem dX11_fault_1 : decode cX11_fault 1 = .ok (.getfield 54, 3) := by decide +kernel
theorem dX11_fault_4 : decode cX11_fault 4 = .ok (.ifCond .ne 5, 3) := by decide +kernel
theorem dX11_fault_7 : decode cX11_fault 7 = .ok (.iconst (-1), 1) := by decide +kernel
theorem dX11_fault_8 : decode cX11_fault 8 = .ok (.ireturn, 1) := by decide +kernel
theorem dX11_fault_9 : decode cX11_fault 9 = .ok (.iload_n 1, 1) := by decide +kernel
theorem dX11_fault_10 : decode cX11_fault 10 = .ok (.ifCond .ne 8, 3) := by decide +kernel
theorem dX11_fault_13 : decode cX11_fault 13 = .ok (.aload_n 0, 1) := by decide +kernel
theorem dX11_fault_14 : decode cX11_fault 14 = .ok (.getfield 58, 3) := by decide +kernel
theorem dX11_fault_17 : decode cX11_fault 17 = .ok (.ireturn, 1) := by decide +kernel
theorem dX11_fault_18 : decode cX11_fault 18 = .ok (.iload_n 1, 1) := by decide +kernel
theorem dX11_fault_19 : decode cX11_fault 19 = .ok (.iconst 1, 1) := by decide +kernel
theorem dX11_fault_20 : decode cX11_fault 20 = .ok (.if_icmp .ne 10, 3) := by decide +kernel
theorem dX11_fault_23 : decode cX11_fault 23 = .ok (.aload_n 0, 1) := by decide +kernel
theorem dX11_fault_24 : decode cX11_fault 24 = .ok (.getfield 62, 3) := by decide +kernel
theorem dX11_fault_27 : decode cX11_fault 27 = .ok (.goto 4, 3) := by decide +kernel
theorem dX11_fault_30 : decode cX11_fault 30 = .ok (.iconst (-1), 1) := by decide +kernel
theorem dX11_fault_31 : decode cX11_fault 31 = .ok (.ireturn, 1) := by decide +kernel
theorem dX11_by_0 : decode cX11_by 0 = .ok (.iload_n 1, 1) := by decide +kernel
theorem dX11_by_1 : decode cX11_by 1 = .ok (.iconst (-1), 1) := by decide +kernel
theorem dX11_by_2 : decode cX11_by 2 = .ok (.if_icmp .eq 16, 3) := by decide +kernel
theorem dX11_by_5 : decode cX11_by 5 = .ok (.aload_n 0, 1) := by decide +kernel
theorem dX11_by_6 : decode cX11_by 6 = .ok (.getfield 12, 3) := by decide +kernel
theorem dX11_by_9 : decode cX11_by 9 = .ok (.iload_n 1, 1) := by decide +kernel
theorem dX11_by_10 : decode cX11_by 10 = .ok (.invokevirtual 157, 3) := by decide +kernel
theorem dX11_by_13 : decode cX11_by 13 = .ok (.ifCond .ne 5, 3) := by decide +kernel
theorem dX11_by_16 : decode cX11_by 16 = .ok (.iconst 0, 1) := by decide +kernel
theorem dX11_by_17 : decode cX11_by 17 = .ok (.ireturn, 1) := by decide +kernel
theorem dX11_by_18 : decode cX11_by 18 = .ok (.aload_n 0, 1) := by decide +kernel
theorem dX11_by_19 : decode cX11_by 19 = .ok (.getfield 43, 3) := by decide +kernel
theorem dX11_by_22 : decode cX11_by 22 = .ok (.invokevirtual 84, 3) := by decide +kernel
theorem dX11_by_25 : decode cX11_by 25 = .ok (.aload_n 0, 1) := by decide +kernel
theorem dX11_by_26 : decode cX11_by 26 = .ok (.getfield 12, 3) := by decide +kernel
theorem dX11_by_29 : decode cX11_by 29 = .ok (.iload_n 1, 1) := by decide +kernel
theorem dX11_by_30 : decode cX11_by 30 = .ok (.putfield 160, 3) := by decide +kernel
theorem dX11_by_33 : decode cX11_by 33 = .ok (.iconst 1, 1) := by decide +kernel
theorem dX11_by_34 : decode cX11_by 34 = .ok (.ireturn, 1) := by decide +kernel
theorem dX11_of_0 : decode cX11_of 0 = .ok (.aload_n 0, 1) := by decide +kernel
theorem dX11_of_1 : decode cX11_of 1 = .ok (.getfield 12, 3) := by decide +kernel
theorem dX11_of_4 : decode cX11_of 4 = .ok (.getfield 65, 3) := by decide +kernel
theorem dX11_of_7 : decode cX11_of 7 = .ok (.iload_n 1, 1) := by decide +kernel
theorem dX11_of_8 : decode cX11_of 8 = .ok (.invokevirtual 163, 3) := by decide +kernel
theorem dX11_of_11 : decode cX11_of 11 = .ok (.ifCond .ne 5, 3) := by decide +kernel
theorem dX11_of_14 : decode cX11_of 14 = .ok (.iconst (-1), 1) := by decide +kernel
theorem dX11_of_15 : decode cX11_of 15 = .ok (.ireturn, 1) := by decide +kernel
theorem dX11_of_16 : decode cX11_of 16 = .ok (.iload_n 2, 1) := by decide +kernel
theorem dX11_of_17 : decode cX11_of 17 = .ok (.tableswitch 112 0 4 #[35, 52, 66, 72, 85], 35) := by decide +kernel
theorem dX11_of_52 : decode cX11_of 52 = .ok (.aload_n 0, 1) := by decide +kernel
theorem dX11_of_53 : decode cX11_of 53 = .ok (.getfield 12, 3) := by decide +kernel
theorem dX11_of_56 : decode cX11_of 56 = .ok (.iload_n 1, 1) := by decide +kernel
theorem dX11_of_57 : decode cX11_of 57 = .ok (.invokevirtual 164, 3) := by decide +kernel
theorem dX11_of_60 : decode cX11_of 60 = .ok (.ifCond .eq 7, 3) := by decide +kernel
theorem dX11_of_63 : decode cX11_of 63 = .ok (.iconst 1, 1) := by decide +kernel
theorem dX11_of_64 : decode cX11_of 64 = .ok (.goto 4, 3) := by decide +kernel
theorem dX11_of_67 : decode cX11_of 67 = .ok (.iconst 0, 1) := by decide +kernel
theorem dX11_of_68 : decode cX11_of 68 = .ok (.ireturn, 1) := by decide +kernel
theorem dX11_of_69 : decode cX11_of 69 = .ok (.aload_n 0, 1) := by decide +kernel
theorem dX11_of_70 : decode cX11_of 70 = .ok (.iload_n 1, 1) := by decide +kernel
theorem dX11_of_71 : decode cX11_of 71 = .ok (.invokevirtual 167, 3) := by decide +kernel
theorem dX11_of_74 : decode cX11_of 74 = .ok (.ifCond .eq 7, 3) := by decide +kernel
theorem dX11_of_77 : decode cX11_of 77 = .ok (.iconst 1, 1) := by decide +kernel
theorem dX11_of_78 : decode cX11_of 78 = .ok (.goto 4, 3) := by decide +kernel
theorem dX11_of_81 : decode cX11_of 81 = .ok (.iconst 0, 1) := by decide +kernel
theorem dX11_of_82 : decode cX11_of 82 = .ok (.ireturn, 1) := by decide +kernel
theorem dX11_of_83 : decode cX11_of 83 = .ok (.aload_n 0, 1) := by decide +kernel
theorem dX11_of_84 : decode cX11_of 84 = .ok (.iload_n 1, 1) := by decide +kernel
theorem dX11_of_85 : decode cX11_of 85 = .ok (.invokevirtual 170, 3) := by decide +kernel
theorem dX11_of_88 : decode cX11_of 88 = .ok (.ireturn, 1) := by decide +kernel
theorem dX11_of_89 : decode cX11_of 89 = .ok (.aload_n 0, 1) := by decide +kernel
theorem dX11_of_90 : decode cX11_of 90 = .ok (.getfield 36, 3) := by decide +kernel
theorem dX11_of_93 : decode cX11_of 93 = .ok (.aload_n 0, 1) := by decide +kernel
theorem dX11_of_94 : decode cX11_of 94 = .ok (.getfield 12, 3) := by decide +kernel
theorem dX11_of_97 : decode cX11_of 97 = .ok (.iload_n 1, 1) := by decide +kernel
theorem dX11_of_98 : decode cX11_of 98 = .ok (.invokevirtual 173, 3) := by decide +kernel
theorem dX11_of_101 : decode cX11_of 101 = .ok (.ireturn, 1) := by decide +kernel
theorem dX11_of_102 : decode cX11_of 102 = .ok (.aload_n 0, 1) := by decide +kernel
theorem dX11_of_103 : decode cX11_of 103 = .ok (.getfield 12, 3) := by decide +kernel
theorem dX11_of_106 : decode cX11_of 106 = .ok (.getfield 65, 3) := by decide +kernel
theorem dX11_of_109 : decode cX11_of 109 = .ok (.iload_n 1, 1) := by decide +kernel
theorem dX11_of_110 : decode cX11_of 110 = .ok (.aload_n 0, 1) := by decide +kernel
theorem dX11_of_111 : decode cX11_of 111 = .ok (.getfield 12, 3) := by decide +kernel
theorem dX11_of_114 : decode cX11_of 114 = .ok (.getfield 177, 3) := by decide +kernel
theorem dX11_of_117 : decode cX11_of 117 = .ok (.invokevirtual 180, 3) := by decide +kernel
theorem dX11_of_120 : decode cX11_of 120 = .ok (.ifCond .eq 7, 3) := by decide +kernel
theorem dX11_of_123 : decode cX11_of 123 = .ok (.iconst 1, 1) := by decide +kernel
theorem dX11_of_124 : decode cX11_of 124 = .ok (.goto 4, 3) := by decide +kernel
theorem dX11_of_127 : decode cX11_of 127 = .ok (.iconst 0, 1) := by decide +kernel
theorem dX11_of_128 : decode cX11_of 128 = .ok (.ireturn, 1) := by decide +kernel
theorem dX11_of_129 : decode cX11_of 129 = .ok (.iconst (-1), 1) := by decide +kernel
theorem dX11_of_130 : decode cX11_of 130 = .ok (.ireturn, 1) := by decide +kernel
theorem dX11_stands_0 : decode cX11_stands 0 = .ok (.aload_n 0, 1) := by decide +kernel
theorem dX11_stands_1 : decode cX11_stands 1 = .ok (.getfield 12, 3) := by decide +kernel
theorem dX11_stands_4 : decode cX11_stands 4 = .ok (.getfield 65, 3) := by decide +kernel
theorem dX11_stands_7 : decode cX11_stands 7 = .ok (.iload_n 1, 1) := by decide +kernel
end
section
theorem dX11_stands_8 : decode cX11_stands 8 = .ok (.invokevirtual 69, 3) := by decide +kernel
theorem dX11_stands_11 : decode cX11_stands 11 = .ok (.ifCond .eq 21, 3) := by decide +kernel
theorem dX11_stands_14 : decode cX11_stands 14 = .ok (.aload_n 0, 1) := by decide +kernel
theorem dX11_stands_15 : decode cX11_stands 15 = .ok (.getfield 12, 3) := by decide +kernel
theorem dX11_stands_18 : decode cX11_stands 18 = .ok (.getfield 65, 3) := by decide +kernel
theorem dX11_stands_21 : decode cX11_stands 21 = .ok (.iload_n 1, 1) := by decide +kernel
theorem dX11_stands_22 : decode cX11_stands 22 = .ok (.invokevirtual 184, 3) := by decide +kernel
theorem dX11_stands_25 : decode cX11_stands 25 = .ok (.ifCond .eq 7, 3) := by decide +kernel
theorem dX11_stands_28 : decode cX11_stands 28 = .ok (.iconst 1, 1) := by decide +kernel
theorem dX11_stands_29 : decode cX11_stands 29 = .ok (.goto 4, 3) := by decide +kernel
theorem dX11_stands_32 : decode cX11_stands 32 = .ok (.iconst 0, 1) := by decide +kernel
theorem dX11_stands_33 : decode cX11_stands 33 = .ok (.ireturn, 1) := by decide +kernel
theorem dX11_lay_0 : decode cX11_lay 0 = .ok (.aload_n 0, 1) := by decide +kernel
theorem dX11_lay_1 : decode cX11_lay 1 = .ok (.getfield 12, 3) := by decide +kernel
theorem dX11_lay_4 : decode cX11_lay 4 = .ok (.getfield 65, 3) := by decide +kernel
theorem dX11_lay_7 : decode cX11_lay 7 = .ok (.iload_n 1, 1) := by decide +kernel
theorem dX11_lay_8 : decode cX11_lay 8 = .ok (.invokevirtual 163, 3) := by decide +kernel
theorem dX11_lay_11 : decode cX11_lay 11 = .ok (.ifCond .eq 11, 3) := by decide +kernel
theorem dX11_lay_14 : decode cX11_lay 14 = .ok (.aload_n 0, 1) := by decide +kernel
theorem dX11_lay_15 : decode cX11_lay 15 = .ok (.iload_n 1, 1) := by decide +kernel
theorem dX11_lay_16 : decode cX11_lay 16 = .ok (.invokevirtual 167, 3) := by decide +kernel
theorem dX11_lay_19 : decode cX11_lay 19 = .ok (.ifCond .ne 5, 3) := by decide +kernel
theorem dX11_lay_22 : decode cX11_lay 22 = .ok (.iconst (-1), 1) := by decide +kernel
theorem dX11_lay_23 : decode cX11_lay 23 = .ok (.ireturn, 1) := by decide +kernel
theorem dX11_lay_24 : decode cX11_lay 24 = .ok (.aload_n 0, 1) := by decide +kernel
theorem dX11_lay_25 : decode cX11_lay 25 = .ok (.iload_n 1, 1) := by decide +kernel
theorem dX11_lay_26 : decode cX11_lay 26 = .ok (.invokevirtual 170, 3) := by decide +kernel
theorem dX11_lay_29 : decode cX11_lay 29 = .ok (.istore_n 2, 1) := by decide +kernel
theorem dX11_lay_30 : decode cX11_lay 30 = .ok (.aload_n 0, 1) := by decide +kernel
theorem dX11_lay_31 : decode cX11_lay 31 = .ok (.getfield 12, 3) := by decide +kernel
theorem dX11_lay_34 : decode cX11_lay 34 = .ok (.getfield 187, 3) := by decide +kernel
theorem dX11_lay_37 : decode cX11_lay 37 = .ok (.aload_n 0, 1) := by decide +kernel
theorem dX11_lay_38 : decode cX11_lay 38 = .ok (.getfield 12, 3) := by decide +kernel
theorem dX11_lay_41 : decode cX11_lay 41 = .ok (.getfield 177, 3) := by decide +kernel
theorem dX11_lay_44 : decode cX11_lay 44 = .ok (.aload_n 0, 1) := by decide +kernel
theorem dX11_lay_45 : decode cX11_lay 45 = .ok (.getfield 12, 3) := by decide +kernel
theorem dX11_lay_48 : decode cX11_lay 48 = .ok (.getfield 106, 3) := by decide +kernel
theorem dX11_lay_51 : decode cX11_lay 51 = .ok (.invokevirtual 191, 3) := by decide +kernel
theorem dX11_lay_54 : decode cX11_lay 54 = .ok (.aload_n 0, 1) := by decide +kernel
theorem dX11_lay_55 : decode cX11_lay 55 = .ok (.getfield 12, 3) := by decide +kernel
theorem dX11_lay_58 : decode cX11_lay 58 = .ok (.dup, 1) := by decide +kernel
theorem dX11_lay_59 : decode cX11_lay 59 = .ok (.getfield 177, 3) := by decide +kernel
theorem dX11_lay_62 : decode cX11_lay 62 = .ok (.iconst 1, 1) := by decide +kernel
theorem dX11_lay_63 : decode cX11_lay 63 = .ok (.iload_n 1, 1) := by decide +kernel
theorem dX11_lay_64 : decode cX11_lay 64 = .ok (.ishl, 1) := by decide +kernel
theorem dX11_lay_65 : decode cX11_lay 65 = .ok (.ior, 1) := by decide +kernel
theorem dX11_lay_66 : decode cX11_lay 66 = .ok (.putfield 177, 3) := by decide +kernel
theorem dX11_lay_69 : decode cX11_lay 69 = .ok (.iload_n 2, 1) := by decide +kernel
theorem dX11_lay_70 : decode cX11_lay 70 = .ok (.ireturn, 1) := by decide +kernel
theorem dX11_out_0 : decode cX11_out 0 = .ok (.aload_n 0, 1) := by decide +kernel
theorem dX11_out_1 : decode cX11_out 1 = .ok (.getfield 12, 3) := by decide +kernel
theorem dX11_out_4 : decode cX11_out 4 = .ok (.getfield 65, 3) := by decide +kernel
theorem dX11_out_7 : decode cX11_out 7 = .ok (.iload_n 1, 1) := by decide +kernel
theorem dX11_out_8 : decode cX11_out 8 = .ok (.invokevirtual 163, 3) := by decide +kernel
theorem dX11_out_11 : decode cX11_out 11 = .ok (.ifCond .eq 14, 3) := by decide +kernel
theorem dX11_out_14 : decode cX11_out 14 = .ok (.aload_n 0, 1) := by decide +kernel
theorem dX11_out_15 : decode cX11_out 15 = .ok (.getfield 12, 3) := by decide +kernel
theorem dX11_out_18 : decode cX11_out 18 = .ok (.iload_n 1, 1) := by decide +kernel
theorem dX11_out_19 : decode cX11_out 19 = .ok (.invokevirtual 164, 3) := by decide +kernel
theorem dX11_out_22 : decode cX11_out 22 = .ok (.ifCond .ne 5, 3) := by decide +kernel
theorem dX11_out_25 : decode cX11_out 25 = .ok (.iconst (-1), 1) := by decide +kernel
theorem dX11_out_26 : decode cX11_out 26 = .ok (.ireturn, 1) := by decide +kernel
theorem dX11_out_27 : decode cX11_out 27 = .ok (.aload_n 0, 1) := by decide +kernel
theorem dX11_out_28 : decode cX11_out 28 = .ok (.getfield 12, 3) := by decide +kernel
theorem dX11_out_31 : decode cX11_out 31 = .ok (.getfield 177, 3) := by decide +kernel
theorem dX11_out_34 : decode cX11_out 34 = .ok (.iconst 1, 1) := by decide +kernel
theorem dX11_out_35 : decode cX11_out 35 = .ok (.iload_n 1, 1) := by decide +kernel
theorem dX11_out_36 : decode cX11_out 36 = .ok (.ishl, 1) := by decide +kernel
theorem dX11_out_37 : decode cX11_out 37 = .ok (.iconst (-1), 1) := by decide +kernel
theorem dX11_out_38 : decode cX11_out 38 = .ok (.ixor, 1) := by decide +kernel
theorem dX11_out_39 : decode cX11_out 39 = .ok (.iand, 1) := by decide +kernel
theorem dX11_out_40 : decode cX11_out 40 = .ok (.istore_n 2, 1) := by decide +kernel
theorem dX11_out_41 : decode cX11_out 41 = .ok (.aload_n 0, 1) := by decide +kernel
theorem dX11_out_42 : decode cX11_out 42 = .ok (.getfield 12, 3) := by decide +kernel
theorem dX11_out_45 : decode cX11_out 45 = .ok (.getfield 65, 3) := by decide +kernel
theorem dX11_out_48 : decode cX11_out 48 = .ok (.iload_n 2, 1) := by decide +kernel
theorem dX11_out_49 : decode cX11_out 49 = .ok (.invokevirtual 184, 3) := by decide +kernel
theorem dX11_out_52 : decode cX11_out 52 = .ok (.ifCond .ne 5, 3) := by decide +kernel
theorem dX11_out_55 : decode cX11_out 55 = .ok (.iconst (-1), 1) := by decide +kernel
theorem dX11_out_56 : decode cX11_out 56 = .ok (.ireturn, 1) := by decide +kernel
theorem dX11_out_57 : decode cX11_out 57 = .ok (.aload_n 0, 1) := by decide +kernel
theorem dX11_out_58 : decode cX11_out 58 = .ok (.getfield 12, 3) := by decide +kernel
theorem dX11_out_61 : decode cX11_out 61 = .ok (.getfield 187, 3) := by decide +kernel
theorem dX11_out_64 : decode cX11_out 64 = .ok (.aload_n 0, 1) := by decide +kernel
theorem dX11_out_65 : decode cX11_out 65 = .ok (.getfield 12, 3) := by decide +kernel
theorem dX11_out_68 : decode cX11_out 68 = .ok (.getfield 177, 3) := by decide +kernel
theorem dX11_out_71 : decode cX11_out 71 = .ok (.aload_n 0, 1) := by decide +kernel
theorem dX11_out_72 : decode cX11_out 72 = .ok (.getfield 12, 3) := by decide +kernel
theorem dX11_out_75 : decode cX11_out 75 = .ok (.getfield 106, 3) := by decide +kernel
theorem dX11_out_78 : decode cX11_out 78 = .ok (.invokevirtual 191, 3) := by decide +kernel
theorem dX11_out_81 : decode cX11_out 81 = .ok (.aload_n 0, 1) := by decide +kernel
theorem dX11_out_82 : decode cX11_out 82 = .ok (.getfield 12, 3) := by decide +kernel
theorem dX11_out_85 : decode cX11_out 85 = .ok (.iload_n 2, 1) := by decide +kernel
theorem dX11_out_86 : decode cX11_out 86 = .ok (.putfield 177, 3) := by decide +kernel
theorem dX11_out_89 : decode cX11_out 89 = .ok (.iload_n 2, 1) := by decide +kernel
theorem dX11_out_90 : decode cX11_out 90 = .ok (.invokestatic 75, 3) := by decide +kernel
theorem dX11_out_93 : decode cX11_out 93 = .ok (.ireturn, 1) := by decide +kernel
theorem dX11_lend_0 : decode cX11_lend 0 = .ok (.aload_n 0, 1) := by decide +kernel
theorem dX11_lend_1 : decode cX11_lend 1 = .ok (.getfield 12, 3) := by decide +kernel
theorem dX11_lend_4 : decode cX11_lend 4 = .ok (.getfield 106, 3) := by decide +kernel
theorem dX11_lend_7 : decode cX11_lend 7 = .ok (.iload_n 1, 1) := by decide +kernel
theorem dX11_lend_8 : decode cX11_lend 8 = .ok (.iload_n 2, 1) := by decide +kernel
theorem dX11_lend_9 : decode cX11_lend 9 = .ok (.invokevirtual 197, 3) := by decide +kernel
theorem dX11_lend_12 : decode cX11_lend 12 = .ok (.ifCond .ne 5, 3) := by decide +kernel
theorem dX11_lend_15 : decode cX11_lend 15 = .ok (.iconst (-1), 1) := by decide +kernel
theorem dX11_lend_16 : decode cX11_lend 16 = .ok (.ireturn, 1) := by decide +kernel
theorem dX11_lend_17 : decode cX11_lend 17 = .ok (.aload_n 0, 1) := by decide +kernel
theorem dX11_lend_18 : decode cX11_lend 18 = .ok (.getfield 12, 3) := by decide +kernel
theorem dX11_lend_21 : decode cX11_lend 21 = .ok (.getfield 187, 3) := by decide +kernel
theorem dX11_lend_24 : decode cX11_lend 24 = .ok (.aload_n 0, 1) := by decide +kernel
theorem dX11_lend_25 : decode cX11_lend 25 = .ok (.getfield 12, 3) := by decide +kernel
theorem dX11_lend_28 : decode cX11_lend 28 = .ok (.getfield 177, 3) := by decide +kernel
theorem dX11_lend_31 : decode cX11_lend 31 = .ok (.aload_n 0, 1) := by decide +kernel
theorem dX11_lend_32 : decode cX11_lend 32 = .ok (.getfield 12, 3) := by decide +kernel
theorem dX11_lend_35 : decode cX11_lend 35 = .ok (.getfield 106, 3) := by decide +kernel
theorem dX11_lend_38 : decode cX11_lend 38 = .ok (.invokevirtual 191, 3) := by decide +kernel
theorem dX11_lend_41 : decode cX11_lend 41 = .ok (.aload_n 0, 1) := by decide +kernel
theorem dX11_lend_42 : decode cX11_lend 42 = .ok (.getfield 12, 3) := by decide +kernel
theorem dX11_lend_45 : decode cX11_lend 45 = .ok (.getfield 106, 3) := by decide +kernel
theorem dX11_lend_48 : decode cX11_lend 48 = .ok (.iload_n 1, 1) := by decide +kernel
theorem dX11_lend_49 : decode cX11_lend 49 = .ok (.iload_n 2, 1) := by decide +kernel
theorem dX11_lend_50 : decode cX11_lend 50 = .ok (.invokevirtual 200, 3) := by decide +kernel
theorem dX11_lend_53 : decode cX11_lend 53 = .ok (.aload_n 0, 1) := by decide +kernel
theorem dX11_lend_54 : decode cX11_lend 54 = .ok (.getfield 12, 3) := by decide +kernel
theorem dX11_lend_57 : decode cX11_lend 57 = .ok (.getfield 106, 3) := by decide +kernel
theorem dX11_lend_60 : decode cX11_lend 60 = .ok (.getfield 113, 3) := by decide +kernel
theorem dX11_lend_63 : decode cX11_lend 63 = .ok (.iload_n 1, 1) := by decide +kernel
theorem dX11_lend_64 : decode cX11_lend 64 = .ok (.iaload, 1) := by decide +kernel
theorem dX11_lend_65 : decode cX11_lend 65 = .ok (.ireturn, 1) := by decide +kernel
theorem dX11_played_0 : decode cX11_played 0 = .ok (.aload_n 0, 1) := by decide +kernel
theorem dX11_played_1 : decode cX11_played 1 = .ok (.getfield 12, 3) := by decide +kernel
theorem dX11_played_4 : decode cX11_played 4 = .ok (.iload_n 1, 1) := by decide +kernel
theorem dX11_played_5 : decode cX11_played 5 = .ok (.invokevirtual 157, 3) := by decide +kernel
theorem dX11_played_8 : decode cX11_played 8 = .ok (.ifCond .ne 6, 3) := by decide +kernel
theorem dX11_played_11 : decode cX11_played 11 = .ok (.bipush (-2), 2) := by decide +kernel
theorem dX11_played_13 : decode cX11_played 13 = .ok (.ireturn, 1) := by decide +kernel
theorem dX11_played_14 : decode cX11_played 14 = .ok (.aload_n 0, 1) := by decide +kernel
theorem dX11_played_15 : decode cX11_played 15 = .ok (.getfield 12, 3) := by decide +kernel
theorem dX11_played_18 : decode cX11_played 18 = .ok (.getfield 149, 3) := by decide +kernel
theorem dX11_played_21 : decode cX11_played 21 = .ok (.iload_n 1, 1) := by decide +kernel
theorem dX11_played_22 : decode cX11_played 22 = .ok (.aaload, 1) := by decide +kernel
theorem dX11_played_23 : decode cX11_played 23 = .ok (.astore_n 2, 1) := by decide +kernel
theorem dX11_played_24 : decode cX11_played 24 = .ok (.iconst 0, 1) := by decide +kernel
theorem dX11_played_25 : decode cX11_played 25 = .ok (.istore_n 3, 1) := by decide +kernel
theorem dX11_played_26 : decode cX11_played 26 = .ok (.iload_n 3, 1) := by decide +kernel
theorem dX11_played_27 : decode cX11_played 27 = .ok (.aload_n 2, 1) := by decide +kernel
theorem dX11_played_28 : decode cX11_played 28 = .ok (.getfield 204, 3) := by decide +kernel
theorem dX11_played_31 : decode cX11_played 31 = .ok (.if_icmp .ge 20, 3) := by decide +kernel
theorem dX11_played_34 : decode cX11_played 34 = .ok (.aload_n 0, 1) := by decide +kernel
theorem dX11_played_35 : decode cX11_played 35 = .ok (.aload_n 2, 1) := by decide +kernel
theorem dX11_played_36 : decode cX11_played 36 = .ok (.iload_n 3, 1) := by decide +kernel
theorem dX11_played_37 : decode cX11_played 37 = .ok (.invokevirtual 209, 3) := by decide +kernel
theorem dX11_played_40 : decode cX11_played 40 = .ok (.ifCond .ne 5, 3) := by decide +kernel
theorem dX11_played_43 : decode cX11_played 43 = .ok (.iload_n 3, 1) := by decide +kernel
theorem dX11_played_44 : decode cX11_played 44 = .ok (.ireturn, 1) := by decide +kernel
theorem dX11_played_45 : decode cX11_played 45 = .ok (.iinc 3 1, 3) := by decide +kernel
theorem dX11_played_48 : decode cX11_played 48 = .ok (.goto (-22), 3) := by decide +kernel
theorem dX11_played_51 : decode cX11_played 51 = .ok (.iconst (-1), 1) := by decide +kernel
theorem dX11_played_52 : decode cX11_played 52 = .ok (.ireturn, 1) := by decide +kernel
theorem dX11_undo_0 : decode cX11_undo 0 = .ok (.aload_n 0, 1) := by decide +kernel
theorem dX11_undo_1 : decode cX11_undo 1 = .ok (.getfield 12, 3) := by decide +kernel
theorem dX11_undo_4 : decode cX11_undo 4 = .ok (.getfield 187, 3) := by decide +kernel
theorem dX11_undo_7 : decode cX11_undo 7 = .ok (.getfield 213, 3) := by decide +kernel
theorem dX11_undo_10 : decode cX11_undo 10 = .ok (.ifCond .ne 5, 3) := by decide +kernel
theorem dX11_undo_13 : decode cX11_undo 13 = .ok (.iconst (-1), 1) := by decide +kernel
theorem dX11_undo_14 : decode cX11_undo 14 = .ok (.ireturn, 1) := by decide +kernel
theorem dX11_undo_15 : decode cX11_undo 15 = .ok (.aload_n 0, 1) := by decide +kernel
theorem dX11_undo_16 : decode cX11_undo 16 = .ok (.getfield 12, 3) := by decide +kernel
theorem dX11_undo_19 : decode cX11_undo 19 = .ok (.aload_n 0, 1) := by decide +kernel
theorem dX11_undo_20 : decode cX11_undo 20 = .ok (.getfield 12, 3) := by decide +kernel
theorem dX11_undo_23 : decode cX11_undo 23 = .ok (.getfield 187, 3) := by decide +kernel
theorem dX11_undo_26 : decode cX11_undo 26 = .ok (.aload_n 0, 1) := by decide +kernel
theorem dX11_undo_27 : decode cX11_undo 27 = .ok (.getfield 12, 3) := by decide +kernel
theorem dX11_undo_30 : decode cX11_undo 30 = .ok (.getfield 106, 3) := by decide +kernel
theorem dX11_undo_33 : decode cX11_undo 33 = .ok (.invokevirtual 214, 3) := by decide +kernel
theorem dX11_undo_36 : decode cX11_undo 36 = .ok (.putfield 177, 3) := by decide +kernel
theorem dX11_undo_39 : decode cX11_undo 39 = .ok (.aload_n 0, 1) := by decide +kernel
theorem dX11_undo_40 : decode cX11_undo 40 = .ok (.getfield 12, 3) := by decide +kernel
theorem dX11_undo_43 : decode cX11_undo 43 = .ok (.getfield 187, 3) := by decide +kernel
theorem dX11_undo_46 : decode cX11_undo 46 = .ok (.getfield 213, 3) := by decide +kernel
theorem dX11_undo_49 : decode cX11_undo 49 = .ok (.ireturn, 1) := by decide +kernel
theorem dX11_least_0 : decode cX11_least 0 = .ok (.aload_n 0, 1) := by decide +kernel
theorem dX11_least_1 : decode cX11_least 1 = .ok (.getfield 43, 3) := by decide +kernel
theorem dX11_least_4 : decode cX11_least 4 = .ok (.aload_n 0, 1) := by decide +kernel
theorem dX11_least_5 : decode cX11_least 5 = .ok (.getfield 12, 3) := by decide +kernel
theorem dX11_least_8 : decode cX11_least 8 = .ok (.invokevirtual 218, 3) := by decide +kernel
theorem dX11_least_11 : decode cX11_least 11 = .ok (.iload_n 1, 1) := by decide +kernel
theorem dX11_least_12 : decode cX11_least 12 = .ok (.iconst (-1), 1) := by decide +kernel
theorem dX11_least_13 : decode cX11_least 13 = .ok (.if_icmp .ne 11, 3) := by decide +kernel
theorem dX11_least_16 : decode cX11_least 16 = .ok (.aload_n 0, 1) := by decide +kernel
theorem dX11_least_17 : decode cX11_least 17 = .ok (.getfield 43, 3) := by decide +kernel
theorem dX11_least_20 : decode cX11_least 20 = .ok (.getfield 222, 3) := by decide +kernel
theorem dX11_least_23 : decode cX11_least 23 = .ok (.ireturn, 1) := by decide +kernel
theorem dX11_least_24 : decode cX11_least 24 = .ok (.iload_n 1, 1) := by decide +kernel
theorem dX11_least_25 : decode cX11_least 25 = .ok (.bipush (-2), 2) := by decide +kernel
theorem dX11_least_27 : decode cX11_least 27 = .ok (.if_icmp .ne 11, 3) := by decide +kernel
theorem dX11_least_30 : decode cX11_least 30 = .ok (.aload_n 0, 1) := by decide +kernel
theorem dX11_least_31 : decode cX11_least 31 = .ok (.getfield 43, 3) := by decide +kernel
theorem dX11_least_34 : decode cX11_least 34 = .ok (.getfield 223, 3) := by decide +kernel
theorem dX11_least_37 : decode cX11_least 37 = .ok (.ireturn, 1) := by decide +kernel
theorem dX11_least_38 : decode cX11_least 38 = .ok (.iload_n 1, 1) := by decide +kernel
theorem dX11_least_39 : decode cX11_least 39 = .ok (.ifCond .lt 26, 3) := by decide +kernel
theorem dX11_least_42 : decode cX11_least 42 = .ok (.iload_n 1, 1) := by decide +kernel
theorem dX11_least_43 : decode cX11_least 43 = .ok (.aload_n 0, 1) := by decide +kernel
theorem dX11_least_44 : decode cX11_least 44 = .ok (.getfield 43, 3) := by decide +kernel
theorem dX11_least_47 : decode cX11_least 47 = .ok (.getfield 222, 3) := by decide +kernel
theorem dX11_least_50 : decode cX11_least 50 = .ok (.if_icmp .ge 15, 3) := by decide +kernel
theorem dX11_least_53 : decode cX11_least 53 = .ok (.aload_n 0, 1) := by decide +kernel
theorem dX11_least_54 : decode cX11_least 54 = .ok (.getfield 43, 3) := by decide +kernel
theorem dX11_least_57 : decode cX11_least 57 = .ok (.getfield 226, 3) := by decide +kernel
theorem dX11_least_60 : decode cX11_least 60 = .ok (.iload_n 1, 1) := by decide +kernel
theorem dX11_least_61 : decode cX11_least 61 = .ok (.iaload, 1) := by decide +kernel
theorem dX11_least_62 : decode cX11_least 62 = .ok (.goto 5, 3) := by decide +kernel
theorem dX11_least_65 : decode cX11_least 65 = .ok (.bipush (-3), 2) := by decide +kernel
theorem dX11_least_67 : decode cX11_least 67 = .ok (.ireturn, 1) := by decide +kernel
theorem dX11_orders_0 : decode cX11_orders 0 = .ok (.aload_n 0, 1) := by decide +kernel
theorem dX11_orders_1 : decode cX11_orders 1 = .ok (.getfield 43, 3) := by decide +kernel
theorem dX11_orders_4 : decode cX11_orders 4 = .ok (.aload_n 0, 1) := by decide +kernel
theorem dX11_orders_5 : decode cX11_orders 5 = .ok (.getfield 12, 3) := by decide +kernel
theorem dX11_orders_8 : decode cX11_orders 8 = .ok (.invokevirtual 218, 3) := by decide +kernel
theorem dX11_orders_11 : decode cX11_orders 11 = .ok (.aload_n 0, 1) := by decide +kernel
theorem dX11_orders_12 : decode cX11_orders 12 = .ok (.getfield 43, 3) := by decide +kernel
theorem dX11_orders_15 : decode cX11_orders 15 = .ok (.getfield 229, 3) := by decide +kernel
theorem dX11_orders_18 : decode cX11_orders 18 = .ok (.lreturn, 1) := by decide +kernel
theorem dX11_sound_0 : decode cX11_sound 0 = .ok (.iload_n 1, 1) := by decide +kernel
theorem dX11_sound_1 : decode cX11_sound 1 = .ok (.ifCond .lt 29, 3) := by decide +kernel
theorem dX11_sound_4 : decode cX11_sound 4 = .ok (.iload_n 2, 1) := by decide +kernel
theorem dX11_sound_5 : decode cX11_sound 5 = .ok (.bipush 20, 2) := by decide +kernel
theorem dX11_sound_7 : decode cX11_sound 7 = .ok (.if_icmp .gt 23, 3) := by decide +kernel
theorem dX11_sound_10 : decode cX11_sound 10 = .ok (.iload_n 1, 1) := by decide +kernel
theorem dX11_sound_11 : decode cX11_sound 11 = .ok (.iload_n 2, 1) := by decide +kernel
theorem dX11_sound_12 : decode cX11_sound 12 = .ok (.if_icmp .gt 18, 3) := by decide +kernel
theorem dX11_sound_15 : decode cX11_sound 15 = .ok (.aload_n 0, 1) := by decide +kernel
theorem dX11_sound_16 : decode cX11_sound 16 = .ok (.getfield 12, 3) := by decide +kernel
theorem dX11_sound_19 : decode cX11_sound 19 = .ok (.getfield 233, 3) := by decide +kernel
theorem dX11_sound_22 : decode cX11_sound 22 = .ok (.getfield 237, 3) := by decide +kernel
theorem dX11_sound_25 : decode cX11_sound 25 = .ok (.bipush 8, 2) := by decide +kernel
theorem dX11_sound_27 : decode cX11_sound 27 = .ok (.if_icmp .lt 5, 3) := by decide +kernel
theorem dX11_sound_30 : decode cX11_sound 30 = .ok (.iconst (-1), 1) := by decide +kernel
theorem dX11_sound_31 : decode cX11_sound 31 = .ok (.ireturn, 1) := by decide +kernel
theorem dX11_sound_32 : decode cX11_sound 32 = .ok (.aload_n 0, 1) := by decide +kernel
theorem dX11_sound_33 : decode cX11_sound 33 = .ok (.getfield 12, 3) := by decide +kernel
theorem dX11_sound_36 : decode cX11_sound 36 = .ok (.getfield 233, 3) := by decide +kernel
theorem dX11_sound_39 : decode cX11_sound 39 = .ok (.iload_n 1, 1) := by decide +kernel
theorem dX11_sound_40 : decode cX11_sound 40 = .ok (.iload_n 2, 1) := by decide +kernel
theorem dX11_sound_41 : decode cX11_sound 41 = .ok (.invokevirtual 240, 3) := by decide +kernel
theorem dX11_sound_44 : decode cX11_sound 44 = .ok (.aload_n 0, 1) := by decide +kernel
theorem dX11_sound_45 : decode cX11_sound 45 = .ok (.getfield 12, 3) := by decide +kernel
theorem dX11_sound_48 : decode cX11_sound 48 = .ok (.getfield 233, 3) := by decide +kernel
theorem dX11_sound_51 : decode cX11_sound 51 = .ok (.getfield 237, 3) := by decide +kernel
theorem dX11_sound_54 : decode cX11_sound 54 = .ok (.ireturn, 1) := by decide +kernel
theorem dX11_hush_0 : decode cX11_hush 0 = .ok (.aload_n 0, 1) := by decide +kernel
theorem dX11_hush_1 : decode cX11_hush 1 = .ok (.getfield 12, 3) := by decide +kernel
theorem dX11_hush_4 : decode cX11_hush 4 = .ok (.getfield 233, 3) := by decide +kernel
theorem dX11_hush_7 : decode cX11_hush 7 = .ok (.getfield 237, 3) := by decide +kernel
theorem dX11_hush_10 : decode cX11_hush 10 = .ok (.istore_n 1, 1) := by decide +kernel
theorem dX11_hush_11 : decode cX11_hush 11 = .ok (.aload_n 0, 1) := by decide +kernel
theorem dX11_hush_12 : decode cX11_hush 12 = .ok (.getfield 12, 3) := by decide +kernel
theorem dX11_hush_15 : decode cX11_hush 15 = .ok (.getfield 233, 3) := by decide +kernel
theorem dX11_hush_18 : decode cX11_hush 18 = .ok (.iconst 0, 1) := by decide +kernel
theorem dX11_hush_19 : decode cX11_hush 19 = .ok (.putfield 237, 3) := by decide +kernel
theorem dX11_hush_22 : decode cX11_hush 22 = .ok (.iload_n 1, 1) := by decide +kernel
theorem dX11_hush_23 : decode cX11_hush 23 = .ok (.ireturn, 1) := by decide +kernel
theorem dX11_heard_0 : decode cX11_heard 0 = .ok (.iload_n 1, 1) := by decide +kernel
theorem dX11_heard_1 : decode cX11_heard 1 = .ok (.ifCond .lt 8, 3) := by decide +kernel
theorem dX11_heard_4 : decode cX11_heard 4 = .ok (.iload_n 1, 1) := by decide +kernel
theorem dX11_heard_5 : decode cX11_heard 5 = .ok (.iconst 2, 1) := by decide +kernel
theorem dX11_heard_6 : decode cX11_heard 6 = .ok (.if_icmp .le 7, 3) := by decide +kernel
theorem dX11_heard_9 : decode cX11_heard 9 = .ok (.ldc2_w 243, 3) := by decide +kernel
theorem dX11_heard_12 : decode cX11_heard 12 = .ok (.lreturn, 1) := by decide +kernel
theorem dX11_heard_13 : decode cX11_heard 13 = .ok (.aload_n 0, 1) := by decide +kernel
theorem dX11_heard_14 : decode cX11_heard 14 = .ok (.getfield 43, 3) := by decide +kernel
theorem dX11_heard_17 : decode cX11_heard 17 = .ok (.aload_n 0, 1) := by decide +kernel
theorem dX11_heard_18 : decode cX11_heard 18 = .ok (.getfield 12, 3) := by decide +kernel
theorem dX11_heard_21 : decode cX11_heard 21 = .ok (.invokevirtual 218, 3) := by decide +kernel
theorem dX11_heard_24 : decode cX11_heard 24 = .ok (.aload_n 0, 1) := by decide +kernel
theorem dX11_heard_25 : decode cX11_heard 25 = .ok (.getfield 43, 3) := by decide +kernel
theorem dX11_heard_28 : decode cX11_heard 28 = .ok (.aload_n 0, 1) := by decide +kernel
theorem dX11_heard_29 : decode cX11_heard 29 = .ok (.getfield 12, 3) := by decide +kernel
theorem dX11_heard_32 : decode cX11_heard 32 = .ok (.invokevirtual 245, 3) := by decide +kernel
theorem dX11_heard_35 : decode cX11_heard 35 = .ok (.iload_n 1, 1) := by decide +kernel
theorem dX11_heard_36 : decode cX11_heard 36 = .ok (.ifCond .ne 11, 3) := by decide +kernel
theorem dX11_heard_39 : decode cX11_heard 39 = .ok (.aload_n 0, 1) := by decide +kernel
theorem dX11_heard_40 : decode cX11_heard 40 = .ok (.getfield 43, 3) := by decide +kernel
theorem dX11_heard_43 : decode cX11_heard 43 = .ok (.getfield 248, 3) := by decide +kernel
theorem dX11_heard_46 : decode cX11_heard 46 = .ok (.lreturn, 1) := by decide +kernel
theorem dX11_heard_47 : decode cX11_heard 47 = .ok (.iload_n 1, 1) := by decide +kernel
theorem dX11_heard_48 : decode cX11_heard 48 = .ok (.iconst 1, 1) := by decide +kernel
theorem dX11_heard_49 : decode cX11_heard 49 = .ok (.if_icmp .ne 14, 3) := by decide +kernel
theorem dX11_heard_52 : decode cX11_heard 52 = .ok (.aload_n 0, 1) := by decide +kernel
theorem dX11_heard_53 : decode cX11_heard 53 = .ok (.getfield 43, 3) := by decide +kernel
theorem dX11_heard_56 : decode cX11_heard 56 = .ok (.getfield 251, 3) := by decide +kernel
theorem dX11_heard_59 : decode cX11_heard 59 = .ok (.i2l, 1) := by decide +kernel
theorem dX11_heard_60 : decode cX11_heard 60 = .ok (.goto 11, 3) := by decide +kernel
theorem dX11_heard_63 : decode cX11_heard 63 = .ok (.aload_n 0, 1) := by decide +kernel
theorem dX11_heard_64 : decode cX11_heard 64 = .ok (.getfield 43, 3) := by decide +kernel
theorem dX11_heard_67 : decode cX11_heard 67 = .ok (.getfield 254, 3) := by decide +kernel
theorem dX11_heard_70 : decode cX11_heard 70 = .ok (.i2l, 1) := by decide +kernel
theorem dX11_heard_71 : decode cX11_heard 71 = .ok (.lreturn, 1) := by decide +kernel
theorem dX11_with_0 : decode cX11_with 0 = .ok (.aload_n 0, 1) := by decide +kernel
theorem dX11_with_1 : decode cX11_with 1 = .ok (.getfield 12, 3) := by decide +kernel
theorem dX11_with_4 : decode cX11_with 4 = .ok (.getfield 65, 3) := by decide +kernel
theorem dX11_with_7 : decode cX11_with 7 = .ok (.iload_n 1, 1) := by decide +kernel
theorem dX11_with_8 : decode cX11_with 8 = .ok (.invokevirtual 163, 3) := by decide +kernel
theorem dX11_with_11 : decode cX11_with 11 = .ok (.ifCond .eq 14, 3) := by decide +kernel
theorem dX11_with_14 : decode cX11_with 14 = .ok (.aload_n 0, 1) := by decide +kernel
theorem dX11_with_15 : decode cX11_with 15 = .ok (.getfield 12, 3) := by decide +kernel
theorem dX11_with_18 : decode cX11_with 18 = .ok (.iload_n 1, 1) := by decide +kernel
theorem dX11_with_19 : decode cX11_with 19 = .ok (.invokevirtual 164, 3) := by decide +kernel
theorem dX11_with_22 : decode cX11_with 22 = .ok (.ifCond .ne 5, 3) := by decide +kernel
theorem dX11_with_25 : decode cX11_with 25 = .ok (.iconst (-1), 1) := by decide +kernel
theorem dX11_with_26 : decode cX11_with 26 = .ok (.ireturn, 1) := by decide +kernel
theorem dX11_with_27 : decode cX11_with 27 = .ok (.aload_n 0, 1) := by decide +kernel
theorem dX11_with_28 : decode cX11_with 28 = .ok (.getfield 12, 3) := by decide +kernel
theorem dX11_with_31 : decode cX11_with 31 = .ok (.getfield 177, 3) := by decide +kernel
theorem dX11_with_34 : decode cX11_with 34 = .ok (.iconst 1, 1) := by decide +kernel
theorem dX11_with_35 : decode cX11_with 35 = .ok (.iload_n 1, 1) := by decide +kernel
theorem dX11_with_36 : decode cX11_with 36 = .ok (.ishl, 1) := by decide +kernel
theorem dX11_with_37 : decode cX11_with 37 = .ok (.iconst (-1), 1) := by decide +kernel
theorem dX11_with_38 : decode cX11_with 38 = .ok (.ixor, 1) := by decide +kernel
theorem dX11_with_39 : decode cX11_with 39 = .ok (.iand, 1) := by decide +kernel
theorem dX11_with_40 : decode cX11_with 40 = .ok (.istore_n 2, 1) := by decide +kernel
theorem dX11_with_41 : decode cX11_with 41 = .ok (.aload_n 0, 1) := by decide +kernel
theorem dX11_with_42 : decode cX11_with 42 = .ok (.getfield 12, 3) := by decide +kernel
theorem dX11_with_45 : decode cX11_with 45 = .ok (.getfield 177, 3) := by decide +kernel
theorem dX11_with_48 : decode cX11_with 48 = .ok (.istore_n 3, 1) := by decide +kernel
theorem dX11_with_49 : decode cX11_with 49 = .ok (.iconst 0, 1) := by decide +kernel
theorem dX11_with_50 : decode cX11_with 50 = .ok (.istore 4, 2) := by decide +kernel
theorem dX11_with_52 : decode cX11_with 52 = .ok (.iconst 0, 1) := by decide +kernel
theorem dX11_with_53 : decode cX11_with 53 = .ok (.istore 5, 2) := by decide +kernel
theorem dX11_with_55 : decode cX11_with 55 = .ok (.iload 5, 2) := by decide +kernel
theorem dX11_with_57 : decode cX11_with 57 = .ok (.sipush 4096, 3) := by decide +kernel
theorem dX11_with_60 : decode cX11_with 60 = .ok (.if_icmp .ge 78, 3) := by decide +kernel
theorem dX11_with_63 : decode cX11_with 63 = .ok (.iload 4, 2) := by decide +kernel
theorem dX11_with_65 : decode cX11_with 65 = .ok (.invokestatic 75, 3) := by decide +kernel
theorem dX11_with_68 : decode cX11_with 68 = .ok (.iconst 1, 1) := by decide +kernel
theorem dX11_with_69 : decode cX11_with 69 = .ok (.iadd, 1) := by decide +kernel
theorem dX11_with_70 : decode cX11_with 70 = .ok (.iload_n 3, 1) := by decide +kernel
theorem dX11_with_71 : decode cX11_with 71 = .ok (.invokestatic 75, 3) := by decide +kernel
theorem dX11_with_74 : decode cX11_with 74 = .ok (.if_icmp .ge 7, 3) := by decide +kernel
theorem dX11_with_77 : decode cX11_with 77 = .ok (.iconst 1, 1) := by decide +kernel
theorem dX11_with_78 : decode cX11_with 78 = .ok (.goto 4, 3) := by decide +kernel
theorem dX11_with_81 : decode cX11_with 81 = .ok (.iconst 0, 1) := by decide +kernel
theorem dX11_with_82 : decode cX11_with 82 = .ok (.istore 6, 2) := by decide +kernel
theorem dX11_with_84 : decode cX11_with 84 = .ok (.iload 6, 2) := by decide +kernel
theorem dX11_with_86 : decode cX11_with 86 = .ok (.ifCond .eq 29, 3) := by decide +kernel
theorem dX11_with_89 : decode cX11_with 89 = .ok (.aload_n 0, 1) := by decide +kernel
theorem dX11_with_90 : decode cX11_with 90 = .ok (.getfield 12, 3) := by decide +kernel
theorem dX11_with_93 : decode cX11_with 93 = .ok (.getfield 65, 3) := by decide +kernel
theorem dX11_with_96 : decode cX11_with 96 = .ok (.iload_n 2, 1) := by decide +kernel
theorem dX11_with_97 : decode cX11_with 97 = .ok (.iload 4, 2) := by decide +kernel
theorem dX11_with_99 : decode cX11_with 99 = .ok (.iconst (-1), 1) := by decide +kernel
theorem dX11_with_100 : decode cX11_with 100 = .ok (.ixor, 1) := by decide +kernel
theorem dX11_with_101 : decode cX11_with 101 = .ok (.iand, 1) := by decide +kernel
theorem dX11_with_102 : decode cX11_with 102 = .ok (.invokevirtual 184, 3) := by decide +kernel
theorem dX11_with_105 : decode cX11_with 105 = .ok (.ifCond .eq 10, 3) := by decide +kernel
theorem dX11_with_108 : decode cX11_with 108 = .ok (.iload 4, 2) := by decide +kernel
theorem dX11_with_110 : decode cX11_with 110 = .ok (.iconst 1, 1) := by decide +kernel
theorem dX11_with_111 : decode cX11_with 111 = .ok (.iload_n 1, 1) := by decide +kernel
theorem dX11_with_112 : decode cX11_with 112 = .ok (.ishl, 1) := by decide +kernel
theorem dX11_with_113 : decode cX11_with 113 = .ok (.ior, 1) := by decide +kernel
theorem dX11_with_114 : decode cX11_with 114 = .ok (.istore_n 3, 1) := by decide +kernel
theorem dX11_with_115 : decode cX11_with 115 = .ok (.iload 4, 2) := by decide +kernel
theorem dX11_with_117 : decode cX11_with 117 = .ok (.iload_n 2, 1) := by decide +kernel
theorem dX11_with_118 : decode cX11_with 118 = .ok (.if_icmp .ne 6, 3) := by decide +kernel
theorem dX11_with_121 : decode cX11_with 121 = .ok (.goto 17, 3) := by decide +kernel
theorem dX11_with_124 : decode cX11_with 124 = .ok (.iload 4, 2) := by decide +kernel
theorem dX11_with_126 : decode cX11_with 126 = .ok (.iload_n 2, 1) := by decide +kernel
theorem dX11_with_127 : decode cX11_with 127 = .ok (.isub, 1) := by decide +kernel
theorem dX11_with_128 : decode cX11_with 128 = .ok (.iload_n 2, 1) := by decide +kernel
theorem dX11_with_129 : decode cX11_with 129 = .ok (.iand, 1) := by decide +kernel
theorem dX11_with_130 : decode cX11_with 130 = .ok (.istore 4, 2) := by decide +kernel
theorem dX11_with_132 : decode cX11_with 132 = .ok (.iinc 5 1, 3) := by decide +kernel
theorem dX11_with_135 : decode cX11_with 135 = .ok (.goto (-80), 3) := by decide +kernel
theorem dX11_with_138 : decode cX11_with 138 = .ok (.iload_n 3, 1) := by decide +kernel
theorem dX11_with_139 : decode cX11_with 139 = .ok (.ireturn, 1) := by decide +kernel
theorem dX11_houseOf_0 : decode cX11_houseOf 0 = .ok (.aload_n 0, 1) := by decide +kernel
theorem dX11_houseOf_1 : decode cX11_houseOf 1 = .ok (.getfield 12, 3) := by decide +kernel
theorem dX11_houseOf_4 : decode cX11_houseOf 4 = .ok (.getfield 106, 3) := by decide +kernel
theorem dX11_houseOf_7 : decode cX11_houseOf 7 = .ok (.iload_n 1, 1) := by decide +kernel
theorem dX11_houseOf_8 : decode cX11_houseOf 8 = .ok (.invokevirtual 122, 3) := by decide +kernel
theorem dX11_houseOf_11 : decode cX11_houseOf 11 = .ok (.ifCond .ne 7, 3) := by decide +kernel
theorem dX11_houseOf_14 : decode cX11_houseOf 14 = .ok (.sipush (-1000), 3) := by decide +kernel
theorem dX11_houseOf_17 : decode cX11_houseOf 17 = .ok (.ireturn, 1) := by decide +kernel
theorem dX11_houseOf_18 : decode cX11_houseOf 18 = .ok (.iload_n 2, 1) := by decide +kernel
theorem dX11_houseOf_19 : decode cX11_houseOf 19 = .ok (.tableswitch 67 0 2 #[25, 38, 51], 25) := by decide +kernel
theorem dX11_houseOf_44 : decode cX11_houseOf 44 = .ok (.aload_n 0, 1) := by decide +kernel
theorem dX11_houseOf_45 : decode cX11_houseOf 45 = .ok (.getfield 12, 3) := by decide +kernel
theorem dX11_houseOf_48 : decode cX11_houseOf 48 = .ok (.getfield 106, 3) := by decide +kernel
theorem dX11_houseOf_51 : decode cX11_houseOf 51 = .ok (.getfield 113, 3) := by decide +kernel
theorem dX11_houseOf_54 : decode cX11_houseOf 54 = .ok (.iload_n 1, 1) := by decide +kernel
theorem dX11_houseOf_55 : decode cX11_houseOf 55 = .ok (.iaload, 1) := by decide +kernel
theorem dX11_houseOf_56 : decode cX11_houseOf 56 = .ok (.ireturn, 1) := by decide +kernel
theorem dX11_houseOf_57 : decode cX11_houseOf 57 = .ok (.aload_n 0, 1) := by decide +kernel
theorem dX11_houseOf_58 : decode cX11_houseOf 58 = .ok (.getfield 12, 3) := by decide +kernel
theorem dX11_houseOf_61 : decode cX11_houseOf 61 = .ok (.getfield 106, 3) := by decide +kernel
theorem dX11_houseOf_64 : decode cX11_houseOf 64 = .ok (.getfield 116, 3) := by decide +kernel
theorem dX11_houseOf_67 : decode cX11_houseOf 67 = .ok (.iload_n 1, 1) := by decide +kernel
theorem dX11_houseOf_68 : decode cX11_houseOf 68 = .ok (.iaload, 1) := by decide +kernel
theorem dX11_houseOf_69 : decode cX11_houseOf 69 = .ok (.ireturn, 1) := by decide +kernel
theorem dX11_houseOf_70 : decode cX11_houseOf 70 = .ok (.aload_n 0, 1) := by decide +kernel
theorem dX11_houseOf_71 : decode cX11_houseOf 71 = .ok (.getfield 12, 3) := by decide +kernel
theorem dX11_houseOf_74 : decode cX11_houseOf 74 = .ok (.getfield 106, 3) := by decide +kernel
theorem dX11_houseOf_77 : decode cX11_houseOf 77 = .ok (.getfield 119, 3) := by decide +kernel
theorem dX11_houseOf_80 : decode cX11_houseOf 80 = .ok (.iload_n 1, 1) := by decide +kernel
theorem dX11_houseOf_81 : decode cX11_houseOf 81 = .ok (.iaload, 1) := by decide +kernel
theorem dX11_houseOf_82 : decode cX11_houseOf 82 = .ok (.invokestatic 75, 3) := by decide +kernel
theorem dX11_houseOf_85 : decode cX11_houseOf 85 = .ok (.ireturn, 1) := by decide +kernel
theorem dX11_houseOf_86 : decode cX11_houseOf 86 = .ok (.sipush (-1000), 3) := by decide +kernel
theorem dX11_houseOf_89 : decode cX11_houseOf 89 = .ok (.ireturn, 1) := by decide +kernel
theorem dX11_row_0 : decode cX11_row 0 = .ok (.aload_n 0, 1) := by decide +kernel
theorem dX11_row_1 : decode cX11_row 1 = .ok (.getfield 12, 3) := by decide +kernel
theorem dX11_row_4 : decode cX11_row 4 = .ok (.getfield 106, 3) := by decide +kernel
theorem dX11_row_7 : decode cX11_row 7 = .ok (.iload_n 1, 1) := by decide +kernel
theorem dX11_row_8 : decode cX11_row 8 = .ok (.invokevirtual 122, 3) := by decide +kernel
theorem dX11_row_11 : decode cX11_row 11 = .ok (.ifCond .eq 17, 3) := by decide +kernel
theorem dX11_row_14 : decode cX11_row 14 = .ok (.aload_n 0, 1) := by decide +kernel
theorem dX11_row_15 : decode cX11_row 15 = .ok (.getfield 12, 3) := by decide +kernel
theorem dX11_row_18 : decode cX11_row 18 = .ok (.getfield 106, 3) := by decide +kernel
theorem dX11_row_21 : decode cX11_row 21 = .ok (.iload_n 2, 1) := by decide +kernel
theorem dX11_row_22 : decode cX11_row 22 = .ok (.invokevirtual 122, 3) := by decide +kernel
theorem dX11_row_25 : decode cX11_row 25 = .ok (.ifCond .ne 5, 3) := by decide +kernel
theorem dX11_row_28 : decode cX11_row 28 = .ok (.iconst (-1), 1) := by decide +kernel
theorem dX11_row_29 : decode cX11_row 29 = .ok (.ireturn, 1) := by decide +kernel
theorem dX11_row_30 : decode cX11_row 30 = .ok (.aload_n 0, 1) := by decide +kernel
theorem dX11_row_31 : decode cX11_row 31 = .ok (.getfield 12, 3) := by decide +kernel
theorem dX11_row_34 : decode cX11_row 34 = .ok (.getfield 106, 3) := by decide +kernel
theorem dX11_row_37 : decode cX11_row 37 = .ok (.iload_n 1, 1) := by decide +kernel
theorem dX11_row_38 : decode cX11_row 38 = .ok (.iload_n 2, 1) := by decide +kernel
theorem dX11_row_39 : decode cX11_row 39 = .ok (.invokevirtual 257, 3) := by decide +kernel
theorem dX11_row_42 : decode cX11_row 42 = .ok (.istore 4, 2) := by decide +kernel
theorem dX11_row_44 : decode cX11_row 44 = .ok (.iload 4, 2) := by decide +kernel
theorem dX11_row_46 : decode cX11_row 46 = .ok (.ifCond .ne 5, 3) := by decide +kernel
theorem dX11_row_49 : decode cX11_row 49 = .ok (.iconst (-1), 1) := by decide +kernel
theorem dX11_row_50 : decode cX11_row 50 = .ok (.ireturn, 1) := by decide +kernel
theorem dX11_row_51 : decode cX11_row 51 = .ok (.iload_n 3, 1) := by decide +kernel
theorem dX11_row_52 : decode cX11_row 52 = .ok (.iconst (-1), 1) := by decide +kernel
theorem dX11_row_53 : decode cX11_row 53 = .ok (.if_icmp .ne 6, 3) := by decide +kernel
theorem dX11_row_56 : decode cX11_row 56 = .ok (.iload 4, 2) := by decide +kernel
theorem dX11_row_58 : decode cX11_row 58 = .ok (.ireturn, 1) := by decide +kernel
theorem dX11_row_59 : decode cX11_row 59 = .ok (.iload_n 3, 1) := by decide +kernel
theorem dX11_row_60 : decode cX11_row 60 = .ok (.ifCond .lt 26, 3) := by decide +kernel
theorem dX11_row_63 : decode cX11_row 63 = .ok (.iload_n 3, 1) := by decide +kernel
theorem dX11_row_64 : decode cX11_row 64 = .ok (.iload 4, 2) := by decide +kernel
theorem dX11_row_66 : decode cX11_row 66 = .ok (.if_icmp .ge 20, 3) := by decide +kernel
theorem dX11_row_69 : decode cX11_row 69 = .ok (.aload_n 0, 1) := by decide +kernel
theorem dX11_row_70 : decode cX11_row 70 = .ok (.getfield 12, 3) := by decide +kernel
theorem dX11_row_73 : decode cX11_row 73 = .ok (.getfield 106, 3) := by decide +kernel
theorem dX11_row_76 : decode cX11_row 76 = .ok (.iload_n 1, 1) := by decide +kernel
theorem dX11_row_77 : decode cX11_row 77 = .ok (.iload 4, 2) := by decide +kernel
theorem dX11_row_79 : decode cX11_row 79 = .ok (.iload_n 3, 1) := by decide +kernel
theorem dX11_row_80 : decode cX11_row 80 = .ok (.invokevirtual 261, 3) := by decide +kernel
theorem dX11_row_83 : decode cX11_row 83 = .ok (.goto 4, 3) := by decide +kernel
theorem dX11_row_86 : decode cX11_row 86 = .ok (.iconst (-1), 1) := by decide +kernel
theorem dX11_row_87 : decode cX11_row 87 = .ok (.ireturn, 1) := by decide +kernel
theorem dX11_winter_0 : decode cX11_winter 0 = .ok (.aload_n 0, 1) := by decide +kernel
theorem dX11_winter_1 : decode cX11_winter 1 = .ok (.getfield 50, 3) := by decide +kernel
theorem dX11_winter_4 : decode cX11_winter 4 = .ok (.aload_n 0, 1) := by decide +kernel
theorem dX11_winter_5 : decode cX11_winter 5 = .ok (.getfield 12, 3) := by decide +kernel
theorem dX11_winter_8 : decode cX11_winter 8 = .ok (.getfield 106, 3) := by decide +kernel
theorem dX11_winter_11 : decode cX11_winter 11 = .ok (.invokevirtual 265, 3) := by decide +kernel
theorem dX11_winter_14 : decode cX11_winter 14 = .ok (.ireturn, 1) := by decide +kernel
theorem dX11_town_0 : decode cX11_town 0 = .ok (.iload_n 1, 1) := by decide +kernel
theorem dX11_town_1 : decode cX11_town 1 = .ok (.ifCond .lt 34, 3) := by decide +kernel
theorem dX11_town_4 : decode cX11_town 4 = .ok (.iload_n 1, 1) := by decide +kernel
theorem dX11_town_5 : decode cX11_town 5 = .ok (.sipush 9999, 3) := by decide +kernel
theorem dX11_town_8 : decode cX11_town 8 = .ok (.if_icmp .gt 27, 3) := by decide +kernel
theorem dX11_town_11 : decode cX11_town 11 = .ok (.iload_n 2, 1) := by decide +kernel
theorem dX11_town_12 : decode cX11_town 12 = .ok (.iconst 1, 1) := by decide +kernel
theorem dX11_town_13 : decode cX11_town 13 = .ok (.if_icmp .lt 22, 3) := by decide +kernel
theorem dX11_town_16 : decode cX11_town 16 = .ok (.iload_n 2, 1) := by decide +kernel
theorem dX11_town_17 : decode cX11_town 17 = .ok (.bipush 99, 2) := by decide +kernel
theorem dX11_town_19 : decode cX11_town 19 = .ok (.if_icmp .gt 16, 3) := by decide +kernel
theorem dX11_town_22 : decode cX11_town 22 = .ok (.aload_n 0, 1) := by decide +kernel
theorem dX11_town_23 : decode cX11_town 23 = .ok (.getfield 12, 3) := by decide +kernel
theorem dX11_town_26 : decode cX11_town 26 = .ok (.getfield 106, 3) := by decide +kernel
theorem dX11_town_29 : decode cX11_town 29 = .ok (.getfield 110, 3) := by decide +kernel
theorem dX11_town_32 : decode cX11_town 32 = .ok (.ifCond .ne 5, 3) := by decide +kernel
theorem dX11_town_35 : decode cX11_town 35 = .ok (.iconst (-1), 1) := by decide +kernel
theorem dX11_town_36 : decode cX11_town 36 = .ok (.ireturn, 1) := by decide +kernel
theorem dX11_town_37 : decode cX11_town 37 = .ok (.aload_n 0, 1) := by decide +kernel
theorem dX11_town_38 : decode cX11_town 38 = .ok (.getfield 12, 3) := by decide +kernel
theorem dX11_town_41 : decode cX11_town 41 = .ok (.getfield 187, 3) := by decide +kernel
theorem dX11_town_44 : decode cX11_town 44 = .ok (.aload_n 0, 1) := by decide +kernel
theorem dX11_town_45 : decode cX11_town 45 = .ok (.getfield 12, 3) := by decide +kernel
theorem dX11_town_48 : decode cX11_town 48 = .ok (.getfield 177, 3) := by decide +kernel
theorem dX11_town_51 : decode cX11_town 51 = .ok (.aload_n 0, 1) := by decide +kernel
theorem dX11_town_52 : decode cX11_town 52 = .ok (.getfield 12, 3) := by decide +kernel
theorem dX11_town_55 : decode cX11_town 55 = .ok (.getfield 106, 3) := by decide +kernel
theorem dX11_town_58 : decode cX11_town 58 = .ok (.invokevirtual 191, 3) := by decide +kernel
theorem dX11_town_61 : decode cX11_town 61 = .ok (.aload_n 0, 1) := by decide +kernel
theorem dX11_town_62 : decode cX11_town 62 = .ok (.getfield 12, 3) := by decide +kernel
theorem dX11_town_65 : decode cX11_town 65 = .ok (.getfield 106, 3) := by decide +kernel
theorem dX11_town_68 : decode cX11_town 68 = .ok (.iload_n 1, 1) := by decide +kernel
theorem dX11_town_69 : decode cX11_town 69 = .ok (.iload_n 2, 1) := by decide +kernel
theorem dX11_town_70 : decode cX11_town 70 = .ok (.invokevirtual 268, 3) := by decide +kernel
theorem dX11_town_73 : decode cX11_town 73 = .ok (.ireturn, 1) := by decide +kernel
theorem dX11_image_0 : decode cX11_image 0 = .ok (.aload_n 0, 1) := by decide +kernel
theorem dX11_image_1 : decode cX11_image 1 = .ok (.getfield 16, 3) := by decide +kernel
theorem dX11_image_4 : decode cX11_image 4 = .ok (.aload_n 0, 1) := by decide +kernel
theorem dX11_image_5 : decode cX11_image 5 = .ok (.getfield 12, 3) := by decide +kernel
theorem dX11_image_8 : decode cX11_image 8 = .ok (.invokevirtual 271, 3) := by decide +kernel
theorem dX11_image_11 : decode cX11_image 11 = .ok (.aload_n 0, 1) := by decide +kernel
theorem dX11_image_12 : decode cX11_image 12 = .ok (.getfield 12, 3) := by decide +kernel
theorem dX11_image_15 : decode cX11_image 15 = .ok (.getfield 177, 3) := by decide +kernel
theorem dX11_image_18 : decode cX11_image 18 = .ok (.invokestatic 75, 3) := by decide +kernel
theorem dX11_image_21 : decode cX11_image 21 = .ok (.ireturn, 1) := by decide +kernel
theorem dX11_back_0 : decode cX11_back 0 = .ok (.aload_n 0, 1) := by decide +kernel
theorem dX11_back_1 : decode cX11_back 1 = .ok (.getfield 43, 3) := by decide +kernel
theorem dX11_back_4 : decode cX11_back 4 = .ok (.invokevirtual 84, 3) := by decide +kernel
theorem dX11_back_7 : decode cX11_back 7 = .ok (.aload_n 0, 1) := by decide +kernel
theorem dX11_back_8 : decode cX11_back 8 = .ok (.getfield 12, 3) := by decide +kernel
theorem dX11_back_11 : decode cX11_back 11 = .ok (.aload_n 0, 1) := by decide +kernel
theorem dX11_back_12 : decode cX11_back 12 = .ok (.getfield 16, 3) := by decide +kernel
theorem dX11_back_15 : decode cX11_back 15 = .ok (.invokevirtual 271, 3) := by decide +kernel
theorem dX11_back_18 : decode cX11_back 18 = .ok (.aload_n 0, 1) := by decide +kernel
theorem dX11_back_19 : decode cX11_back 19 = .ok (.getfield 12, 3) := by decide +kernel
theorem dX11_back_22 : decode cX11_back 22 = .ok (.getfield 177, 3) := by decide +kernel
theorem dX11_back_25 : decode cX11_back 25 = .ok (.invokestatic 75, 3) := by decide +kernel
theorem dX11_back_28 : decode cX11_back 28 = .ok (.ireturn, 1) := by decide +kernel
theorem dX11_about_0 : decode cX11_about 0 = .ok (.iload_n 1, 1) := by decide +kernel
theorem dX11_about_1 : decode cX11_about 1 = .ok (.tableswitch 135 0 8 #[51, 62, 70, 78, 89, 97, 105, 116, 127], 51) := by decide +kernel
theorem dX11_about_52 : decode cX11_about 52 = .ok (.aload_n 0, 1) := by decide +kernel
theorem dX11_about_53 : decode cX11_about 53 = .ok (.getfield 12, 3) := by decide +kernel
theorem dX11_about_56 : decode cX11_about 56 = .ok (.getfield 65, 3) := by decide +kernel
theorem dX11_about_59 : decode cX11_about 59 = .ok (.getfield 81, 3) := by decide +kernel
theorem dX11_about_62 : decode cX11_about 62 = .ok (.ireturn, 1) := by decide +kernel
theorem dX11_about_63 : decode cX11_about 63 = .ok (.aload_n 0, 1) := by decide +kernel
theorem dX11_about_64 : decode cX11_about 64 = .ok (.getfield 12, 3) := by decide +kernel
theorem dX11_about_67 : decode cX11_about 67 = .ok (.getfield 177, 3) := by decide +kernel
theorem dX11_about_70 : decode cX11_about 70 = .ok (.ireturn, 1) := by decide +kernel
theorem dX11_about_71 : decode cX11_about 71 = .ok (.aload_n 0, 1) := by decide +kernel
theorem dX11_about_72 : decode cX11_about 72 = .ok (.getfield 12, 3) := by decide +kernel
theorem dX11_about_75 : decode cX11_about 75 = .ok (.getfield 103, 3) := by decide +kernel
theorem dX11_about_78 : decode cX11_about 78 = .ok (.ireturn, 1) := by decide +kernel
theorem dX11_about_79 : decode cX11_about 79 = .ok (.aload_n 0, 1) := by decide +kernel
theorem dX11_about_80 : decode cX11_about 80 = .ok (.getfield 12, 3) := by decide +kernel
theorem dX11_about_83 : decode cX11_about 83 = .ok (.getfield 106, 3) := by decide +kernel
theorem dX11_about_86 : decode cX11_about 86 = .ok (.getfield 110, 3) := by decide +kernel
theorem dX11_about_89 : decode cX11_about 89 = .ok (.ireturn, 1) := by decide +kernel
theorem dX11_about_90 : decode cX11_about 90 = .ok (.aload_n 0, 1) := by decide +kernel
theorem dX11_about_91 : decode cX11_about 91 = .ok (.getfield 12, 3) := by decide +kernel
theorem dX11_about_94 : decode cX11_about 94 = .ok (.getfield 136, 3) := by decide +kernel
theorem dX11_about_97 : decode cX11_about 97 = .ok (.ireturn, 1) := by decide +kernel
theorem dX11_about_98 : decode cX11_about 98 = .ok (.aload_n 0, 1) := by decide +kernel
theorem dX11_about_99 : decode cX11_about 99 = .ok (.getfield 12, 3) := by decide +kernel
theorem dX11_about_102 : decode cX11_about 102 = .ok (.getfield 160, 3) := by decide +kernel
theorem dX11_about_105 : decode cX11_about 105 = .ok (.ireturn, 1) := by decide +kernel
theorem dX11_about_106 : decode cX11_about 106 = .ok (.aload_n 0, 1) := by decide +kernel
theorem dX11_about_107 : decode cX11_about 107 = .ok (.getfield 12, 3) := by decide +kernel
theorem dX11_about_110 : decode cX11_about 110 = .ok (.getfield 187, 3) := by decide +kernel
theorem dX11_about_113 : decode cX11_about 113 = .ok (.getfield 213, 3) := by decide +kernel
theorem dX11_about_116 : decode cX11_about 116 = .ok (.ireturn, 1) := by decide +kernel
theorem dX11_about_117 : decode cX11_about 117 = .ok (.aload_n 0, 1) := by decide +kernel
theorem dX11_about_118 : decode cX11_about 118 = .ok (.getfield 12, 3) := by decide +kernel
theorem dX11_about_121 : decode cX11_about 121 = .ok (.getfield 233, 3) := by decide +kernel
theorem dX11_about_124 : decode cX11_about 124 = .ok (.getfield 237, 3) := by decide +kernel
theorem dX11_about_127 : decode cX11_about 127 = .ok (.ireturn, 1) := by decide +kernel
theorem dX11_about_128 : decode cX11_about 128 = .ok (.aload_n 0, 1) := by decide +kernel
theorem dX11_about_129 : decode cX11_about 129 = .ok (.getfield 22, 3) := by decide +kernel
theorem dX11_about_132 : decode cX11_about 132 = .ok (.getfield 129, 3) := by decide +kernel
theorem dX11_about_135 : decode cX11_about 135 = .ok (.ireturn, 1) := by decide +kernel
theorem dX11_about_136 : decode cX11_about 136 = .ok (.aload_n 0, 1) := by decide +kernel
theorem dX11_about_137 : decode cX11_about 137 = .ok (.iload_n 1, 1) := by decide +kernel
theorem dX11_about_138 : decode cX11_about 138 = .ok (.invokevirtual 274, 3) := by decide +kernel
theorem dX11_about_141 : decode cX11_about 141 = .ok (.ireturn, 1) := by decide +kernel
theorem dX11_aboutStone_0 : decode cX11_aboutStone 0 = .ok (.iload_n 1, 1) := by decide +kernel
theorem dX11_aboutStone_1 : decode cX11_aboutStone 1 = .ok (.bipush 10, 2) := by decide +kernel
theorem dX11_aboutStone_3 : decode cX11_aboutStone 3 = .ok (.if_icmp .lt 36, 3) := by decide +kernel
theorem dX11_aboutStone_6 : decode cX11_aboutStone 6 = .ok (.iload_n 1, 1) := by decide +kernel
theorem dX11_aboutStone_7 : decode cX11_aboutStone 7 = .ok (.bipush 10, 2) := by decide +kernel
theorem dX11_aboutStone_9 : decode cX11_aboutStone 9 = .ok (.aload_n 0, 1) := by decide +kernel
theorem dX11_aboutStone_10 : decode cX11_aboutStone 10 = .ok (.getfield 12, 3) := by decide +kernel
theorem dX11_aboutStone_13 : decode cX11_aboutStone 13 = .ok (.getfield 65, 3) := by decide +kernel
theorem dX11_aboutStone_16 : decode cX11_aboutStone 16 = .ok (.getfield 81, 3) := by decide +kernel
theorem dX11_aboutStone_19 : decode cX11_aboutStone 19 = .ok (.iadd, 1) := by decide +kernel
theorem dX11_aboutStone_20 : decode cX11_aboutStone 20 = .ok (.if_icmp .ge 19, 3) := by decide +kernel
theorem dX11_aboutStone_23 : decode cX11_aboutStone 23 = .ok (.aload_n 0, 1) := by decide +kernel
theorem dX11_aboutStone_24 : decode cX11_aboutStone 24 = .ok (.getfield 12, 3) := by decide +kernel
theorem dX11_aboutStone_27 : decode cX11_aboutStone 27 = .ok (.getfield 65, 3) := by decide +kernel
theorem dX11_aboutStone_30 : decode cX11_aboutStone 30 = .ok (.getfield 97, 3) := by decide +kernel
theorem dX11_aboutStone_33 : decode cX11_aboutStone 33 = .ok (.iload_n 1, 1) := by decide +kernel
theorem dX11_aboutStone_34 : decode cX11_aboutStone 34 = .ok (.bipush 10, 2) := by decide +kernel
theorem dX11_aboutStone_36 : decode cX11_aboutStone 36 = .ok (.isub, 1) := by decide +kernel
theorem dX11_aboutStone_37 : decode cX11_aboutStone 37 = .ok (.iaload, 1) := by decide +kernel
theorem dX11_aboutStone_38 : decode cX11_aboutStone 38 = .ok (.ireturn, 1) := by decide +kernel
theorem dX11_aboutStone_39 : decode cX11_aboutStone 39 = .ok (.iload_n 1, 1) := by decide +kernel
theorem dX11_aboutStone_40 : decode cX11_aboutStone 40 = .ok (.bipush 30, 2) := by decide +kernel
theorem dX11_aboutStone_42 : decode cX11_aboutStone 42 = .ok (.if_icmp .lt 36, 3) := by decide +kernel
theorem dX11_aboutStone_45 : decode cX11_aboutStone 45 = .ok (.iload_n 1, 1) := by decide +kernel
theorem dX11_aboutStone_46 : decode cX11_aboutStone 46 = .ok (.bipush 30, 2) := by decide +kernel
theorem dX11_aboutStone_48 : decode cX11_aboutStone 48 = .ok (.aload_n 0, 1) := by decide +kernel
theorem dX11_aboutStone_49 : decode cX11_aboutStone 49 = .ok (.getfield 12, 3) := by decide +kernel
theorem dX11_aboutStone_52 : decode cX11_aboutStone 52 = .ok (.getfield 65, 3) := by decide +kernel
theorem dX11_aboutStone_55 : decode cX11_aboutStone 55 = .ok (.getfield 81, 3) := by decide +kernel
theorem dX11_aboutStone_58 : decode cX11_aboutStone 58 = .ok (.iadd, 1) := by decide +kernel
theorem dX11_aboutStone_59 : decode cX11_aboutStone 59 = .ok (.if_icmp .ge 19, 3) := by decide +kernel
theorem dX11_aboutStone_62 : decode cX11_aboutStone 62 = .ok (.aload_n 0, 1) := by decide +kernel
theorem dX11_aboutStone_63 : decode cX11_aboutStone 63 = .ok (.getfield 12, 3) := by decide +kernel
theorem dX11_aboutStone_66 : decode cX11_aboutStone 66 = .ok (.getfield 65, 3) := by decide +kernel
theorem dX11_aboutStone_69 : decode cX11_aboutStone 69 = .ok (.getfield 100, 3) := by decide +kernel
theorem dX11_aboutStone_72 : decode cX11_aboutStone 72 = .ok (.iload_n 1, 1) := by decide +kernel
theorem dX11_aboutStone_73 : decode cX11_aboutStone 73 = .ok (.bipush 30, 2) := by decide +kernel
theorem dX11_aboutStone_75 : decode cX11_aboutStone 75 = .ok (.isub, 1) := by decide +kernel
theorem dX11_aboutStone_76 : decode cX11_aboutStone 76 = .ok (.iaload, 1) := by decide +kernel
theorem dX11_aboutStone_77 : decode cX11_aboutStone 77 = .ok (.ireturn, 1) := by decide +kernel
theorem dX11_aboutStone_78 : decode cX11_aboutStone 78 = .ok (.bipush (-2), 2) := by decide +kernel
theorem dX11_aboutStone_80 : decode cX11_aboutStone 80 = .ok (.ireturn, 1) := by decide +kernel
theorem dX11_canBeLaid_0 : decode cX11_canBeLaid 0 = .ok (.aload_n 0, 1) := by decide +kernel
theorem dX11_canBeLaid_1 : decode cX11_canBeLaid 1 = .ok (.getfield 12, 3) := by decide +kernel
theorem dX11_canBeLaid_4 : decode cX11_canBeLaid 4 = .ok (.iload_n 1, 1) := by decide +kernel
theorem dX11_canBeLaid_5 : decode cX11_canBeLaid 5 = .ok (.invokevirtual 164, 3) := by decide +kernel
theorem dX11_canBeLaid_8 : decode cX11_canBeLaid 8 = .ok (.ifCond .ne 70, 3) := by decide +kernel
theorem dX11_canBeLaid_11 : decode cX11_canBeLaid 11 = .ok (.aload_n 0, 1) := by decide +kernel
theorem dX11_canBeLaid_12 : decode cX11_canBeLaid 12 = .ok (.getfield 12, 3) := by decide +kernel
theorem dX11_canBeLaid_15 : decode cX11_canBeLaid 15 = .ok (.getfield 65, 3) := by decide +kernel
theorem dX11_canBeLaid_18 : decode cX11_canBeLaid 18 = .ok (.iload_n 1, 1) := by decide +kernel
theorem dX11_canBeLaid_19 : decode cX11_canBeLaid 19 = .ok (.aload_n 0, 1) := by decide +kernel
theorem dX11_canBeLaid_20 : decode cX11_canBeLaid 20 = .ok (.getfield 12, 3) := by decide +kernel
theorem dX11_canBeLaid_23 : decode cX11_canBeLaid 23 = .ok (.getfield 177, 3) := by decide +kernel
theorem dX11_canBeLaid_26 : decode cX11_canBeLaid 26 = .ok (.invokevirtual 180, 3) := by decide +kernel
theorem dX11_canBeLaid_29 : decode cX11_canBeLaid 29 = .ok (.ifCond .eq 49, 3) := by decide +kernel
theorem dX11_canBeLaid_32 : decode cX11_canBeLaid 32 = .ok (.aload_n 0, 1) := by decide +kernel
theorem dX11_canBeLaid_33 : decode cX11_canBeLaid 33 = .ok (.getfield 36, 3) := by decide +kernel
theorem dX11_canBeLaid_36 : decode cX11_canBeLaid 36 = .ok (.aload_n 0, 1) := by decide +kernel
theorem dX11_canBeLaid_37 : decode cX11_canBeLaid 37 = .ok (.getfield 12, 3) := by decide +kernel
theorem dX11_canBeLaid_40 : decode cX11_canBeLaid 40 = .ok (.iload_n 1, 1) := by decide +kernel
theorem dX11_canBeLaid_41 : decode cX11_canBeLaid 41 = .ok (.aload_n 0, 1) := by decide +kernel
theorem dX11_canBeLaid_42 : decode cX11_canBeLaid 42 = .ok (.getfield 12, 3) := by decide +kernel
theorem dX11_canBeLaid_45 : decode cX11_canBeLaid 45 = .ok (.getfield 177, 3) := by decide +kernel
theorem dX11_canBeLaid_48 : decode cX11_canBeLaid 48 = .ok (.invokestatic 75, 3) := by decide +kernel
theorem dX11_canBeLaid_51 : decode cX11_canBeLaid 51 = .ok (.aload_n 0, 1) := by decide +kernel
theorem dX11_canBeLaid_52 : decode cX11_canBeLaid 52 = .ok (.getfield 12, 3) := by decide +kernel
theorem dX11_canBeLaid_55 : decode cX11_canBeLaid 55 = .ok (.getfield 65, 3) := by decide +kernel
theorem dX11_canBeLaid_58 : decode cX11_canBeLaid 58 = .ok (.aload_n 0, 1) := by decide +kernel
theorem dX11_canBeLaid_59 : decode cX11_canBeLaid 59 = .ok (.getfield 12, 3) := by decide +kernel
theorem dX11_canBeLaid_62 : decode cX11_canBeLaid 62 = .ok (.getfield 177, 3) := by decide +kernel
theorem dX11_canBeLaid_65 : decode cX11_canBeLaid 65 = .ok (.invokevirtual 277, 3) := by decide +kernel
theorem dX11_canBeLaid_68 : decode cX11_canBeLaid 68 = .ok (.invokevirtual 280, 3) := by decide +kernel
theorem dX11_canBeLaid_71 : decode cX11_canBeLaid 71 = .ok (.ifCond .eq 7, 3) := by decide +kernel
theorem dX11_canBeLaid_74 : decode cX11_canBeLaid 74 = .ok (.iconst 1, 1) := by decide +kernel
theorem dX11_canBeLaid_75 : decode cX11_canBeLaid 75 = .ok (.goto 4, 3) := by decide +kernel
theorem dX11_canBeLaid_78 : decode cX11_canBeLaid 78 = .ok (.iconst 0, 1) := by decide +kernel
theorem dX11_canBeLaid_79 : decode cX11_canBeLaid 79 = .ok (.ireturn, 1) := by decide +kernel
theorem dX11_liftUponLaid_0 : decode cX11_liftUponLaid 0 = .ok (.aload_n 0, 1) := by decide +kernel
theorem dX11_liftUponLaid_1 : decode cX11_liftUponLaid 1 = .ok (.getfield 12, 3) := by decide +kernel
theorem dX11_liftUponLaid_4 : decode cX11_liftUponLaid 4 = .ok (.getfield 177, 3) := by decide +kernel
theorem dX11_liftUponLaid_7 : decode cX11_liftUponLaid 7 = .ok (.iconst 1, 1) := by decide +kernel
theorem dX11_liftUponLaid_8 : decode cX11_liftUponLaid 8 = .ok (.iload_n 1, 1) := by decide +kernel
theorem dX11_liftUponLaid_9 : decode cX11_liftUponLaid 9 = .ok (.ishl, 1) := by decide +kernel
theorem dX11_liftUponLaid_10 : decode cX11_liftUponLaid 10 = .ok (.iconst (-1), 1) := by decide +kernel
theorem dX11_liftUponLaid_11 : decode cX11_liftUponLaid 11 = .ok (.ixor, 1) := by decide +kernel
theorem dX11_liftUponLaid_12 : decode cX11_liftUponLaid 12 = .ok (.iand, 1) := by decide +kernel
theorem dX11_liftUponLaid_13 : decode cX11_liftUponLaid 13 = .ok (.istore_n 2, 1) := by decide +kernel
theorem dX11_liftUponLaid_14 : decode cX11_liftUponLaid 14 = .ok (.aload_n 0, 1) := by decide +kernel
theorem dX11_liftUponLaid_15 : decode cX11_liftUponLaid 15 = .ok (.getfield 36, 3) := by decide +kernel
theorem dX11_liftUponLaid_18 : decode cX11_liftUponLaid 18 = .ok (.aload_n 0, 1) := by decide +kernel
theorem dX11_liftUponLaid_19 : decode cX11_liftUponLaid 19 = .ok (.getfield 12, 3) := by decide +kernel
theorem dX11_liftUponLaid_22 : decode cX11_liftUponLaid 22 = .ok (.iload_n 1, 1) := by decide +kernel
theorem dX11_liftUponLaid_23 : decode cX11_liftUponLaid 23 = .ok (.iload_n 2, 1) := by decide +kernel
theorem dX11_liftUponLaid_24 : decode cX11_liftUponLaid 24 = .ok (.invokestatic 75, 3) := by decide +kernel
theorem dX11_liftUponLaid_27 : decode cX11_liftUponLaid 27 = .ok (.aload_n 0, 1) := by decide +kernel
theorem dX11_liftUponLaid_28 : decode cX11_liftUponLaid 28 = .ok (.getfield 12, 3) := by decide +kernel
theorem dX11_liftUponLaid_31 : decode cX11_liftUponLaid 31 = .ok (.getfield 65, 3) := by decide +kernel
theorem dX11_liftUponLaid_34 : decode cX11_liftUponLaid 34 = .ok (.iload_n 2, 1) := by decide +kernel
theorem dX11_liftUponLaid_35 : decode cX11_liftUponLaid 35 = .ok (.invokevirtual 277, 3) := by decide +kernel
theorem dX11_liftUponLaid_38 : decode cX11_liftUponLaid 38 = .ok (.invokevirtual 284, 3) := by decide +kernel
theorem dX11_liftUponLaid_41 : decode cX11_liftUponLaid 41 = .ok (.ireturn, 1) := by decide +kernel
theorem dX11_isPlayed_0 : decode cX11_isPlayed 0 = .ok (.aload_n 1, 1) := by decide +kernel
theorem dX11_isPlayed_1 : decode cX11_isPlayed 1 = .ok (.iload_n 2, 1) := by decide +kernel
theorem dX11_isPlayed_2 : decode cX11_isPlayed 2 = .ok (.invokevirtual 288, 3) := by decide +kernel
theorem dX11_isPlayed_5 : decode cX11_isPlayed 5 = .ok (.istore_n 3, 1) := by decide +kernel
theorem dX11_isPlayed_6 : decode cX11_isPlayed 6 = .ok (.aload_n 1, 1) := by decide +kernel
theorem dX11_isPlayed_7 : decode cX11_isPlayed 7 = .ok (.iload_n 2, 1) := by decide +kernel
theorem dX11_isPlayed_8 : decode cX11_isPlayed 8 = .ok (.invokevirtual 291, 3) := by decide +kernel
theorem dX11_isPlayed_11 : decode cX11_isPlayed 11 = .ok (.tableswitch 75 11 13 #[25, 40, 55], 25) := by decide +kernel
theorem dX11_isPlayed_36 : decode cX11_isPlayed 36 = .ok (.aload_n 0, 1) := by decide +kernel
theorem dX11_isPlayed_37 : decode cX11_isPlayed 37 = .ok (.iload_n 3, 1) := by decide +kernel
theorem dX11_isPlayed_38 : decode cX11_isPlayed 38 = .ok (.invokevirtual 294, 3) := by decide +kernel
theorem dX11_isPlayed_41 : decode cX11_isPlayed 41 = .ok (.iconst (-1), 1) := by decide +kernel
theorem dX11_isPlayed_42 : decode cX11_isPlayed 42 = .ok (.if_icmp .eq 7, 3) := by decide +kernel
theorem dX11_isPlayed_45 : decode cX11_isPlayed 45 = .ok (.iconst 1, 1) := by decide +kernel
theorem dX11_isPlayed_46 : decode cX11_isPlayed 46 = .ok (.goto 4, 3) := by decide +kernel
theorem dX11_isPlayed_49 : decode cX11_isPlayed 49 = .ok (.iconst 0, 1) := by decide +kernel
theorem dX11_isPlayed_50 : decode cX11_isPlayed 50 = .ok (.ireturn, 1) := by decide +kernel
theorem dX11_isPlayed_51 : decode cX11_isPlayed 51 = .ok (.aload_n 0, 1) := by decide +kernel
theorem dX11_isPlayed_52 : decode cX11_isPlayed 52 = .ok (.iload_n 3, 1) := by decide +kernel
theorem dX11_isPlayed_53 : decode cX11_isPlayed 53 = .ok (.invokevirtual 297, 3) := by decide +kernel
theorem dX11_isPlayed_56 : decode cX11_isPlayed 56 = .ok (.iconst (-1), 1) := by decide +kernel
theorem dX11_isPlayed_57 : decode cX11_isPlayed 57 = .ok (.if_icmp .eq 7, 3) := by decide +kernel
theorem dX11_isPlayed_60 : decode cX11_isPlayed 60 = .ok (.iconst 1, 1) := by decide +kernel
theorem dX11_isPlayed_61 : decode cX11_isPlayed 61 = .ok (.goto 4, 3) := by decide +kernel
theorem dX11_isPlayed_64 : decode cX11_isPlayed 64 = .ok (.iconst 0, 1) := by decide +kernel
theorem dX11_isPlayed_65 : decode cX11_isPlayed 65 = .ok (.ireturn, 1) := by decide +kernel
theorem dX11_isPlayed_66 : decode cX11_isPlayed 66 = .ok (.aload_n 0, 1) := by decide +kernel
theorem dX11_isPlayed_67 : decode cX11_isPlayed 67 = .ok (.iload_n 3, 1) := by decide +kernel
theorem dX11_isPlayed_68 : decode cX11_isPlayed 68 = .ok (.aload_n 1, 1) := by decide +kernel
theorem dX11_isPlayed_69 : decode cX11_isPlayed 69 = .ok (.iload_n 2, 1) := by decide +kernel
theorem dX11_isPlayed_70 : decode cX11_isPlayed 70 = .ok (.invokevirtual 300, 3) := by decide +kernel
theorem dX11_isPlayed_73 : decode cX11_isPlayed 73 = .ok (.invokevirtual 303, 3) := by decide +kernel
theorem dX11_isPlayed_76 : decode cX11_isPlayed 76 = .ok (.iconst (-1), 1) := by decide +kernel
theorem dX11_isPlayed_77 : decode cX11_isPlayed 77 = .ok (.if_icmp .eq 7, 3) := by decide +kernel
theorem dX11_isPlayed_80 : decode cX11_isPlayed 80 = .ok (.iconst 1, 1) := by decide +kernel
theorem dX11_isPlayed_81 : decode cX11_isPlayed 81 = .ok (.goto 4, 3) := by decide +kernel
theorem dX11_isPlayed_84 : decode cX11_isPlayed 84 = .ok (.iconst 0, 1) := by decide +kernel
theorem dX11_isPlayed_85 : decode cX11_isPlayed 85 = .ok (.ireturn, 1) := by decide +kernel
theorem dX11_isPlayed_86 : decode cX11_isPlayed 86 = .ok (.iconst 1, 1) := by decide +kernel
theorem dX11_isPlayed_87 : decode cX11_isPlayed 87 = .ok (.ireturn, 1) := by decide +kernel
theorem dX12_init_0 : decode cX12_init 0 = .ok (.aload_n 0, 1) := by decide +kernel
theorem dX12_init_1 : decode cX12_init 1 = .ok (.invokespecial 1, 3) := by decide +kernel
theorem dX12_init_4 : decode cX12_init 4 = .ok (.aload_n 0, 1) := by decide +kernel
theorem dX12_init_5 : decode cX12_init 5 = .ok (.sipush 780, 3) := by decide +kernel
theorem dX12_init_8 : decode cX12_init 8 = .ok (.newarray .int, 2) := by decide +kernel
theorem dX12_init_10 : decode cX12_init 10 = .ok (.putfield 7, 3) := by decide +kernel
theorem dX12_init_13 : decode cX12_init 13 = .ok (.aload_n 0, 1) := by decide +kernel
theorem dX12_init_14 : decode cX12_init 14 = .ok (.sipush 780, 3) := by decide +kernel
theorem dX12_init_17 : decode cX12_init 17 = .ok (.newarray .int, 2) := by decide +kernel
theorem dX12_init_19 : decode cX12_init 19 = .ok (.putfield 13, 3) := by decide +kernel
theorem dX12_init_22 : decode cX12_init 22 = .ok (.aload_n 0, 1) := by decide +kernel
theorem dX12_init_23 : decode cX12_init 23 = .ok (.sipush 2720, 3) := by decide +kernel
theorem dX12_init_26 : decode cX12_init 26 = .ok (.newarray .int, 2) := by decide +kernel
theorem dX12_init_28 : decode cX12_init 28 = .ok (.putfield 16, 3) := by decide +kernel
theorem dX12_init_31 : decode cX12_init 31 = .ok (.aload_n 0, 1) := by decide +kernel
theorem dX12_init_32 : decode cX12_init 32 = .ok (.sipush 300, 3) := by decide +kernel
theorem dX12_init_35 : decode cX12_init 35 = .ok (.newarray .int, 2) := by decide +kernel
theorem dX12_init_37 : decode cX12_init 37 = .ok (.putfield 19, 3) := by decide +kernel
theorem dX12_init_40 : decode cX12_init 40 = .ok (.aload_n 0, 1) := by decide +kernel
theorem dX12_init_41 : decode cX12_init 41 = .ok (.iconst (-1), 1) := by decide +kernel
theorem dX12_init_42 : decode cX12_init 42 = .ok (.putfield 22, 3) := by decide +kernel
theorem dX12_init_45 : decode cX12_init 45 = .ok (.aload_n 0, 1) := by decide +kernel
theorem dX12_init_46 : decode cX12_init 46 = .ok (.iconst (-1), 1) := by decide +kernel
theorem dX12_init_47 : decode cX12_init 47 = .ok (.putfield 26, 3) := by decide +kernel
theorem dX12_init_50 : decode cX12_init 50 = .ok (.aload_n 0, 1) := by decide +kernel
theorem dX12_init_51 : decode cX12_init 51 = .ok (.sipush 160, 3) := by decide +kernel
theorem dX12_init_54 : decode cX12_init 54 = .ok (.newarray .int, 2) := by decide +kernel
theorem dX12_init_56 : decode cX12_init 56 = .ok (.putfield 29, 3) := by decide +kernel
theorem dX12_init_59 : decode cX12_init 59 = .ok (.aload_n 0, 1) := by decide +kernel
theorem dX12_init_60 : decode cX12_init 60 = .ok (.bipush 8, 2) := by decide +kernel
theorem dX12_init_62 : decode cX12_init 62 = .ok (.newarray .int, 2) := by decide +kernel
theorem dX12_init_64 : decode cX12_init 64 = .ok (.putfield 32, 3) := by decide +kernel
theorem dX12_init_67 : decode cX12_init 67 = .ok (.aload_n 0, 1) := by decide +kernel
theorem dX12_init_68 : decode cX12_init 68 = .ok (.sipush 330, 3) := by decide +kernel
theorem dX12_init_71 : decode cX12_init 71 = .ok (.newarray .long, 2) := by decide +kernel
theorem dX12_init_73 : decode cX12_init 73 = .ok (.putfield 35, 3) := by decide +kernel
theorem dX12_init_76 : decode cX12_init 76 = .ok (.aload_n 0, 1) := by decide +kernel
theorem dX12_init_77 : decode cX12_init 77 = .ok (.sipush 330, 3) := by decide +kernel
theorem dX12_init_80 : decode cX12_init 80 = .ok (.newarray .boolean, 2) := by decide +kernel
theorem dX12_init_82 : decode cX12_init 82 = .ok (.putfield 39, 3) := by decide +kernel
theorem dX12_init_85 : decode cX12_init 85 = .ok (.aload_n 0, 1) := by decide +kernel
theorem dX12_init_86 : decode cX12_init 86 = .ok (.sipush 4096, 3) := by decide +kernel
theorem dX12_init_89 : decode cX12_init 89 = .ok (.newarray .boolean, 2) := by decide +kernel
theorem dX12_init_91 : decode cX12_init 91 = .ok (.putfield 43, 3) := by decide +kernel
theorem dX12_init_94 : decode cX12_init 94 = .ok (.aload_n 0, 1) := by decide +kernel
theorem dX12_init_95 : decode cX12_init 95 = .ok (.sipush 4096, 3) := by decide +kernel
theorem dX12_init_98 : decode cX12_init 98 = .ok (.newarray .int, 2) := by decide +kernel
theorem dX12_init_100 : decode cX12_init 100 = .ok (.putfield 46, 3) := by decide +kernel
theorem dX12_init_103 : decode cX12_init 103 = .ok (.aload_n 0, 1) := by decide +kernel
theorem dX12_init_104 : decode cX12_init 104 = .ok (.sipush 4096, 3) := by decide +kernel
theorem dX12_init_107 : decode cX12_init 107 = .ok (.newarray .long, 2) := by decide +kernel
theorem dX12_init_109 : decode cX12_init 109 = .ok (.putfield 49, 3) := by decide +kernel
theorem dX12_init_112 : decode cX12_init 112 = .ok (.aload_n 0, 1) := by decide +kernel
theorem dX12_init_113 : decode cX12_init 113 = .ok (.bipush 10, 2) := by decide +kernel
theorem dX12_init_115 : decode cX12_init 115 = .ok (.newarray .int, 2) := by decide +kernel
theorem dX12_init_117 : decode cX12_init 117 = .ok (.putfield 52, 3) := by decide +kernel
theorem dX12_init_120 : decode cX12_init 120 = .ok (.aload_n 0, 1) := by decide +kernel
theorem dX12_init_121 : decode cX12_init 121 = .ok (.sipush 1024, 3) := by decide +kernel
theorem dX12_init_124 : decode cX12_init 124 = .ok (.newarray .int, 2) := by decide +kernel
theorem dX12_init_126 : decode cX12_init 126 = .ok (.putfield 55, 3) := by decide +kernel
theorem dX12_init_129 : decode cX12_init 129 = .ok (.aload_n 0, 1) := by decide +kernel
theorem dX12_init_130 : decode cX12_init 130 = .ok (.getfield 7, 3) := by decide +kernel
theorem dX12_init_133 : decode cX12_init 133 = .ok (.iconst 5, 1) := by decide +kernel
theorem dX12_init_134 : decode cX12_init 134 = .ok (.iconst (-1), 1) := by decide +kernel
theorem dX12_init_135 : decode cX12_init 135 = .ok (.iastore, 1) := by decide +kernel
theorem dX12_init_136 : decode cX12_init 136 = .ok (.aload_n 0, 1) := by decide +kernel
theorem dX12_init_137 : decode cX12_init 137 = .ok (.getfield 7, 3) := by decide +kernel
theorem dX12_init_140 : decode cX12_init 140 = .ok (.aload_n 0, 1) := by decide +kernel
theorem dX12_init_141 : decode cX12_init 141 = .ok (.getfield 13, 3) := by decide +kernel
theorem dX12_init_144 : decode cX12_init 144 = .ok (.invokestatic 58, 3) := by decide +kernel
theorem dX12_init_147 : decode cX12_init 147 = .ok (.return_, 1) := by decide +kernel
theorem dX12_copy_0 : decode cX12_copy 0 = .ok (.iconst 0, 1) := by decide +kernel
theorem dX12_copy_1 : decode cX12_copy 1 = .ok (.istore_n 2, 1) := by decide +kernel
theorem dX12_copy_2 : decode cX12_copy 2 = .ok (.iload_n 2, 1) := by decide +kernel
theorem dX12_copy_3 : decode cX12_copy 3 = .ok (.sipush 780, 3) := by decide +kernel
theorem dX12_copy_6 : decode cX12_copy 6 = .ok (.if_icmp .ge 15, 3) := by decide +kernel
theorem dX12_copy_9 : decode cX12_copy 9 = .ok (.aload_n 1, 1) := by decide +kernel
theorem dX12_copy_10 : decode cX12_copy 10 = .ok (.iload_n 2, 1) := by decide +kernel
theorem dX12_copy_11 : decode cX12_copy 11 = .ok (.aload_n 0, 1) := by decide +kernel
theorem dX12_copy_12 : decode cX12_copy 12 = .ok (.iload_n 2, 1) := by decide +kernel
theorem dX12_copy_13 : decode cX12_copy 13 = .ok (.iaload, 1) := by decide +kernel
theorem dX12_copy_14 : decode cX12_copy 14 = .ok (.iastore, 1) := by decide +kernel
theorem dX12_copy_15 : decode cX12_copy 15 = .ok (.iinc 2 1, 3) := by decide +kernel
theorem dX12_copy_18 : decode cX12_copy 18 = .ok (.goto (-16), 3) := by decide +kernel
theorem dX12_copy_21 : decode cX12_copy 21 = .ok (.return_, 1) := by decide +kernel
theorem dX12_isIn_0 : decode cX12_isIn 0 = .ok (.iload_n 0, 1) := by decide +kernel
theorem dX12_isIn_1 : decode cX12_isIn 1 = .ok (.iload_n 1, 1) := by decide +kernel
theorem dX12_isIn_2 : decode cX12_isIn 2 = .ok (.if_icmp .lt 12, 3) := by decide +kernel
theorem dX12_isIn_5 : decode cX12_isIn 5 = .ok (.iload_n 0, 1) := by decide +kernel
theorem dX12_isIn_6 : decode cX12_isIn 6 = .ok (.iload_n 2, 1) := by decide +kernel
theorem dX12_isIn_7 : decode cX12_isIn 7 = .ok (.if_icmp .gt 7, 3) := by decide +kernel
theorem dX12_isIn_10 : decode cX12_isIn 10 = .ok (.iconst 1, 1) := by decide +kernel
theorem dX12_isIn_11 : decode cX12_isIn 11 = .ok (.goto 4, 3) := by decide +kernel
theorem dX12_isIn_14 : decode cX12_isIn 14 = .ok (.iconst 0, 1) := by decide +kernel
theorem dX12_isIn_15 : decode cX12_isIn 15 = .ok (.ireturn, 1) := by decide +kernel
theorem dX12_held_0 : decode cX12_held 0 = .ok (.lload_n 0, 1) := by decide +kernel
theorem dX12_held_1 : decode cX12_held 1 = .ok (.iload_n 2, 1) := by decide +kernel
theorem dX12_held_2 : decode cX12_held 2 = .ok (.i2l, 1) := by decide +kernel
theorem dX12_held_3 : decode cX12_held 3 = .ok (.lcmp, 1) := by decide +kernel
theorem dX12_held_4 : decode cX12_held 4 = .ok (.ifCond .ge 7, 3) := by decide +kernel
theorem dX12_held_7 : decode cX12_held 7 = .ok (.iload_n 2, 1) := by decide +kernel
theorem dX12_held_8 : decode cX12_held 8 = .ok (.goto 16, 3) := by decide +kernel
theorem dX12_held_11 : decode cX12_held 11 = .ok (.lload_n 0, 1) := by decide +kernel
theorem dX12_held_12 : decode cX12_held 12 = .ok (.iload_n 3, 1) := by decide +kernel
theorem dX12_held_13 : decode cX12_held 13 = .ok (.i2l, 1) := by decide +kernel
theorem dX12_held_14 : decode cX12_held 14 = .ok (.lcmp, 1) := by decide +kernel
theorem dX12_held_15 : decode cX12_held 15 = .ok (.ifCond .le 7, 3) := by decide +kernel
theorem dX12_held_18 : decode cX12_held 18 = .ok (.iload_n 3, 1) := by decide +kernel
theorem dX12_held_19 : decode cX12_held 19 = .ok (.goto 5, 3) := by decide +kernel
theorem dX12_held_22 : decode cX12_held 22 = .ok (.lload_n 0, 1) := by decide +kernel
theorem dX12_held_23 : decode cX12_held 23 = .ok (.l2i, 1) := by decide +kernel
theorem dX12_held_24 : decode cX12_held 24 = .ok (.ireturn, 1) := by decide +kernel
theorem dX12_bits_0 : decode cX12_bits 0 = .ok (.iconst 0, 1) := by decide +kernel
theorem dX12_bits_1 : decode cX12_bits 1 = .ok (.istore_n 1, 1) := by decide +kernel
theorem dX12_bits_2 : decode cX12_bits 2 = .ok (.iconst 0, 1) := by decide +kernel
theorem dX12_bits_3 : decode cX12_bits 3 = .ok (.istore_n 2, 1) := by decide +kernel
theorem dX12_bits_4 : decode cX12_bits 4 = .ok (.iload_n 2, 1) := by decide +kernel
theorem dX12_bits_5 : decode cX12_bits 5 = .ok (.bipush 12, 2) := by decide +kernel
theorem dX12_bits_7 : decode cX12_bits 7 = .ok (.if_icmp .ge 17, 3) := by decide +kernel
theorem dX12_bits_10 : decode cX12_bits 10 = .ok (.iload_n 1, 1) := by decide +kernel
theorem dX12_bits_11 : decode cX12_bits 11 = .ok (.iload_n 0, 1) := by decide +kernel
theorem dX12_bits_12 : decode cX12_bits 12 = .ok (.iload_n 2, 1) := by decide +kernel
theorem dX12_bits_13 : decode cX12_bits 13 = .ok (.ishr, 1) := by decide +kernel
theorem dX12_bits_14 : decode cX12_bits 14 = .ok (.iconst 1, 1) := by decide +kernel
theorem dX12_bits_15 : decode cX12_bits 15 = .ok (.iand, 1) := by decide +kernel
theorem dX12_bits_16 : decode cX12_bits 16 = .ok (.iadd, 1) := by decide +kernel
theorem dX12_bits_17 : decode cX12_bits 17 = .ok (.istore_n 1, 1) := by decide +kernel
theorem dX12_bits_18 : decode cX12_bits 18 = .ok (.iinc 2 1, 3) := by decide +kernel
theorem dX12_bits_21 : decode cX12_bits 21 = .ok (.goto (-17), 3) := by decide +kernel
theorem dX12_bits_24 : decode cX12_bits 24 = .ok (.iload_n 1, 1) := by decide +kernel
theorem dX12_bits_25 : decode cX12_bits 25 = .ok (.ireturn, 1) := by decide +kernel
theorem dX12_has_0 : decode cX12_has 0 = .ok (.iload_n 0, 1) := by decide +kernel
theorem dX12_has_1 : decode cX12_has 1 = .ok (.iload_n 1, 1) := by decide +kernel
theorem dX12_has_2 : decode cX12_has 2 = .ok (.ishr, 1) := by decide +kernel
theorem dX12_has_3 : decode cX12_has 3 = .ok (.iconst 1, 1) := by decide +kernel
theorem dX12_has_4 : decode cX12_has 4 = .ok (.iand, 1) := by decide +kernel
theorem dX12_has_5 : decode cX12_has 5 = .ok (.iconst 1, 1) := by decide +kernel
theorem dX12_has_6 : decode cX12_has 6 = .ok (.if_icmp .ne 7, 3) := by decide +kernel
theorem dX12_has_9 : decode cX12_has 9 = .ok (.iconst 1, 1) := by decide +kernel
theorem dX12_has_10 : decode cX12_has 10 = .ok (.goto 4, 3) := by decide +kernel
theorem dX12_has_13 : decode cX12_has 13 = .ok (.iconst 0, 1) := by decide +kernel
theorem dX12_has_14 : decode cX12_has 14 = .ok (.ireturn, 1) := by decide +kernel
theorem dX12_isStone_0 : decode cX12_isStone 0 = .ok (.iload_n 1, 1) := by decide +kernel
theorem dX12_isStone_1 : decode cX12_isStone 1 = .ok (.iconst 0, 1) := by decide +kernel
theorem dX12_isStone_2 : decode cX12_isStone 2 = .ok (.aload_n 0, 1) := by decide +kernel
theorem dX12_isStone_3 : decode cX12_isStone 3 = .ok (.getfield 7, 3) := by decide +kernel
theorem dX12_isStone_6 : decode cX12_isStone 6 = .ok (.iconst 0, 1) := by decide +kernel
theorem dX12_isStone_7 : decode cX12_isStone 7 = .ok (.iaload, 1) := by decide +kernel
theorem dX12_isStone_8 : decode cX12_isStone 8 = .ok (.iconst 1, 1) := by decide +kernel
theorem dX12_isStone_9 : decode cX12_isStone 9 = .ok (.isub, 1) := by decide +kernel
theorem dX12_isStone_10 : decode cX12_isStone 10 = .ok (.invokestatic 62, 3) := by decide +kernel
theorem dX12_isStone_13 : decode cX12_isStone 13 = .ok (.ireturn, 1) := by decide +kernel
theorem dX12_isHouse_0 : decode cX12_isHouse 0 = .ok (.iload_n 1, 1) := by decide +kernel
theorem dX12_isHouse_1 : decode cX12_isHouse 1 = .ok (.iconst 0, 1) := by decide +kernel
theorem dX12_isHouse_2 : decode cX12_isHouse 2 = .ok (.aload_n 0, 1) := by decide +kernel
theorem dX12_isHouse_3 : decode cX12_isHouse 3 = .ok (.getfield 7, 3) := by decide +kernel
theorem dX12_isHouse_6 : decode cX12_isHouse 6 = .ok (.iconst 3, 1) := by decide +kernel
theorem dX12_isHouse_7 : decode cX12_isHouse 7 = .ok (.iaload, 1) := by decide +kernel
theorem dX12_isHouse_8 : decode cX12_isHouse 8 = .ok (.iconst 1, 1) := by decide +kernel
theorem dX12_isHouse_9 : decode cX12_isHouse 9 = .ok (.isub, 1) := by decide +kernel
theorem dX12_isHouse_10 : decode cX12_isHouse 10 = .ok (.invokestatic 62, 3) := by decide +kernel
theorem dX12_isHouse_13 : decode cX12_isHouse 13 = .ok (.ireturn, 1) := by decide +kernel
theorem dX12_all_0 : decode cX12_all 0 = .ok (.iconst 1, 1) := by decide +kernel
theorem dX12_all_1 : decode cX12_all 1 = .ok (.aload_n 0, 1) := by decide +kernel
theorem dX12_all_2 : decode cX12_all 2 = .ok (.getfield 7, 3) := by decide +kernel
theorem dX12_all_5 : decode cX12_all 5 = .ok (.iconst 0, 1) := by decide +kernel
theorem dX12_all_6 : decode cX12_all 6 = .ok (.iaload, 1) := by decide +kernel
theorem dX12_all_7 : decode cX12_all 7 = .ok (.ishl, 1) := by decide +kernel
theorem dX12_all_8 : decode cX12_all 8 = .ok (.iconst 1, 1) := by decide +kernel
theorem dX12_all_9 : decode cX12_all 9 = .ok (.isub, 1) := by decide +kernel
theorem dX12_all_10 : decode cX12_all 10 = .ok (.ireturn, 1) := by decide +kernel
theorem dX12_stoneAt_0 : decode cX12_stoneAt 0 = .ok (.bipush 10, 2) := by decide +kernel
theorem dX12_stoneAt_2 : decode cX12_stoneAt 2 = .ok (.iconst 5, 1) := by decide +kernel
theorem dX12_stoneAt_3 : decode cX12_stoneAt 3 = .ok (.iload_n 0, 1) := by decide +kernel
theorem dX12_stoneAt_4 : decode cX12_stoneAt 4 = .ok (.imul, 1) := by decide +kernel
theorem dX12_stoneAt_5 : decode cX12_stoneAt 5 = .ok (.iadd, 1) := by decide +kernel
theorem dX12_stoneAt_6 : decode cX12_stoneAt 6 = .ok (.ireturn, 1) := by decide +kernel
theorem dX12_houseAt_0 : decode cX12_houseAt 0 = .ok (.bipush 70, 2) := by decide +kernel
theorem dX12_houseAt_2 : decode cX12_houseAt 2 = .ok (.iconst 3, 1) := by decide +kernel
theorem dX12_houseAt_3 : decode cX12_houseAt 3 = .ok (.iload_n 0, 1) := by decide +kernel
theorem dX12_houseAt_4 : decode cX12_houseAt 4 = .ok (.imul, 1) := by decide +kernel
theorem dX12_houseAt_5 : decode cX12_houseAt 5 = .ok (.iadd, 1) := by decide +kernel
theorem dX12_houseAt_6 : decode cX12_houseAt 6 = .ok (.ireturn, 1) := by decide +kernel
theorem dX12_stone_0 : decode cX12_stone 0 = .ok (.iload_n 1, 1) := by decide +kernel
theorem dX12_stone_1 : decode cX12_stone 1 = .ok (.iconst 1, 1) := by decide +kernel
theorem dX12_stone_2 : decode cX12_stone 2 = .ok (.bipush 99, 2) := by decide +kernel
theorem dX12_stone_4 : decode cX12_stone 4 = .ok (.invokestatic 62, 3) := by decide +kernel
theorem dX12_stone_7 : decode cX12_stone 7 = .ok (.ifCond .eq 34, 3) := by decide +kernel
theorem dX12_stone_10 : decode cX12_stone 10 = .ok (.iload_n 2, 1) := by decide +kernel
theorem dX12_stone_11 : decode cX12_stone 11 = .ok (.iconst 0, 1) := by decide +kernel
theorem dX12_stone_12 : decode cX12_stone 12 = .ok (.bipush 20, 2) := by decide +kernel
theorem dX12_stone_14 : decode cX12_stone 14 = .ok (.invokestatic 62, 3) := by decide +kernel
theorem dX12_stone_17 : decode cX12_stone 17 = .ok (.ifCond .eq 24, 3) := by decide +kernel
theorem dX12_stone_20 : decode cX12_stone 20 = .ok (.iload_n 3, 1) := by decide +kernel
theorem dX12_stone_21 : decode cX12_stone 21 = .ok (.iconst 0, 1) := by decide +kernel
theorem dX12_stone_22 : decode cX12_stone 22 = .ok (.bipush 99, 2) := by decide +kernel
theorem dX12_stone_24 : decode cX12_stone 24 = .ok (.invokestatic 62, 3) := by decide +kernel
theorem dX12_stone_27 : decode cX12_stone 27 = .ok (.ifCond .eq 14, 3) := by decide +kernel
theorem dX12_stone_30 : decode cX12_stone 30 = .ok (.aload_n 0, 1) := by decide +kernel
theorem dX12_stone_31 : decode cX12_stone 31 = .ok (.getfield 7, 3) := by decide +kernel
theorem dX12_stone_34 : decode cX12_stone 34 = .ok (.iconst 0, 1) := by decide +kernel
theorem dX12_stone_35 : decode cX12_stone 35 = .ok (.iaload, 1) := by decide +kernel
theorem dX12_stone_36 : decode cX12_stone 36 = .ok (.bipush 12, 2) := by decide +kernel
theorem dX12_stone_38 : decode cX12_stone 38 = .ok (.if_icmp .ne 5, 3) := by decide +kernel
theorem dX12_stone_41 : decode cX12_stone 41 = .ok (.iconst (-1), 1) := by decide +kernel
theorem dX12_stone_42 : decode cX12_stone 42 = .ok (.ireturn, 1) := by decide +kernel
theorem dX12_stone_43 : decode cX12_stone 43 = .ok (.iload 4, 2) := by decide +kernel
theorem dX12_stone_45 : decode cX12_stone 45 = .ok (.iconst 0, 1) := by decide +kernel
theorem dX12_stone_46 : decode cX12_stone 46 = .ok (.aload_n 0, 1) := by decide +kernel
theorem dX12_stone_47 : decode cX12_stone 47 = .ok (.invokevirtual 66, 3) := by decide +kernel
theorem dX12_stone_50 : decode cX12_stone 50 = .ok (.invokestatic 62, 3) := by decide +kernel
theorem dX12_stone_53 : decode cX12_stone 53 = .ok (.ifCond .eq 17, 3) := by decide +kernel
theorem dX12_stone_56 : decode cX12_stone 56 = .ok (.iload 5, 2) := by decide +kernel
theorem dX12_stone_58 : decode cX12_stone 58 = .ok (.iconst 0, 1) := by decide +kernel
theorem dX12_stone_59 : decode cX12_stone 59 = .ok (.iload 4, 2) := by decide +kernel
theorem dX12_stone_61 : decode cX12_stone 61 = .ok (.invokestatic 70, 3) := by decide +kernel
theorem dX12_stone_64 : decode cX12_stone 64 = .ok (.invokestatic 62, 3) := by decide +kernel
theorem dX12_stone_67 : decode cX12_stone 67 = .ok (.ifCond .ne 5, 3) := by decide +kernel
theorem dX12_stone_70 : decode cX12_stone 70 = .ok (.iconst (-1), 1) := by decide +kernel
theorem dX12_stone_71 : decode cX12_stone 71 = .ok (.ireturn, 1) := by decide +kernel
theorem dX12_stone_72 : decode cX12_stone 72 = .ok (.aload_n 0, 1) := by decide +kernel
theorem dX12_stone_73 : decode cX12_stone 73 = .ok (.getfield 7, 3) := by decide +kernel
theorem dX12_stone_76 : decode cX12_stone 76 = .ok (.iconst 0, 1) := by decide +kernel
theorem dX12_stone_77 : decode cX12_stone 77 = .ok (.iaload, 1) := by decide +kernel
theorem dX12_stone_78 : decode cX12_stone 78 = .ok (.invokestatic 74, 3) := by decide +kernel
theorem dX12_stone_81 : decode cX12_stone 81 = .ok (.istore 6, 2) := by decide +kernel
theorem dX12_stone_83 : decode cX12_stone 83 = .ok (.aload_n 0, 1) := by decide +kernel
theorem dX12_stone_84 : decode cX12_stone 84 = .ok (.getfield 7, 3) := by decide +kernel
theorem dX12_stone_87 : decode cX12_stone 87 = .ok (.iload 6, 2) := by decide +kernel
theorem dX12_stone_89 : decode cX12_stone 89 = .ok (.iload_n 1, 1) := by decide +kernel
theorem dX12_stone_90 : decode cX12_stone 90 = .ok (.iastore, 1) := by decide +kernel
theorem dX12_stone_91 : decode cX12_stone 91 = .ok (.aload_n 0, 1) := by decide +kernel
theorem dX12_stone_92 : decode cX12_stone 92 = .ok (.getfield 7, 3) := by decide +kernel
theorem dX12_stone_95 : decode cX12_stone 95 = .ok (.iload 6, 2) := by decide +kernel
theorem dX12_stone_97 : decode cX12_stone 97 = .ok (.iconst 1, 1) := by decide +kernel
theorem dX12_stone_98 : decode cX12_stone 98 = .ok (.iadd, 1) := by decide +kernel
theorem dX12_stone_99 : decode cX12_stone 99 = .ok (.iload_n 2, 1) := by decide +kernel
theorem dX12_stone_100 : decode cX12_stone 100 = .ok (.iastore, 1) := by decide +kernel
theorem dX12_stone_101 : decode cX12_stone 101 = .ok (.aload_n 0, 1) := by decide +kernel
theorem dX12_stone_102 : decode cX12_stone 102 = .ok (.getfield 7, 3) := by decide +kernel
theorem dX12_stone_105 : decode cX12_stone 105 = .ok (.iload 6, 2) := by decide +kernel
theorem dX12_stone_107 : decode cX12_stone 107 = .ok (.iconst 2, 1) := by decide +kernel
theorem dX12_stone_108 : decode cX12_stone 108 = .ok (.iadd, 1) := by decide +kernel
theorem dX12_stone_109 : decode cX12_stone 109 = .ok (.iload_n 3, 1) := by decide +kernel
theorem dX12_stone_110 : decode cX12_stone 110 = .ok (.iastore, 1) := by decide +kernel
theorem dX12_stone_111 : decode cX12_stone 111 = .ok (.aload_n 0, 1) := by decide +kernel
theorem dX12_stone_112 : decode cX12_stone 112 = .ok (.getfield 7, 3) := by decide +kernel
theorem dX12_stone_115 : decode cX12_stone 115 = .ok (.iload 6, 2) := by decide +kernel
theorem dX12_stone_117 : decode cX12_stone 117 = .ok (.iconst 3, 1) := by decide +kernel
theorem dX12_stone_118 : decode cX12_stone 118 = .ok (.iadd, 1) := by decide +kernel
theorem dX12_stone_119 : decode cX12_stone 119 = .ok (.iload 4, 2) := by decide +kernel
theorem dX12_stone_121 : decode cX12_stone 121 = .ok (.iastore, 1) := by decide +kernel
theorem dX12_stone_122 : decode cX12_stone 122 = .ok (.aload_n 0, 1) := by decide +kernel
theorem dX12_stone_123 : decode cX12_stone 123 = .ok (.getfield 7, 3) := by decide +kernel
theorem dX12_stone_126 : decode cX12_stone 126 = .ok (.iload 6, 2) := by decide +kernel
theorem dX12_stone_128 : decode cX12_stone 128 = .ok (.iconst 4, 1) := by decide +kernel
theorem dX12_stone_129 : decode cX12_stone 129 = .ok (.iadd, 1) := by decide +kernel
theorem dX12_stone_130 : decode cX12_stone 130 = .ok (.iload 5, 2) := by decide +kernel
theorem dX12_stone_132 : decode cX12_stone 132 = .ok (.iastore, 1) := by decide +kernel
theorem dX12_stone_133 : decode cX12_stone 133 = .ok (.aload_n 0, 1) := by decide +kernel
theorem dX12_stone_134 : decode cX12_stone 134 = .ok (.getfield 7, 3) := by decide +kernel
theorem dX12_stone_137 : decode cX12_stone 137 = .ok (.iconst 0, 1) := by decide +kernel
theorem dX12_stone_138 : decode cX12_stone 138 = .ok (.dup2, 1) := by decide +kernel
theorem dX12_stone_139 : decode cX12_stone 139 = .ok (.iaload, 1) := by decide +kernel
theorem dX12_stone_140 : decode cX12_stone 140 = .ok (.iconst 1, 1) := by decide +kernel
theorem dX12_stone_141 : decode cX12_stone 141 = .ok (.iadd, 1) := by decide +kernel
theorem dX12_stone_142 : decode cX12_stone 142 = .ok (.iastore, 1) := by decide +kernel
theorem dX12_stone_143 : decode cX12_stone 143 = .ok (.aload_n 0, 1) := by decide +kernel
theorem dX12_stone_144 : decode cX12_stone 144 = .ok (.getfield 7, 3) := by decide +kernel
theorem dX12_stone_147 : decode cX12_stone 147 = .ok (.iconst 0, 1) := by decide +kernel
theorem dX12_stone_148 : decode cX12_stone 148 = .ok (.iaload, 1) := by decide +kernel
theorem dX12_stone_149 : decode cX12_stone 149 = .ok (.iconst 1, 1) := by decide +kernel
theorem dX12_stone_150 : decode cX12_stone 150 = .ok (.isub, 1) := by decide +kernel
theorem dX12_stone_151 : decode cX12_stone 151 = .ok (.ireturn, 1) := by decide +kernel
theorem dX12_hour_0 : decode cX12_hour 0 = .ok (.iload_n 1, 1) := by decide +kernel
theorem dX12_hour_1 : decode cX12_hour 1 = .ok (.iconst 0, 1) := by decide +kernel
theorem dX12_hour_2 : decode cX12_hour 2 = .ok (.bipush 23, 2) := by decide +kernel
theorem dX12_hour_4 : decode cX12_hour 4 = .ok (.invokestatic 62, 3) := by decide +kernel
theorem dX12_hour_7 : decode cX12_hour 7 = .ok (.ifCond .ne 5, 3) := by decide +kernel
theorem dX12_hour_10 : decode cX12_hour 10 = .ok (.iconst 0, 1) := by decide +kernel
theorem dX12_hour_11 : decode cX12_hour 11 = .ok (.ireturn, 1) := by decide +kernel
theorem dX12_hour_12 : decode cX12_hour 12 = .ok (.aload_n 0, 1) := by decide +kernel
theorem dX12_hour_13 : decode cX12_hour 13 = .ok (.getfield 7, 3) := by decide +kernel
theorem dX12_hour_16 : decode cX12_hour 16 = .ok (.iconst 2, 1) := by decide +kernel
theorem dX12_hour_17 : decode cX12_hour 17 = .ok (.iload_n 1, 1) := by decide +kernel
theorem dX12_hour_18 : decode cX12_hour 18 = .ok (.iastore, 1) := by decide +kernel
theorem dX12_hour_19 : decode cX12_hour 19 = .ok (.iconst 1, 1) := by decide +kernel
theorem dX12_hour_20 : decode cX12_hour 20 = .ok (.ireturn, 1) := by decide +kernel
theorem dX12_house_0 : decode cX12_house 0 = .ok (.iload_n 1, 1) := by decide +kernel
theorem dX12_house_1 : decode cX12_house 1 = .ok (.iconst 0, 1) := by decide +kernel
theorem dX12_house_2 : decode cX12_house 2 = .ok (.bipush 99, 2) := by decide +kernel
theorem dX12_house_4 : decode cX12_house 4 = .ok (.invokestatic 62, 3) := by decide +kernel
theorem dX12_house_7 : decode cX12_house 7 = .ok (.ifCond .eq 14, 3) := by decide +kernel
theorem dX12_house_10 : decode cX12_house 10 = .ok (.aload_n 0, 1) := by decide +kernel
theorem dX12_house_11 : decode cX12_house 11 = .ok (.getfield 7, 3) := by decide +kernel
theorem dX12_house_14 : decode cX12_house 14 = .ok (.iconst 3, 1) := by decide +kernel
theorem dX12_house_15 : decode cX12_house 15 = .ok (.iaload, 1) := by decide +kernel
theorem dX12_house_16 : decode cX12_house 16 = .ok (.bipush 10, 2) := by decide +kernel
theorem dX12_house_18 : decode cX12_house 18 = .ok (.if_icmp .ne 5, 3) := by decide +kernel
theorem dX12_house_21 : decode cX12_house 21 = .ok (.iconst (-1), 1) := by decide +kernel
theorem dX12_house_22 : decode cX12_house 22 = .ok (.ireturn, 1) := by decide +kernel
theorem dX12_house_23 : decode cX12_house 23 = .ok (.aload_n 0, 1) := by decide +kernel
theorem dX12_house_24 : decode cX12_house 24 = .ok (.getfield 7, 3) := by decide +kernel
theorem dX12_house_27 : decode cX12_house 27 = .ok (.iconst 3, 1) := by decide +kernel
theorem dX12_house_28 : decode cX12_house 28 = .ok (.iaload, 1) := by decide +kernel
theorem dX12_house_29 : decode cX12_house 29 = .ok (.invokestatic 77, 3) := by decide +kernel
theorem dX12_house_32 : decode cX12_house 32 = .ok (.istore_n 2, 1) := by decide +kernel
theorem dX12_house_33 : decode cX12_house 33 = .ok (.aload_n 0, 1) := by decide +kernel
theorem dX12_house_34 : decode cX12_house 34 = .ok (.getfield 7, 3) := by decide +kernel
theorem dX12_house_37 : decode cX12_house 37 = .ok (.iload_n 2, 1) := by decide +kernel
theorem dX12_house_38 : decode cX12_house 38 = .ok (.iload_n 1, 1) := by decide +kernel
theorem dX12_house_39 : decode cX12_house 39 = .ok (.iastore, 1) := by decide +kernel
theorem dX12_house_40 : decode cX12_house 40 = .ok (.aload_n 0, 1) := by decide +kernel
theorem dX12_house_41 : decode cX12_house 41 = .ok (.getfield 7, 3) := by decide +kernel
theorem dX12_house_44 : decode cX12_house 44 = .ok (.iload_n 2, 1) := by decide +kernel
theorem dX12_house_45 : decode cX12_house 45 = .ok (.iconst 1, 1) := by decide +kernel
theorem dX12_house_46 : decode cX12_house 46 = .ok (.iadd, 1) := by decide +kernel
theorem dX12_house_47 : decode cX12_house 47 = .ok (.iconst 0, 1) := by decide +kernel
theorem dX12_house_48 : decode cX12_house 48 = .ok (.iastore, 1) := by decide +kernel
theorem dX12_house_49 : decode cX12_house 49 = .ok (.aload_n 0, 1) := by decide +kernel
theorem dX12_house_50 : decode cX12_house 50 = .ok (.getfield 7, 3) := by decide +kernel
theorem dX12_house_53 : decode cX12_house 53 = .ok (.iload_n 2, 1) := by decide +kernel
theorem dX12_house_54 : decode cX12_house 54 = .ok (.iconst 2, 1) := by decide +kernel
theorem dX12_house_55 : decode cX12_house 55 = .ok (.iadd, 1) := by decide +kernel
theorem dX12_house_56 : decode cX12_house 56 = .ok (.iconst 0, 1) := by decide +kernel
theorem dX12_house_57 : decode cX12_house 57 = .ok (.iastore, 1) := by decide +kernel
theorem dX12_house_58 : decode cX12_house 58 = .ok (.aload_n 0, 1) := by decide +kernel
theorem dX12_house_59 : decode cX12_house 59 = .ok (.getfield 7, 3) := by decide +kernel
theorem dX12_house_62 : decode cX12_house 62 = .ok (.iconst 3, 1) := by decide +kernel
theorem dX12_house_63 : decode cX12_house 63 = .ok (.dup2, 1) := by decide +kernel
theorem dX12_house_64 : decode cX12_house 64 = .ok (.iaload, 1) := by decide +kernel
theorem dX12_house_65 : decode cX12_house 65 = .ok (.iconst 1, 1) := by decide +kernel
theorem dX12_house_66 : decode cX12_house 66 = .ok (.iadd, 1) := by decide +kernel
theorem dX12_house_67 : decode cX12_house 67 = .ok (.iastore, 1) := by decide +kernel
theorem dX12_house_68 : decode cX12_house 68 = .ok (.aload_n 0, 1) := by decide +kernel
theorem dX12_house_69 : decode cX12_house 69 = .ok (.getfield 7, 3) := by decide +kernel
theorem dX12_house_72 : decode cX12_house 72 = .ok (.iconst 3, 1) := by decide +kernel
theorem dX12_house_73 : decode cX12_house 73 = .ok (.iaload, 1) := by decide +kernel
theorem dX12_house_74 : decode cX12_house 74 = .ok (.iconst 1, 1) := by decide +kernel
theorem dX12_house_75 : decode cX12_house 75 = .ok (.isub, 1) := by decide +kernel
theorem dX12_house_76 : decode cX12_house 76 = .ok (.ireturn, 1) := by decide +kernel
theorem dX12_touches_0 : decode cX12_touches 0 = .ok (.iload_n 1, 1) := by decide +kernel
theorem dX12_touches_1 : decode cX12_touches 1 = .ok (.invokestatic 77, 3) := by decide +kernel
theorem dX12_touches_4 : decode cX12_touches 4 = .ok (.iconst 2, 1) := by decide +kernel
theorem dX12_touches_5 : decode cX12_touches 5 = .ok (.iadd, 1) := by decide +kernel
theorem dX12_touches_6 : decode cX12_touches 6 = .ok (.istore 4, 2) := by decide +kernel
theorem dX12_touches_8 : decode cX12_touches 8 = .ok (.aload_n 0, 1) := by decide +kernel
theorem dX12_touches_9 : decode cX12_touches 9 = .ok (.getfield 7, 3) := by decide +kernel
theorem dX12_touches_12 : decode cX12_touches 12 = .ok (.iload 4, 2) := by decide +kernel
theorem dX12_touches_14 : decode cX12_touches 14 = .ok (.iload_n 3, 1) := by decide +kernel
theorem dX12_touches_15 : decode cX12_touches 15 = .ok (.ifCond .eq 17, 3) := by decide +kernel
theorem dX12_touches_18 : decode cX12_touches 18 = .ok (.aload_n 0, 1) := by decide +kernel
theorem dX12_touches_19 : decode cX12_touches 19 = .ok (.getfield 7, 3) := by decide +kernel
theorem dX12_touches_22 : decode cX12_touches 22 = .ok (.iload 4, 2) := by decide +kernel
theorem dX12_touches_24 : decode cX12_touches 24 = .ok (.iaload, 1) := by decide +kernel
theorem dX12_touches_25 : decode cX12_touches 25 = .ok (.iconst 1, 1) := by decide +kernel
theorem dX12_touches_26 : decode cX12_touches 26 = .ok (.iload_n 2, 1) := by decide +kernel
theorem dX12_touches_27 : decode cX12_touches 27 = .ok (.ishl, 1) := by decide +kernel
theorem dX12_touches_28 : decode cX12_touches 28 = .ok (.ior, 1) := by decide +kernel
theorem dX12_touches_29 : decode cX12_touches 29 = .ok (.goto 16, 3) := by decide +kernel
theorem dX12_touches_32 : decode cX12_touches 32 = .ok (.aload_n 0, 1) := by decide +kernel
theorem dX12_touches_33 : decode cX12_touches 33 = .ok (.getfield 7, 3) := by decide +kernel
theorem dX12_touches_36 : decode cX12_touches 36 = .ok (.iload 4, 2) := by decide +kernel
theorem dX12_touches_38 : decode cX12_touches 38 = .ok (.iaload, 1) := by decide +kernel
theorem dX12_touches_39 : decode cX12_touches 39 = .ok (.iconst 1, 1) := by decide +kernel
theorem dX12_touches_40 : decode cX12_touches 40 = .ok (.iload_n 2, 1) := by decide +kernel
theorem dX12_touches_41 : decode cX12_touches 41 = .ok (.ishl, 1) := by decide +kernel
theorem dX12_touches_42 : decode cX12_touches 42 = .ok (.iconst (-1), 1) := by decide +kernel
theorem dX12_touches_43 : decode cX12_touches 43 = .ok (.ixor, 1) := by decide +kernel
theorem dX12_touches_44 : decode cX12_touches 44 = .ok (.iand, 1) := by decide +kernel
theorem dX12_touches_45 : decode cX12_touches 45 = .ok (.iastore, 1) := by decide +kernel
theorem dX12_touches_46 : decode cX12_touches 46 = .ok (.return_, 1) := by decide +kernel
theorem dX12_touch_0 : decode cX12_touch 0 = .ok (.aload_n 0, 1) := by decide +kernel
theorem dX12_touch_1 : decode cX12_touch 1 = .ok (.iload_n 1, 1) := by decide +kernel
theorem dX12_touch_2 : decode cX12_touch 2 = .ok (.invokevirtual 80, 3) := by decide +kernel
theorem dX12_touch_5 : decode cX12_touch 5 = .ok (.ifCond .eq 16, 3) := by decide +kernel
theorem dX12_touch_8 : decode cX12_touch 8 = .ok (.aload_n 0, 1) := by decide +kernel
theorem dX12_touch_9 : decode cX12_touch 9 = .ok (.iload_n 2, 1) := by decide +kernel
theorem dX12_touch_10 : decode cX12_touch 10 = .ok (.invokevirtual 80, 3) := by decide +kernel
theorem dX12_touch_13 : decode cX12_touch 13 = .ok (.ifCond .eq 8, 3) := by decide +kernel
theorem dX12_touch_16 : decode cX12_touch 16 = .ok (.iload_n 1, 1) := by decide +kernel
theorem dX12_touch_17 : decode cX12_touch 17 = .ok (.iload_n 2, 1) := by decide +kernel
theorem dX12_touch_18 : decode cX12_touch 18 = .ok (.if_icmp .ne 5, 3) := by decide +kernel
theorem dX12_touch_21 : decode cX12_touch 21 = .ok (.iconst 0, 1) := by decide +kernel
theorem dX12_touch_22 : decode cX12_touch 22 = .ok (.ireturn, 1) := by decide +kernel
theorem dX12_touch_23 : decode cX12_touch 23 = .ok (.aload_n 0, 1) := by decide +kernel
theorem dX12_touch_24 : decode cX12_touch 24 = .ok (.iload_n 1, 1) := by decide +kernel
theorem dX12_touch_25 : decode cX12_touch 25 = .ok (.iload_n 2, 1) := by decide +kernel
theorem dX12_touch_26 : decode cX12_touch 26 = .ok (.iload_n 3, 1) := by decide +kernel
theorem dX12_touch_27 : decode cX12_touch 27 = .ok (.invokevirtual 84, 3) := by decide +kernel
theorem dX12_touch_30 : decode cX12_touch 30 = .ok (.aload_n 0, 1) := by decide +kernel
theorem dX12_touch_31 : decode cX12_touch 31 = .ok (.iload_n 2, 1) := by decide +kernel
theorem dX12_touch_32 : decode cX12_touch 32 = .ok (.iload_n 1, 1) := by decide +kernel
theorem dX12_touch_33 : decode cX12_touch 33 = .ok (.iload_n 3, 1) := by decide +kernel
theorem dX12_touch_34 : decode cX12_touch 34 = .ok (.invokevirtual 84, 3) := by decide +kernel
theorem dX12_touch_37 : decode cX12_touch 37 = .ok (.iconst 1, 1) := by decide +kernel
theorem dX12_touch_38 : decode cX12_touch 38 = .ok (.ireturn, 1) := by decide +kernel
theorem dX12_four_0 : decode cX12_four 0 = .ok (.bipush 24, 2) := by decide +kernel
theorem dX12_four_2 : decode cX12_four 2 = .ok (.istore_n 2, 1) := by decide +kernel
theorem dX12_four_3 : decode cX12_four 3 = .ok (.iload_n 2, 1) := by decide +kernel
theorem dX12_four_4 : decode cX12_four 4 = .ok (.ifCond .lt 35, 3) := by decide +kernel
theorem dX12_four_7 : decode cX12_four 7 = .ok (.aload_n 0, 1) := by decide +kernel
theorem dX12_four_8 : decode cX12_four 8 = .ok (.getfield 19, 3) := by decide +kernel
theorem dX12_four_11 : decode cX12_four 11 = .ok (.aload_n 0, 1) := by decide +kernel
theorem dX12_four_12 : decode cX12_four 12 = .ok (.getfield 88, 3) := by decide +kernel
theorem dX12_four_15 : decode cX12_four 15 = .ok (.iload_n 1, 1) := by decide +kernel
theorem dX12_four_16 : decode cX12_four 16 = .ok (.iload_n 2, 1) := by decide +kernel
theorem dX12_four_17 : decode cX12_four 17 = .ok (.ishr, 1) := by decide +kernel
theorem dX12_four_18 : decode cX12_four 18 = .ok (.sipush 255, 3) := by decide +kernel
theorem dX12_four_21 : decode cX12_four 21 = .ok (.iand, 1) := by decide +kernel
theorem dX12_four_22 : decode cX12_four 22 = .ok (.iastore, 1) := by decide +kernel
theorem dX12_four_23 : decode cX12_four 23 = .ok (.aload_n 0, 1) := by decide +kernel
theorem dX12_four_24 : decode cX12_four 24 = .ok (.dup, 1) := by decide +kernel
theorem dX12_four_25 : decode cX12_four 25 = .ok (.getfield 88, 3) := by decide +kernel
theorem dX12_four_28 : decode cX12_four 28 = .ok (.iconst 1, 1) := by decide +kernel
theorem dX12_four_29 : decode cX12_four 29 = .ok (.iadd, 1) := by decide +kernel
theorem dX12_four_30 : decode cX12_four 30 = .ok (.putfield 88, 3) := by decide +kernel
theorem dX12_four_33 : decode cX12_four 33 = .ok (.iinc 2 (-8), 3) := by decide +kernel
theorem dX12_four_36 : decode cX12_four 36 = .ok (.goto (-33), 3) := by decide +kernel
theorem dX12_four_39 : decode cX12_four 39 = .ok (.return_, 1) := by decide +kernel
theorem dX12_feed_0 : decode cX12_feed 0 = .ok (.aload_n 0, 1) := by decide +kernel
theorem dX12_feed_1 : decode cX12_feed 1 = .ok (.getfield 88, 3) := by decide +kernel
theorem dX12_feed_4 : decode cX12_feed 4 = .ok (.bipush 20, 2) := by decide +kernel
theorem dX12_feed_6 : decode cX12_feed 6 = .ok (.iadd, 1) := by decide +kernel
theorem dX12_feed_7 : decode cX12_feed 7 = .ok (.sipush 300, 3) := by decide +kernel
theorem dX12_feed_10 : decode cX12_feed 10 = .ok (.if_icmp .le 5, 3) := by decide +kernel
theorem dX12_feed_13 : decode cX12_feed 13 = .ok (.iconst (-1), 1) := by decide +kernel
theorem dX12_feed_14 : decode cX12_feed 14 = .ok (.ireturn, 1) := by decide +kernel
theorem dX12_feed_15 : decode cX12_feed 15 = .ok (.aload_n 0, 1) := by decide +kernel
theorem dX12_feed_16 : decode cX12_feed 16 = .ok (.iload_n 1, 1) := by decide +kernel
theorem dX12_feed_17 : decode cX12_feed 17 = .ok (.invokevirtual 91, 3) := by decide +kernel
theorem dX12_feed_20 : decode cX12_feed 20 = .ok (.aload_n 0, 1) := by decide +kernel
theorem dX12_feed_21 : decode cX12_feed 21 = .ok (.iload_n 2, 1) := by decide +kernel
theorem dX12_feed_22 : decode cX12_feed 22 = .ok (.invokevirtual 91, 3) := by decide +kernel
theorem dX12_feed_25 : decode cX12_feed 25 = .ok (.aload_n 0, 1) := by decide +kernel
theorem dX12_feed_26 : decode cX12_feed 26 = .ok (.iload_n 3, 1) := by decide +kernel
theorem dX12_feed_27 : decode cX12_feed 27 = .ok (.invokevirtual 91, 3) := by decide +kernel
theorem dX12_feed_30 : decode cX12_feed 30 = .ok (.aload_n 0, 1) := by decide +kernel
theorem dX12_feed_31 : decode cX12_feed 31 = .ok (.iload 4, 2) := by decide +kernel
theorem dX12_feed_33 : decode cX12_feed 33 = .ok (.invokevirtual 91, 3) := by decide +kernel
theorem dX12_feed_36 : decode cX12_feed 36 = .ok (.aload_n 0, 1) := by decide +kernel
theorem dX12_feed_37 : decode cX12_feed 37 = .ok (.iload 5, 2) := by decide +kernel
theorem dX12_feed_39 : decode cX12_feed 39 = .ok (.invokevirtual 91, 3) := by decide +kernel
theorem dX12_feed_42 : decode cX12_feed 42 = .ok (.aload_n 0, 1) := by decide +kernel
theorem dX12_feed_43 : decode cX12_feed 43 = .ok (.getfield 88, 3) := by decide +kernel
theorem dX12_feed_46 : decode cX12_feed 46 = .ok (.ireturn, 1) := by decide +kernel
theorem dX12_end_0 : decode cX12_end 0 = .ok (.iload_n 1, 1) := by decide +kernel
theorem dX12_end_1 : decode cX12_end 1 = .ok (.iconst 0, 1) := by decide +kernel
theorem dX12_end_2 : decode cX12_end 2 = .ok (.aload_n 0, 1) := by decide +kernel
theorem dX12_end_3 : decode cX12_end 3 = .ok (.getfield 88, 3) := by decide +kernel
theorem dX12_end_6 : decode cX12_end 6 = .ok (.invokestatic 62, 3) := by decide +kernel
theorem dX12_end_9 : decode cX12_end 9 = .ok (.ifCond .ne 5, 3) := by decide +kernel
theorem dX12_end_12 : decode cX12_end 12 = .ok (.iconst (-1), 1) := by decide +kernel
theorem dX12_end_13 : decode cX12_end 13 = .ok (.ireturn, 1) := by decide +kernel
theorem dX12_end_14 : decode cX12_end 14 = .ok (.aload_n 0, 1) := by decide +kernel
theorem dX12_end_15 : decode cX12_end 15 = .ok (.iload_n 1, 1) := by decide +kernel
theorem dX12_end_16 : decode cX12_end 16 = .ok (.putfield 88, 3) := by decide +kernel
theorem dX12_end_19 : decode cX12_end 19 = .ok (.iload_n 1, 1) := by decide +kernel
theorem dX12_end_20 : decode cX12_end 20 = .ok (.ireturn, 1) := by decide +kernel
theorem dX12_byteAt_0 : decode cX12_byteAt 0 = .ok (.iload_n 1, 1) := by decide +kernel
theorem dX12_byteAt_1 : decode cX12_byteAt 1 = .ok (.aload_n 0, 1) := by decide +kernel
theorem dX12_byteAt_2 : decode cX12_byteAt 2 = .ok (.getfield 88, 3) := by decide +kernel
theorem dX12_byteAt_5 : decode cX12_byteAt 5 = .ok (.if_icmp .ge 12, 3) := by decide +kernel
theorem dX12_byteAt_8 : decode cX12_byteAt 8 = .ok (.aload_n 0, 1) := by decide +kernel
theorem dX12_byteAt_9 : decode cX12_byteAt 9 = .ok (.getfield 19, 3) := by decide +kernel
theorem dX12_byteAt_12 : decode cX12_byteAt 12 = .ok (.iload_n 1, 1) := by decide +kernel
theorem dX12_byteAt_13 : decode cX12_byteAt 13 = .ok (.iaload, 1) := by decide +kernel
theorem dX12_byteAt_14 : decode cX12_byteAt 14 = .ok (.goto 4, 3) := by decide +kernel
theorem dX12_byteAt_17 : decode cX12_byteAt 17 = .ok (.iconst (-1), 1) := by decide +kernel
theorem dX12_byteAt_18 : decode cX12_byteAt 18 = .ok (.ireturn, 1) := by decide +kernel
theorem dX12_isLetter_0 : decode cX12_isLetter 0 = .ok (.iload_n 0, 1) := by decide +kernel
theorem dX12_isLetter_1 : decode cX12_isLetter 1 = .ok (.bipush 97, 2) := by decide +kernel
theorem dX12_isLetter_3 : decode cX12_isLetter 3 = .ok (.bipush 122, 2) := by decide +kernel
theorem dX12_isLetter_5 : decode cX12_isLetter 5 = .ok (.invokestatic 62, 3) := by decide +kernel
theorem dX12_isLetter_8 : decode cX12_isLetter 8 = .ok (.ifCond .ne 14, 3) := by decide +kernel
theorem dX12_isLetter_11 : decode cX12_isLetter 11 = .ok (.iload_n 0, 1) := by decide +kernel
theorem dX12_isLetter_12 : decode cX12_isLetter 12 = .ok (.bipush 65, 2) := by decide +kernel
theorem dX12_isLetter_14 : decode cX12_isLetter 14 = .ok (.bipush 90, 2) := by decide +kernel
theorem dX12_isLetter_16 : decode cX12_isLetter 16 = .ok (.invokestatic 62, 3) := by decide +kernel
theorem dX12_isLetter_19 : decode cX12_isLetter 19 = .ok (.ifCond .eq 7, 3) := by decide +kernel
theorem dX12_isLetter_22 : decode cX12_isLetter 22 = .ok (.iconst 1, 1) := by decide +kernel
theorem dX12_isLetter_23 : decode cX12_isLetter 23 = .ok (.goto 4, 3) := by decide +kernel
theorem dX12_isLetter_26 : decode cX12_isLetter 26 = .ok (.iconst 0, 1) := by decide +kernel
theorem dX12_isLetter_27 : decode cX12_isLetter 27 = .ok (.ireturn, 1) := by decide +kernel
theorem dX12_isDigit_0 : decode cX12_isDigit 0 = .ok (.iload_n 0, 1) := by decide +kernel
theorem dX12_isDigit_1 : decode cX12_isDigit 1 = .ok (.bipush 48, 2) := by decide +kernel
theorem dX12_isDigit_3 : decode cX12_isDigit 3 = .ok (.bipush 57, 2) := by decide +kernel
theorem dX12_isDigit_5 : decode cX12_isDigit 5 = .ok (.invokestatic 62, 3) := by decide +kernel
theorem dX12_isDigit_8 : decode cX12_isDigit 8 = .ok (.ireturn, 1) := by decide +kernel
theorem dX12_nextToken_0 : decode cX12_nextToken 0 = .ok (.aload_n 0, 1) := by decide +kernel
theorem dX12_nextToken_1 : decode cX12_nextToken 1 = .ok (.aload_n 0, 1) := by decide +kernel
theorem dX12_nextToken_2 : decode cX12_nextToken 2 = .ok (.getfield 95, 3) := by decide +kernel
end
section
theorem dX12_nextToken_5 : decode cX12_nextToken 5 = .ok (.invokevirtual 98, 3) := by decide +kernel
theorem dX12_nextToken_8 : decode cX12_nextToken 8 = .ok (.bipush 32, 2) := by decide +kernel
theorem dX12_nextToken_10 : decode cX12_nextToken 10 = .ok (.if_icmp .eq 16, 3) := by decide +kernel
theorem dX12_nextToken_13 : decode cX12_nextToken 13 = .ok (.aload_n 0, 1) := by decide +kernel
theorem dX12_nextToken_14 : decode cX12_nextToken 14 = .ok (.aload_n 0, 1) := by decide +kernel
theorem dX12_nextToken_15 : decode cX12_nextToken 15 = .ok (.getfield 95, 3) := by decide +kernel
theorem dX12_nextToken_18 : decode cX12_nextToken 18 = .ok (.invokevirtual 98, 3) := by decide +kernel
theorem dX12_nextToken_21 : decode cX12_nextToken 21 = .ok (.bipush 10, 2) := by decide +kernel
theorem dX12_nextToken_23 : decode cX12_nextToken 23 = .ok (.if_icmp .ne 16, 3) := by decide +kernel
theorem dX12_nextToken_26 : decode cX12_nextToken 26 = .ok (.aload_n 0, 1) := by decide +kernel
theorem dX12_nextToken_27 : decode cX12_nextToken 27 = .ok (.dup, 1) := by decide +kernel
theorem dX12_nextToken_28 : decode cX12_nextToken 28 = .ok (.getfield 95, 3) := by decide +kernel
theorem dX12_nextToken_31 : decode cX12_nextToken 31 = .ok (.iconst 1, 1) := by decide +kernel
theorem dX12_nextToken_32 : decode cX12_nextToken 32 = .ok (.iadd, 1) := by decide +kernel
theorem dX12_nextToken_33 : decode cX12_nextToken 33 = .ok (.putfield 95, 3) := by decide +kernel
theorem dX12_nextToken_36 : decode cX12_nextToken 36 = .ok (.goto (-36), 3) := by decide +kernel
theorem dX12_nextToken_39 : decode cX12_nextToken 39 = .ok (.aload_n 0, 1) := by decide +kernel
theorem dX12_nextToken_40 : decode cX12_nextToken 40 = .ok (.aload_n 0, 1) := by decide +kernel
theorem dX12_nextToken_41 : decode cX12_nextToken 41 = .ok (.getfield 95, 3) := by decide +kernel
theorem dX12_nextToken_44 : decode cX12_nextToken 44 = .ok (.putfield 101, 3) := by decide +kernel
theorem dX12_nextToken_47 : decode cX12_nextToken 47 = .ok (.aload_n 0, 1) := by decide +kernel
theorem dX12_nextToken_48 : decode cX12_nextToken 48 = .ok (.aload_n 0, 1) := by decide +kernel
theorem dX12_nextToken_49 : decode cX12_nextToken 49 = .ok (.getfield 95, 3) := by decide +kernel
theorem dX12_nextToken_52 : decode cX12_nextToken 52 = .ok (.invokevirtual 98, 3) := by decide +kernel
theorem dX12_nextToken_55 : decode cX12_nextToken 55 = .ok (.istore_n 1, 1) := by decide +kernel
theorem dX12_nextToken_56 : decode cX12_nextToken 56 = .ok (.iload_n 1, 1) := by decide +kernel
theorem dX12_nextToken_57 : decode cX12_nextToken 57 = .ok (.ifCond .ge 11, 3) := by decide +kernel
theorem dX12_nextToken_60 : decode cX12_nextToken 60 = .ok (.aload_n 0, 1) := by decide +kernel
theorem dX12_nextToken_61 : decode cX12_nextToken 61 = .ok (.iconst 0, 1) := by decide +kernel
theorem dX12_nextToken_62 : decode cX12_nextToken 62 = .ok (.putfield 104, 3) := by decide +kernel
theorem dX12_nextToken_65 : decode cX12_nextToken 65 = .ok (.goto 325, 3) := by decide +kernel
theorem dX12_nextToken_68 : decode cX12_nextToken 68 = .ok (.iload_n 1, 1) := by decide +kernel
theorem dX12_nextToken_69 : decode cX12_nextToken 69 = .ok (.invokestatic 107, 3) := by decide +kernel
theorem dX12_nextToken_72 : decode cX12_nextToken 72 = .ok (.ifCond .eq 72, 3) := by decide +kernel
theorem dX12_nextToken_75 : decode cX12_nextToken 75 = .ok (.aload_n 0, 1) := by decide +kernel
theorem dX12_nextToken_76 : decode cX12_nextToken 76 = .ok (.iconst 1, 1) := by decide +kernel
theorem dX12_nextToken_77 : decode cX12_nextToken 77 = .ok (.putfield 104, 3) := by decide +kernel
theorem dX12_nextToken_80 : decode cX12_nextToken 80 = .ok (.aload_n 0, 1) := by decide +kernel
theorem dX12_nextToken_81 : decode cX12_nextToken 81 = .ok (.iconst 0, 1) := by decide +kernel
theorem dX12_nextToken_82 : decode cX12_nextToken 82 = .ok (.putfield 110, 3) := by decide +kernel
theorem dX12_nextToken_85 : decode cX12_nextToken 85 = .ok (.aload_n 0, 1) := by decide +kernel
theorem dX12_nextToken_86 : decode cX12_nextToken 86 = .ok (.aload_n 0, 1) := by decide +kernel
theorem dX12_nextToken_87 : decode cX12_nextToken 87 = .ok (.getfield 95, 3) := by decide +kernel
theorem dX12_nextToken_90 : decode cX12_nextToken 90 = .ok (.invokevirtual 98, 3) := by decide +kernel
theorem dX12_nextToken_93 : decode cX12_nextToken 93 = .ok (.invokestatic 107, 3) := by decide +kernel
theorem dX12_nextToken_96 : decode cX12_nextToken 96 = .ok (.ifCond .eq 294, 3) := by decide +kernel
theorem dX12_nextToken_99 : decode cX12_nextToken 99 = .ok (.aload_n 0, 1) := by decide +kernel
theorem dX12_nextToken_100 : decode cX12_nextToken 100 = .ok (.getfield 110, 3) := by decide +kernel
theorem dX12_nextToken_103 : decode cX12_nextToken 103 = .ok (.ldc 113, 2) := by decide +kernel
theorem dX12_nextToken_105 : decode cX12_nextToken 105 = .ok (.if_icmp .ge 26, 3) := by decide +kernel
theorem dX12_nextToken_108 : decode cX12_nextToken 108 = .ok (.aload_n 0, 1) := by decide +kernel
theorem dX12_nextToken_109 : decode cX12_nextToken 109 = .ok (.bipush 10, 2) := by decide +kernel
theorem dX12_nextToken_111 : decode cX12_nextToken 111 = .ok (.aload_n 0, 1) := by decide +kernel
theorem dX12_nextToken_112 : decode cX12_nextToken 112 = .ok (.getfield 110, 3) := by decide +kernel
theorem dX12_nextToken_115 : decode cX12_nextToken 115 = .ok (.imul, 1) := by decide +kernel
theorem dX12_nextToken_116 : decode cX12_nextToken 116 = .ok (.aload_n 0, 1) := by decide +kernel
theorem dX12_nextToken_117 : decode cX12_nextToken 117 = .ok (.aload_n 0, 1) := by decide +kernel
theorem dX12_nextToken_118 : decode cX12_nextToken 118 = .ok (.getfield 95, 3) := by decide +kernel
theorem dX12_nextToken_121 : decode cX12_nextToken 121 = .ok (.invokevirtual 98, 3) := by decide +kernel
theorem dX12_nextToken_124 : decode cX12_nextToken 124 = .ok (.iadd, 1) := by decide +kernel
theorem dX12_nextToken_125 : decode cX12_nextToken 125 = .ok (.bipush 48, 2) := by decide +kernel
theorem dX12_nextToken_127 : decode cX12_nextToken 127 = .ok (.isub, 1) := by decide +kernel
theorem dX12_nextToken_128 : decode cX12_nextToken 128 = .ok (.putfield 110, 3) := by decide +kernel
theorem dX12_nextToken_131 : decode cX12_nextToken 131 = .ok (.aload_n 0, 1) := by decide +kernel
theorem dX12_nextToken_132 : decode cX12_nextToken 132 = .ok (.dup, 1) := by decide +kernel
theorem dX12_nextToken_133 : decode cX12_nextToken 133 = .ok (.getfield 95, 3) := by decide +kernel
theorem dX12_nextToken_136 : decode cX12_nextToken 136 = .ok (.iconst 1, 1) := by decide +kernel
theorem dX12_nextToken_137 : decode cX12_nextToken 137 = .ok (.iadd, 1) := by decide +kernel
theorem dX12_nextToken_138 : decode cX12_nextToken 138 = .ok (.putfield 95, 3) := by decide +kernel
theorem dX12_nextToken_141 : decode cX12_nextToken 141 = .ok (.goto (-56), 3) := by decide +kernel
theorem dX12_nextToken_144 : decode cX12_nextToken 144 = .ok (.iload_n 1, 1) := by decide +kernel
theorem dX12_nextToken_145 : decode cX12_nextToken 145 = .ok (.invokestatic 114, 3) := by decide +kernel
theorem dX12_nextToken_148 : decode cX12_nextToken 148 = .ok (.ifCond .eq 97, 3) := by decide +kernel
theorem dX12_nextToken_151 : decode cX12_nextToken 151 = .ok (.aload_n 0, 1) := by decide +kernel
theorem dX12_nextToken_152 : decode cX12_nextToken 152 = .ok (.iconst 2, 1) := by decide +kernel
theorem dX12_nextToken_153 : decode cX12_nextToken 153 = .ok (.putfield 104, 3) := by decide +kernel
theorem dX12_nextToken_156 : decode cX12_nextToken 156 = .ok (.aload_n 0, 1) := by decide +kernel
theorem dX12_nextToken_157 : decode cX12_nextToken 157 = .ok (.lconst 0, 1) := by decide +kernel
theorem dX12_nextToken_158 : decode cX12_nextToken 158 = .ok (.putfield 117, 3) := by decide +kernel
theorem dX12_nextToken_161 : decode cX12_nextToken 161 = .ok (.aload_n 0, 1) := by decide +kernel
theorem dX12_nextToken_162 : decode cX12_nextToken 162 = .ok (.aload_n 0, 1) := by decide +kernel
theorem dX12_nextToken_163 : decode cX12_nextToken 163 = .ok (.getfield 95, 3) := by decide +kernel
theorem dX12_nextToken_166 : decode cX12_nextToken 166 = .ok (.invokevirtual 98, 3) := by decide +kernel
theorem dX12_nextToken_169 : decode cX12_nextToken 169 = .ok (.invokestatic 114, 3) := by decide +kernel
theorem dX12_nextToken_172 : decode cX12_nextToken 172 = .ok (.ifCond .eq 51, 3) := by decide +kernel
theorem dX12_nextToken_175 : decode cX12_nextToken 175 = .ok (.aload_n 0, 1) := by decide +kernel
theorem dX12_nextToken_176 : decode cX12_nextToken 176 = .ok (.getfield 95, 3) := by decide +kernel
theorem dX12_nextToken_179 : decode cX12_nextToken 179 = .ok (.aload_n 0, 1) := by decide +kernel
theorem dX12_nextToken_180 : decode cX12_nextToken 180 = .ok (.getfield 101, 3) := by decide +kernel
theorem dX12_nextToken_183 : decode cX12_nextToken 183 = .ok (.isub, 1) := by decide +kernel
theorem dX12_nextToken_184 : decode cX12_nextToken 184 = .ok (.bipush 7, 2) := by decide +kernel
theorem dX12_nextToken_186 : decode cX12_nextToken 186 = .ok (.if_icmp .ge 24, 3) := by decide +kernel
theorem dX12_nextToken_189 : decode cX12_nextToken 189 = .ok (.aload_n 0, 1) := by decide +kernel
theorem dX12_nextToken_190 : decode cX12_nextToken 190 = .ok (.aload_n 0, 1) := by decide +kernel
theorem dX12_nextToken_191 : decode cX12_nextToken 191 = .ok (.getfield 117, 3) := by decide +kernel
theorem dX12_nextToken_194 : decode cX12_nextToken 194 = .ok (.bipush 8, 2) := by decide +kernel
theorem dX12_nextToken_196 : decode cX12_nextToken 196 = .ok (.lshl, 1) := by decide +kernel
theorem dX12_nextToken_197 : decode cX12_nextToken 197 = .ok (.aload_n 0, 1) := by decide +kernel
theorem dX12_nextToken_198 : decode cX12_nextToken 198 = .ok (.aload_n 0, 1) := by decide +kernel
theorem dX12_nextToken_199 : decode cX12_nextToken 199 = .ok (.getfield 95, 3) := by decide +kernel
theorem dX12_nextToken_202 : decode cX12_nextToken 202 = .ok (.invokevirtual 98, 3) := by decide +kernel
theorem dX12_nextToken_205 : decode cX12_nextToken 205 = .ok (.i2l, 1) := by decide +kernel
theorem dX12_nextToken_206 : decode cX12_nextToken 206 = .ok (.lor, 1) := by decide +kernel
theorem dX12_nextToken_207 : decode cX12_nextToken 207 = .ok (.putfield 117, 3) := by decide +kernel
theorem dX12_nextToken_210 : decode cX12_nextToken 210 = .ok (.aload_n 0, 1) := by decide +kernel
theorem dX12_nextToken_211 : decode cX12_nextToken 211 = .ok (.dup, 1) := by decide +kernel
theorem dX12_nextToken_212 : decode cX12_nextToken 212 = .ok (.getfield 95, 3) := by decide +kernel
theorem dX12_nextToken_215 : decode cX12_nextToken 215 = .ok (.iconst 1, 1) := by decide +kernel
theorem dX12_nextToken_216 : decode cX12_nextToken 216 = .ok (.iadd, 1) := by decide +kernel
theorem dX12_nextToken_217 : decode cX12_nextToken 217 = .ok (.putfield 95, 3) := by decide +kernel
theorem dX12_nextToken_220 : decode cX12_nextToken 220 = .ok (.goto (-59), 3) := by decide +kernel
theorem dX12_nextToken_223 : decode cX12_nextToken 223 = .ok (.aload_n 0, 1) := by decide +kernel
theorem dX12_nextToken_224 : decode cX12_nextToken 224 = .ok (.getfield 95, 3) := by decide +kernel
theorem dX12_nextToken_227 : decode cX12_nextToken 227 = .ok (.aload_n 0, 1) := by decide +kernel
theorem dX12_nextToken_228 : decode cX12_nextToken 228 = .ok (.getfield 101, 3) := by decide +kernel
theorem dX12_nextToken_231 : decode cX12_nextToken 231 = .ok (.isub, 1) := by decide +kernel
theorem dX12_nextToken_232 : decode cX12_nextToken 232 = .ok (.bipush 7, 2) := by decide +kernel
theorem dX12_nextToken_234 : decode cX12_nextToken 234 = .ok (.if_icmp .le 156, 3) := by decide +kernel
theorem dX12_nextToken_237 : decode cX12_nextToken 237 = .ok (.aload_n 0, 1) := by decide +kernel
theorem dX12_nextToken_238 : decode cX12_nextToken 238 = .ok (.lconst 0, 1) := by decide +kernel
theorem dX12_nextToken_239 : decode cX12_nextToken 239 = .ok (.putfield 117, 3) := by decide +kernel
theorem dX12_nextToken_242 : decode cX12_nextToken 242 = .ok (.goto 148, 3) := by decide +kernel
theorem dX12_nextToken_245 : decode cX12_nextToken 245 = .ok (.aload_n 0, 1) := by decide +kernel
theorem dX12_nextToken_246 : decode cX12_nextToken 246 = .ok (.dup, 1) := by decide +kernel
theorem dX12_nextToken_247 : decode cX12_nextToken 247 = .ok (.getfield 95, 3) := by decide +kernel
theorem dX12_nextToken_250 : decode cX12_nextToken 250 = .ok (.iconst 1, 1) := by decide +kernel
theorem dX12_nextToken_251 : decode cX12_nextToken 251 = .ok (.iadd, 1) := by decide +kernel
theorem dX12_nextToken_252 : decode cX12_nextToken 252 = .ok (.putfield 95, 3) := by decide +kernel
theorem dX12_nextToken_255 : decode cX12_nextToken 255 = .ok (.iload_n 1, 1) := by decide +kernel
theorem dX12_nextToken_256 : decode cX12_nextToken 256 = .ok (.bipush 60, 2) := by decide +kernel
theorem dX12_nextToken_258 : decode cX12_nextToken 258 = .ok (.if_icmp .eq 63, 3) := by decide +kernel
theorem dX12_nextToken_261 : decode cX12_nextToken 261 = .ok (.iload_n 1, 1) := by decide +kernel
theorem dX12_nextToken_262 : decode cX12_nextToken 262 = .ok (.bipush 62, 2) := by decide +kernel
theorem dX12_nextToken_264 : decode cX12_nextToken 264 = .ok (.if_icmp .eq 57, 3) := by decide +kernel
theorem dX12_nextToken_267 : decode cX12_nextToken 267 = .ok (.iload_n 1, 1) := by decide +kernel
theorem dX12_nextToken_268 : decode cX12_nextToken 268 = .ok (.bipush 61, 2) := by decide +kernel
theorem dX12_nextToken_270 : decode cX12_nextToken 270 = .ok (.if_icmp .eq 51, 3) := by decide +kernel
theorem dX12_nextToken_273 : decode cX12_nextToken 273 = .ok (.iload_n 1, 1) := by decide +kernel
theorem dX12_nextToken_274 : decode cX12_nextToken 274 = .ok (.bipush 35, 2) := by decide +kernel
theorem dX12_nextToken_276 : decode cX12_nextToken 276 = .ok (.if_icmp .eq 45, 3) := by decide +kernel
theorem dX12_nextToken_279 : decode cX12_nextToken 279 = .ok (.iload_n 1, 1) := by decide +kernel
theorem dX12_nextToken_280 : decode cX12_nextToken 280 = .ok (.bipush 43, 2) := by decide +kernel
theorem dX12_nextToken_282 : decode cX12_nextToken 282 = .ok (.if_icmp .eq 39, 3) := by decide +kernel
theorem dX12_nextToken_285 : decode cX12_nextToken 285 = .ok (.iload_n 1, 1) := by decide +kernel
theorem dX12_nextToken_286 : decode cX12_nextToken 286 = .ok (.bipush 45, 2) := by decide +kernel
theorem dX12_nextToken_288 : decode cX12_nextToken 288 = .ok (.if_icmp .eq 33, 3) := by decide +kernel
theorem dX12_nextToken_291 : decode cX12_nextToken 291 = .ok (.iload_n 1, 1) := by decide +kernel
theorem dX12_nextToken_292 : decode cX12_nextToken 292 = .ok (.bipush 42, 2) := by decide +kernel
theorem dX12_nextToken_294 : decode cX12_nextToken 294 = .ok (.if_icmp .eq 27, 3) := by decide +kernel
theorem dX12_nextToken_297 : decode cX12_nextToken 297 = .ok (.iload_n 1, 1) := by decide +kernel
theorem dX12_nextToken_298 : decode cX12_nextToken 298 = .ok (.bipush 47, 2) := by decide +kernel
theorem dX12_nextToken_300 : decode cX12_nextToken 300 = .ok (.if_icmp .eq 21, 3) := by decide +kernel
theorem dX12_nextToken_303 : decode cX12_nextToken 303 = .ok (.iload_n 1, 1) := by decide +kernel
theorem dX12_nextToken_304 : decode cX12_nextToken 304 = .ok (.bipush 40, 2) := by decide +kernel
theorem dX12_nextToken_306 : decode cX12_nextToken 306 = .ok (.if_icmp .eq 15, 3) := by decide +kernel
theorem dX12_nextToken_309 : decode cX12_nextToken 309 = .ok (.iload_n 1, 1) := by decide +kernel
theorem dX12_nextToken_310 : decode cX12_nextToken 310 = .ok (.bipush 41, 2) := by decide +kernel
theorem dX12_nextToken_312 : decode cX12_nextToken 312 = .ok (.if_icmp .eq 9, 3) := by decide +kernel
theorem dX12_nextToken_315 : decode cX12_nextToken 315 = .ok (.iload_n 1, 1) := by decide +kernel
theorem dX12_nextToken_316 : decode cX12_nextToken 316 = .ok (.bipush 59, 2) := by decide +kernel
theorem dX12_nextToken_318 : decode cX12_nextToken 318 = .ok (.if_icmp .ne 7, 3) := by decide +kernel
theorem dX12_nextToken_321 : decode cX12_nextToken 321 = .ok (.iconst 1, 1) := by decide +kernel
theorem dX12_nextToken_322 : decode cX12_nextToken 322 = .ok (.goto 4, 3) := by decide +kernel
theorem dX12_nextToken_325 : decode cX12_nextToken 325 = .ok (.iconst 0, 1) := by decide +kernel
theorem dX12_nextToken_326 : decode cX12_nextToken 326 = .ok (.istore_n 2, 1) := by decide +kernel
theorem dX12_nextToken_327 : decode cX12_nextToken 327 = .ok (.aload_n 0, 1) := by decide +kernel
theorem dX12_nextToken_328 : decode cX12_nextToken 328 = .ok (.iload_n 2, 1) := by decide +kernel
theorem dX12_nextToken_329 : decode cX12_nextToken 329 = .ok (.ifCond .eq 7, 3) := by decide +kernel
theorem dX12_nextToken_332 : decode cX12_nextToken 332 = .ok (.iload_n 1, 1) := by decide +kernel
theorem dX12_nextToken_333 : decode cX12_nextToken 333 = .ok (.goto 4, 3) := by decide +kernel
theorem dX12_nextToken_336 : decode cX12_nextToken 336 = .ok (.iconst 3, 1) := by decide +kernel
theorem dX12_nextToken_337 : decode cX12_nextToken 337 = .ok (.putfield 104, 3) := by decide +kernel
theorem dX12_nextToken_340 : decode cX12_nextToken 340 = .ok (.iload_n 1, 1) := by decide +kernel
theorem dX12_nextToken_341 : decode cX12_nextToken 341 = .ok (.bipush 60, 2) := by decide +kernel
theorem dX12_nextToken_343 : decode cX12_nextToken 343 = .ok (.if_icmp .eq 9, 3) := by decide +kernel
theorem dX12_nextToken_346 : decode cX12_nextToken 346 = .ok (.iload_n 1, 1) := by decide +kernel
theorem dX12_nextToken_347 : decode cX12_nextToken 347 = .ok (.bipush 62, 2) := by decide +kernel
theorem dX12_nextToken_349 : decode cX12_nextToken 349 = .ok (.if_icmp .ne 41, 3) := by decide +kernel
theorem dX12_nextToken_352 : decode cX12_nextToken 352 = .ok (.aload_n 0, 1) := by decide +kernel
theorem dX12_nextToken_353 : decode cX12_nextToken 353 = .ok (.aload_n 0, 1) := by decide +kernel
theorem dX12_nextToken_354 : decode cX12_nextToken 354 = .ok (.getfield 95, 3) := by decide +kernel
theorem dX12_nextToken_357 : decode cX12_nextToken 357 = .ok (.invokevirtual 98, 3) := by decide +kernel
theorem dX12_nextToken_360 : decode cX12_nextToken 360 = .ok (.bipush 61, 2) := by decide +kernel
theorem dX12_nextToken_362 : decode cX12_nextToken 362 = .ok (.if_icmp .ne 28, 3) := by decide +kernel
theorem dX12_nextToken_365 : decode cX12_nextToken 365 = .ok (.aload_n 0, 1) := by decide +kernel
theorem dX12_nextToken_366 : decode cX12_nextToken 366 = .ok (.dup, 1) := by decide +kernel
theorem dX12_nextToken_367 : decode cX12_nextToken 367 = .ok (.getfield 95, 3) := by decide +kernel
theorem dX12_nextToken_370 : decode cX12_nextToken 370 = .ok (.iconst 1, 1) := by decide +kernel
theorem dX12_nextToken_371 : decode cX12_nextToken 371 = .ok (.iadd, 1) := by decide +kernel
theorem dX12_nextToken_372 : decode cX12_nextToken 372 = .ok (.putfield 95, 3) := by decide +kernel
theorem dX12_nextToken_375 : decode cX12_nextToken 375 = .ok (.aload_n 0, 1) := by decide +kernel
theorem dX12_nextToken_376 : decode cX12_nextToken 376 = .ok (.iload_n 1, 1) := by decide +kernel
theorem dX12_nextToken_377 : decode cX12_nextToken 377 = .ok (.bipush 60, 2) := by decide +kernel
theorem dX12_nextToken_379 : decode cX12_nextToken 379 = .ok (.if_icmp .ne 7, 3) := by decide +kernel
theorem dX12_nextToken_382 : decode cX12_nextToken 382 = .ok (.iconst 4, 1) := by decide +kernel
theorem dX12_nextToken_383 : decode cX12_nextToken 383 = .ok (.goto 4, 3) := by decide +kernel
theorem dX12_nextToken_386 : decode cX12_nextToken 386 = .ok (.iconst 5, 1) := by decide +kernel
theorem dX12_nextToken_387 : decode cX12_nextToken 387 = .ok (.putfield 104, 3) := by decide +kernel
theorem dX12_nextToken_390 : decode cX12_nextToken 390 = .ok (.return_, 1) := by decide +kernel
theorem dX12_w3_0 : decode cX12_w3 0 = .ok (.iload_n 0, 1) := by decide +kernel
theorem dX12_w3_1 : decode cX12_w3 1 = .ok (.i2l, 1) := by decide +kernel
theorem dX12_w3_2 : decode cX12_w3 2 = .ok (.bipush 8, 2) := by decide +kernel
theorem dX12_w3_4 : decode cX12_w3 4 = .ok (.lshl, 1) := by decide +kernel
theorem dX12_w3_5 : decode cX12_w3 5 = .ok (.iload_n 1, 1) := by decide +kernel
theorem dX12_w3_6 : decode cX12_w3 6 = .ok (.i2l, 1) := by decide +kernel
theorem dX12_w3_7 : decode cX12_w3 7 = .ok (.lor, 1) := by decide +kernel
theorem dX12_w3_8 : decode cX12_w3 8 = .ok (.bipush 8, 2) := by decide +kernel
theorem dX12_w3_10 : decode cX12_w3 10 = .ok (.lshl, 1) := by decide +kernel
theorem dX12_w3_11 : decode cX12_w3 11 = .ok (.iload_n 2, 1) := by decide +kernel
theorem dX12_w3_12 : decode cX12_w3 12 = .ok (.i2l, 1) := by decide +kernel
theorem dX12_w3_13 : decode cX12_w3 13 = .ok (.lor, 1) := by decide +kernel
theorem dX12_w3_14 : decode cX12_w3 14 = .ok (.lreturn, 1) := by decide +kernel
theorem dX12_w5_0 : decode cX12_w5 0 = .ok (.iload_n 0, 1) := by decide +kernel
theorem dX12_w5_1 : decode cX12_w5 1 = .ok (.iload_n 1, 1) := by decide +kernel
theorem dX12_w5_2 : decode cX12_w5 2 = .ok (.iload_n 2, 1) := by decide +kernel
theorem dX12_w5_3 : decode cX12_w5 3 = .ok (.invokestatic 121, 3) := by decide +kernel
theorem dX12_w5_6 : decode cX12_w5 6 = .ok (.bipush 8, 2) := by decide +kernel
theorem dX12_w5_8 : decode cX12_w5 8 = .ok (.lshl, 1) := by decide +kernel
theorem dX12_w5_9 : decode cX12_w5 9 = .ok (.iload_n 3, 1) := by decide +kernel
theorem dX12_w5_10 : decode cX12_w5 10 = .ok (.i2l, 1) := by decide +kernel
theorem dX12_w5_11 : decode cX12_w5 11 = .ok (.lor, 1) := by decide +kernel
theorem dX12_w5_12 : decode cX12_w5 12 = .ok (.bipush 8, 2) := by decide +kernel
theorem dX12_w5_14 : decode cX12_w5 14 = .ok (.lshl, 1) := by decide +kernel
theorem dX12_w5_15 : decode cX12_w5 15 = .ok (.iload 4, 2) := by decide +kernel
theorem dX12_w5_17 : decode cX12_w5 17 = .ok (.i2l, 1) := by decide +kernel
theorem dX12_w5_18 : decode cX12_w5 18 = .ok (.lor, 1) := by decide +kernel
theorem dX12_w5_19 : decode cX12_w5 19 = .ok (.lreturn, 1) := by decide +kernel
theorem dX12_w4_0 : decode cX12_w4 0 = .ok (.iload_n 0, 1) := by decide +kernel
theorem dX12_w4_1 : decode cX12_w4 1 = .ok (.iload_n 1, 1) := by decide +kernel
theorem dX12_w4_2 : decode cX12_w4 2 = .ok (.iload_n 2, 1) := by decide +kernel
theorem dX12_w4_3 : decode cX12_w4 3 = .ok (.invokestatic 121, 3) := by decide +kernel
theorem dX12_w4_6 : decode cX12_w4 6 = .ok (.bipush 8, 2) := by decide +kernel
theorem dX12_w4_8 : decode cX12_w4 8 = .ok (.lshl, 1) := by decide +kernel
theorem dX12_w4_9 : decode cX12_w4 9 = .ok (.iload_n 3, 1) := by decide +kernel
theorem dX12_w4_10 : decode cX12_w4 10 = .ok (.i2l, 1) := by decide +kernel
theorem dX12_w4_11 : decode cX12_w4 11 = .ok (.lor, 1) := by decide +kernel
theorem dX12_w4_12 : decode cX12_w4 12 = .ok (.lreturn, 1) := by decide +kernel
theorem dX12_w6_0 : decode cX12_w6 0 = .ok (.iload_n 0, 1) := by decide +kernel
theorem dX12_w6_1 : decode cX12_w6 1 = .ok (.iload_n 1, 1) := by decide +kernel
theorem dX12_w6_2 : decode cX12_w6 2 = .ok (.iload_n 2, 1) := by decide +kernel
theorem dX12_w6_3 : decode cX12_w6 3 = .ok (.iload_n 3, 1) := by decide +kernel
theorem dX12_w6_4 : decode cX12_w6 4 = .ok (.iload 4, 2) := by decide +kernel
theorem dX12_w6_6 : decode cX12_w6 6 = .ok (.invokestatic 125, 3) := by decide +kernel
theorem dX12_w6_9 : decode cX12_w6 9 = .ok (.bipush 8, 2) := by decide +kernel
theorem dX12_w6_11 : decode cX12_w6 11 = .ok (.lshl, 1) := by decide +kernel
theorem dX12_w6_12 : decode cX12_w6 12 = .ok (.iload 5, 2) := by decide +kernel
theorem dX12_w6_14 : decode cX12_w6 14 = .ok (.i2l, 1) := by decide +kernel
theorem dX12_w6_15 : decode cX12_w6 15 = .ok (.lor, 1) := by decide +kernel
theorem dX12_w6_16 : decode cX12_w6 16 = .ok (.lreturn, 1) := by decide +kernel
theorem dX12_isWord_0 : decode cX12_isWord 0 = .ok (.aload_n 0, 1) := by decide +kernel
theorem dX12_isWord_1 : decode cX12_isWord 1 = .ok (.getfield 104, 3) := by decide +kernel
theorem dX12_isWord_4 : decode cX12_isWord 4 = .ok (.iconst 2, 1) := by decide +kernel
theorem dX12_isWord_5 : decode cX12_isWord 5 = .ok (.if_icmp .ne 16, 3) := by decide +kernel
theorem dX12_isWord_8 : decode cX12_isWord 8 = .ok (.aload_n 0, 1) := by decide +kernel
theorem dX12_isWord_9 : decode cX12_isWord 9 = .ok (.getfield 117, 3) := by decide +kernel
theorem dX12_isWord_12 : decode cX12_isWord 12 = .ok (.lload_n 1, 1) := by decide +kernel
theorem dX12_isWord_13 : decode cX12_isWord 13 = .ok (.lcmp, 1) := by decide +kernel
theorem dX12_isWord_14 : decode cX12_isWord 14 = .ok (.ifCond .ne 7, 3) := by decide +kernel
theorem dX12_isWord_17 : decode cX12_isWord 17 = .ok (.iconst 1, 1) := by decide +kernel
theorem dX12_isWord_18 : decode cX12_isWord 18 = .ok (.goto 4, 3) := by decide +kernel
theorem dX12_isWord_21 : decode cX12_isWord 21 = .ok (.iconst 0, 1) := by decide +kernel
theorem dX12_isWord_22 : decode cX12_isWord 22 = .ok (.ireturn, 1) := by decide +kernel
theorem dX12_emit_0 : decode cX12_emit 0 = .ok (.aload_n 0, 1) := by decide +kernel
theorem dX12_emit_1 : decode cX12_emit 1 = .ok (.getfield 16, 3) := by decide +kernel
theorem dX12_emit_4 : decode cX12_emit 4 = .ok (.aload_n 0, 1) := by decide +kernel
theorem dX12_emit_5 : decode cX12_emit 5 = .ok (.getfield 129, 3) := by decide +kernel
theorem dX12_emit_8 : decode cX12_emit 8 = .ok (.bipush 75, 2) := by decide +kernel
theorem dX12_emit_10 : decode cX12_emit 10 = .ok (.iadd, 1) := by decide +kernel
theorem dX12_emit_11 : decode cX12_emit 11 = .ok (.iconst 2, 1) := by decide +kernel
theorem dX12_emit_12 : decode cX12_emit 12 = .ok (.aload_n 0, 1) := by decide +kernel
theorem dX12_emit_13 : decode cX12_emit 13 = .ok (.getfield 132, 3) := by decide +kernel
theorem dX12_emit_16 : decode cX12_emit 16 = .ok (.imul, 1) := by decide +kernel
theorem dX12_emit_17 : decode cX12_emit 17 = .ok (.iadd, 1) := by decide +kernel
theorem dX12_emit_18 : decode cX12_emit 18 = .ok (.iload_n 1, 1) := by decide +kernel
theorem dX12_emit_19 : decode cX12_emit 19 = .ok (.iastore, 1) := by decide +kernel
theorem dX12_emit_20 : decode cX12_emit 20 = .ok (.aload_n 0, 1) := by decide +kernel
theorem dX12_emit_21 : decode cX12_emit 21 = .ok (.getfield 16, 3) := by decide +kernel
theorem dX12_emit_24 : decode cX12_emit 24 = .ok (.aload_n 0, 1) := by decide +kernel
theorem dX12_emit_25 : decode cX12_emit 25 = .ok (.getfield 129, 3) := by decide +kernel
theorem dX12_emit_28 : decode cX12_emit 28 = .ok (.bipush 75, 2) := by decide +kernel
theorem dX12_emit_30 : decode cX12_emit 30 = .ok (.iadd, 1) := by decide +kernel
theorem dX12_emit_31 : decode cX12_emit 31 = .ok (.iconst 2, 1) := by decide +kernel
theorem dX12_emit_32 : decode cX12_emit 32 = .ok (.aload_n 0, 1) := by decide +kernel
theorem dX12_emit_33 : decode cX12_emit 33 = .ok (.getfield 132, 3) := by decide +kernel
theorem dX12_emit_36 : decode cX12_emit 36 = .ok (.imul, 1) := by decide +kernel
theorem dX12_emit_37 : decode cX12_emit 37 = .ok (.iadd, 1) := by decide +kernel
theorem dX12_emit_38 : decode cX12_emit 38 = .ok (.iconst 1, 1) := by decide +kernel
theorem dX12_emit_39 : decode cX12_emit 39 = .ok (.iadd, 1) := by decide +kernel
theorem dX12_emit_40 : decode cX12_emit 40 = .ok (.iload_n 2, 1) := by decide +kernel
theorem dX12_emit_41 : decode cX12_emit 41 = .ok (.iastore, 1) := by decide +kernel
theorem dX12_emit_42 : decode cX12_emit 42 = .ok (.aload_n 0, 1) := by decide +kernel
theorem dX12_emit_43 : decode cX12_emit 43 = .ok (.dup, 1) := by decide +kernel
theorem dX12_emit_44 : decode cX12_emit 44 = .ok (.getfield 132, 3) := by decide +kernel
theorem dX12_emit_47 : decode cX12_emit 47 = .ok (.iconst 1, 1) := by decide +kernel
theorem dX12_emit_48 : decode cX12_emit 48 = .ok (.iadd, 1) := by decide +kernel
theorem dX12_emit_49 : decode cX12_emit 49 = .ok (.putfield 132, 3) := by decide +kernel
theorem dX12_emit_52 : decode cX12_emit 52 = .ok (.return_, 1) := by decide +kernel
theorem dX12_push_0 : decode cX12_push 0 = .ok (.aload_n 0, 1) := by decide +kernel
theorem dX12_push_1 : decode cX12_push 1 = .ok (.getfield 29, 3) := by decide +kernel
theorem dX12_push_4 : decode cX12_push 4 = .ok (.aload_n 0, 1) := by decide +kernel
theorem dX12_push_5 : decode cX12_push 5 = .ok (.getfield 135, 3) := by decide +kernel
theorem dX12_push_8 : decode cX12_push 8 = .ok (.iload_n 1, 1) := by decide +kernel
theorem dX12_push_9 : decode cX12_push 9 = .ok (.iastore, 1) := by decide +kernel
theorem dX12_push_10 : decode cX12_push 10 = .ok (.aload_n 0, 1) := by decide +kernel
theorem dX12_push_11 : decode cX12_push 11 = .ok (.dup, 1) := by decide +kernel
theorem dX12_push_12 : decode cX12_push 12 = .ok (.getfield 135, 3) := by decide +kernel
theorem dX12_push_15 : decode cX12_push 15 = .ok (.iconst 1, 1) := by decide +kernel
theorem dX12_push_16 : decode cX12_push 16 = .ok (.iadd, 1) := by decide +kernel
theorem dX12_push_17 : decode cX12_push 17 = .ok (.putfield 135, 3) := by decide +kernel
theorem dX12_push_20 : decode cX12_push 20 = .ok (.return_, 1) := by decide +kernel
theorem dX12_whole_0 : decode cX12_whole 0 = .ok (.aload_n 0, 1) := by decide +kernel
theorem dX12_whole_1 : decode cX12_whole 1 = .ok (.iconst 1, 1) := by decide +kernel
theorem dX12_whole_2 : decode cX12_whole 2 = .ok (.putfield 138, 3) := by decide +kernel
theorem dX12_whole_5 : decode cX12_whole 5 = .ok (.aload_n 0, 1) := by decide +kernel
theorem dX12_whole_6 : decode cX12_whole 6 = .ok (.getfield 135, 3) := by decide +kernel
theorem dX12_whole_9 : decode cX12_whole 9 = .ok (.ifCond .le 47, 3) := by decide +kernel
theorem dX12_whole_12 : decode cX12_whole 12 = .ok (.aload_n 0, 1) := by decide +kernel
theorem dX12_whole_13 : decode cX12_whole 13 = .ok (.getfield 29, 3) := by decide +kernel
theorem dX12_whole_16 : decode cX12_whole 16 = .ok (.aload_n 0, 1) := by decide +kernel
theorem dX12_whole_17 : decode cX12_whole 17 = .ok (.getfield 135, 3) := by decide +kernel
theorem dX12_whole_20 : decode cX12_whole 20 = .ok (.iconst 1, 1) := by decide +kernel
theorem dX12_whole_21 : decode cX12_whole 21 = .ok (.isub, 1) := by decide +kernel
theorem dX12_whole_22 : decode cX12_whole 22 = .ok (.iaload, 1) := by decide +kernel
theorem dX12_whole_23 : decode cX12_whole 23 = .ok (.iconst 2, 1) := by decide +kernel
theorem dX12_whole_24 : decode cX12_whole 24 = .ok (.if_icmp .ne 32, 3) := by decide +kernel
theorem dX12_whole_27 : decode cX12_whole 27 = .ok (.aload_n 0, 1) := by decide +kernel
theorem dX12_whole_28 : decode cX12_whole 28 = .ok (.dup, 1) := by decide +kernel
theorem dX12_whole_29 : decode cX12_whole 29 = .ok (.getfield 135, 3) := by decide +kernel
theorem dX12_whole_32 : decode cX12_whole 32 = .ok (.iconst 1, 1) := by decide +kernel
theorem dX12_whole_33 : decode cX12_whole 33 = .ok (.isub, 1) := by decide +kernel
theorem dX12_whole_34 : decode cX12_whole 34 = .ok (.putfield 135, 3) := by decide +kernel
theorem dX12_whole_37 : decode cX12_whole 37 = .ok (.aload_n 0, 1) := by decide +kernel
theorem dX12_whole_38 : decode cX12_whole 38 = .ok (.dup, 1) := by decide +kernel
theorem dX12_whole_39 : decode cX12_whole 39 = .ok (.getfield 142, 3) := by decide +kernel
theorem dX12_whole_42 : decode cX12_whole 42 = .ok (.iconst 1, 1) := by decide +kernel
theorem dX12_whole_43 : decode cX12_whole 43 = .ok (.isub, 1) := by decide +kernel
theorem dX12_whole_44 : decode cX12_whole 44 = .ok (.putfield 142, 3) := by decide +kernel
theorem dX12_whole_47 : decode cX12_whole 47 = .ok (.aload_n 0, 1) := by decide +kernel
theorem dX12_whole_48 : decode cX12_whole 48 = .ok (.iconst 2, 1) := by decide +kernel
theorem dX12_whole_49 : decode cX12_whole 49 = .ok (.iconst 0, 1) := by decide +kernel
theorem dX12_whole_50 : decode cX12_whole 50 = .ok (.invokevirtual 145, 3) := by decide +kernel
theorem dX12_whole_53 : decode cX12_whole 53 = .ok (.goto (-48), 3) := by decide +kernel
theorem dX12_whole_56 : decode cX12_whole 56 = .ok (.return_, 1) := by decide +kernel
theorem dX12_settle_0 : decode cX12_settle 0 = .ok (.aload_n 0, 1) := by decide +kernel
theorem dX12_settle_1 : decode cX12_settle 1 = .ok (.getfield 135, 3) := by decide +kernel
theorem dX12_settle_4 : decode cX12_settle 4 = .ok (.ifCond .le 61, 3) := by decide +kernel
theorem dX12_settle_7 : decode cX12_settle 7 = .ok (.aload_n 0, 1) := by decide +kernel
theorem dX12_settle_8 : decode cX12_settle 8 = .ok (.getfield 29, 3) := by decide +kernel
theorem dX12_settle_11 : decode cX12_settle 11 = .ok (.aload_n 0, 1) := by decide +kernel
theorem dX12_settle_12 : decode cX12_settle 12 = .ok (.getfield 135, 3) := by decide +kernel
theorem dX12_settle_15 : decode cX12_settle 15 = .ok (.iconst 1, 1) := by decide +kernel
theorem dX12_settle_16 : decode cX12_settle 16 = .ok (.isub, 1) := by decide +kernel
theorem dX12_settle_17 : decode cX12_settle 17 = .ok (.iaload, 1) := by decide +kernel
theorem dX12_settle_18 : decode cX12_settle 18 = .ok (.bipush 40, 2) := by decide +kernel
theorem dX12_settle_20 : decode cX12_settle 20 = .ok (.if_icmp .ge 45, 3) := by decide +kernel
theorem dX12_settle_23 : decode cX12_settle 23 = .ok (.aload_n 0, 1) := by decide +kernel
theorem dX12_settle_24 : decode cX12_settle 24 = .ok (.getfield 29, 3) := by decide +kernel
theorem dX12_settle_27 : decode cX12_settle 27 = .ok (.aload_n 0, 1) := by decide +kernel
theorem dX12_settle_28 : decode cX12_settle 28 = .ok (.getfield 135, 3) := by decide +kernel
theorem dX12_settle_31 : decode cX12_settle 31 = .ok (.iconst 1, 1) := by decide +kernel
theorem dX12_settle_32 : decode cX12_settle 32 = .ok (.isub, 1) := by decide +kernel
theorem dX12_settle_33 : decode cX12_settle 33 = .ok (.iaload, 1) := by decide +kernel
theorem dX12_settle_34 : decode cX12_settle 34 = .ok (.iload_n 1, 1) := by decide +kernel
theorem dX12_settle_35 : decode cX12_settle 35 = .ok (.if_icmp .lt 30, 3) := by decide +kernel
theorem dX12_settle_38 : decode cX12_settle 38 = .ok (.aload_n 0, 1) := by decide +kernel
theorem dX12_settle_39 : decode cX12_settle 39 = .ok (.dup, 1) := by decide +kernel
theorem dX12_settle_40 : decode cX12_settle 40 = .ok (.getfield 135, 3) := by decide +kernel
theorem dX12_settle_43 : decode cX12_settle 43 = .ok (.iconst 1, 1) := by decide +kernel
theorem dX12_settle_44 : decode cX12_settle 44 = .ok (.isub, 1) := by decide +kernel
theorem dX12_settle_45 : decode cX12_settle 45 = .ok (.putfield 135, 3) := by decide +kernel
theorem dX12_settle_48 : decode cX12_settle 48 = .ok (.aload_n 0, 1) := by decide +kernel
theorem dX12_settle_49 : decode cX12_settle 49 = .ok (.aload_n 0, 1) := by decide +kernel
theorem dX12_settle_50 : decode cX12_settle 50 = .ok (.getfield 29, 3) := by decide +kernel
theorem dX12_settle_53 : decode cX12_settle 53 = .ok (.aload_n 0, 1) := by decide +kernel
theorem dX12_settle_54 : decode cX12_settle 54 = .ok (.getfield 135, 3) := by decide +kernel
theorem dX12_settle_57 : decode cX12_settle 57 = .ok (.iaload, 1) := by decide +kernel
theorem dX12_settle_58 : decode cX12_settle 58 = .ok (.iconst 0, 1) := by decide +kernel
theorem dX12_settle_59 : decode cX12_settle 59 = .ok (.invokevirtual 145, 3) := by decide +kernel
theorem dX12_settle_62 : decode cX12_settle 62 = .ok (.goto (-62), 3) := by decide +kernel
theorem dX12_settle_65 : decode cX12_settle 65 = .ok (.return_, 1) := by decide +kernel
theorem dX12_nameOf_0 : decode cX12_nameOf 0 = .ok (.aload_n 0, 1) := by decide +kernel
theorem dX12_nameOf_1 : decode cX12_nameOf 1 = .ok (.getfield 104, 3) := by decide +kernel
theorem dX12_nameOf_4 : decode cX12_nameOf 4 = .ok (.iconst 2, 1) := by decide +kernel
theorem dX12_nameOf_5 : decode cX12_nameOf 5 = .ok (.if_icmp .eq 5, 3) := by decide +kernel
theorem dX12_nameOf_8 : decode cX12_nameOf 8 = .ok (.iconst (-1), 1) := by decide +kernel
theorem dX12_nameOf_9 : decode cX12_nameOf 9 = .ok (.ireturn, 1) := by decide +kernel
theorem dX12_nameOf_10 : decode cX12_nameOf 10 = .ok (.aload_n 0, 1) := by decide +kernel
theorem dX12_nameOf_11 : decode cX12_nameOf 11 = .ok (.getfield 117, 3) := by decide +kernel
theorem dX12_nameOf_14 : decode cX12_nameOf 14 = .ok (.bipush 115, 2) := by decide +kernel
theorem dX12_nameOf_16 : decode cX12_nameOf 16 = .ok (.bipush 116, 2) := by decide +kernel
theorem dX12_nameOf_18 : decode cX12_nameOf 18 = .ok (.bipush 111, 2) := by decide +kernel
theorem dX12_nameOf_20 : decode cX12_nameOf 20 = .ok (.bipush 110, 2) := by decide +kernel
theorem dX12_nameOf_22 : decode cX12_nameOf 22 = .ok (.bipush 101, 2) := by decide +kernel
theorem dX12_nameOf_24 : decode cX12_nameOf 24 = .ok (.invokestatic 125, 3) := by decide +kernel
theorem dX12_nameOf_27 : decode cX12_nameOf 27 = .ok (.lcmp, 1) := by decide +kernel
theorem dX12_nameOf_28 : decode cX12_nameOf 28 = .ok (.ifCond .ne 5, 3) := by decide +kernel
theorem dX12_nameOf_31 : decode cX12_nameOf 31 = .ok (.iconst 0, 1) := by decide +kernel
theorem dX12_nameOf_32 : decode cX12_nameOf 32 = .ok (.ireturn, 1) := by decide +kernel
theorem dX12_nameOf_33 : decode cX12_nameOf 33 = .ok (.aload_n 0, 1) := by decide +kernel
theorem dX12_nameOf_34 : decode cX12_nameOf 34 = .ok (.getfield 117, 3) := by decide +kernel
theorem dX12_nameOf_37 : decode cX12_nameOf 37 = .ok (.bipush 119, 2) := by decide +kernel
theorem dX12_nameOf_39 : decode cX12_nameOf 39 = .ok (.bipush 101, 2) := by decide +kernel
theorem dX12_nameOf_41 : decode cX12_nameOf 41 = .ok (.bipush 105, 2) := by decide +kernel
theorem dX12_nameOf_43 : decode cX12_nameOf 43 = .ok (.bipush 103, 2) := by decide +kernel
theorem dX12_nameOf_45 : decode cX12_nameOf 45 = .ok (.bipush 104, 2) := by decide +kernel
theorem dX12_nameOf_47 : decode cX12_nameOf 47 = .ok (.bipush 116, 2) := by decide +kernel
theorem dX12_nameOf_49 : decode cX12_nameOf 49 = .ok (.invokestatic 149, 3) := by decide +kernel
theorem dX12_nameOf_52 : decode cX12_nameOf 52 = .ok (.lcmp, 1) := by decide +kernel
theorem dX12_nameOf_53 : decode cX12_nameOf 53 = .ok (.ifCond .ne 5, 3) := by decide +kernel
theorem dX12_nameOf_56 : decode cX12_nameOf 56 = .ok (.iconst 1, 1) := by decide +kernel
theorem dX12_nameOf_57 : decode cX12_nameOf 57 = .ok (.ireturn, 1) := by decide +kernel
theorem dX12_nameOf_58 : decode cX12_nameOf 58 = .ok (.aload_n 0, 1) := by decide +kernel
theorem dX12_nameOf_59 : decode cX12_nameOf 59 = .ok (.getfield 117, 3) := by decide +kernel
theorem dX12_nameOf_62 : decode cX12_nameOf 62 = .ok (.bipush 104, 2) := by decide +kernel
theorem dX12_nameOf_64 : decode cX12_nameOf 64 = .ok (.bipush 101, 2) := by decide +kernel
theorem dX12_nameOf_66 : decode cX12_nameOf 66 = .ok (.bipush 105, 2) := by decide +kernel
theorem dX12_nameOf_68 : decode cX12_nameOf 68 = .ok (.bipush 103, 2) := by decide +kernel
theorem dX12_nameOf_70 : decode cX12_nameOf 70 = .ok (.bipush 104, 2) := by decide +kernel
theorem dX12_nameOf_72 : decode cX12_nameOf 72 = .ok (.bipush 116, 2) := by decide +kernel
theorem dX12_nameOf_74 : decode cX12_nameOf 74 = .ok (.invokestatic 149, 3) := by decide +kernel
theorem dX12_nameOf_77 : decode cX12_nameOf 77 = .ok (.lcmp, 1) := by decide +kernel
theorem dX12_nameOf_78 : decode cX12_nameOf 78 = .ok (.ifCond .ne 5, 3) := by decide +kernel
theorem dX12_nameOf_81 : decode cX12_nameOf 81 = .ok (.iconst 2, 1) := by decide +kernel
theorem dX12_nameOf_82 : decode cX12_nameOf 82 = .ok (.ireturn, 1) := by decide +kernel
theorem dX12_nameOf_83 : decode cX12_nameOf 83 = .ok (.aload_n 0, 1) := by decide +kernel
theorem dX12_nameOf_84 : decode cX12_nameOf 84 = .ok (.getfield 117, 3) := by decide +kernel
theorem dX12_nameOf_87 : decode cX12_nameOf 87 = .ok (.bipush 118, 2) := by decide +kernel
theorem dX12_nameOf_89 : decode cX12_nameOf 89 = .ok (.bipush 101, 2) := by decide +kernel
theorem dX12_nameOf_91 : decode cX12_nameOf 91 = .ok (.bipush 105, 2) := by decide +kernel
theorem dX12_nameOf_93 : decode cX12_nameOf 93 = .ok (.bipush 110, 2) := by decide +kernel
theorem dX12_nameOf_95 : decode cX12_nameOf 95 = .ok (.invokestatic 153, 3) := by decide +kernel
theorem dX12_nameOf_98 : decode cX12_nameOf 98 = .ok (.lcmp, 1) := by decide +kernel
theorem dX12_nameOf_99 : decode cX12_nameOf 99 = .ok (.ifCond .ne 5, 3) := by decide +kernel
theorem dX12_nameOf_102 : decode cX12_nameOf 102 = .ok (.iconst 3, 1) := by decide +kernel
theorem dX12_nameOf_103 : decode cX12_nameOf 103 = .ok (.ireturn, 1) := by decide +kernel
theorem dX12_nameOf_104 : decode cX12_nameOf 104 = .ok (.aload_n 0, 1) := by decide +kernel
theorem dX12_nameOf_105 : decode cX12_nameOf 105 = .ok (.getfield 117, 3) := by decide +kernel
theorem dX12_nameOf_108 : decode cX12_nameOf 108 = .ok (.bipush 108, 2) := by decide +kernel
theorem dX12_nameOf_110 : decode cX12_nameOf 110 = .ok (.bipush 97, 2) := by decide +kernel
theorem dX12_nameOf_112 : decode cX12_nameOf 112 = .ok (.bipush 105, 2) := by decide +kernel
theorem dX12_nameOf_114 : decode cX12_nameOf 114 = .ok (.bipush 100, 2) := by decide +kernel
theorem dX12_nameOf_116 : decode cX12_nameOf 116 = .ok (.invokestatic 153, 3) := by decide +kernel
theorem dX12_nameOf_119 : decode cX12_nameOf 119 = .ok (.lcmp, 1) := by decide +kernel
theorem dX12_nameOf_120 : decode cX12_nameOf 120 = .ok (.ifCond .ne 5, 3) := by decide +kernel
theorem dX12_nameOf_123 : decode cX12_nameOf 123 = .ok (.iconst 4, 1) := by decide +kernel
theorem dX12_nameOf_124 : decode cX12_nameOf 124 = .ok (.ireturn, 1) := by decide +kernel
theorem dX12_nameOf_125 : decode cX12_nameOf 125 = .ok (.aload_n 0, 1) := by decide +kernel
theorem dX12_nameOf_126 : decode cX12_nameOf 126 = .ok (.getfield 117, 3) := by decide +kernel
theorem dX12_nameOf_129 : decode cX12_nameOf 129 = .ok (.bipush 116, 2) := by decide +kernel
theorem dX12_nameOf_131 : decode cX12_nameOf 131 = .ok (.bipush 111, 2) := by decide +kernel
theorem dX12_nameOf_133 : decode cX12_nameOf 133 = .ok (.bipush 112, 2) := by decide +kernel
theorem dX12_nameOf_135 : decode cX12_nameOf 135 = .ok (.invokestatic 121, 3) := by decide +kernel
theorem dX12_nameOf_138 : decode cX12_nameOf 138 = .ok (.lcmp, 1) := by decide +kernel
theorem dX12_nameOf_139 : decode cX12_nameOf 139 = .ok (.ifCond .ne 5, 3) := by decide +kernel
theorem dX12_nameOf_142 : decode cX12_nameOf 142 = .ok (.iconst 5, 1) := by decide +kernel
theorem dX12_nameOf_143 : decode cX12_nameOf 143 = .ok (.ireturn, 1) := by decide +kernel
theorem dX12_nameOf_144 : decode cX12_nameOf 144 = .ok (.aload_n 0, 1) := by decide +kernel
theorem dX12_nameOf_145 : decode cX12_nameOf 145 = .ok (.getfield 117, 3) := by decide +kernel
theorem dX12_nameOf_148 : decode cX12_nameOf 148 = .ok (.bipush 104, 2) := by decide +kernel
theorem dX12_nameOf_150 : decode cX12_nameOf 150 = .ok (.bipush 111, 2) := by decide +kernel
theorem dX12_nameOf_152 : decode cX12_nameOf 152 = .ok (.bipush 117, 2) := by decide +kernel
theorem dX12_nameOf_154 : decode cX12_nameOf 154 = .ok (.bipush 114, 2) := by decide +kernel
theorem dX12_nameOf_156 : decode cX12_nameOf 156 = .ok (.invokestatic 153, 3) := by decide +kernel
theorem dX12_nameOf_159 : decode cX12_nameOf 159 = .ok (.lcmp, 1) := by decide +kernel
theorem dX12_nameOf_160 : decode cX12_nameOf 160 = .ok (.ifCond .ne 8, 3) := by decide +kernel
theorem dX12_nameOf_163 : decode cX12_nameOf 163 = .ok (.bipush 6, 2) := by decide +kernel
theorem dX12_nameOf_165 : decode cX12_nameOf 165 = .ok (.goto 32, 3) := by decide +kernel
theorem dX12_nameOf_168 : decode cX12_nameOf 168 = .ok (.aload_n 0, 1) := by decide +kernel
theorem dX12_nameOf_169 : decode cX12_nameOf 169 = .ok (.getfield 117, 3) := by decide +kernel
theorem dX12_nameOf_172 : decode cX12_nameOf 172 = .ok (.bipush 113, 2) := by decide +kernel
theorem dX12_nameOf_174 : decode cX12_nameOf 174 = .ok (.bipush 117, 2) := by decide +kernel
theorem dX12_nameOf_176 : decode cX12_nameOf 176 = .ok (.bipush 97, 2) := by decide +kernel
theorem dX12_nameOf_178 : decode cX12_nameOf 178 = .ok (.bipush 114, 2) := by decide +kernel
theorem dX12_nameOf_180 : decode cX12_nameOf 180 = .ok (.bipush 114, 2) := by decide +kernel
theorem dX12_nameOf_182 : decode cX12_nameOf 182 = .ok (.bipush 121, 2) := by decide +kernel
theorem dX12_nameOf_184 : decode cX12_nameOf 184 = .ok (.invokestatic 149, 3) := by decide +kernel
theorem dX12_nameOf_187 : decode cX12_nameOf 187 = .ok (.lcmp, 1) := by decide +kernel
theorem dX12_nameOf_188 : decode cX12_nameOf 188 = .ok (.ifCond .ne 8, 3) := by decide +kernel
theorem dX12_nameOf_191 : decode cX12_nameOf 191 = .ok (.bipush 7, 2) := by decide +kernel
theorem dX12_nameOf_193 : decode cX12_nameOf 193 = .ok (.goto 4, 3) := by decide +kernel
theorem dX12_nameOf_196 : decode cX12_nameOf 196 = .ok (.iconst (-1), 1) := by decide +kernel
theorem dX12_nameOf_197 : decode cX12_nameOf 197 = .ok (.ireturn, 1) := by decide +kernel
theorem dX12_isBarred_0 : decode cX12_isBarred 0 = .ok (.aload_n 0, 1) := by decide +kernel
theorem dX12_isBarred_1 : decode cX12_isBarred 1 = .ok (.getfield 157, 3) := by decide +kernel
theorem dX12_isBarred_4 : decode cX12_isBarred 4 = .ok (.iconst 2, 1) := by decide +kernel
theorem dX12_isBarred_5 : decode cX12_isBarred 5 = .ok (.if_icmp .ne 13, 3) := by decide +kernel
theorem dX12_isBarred_8 : decode cX12_isBarred 8 = .ok (.iload_n 1, 1) := by decide +kernel
theorem dX12_isBarred_9 : decode cX12_isBarred 9 = .ok (.iconst 4, 1) := by decide +kernel
theorem dX12_isBarred_10 : decode cX12_isBarred 10 = .ok (.bipush 6, 2) := by decide +kernel
theorem dX12_isBarred_12 : decode cX12_isBarred 12 = .ok (.invokestatic 62, 3) := by decide +kernel
theorem dX12_isBarred_15 : decode cX12_isBarred 15 = .ok (.goto 14, 3) := by decide +kernel
theorem dX12_isBarred_18 : decode cX12_isBarred 18 = .ok (.iload_n 1, 1) := by decide +kernel
theorem dX12_isBarred_19 : decode cX12_isBarred 19 = .ok (.bipush 7, 2) := by decide +kernel
theorem dX12_isBarred_21 : decode cX12_isBarred 21 = .ok (.if_icmp .ne 7, 3) := by decide +kernel
theorem dX12_isBarred_24 : decode cX12_isBarred 24 = .ok (.iconst 1, 1) := by decide +kernel
theorem dX12_isBarred_25 : decode cX12_isBarred 25 = .ok (.goto 4, 3) := by decide +kernel
theorem dX12_isBarred_28 : decode cX12_isBarred 28 = .ok (.iconst 0, 1) := by decide +kernel
theorem dX12_isBarred_29 : decode cX12_isBarred 29 = .ok (.ireturn, 1) := by decide +kernel
theorem dX12_beginOne_0 : decode cX12_beginOne 0 = .ok (.aload_n 0, 1) := by decide +kernel
theorem dX12_beginOne_1 : decode cX12_beginOne 1 = .ok (.getfield 104, 3) := by decide +kernel
theorem dX12_beginOne_4 : decode cX12_beginOne 4 = .ok (.iconst 1, 1) := by decide +kernel
theorem dX12_beginOne_5 : decode cX12_beginOne 5 = .ok (.if_icmp .ne 34, 3) := by decide +kernel
theorem dX12_beginOne_8 : decode cX12_beginOne 8 = .ok (.aload_n 0, 1) := by decide +kernel
theorem dX12_beginOne_9 : decode cX12_beginOne 9 = .ok (.getfield 110, 3) := by decide +kernel
theorem dX12_beginOne_12 : decode cX12_beginOne 12 = .ok (.sipush 9999, 3) := by decide +kernel
theorem dX12_beginOne_15 : decode cX12_beginOne 15 = .ok (.if_icmp .le 5, 3) := by decide +kernel
theorem dX12_beginOne_18 : decode cX12_beginOne 18 = .ok (.iconst 2, 1) := by decide +kernel
theorem dX12_beginOne_19 : decode cX12_beginOne 19 = .ok (.ireturn, 1) := by decide +kernel
theorem dX12_beginOne_20 : decode cX12_beginOne 20 = .ok (.aload_n 0, 1) := by decide +kernel
theorem dX12_beginOne_21 : decode cX12_beginOne 21 = .ok (.iconst 0, 1) := by decide +kernel
theorem dX12_beginOne_22 : decode cX12_beginOne 22 = .ok (.aload_n 0, 1) := by decide +kernel
theorem dX12_beginOne_23 : decode cX12_beginOne 23 = .ok (.getfield 110, 3) := by decide +kernel
theorem dX12_beginOne_26 : decode cX12_beginOne 26 = .ok (.invokevirtual 145, 3) := by decide +kernel
theorem dX12_beginOne_29 : decode cX12_beginOne 29 = .ok (.aload_n 0, 1) := by decide +kernel
theorem dX12_beginOne_30 : decode cX12_beginOne 30 = .ok (.invokevirtual 160, 3) := by decide +kernel
theorem dX12_beginOne_33 : decode cX12_beginOne 33 = .ok (.aload_n 0, 1) := by decide +kernel
theorem dX12_beginOne_34 : decode cX12_beginOne 34 = .ok (.invokevirtual 163, 3) := by decide +kernel
theorem dX12_beginOne_37 : decode cX12_beginOne 37 = .ok (.iconst 0, 1) := by decide +kernel
theorem dX12_beginOne_38 : decode cX12_beginOne 38 = .ok (.ireturn, 1) := by decide +kernel
theorem dX12_beginOne_39 : decode cX12_beginOne 39 = .ok (.aload_n 0, 1) := by decide +kernel
theorem dX12_beginOne_40 : decode cX12_beginOne 40 = .ok (.invokevirtual 166, 3) := by decide +kernel
theorem dX12_beginOne_43 : decode cX12_beginOne 43 = .ok (.ifCond .lt 35, 3) := by decide +kernel
theorem dX12_beginOne_46 : decode cX12_beginOne 46 = .ok (.aload_n 0, 1) := by decide +kernel
theorem dX12_beginOne_47 : decode cX12_beginOne 47 = .ok (.aload_n 0, 1) := by decide +kernel
theorem dX12_beginOne_48 : decode cX12_beginOne 48 = .ok (.invokevirtual 166, 3) := by decide +kernel
theorem dX12_beginOne_51 : decode cX12_beginOne 51 = .ok (.invokevirtual 169, 3) := by decide +kernel
theorem dX12_beginOne_54 : decode cX12_beginOne 54 = .ok (.ifCond .eq 5, 3) := by decide +kernel
theorem dX12_beginOne_57 : decode cX12_beginOne 57 = .ok (.iconst 5, 1) := by decide +kernel
theorem dX12_beginOne_58 : decode cX12_beginOne 58 = .ok (.ireturn, 1) := by decide +kernel
theorem dX12_beginOne_59 : decode cX12_beginOne 59 = .ok (.aload_n 0, 1) := by decide +kernel
theorem dX12_beginOne_60 : decode cX12_beginOne 60 = .ok (.iconst 1, 1) := by decide +kernel
theorem dX12_beginOne_61 : decode cX12_beginOne 61 = .ok (.aload_n 0, 1) := by decide +kernel
theorem dX12_beginOne_62 : decode cX12_beginOne 62 = .ok (.invokevirtual 166, 3) := by decide +kernel
theorem dX12_beginOne_65 : decode cX12_beginOne 65 = .ok (.invokevirtual 145, 3) := by decide +kernel
theorem dX12_beginOne_68 : decode cX12_beginOne 68 = .ok (.aload_n 0, 1) := by decide +kernel
theorem dX12_beginOne_69 : decode cX12_beginOne 69 = .ok (.invokevirtual 160, 3) := by decide +kernel
theorem dX12_beginOne_72 : decode cX12_beginOne 72 = .ok (.aload_n 0, 1) := by decide +kernel
theorem dX12_beginOne_73 : decode cX12_beginOne 73 = .ok (.invokevirtual 163, 3) := by decide +kernel
theorem dX12_beginOne_76 : decode cX12_beginOne 76 = .ok (.iconst 0, 1) := by decide +kernel
theorem dX12_beginOne_77 : decode cX12_beginOne 77 = .ok (.ireturn, 1) := by decide +kernel
theorem dX12_beginOne_78 : decode cX12_beginOne 78 = .ok (.aload_n 0, 1) := by decide +kernel
theorem dX12_beginOne_79 : decode cX12_beginOne 79 = .ok (.getfield 104, 3) := by decide +kernel
theorem dX12_beginOne_82 : decode cX12_beginOne 82 = .ok (.bipush 40, 2) := by decide +kernel
theorem dX12_beginOne_84 : decode cX12_beginOne 84 = .ok (.if_icmp .ne 8, 3) := by decide +kernel
theorem dX12_beginOne_87 : decode cX12_beginOne 87 = .ok (.bipush 40, 2) := by decide +kernel
theorem dX12_beginOne_89 : decode cX12_beginOne 89 = .ok (.goto 17, 3) := by decide +kernel
theorem dX12_beginOne_92 : decode cX12_beginOne 92 = .ok (.aload_n 0, 1) := by decide +kernel
theorem dX12_beginOne_93 : decode cX12_beginOne 93 = .ok (.getfield 104, 3) := by decide +kernel
theorem dX12_beginOne_96 : decode cX12_beginOne 96 = .ok (.bipush 45, 2) := by decide +kernel
theorem dX12_beginOne_98 : decode cX12_beginOne 98 = .ok (.if_icmp .ne 7, 3) := by decide +kernel
theorem dX12_beginOne_101 : decode cX12_beginOne 101 = .ok (.iconst 2, 1) := by decide +kernel
theorem dX12_beginOne_102 : decode cX12_beginOne 102 = .ok (.goto 4, 3) := by decide +kernel
theorem dX12_beginOne_105 : decode cX12_beginOne 105 = .ok (.iconst 0, 1) := by decide +kernel
theorem dX12_beginOne_106 : decode cX12_beginOne 106 = .ok (.istore_n 1, 1) := by decide +kernel
theorem dX12_beginOne_107 : decode cX12_beginOne 107 = .ok (.iload_n 1, 1) := by decide +kernel
theorem dX12_beginOne_108 : decode cX12_beginOne 108 = .ok (.ifCond .ne 5, 3) := by decide +kernel
theorem dX12_beginOne_111 : decode cX12_beginOne 111 = .ok (.iconst 1, 1) := by decide +kernel
theorem dX12_beginOne_112 : decode cX12_beginOne 112 = .ok (.ireturn, 1) := by decide +kernel
theorem dX12_beginOne_113 : decode cX12_beginOne 113 = .ok (.aload_n 0, 1) := by decide +kernel
theorem dX12_beginOne_114 : decode cX12_beginOne 114 = .ok (.getfield 142, 3) := by decide +kernel
theorem dX12_beginOne_117 : decode cX12_beginOne 117 = .ok (.bipush 8, 2) := by decide +kernel
theorem dX12_beginOne_119 : decode cX12_beginOne 119 = .ok (.if_icmp .ne 5, 3) := by decide +kernel
theorem dX12_beginOne_122 : decode cX12_beginOne 122 = .ok (.iconst 3, 1) := by decide +kernel
theorem dX12_beginOne_123 : decode cX12_beginOne 123 = .ok (.ireturn, 1) := by decide +kernel
theorem dX12_beginOne_124 : decode cX12_beginOne 124 = .ok (.aload_n 0, 1) := by decide +kernel
theorem dX12_beginOne_125 : decode cX12_beginOne 125 = .ok (.dup, 1) := by decide +kernel
theorem dX12_beginOne_126 : decode cX12_beginOne 126 = .ok (.getfield 142, 3) := by decide +kernel
theorem dX12_beginOne_129 : decode cX12_beginOne 129 = .ok (.iconst 1, 1) := by decide +kernel
theorem dX12_beginOne_130 : decode cX12_beginOne 130 = .ok (.iadd, 1) := by decide +kernel
theorem dX12_beginOne_131 : decode cX12_beginOne 131 = .ok (.putfield 142, 3) := by decide +kernel
theorem dX12_beginOne_134 : decode cX12_beginOne 134 = .ok (.aload_n 0, 1) := by decide +kernel
theorem dX12_beginOne_135 : decode cX12_beginOne 135 = .ok (.iload_n 1, 1) := by decide +kernel
theorem dX12_beginOne_136 : decode cX12_beginOne 136 = .ok (.invokevirtual 172, 3) := by decide +kernel
theorem dX12_beginOne_139 : decode cX12_beginOne 139 = .ok (.aload_n 0, 1) := by decide +kernel
theorem dX12_beginOne_140 : decode cX12_beginOne 140 = .ok (.invokevirtual 160, 3) := by decide +kernel
theorem dX12_beginOne_143 : decode cX12_beginOne 143 = .ok (.iconst 0, 1) := by decide +kernel
theorem dX12_beginOne_144 : decode cX12_beginOne 144 = .ok (.ireturn, 1) := by decide +kernel
theorem dX12_hasParen_0 : decode cX12_hasParen 0 = .ok (.iconst 0, 1) := by decide +kernel
theorem dX12_hasParen_1 : decode cX12_hasParen 1 = .ok (.istore_n 1, 1) := by decide +kernel
theorem dX12_hasParen_2 : decode cX12_hasParen 2 = .ok (.iload_n 1, 1) := by decide +kernel
theorem dX12_hasParen_3 : decode cX12_hasParen 3 = .ok (.aload_n 0, 1) := by decide +kernel
theorem dX12_hasParen_4 : decode cX12_hasParen 4 = .ok (.getfield 135, 3) := by decide +kernel
theorem dX12_hasParen_7 : decode cX12_hasParen 7 = .ok (.if_icmp .ge 22, 3) := by decide +kernel
theorem dX12_hasParen_10 : decode cX12_hasParen 10 = .ok (.aload_n 0, 1) := by decide +kernel
theorem dX12_hasParen_11 : decode cX12_hasParen 11 = .ok (.getfield 29, 3) := by decide +kernel
theorem dX12_hasParen_14 : decode cX12_hasParen 14 = .ok (.iload_n 1, 1) := by decide +kernel
theorem dX12_hasParen_15 : decode cX12_hasParen 15 = .ok (.iaload, 1) := by decide +kernel
theorem dX12_hasParen_16 : decode cX12_hasParen 16 = .ok (.bipush 40, 2) := by decide +kernel
theorem dX12_hasParen_18 : decode cX12_hasParen 18 = .ok (.if_icmp .ne 5, 3) := by decide +kernel
theorem dX12_hasParen_21 : decode cX12_hasParen 21 = .ok (.iconst 1, 1) := by decide +kernel
theorem dX12_hasParen_22 : decode cX12_hasParen 22 = .ok (.ireturn, 1) := by decide +kernel
theorem dX12_hasParen_23 : decode cX12_hasParen 23 = .ok (.iinc 1 1, 3) := by decide +kernel
theorem dX12_hasParen_26 : decode cX12_hasParen 26 = .ok (.goto (-24), 3) := by decide +kernel
theorem dX12_hasParen_29 : decode cX12_hasParen 29 = .ok (.iconst 0, 1) := by decide +kernel
theorem dX12_hasParen_30 : decode cX12_hasParen 30 = .ok (.ireturn, 1) := by decide +kernel
theorem dX12_goesOn_0 : decode cX12_goesOn 0 = .ok (.aload_n 0, 1) := by decide +kernel
theorem dX12_goesOn_1 : decode cX12_goesOn 1 = .ok (.getfield 104, 3) := by decide +kernel
theorem dX12_goesOn_4 : decode cX12_goesOn 4 = .ok (.bipush 43, 2) := by decide +kernel
theorem dX12_goesOn_6 : decode cX12_goesOn 6 = .ok (.if_icmp .eq 46, 3) := by decide +kernel
theorem dX12_goesOn_9 : decode cX12_goesOn 9 = .ok (.aload_n 0, 1) := by decide +kernel
theorem dX12_goesOn_10 : decode cX12_goesOn 10 = .ok (.getfield 104, 3) := by decide +kernel
theorem dX12_goesOn_13 : decode cX12_goesOn 13 = .ok (.bipush 45, 2) := by decide +kernel
theorem dX12_goesOn_15 : decode cX12_goesOn 15 = .ok (.if_icmp .eq 37, 3) := by decide +kernel
theorem dX12_goesOn_18 : decode cX12_goesOn 18 = .ok (.aload_n 0, 1) := by decide +kernel
theorem dX12_goesOn_19 : decode cX12_goesOn 19 = .ok (.getfield 104, 3) := by decide +kernel
theorem dX12_goesOn_22 : decode cX12_goesOn 22 = .ok (.bipush 42, 2) := by decide +kernel
theorem dX12_goesOn_24 : decode cX12_goesOn 24 = .ok (.if_icmp .eq 28, 3) := by decide +kernel
theorem dX12_goesOn_27 : decode cX12_goesOn 27 = .ok (.aload_n 0, 1) := by decide +kernel
theorem dX12_goesOn_28 : decode cX12_goesOn 28 = .ok (.getfield 104, 3) := by decide +kernel
theorem dX12_goesOn_31 : decode cX12_goesOn 31 = .ok (.bipush 47, 2) := by decide +kernel
theorem dX12_goesOn_33 : decode cX12_goesOn 33 = .ok (.if_icmp .eq 19, 3) := by decide +kernel
theorem dX12_goesOn_36 : decode cX12_goesOn 36 = .ok (.aload_n 0, 1) := by decide +kernel
theorem dX12_goesOn_37 : decode cX12_goesOn 37 = .ok (.getfield 104, 3) := by decide +kernel
theorem dX12_goesOn_40 : decode cX12_goesOn 40 = .ok (.bipush 41, 2) := by decide +kernel
theorem dX12_goesOn_42 : decode cX12_goesOn 42 = .ok (.if_icmp .ne 14, 3) := by decide +kernel
theorem dX12_goesOn_45 : decode cX12_goesOn 45 = .ok (.aload_n 0, 1) := by decide +kernel
theorem dX12_goesOn_46 : decode cX12_goesOn 46 = .ok (.invokevirtual 175, 3) := by decide +kernel
theorem dX12_goesOn_49 : decode cX12_goesOn 49 = .ok (.ifCond .eq 7, 3) := by decide +kernel
theorem dX12_goesOn_52 : decode cX12_goesOn 52 = .ok (.iconst 1, 1) := by decide +kernel
theorem dX12_goesOn_53 : decode cX12_goesOn 53 = .ok (.goto 4, 3) := by decide +kernel
theorem dX12_goesOn_56 : decode cX12_goesOn 56 = .ok (.iconst 0, 1) := by decide +kernel
theorem dX12_goesOn_57 : decode cX12_goesOn 57 = .ok (.ireturn, 1) := by decide +kernel
theorem dX12_behindOne_0 : decode cX12_behindOne 0 = .ok (.aload_n 0, 1) := by decide +kernel
theorem dX12_behindOne_1 : decode cX12_behindOne 1 = .ok (.getfield 104, 3) := by decide +kernel
theorem dX12_behindOne_4 : decode cX12_behindOne 4 = .ok (.istore_n 1, 1) := by decide +kernel
theorem dX12_behindOne_5 : decode cX12_behindOne 5 = .ok (.iload_n 1, 1) := by decide +kernel
theorem dX12_behindOne_6 : decode cX12_behindOne 6 = .ok (.bipush 43, 2) := by decide +kernel
theorem dX12_behindOne_8 : decode cX12_behindOne 8 = .ok (.if_icmp .eq 9, 3) := by decide +kernel
theorem dX12_behindOne_11 : decode cX12_behindOne 11 = .ok (.iload_n 1, 1) := by decide +kernel
theorem dX12_behindOne_12 : decode cX12_behindOne 12 = .ok (.bipush 45, 2) := by decide +kernel
theorem dX12_behindOne_14 : decode cX12_behindOne 14 = .ok (.if_icmp .ne 31, 3) := by decide +kernel
theorem dX12_behindOne_17 : decode cX12_behindOne 17 = .ok (.aload_n 0, 1) := by decide +kernel
theorem dX12_behindOne_18 : decode cX12_behindOne 18 = .ok (.iconst 3, 1) := by decide +kernel
theorem dX12_behindOne_19 : decode cX12_behindOne 19 = .ok (.invokevirtual 179, 3) := by decide +kernel
theorem dX12_behindOne_22 : decode cX12_behindOne 22 = .ok (.aload_n 0, 1) := by decide +kernel
theorem dX12_behindOne_23 : decode cX12_behindOne 23 = .ok (.iload_n 1, 1) := by decide +kernel
theorem dX12_behindOne_24 : decode cX12_behindOne 24 = .ok (.bipush 43, 2) := by decide +kernel
theorem dX12_behindOne_26 : decode cX12_behindOne 26 = .ok (.if_icmp .ne 7, 3) := by decide +kernel
theorem dX12_behindOne_29 : decode cX12_behindOne 29 = .ok (.iconst 3, 1) := by decide +kernel
theorem dX12_behindOne_30 : decode cX12_behindOne 30 = .ok (.goto 4, 3) := by decide +kernel
theorem dX12_behindOne_33 : decode cX12_behindOne 33 = .ok (.iconst 4, 1) := by decide +kernel
theorem dX12_behindOne_34 : decode cX12_behindOne 34 = .ok (.invokevirtual 172, 3) := by decide +kernel
theorem dX12_behindOne_37 : decode cX12_behindOne 37 = .ok (.aload_n 0, 1) := by decide +kernel
theorem dX12_behindOne_38 : decode cX12_behindOne 38 = .ok (.iconst 0, 1) := by decide +kernel
theorem dX12_behindOne_39 : decode cX12_behindOne 39 = .ok (.putfield 138, 3) := by decide +kernel
theorem dX12_behindOne_42 : decode cX12_behindOne 42 = .ok (.goto 73, 3) := by decide +kernel
theorem dX12_behindOne_45 : decode cX12_behindOne 45 = .ok (.iload_n 1, 1) := by decide +kernel
theorem dX12_behindOne_46 : decode cX12_behindOne 46 = .ok (.bipush 42, 2) := by decide +kernel
theorem dX12_behindOne_48 : decode cX12_behindOne 48 = .ok (.if_icmp .eq 9, 3) := by decide +kernel
theorem dX12_behindOne_51 : decode cX12_behindOne 51 = .ok (.iload_n 1, 1) := by decide +kernel
theorem dX12_behindOne_52 : decode cX12_behindOne 52 = .ok (.bipush 47, 2) := by decide +kernel
theorem dX12_behindOne_54 : decode cX12_behindOne 54 = .ok (.if_icmp .ne 32, 3) := by decide +kernel
theorem dX12_behindOne_57 : decode cX12_behindOne 57 = .ok (.aload_n 0, 1) := by decide +kernel
theorem dX12_behindOne_58 : decode cX12_behindOne 58 = .ok (.iconst 5, 1) := by decide +kernel
theorem dX12_behindOne_59 : decode cX12_behindOne 59 = .ok (.invokevirtual 179, 3) := by decide +kernel
theorem dX12_behindOne_62 : decode cX12_behindOne 62 = .ok (.aload_n 0, 1) := by decide +kernel
theorem dX12_behindOne_63 : decode cX12_behindOne 63 = .ok (.iload_n 1, 1) := by decide +kernel
theorem dX12_behindOne_64 : decode cX12_behindOne 64 = .ok (.bipush 42, 2) := by decide +kernel
theorem dX12_behindOne_66 : decode cX12_behindOne 66 = .ok (.if_icmp .ne 7, 3) := by decide +kernel
theorem dX12_behindOne_69 : decode cX12_behindOne 69 = .ok (.iconst 5, 1) := by decide +kernel
theorem dX12_behindOne_70 : decode cX12_behindOne 70 = .ok (.goto 5, 3) := by decide +kernel
theorem dX12_behindOne_73 : decode cX12_behindOne 73 = .ok (.bipush 6, 2) := by decide +kernel
theorem dX12_behindOne_75 : decode cX12_behindOne 75 = .ok (.invokevirtual 172, 3) := by decide +kernel
theorem dX12_behindOne_78 : decode cX12_behindOne 78 = .ok (.aload_n 0, 1) := by decide +kernel
theorem dX12_behindOne_79 : decode cX12_behindOne 79 = .ok (.iconst 0, 1) := by decide +kernel
theorem dX12_behindOne_80 : decode cX12_behindOne 80 = .ok (.putfield 138, 3) := by decide +kernel
theorem dX12_behindOne_83 : decode cX12_behindOne 83 = .ok (.goto 32, 3) := by decide +kernel
theorem dX12_behindOne_86 : decode cX12_behindOne 86 = .ok (.aload_n 0, 1) := by decide +kernel
theorem dX12_behindOne_87 : decode cX12_behindOne 87 = .ok (.iconst 3, 1) := by decide +kernel
theorem dX12_behindOne_88 : decode cX12_behindOne 88 = .ok (.invokevirtual 179, 3) := by decide +kernel
theorem dX12_behindOne_91 : decode cX12_behindOne 91 = .ok (.aload_n 0, 1) := by decide +kernel
theorem dX12_behindOne_92 : decode cX12_behindOne 92 = .ok (.dup, 1) := by decide +kernel
theorem dX12_behindOne_93 : decode cX12_behindOne 93 = .ok (.getfield 135, 3) := by decide +kernel
theorem dX12_behindOne_96 : decode cX12_behindOne 96 = .ok (.iconst 1, 1) := by decide +kernel
theorem dX12_behindOne_97 : decode cX12_behindOne 97 = .ok (.isub, 1) := by decide +kernel
theorem dX12_behindOne_98 : decode cX12_behindOne 98 = .ok (.putfield 135, 3) := by decide +kernel
theorem dX12_behindOne_101 : decode cX12_behindOne 101 = .ok (.aload_n 0, 1) := by decide +kernel
theorem dX12_behindOne_102 : decode cX12_behindOne 102 = .ok (.dup, 1) := by decide +kernel
theorem dX12_behindOne_103 : decode cX12_behindOne 103 = .ok (.getfield 142, 3) := by decide +kernel
theorem dX12_behindOne_106 : decode cX12_behindOne 106 = .ok (.iconst 1, 1) := by decide +kernel
theorem dX12_behindOne_107 : decode cX12_behindOne 107 = .ok (.isub, 1) := by decide +kernel
theorem dX12_behindOne_108 : decode cX12_behindOne 108 = .ok (.putfield 142, 3) := by decide +kernel
theorem dX12_behindOne_111 : decode cX12_behindOne 111 = .ok (.aload_n 0, 1) := by decide +kernel
theorem dX12_behindOne_112 : decode cX12_behindOne 112 = .ok (.invokevirtual 163, 3) := by decide +kernel
theorem dX12_behindOne_115 : decode cX12_behindOne 115 = .ok (.aload_n 0, 1) := by decide +kernel
theorem dX12_behindOne_116 : decode cX12_behindOne 116 = .ok (.invokevirtual 160, 3) := by decide +kernel
theorem dX12_behindOne_119 : decode cX12_behindOne 119 = .ok (.iconst 0, 1) := by decide +kernel
theorem dX12_behindOne_120 : decode cX12_behindOne 120 = .ok (.ireturn, 1) := by decide +kernel
theorem dX12_summed_0 : decode cX12_summed 0 = .ok (.aload_n 0, 1) := by decide +kernel
theorem dX12_summed_1 : decode cX12_summed 1 = .ok (.iconst 0, 1) := by decide +kernel
theorem dX12_summed_2 : decode cX12_summed 2 = .ok (.putfield 135, 3) := by decide +kernel
theorem dX12_summed_5 : decode cX12_summed 5 = .ok (.aload_n 0, 1) := by decide +kernel
theorem dX12_summed_6 : decode cX12_summed 6 = .ok (.iconst 0, 1) := by decide +kernel
theorem dX12_summed_7 : decode cX12_summed 7 = .ok (.putfield 138, 3) := by decide +kernel
theorem dX12_summed_10 : decode cX12_summed 10 = .ok (.aload_n 0, 1) := by decide +kernel
theorem dX12_summed_11 : decode cX12_summed 11 = .ok (.getfield 138, 3) := by decide +kernel
theorem dX12_summed_14 : decode cX12_summed 14 = .ok (.ifCond .eq 10, 3) := by decide +kernel
theorem dX12_summed_17 : decode cX12_summed 17 = .ok (.aload_n 0, 1) := by decide +kernel
theorem dX12_summed_18 : decode cX12_summed 18 = .ok (.invokevirtual 182, 3) := by decide +kernel
theorem dX12_summed_21 : decode cX12_summed 21 = .ok (.ifCond .eq 31, 3) := by decide +kernel
theorem dX12_summed_24 : decode cX12_summed 24 = .ok (.aload_n 0, 1) := by decide +kernel
theorem dX12_summed_25 : decode cX12_summed 25 = .ok (.getfield 138, 3) := by decide +kernel
theorem dX12_summed_28 : decode cX12_summed 28 = .ok (.ifCond .eq 10, 3) := by decide +kernel
theorem dX12_summed_31 : decode cX12_summed 31 = .ok (.aload_n 0, 1) := by decide +kernel
theorem dX12_summed_32 : decode cX12_summed 32 = .ok (.invokevirtual 185, 3) := by decide +kernel
theorem dX12_summed_35 : decode cX12_summed 35 = .ok (.goto 7, 3) := by decide +kernel
theorem dX12_summed_38 : decode cX12_summed 38 = .ok (.aload_n 0, 1) := by decide +kernel
theorem dX12_summed_39 : decode cX12_summed 39 = .ok (.invokevirtual 188, 3) := by decide +kernel
theorem dX12_summed_42 : decode cX12_summed 42 = .ok (.istore_n 1, 1) := by decide +kernel
theorem dX12_summed_43 : decode cX12_summed 43 = .ok (.iload_n 1, 1) := by decide +kernel
theorem dX12_summed_44 : decode cX12_summed 44 = .ok (.ifCond .eq 5, 3) := by decide +kernel
theorem dX12_summed_47 : decode cX12_summed 47 = .ok (.iload_n 1, 1) := by decide +kernel
theorem dX12_summed_48 : decode cX12_summed 48 = .ok (.ireturn, 1) := by decide +kernel
theorem dX12_summed_49 : decode cX12_summed 49 = .ok (.goto (-39), 3) := by decide +kernel
theorem dX12_summed_52 : decode cX12_summed 52 = .ok (.aload_n 0, 1) := by decide +kernel
theorem dX12_summed_53 : decode cX12_summed 53 = .ok (.iconst 3, 1) := by decide +kernel
theorem dX12_summed_54 : decode cX12_summed 54 = .ok (.invokevirtual 179, 3) := by decide +kernel
theorem dX12_summed_57 : decode cX12_summed 57 = .ok (.aload_n 0, 1) := by decide +kernel
theorem dX12_summed_58 : decode cX12_summed 58 = .ok (.getfield 135, 3) := by decide +kernel
theorem dX12_summed_61 : decode cX12_summed 61 = .ok (.ifCond .le 7, 3) := by decide +kernel
theorem dX12_summed_64 : decode cX12_summed 64 = .ok (.iconst 1, 1) := by decide +kernel
theorem dX12_summed_65 : decode cX12_summed 65 = .ok (.goto 4, 3) := by decide +kernel
theorem dX12_summed_68 : decode cX12_summed 68 = .ok (.iconst 0, 1) := by decide +kernel
theorem dX12_summed_69 : decode cX12_summed 69 = .ok (.ireturn, 1) := by decide +kernel
theorem dX12_compareOf_0 : decode cX12_compareOf 0 = .ok (.aload_n 0, 1) := by decide +kernel
theorem dX12_compareOf_1 : decode cX12_compareOf 1 = .ok (.getfield 104, 3) := by decide +kernel
theorem dX12_compareOf_4 : decode cX12_compareOf 4 = .ok (.bipush 60, 2) := by decide +kernel
theorem dX12_compareOf_6 : decode cX12_compareOf 6 = .ok (.if_icmp .ne 8, 3) := by decide +kernel
theorem dX12_compareOf_9 : decode cX12_compareOf 9 = .ok (.bipush 10, 2) := by decide +kernel
theorem dX12_compareOf_11 : decode cX12_compareOf 11 = .ok (.goto 72, 3) := by decide +kernel
theorem dX12_compareOf_14 : decode cX12_compareOf 14 = .ok (.aload_n 0, 1) := by decide +kernel
theorem dX12_compareOf_15 : decode cX12_compareOf 15 = .ok (.getfield 104, 3) := by decide +kernel
theorem dX12_compareOf_18 : decode cX12_compareOf 18 = .ok (.iconst 4, 1) := by decide +kernel
theorem dX12_compareOf_19 : decode cX12_compareOf 19 = .ok (.if_icmp .ne 8, 3) := by decide +kernel
theorem dX12_compareOf_22 : decode cX12_compareOf 22 = .ok (.bipush 11, 2) := by decide +kernel
theorem dX12_compareOf_24 : decode cX12_compareOf 24 = .ok (.goto 59, 3) := by decide +kernel
theorem dX12_compareOf_27 : decode cX12_compareOf 27 = .ok (.aload_n 0, 1) := by decide +kernel
theorem dX12_compareOf_28 : decode cX12_compareOf 28 = .ok (.getfield 104, 3) := by decide +kernel
theorem dX12_compareOf_31 : decode cX12_compareOf 31 = .ok (.bipush 62, 2) := by decide +kernel
theorem dX12_compareOf_33 : decode cX12_compareOf 33 = .ok (.if_icmp .ne 8, 3) := by decide +kernel
theorem dX12_compareOf_36 : decode cX12_compareOf 36 = .ok (.bipush 12, 2) := by decide +kernel
theorem dX12_compareOf_38 : decode cX12_compareOf 38 = .ok (.goto 45, 3) := by decide +kernel
theorem dX12_compareOf_41 : decode cX12_compareOf 41 = .ok (.aload_n 0, 1) := by decide +kernel
theorem dX12_compareOf_42 : decode cX12_compareOf 42 = .ok (.getfield 104, 3) := by decide +kernel
theorem dX12_compareOf_45 : decode cX12_compareOf 45 = .ok (.iconst 5, 1) := by decide +kernel
theorem dX12_compareOf_46 : decode cX12_compareOf 46 = .ok (.if_icmp .ne 8, 3) := by decide +kernel
theorem dX12_compareOf_49 : decode cX12_compareOf 49 = .ok (.bipush 13, 2) := by decide +kernel
theorem dX12_compareOf_51 : decode cX12_compareOf 51 = .ok (.goto 32, 3) := by decide +kernel
theorem dX12_compareOf_54 : decode cX12_compareOf 54 = .ok (.aload_n 0, 1) := by decide +kernel
theorem dX12_compareOf_55 : decode cX12_compareOf 55 = .ok (.getfield 104, 3) := by decide +kernel
theorem dX12_compareOf_58 : decode cX12_compareOf 58 = .ok (.bipush 61, 2) := by decide +kernel
theorem dX12_compareOf_60 : decode cX12_compareOf 60 = .ok (.if_icmp .ne 8, 3) := by decide +kernel
theorem dX12_compareOf_63 : decode cX12_compareOf 63 = .ok (.bipush 14, 2) := by decide +kernel
theorem dX12_compareOf_65 : decode cX12_compareOf 65 = .ok (.goto 18, 3) := by decide +kernel
theorem dX12_compareOf_68 : decode cX12_compareOf 68 = .ok (.aload_n 0, 1) := by decide +kernel
theorem dX12_compareOf_69 : decode cX12_compareOf 69 = .ok (.getfield 104, 3) := by decide +kernel
theorem dX12_compareOf_72 : decode cX12_compareOf 72 = .ok (.bipush 35, 2) := by decide +kernel
theorem dX12_compareOf_74 : decode cX12_compareOf 74 = .ok (.if_icmp .ne 8, 3) := by decide +kernel
theorem dX12_compareOf_77 : decode cX12_compareOf 77 = .ok (.bipush 15, 2) := by decide +kernel
theorem dX12_compareOf_79 : decode cX12_compareOf 79 = .ok (.goto 4, 3) := by decide +kernel
theorem dX12_compareOf_82 : decode cX12_compareOf 82 = .ok (.iconst (-1), 1) := by decide +kernel
theorem dX12_compareOf_83 : decode cX12_compareOf 83 = .ok (.ireturn, 1) := by decide +kernel
theorem dX12_asks_0 : decode cX12_asks 0 = .ok (.iconst 0, 1) := by decide +kernel
theorem dX12_asks_1 : decode cX12_asks 1 = .ok (.istore_n 1, 1) := by decide +kernel
theorem dX12_asks_2 : decode cX12_asks 2 = .ok (.aload_n 0, 1) := by decide +kernel
theorem dX12_asks_3 : decode cX12_asks 3 = .ok (.bipush 110, 2) := by decide +kernel
theorem dX12_asks_5 : decode cX12_asks 5 = .ok (.bipush 111, 2) := by decide +kernel
theorem dX12_asks_7 : decode cX12_asks 7 = .ok (.bipush 116, 2) := by decide +kernel
theorem dX12_asks_9 : decode cX12_asks 9 = .ok (.invokestatic 121, 3) := by decide +kernel
theorem dX12_asks_12 : decode cX12_asks 12 = .ok (.invokevirtual 191, 3) := by decide +kernel
theorem dX12_asks_15 : decode cX12_asks 15 = .ok (.ifCond .eq 34, 3) := by decide +kernel
theorem dX12_asks_18 : decode cX12_asks 18 = .ok (.aload_n 0, 1) := by decide +kernel
theorem dX12_asks_19 : decode cX12_asks 19 = .ok (.getfield 142, 3) := by decide +kernel
theorem dX12_asks_22 : decode cX12_asks 22 = .ok (.bipush 8, 2) := by decide +kernel
theorem dX12_asks_24 : decode cX12_asks 24 = .ok (.if_icmp .ne 5, 3) := by decide +kernel
theorem dX12_asks_27 : decode cX12_asks 27 = .ok (.iconst 3, 1) := by decide +kernel
theorem dX12_asks_28 : decode cX12_asks 28 = .ok (.ireturn, 1) := by decide +kernel
theorem dX12_asks_29 : decode cX12_asks 29 = .ok (.aload_n 0, 1) := by decide +kernel
theorem dX12_asks_30 : decode cX12_asks 30 = .ok (.dup, 1) := by decide +kernel
theorem dX12_asks_31 : decode cX12_asks 31 = .ok (.getfield 142, 3) := by decide +kernel
theorem dX12_asks_34 : decode cX12_asks 34 = .ok (.iconst 1, 1) := by decide +kernel
theorem dX12_asks_35 : decode cX12_asks 35 = .ok (.iadd, 1) := by decide +kernel
theorem dX12_asks_36 : decode cX12_asks 36 = .ok (.putfield 142, 3) := by decide +kernel
theorem dX12_asks_39 : decode cX12_asks 39 = .ok (.iinc 1 1, 3) := by decide +kernel
theorem dX12_asks_42 : decode cX12_asks 42 = .ok (.aload_n 0, 1) := by decide +kernel
theorem dX12_asks_43 : decode cX12_asks 43 = .ok (.invokevirtual 160, 3) := by decide +kernel
theorem dX12_asks_46 : decode cX12_asks 46 = .ok (.goto (-44), 3) := by decide +kernel
theorem dX12_asks_49 : decode cX12_asks 49 = .ok (.aload_n 0, 1) := by decide +kernel
theorem dX12_asks_50 : decode cX12_asks 50 = .ok (.invokevirtual 195, 3) := by decide +kernel
theorem dX12_asks_53 : decode cX12_asks 53 = .ok (.istore_n 2, 1) := by decide +kernel
theorem dX12_asks_54 : decode cX12_asks 54 = .ok (.iload_n 2, 1) := by decide +kernel
theorem dX12_asks_55 : decode cX12_asks 55 = .ok (.ifCond .eq 5, 3) := by decide +kernel
theorem dX12_asks_58 : decode cX12_asks 58 = .ok (.iload_n 2, 1) := by decide +kernel
theorem dX12_asks_59 : decode cX12_asks 59 = .ok (.ireturn, 1) := by decide +kernel
theorem dX12_asks_60 : decode cX12_asks 60 = .ok (.aload_n 0, 1) := by decide +kernel
theorem dX12_asks_61 : decode cX12_asks 61 = .ok (.invokevirtual 198, 3) := by decide +kernel
theorem dX12_asks_64 : decode cX12_asks 64 = .ok (.istore_n 3, 1) := by decide +kernel
theorem dX12_asks_65 : decode cX12_asks 65 = .ok (.iload_n 3, 1) := by decide +kernel
theorem dX12_asks_66 : decode cX12_asks 66 = .ok (.ifCond .ge 5, 3) := by decide +kernel
theorem dX12_asks_69 : decode cX12_asks 69 = .ok (.iconst 1, 1) := by decide +kernel
theorem dX12_asks_70 : decode cX12_asks 70 = .ok (.ireturn, 1) := by decide +kernel
theorem dX12_asks_71 : decode cX12_asks 71 = .ok (.aload_n 0, 1) := by decide +kernel
theorem dX12_asks_72 : decode cX12_asks 72 = .ok (.invokevirtual 160, 3) := by decide +kernel
theorem dX12_asks_75 : decode cX12_asks 75 = .ok (.aload_n 0, 1) := by decide +kernel
theorem dX12_asks_76 : decode cX12_asks 76 = .ok (.invokevirtual 195, 3) := by decide +kernel
theorem dX12_asks_79 : decode cX12_asks 79 = .ok (.istore_n 2, 1) := by decide +kernel
theorem dX12_asks_80 : decode cX12_asks 80 = .ok (.iload_n 2, 1) := by decide +kernel
theorem dX12_asks_81 : decode cX12_asks 81 = .ok (.ifCond .eq 5, 3) := by decide +kernel
theorem dX12_asks_84 : decode cX12_asks 84 = .ok (.iload_n 2, 1) := by decide +kernel
theorem dX12_asks_85 : decode cX12_asks 85 = .ok (.ireturn, 1) := by decide +kernel
theorem dX12_asks_86 : decode cX12_asks 86 = .ok (.aload_n 0, 1) := by decide +kernel
theorem dX12_asks_87 : decode cX12_asks 87 = .ok (.iload_n 3, 1) := by decide +kernel
theorem dX12_asks_88 : decode cX12_asks 88 = .ok (.iconst 0, 1) := by decide +kernel
theorem dX12_asks_89 : decode cX12_asks 89 = .ok (.invokevirtual 145, 3) := by decide +kernel
theorem dX12_asks_92 : decode cX12_asks 92 = .ok (.aload_n 0, 1) := by decide +kernel
theorem dX12_asks_93 : decode cX12_asks 93 = .ok (.dup, 1) := by decide +kernel
theorem dX12_asks_94 : decode cX12_asks 94 = .ok (.getfield 142, 3) := by decide +kernel
theorem dX12_asks_97 : decode cX12_asks 97 = .ok (.iload_n 1, 1) := by decide +kernel
theorem dX12_asks_98 : decode cX12_asks 98 = .ok (.isub, 1) := by decide +kernel
theorem dX12_asks_99 : decode cX12_asks 99 = .ok (.putfield 142, 3) := by decide +kernel
theorem dX12_asks_102 : decode cX12_asks 102 = .ok (.iconst 0, 1) := by decide +kernel
theorem dX12_asks_103 : decode cX12_asks 103 = .ok (.istore 4, 2) := by decide +kernel
theorem dX12_asks_105 : decode cX12_asks 105 = .ok (.iload 4, 2) := by decide +kernel
theorem dX12_asks_107 : decode cX12_asks 107 = .ok (.iload_n 1, 1) := by decide +kernel
theorem dX12_asks_108 : decode cX12_asks 108 = .ok (.if_icmp .ge 16, 3) := by decide +kernel
theorem dX12_asks_111 : decode cX12_asks 111 = .ok (.aload_n 0, 1) := by decide +kernel
theorem dX12_asks_112 : decode cX12_asks 112 = .ok (.bipush 20, 2) := by decide +kernel
theorem dX12_asks_114 : decode cX12_asks 114 = .ok (.iconst 0, 1) := by decide +kernel
theorem dX12_asks_115 : decode cX12_asks 115 = .ok (.invokevirtual 145, 3) := by decide +kernel
theorem dX12_asks_118 : decode cX12_asks 118 = .ok (.iinc 4 1, 3) := by decide +kernel
theorem dX12_asks_121 : decode cX12_asks 121 = .ok (.goto (-16), 3) := by decide +kernel
theorem dX12_asks_124 : decode cX12_asks 124 = .ok (.iconst 0, 1) := by decide +kernel
theorem dX12_asks_125 : decode cX12_asks 125 = .ok (.ireturn, 1) := by decide +kernel
theorem dX12_either_0 : decode cX12_either 0 = .ok (.iconst 0, 1) := by decide +kernel
theorem dX12_either_1 : decode cX12_either 1 = .ok (.istore_n 1, 1) := by decide +kernel
theorem dX12_either_2 : decode cX12_either 2 = .ok (.iconst 0, 1) := by decide +kernel
theorem dX12_either_3 : decode cX12_either 3 = .ok (.istore_n 2, 1) := by decide +kernel
theorem dX12_either_4 : decode cX12_either 4 = .ok (.iconst 1, 1) := by decide +kernel
theorem dX12_either_5 : decode cX12_either 5 = .ok (.istore_n 3, 1) := by decide +kernel
theorem dX12_either_6 : decode cX12_either 6 = .ok (.iload_n 3, 1) := by decide +kernel
theorem dX12_either_7 : decode cX12_either 7 = .ok (.ifCond .eq 112, 3) := by decide +kernel
theorem dX12_either_10 : decode cX12_either 10 = .ok (.aload_n 0, 1) := by decide +kernel
theorem dX12_either_11 : decode cX12_either 11 = .ok (.invokevirtual 201, 3) := by decide +kernel
theorem dX12_either_14 : decode cX12_either 14 = .ok (.istore 4, 2) := by decide +kernel
theorem dX12_either_16 : decode cX12_either 16 = .ok (.iload 4, 2) := by decide +kernel
theorem dX12_either_18 : decode cX12_either 18 = .ok (.ifCond .eq 6, 3) := by decide +kernel
theorem dX12_either_21 : decode cX12_either 21 = .ok (.iload 4, 2) := by decide +kernel
theorem dX12_either_23 : decode cX12_either 23 = .ok (.ireturn, 1) := by decide +kernel
theorem dX12_either_24 : decode cX12_either 24 = .ok (.iload_n 1, 1) := by decide +kernel
theorem dX12_either_25 : decode cX12_either 25 = .ok (.ifCond .eq 10, 3) := by decide +kernel
theorem dX12_either_28 : decode cX12_either 28 = .ok (.aload_n 0, 1) := by decide +kernel
theorem dX12_either_29 : decode cX12_either 29 = .ok (.bipush 21, 2) := by decide +kernel
theorem dX12_either_31 : decode cX12_either 31 = .ok (.iconst 0, 1) := by decide +kernel
theorem dX12_either_32 : decode cX12_either 32 = .ok (.invokevirtual 145, 3) := by decide +kernel
theorem dX12_either_35 : decode cX12_either 35 = .ok (.aload_n 0, 1) := by decide +kernel
theorem dX12_either_36 : decode cX12_either 36 = .ok (.bipush 97, 2) := by decide +kernel
theorem dX12_either_38 : decode cX12_either 38 = .ok (.bipush 110, 2) := by decide +kernel
theorem dX12_either_40 : decode cX12_either 40 = .ok (.bipush 100, 2) := by decide +kernel
theorem dX12_either_42 : decode cX12_either 42 = .ok (.invokestatic 121, 3) := by decide +kernel
theorem dX12_either_45 : decode cX12_either 45 = .ok (.invokevirtual 191, 3) := by decide +kernel
theorem dX12_either_48 : decode cX12_either 48 = .ok (.istore_n 1, 1) := by decide +kernel
theorem dX12_either_49 : decode cX12_either 49 = .ok (.aload_n 0, 1) := by decide +kernel
theorem dX12_either_50 : decode cX12_either 50 = .ok (.getfield 104, 3) := by decide +kernel
theorem dX12_either_53 : decode cX12_either 53 = .ok (.iconst 2, 1) := by decide +kernel
theorem dX12_either_54 : decode cX12_either 54 = .ok (.if_icmp .ne 18, 3) := by decide +kernel
theorem dX12_either_57 : decode cX12_either 57 = .ok (.aload_n 0, 1) := by decide +kernel
theorem dX12_either_58 : decode cX12_either 58 = .ok (.getfield 117, 3) := by decide +kernel
theorem dX12_either_61 : decode cX12_either 61 = .ok (.ldc2_w 204, 3) := by decide +kernel
theorem dX12_either_64 : decode cX12_either 64 = .ok (.lcmp, 1) := by decide +kernel
theorem dX12_either_65 : decode cX12_either 65 = .ok (.ifCond .ne 7, 3) := by decide +kernel
theorem dX12_either_68 : decode cX12_either 68 = .ok (.iconst 1, 1) := by decide +kernel
theorem dX12_either_69 : decode cX12_either 69 = .ok (.goto 4, 3) := by decide +kernel
theorem dX12_either_72 : decode cX12_either 72 = .ok (.iconst 0, 1) := by decide +kernel
theorem dX12_either_73 : decode cX12_either 73 = .ok (.istore 5, 2) := by decide +kernel
theorem dX12_either_75 : decode cX12_either 75 = .ok (.iload_n 1, 1) := by decide +kernel
theorem dX12_either_76 : decode cX12_either 76 = .ok (.ifCond .ne 17, 3) := by decide +kernel
theorem dX12_either_79 : decode cX12_either 79 = .ok (.iload_n 2, 1) := by decide +kernel
theorem dX12_either_80 : decode cX12_either 80 = .ok (.ifCond .eq 10, 3) := by decide +kernel
theorem dX12_either_83 : decode cX12_either 83 = .ok (.aload_n 0, 1) := by decide +kernel
theorem dX12_either_84 : decode cX12_either 84 = .ok (.bipush 22, 2) := by decide +kernel
theorem dX12_either_86 : decode cX12_either 86 = .ok (.iconst 0, 1) := by decide +kernel
theorem dX12_either_87 : decode cX12_either 87 = .ok (.invokevirtual 145, 3) := by decide +kernel
theorem dX12_either_90 : decode cX12_either 90 = .ok (.iload 5, 2) := by decide +kernel
theorem dX12_either_92 : decode cX12_either 92 = .ok (.istore_n 2, 1) := by decide +kernel
theorem dX12_either_93 : decode cX12_either 93 = .ok (.iload_n 1, 1) := by decide +kernel
theorem dX12_either_94 : decode cX12_either 94 = .ok (.ifCond .ne 8, 3) := by decide +kernel
theorem dX12_either_97 : decode cX12_either 97 = .ok (.iload 5, 2) := by decide +kernel
theorem dX12_either_99 : decode cX12_either 99 = .ok (.ifCond .eq 7, 3) := by decide +kernel
theorem dX12_either_102 : decode cX12_either 102 = .ok (.iconst 1, 1) := by decide +kernel
theorem dX12_either_103 : decode cX12_either 103 = .ok (.goto 4, 3) := by decide +kernel
theorem dX12_either_106 : decode cX12_either 106 = .ok (.iconst 0, 1) := by decide +kernel
theorem dX12_either_107 : decode cX12_either 107 = .ok (.istore_n 3, 1) := by decide +kernel
theorem dX12_either_108 : decode cX12_either 108 = .ok (.iload_n 3, 1) := by decide +kernel
theorem dX12_either_109 : decode cX12_either 109 = .ok (.ifCond .eq 7, 3) := by decide +kernel
theorem dX12_either_112 : decode cX12_either 112 = .ok (.aload_n 0, 1) := by decide +kernel
theorem dX12_either_113 : decode cX12_either 113 = .ok (.invokevirtual 160, 3) := by decide +kernel
theorem dX12_either_116 : decode cX12_either 116 = .ok (.goto (-110), 3) := by decide +kernel
theorem dX12_either_119 : decode cX12_either 119 = .ok (.iconst 0, 1) := by decide +kernel
theorem dX12_either_120 : decode cX12_either 120 = .ok (.ireturn, 1) := by decide +kernel
theorem dX12_sortOf_0 : decode cX12_sortOf 0 = .ok (.aload_n 0, 1) := by decide +kernel
theorem dX12_sortOf_1 : decode cX12_sortOf 1 = .ok (.bipush 108, 2) := by decide +kernel
theorem dX12_sortOf_3 : decode cX12_sortOf 3 = .ok (.bipush 105, 2) := by decide +kernel
theorem dX12_sortOf_5 : decode cX12_sortOf 5 = .ok (.bipush 102, 2) := by decide +kernel
theorem dX12_sortOf_7 : decode cX12_sortOf 7 = .ok (.bipush 116, 2) := by decide +kernel
theorem dX12_sortOf_9 : decode cX12_sortOf 9 = .ok (.invokestatic 153, 3) := by decide +kernel
theorem dX12_sortOf_12 : decode cX12_sortOf 12 = .ok (.invokevirtual 191, 3) := by decide +kernel
theorem dX12_sortOf_15 : decode cX12_sortOf 15 = .ok (.ifCond .eq 5, 3) := by decide +kernel
theorem dX12_sortOf_18 : decode cX12_sortOf 18 = .ok (.iconst 0, 1) := by decide +kernel
theorem dX12_sortOf_19 : decode cX12_sortOf 19 = .ok (.ireturn, 1) := by decide +kernel
theorem dX12_sortOf_20 : decode cX12_sortOf 20 = .ok (.aload_n 0, 1) := by decide +kernel
theorem dX12_sortOf_21 : decode cX12_sortOf 21 = .ok (.bipush 109, 2) := by decide +kernel
theorem dX12_sortOf_23 : decode cX12_sortOf 23 = .ok (.bipush 97, 2) := by decide +kernel
theorem dX12_sortOf_25 : decode cX12_sortOf 25 = .ok (.bipush 121, 2) := by decide +kernel
theorem dX12_sortOf_27 : decode cX12_sortOf 27 = .ok (.invokestatic 121, 3) := by decide +kernel
theorem dX12_sortOf_30 : decode cX12_sortOf 30 = .ok (.invokevirtual 191, 3) := by decide +kernel
theorem dX12_sortOf_33 : decode cX12_sortOf 33 = .ok (.ifCond .eq 5, 3) := by decide +kernel
theorem dX12_sortOf_36 : decode cX12_sortOf 36 = .ok (.iconst 1, 1) := by decide +kernel
theorem dX12_sortOf_37 : decode cX12_sortOf 37 = .ok (.ireturn, 1) := by decide +kernel
theorem dX12_sortOf_38 : decode cX12_sortOf 38 = .ok (.aload_n 0, 1) := by decide +kernel
theorem dX12_sortOf_39 : decode cX12_sortOf 39 = .ok (.bipush 102, 2) := by decide +kernel
theorem dX12_sortOf_41 : decode cX12_sortOf 41 = .ok (.bipush 105, 2) := by decide +kernel
theorem dX12_sortOf_43 : decode cX12_sortOf 43 = .ok (.bipush 116, 2) := by decide +kernel
theorem dX12_sortOf_45 : decode cX12_sortOf 45 = .ok (.bipush 115, 2) := by decide +kernel
theorem dX12_sortOf_47 : decode cX12_sortOf 47 = .ok (.invokestatic 153, 3) := by decide +kernel
theorem dX12_sortOf_50 : decode cX12_sortOf 50 = .ok (.invokevirtual 191, 3) := by decide +kernel
theorem dX12_sortOf_53 : decode cX12_sortOf 53 = .ok (.ifCond .eq 5, 3) := by decide +kernel
theorem dX12_sortOf_56 : decode cX12_sortOf 56 = .ok (.iconst 2, 1) := by decide +kernel
theorem dX12_sortOf_57 : decode cX12_sortOf 57 = .ok (.ireturn, 1) := by decide +kernel
theorem dX12_sortOf_58 : decode cX12_sortOf 58 = .ok (.aload_n 0, 1) := by decide +kernel
theorem dX12_sortOf_59 : decode cX12_sortOf 59 = .ok (.bipush 108, 2) := by decide +kernel
theorem dX12_sortOf_61 : decode cX12_sortOf 61 = .ok (.bipush 97, 2) := by decide +kernel
theorem dX12_sortOf_63 : decode cX12_sortOf 63 = .ok (.bipush 121, 2) := by decide +kernel
theorem dX12_sortOf_65 : decode cX12_sortOf 65 = .ok (.invokestatic 121, 3) := by decide +kernel
theorem dX12_sortOf_68 : decode cX12_sortOf 68 = .ok (.invokevirtual 191, 3) := by decide +kernel
theorem dX12_sortOf_71 : decode cX12_sortOf 71 = .ok (.ifCond .eq 5, 3) := by decide +kernel
theorem dX12_sortOf_74 : decode cX12_sortOf 74 = .ok (.iconst 3, 1) := by decide +kernel
theorem dX12_sortOf_75 : decode cX12_sortOf 75 = .ok (.ireturn, 1) := by decide +kernel
theorem dX12_sortOf_76 : decode cX12_sortOf 76 = .ok (.aload_n 0, 1) := by decide +kernel
theorem dX12_sortOf_77 : decode cX12_sortOf 77 = .ok (.bipush 111, 2) := by decide +kernel
theorem dX12_sortOf_79 : decode cX12_sortOf 79 = .ok (.bipush 117, 2) := by decide +kernel
theorem dX12_sortOf_81 : decode cX12_sortOf 81 = .ok (.bipush 116, 2) := by decide +kernel
theorem dX12_sortOf_83 : decode cX12_sortOf 83 = .ok (.invokestatic 121, 3) := by decide +kernel
theorem dX12_sortOf_86 : decode cX12_sortOf 86 = .ok (.invokevirtual 191, 3) := by decide +kernel
theorem dX12_sortOf_89 : decode cX12_sortOf 89 = .ok (.ifCond .eq 7, 3) := by decide +kernel
theorem dX12_sortOf_92 : decode cX12_sortOf 92 = .ok (.iconst 4, 1) := by decide +kernel
theorem dX12_sortOf_93 : decode cX12_sortOf 93 = .ok (.goto 26, 3) := by decide +kernel
theorem dX12_sortOf_96 : decode cX12_sortOf 96 = .ok (.aload_n 0, 1) := by decide +kernel
theorem dX12_sortOf_97 : decode cX12_sortOf 97 = .ok (.bipush 108, 2) := by decide +kernel
theorem dX12_sortOf_99 : decode cX12_sortOf 99 = .ok (.bipush 101, 2) := by decide +kernel
theorem dX12_sortOf_101 : decode cX12_sortOf 101 = .ok (.bipush 110, 2) := by decide +kernel
theorem dX12_sortOf_103 : decode cX12_sortOf 103 = .ok (.bipush 100, 2) := by decide +kernel
theorem dX12_sortOf_105 : decode cX12_sortOf 105 = .ok (.invokestatic 153, 3) := by decide +kernel
theorem dX12_sortOf_108 : decode cX12_sortOf 108 = .ok (.invokevirtual 191, 3) := by decide +kernel
theorem dX12_sortOf_111 : decode cX12_sortOf 111 = .ok (.ifCond .eq 7, 3) := by decide +kernel
theorem dX12_sortOf_114 : decode cX12_sortOf 114 = .ok (.iconst 5, 1) := by decide +kernel
theorem dX12_sortOf_115 : decode cX12_sortOf 115 = .ok (.goto 4, 3) := by decide +kernel
theorem dX12_sortOf_118 : decode cX12_sortOf 118 = .ok (.iconst (-1), 1) := by decide +kernel
theorem dX12_sortOf_119 : decode cX12_sortOf 119 = .ok (.ireturn, 1) := by decide +kernel
theorem dX12_figure_0 : decode cX12_figure 0 = .ok (.aload_n 0, 1) := by decide +kernel
theorem dX12_figure_1 : decode cX12_figure 1 = .ok (.getfield 104, 3) := by decide +kernel
theorem dX12_figure_4 : decode cX12_figure 4 = .ok (.iconst 1, 1) := by decide +kernel
theorem dX12_figure_5 : decode cX12_figure 5 = .ok (.if_icmp .eq 5, 3) := by decide +kernel
theorem dX12_figure_8 : decode cX12_figure 8 = .ok (.iconst 1, 1) := by decide +kernel
theorem dX12_figure_9 : decode cX12_figure 9 = .ok (.ireturn, 1) := by decide +kernel
theorem dX12_figure_10 : decode cX12_figure 10 = .ok (.aload_n 0, 1) := by decide +kernel
theorem dX12_figure_11 : decode cX12_figure 11 = .ok (.getfield 110, 3) := by decide +kernel
theorem dX12_figure_14 : decode cX12_figure 14 = .ok (.iload_n 2, 1) := by decide +kernel
theorem dX12_figure_15 : decode cX12_figure 15 = .ok (.if_icmp .le 5, 3) := by decide +kernel
theorem dX12_figure_18 : decode cX12_figure 18 = .ok (.iconst 2, 1) := by decide +kernel
theorem dX12_figure_19 : decode cX12_figure 19 = .ok (.ireturn, 1) := by decide +kernel
theorem dX12_figure_20 : decode cX12_figure 20 = .ok (.aload_n 0, 1) := by decide +kernel
theorem dX12_figure_21 : decode cX12_figure 21 = .ok (.getfield 16, 3) := by decide +kernel
theorem dX12_figure_24 : decode cX12_figure 24 = .ok (.iload_n 1, 1) := by decide +kernel
theorem dX12_figure_25 : decode cX12_figure 25 = .ok (.aload_n 0, 1) := by decide +kernel
theorem dX12_figure_26 : decode cX12_figure 26 = .ok (.getfield 110, 3) := by decide +kernel
theorem dX12_figure_29 : decode cX12_figure 29 = .ok (.iastore, 1) := by decide +kernel
theorem dX12_figure_30 : decode cX12_figure 30 = .ok (.aload_n 0, 1) := by decide +kernel
theorem dX12_figure_31 : decode cX12_figure 31 = .ok (.invokevirtual 160, 3) := by decide +kernel
theorem dX12_figure_34 : decode cX12_figure 34 = .ok (.iconst 0, 1) := by decide +kernel
theorem dX12_figure_35 : decode cX12_figure 35 = .ok (.ireturn, 1) := by decide +kernel
theorem dX12_lent_0 : decode cX12_lent 0 = .ok (.aload_n 0, 1) := by decide +kernel
theorem dX12_lent_1 : decode cX12_lent 1 = .ok (.iload_n 1, 1) := by decide +kernel
theorem dX12_lent_2 : decode cX12_lent 2 = .ok (.iconst 1, 1) := by decide +kernel
theorem dX12_lent_3 : decode cX12_lent 3 = .ok (.iadd, 1) := by decide +kernel
theorem dX12_lent_4 : decode cX12_lent 4 = .ok (.bipush 9, 2) := by decide +kernel
theorem dX12_lent_6 : decode cX12_lent 6 = .ok (.invokevirtual 206, 3) := by decide +kernel
theorem dX12_lent_9 : decode cX12_lent 9 = .ok (.istore_n 2, 1) := by decide +kernel
theorem dX12_lent_10 : decode cX12_lent 10 = .ok (.iload_n 2, 1) := by decide +kernel
theorem dX12_lent_11 : decode cX12_lent 11 = .ok (.ifCond .eq 5, 3) := by decide +kernel
theorem dX12_lent_14 : decode cX12_lent 14 = .ok (.iload_n 2, 1) := by decide +kernel
theorem dX12_lent_15 : decode cX12_lent 15 = .ok (.ireturn, 1) := by decide +kernel
theorem dX12_lent_16 : decode cX12_lent 16 = .ok (.aload_n 0, 1) := by decide +kernel
theorem dX12_lent_17 : decode cX12_lent 17 = .ok (.getfield 104, 3) := by decide +kernel
theorem dX12_lent_20 : decode cX12_lent 20 = .ok (.iconst 2, 1) := by decide +kernel
theorem dX12_lent_21 : decode cX12_lent 21 = .ok (.if_icmp .ne 14, 3) := by decide +kernel
theorem dX12_lent_24 : decode cX12_lent 24 = .ok (.aload_n 0, 1) := by decide +kernel
theorem dX12_lent_25 : decode cX12_lent 25 = .ok (.getfield 117, 3) := by decide +kernel
theorem dX12_lent_28 : decode cX12_lent 28 = .ok (.ldc2_w 210, 3) := by decide +kernel
theorem dX12_lent_31 : decode cX12_lent 31 = .ok (.lcmp, 1) := by decide +kernel
theorem dX12_lent_32 : decode cX12_lent 32 = .ok (.ifCond .eq 5, 3) := by decide +kernel
theorem dX12_lent_35 : decode cX12_lent 35 = .ok (.iconst 1, 1) := by decide +kernel
theorem dX12_lent_36 : decode cX12_lent 36 = .ok (.ireturn, 1) := by decide +kernel
theorem dX12_lent_37 : decode cX12_lent 37 = .ok (.aload_n 0, 1) := by decide +kernel
theorem dX12_lent_38 : decode cX12_lent 38 = .ok (.invokevirtual 160, 3) := by decide +kernel
theorem dX12_lent_41 : decode cX12_lent 41 = .ok (.aload_n 0, 1) := by decide +kernel
theorem dX12_lent_42 : decode cX12_lent 42 = .ok (.iload_n 1, 1) := by decide +kernel
theorem dX12_lent_43 : decode cX12_lent 43 = .ok (.iconst 2, 1) := by decide +kernel
theorem dX12_lent_44 : decode cX12_lent 44 = .ok (.iadd, 1) := by decide +kernel
theorem dX12_lent_45 : decode cX12_lent 45 = .ok (.bipush 9, 2) := by decide +kernel
theorem dX12_lent_47 : decode cX12_lent 47 = .ok (.invokevirtual 206, 3) := by decide +kernel
theorem dX12_lent_50 : decode cX12_lent 50 = .ok (.ireturn, 1) := by decide +kernel
theorem dX12_clause_0 : decode cX12_clause 0 = .ok (.aload_n 0, 1) := by decide +kernel
theorem dX12_clause_1 : decode cX12_clause 1 = .ok (.invokevirtual 212, 3) := by decide +kernel
theorem dX12_clause_4 : decode cX12_clause 4 = .ok (.istore_n 1, 1) := by decide +kernel
theorem dX12_clause_5 : decode cX12_clause 5 = .ok (.iload_n 1, 1) := by decide +kernel
theorem dX12_clause_6 : decode cX12_clause 6 = .ok (.ifCond .ge 5, 3) := by decide +kernel
theorem dX12_clause_9 : decode cX12_clause 9 = .ok (.iconst 1, 1) := by decide +kernel
theorem dX12_clause_10 : decode cX12_clause 10 = .ok (.ireturn, 1) := by decide +kernel
theorem dX12_clause_11 : decode cX12_clause 11 = .ok (.iload_n 1, 1) := by decide +kernel
theorem dX12_clause_12 : decode cX12_clause 12 = .ok (.iconst 3, 1) := by decide +kernel
theorem dX12_clause_13 : decode cX12_clause 13 = .ok (.if_icmp .ge 17, 3) := by decide +kernel
theorem dX12_clause_16 : decode cX12_clause 16 = .ok (.aload_n 0, 1) := by decide +kernel
theorem dX12_clause_17 : decode cX12_clause 17 = .ok (.getfield 215, 3) := by decide +kernel
theorem dX12_clause_20 : decode cX12_clause 20 = .ok (.iload_n 1, 1) := by decide +kernel
theorem dX12_clause_21 : decode cX12_clause 21 = .ok (.ishr, 1) := by decide +kernel
theorem dX12_clause_22 : decode cX12_clause 22 = .ok (.iconst 1, 1) := by decide +kernel
theorem dX12_clause_23 : decode cX12_clause 23 = .ok (.iand, 1) := by decide +kernel
theorem dX12_clause_24 : decode cX12_clause 24 = .ok (.iconst 1, 1) := by decide +kernel
theorem dX12_clause_25 : decode cX12_clause 25 = .ok (.if_icmp .ne 5, 3) := by decide +kernel
theorem dX12_clause_28 : decode cX12_clause 28 = .ok (.iconst 4, 1) := by decide +kernel
theorem dX12_clause_29 : decode cX12_clause 29 = .ok (.ireturn, 1) := by decide +kernel
theorem dX12_clause_30 : decode cX12_clause 30 = .ok (.aload_n 0, 1) := by decide +kernel
theorem dX12_clause_31 : decode cX12_clause 31 = .ok (.getfield 16, 3) := by decide +kernel
theorem dX12_clause_34 : decode cX12_clause 34 = .ok (.aload_n 0, 1) := by decide +kernel
theorem dX12_clause_35 : decode cX12_clause 35 = .ok (.getfield 129, 3) := by decide +kernel
theorem dX12_clause_38 : decode cX12_clause 38 = .ok (.iaload, 1) := by decide +kernel
theorem dX12_clause_39 : decode cX12_clause 39 = .ok (.istore_n 2, 1) := by decide +kernel
theorem dX12_clause_40 : decode cX12_clause 40 = .ok (.iload_n 2, 1) := by decide +kernel
theorem dX12_clause_41 : decode cX12_clause 41 = .ok (.bipush 24, 2) := by decide +kernel
theorem dX12_clause_43 : decode cX12_clause 43 = .ok (.if_icmp .ne 6, 3) := by decide +kernel
theorem dX12_clause_46 : decode cX12_clause 46 = .ok (.bipush 6, 2) := by decide +kernel
theorem dX12_clause_48 : decode cX12_clause 48 = .ok (.ireturn, 1) := by decide +kernel
theorem dX12_clause_49 : decode cX12_clause 49 = .ok (.iload_n 1, 1) := by decide +kernel
theorem dX12_clause_50 : decode cX12_clause 50 = .ok (.iconst 3, 1) := by decide +kernel
theorem dX12_clause_51 : decode cX12_clause 51 = .ok (.if_icmp .ge 15, 3) := by decide +kernel
theorem dX12_clause_54 : decode cX12_clause 54 = .ok (.aload_n 0, 1) := by decide +kernel
theorem dX12_clause_55 : decode cX12_clause 55 = .ok (.dup, 1) := by decide +kernel
theorem dX12_clause_56 : decode cX12_clause 56 = .ok (.getfield 215, 3) := by decide +kernel
theorem dX12_clause_59 : decode cX12_clause 59 = .ok (.iconst 1, 1) := by decide +kernel
theorem dX12_clause_60 : decode cX12_clause 60 = .ok (.iload_n 1, 1) := by decide +kernel
theorem dX12_clause_61 : decode cX12_clause 61 = .ok (.ishl, 1) := by decide +kernel
theorem dX12_clause_62 : decode cX12_clause 62 = .ok (.ior, 1) := by decide +kernel
theorem dX12_clause_63 : decode cX12_clause 63 = .ok (.putfield 215, 3) := by decide +kernel
theorem dX12_clause_66 : decode cX12_clause 66 = .ok (.aload_n 0, 1) := by decide +kernel
theorem dX12_clause_67 : decode cX12_clause 67 = .ok (.iload_n 1, 1) := by decide +kernel
theorem dX12_clause_68 : decode cX12_clause 68 = .ok (.putfield 157, 3) := by decide +kernel
theorem dX12_clause_71 : decode cX12_clause 71 = .ok (.aload_n 0, 1) := by decide +kernel
theorem dX12_clause_72 : decode cX12_clause 72 = .ok (.invokevirtual 160, 3) := by decide +kernel
theorem dX12_clause_75 : decode cX12_clause 75 = .ok (.aload_n 0, 1) := by decide +kernel
theorem dX12_clause_76 : decode cX12_clause 76 = .ok (.getfield 129, 3) := by decide +kernel
theorem dX12_clause_79 : decode cX12_clause 79 = .ok (.iconst 1, 1) := by decide +kernel
theorem dX12_clause_80 : decode cX12_clause 80 = .ok (.iadd, 1) := by decide +kernel
theorem dX12_clause_81 : decode cX12_clause 81 = .ok (.iconst 3, 1) := by decide +kernel
theorem dX12_clause_82 : decode cX12_clause 82 = .ok (.iload_n 2, 1) := by decide +kernel
theorem dX12_clause_83 : decode cX12_clause 83 = .ok (.imul, 1) := by decide +kernel
theorem dX12_clause_84 : decode cX12_clause 84 = .ok (.iadd, 1) := by decide +kernel
theorem dX12_clause_85 : decode cX12_clause 85 = .ok (.istore_n 3, 1) := by decide +kernel
theorem dX12_clause_86 : decode cX12_clause 86 = .ok (.aload_n 0, 1) := by decide +kernel
theorem dX12_clause_87 : decode cX12_clause 87 = .ok (.getfield 16, 3) := by decide +kernel
theorem dX12_clause_90 : decode cX12_clause 90 = .ok (.iload_n 3, 1) := by decide +kernel
theorem dX12_clause_91 : decode cX12_clause 91 = .ok (.iload_n 1, 1) := by decide +kernel
theorem dX12_clause_92 : decode cX12_clause 92 = .ok (.iastore, 1) := by decide +kernel
theorem dX12_clause_93 : decode cX12_clause 93 = .ok (.aload_n 0, 1) := by decide +kernel
theorem dX12_clause_94 : decode cX12_clause 94 = .ok (.getfield 132, 3) := by decide +kernel
theorem dX12_clause_97 : decode cX12_clause 97 = .ok (.istore 4, 2) := by decide +kernel
theorem dX12_clause_99 : decode cX12_clause 99 = .ok (.iload_n 1, 1) := by decide +kernel
theorem dX12_clause_100 : decode cX12_clause 100 = .ok (.iconst 5, 1) := by decide +kernel
theorem dX12_clause_101 : decode cX12_clause 101 = .ok (.if_icmp .ne 11, 3) := by decide +kernel
theorem dX12_clause_104 : decode cX12_clause 104 = .ok (.aload_n 0, 1) := by decide +kernel
theorem dX12_clause_105 : decode cX12_clause 105 = .ok (.iload_n 3, 1) := by decide +kernel
theorem dX12_clause_106 : decode cX12_clause 106 = .ok (.invokevirtual 218, 3) := by decide +kernel
theorem dX12_clause_109 : decode cX12_clause 109 = .ok (.goto 35, 3) := by decide +kernel
theorem dX12_clause_112 : decode cX12_clause 112 = .ok (.iload_n 1, 1) := by decide +kernel
theorem dX12_clause_113 : decode cX12_clause 113 = .ok (.iconst 3, 1) := by decide +kernel
theorem dX12_clause_114 : decode cX12_clause 114 = .ok (.if_icmp .lt 15, 3) := by decide +kernel
theorem dX12_clause_117 : decode cX12_clause 117 = .ok (.aload_n 0, 1) := by decide +kernel
theorem dX12_clause_118 : decode cX12_clause 118 = .ok (.iload_n 3, 1) := by decide +kernel
theorem dX12_clause_119 : decode cX12_clause 119 = .ok (.iconst 1, 1) := by decide +kernel
theorem dX12_clause_120 : decode cX12_clause 120 = .ok (.iadd, 1) := by decide +kernel
theorem dX12_clause_121 : decode cX12_clause 121 = .ok (.bipush 11, 2) := by decide +kernel
theorem dX12_clause_123 : decode cX12_clause 123 = .ok (.invokevirtual 206, 3) := by decide +kernel
theorem dX12_clause_126 : decode cX12_clause 126 = .ok (.goto 18, 3) := by decide +kernel
theorem dX12_clause_129 : decode cX12_clause 129 = .ok (.iload_n 1, 1) := by decide +kernel
theorem dX12_clause_130 : decode cX12_clause 130 = .ok (.ifCond .ne 10, 3) := by decide +kernel
theorem dX12_clause_133 : decode cX12_clause 133 = .ok (.aload_n 0, 1) := by decide +kernel
theorem dX12_clause_134 : decode cX12_clause 134 = .ok (.invokevirtual 195, 3) := by decide +kernel
theorem dX12_clause_137 : decode cX12_clause 137 = .ok (.goto 7, 3) := by decide +kernel
theorem dX12_clause_140 : decode cX12_clause 140 = .ok (.aload_n 0, 1) := by decide +kernel
theorem dX12_clause_141 : decode cX12_clause 141 = .ok (.invokevirtual 221, 3) := by decide +kernel
theorem dX12_clause_144 : decode cX12_clause 144 = .ok (.istore 5, 2) := by decide +kernel
theorem dX12_clause_146 : decode cX12_clause 146 = .ok (.iload 5, 2) := by decide +kernel
theorem dX12_clause_148 : decode cX12_clause 148 = .ok (.ifCond .eq 6, 3) := by decide +kernel
theorem dX12_clause_151 : decode cX12_clause 151 = .ok (.iload 5, 2) := by decide +kernel
theorem dX12_clause_153 : decode cX12_clause 153 = .ok (.ireturn, 1) := by decide +kernel
theorem dX12_clause_154 : decode cX12_clause 154 = .ok (.iload_n 1, 1) := by decide +kernel
theorem dX12_clause_155 : decode cX12_clause 155 = .ok (.iconst 3, 1) := by decide +kernel
theorem dX12_clause_156 : decode cX12_clause 156 = .ok (.if_icmp .ge 25, 3) := by decide +kernel
theorem dX12_clause_159 : decode cX12_clause 159 = .ok (.aload_n 0, 1) := by decide +kernel
theorem dX12_clause_160 : decode cX12_clause 160 = .ok (.getfield 16, 3) := by decide +kernel
theorem dX12_clause_163 : decode cX12_clause 163 = .ok (.iload_n 3, 1) := by decide +kernel
theorem dX12_clause_164 : decode cX12_clause 164 = .ok (.iconst 1, 1) := by decide +kernel
theorem dX12_clause_165 : decode cX12_clause 165 = .ok (.iadd, 1) := by decide +kernel
theorem dX12_clause_166 : decode cX12_clause 166 = .ok (.iload 4, 2) := by decide +kernel
theorem dX12_clause_168 : decode cX12_clause 168 = .ok (.iastore, 1) := by decide +kernel
theorem dX12_clause_169 : decode cX12_clause 169 = .ok (.aload_n 0, 1) := by decide +kernel
theorem dX12_clause_170 : decode cX12_clause 170 = .ok (.getfield 16, 3) := by decide +kernel
theorem dX12_clause_173 : decode cX12_clause 173 = .ok (.iload_n 3, 1) := by decide +kernel
theorem dX12_clause_174 : decode cX12_clause 174 = .ok (.iconst 2, 1) := by decide +kernel
theorem dX12_clause_175 : decode cX12_clause 175 = .ok (.iadd, 1) := by decide +kernel
theorem dX12_clause_176 : decode cX12_clause 176 = .ok (.aload_n 0, 1) := by decide +kernel
theorem dX12_clause_177 : decode cX12_clause 177 = .ok (.getfield 132, 3) := by decide +kernel
theorem dX12_clause_180 : decode cX12_clause 180 = .ok (.iastore, 1) := by decide +kernel
theorem dX12_clause_181 : decode cX12_clause 181 = .ok (.aload_n 0, 1) := by decide +kernel
theorem dX12_clause_182 : decode cX12_clause 182 = .ok (.getfield 16, 3) := by decide +kernel
theorem dX12_clause_185 : decode cX12_clause 185 = .ok (.aload_n 0, 1) := by decide +kernel
theorem dX12_clause_186 : decode cX12_clause 186 = .ok (.getfield 129, 3) := by decide +kernel
theorem dX12_clause_189 : decode cX12_clause 189 = .ok (.dup2, 1) := by decide +kernel
theorem dX12_clause_190 : decode cX12_clause 190 = .ok (.iaload, 1) := by decide +kernel
theorem dX12_clause_191 : decode cX12_clause 191 = .ok (.iconst 1, 1) := by decide +kernel
theorem dX12_clause_192 : decode cX12_clause 192 = .ok (.iadd, 1) := by decide +kernel
theorem dX12_clause_193 : decode cX12_clause 193 = .ok (.iastore, 1) := by decide +kernel
theorem dX12_clause_194 : decode cX12_clause 194 = .ok (.aload_n 0, 1) := by decide +kernel
theorem dX12_clause_195 : decode cX12_clause 195 = .ok (.getfield 104, 3) := by decide +kernel
theorem dX12_clause_198 : decode cX12_clause 198 = .ok (.bipush 59, 2) := by decide +kernel
theorem dX12_clause_200 : decode cX12_clause 200 = .ok (.if_icmp .eq 5, 3) := by decide +kernel
theorem dX12_clause_203 : decode cX12_clause 203 = .ok (.iconst 1, 1) := by decide +kernel
theorem dX12_clause_204 : decode cX12_clause 204 = .ok (.ireturn, 1) := by decide +kernel
theorem dX12_clause_205 : decode cX12_clause 205 = .ok (.aload_n 0, 1) := by decide +kernel
theorem dX12_clause_206 : decode cX12_clause 206 = .ok (.invokevirtual 160, 3) := by decide +kernel
theorem dX12_clause_209 : decode cX12_clause 209 = .ok (.iconst 0, 1) := by decide +kernel
theorem dX12_clause_210 : decode cX12_clause 210 = .ok (.ireturn, 1) := by decide +kernel
theorem dX12_readText_0 : decode cX12_readText 0 = .ok (.aload_n 0, 1) := by decide +kernel
theorem dX12_readText_1 : decode cX12_readText 1 = .ok (.sipush 680, 3) := by decide +kernel
theorem dX12_readText_4 : decode cX12_readText 4 = .ok (.aload_n 0, 1) := by decide +kernel
theorem dX12_readText_5 : decode cX12_readText 5 = .ok (.getfield 7, 3) := by decide +kernel
theorem dX12_readText_8 : decode cX12_readText 8 = .ok (.iconst 4, 1) := by decide +kernel
theorem dX12_readText_9 : decode cX12_readText 9 = .ok (.iaload, 1) := by decide +kernel
theorem dX12_readText_10 : decode cX12_readText 10 = .ok (.imul, 1) := by decide +kernel
theorem dX12_readText_11 : decode cX12_readText 11 = .ok (.putfield 129, 3) := by decide +kernel
theorem dX12_readText_14 : decode cX12_readText 14 = .ok (.aload_n 0, 1) := by decide +kernel
theorem dX12_readText_15 : decode cX12_readText 15 = .ok (.getfield 16, 3) := by decide +kernel
theorem dX12_readText_18 : decode cX12_readText 18 = .ok (.aload_n 0, 1) := by decide +kernel
theorem dX12_readText_19 : decode cX12_readText 19 = .ok (.getfield 129, 3) := by decide +kernel
theorem dX12_readText_22 : decode cX12_readText 22 = .ok (.iconst 0, 1) := by decide +kernel
theorem dX12_readText_23 : decode cX12_readText 23 = .ok (.iastore, 1) := by decide +kernel
theorem dX12_readText_24 : decode cX12_readText 24 = .ok (.aload_n 0, 1) := by decide +kernel
theorem dX12_readText_25 : decode cX12_readText 25 = .ok (.iconst 0, 1) := by decide +kernel
theorem dX12_readText_26 : decode cX12_readText 26 = .ok (.putfield 132, 3) := by decide +kernel
theorem dX12_readText_29 : decode cX12_readText 29 = .ok (.aload_n 0, 1) := by decide +kernel
theorem dX12_readText_30 : decode cX12_readText 30 = .ok (.iconst 0, 1) := by decide +kernel
theorem dX12_readText_31 : decode cX12_readText 31 = .ok (.putfield 142, 3) := by decide +kernel
theorem dX12_readText_34 : decode cX12_readText 34 = .ok (.aload_n 0, 1) := by decide +kernel
theorem dX12_readText_35 : decode cX12_readText 35 = .ok (.iconst 0, 1) := by decide +kernel
theorem dX12_readText_36 : decode cX12_readText 36 = .ok (.putfield 215, 3) := by decide +kernel
theorem dX12_readText_39 : decode cX12_readText 39 = .ok (.aload_n 0, 1) := by decide +kernel
theorem dX12_readText_40 : decode cX12_readText 40 = .ok (.iconst 0, 1) := by decide +kernel
theorem dX12_readText_41 : decode cX12_readText 41 = .ok (.putfield 95, 3) := by decide +kernel
theorem dX12_readText_44 : decode cX12_readText 44 = .ok (.aload_n 0, 1) := by decide +kernel
theorem dX12_readText_45 : decode cX12_readText 45 = .ok (.invokevirtual 160, 3) := by decide +kernel
theorem dX12_readText_48 : decode cX12_readText 48 = .ok (.aload_n 0, 1) := by decide +kernel
theorem dX12_readText_49 : decode cX12_readText 49 = .ok (.getfield 104, 3) := by decide +kernel
theorem dX12_readText_52 : decode cX12_readText 52 = .ok (.ifCond .eq 17, 3) := by decide +kernel
theorem dX12_readText_55 : decode cX12_readText 55 = .ok (.aload_n 0, 1) := by decide +kernel
theorem dX12_readText_56 : decode cX12_readText 56 = .ok (.invokevirtual 224, 3) := by decide +kernel
theorem dX12_readText_59 : decode cX12_readText 59 = .ok (.istore_n 1, 1) := by decide +kernel
theorem dX12_readText_60 : decode cX12_readText 60 = .ok (.iload_n 1, 1) := by decide +kernel
theorem dX12_readText_61 : decode cX12_readText 61 = .ok (.ifCond .eq 5, 3) := by decide +kernel
theorem dX12_readText_64 : decode cX12_readText 64 = .ok (.iload_n 1, 1) := by decide +kernel
theorem dX12_readText_65 : decode cX12_readText 65 = .ok (.ireturn, 1) := by decide +kernel
theorem dX12_readText_66 : decode cX12_readText 66 = .ok (.goto (-18), 3) := by decide +kernel
theorem dX12_readText_69 : decode cX12_readText 69 = .ok (.iconst 0, 1) := by decide +kernel
theorem dX12_readText_70 : decode cX12_readText 70 = .ok (.ireturn, 1) := by decide +kernel
theorem dX12_text_0 : decode cX12_text 0 = .ok (.aload_n 0, 1) := by decide +kernel
theorem dX12_text_1 : decode cX12_text 1 = .ok (.getfield 7, 3) := by decide +kernel
theorem dX12_text_4 : decode cX12_text 4 = .ok (.iconst 4, 1) := by decide +kernel
theorem dX12_text_5 : decode cX12_text 5 = .ok (.iaload, 1) := by decide +kernel
theorem dX12_text_6 : decode cX12_text 6 = .ok (.iconst 4, 1) := by decide +kernel
theorem dX12_text_7 : decode cX12_text 7 = .ok (.if_icmp .ne 5, 3) := by decide +kernel
theorem dX12_text_10 : decode cX12_text 10 = .ok (.iconst (-1), 1) := by decide +kernel
theorem dX12_text_11 : decode cX12_text 11 = .ok (.ireturn, 1) := by decide +kernel
theorem dX12_text_12 : decode cX12_text 12 = .ok (.aload_n 0, 1) := by decide +kernel
theorem dX12_text_13 : decode cX12_text 13 = .ok (.aload_n 0, 1) := by decide +kernel
theorem dX12_text_14 : decode cX12_text 14 = .ok (.invokevirtual 227, 3) := by decide +kernel
theorem dX12_text_17 : decode cX12_text 17 = .ok (.putfield 22, 3) := by decide +kernel
theorem dX12_text_20 : decode cX12_text 20 = .ok (.aload_n 0, 1) := by decide +kernel
theorem dX12_text_21 : decode cX12_text 21 = .ok (.aload_n 0, 1) := by decide +kernel
theorem dX12_text_22 : decode cX12_text 22 = .ok (.getfield 22, 3) := by decide +kernel
theorem dX12_text_25 : decode cX12_text 25 = .ok (.ifCond .ne 7, 3) := by decide +kernel
theorem dX12_text_28 : decode cX12_text 28 = .ok (.iconst (-1), 1) := by decide +kernel
theorem dX12_text_29 : decode cX12_text 29 = .ok (.goto 7, 3) := by decide +kernel
end
section
theorem dX12_text_32 : decode cX12_text 32 = .ok (.aload_n 0, 1) := by decide +kernel
theorem dX12_text_33 : decode cX12_text 33 = .ok (.getfield 101, 3) := by decide +kernel
theorem dX12_text_36 : decode cX12_text 36 = .ok (.putfield 26, 3) := by decide +kernel
theorem dX12_text_39 : decode cX12_text 39 = .ok (.aload_n 0, 1) := by decide +kernel
theorem dX12_text_40 : decode cX12_text 40 = .ok (.iconst 0, 1) := by decide +kernel
theorem dX12_text_41 : decode cX12_text 41 = .ok (.putfield 88, 3) := by decide +kernel
theorem dX12_text_44 : decode cX12_text 44 = .ok (.aload_n 0, 1) := by decide +kernel
theorem dX12_text_45 : decode cX12_text 45 = .ok (.getfield 22, 3) := by decide +kernel
theorem dX12_text_48 : decode cX12_text 48 = .ok (.ifCond .eq 5, 3) := by decide +kernel
theorem dX12_text_51 : decode cX12_text 51 = .ok (.iconst (-1), 1) := by decide +kernel
theorem dX12_text_52 : decode cX12_text 52 = .ok (.ireturn, 1) := by decide +kernel
theorem dX12_text_53 : decode cX12_text 53 = .ok (.aload_n 0, 1) := by decide +kernel
theorem dX12_text_54 : decode cX12_text 54 = .ok (.getfield 7, 3) := by decide +kernel
theorem dX12_text_57 : decode cX12_text 57 = .ok (.iconst 4, 1) := by decide +kernel
theorem dX12_text_58 : decode cX12_text 58 = .ok (.dup2, 1) := by decide +kernel
theorem dX12_text_59 : decode cX12_text 59 = .ok (.iaload, 1) := by decide +kernel
theorem dX12_text_60 : decode cX12_text 60 = .ok (.iconst 1, 1) := by decide +kernel
theorem dX12_text_61 : decode cX12_text 61 = .ok (.iadd, 1) := by decide +kernel
theorem dX12_text_62 : decode cX12_text 62 = .ok (.iastore, 1) := by decide +kernel
theorem dX12_text_63 : decode cX12_text 63 = .ok (.aload_n 0, 1) := by decide +kernel
theorem dX12_text_64 : decode cX12_text 64 = .ok (.getfield 7, 3) := by decide +kernel
theorem dX12_text_67 : decode cX12_text 67 = .ok (.iconst 4, 1) := by decide +kernel
theorem dX12_text_68 : decode cX12_text 68 = .ok (.iaload, 1) := by decide +kernel
theorem dX12_text_69 : decode cX12_text 69 = .ok (.iconst 1, 1) := by decide +kernel
theorem dX12_text_70 : decode cX12_text 70 = .ok (.isub, 1) := by decide +kernel
theorem dX12_text_71 : decode cX12_text 71 = .ok (.ireturn, 1) := by decide +kernel
theorem dX12_fault_0 : decode cX12_fault 0 = .ok (.iload_n 1, 1) := by decide +kernel
theorem dX12_fault_1 : decode cX12_fault 1 = .ok (.ifCond .ne 10, 3) := by decide +kernel
theorem dX12_fault_4 : decode cX12_fault 4 = .ok (.aload_n 0, 1) := by decide +kernel
theorem dX12_fault_5 : decode cX12_fault 5 = .ok (.getfield 22, 3) := by decide +kernel
theorem dX12_fault_8 : decode cX12_fault 8 = .ok (.goto 16, 3) := by decide +kernel
theorem dX12_fault_11 : decode cX12_fault 11 = .ok (.iload_n 1, 1) := by decide +kernel
theorem dX12_fault_12 : decode cX12_fault 12 = .ok (.iconst 1, 1) := by decide +kernel
theorem dX12_fault_13 : decode cX12_fault 13 = .ok (.if_icmp .ne 10, 3) := by decide +kernel
theorem dX12_fault_16 : decode cX12_fault 16 = .ok (.aload_n 0, 1) := by decide +kernel
theorem dX12_fault_17 : decode cX12_fault 17 = .ok (.getfield 26, 3) := by decide +kernel
theorem dX12_fault_20 : decode cX12_fault 20 = .ok (.goto 4, 3) := by decide +kernel
theorem dX12_fault_23 : decode cX12_fault 23 = .ok (.iconst (-1), 1) := by decide +kernel
theorem dX12_fault_24 : decode cX12_fault 24 = .ok (.ireturn, 1) := by decide +kernel
theorem dX12_by_0 : decode cX12_by 0 = .ok (.iload_n 1, 1) := by decide +kernel
theorem dX12_by_1 : decode cX12_by 1 = .ok (.iconst (-1), 1) := by decide +kernel
theorem dX12_by_2 : decode cX12_by 2 = .ok (.aload_n 0, 1) := by decide +kernel
theorem dX12_by_3 : decode cX12_by 3 = .ok (.getfield 7, 3) := by decide +kernel
theorem dX12_by_6 : decode cX12_by 6 = .ok (.iconst 4, 1) := by decide +kernel
theorem dX12_by_7 : decode cX12_by 7 = .ok (.iaload, 1) := by decide +kernel
theorem dX12_by_8 : decode cX12_by 8 = .ok (.iconst 1, 1) := by decide +kernel
theorem dX12_by_9 : decode cX12_by 9 = .ok (.isub, 1) := by decide +kernel
theorem dX12_by_10 : decode cX12_by 10 = .ok (.invokestatic 62, 3) := by decide +kernel
theorem dX12_by_13 : decode cX12_by 13 = .ok (.ifCond .ne 5, 3) := by decide +kernel
theorem dX12_by_16 : decode cX12_by 16 = .ok (.iconst 0, 1) := by decide +kernel
theorem dX12_by_17 : decode cX12_by 17 = .ok (.ireturn, 1) := by decide +kernel
theorem dX12_by_18 : decode cX12_by 18 = .ok (.aload_n 0, 1) := by decide +kernel
theorem dX12_by_19 : decode cX12_by 19 = .ok (.getfield 7, 3) := by decide +kernel
theorem dX12_by_22 : decode cX12_by 22 = .ok (.iconst 5, 1) := by decide +kernel
theorem dX12_by_23 : decode cX12_by 23 = .ok (.iload_n 1, 1) := by decide +kernel
theorem dX12_by_24 : decode cX12_by 24 = .ok (.iastore, 1) := by decide +kernel
theorem dX12_by_25 : decode cX12_by 25 = .ok (.iconst 1, 1) := by decide +kernel
theorem dX12_by_26 : decode cX12_by 26 = .ok (.ireturn, 1) := by decide +kernel
theorem dX12_clip_0 : decode cX12_clip 0 = .ok (.lload_n 0, 1) := by decide +kernel
theorem dX12_clip_1 : decode cX12_clip 1 = .ok (.ldc2_w 230, 3) := by decide +kernel
theorem dX12_clip_4 : decode cX12_clip 4 = .ok (.lcmp, 1) := by decide +kernel
theorem dX12_clip_5 : decode cX12_clip 5 = .ok (.ifCond .le 9, 3) := by decide +kernel
theorem dX12_clip_8 : decode cX12_clip 8 = .ok (.ldc2_w 230, 3) := by decide +kernel
theorem dX12_clip_11 : decode cX12_clip 11 = .ok (.goto 18, 3) := by decide +kernel
theorem dX12_clip_14 : decode cX12_clip 14 = .ok (.lload_n 0, 1) := by decide +kernel
theorem dX12_clip_15 : decode cX12_clip 15 = .ok (.ldc2_w 232, 3) := by decide +kernel
theorem dX12_clip_18 : decode cX12_clip 18 = .ok (.lcmp, 1) := by decide +kernel
theorem dX12_clip_19 : decode cX12_clip 19 = .ok (.ifCond .ge 9, 3) := by decide +kernel
theorem dX12_clip_22 : decode cX12_clip 22 = .ok (.ldc2_w 232, 3) := by decide +kernel
theorem dX12_clip_25 : decode cX12_clip 25 = .ok (.goto 4, 3) := by decide +kernel
theorem dX12_clip_28 : decode cX12_clip 28 = .ok (.lload_n 0, 1) := by decide +kernel
theorem dX12_clip_29 : decode cX12_clip 29 = .ok (.lreturn, 1) := by decide +kernel
theorem dX12_two_0 : decode cX12_two 0 = .ok (.iload_n 0, 1) := by decide +kernel
theorem dX12_two_1 : decode cX12_two 1 = .ok (.tableswitch 48 3 5 #[27, 34, 41], 27) := by decide +kernel
theorem dX12_two_28 : decode cX12_two 28 = .ok (.lload_n 1, 1) := by decide +kernel
theorem dX12_two_29 : decode cX12_two 29 = .ok (.lload_n 3, 1) := by decide +kernel
theorem dX12_two_30 : decode cX12_two 30 = .ok (.ladd, 1) := by decide +kernel
theorem dX12_two_31 : decode cX12_two 31 = .ok (.invokestatic 234, 3) := by decide +kernel
theorem dX12_two_34 : decode cX12_two 34 = .ok (.lreturn, 1) := by decide +kernel
theorem dX12_two_35 : decode cX12_two 35 = .ok (.lload_n 1, 1) := by decide +kernel
theorem dX12_two_36 : decode cX12_two 36 = .ok (.lload_n 3, 1) := by decide +kernel
theorem dX12_two_37 : decode cX12_two 37 = .ok (.lsub, 1) := by decide +kernel
theorem dX12_two_38 : decode cX12_two 38 = .ok (.invokestatic 234, 3) := by decide +kernel
theorem dX12_two_41 : decode cX12_two 41 = .ok (.lreturn, 1) := by decide +kernel
theorem dX12_two_42 : decode cX12_two 42 = .ok (.lload_n 1, 1) := by decide +kernel
theorem dX12_two_43 : decode cX12_two 43 = .ok (.lload_n 3, 1) := by decide +kernel
theorem dX12_two_44 : decode cX12_two 44 = .ok (.lmul, 1) := by decide +kernel
theorem dX12_two_45 : decode cX12_two 45 = .ok (.invokestatic 234, 3) := by decide +kernel
theorem dX12_two_48 : decode cX12_two 48 = .ok (.lreturn, 1) := by decide +kernel
theorem dX12_two_49 : decode cX12_two 49 = .ok (.lload_n 3, 1) := by decide +kernel
theorem dX12_two_50 : decode cX12_two 50 = .ok (.lconst 0, 1) := by decide +kernel
theorem dX12_two_51 : decode cX12_two 51 = .ok (.lcmp, 1) := by decide +kernel
theorem dX12_two_52 : decode cX12_two 52 = .ok (.ifCond .ne 7, 3) := by decide +kernel
theorem dX12_two_55 : decode cX12_two 55 = .ok (.lconst 0, 1) := by decide +kernel
theorem dX12_two_56 : decode cX12_two 56 = .ok (.goto 9, 3) := by decide +kernel
theorem dX12_two_59 : decode cX12_two 59 = .ok (.lload_n 1, 1) := by decide +kernel
theorem dX12_two_60 : decode cX12_two 60 = .ok (.lload_n 3, 1) := by decide +kernel
theorem dX12_two_61 : decode cX12_two 61 = .ok (.ldiv, 1) := by decide +kernel
theorem dX12_two_62 : decode cX12_two 62 = .ok (.invokestatic 234, 3) := by decide +kernel
theorem dX12_two_65 : decode cX12_two 65 = .ok (.lreturn, 1) := by decide +kernel
theorem dX12_isAsked_0 : decode cX12_isAsked 0 = .ok (.iload_n 0, 1) := by decide +kernel
theorem dX12_isAsked_1 : decode cX12_isAsked 1 = .ok (.bipush 10, 2) := by decide +kernel
theorem dX12_isAsked_3 : decode cX12_isAsked 3 = .ok (.if_icmp .ne 17, 3) := by decide +kernel
theorem dX12_isAsked_6 : decode cX12_isAsked 6 = .ok (.lload_n 1, 1) := by decide +kernel
theorem dX12_isAsked_7 : decode cX12_isAsked 7 = .ok (.lload_n 3, 1) := by decide +kernel
theorem dX12_isAsked_8 : decode cX12_isAsked 8 = .ok (.lcmp, 1) := by decide +kernel
theorem dX12_isAsked_9 : decode cX12_isAsked 9 = .ok (.ifCond .ge 7, 3) := by decide +kernel
theorem dX12_isAsked_12 : decode cX12_isAsked 12 = .ok (.iconst 1, 1) := by decide +kernel
theorem dX12_isAsked_13 : decode cX12_isAsked 13 = .ok (.goto 98, 3) := by decide +kernel
theorem dX12_isAsked_16 : decode cX12_isAsked 16 = .ok (.iconst 0, 1) := by decide +kernel
theorem dX12_isAsked_17 : decode cX12_isAsked 17 = .ok (.goto 94, 3) := by decide +kernel
theorem dX12_isAsked_20 : decode cX12_isAsked 20 = .ok (.iload_n 0, 1) := by decide +kernel
theorem dX12_isAsked_21 : decode cX12_isAsked 21 = .ok (.bipush 11, 2) := by decide +kernel
theorem dX12_isAsked_23 : decode cX12_isAsked 23 = .ok (.if_icmp .ne 17, 3) := by decide +kernel
theorem dX12_isAsked_26 : decode cX12_isAsked 26 = .ok (.lload_n 1, 1) := by decide +kernel
theorem dX12_isAsked_27 : decode cX12_isAsked 27 = .ok (.lload_n 3, 1) := by decide +kernel
theorem dX12_isAsked_28 : decode cX12_isAsked 28 = .ok (.lcmp, 1) := by decide +kernel
theorem dX12_isAsked_29 : decode cX12_isAsked 29 = .ok (.ifCond .gt 7, 3) := by decide +kernel
theorem dX12_isAsked_32 : decode cX12_isAsked 32 = .ok (.iconst 1, 1) := by decide +kernel
theorem dX12_isAsked_33 : decode cX12_isAsked 33 = .ok (.goto 78, 3) := by decide +kernel
theorem dX12_isAsked_36 : decode cX12_isAsked 36 = .ok (.iconst 0, 1) := by decide +kernel
theorem dX12_isAsked_37 : decode cX12_isAsked 37 = .ok (.goto 74, 3) := by decide +kernel
theorem dX12_isAsked_40 : decode cX12_isAsked 40 = .ok (.iload_n 0, 1) := by decide +kernel
theorem dX12_isAsked_41 : decode cX12_isAsked 41 = .ok (.bipush 12, 2) := by decide +kernel
theorem dX12_isAsked_43 : decode cX12_isAsked 43 = .ok (.if_icmp .ne 17, 3) := by decide +kernel
theorem dX12_isAsked_46 : decode cX12_isAsked 46 = .ok (.lload_n 1, 1) := by decide +kernel
theorem dX12_isAsked_47 : decode cX12_isAsked 47 = .ok (.lload_n 3, 1) := by decide +kernel
theorem dX12_isAsked_48 : decode cX12_isAsked 48 = .ok (.lcmp, 1) := by decide +kernel
theorem dX12_isAsked_49 : decode cX12_isAsked 49 = .ok (.ifCond .le 7, 3) := by decide +kernel
theorem dX12_isAsked_52 : decode cX12_isAsked 52 = .ok (.iconst 1, 1) := by decide +kernel
theorem dX12_isAsked_53 : decode cX12_isAsked 53 = .ok (.goto 58, 3) := by decide +kernel
theorem dX12_isAsked_56 : decode cX12_isAsked 56 = .ok (.iconst 0, 1) := by decide +kernel
theorem dX12_isAsked_57 : decode cX12_isAsked 57 = .ok (.goto 54, 3) := by decide +kernel
theorem dX12_isAsked_60 : decode cX12_isAsked 60 = .ok (.iload_n 0, 1) := by decide +kernel
theorem dX12_isAsked_61 : decode cX12_isAsked 61 = .ok (.bipush 13, 2) := by decide +kernel
theorem dX12_isAsked_63 : decode cX12_isAsked 63 = .ok (.if_icmp .ne 17, 3) := by decide +kernel
theorem dX12_isAsked_66 : decode cX12_isAsked 66 = .ok (.lload_n 1, 1) := by decide +kernel
theorem dX12_isAsked_67 : decode cX12_isAsked 67 = .ok (.lload_n 3, 1) := by decide +kernel
theorem dX12_isAsked_68 : decode cX12_isAsked 68 = .ok (.lcmp, 1) := by decide +kernel
theorem dX12_isAsked_69 : decode cX12_isAsked 69 = .ok (.ifCond .lt 7, 3) := by decide +kernel
theorem dX12_isAsked_72 : decode cX12_isAsked 72 = .ok (.iconst 1, 1) := by decide +kernel
theorem dX12_isAsked_73 : decode cX12_isAsked 73 = .ok (.goto 38, 3) := by decide +kernel
theorem dX12_isAsked_76 : decode cX12_isAsked 76 = .ok (.iconst 0, 1) := by decide +kernel
theorem dX12_isAsked_77 : decode cX12_isAsked 77 = .ok (.goto 34, 3) := by decide +kernel
theorem dX12_isAsked_80 : decode cX12_isAsked 80 = .ok (.iload_n 0, 1) := by decide +kernel
theorem dX12_isAsked_81 : decode cX12_isAsked 81 = .ok (.bipush 14, 2) := by decide +kernel
theorem dX12_isAsked_83 : decode cX12_isAsked 83 = .ok (.if_icmp .ne 17, 3) := by decide +kernel
theorem dX12_isAsked_86 : decode cX12_isAsked 86 = .ok (.lload_n 1, 1) := by decide +kernel
theorem dX12_isAsked_87 : decode cX12_isAsked 87 = .ok (.lload_n 3, 1) := by decide +kernel
theorem dX12_isAsked_88 : decode cX12_isAsked 88 = .ok (.lcmp, 1) := by decide +kernel
theorem dX12_isAsked_89 : decode cX12_isAsked 89 = .ok (.ifCond .ne 7, 3) := by decide +kernel
theorem dX12_isAsked_92 : decode cX12_isAsked 92 = .ok (.iconst 1, 1) := by decide +kernel
theorem dX12_isAsked_93 : decode cX12_isAsked 93 = .ok (.goto 18, 3) := by decide +kernel
theorem dX12_isAsked_96 : decode cX12_isAsked 96 = .ok (.iconst 0, 1) := by decide +kernel
theorem dX12_isAsked_97 : decode cX12_isAsked 97 = .ok (.goto 14, 3) := by decide +kernel
theorem dX12_isAsked_100 : decode cX12_isAsked 100 = .ok (.lload_n 1, 1) := by decide +kernel
theorem dX12_isAsked_101 : decode cX12_isAsked 101 = .ok (.lload_n 3, 1) := by decide +kernel
theorem dX12_isAsked_102 : decode cX12_isAsked 102 = .ok (.lcmp, 1) := by decide +kernel
theorem dX12_isAsked_103 : decode cX12_isAsked 103 = .ok (.ifCond .eq 7, 3) := by decide +kernel
theorem dX12_isAsked_106 : decode cX12_isAsked 106 = .ok (.iconst 1, 1) := by decide +kernel
theorem dX12_isAsked_107 : decode cX12_isAsked 107 = .ok (.goto 4, 3) := by decide +kernel
theorem dX12_isAsked_110 : decode cX12_isAsked 110 = .ok (.iconst 0, 1) := by decide +kernel
theorem dX12_isAsked_111 : decode cX12_isAsked 111 = .ok (.ireturn, 1) := by decide +kernel
theorem dX12_work_0 : decode cX12_work 0 = .ok (.sipush 680, 3) := by decide +kernel
theorem dX12_work_3 : decode cX12_work 3 = .ok (.aload_n 0, 1) := by decide +kernel
theorem dX12_work_4 : decode cX12_work 4 = .ok (.getfield 7, 3) := by decide +kernel
theorem dX12_work_7 : decode cX12_work 7 = .ok (.iconst 5, 1) := by decide +kernel
theorem dX12_work_8 : decode cX12_work 8 = .ok (.iaload, 1) := by decide +kernel
theorem dX12_work_9 : decode cX12_work 9 = .ok (.imul, 1) := by decide +kernel
theorem dX12_work_10 : decode cX12_work 10 = .ok (.iconst 1, 1) := by decide +kernel
theorem dX12_work_11 : decode cX12_work 11 = .ok (.iadd, 1) := by decide +kernel
theorem dX12_work_12 : decode cX12_work 12 = .ok (.iconst 3, 1) := by decide +kernel
theorem dX12_work_13 : decode cX12_work 13 = .ok (.iload_n 1, 1) := by decide +kernel
theorem dX12_work_14 : decode cX12_work 14 = .ok (.imul, 1) := by decide +kernel
theorem dX12_work_15 : decode cX12_work 15 = .ok (.iadd, 1) := by decide +kernel
theorem dX12_work_16 : decode cX12_work 16 = .ok (.istore_n 2, 1) := by decide +kernel
theorem dX12_work_17 : decode cX12_work 17 = .ok (.sipush 680, 3) := by decide +kernel
theorem dX12_work_20 : decode cX12_work 20 = .ok (.aload_n 0, 1) := by decide +kernel
theorem dX12_work_21 : decode cX12_work 21 = .ok (.getfield 7, 3) := by decide +kernel
theorem dX12_work_24 : decode cX12_work 24 = .ok (.iconst 5, 1) := by decide +kernel
theorem dX12_work_25 : decode cX12_work 25 = .ok (.iaload, 1) := by decide +kernel
theorem dX12_work_26 : decode cX12_work 26 = .ok (.imul, 1) := by decide +kernel
theorem dX12_work_27 : decode cX12_work 27 = .ok (.bipush 75, 2) := by decide +kernel
theorem dX12_work_29 : decode cX12_work 29 = .ok (.iadd, 1) := by decide +kernel
theorem dX12_work_30 : decode cX12_work 30 = .ok (.istore_n 3, 1) := by decide +kernel
theorem dX12_work_31 : decode cX12_work 31 = .ok (.iconst 0, 1) := by decide +kernel
theorem dX12_work_32 : decode cX12_work 32 = .ok (.istore 4, 2) := by decide +kernel
theorem dX12_work_34 : decode cX12_work 34 = .ok (.iconst 0, 1) := by decide +kernel
theorem dX12_work_35 : decode cX12_work 35 = .ok (.istore 5, 2) := by decide +kernel
theorem dX12_work_37 : decode cX12_work 37 = .ok (.aload_n 0, 1) := by decide +kernel
theorem dX12_work_38 : decode cX12_work 38 = .ok (.getfield 16, 3) := by decide +kernel
theorem dX12_work_41 : decode cX12_work 41 = .ok (.iload_n 2, 1) := by decide +kernel
theorem dX12_work_42 : decode cX12_work 42 = .ok (.iconst 1, 1) := by decide +kernel
theorem dX12_work_43 : decode cX12_work 43 = .ok (.iadd, 1) := by decide +kernel
theorem dX12_work_44 : decode cX12_work 44 = .ok (.iaload, 1) := by decide +kernel
theorem dX12_work_45 : decode cX12_work 45 = .ok (.istore 6, 2) := by decide +kernel
theorem dX12_work_47 : decode cX12_work 47 = .ok (.iload 6, 2) := by decide +kernel
theorem dX12_work_49 : decode cX12_work 49 = .ok (.aload_n 0, 1) := by decide +kernel
theorem dX12_work_50 : decode cX12_work 50 = .ok (.getfield 16, 3) := by decide +kernel
theorem dX12_work_53 : decode cX12_work 53 = .ok (.iload_n 2, 1) := by decide +kernel
theorem dX12_work_54 : decode cX12_work 54 = .ok (.iconst 2, 1) := by decide +kernel
theorem dX12_work_55 : decode cX12_work 55 = .ok (.iadd, 1) := by decide +kernel
theorem dX12_work_56 : decode cX12_work 56 = .ok (.iaload, 1) := by decide +kernel
theorem dX12_work_57 : decode cX12_work 57 = .ok (.if_icmp .ge 302, 3) := by decide +kernel
theorem dX12_work_60 : decode cX12_work 60 = .ok (.aload_n 0, 1) := by decide +kernel
theorem dX12_work_61 : decode cX12_work 61 = .ok (.getfield 16, 3) := by decide +kernel
theorem dX12_work_64 : decode cX12_work 64 = .ok (.iload_n 3, 1) := by decide +kernel
theorem dX12_work_65 : decode cX12_work 65 = .ok (.iconst 2, 1) := by decide +kernel
theorem dX12_work_66 : decode cX12_work 66 = .ok (.iload 6, 2) := by decide +kernel
theorem dX12_work_68 : decode cX12_work 68 = .ok (.imul, 1) := by decide +kernel
theorem dX12_work_69 : decode cX12_work 69 = .ok (.iadd, 1) := by decide +kernel
theorem dX12_work_70 : decode cX12_work 70 = .ok (.iaload, 1) := by decide +kernel
theorem dX12_work_71 : decode cX12_work 71 = .ok (.istore 7, 2) := by decide +kernel
theorem dX12_work_73 : decode cX12_work 73 = .ok (.aload_n 0, 1) := by decide +kernel
theorem dX12_work_74 : decode cX12_work 74 = .ok (.getfield 16, 3) := by decide +kernel
theorem dX12_work_77 : decode cX12_work 77 = .ok (.iload_n 3, 1) := by decide +kernel
theorem dX12_work_78 : decode cX12_work 78 = .ok (.iconst 2, 1) := by decide +kernel
theorem dX12_work_79 : decode cX12_work 79 = .ok (.iload 6, 2) := by decide +kernel
theorem dX12_work_81 : decode cX12_work 81 = .ok (.imul, 1) := by decide +kernel
theorem dX12_work_82 : decode cX12_work 82 = .ok (.iadd, 1) := by decide +kernel
theorem dX12_work_83 : decode cX12_work 83 = .ok (.iconst 1, 1) := by decide +kernel
theorem dX12_work_84 : decode cX12_work 84 = .ok (.iadd, 1) := by decide +kernel
theorem dX12_work_85 : decode cX12_work 85 = .ok (.iaload, 1) := by decide +kernel
theorem dX12_work_86 : decode cX12_work 86 = .ok (.istore 8, 2) := by decide +kernel
theorem dX12_work_88 : decode cX12_work 88 = .ok (.iload 7, 2) := by decide +kernel
theorem dX12_work_90 : decode cX12_work 90 = .ok (.iconst 1, 1) := by decide +kernel
theorem dX12_work_91 : decode cX12_work 91 = .ok (.if_icmp .gt 35, 3) := by decide +kernel
theorem dX12_work_94 : decode cX12_work 94 = .ok (.aload_n 0, 1) := by decide +kernel
theorem dX12_work_95 : decode cX12_work 95 = .ok (.getfield 35, 3) := by decide +kernel
theorem dX12_work_98 : decode cX12_work 98 = .ok (.iload 4, 2) := by decide +kernel
theorem dX12_work_100 : decode cX12_work 100 = .ok (.iload 7, 2) := by decide +kernel
theorem dX12_work_102 : decode cX12_work 102 = .ok (.ifCond .ne 9, 3) := by decide +kernel
theorem dX12_work_105 : decode cX12_work 105 = .ok (.iload 8, 2) := by decide +kernel
theorem dX12_work_107 : decode cX12_work 107 = .ok (.i2l, 1) := by decide +kernel
theorem dX12_work_108 : decode cX12_work 108 = .ok (.goto 11, 3) := by decide +kernel
theorem dX12_work_111 : decode cX12_work 111 = .ok (.aload_n 0, 1) := by decide +kernel
theorem dX12_work_112 : decode cX12_work 112 = .ok (.getfield 32, 3) := by decide +kernel
theorem dX12_work_115 : decode cX12_work 115 = .ok (.iload 8, 2) := by decide +kernel
theorem dX12_work_117 : decode cX12_work 117 = .ok (.iaload, 1) := by decide +kernel
theorem dX12_work_118 : decode cX12_work 118 = .ok (.i2l, 1) := by decide +kernel
theorem dX12_work_119 : decode cX12_work 119 = .ok (.lastore, 1) := by decide +kernel
theorem dX12_work_120 : decode cX12_work 120 = .ok (.iinc 4 1, 3) := by decide +kernel
theorem dX12_work_123 : decode cX12_work 123 = .ok (.goto 230, 3) := by decide +kernel
theorem dX12_work_126 : decode cX12_work 126 = .ok (.iload 7, 2) := by decide +kernel
theorem dX12_work_128 : decode cX12_work 128 = .ok (.iconst 2, 1) := by decide +kernel
theorem dX12_work_129 : decode cX12_work 129 = .ok (.if_icmp .ne 25, 3) := by decide +kernel
theorem dX12_work_132 : decode cX12_work 132 = .ok (.aload_n 0, 1) := by decide +kernel
theorem dX12_work_133 : decode cX12_work 133 = .ok (.getfield 35, 3) := by decide +kernel
theorem dX12_work_136 : decode cX12_work 136 = .ok (.iload 4, 2) := by decide +kernel
theorem dX12_work_138 : decode cX12_work 138 = .ok (.iconst 1, 1) := by decide +kernel
theorem dX12_work_139 : decode cX12_work 139 = .ok (.isub, 1) := by decide +kernel
theorem dX12_work_140 : decode cX12_work 140 = .ok (.aload_n 0, 1) := by decide +kernel
theorem dX12_work_141 : decode cX12_work 141 = .ok (.getfield 35, 3) := by decide +kernel
theorem dX12_work_144 : decode cX12_work 144 = .ok (.iload 4, 2) := by decide +kernel
theorem dX12_work_146 : decode cX12_work 146 = .ok (.iconst 1, 1) := by decide +kernel
theorem dX12_work_147 : decode cX12_work 147 = .ok (.isub, 1) := by decide +kernel
theorem dX12_work_148 : decode cX12_work 148 = .ok (.laload, 1) := by decide +kernel
theorem dX12_work_149 : decode cX12_work 149 = .ok (.lneg, 1) := by decide +kernel
theorem dX12_work_150 : decode cX12_work 150 = .ok (.lastore, 1) := by decide +kernel
theorem dX12_work_151 : decode cX12_work 151 = .ok (.goto 202, 3) := by decide +kernel
theorem dX12_work_154 : decode cX12_work 154 = .ok (.iload 7, 2) := by decide +kernel
theorem dX12_work_156 : decode cX12_work 156 = .ok (.bipush 10, 2) := by decide +kernel
theorem dX12_work_158 : decode cX12_work 158 = .ok (.if_icmp .ge 39, 3) := by decide +kernel
theorem dX12_work_161 : decode cX12_work 161 = .ok (.iinc 4 (-1), 3) := by decide +kernel
theorem dX12_work_164 : decode cX12_work 164 = .ok (.aload_n 0, 1) := by decide +kernel
theorem dX12_work_165 : decode cX12_work 165 = .ok (.getfield 35, 3) := by decide +kernel
theorem dX12_work_168 : decode cX12_work 168 = .ok (.iload 4, 2) := by decide +kernel
theorem dX12_work_170 : decode cX12_work 170 = .ok (.iconst 1, 1) := by decide +kernel
theorem dX12_work_171 : decode cX12_work 171 = .ok (.isub, 1) := by decide +kernel
theorem dX12_work_172 : decode cX12_work 172 = .ok (.iload 7, 2) := by decide +kernel
theorem dX12_work_174 : decode cX12_work 174 = .ok (.aload_n 0, 1) := by decide +kernel
theorem dX12_work_175 : decode cX12_work 175 = .ok (.getfield 35, 3) := by decide +kernel
theorem dX12_work_178 : decode cX12_work 178 = .ok (.iload 4, 2) := by decide +kernel
theorem dX12_work_180 : decode cX12_work 180 = .ok (.iconst 1, 1) := by decide +kernel
theorem dX12_work_181 : decode cX12_work 181 = .ok (.isub, 1) := by decide +kernel
theorem dX12_work_182 : decode cX12_work 182 = .ok (.laload, 1) := by decide +kernel
theorem dX12_work_183 : decode cX12_work 183 = .ok (.aload_n 0, 1) := by decide +kernel
theorem dX12_work_184 : decode cX12_work 184 = .ok (.getfield 35, 3) := by decide +kernel
theorem dX12_work_187 : decode cX12_work 187 = .ok (.iload 4, 2) := by decide +kernel
theorem dX12_work_189 : decode cX12_work 189 = .ok (.laload, 1) := by decide +kernel
theorem dX12_work_190 : decode cX12_work 190 = .ok (.invokestatic 238, 3) := by decide +kernel
theorem dX12_work_193 : decode cX12_work 193 = .ok (.lastore, 1) := by decide +kernel
theorem dX12_work_194 : decode cX12_work 194 = .ok (.goto 159, 3) := by decide +kernel
theorem dX12_work_197 : decode cX12_work 197 = .ok (.iload 7, 2) := by decide +kernel
theorem dX12_work_199 : decode cX12_work 199 = .ok (.bipush 20, 2) := by decide +kernel
theorem dX12_work_201 : decode cX12_work 201 = .ok (.if_icmp .ge 40, 3) := by decide +kernel
theorem dX12_work_204 : decode cX12_work 204 = .ok (.iinc 4 (-2), 3) := by decide +kernel
theorem dX12_work_207 : decode cX12_work 207 = .ok (.aload_n 0, 1) := by decide +kernel
theorem dX12_work_208 : decode cX12_work 208 = .ok (.getfield 39, 3) := by decide +kernel
theorem dX12_work_211 : decode cX12_work 211 = .ok (.iload 5, 2) := by decide +kernel
theorem dX12_work_213 : decode cX12_work 213 = .ok (.iload 7, 2) := by decide +kernel
theorem dX12_work_215 : decode cX12_work 215 = .ok (.aload_n 0, 1) := by decide +kernel
theorem dX12_work_216 : decode cX12_work 216 = .ok (.getfield 35, 3) := by decide +kernel
theorem dX12_work_219 : decode cX12_work 219 = .ok (.iload 4, 2) := by decide +kernel
theorem dX12_work_221 : decode cX12_work 221 = .ok (.laload, 1) := by decide +kernel
theorem dX12_work_222 : decode cX12_work 222 = .ok (.aload_n 0, 1) := by decide +kernel
theorem dX12_work_223 : decode cX12_work 223 = .ok (.getfield 35, 3) := by decide +kernel
theorem dX12_work_226 : decode cX12_work 226 = .ok (.iload 4, 2) := by decide +kernel
theorem dX12_work_228 : decode cX12_work 228 = .ok (.iconst 1, 1) := by decide +kernel
theorem dX12_work_229 : decode cX12_work 229 = .ok (.iadd, 1) := by decide +kernel
theorem dX12_work_230 : decode cX12_work 230 = .ok (.laload, 1) := by decide +kernel
theorem dX12_work_231 : decode cX12_work 231 = .ok (.invokestatic 242, 3) := by decide +kernel
theorem dX12_work_234 : decode cX12_work 234 = .ok (.bastore, 1) := by decide +kernel
theorem dX12_work_235 : decode cX12_work 235 = .ok (.iinc 5 1, 3) := by decide +kernel
theorem dX12_work_238 : decode cX12_work 238 = .ok (.goto 115, 3) := by decide +kernel
theorem dX12_work_241 : decode cX12_work 241 = .ok (.iload 7, 2) := by decide +kernel
theorem dX12_work_243 : decode cX12_work 243 = .ok (.bipush 20, 2) := by decide +kernel
theorem dX12_work_245 : decode cX12_work 245 = .ok (.if_icmp .ne 32, 3) := by decide +kernel
theorem dX12_work_248 : decode cX12_work 248 = .ok (.aload_n 0, 1) := by decide +kernel
theorem dX12_work_249 : decode cX12_work 249 = .ok (.getfield 39, 3) := by decide +kernel
theorem dX12_work_252 : decode cX12_work 252 = .ok (.iload 5, 2) := by decide +kernel
theorem dX12_work_254 : decode cX12_work 254 = .ok (.iconst 1, 1) := by decide +kernel
theorem dX12_work_255 : decode cX12_work 255 = .ok (.isub, 1) := by decide +kernel
theorem dX12_work_256 : decode cX12_work 256 = .ok (.aload_n 0, 1) := by decide +kernel
theorem dX12_work_257 : decode cX12_work 257 = .ok (.getfield 39, 3) := by decide +kernel
theorem dX12_work_260 : decode cX12_work 260 = .ok (.iload 5, 2) := by decide +kernel
theorem dX12_work_262 : decode cX12_work 262 = .ok (.iconst 1, 1) := by decide +kernel
theorem dX12_work_263 : decode cX12_work 263 = .ok (.isub, 1) := by decide +kernel
theorem dX12_work_264 : decode cX12_work 264 = .ok (.baload, 1) := by decide +kernel
theorem dX12_work_265 : decode cX12_work 265 = .ok (.ifCond .ne 7, 3) := by decide +kernel
theorem dX12_work_268 : decode cX12_work 268 = .ok (.iconst 1, 1) := by decide +kernel
theorem dX12_work_269 : decode cX12_work 269 = .ok (.goto 4, 3) := by decide +kernel
theorem dX12_work_272 : decode cX12_work 272 = .ok (.iconst 0, 1) := by decide +kernel
theorem dX12_work_273 : decode cX12_work 273 = .ok (.bastore, 1) := by decide +kernel
theorem dX12_work_274 : decode cX12_work 274 = .ok (.goto 79, 3) := by decide +kernel
theorem dX12_work_277 : decode cX12_work 277 = .ok (.iinc 5 (-1), 3) := by decide +kernel
theorem dX12_work_280 : decode cX12_work 280 = .ok (.aload_n 0, 1) := by decide +kernel
theorem dX12_work_281 : decode cX12_work 281 = .ok (.getfield 39, 3) := by decide +kernel
theorem dX12_work_284 : decode cX12_work 284 = .ok (.iload 5, 2) := by decide +kernel
theorem dX12_work_286 : decode cX12_work 286 = .ok (.iconst 1, 1) := by decide +kernel
theorem dX12_work_287 : decode cX12_work 287 = .ok (.isub, 1) := by decide +kernel
theorem dX12_work_288 : decode cX12_work 288 = .ok (.iload 7, 2) := by decide +kernel
theorem dX12_work_290 : decode cX12_work 290 = .ok (.bipush 21, 2) := by decide +kernel
theorem dX12_work_292 : decode cX12_work 292 = .ok (.if_icmp .ne 33, 3) := by decide +kernel
theorem dX12_work_295 : decode cX12_work 295 = .ok (.aload_n 0, 1) := by decide +kernel
theorem dX12_work_296 : decode cX12_work 296 = .ok (.getfield 39, 3) := by decide +kernel
theorem dX12_work_299 : decode cX12_work 299 = .ok (.iload 5, 2) := by decide +kernel
theorem dX12_work_301 : decode cX12_work 301 = .ok (.iconst 1, 1) := by decide +kernel
theorem dX12_work_302 : decode cX12_work 302 = .ok (.isub, 1) := by decide +kernel
theorem dX12_work_303 : decode cX12_work 303 = .ok (.baload, 1) := by decide +kernel
theorem dX12_work_304 : decode cX12_work 304 = .ok (.ifCond .eq 17, 3) := by decide +kernel
theorem dX12_work_307 : decode cX12_work 307 = .ok (.aload_n 0, 1) := by decide +kernel
theorem dX12_work_308 : decode cX12_work 308 = .ok (.getfield 39, 3) := by decide +kernel
theorem dX12_work_311 : decode cX12_work 311 = .ok (.iload 5, 2) := by decide +kernel
theorem dX12_work_313 : decode cX12_work 313 = .ok (.baload, 1) := by decide +kernel
theorem dX12_work_314 : decode cX12_work 314 = .ok (.ifCond .eq 7, 3) := by decide +kernel
theorem dX12_work_317 : decode cX12_work 317 = .ok (.iconst 1, 1) := by decide +kernel
theorem dX12_work_318 : decode cX12_work 318 = .ok (.goto 34, 3) := by decide +kernel
theorem dX12_work_321 : decode cX12_work 321 = .ok (.iconst 0, 1) := by decide +kernel
theorem dX12_work_322 : decode cX12_work 322 = .ok (.goto 30, 3) := by decide +kernel
theorem dX12_work_325 : decode cX12_work 325 = .ok (.aload_n 0, 1) := by decide +kernel
theorem dX12_work_326 : decode cX12_work 326 = .ok (.getfield 39, 3) := by decide +kernel
theorem dX12_work_329 : decode cX12_work 329 = .ok (.iload 5, 2) := by decide +kernel
theorem dX12_work_331 : decode cX12_work 331 = .ok (.iconst 1, 1) := by decide +kernel
theorem dX12_work_332 : decode cX12_work 332 = .ok (.isub, 1) := by decide +kernel
theorem dX12_work_333 : decode cX12_work 333 = .ok (.baload, 1) := by decide +kernel
theorem dX12_work_334 : decode cX12_work 334 = .ok (.ifCond .ne 13, 3) := by decide +kernel
theorem dX12_work_337 : decode cX12_work 337 = .ok (.aload_n 0, 1) := by decide +kernel
theorem dX12_work_338 : decode cX12_work 338 = .ok (.getfield 39, 3) := by decide +kernel
theorem dX12_work_341 : decode cX12_work 341 = .ok (.iload 5, 2) := by decide +kernel
theorem dX12_work_343 : decode cX12_work 343 = .ok (.baload, 1) := by decide +kernel
theorem dX12_work_344 : decode cX12_work 344 = .ok (.ifCond .eq 7, 3) := by decide +kernel
theorem dX12_work_347 : decode cX12_work 347 = .ok (.iconst 1, 1) := by decide +kernel
theorem dX12_work_348 : decode cX12_work 348 = .ok (.goto 4, 3) := by decide +kernel
theorem dX12_work_351 : decode cX12_work 351 = .ok (.iconst 0, 1) := by decide +kernel
theorem dX12_work_352 : decode cX12_work 352 = .ok (.bastore, 1) := by decide +kernel
theorem dX12_work_353 : decode cX12_work 353 = .ok (.iinc 6 1, 3) := by decide +kernel
theorem dX12_work_356 : decode cX12_work 356 = .ok (.goto (-309), 3) := by decide +kernel
theorem dX12_work_359 : decode cX12_work 359 = .ok (.return_, 1) := by decide +kernel
theorem dX12_clauseOf_0 : decode cX12_clauseOf 0 = .ok (.iconst 0, 1) := by decide +kernel
theorem dX12_clauseOf_1 : decode cX12_clauseOf 1 = .ok (.istore_n 2, 1) := by decide +kernel
theorem dX12_clauseOf_2 : decode cX12_clauseOf 2 = .ok (.aload_n 0, 1) := by decide +kernel
theorem dX12_clauseOf_3 : decode cX12_clauseOf 3 = .ok (.getfield 7, 3) := by decide +kernel
theorem dX12_clauseOf_6 : decode cX12_clauseOf 6 = .ok (.iconst 5, 1) := by decide +kernel
theorem dX12_clauseOf_7 : decode cX12_clauseOf 7 = .ok (.iaload, 1) := by decide +kernel
theorem dX12_clauseOf_8 : decode cX12_clauseOf 8 = .ok (.ifCond .lt 55, 3) := by decide +kernel
theorem dX12_clauseOf_11 : decode cX12_clauseOf 11 = .ok (.iload_n 2, 1) := by decide +kernel
theorem dX12_clauseOf_12 : decode cX12_clauseOf 12 = .ok (.aload_n 0, 1) := by decide +kernel
theorem dX12_clauseOf_13 : decode cX12_clauseOf 13 = .ok (.getfield 16, 3) := by decide +kernel
theorem dX12_clauseOf_16 : decode cX12_clauseOf 16 = .ok (.sipush 680, 3) := by decide +kernel
theorem dX12_clauseOf_19 : decode cX12_clauseOf 19 = .ok (.aload_n 0, 1) := by decide +kernel
theorem dX12_clauseOf_20 : decode cX12_clauseOf 20 = .ok (.getfield 7, 3) := by decide +kernel
theorem dX12_clauseOf_23 : decode cX12_clauseOf 23 = .ok (.iconst 5, 1) := by decide +kernel
theorem dX12_clauseOf_24 : decode cX12_clauseOf 24 = .ok (.iaload, 1) := by decide +kernel
theorem dX12_clauseOf_25 : decode cX12_clauseOf 25 = .ok (.imul, 1) := by decide +kernel
theorem dX12_clauseOf_26 : decode cX12_clauseOf 26 = .ok (.iaload, 1) := by decide +kernel
theorem dX12_clauseOf_27 : decode cX12_clauseOf 27 = .ok (.if_icmp .ge 36, 3) := by decide +kernel
theorem dX12_clauseOf_30 : decode cX12_clauseOf 30 = .ok (.aload_n 0, 1) := by decide +kernel
theorem dX12_clauseOf_31 : decode cX12_clauseOf 31 = .ok (.getfield 16, 3) := by decide +kernel
theorem dX12_clauseOf_34 : decode cX12_clauseOf 34 = .ok (.sipush 680, 3) := by decide +kernel
theorem dX12_clauseOf_37 : decode cX12_clauseOf 37 = .ok (.aload_n 0, 1) := by decide +kernel
theorem dX12_clauseOf_38 : decode cX12_clauseOf 38 = .ok (.getfield 7, 3) := by decide +kernel
theorem dX12_clauseOf_41 : decode cX12_clauseOf 41 = .ok (.iconst 5, 1) := by decide +kernel
theorem dX12_clauseOf_42 : decode cX12_clauseOf 42 = .ok (.iaload, 1) := by decide +kernel
theorem dX12_clauseOf_43 : decode cX12_clauseOf 43 = .ok (.imul, 1) := by decide +kernel
theorem dX12_clauseOf_44 : decode cX12_clauseOf 44 = .ok (.iconst 1, 1) := by decide +kernel
theorem dX12_clauseOf_45 : decode cX12_clauseOf 45 = .ok (.iadd, 1) := by decide +kernel
theorem dX12_clauseOf_46 : decode cX12_clauseOf 46 = .ok (.iconst 3, 1) := by decide +kernel
theorem dX12_clauseOf_47 : decode cX12_clauseOf 47 = .ok (.iload_n 2, 1) := by decide +kernel
theorem dX12_clauseOf_48 : decode cX12_clauseOf 48 = .ok (.imul, 1) := by decide +kernel
theorem dX12_clauseOf_49 : decode cX12_clauseOf 49 = .ok (.iadd, 1) := by decide +kernel
theorem dX12_clauseOf_50 : decode cX12_clauseOf 50 = .ok (.iaload, 1) := by decide +kernel
theorem dX12_clauseOf_51 : decode cX12_clauseOf 51 = .ok (.iload_n 1, 1) := by decide +kernel
theorem dX12_clauseOf_52 : decode cX12_clauseOf 52 = .ok (.if_icmp .ne 5, 3) := by decide +kernel
theorem dX12_clauseOf_55 : decode cX12_clauseOf 55 = .ok (.iload_n 2, 1) := by decide +kernel
theorem dX12_clauseOf_56 : decode cX12_clauseOf 56 = .ok (.ireturn, 1) := by decide +kernel
theorem dX12_clauseOf_57 : decode cX12_clauseOf 57 = .ok (.iinc 2 1, 3) := by decide +kernel
theorem dX12_clauseOf_60 : decode cX12_clauseOf 60 = .ok (.goto (-58), 3) := by decide +kernel
theorem dX12_clauseOf_63 : decode cX12_clauseOf 63 = .ok (.iconst (-1), 1) := by decide +kernel
theorem dX12_clauseOf_64 : decode cX12_clauseOf 64 = .ok (.ireturn, 1) := by decide +kernel
theorem dX12_name_0 : decode cX12_name 0 = .ok (.aload_n 0, 1) := by decide +kernel
theorem dX12_name_1 : decode cX12_name 1 = .ok (.getfield 32, 3) := by decide +kernel
theorem dX12_name_4 : decode cX12_name 4 = .ok (.iconst 0, 1) := by decide +kernel
theorem dX12_name_5 : decode cX12_name 5 = .ok (.iload_n 1, 1) := by decide +kernel
theorem dX12_name_6 : decode cX12_name 6 = .ok (.iastore, 1) := by decide +kernel
theorem dX12_name_7 : decode cX12_name 7 = .ok (.iconst 0, 1) := by decide +kernel
theorem dX12_name_8 : decode cX12_name 8 = .ok (.istore_n 2, 1) := by decide +kernel
theorem dX12_name_9 : decode cX12_name 9 = .ok (.iload_n 2, 1) := by decide +kernel
theorem dX12_name_10 : decode cX12_name 10 = .ok (.iconst 3, 1) := by decide +kernel
theorem dX12_name_11 : decode cX12_name 11 = .ok (.if_icmp .ge 28, 3) := by decide +kernel
theorem dX12_name_14 : decode cX12_name 14 = .ok (.aload_n 0, 1) := by decide +kernel
theorem dX12_name_15 : decode cX12_name 15 = .ok (.getfield 32, 3) := by decide +kernel
theorem dX12_name_18 : decode cX12_name 18 = .ok (.iconst 1, 1) := by decide +kernel
theorem dX12_name_19 : decode cX12_name 19 = .ok (.iload_n 2, 1) := by decide +kernel
theorem dX12_name_20 : decode cX12_name 20 = .ok (.iadd, 1) := by decide +kernel
theorem dX12_name_21 : decode cX12_name 21 = .ok (.aload_n 0, 1) := by decide +kernel
theorem dX12_name_22 : decode cX12_name 22 = .ok (.getfield 7, 3) := by decide +kernel
theorem dX12_name_25 : decode cX12_name 25 = .ok (.iload_n 1, 1) := by decide +kernel
theorem dX12_name_26 : decode cX12_name 26 = .ok (.invokestatic 74, 3) := by decide +kernel
theorem dX12_name_29 : decode cX12_name 29 = .ok (.iload_n 2, 1) := by decide +kernel
theorem dX12_name_30 : decode cX12_name 30 = .ok (.iadd, 1) := by decide +kernel
theorem dX12_name_31 : decode cX12_name 31 = .ok (.iaload, 1) := by decide +kernel
theorem dX12_name_32 : decode cX12_name 32 = .ok (.iastore, 1) := by decide +kernel
theorem dX12_name_33 : decode cX12_name 33 = .ok (.iinc 2 1, 3) := by decide +kernel
theorem dX12_name_36 : decode cX12_name 36 = .ok (.goto (-27), 3) := by decide +kernel
theorem dX12_name_39 : decode cX12_name 39 = .ok (.return_, 1) := by decide +kernel
theorem dX12_nameUpon_0 : decode cX12_nameUpon 0 = .ok (.aload_n 0, 1) := by decide +kernel
theorem dX12_nameUpon_1 : decode cX12_nameUpon 1 = .ok (.iload_n 1, 1) := by decide +kernel
theorem dX12_nameUpon_2 : decode cX12_nameUpon 2 = .ok (.invokevirtual 246, 3) := by decide +kernel
theorem dX12_nameUpon_5 : decode cX12_nameUpon 5 = .ok (.aload_n 0, 1) := by decide +kernel
theorem dX12_nameUpon_6 : decode cX12_nameUpon 6 = .ok (.getfield 32, 3) := by decide +kernel
theorem dX12_nameUpon_9 : decode cX12_nameUpon 9 = .ok (.iconst 4, 1) := by decide +kernel
theorem dX12_nameUpon_10 : decode cX12_nameUpon 10 = .ok (.iload_n 2, 1) := by decide +kernel
theorem dX12_nameUpon_11 : decode cX12_nameUpon 11 = .ok (.invokestatic 70, 3) := by decide +kernel
theorem dX12_nameUpon_14 : decode cX12_nameUpon 14 = .ok (.iastore, 1) := by decide +kernel
theorem dX12_nameUpon_15 : decode cX12_nameUpon 15 = .ok (.aload_n 0, 1) := by decide +kernel
theorem dX12_nameUpon_16 : decode cX12_nameUpon 16 = .ok (.getfield 32, 3) := by decide +kernel
theorem dX12_nameUpon_19 : decode cX12_nameUpon 19 = .ok (.iconst 5, 1) := by decide +kernel
theorem dX12_nameUpon_20 : decode cX12_nameUpon 20 = .ok (.iconst (-1), 1) := by decide +kernel
theorem dX12_nameUpon_21 : decode cX12_nameUpon 21 = .ok (.iastore, 1) := by decide +kernel
theorem dX12_nameUpon_22 : decode cX12_nameUpon 22 = .ok (.iconst 0, 1) := by decide +kernel
theorem dX12_nameUpon_23 : decode cX12_nameUpon 23 = .ok (.istore_n 3, 1) := by decide +kernel
theorem dX12_nameUpon_24 : decode cX12_nameUpon 24 = .ok (.iload_n 3, 1) := by decide +kernel
theorem dX12_nameUpon_25 : decode cX12_nameUpon 25 = .ok (.aload_n 0, 1) := by decide +kernel
theorem dX12_nameUpon_26 : decode cX12_nameUpon 26 = .ok (.getfield 7, 3) := by decide +kernel
theorem dX12_nameUpon_29 : decode cX12_nameUpon 29 = .ok (.iconst 0, 1) := by decide +kernel
theorem dX12_nameUpon_30 : decode cX12_nameUpon 30 = .ok (.iaload, 1) := by decide +kernel
theorem dX12_nameUpon_31 : decode cX12_nameUpon 31 = .ok (.if_icmp .ge 54, 3) := by decide +kernel
theorem dX12_nameUpon_34 : decode cX12_nameUpon 34 = .ok (.iload_n 2, 1) := by decide +kernel
theorem dX12_nameUpon_35 : decode cX12_nameUpon 35 = .ok (.iload_n 3, 1) := by decide +kernel
theorem dX12_nameUpon_36 : decode cX12_nameUpon 36 = .ok (.invokestatic 249, 3) := by decide +kernel
theorem dX12_nameUpon_39 : decode cX12_nameUpon 39 = .ok (.ifCond .eq 40, 3) := by decide +kernel
theorem dX12_nameUpon_42 : decode cX12_nameUpon 42 = .ok (.aload_n 0, 1) := by decide +kernel
theorem dX12_nameUpon_43 : decode cX12_nameUpon 43 = .ok (.getfield 7, 3) := by decide +kernel
theorem dX12_nameUpon_46 : decode cX12_nameUpon 46 = .ok (.iload_n 3, 1) := by decide +kernel
theorem dX12_nameUpon_47 : decode cX12_nameUpon 47 = .ok (.invokestatic 74, 3) := by decide +kernel
theorem dX12_nameUpon_50 : decode cX12_nameUpon 50 = .ok (.iconst 1, 1) := by decide +kernel
theorem dX12_nameUpon_51 : decode cX12_nameUpon 51 = .ok (.iadd, 1) := by decide +kernel
theorem dX12_nameUpon_52 : decode cX12_nameUpon 52 = .ok (.iaload, 1) := by decide +kernel
theorem dX12_nameUpon_53 : decode cX12_nameUpon 53 = .ok (.aload_n 0, 1) := by decide +kernel
theorem dX12_nameUpon_54 : decode cX12_nameUpon 54 = .ok (.getfield 32, 3) := by decide +kernel
theorem dX12_nameUpon_57 : decode cX12_nameUpon 57 = .ok (.iconst 5, 1) := by decide +kernel
theorem dX12_nameUpon_58 : decode cX12_nameUpon 58 = .ok (.iaload, 1) := by decide +kernel
theorem dX12_nameUpon_59 : decode cX12_nameUpon 59 = .ok (.if_icmp .le 20, 3) := by decide +kernel
theorem dX12_nameUpon_62 : decode cX12_nameUpon 62 = .ok (.aload_n 0, 1) := by decide +kernel
theorem dX12_nameUpon_63 : decode cX12_nameUpon 63 = .ok (.getfield 32, 3) := by decide +kernel
theorem dX12_nameUpon_66 : decode cX12_nameUpon 66 = .ok (.iconst 5, 1) := by decide +kernel
theorem dX12_nameUpon_67 : decode cX12_nameUpon 67 = .ok (.aload_n 0, 1) := by decide +kernel
theorem dX12_nameUpon_68 : decode cX12_nameUpon 68 = .ok (.getfield 7, 3) := by decide +kernel
theorem dX12_nameUpon_71 : decode cX12_nameUpon 71 = .ok (.iload_n 3, 1) := by decide +kernel
theorem dX12_nameUpon_72 : decode cX12_nameUpon 72 = .ok (.invokestatic 74, 3) := by decide +kernel
theorem dX12_nameUpon_75 : decode cX12_nameUpon 75 = .ok (.iconst 1, 1) := by decide +kernel
theorem dX12_nameUpon_76 : decode cX12_nameUpon 76 = .ok (.iadd, 1) := by decide +kernel
theorem dX12_nameUpon_77 : decode cX12_nameUpon 77 = .ok (.iaload, 1) := by decide +kernel
theorem dX12_nameUpon_78 : decode cX12_nameUpon 78 = .ok (.iastore, 1) := by decide +kernel
theorem dX12_nameUpon_79 : decode cX12_nameUpon 79 = .ok (.iinc 3 1, 3) := by decide +kernel
theorem dX12_nameUpon_82 : decode cX12_nameUpon 82 = .ok (.goto (-58), 3) := by decide +kernel
theorem dX12_nameUpon_85 : decode cX12_nameUpon 85 = .ok (.aload_n 0, 1) := by decide +kernel
theorem dX12_nameUpon_86 : decode cX12_nameUpon 86 = .ok (.getfield 32, 3) := by decide +kernel
theorem dX12_nameUpon_89 : decode cX12_nameUpon 89 = .ok (.bipush 6, 2) := by decide +kernel
theorem dX12_nameUpon_91 : decode cX12_nameUpon 91 = .ok (.aload_n 0, 1) := by decide +kernel
theorem dX12_nameUpon_92 : decode cX12_nameUpon 92 = .ok (.getfield 7, 3) := by decide +kernel
theorem dX12_nameUpon_95 : decode cX12_nameUpon 95 = .ok (.iconst 2, 1) := by decide +kernel
theorem dX12_nameUpon_96 : decode cX12_nameUpon 96 = .ok (.iaload, 1) := by decide +kernel
theorem dX12_nameUpon_97 : decode cX12_nameUpon 97 = .ok (.aload_n 0, 1) := by decide +kernel
theorem dX12_nameUpon_98 : decode cX12_nameUpon 98 = .ok (.getfield 32, 3) := by decide +kernel
theorem dX12_nameUpon_101 : decode cX12_nameUpon 101 = .ok (.iconst 4, 1) := by decide +kernel
theorem dX12_nameUpon_102 : decode cX12_nameUpon 102 = .ok (.iaload, 1) := by decide +kernel
theorem dX12_nameUpon_103 : decode cX12_nameUpon 103 = .ok (.iadd, 1) := by decide +kernel
theorem dX12_nameUpon_104 : decode cX12_nameUpon 104 = .ok (.bipush 24, 2) := by decide +kernel
theorem dX12_nameUpon_106 : decode cX12_nameUpon 106 = .ok (.irem, 1) := by decide +kernel
theorem dX12_nameUpon_107 : decode cX12_nameUpon 107 = .ok (.iastore, 1) := by decide +kernel
theorem dX12_nameUpon_108 : decode cX12_nameUpon 108 = .ok (.return_, 1) := by decide +kernel
theorem dX12_isBorne_0 : decode cX12_isBorne 0 = .ok (.aload_n 0, 1) := by decide +kernel
theorem dX12_isBorne_1 : decode cX12_isBorne 1 = .ok (.getfield 7, 3) := by decide +kernel
theorem dX12_isBorne_4 : decode cX12_isBorne 4 = .ok (.iload_n 1, 1) := by decide +kernel
theorem dX12_isBorne_5 : decode cX12_isBorne 5 = .ok (.invokestatic 74, 3) := by decide +kernel
theorem dX12_isBorne_8 : decode cX12_isBorne 8 = .ok (.iconst 3, 1) := by decide +kernel
theorem dX12_isBorne_9 : decode cX12_isBorne 9 = .ok (.iadd, 1) := by decide +kernel
theorem dX12_isBorne_10 : decode cX12_isBorne 10 = .ok (.iaload, 1) := by decide +kernel
theorem dX12_isBorne_11 : decode cX12_isBorne 11 = .ok (.iload_n 2, 1) := by decide +kernel
theorem dX12_isBorne_12 : decode cX12_isBorne 12 = .ok (.iand, 1) := by decide +kernel
theorem dX12_isBorne_13 : decode cX12_isBorne 13 = .ok (.invokestatic 70, 3) := by decide +kernel
theorem dX12_isBorne_16 : decode cX12_isBorne 16 = .ok (.aload_n 0, 1) := by decide +kernel
theorem dX12_isBorne_17 : decode cX12_isBorne 17 = .ok (.getfield 7, 3) := by decide +kernel
theorem dX12_isBorne_20 : decode cX12_isBorne 20 = .ok (.iload_n 1, 1) := by decide +kernel
theorem dX12_isBorne_21 : decode cX12_isBorne 21 = .ok (.invokestatic 74, 3) := by decide +kernel
theorem dX12_isBorne_24 : decode cX12_isBorne 24 = .ok (.iconst 4, 1) := by decide +kernel
theorem dX12_isBorne_25 : decode cX12_isBorne 25 = .ok (.iadd, 1) := by decide +kernel
theorem dX12_isBorne_26 : decode cX12_isBorne 26 = .ok (.iaload, 1) := by decide +kernel
theorem dX12_isBorne_27 : decode cX12_isBorne 27 = .ok (.if_icmp .lt 7, 3) := by decide +kernel
theorem dX12_isBorne_30 : decode cX12_isBorne 30 = .ok (.iconst 1, 1) := by decide +kernel
theorem dX12_isBorne_31 : decode cX12_isBorne 31 = .ok (.goto 4, 3) := by decide +kernel
theorem dX12_isBorne_34 : decode cX12_isBorne 34 = .ok (.iconst 0, 1) := by decide +kernel
theorem dX12_isBorne_35 : decode cX12_isBorne 35 = .ok (.ireturn, 1) := by decide +kernel
theorem dX12_standing_0 : decode cX12_standing 0 = .ok (.iconst 0, 1) := by decide +kernel
theorem dX12_standing_1 : decode cX12_standing 1 = .ok (.istore_n 2, 1) := by decide +kernel
theorem dX12_standing_2 : decode cX12_standing 2 = .ok (.iload_n 2, 1) := by decide +kernel
theorem dX12_standing_3 : decode cX12_standing 3 = .ok (.aload_n 0, 1) := by decide +kernel
theorem dX12_standing_4 : decode cX12_standing 4 = .ok (.getfield 7, 3) := by decide +kernel
theorem dX12_standing_7 : decode cX12_standing 7 = .ok (.iconst 0, 1) := by decide +kernel
theorem dX12_standing_8 : decode cX12_standing 8 = .ok (.iaload, 1) := by decide +kernel
theorem dX12_standing_9 : decode cX12_standing 9 = .ok (.if_icmp .ge 28, 3) := by decide +kernel
theorem dX12_standing_12 : decode cX12_standing 12 = .ok (.iload_n 1, 1) := by decide +kernel
theorem dX12_standing_13 : decode cX12_standing 13 = .ok (.iload_n 2, 1) := by decide +kernel
theorem dX12_standing_14 : decode cX12_standing 14 = .ok (.invokestatic 249, 3) := by decide +kernel
theorem dX12_standing_17 : decode cX12_standing 17 = .ok (.ifCond .eq 14, 3) := by decide +kernel
theorem dX12_standing_20 : decode cX12_standing 20 = .ok (.aload_n 0, 1) := by decide +kernel
theorem dX12_standing_21 : decode cX12_standing 21 = .ok (.iload_n 2, 1) := by decide +kernel
theorem dX12_standing_22 : decode cX12_standing 22 = .ok (.iload_n 1, 1) := by decide +kernel
theorem dX12_standing_23 : decode cX12_standing 23 = .ok (.invokevirtual 253, 3) := by decide +kernel
theorem dX12_standing_26 : decode cX12_standing 26 = .ok (.ifCond .ne 5, 3) := by decide +kernel
theorem dX12_standing_29 : decode cX12_standing 29 = .ok (.iconst 0, 1) := by decide +kernel
theorem dX12_standing_30 : decode cX12_standing 30 = .ok (.ireturn, 1) := by decide +kernel
theorem dX12_standing_31 : decode cX12_standing 31 = .ok (.iinc 2 1, 3) := by decide +kernel
theorem dX12_standing_34 : decode cX12_standing 34 = .ok (.goto (-32), 3) := by decide +kernel
theorem dX12_standing_37 : decode cX12_standing 37 = .ok (.iconst 1, 1) := by decide +kernel
theorem dX12_standing_38 : decode cX12_standing 38 = .ok (.ireturn, 1) := by decide +kernel
theorem dX12_stands_0 : decode cX12_stands 0 = .ok (.iload_n 1, 1) := by decide +kernel
theorem dX12_stands_1 : decode cX12_stands 1 = .ok (.iconst 0, 1) := by decide +kernel
theorem dX12_stands_2 : decode cX12_stands 2 = .ok (.aload_n 0, 1) := by decide +kernel
theorem dX12_stands_3 : decode cX12_stands 3 = .ok (.invokevirtual 66, 3) := by decide +kernel
theorem dX12_stands_6 : decode cX12_stands 6 = .ok (.invokestatic 62, 3) := by decide +kernel
theorem dX12_stands_9 : decode cX12_stands 9 = .ok (.ifCond .eq 15, 3) := by decide +kernel
theorem dX12_stands_12 : decode cX12_stands 12 = .ok (.aload_n 0, 1) := by decide +kernel
theorem dX12_stands_13 : decode cX12_stands 13 = .ok (.iload_n 1, 1) := by decide +kernel
theorem dX12_stands_14 : decode cX12_stands 14 = .ok (.invokevirtual 256, 3) := by decide +kernel
theorem dX12_stands_17 : decode cX12_stands 17 = .ok (.ifCond .eq 7, 3) := by decide +kernel
theorem dX12_stands_20 : decode cX12_stands 20 = .ok (.iconst 1, 1) := by decide +kernel
theorem dX12_stands_21 : decode cX12_stands 21 = .ok (.goto 4, 3) := by decide +kernel
theorem dX12_stands_24 : decode cX12_stands 24 = .ok (.iconst 0, 1) := by decide +kernel
theorem dX12_stands_25 : decode cX12_stands 25 = .ok (.ireturn, 1) := by decide +kernel
theorem dX12_may_0 : decode cX12_may 0 = .ok (.iload_n 2, 1) := by decide +kernel
theorem dX12_may_1 : decode cX12_may 1 = .ok (.iload_n 1, 1) := by decide +kernel
theorem dX12_may_2 : decode cX12_may 2 = .ok (.invokestatic 249, 3) := by decide +kernel
theorem dX12_may_5 : decode cX12_may 5 = .ok (.ifCond .ne 12, 3) := by decide +kernel
theorem dX12_may_8 : decode cX12_may 8 = .ok (.aload_n 0, 1) := by decide +kernel
theorem dX12_may_9 : decode cX12_may 9 = .ok (.iload_n 1, 1) := by decide +kernel
theorem dX12_may_10 : decode cX12_may 10 = .ok (.iload_n 2, 1) := by decide +kernel
theorem dX12_may_11 : decode cX12_may 11 = .ok (.invokevirtual 253, 3) := by decide +kernel
theorem dX12_may_14 : decode cX12_may 14 = .ok (.ifCond .ne 5, 3) := by decide +kernel
theorem dX12_may_17 : decode cX12_may 17 = .ok (.iconst 0, 1) := by decide +kernel
theorem dX12_may_18 : decode cX12_may 18 = .ok (.ireturn, 1) := by decide +kernel
theorem dX12_may_19 : decode cX12_may 19 = .ok (.aload_n 0, 1) := by decide +kernel
theorem dX12_may_20 : decode cX12_may 20 = .ok (.iconst 1, 1) := by decide +kernel
theorem dX12_may_21 : decode cX12_may 21 = .ok (.invokevirtual 259, 3) := by decide +kernel
theorem dX12_may_24 : decode cX12_may 24 = .ok (.istore_n 3, 1) := by decide +kernel
theorem dX12_may_25 : decode cX12_may 25 = .ok (.iload_n 3, 1) := by decide +kernel
theorem dX12_may_26 : decode cX12_may 26 = .ok (.ifCond .ge 5, 3) := by decide +kernel
theorem dX12_may_29 : decode cX12_may 29 = .ok (.iconst 1, 1) := by decide +kernel
theorem dX12_may_30 : decode cX12_may 30 = .ok (.ireturn, 1) := by decide +kernel
theorem dX12_may_31 : decode cX12_may 31 = .ok (.aload_n 0, 1) := by decide +kernel
theorem dX12_may_32 : decode cX12_may 32 = .ok (.iload_n 1, 1) := by decide +kernel
theorem dX12_may_33 : decode cX12_may 33 = .ok (.iload_n 2, 1) := by decide +kernel
theorem dX12_may_34 : decode cX12_may 34 = .ok (.invokevirtual 262, 3) := by decide +kernel
theorem dX12_may_37 : decode cX12_may 37 = .ok (.aload_n 0, 1) := by decide +kernel
theorem dX12_may_38 : decode cX12_may 38 = .ok (.iload_n 3, 1) := by decide +kernel
theorem dX12_may_39 : decode cX12_may 39 = .ok (.invokevirtual 265, 3) := by decide +kernel
theorem dX12_may_42 : decode cX12_may 42 = .ok (.aload_n 0, 1) := by decide +kernel
theorem dX12_may_43 : decode cX12_may 43 = .ok (.getfield 39, 3) := by decide +kernel
theorem dX12_may_46 : decode cX12_may 46 = .ok (.iconst 0, 1) := by decide +kernel
theorem dX12_may_47 : decode cX12_may 47 = .ok (.baload, 1) := by decide +kernel
theorem dX12_may_48 : decode cX12_may 48 = .ok (.ireturn, 1) := by decide +kernel
theorem dX12_lift_0 : decode cX12_lift 0 = .ok (.aload_n 0, 1) := by decide +kernel
theorem dX12_lift_1 : decode cX12_lift 1 = .ok (.iconst 0, 1) := by decide +kernel
theorem dX12_lift_2 : decode cX12_lift 2 = .ok (.invokevirtual 259, 3) := by decide +kernel
theorem dX12_lift_5 : decode cX12_lift 5 = .ok (.istore_n 3, 1) := by decide +kernel
theorem dX12_lift_6 : decode cX12_lift 6 = .ok (.iload_n 3, 1) := by decide +kernel
theorem dX12_lift_7 : decode cX12_lift 7 = .ok (.ifCond .ge 25, 3) := by decide +kernel
theorem dX12_lift_10 : decode cX12_lift 10 = .ok (.aload_n 0, 1) := by decide +kernel
theorem dX12_lift_11 : decode cX12_lift 11 = .ok (.getfield 7, 3) := by decide +kernel
theorem dX12_lift_14 : decode cX12_lift 14 = .ok (.iload_n 1, 1) := by decide +kernel
theorem dX12_lift_15 : decode cX12_lift 15 = .ok (.invokestatic 74, 3) := by decide +kernel
theorem dX12_lift_18 : decode cX12_lift 18 = .ok (.iaload, 1) := by decide +kernel
theorem dX12_lift_19 : decode cX12_lift 19 = .ok (.aload_n 0, 1) := by decide +kernel
theorem dX12_lift_20 : decode cX12_lift 20 = .ok (.getfield 7, 3) := by decide +kernel
theorem dX12_lift_23 : decode cX12_lift 23 = .ok (.iload_n 1, 1) := by decide +kernel
theorem dX12_lift_24 : decode cX12_lift 24 = .ok (.invokestatic 74, 3) := by decide +kernel
theorem dX12_lift_27 : decode cX12_lift 27 = .ok (.iconst 1, 1) := by decide +kernel
theorem dX12_lift_28 : decode cX12_lift 28 = .ok (.iadd, 1) := by decide +kernel
theorem dX12_lift_29 : decode cX12_lift 29 = .ok (.iaload, 1) := by decide +kernel
theorem dX12_lift_30 : decode cX12_lift 30 = .ok (.imul, 1) := by decide +kernel
theorem dX12_lift_31 : decode cX12_lift 31 = .ok (.ireturn, 1) := by decide +kernel
theorem dX12_lift_32 : decode cX12_lift 32 = .ok (.aload_n 0, 1) := by decide +kernel
theorem dX12_lift_33 : decode cX12_lift 33 = .ok (.iload_n 1, 1) := by decide +kernel
theorem dX12_lift_34 : decode cX12_lift 34 = .ok (.iload_n 2, 1) := by decide +kernel
theorem dX12_lift_35 : decode cX12_lift 35 = .ok (.invokevirtual 262, 3) := by decide +kernel
theorem dX12_lift_38 : decode cX12_lift 38 = .ok (.aload_n 0, 1) := by decide +kernel
theorem dX12_lift_39 : decode cX12_lift 39 = .ok (.iload_n 3, 1) := by decide +kernel
theorem dX12_lift_40 : decode cX12_lift 40 = .ok (.invokevirtual 265, 3) := by decide +kernel
theorem dX12_lift_43 : decode cX12_lift 43 = .ok (.aload_n 0, 1) := by decide +kernel
theorem dX12_lift_44 : decode cX12_lift 44 = .ok (.getfield 35, 3) := by decide +kernel
theorem dX12_lift_47 : decode cX12_lift 47 = .ok (.iconst 0, 1) := by decide +kernel
theorem dX12_lift_48 : decode cX12_lift 48 = .ok (.laload, 1) := by decide +kernel
theorem dX12_lift_49 : decode cX12_lift 49 = .ok (.iconst 0, 1) := by decide +kernel
theorem dX12_lift_50 : decode cX12_lift 50 = .ok (.sipush 9999, 3) := by decide +kernel
theorem dX12_lift_53 : decode cX12_lift 53 = .ok (.invokestatic 268, 3) := by decide +kernel
theorem dX12_lift_56 : decode cX12_lift 56 = .ok (.ireturn, 1) := by decide +kernel
theorem dX12_quarries_0 : decode cX12_quarries 0 = .ok (.aload_n 0, 1) := by decide +kernel
theorem dX12_quarries_1 : decode cX12_quarries 1 = .ok (.iconst 2, 1) := by decide +kernel
theorem dX12_quarries_2 : decode cX12_quarries 2 = .ok (.invokevirtual 259, 3) := by decide +kernel
theorem dX12_quarries_5 : decode cX12_quarries 5 = .ok (.istore_n 2, 1) := by decide +kernel
theorem dX12_quarries_6 : decode cX12_quarries 6 = .ok (.iconst 0, 1) := by decide +kernel
theorem dX12_quarries_7 : decode cX12_quarries 7 = .ok (.istore_n 3, 1) := by decide +kernel
theorem dX12_quarries_8 : decode cX12_quarries 8 = .ok (.iconst 0, 1) := by decide +kernel
theorem dX12_quarries_9 : decode cX12_quarries 9 = .ok (.istore 4, 2) := by decide +kernel
theorem dX12_quarries_11 : decode cX12_quarries 11 = .ok (.iload 4, 2) := by decide +kernel
theorem dX12_quarries_13 : decode cX12_quarries 13 = .ok (.bipush 6, 2) := by decide +kernel
theorem dX12_quarries_15 : decode cX12_quarries 15 = .ok (.if_icmp .ge 59, 3) := by decide +kernel
theorem dX12_quarries_18 : decode cX12_quarries 18 = .ok (.iconst 1, 1) := by decide +kernel
theorem dX12_quarries_19 : decode cX12_quarries 19 = .ok (.istore 5, 2) := by decide +kernel
theorem dX12_quarries_21 : decode cX12_quarries 21 = .ok (.iload_n 2, 1) := by decide +kernel
theorem dX12_quarries_22 : decode cX12_quarries 22 = .ok (.ifCond .lt 30, 3) := by decide +kernel
theorem dX12_quarries_25 : decode cX12_quarries 25 = .ok (.aload_n 0, 1) := by decide +kernel
theorem dX12_quarries_26 : decode cX12_quarries 26 = .ok (.iload_n 1, 1) := by decide +kernel
theorem dX12_quarries_27 : decode cX12_quarries 27 = .ok (.invokevirtual 246, 3) := by decide +kernel
theorem dX12_quarries_30 : decode cX12_quarries 30 = .ok (.aload_n 0, 1) := by decide +kernel
theorem dX12_quarries_31 : decode cX12_quarries 31 = .ok (.getfield 32, 3) := by decide +kernel
theorem dX12_quarries_34 : decode cX12_quarries 34 = .ok (.bipush 7, 2) := by decide +kernel
theorem dX12_quarries_36 : decode cX12_quarries 36 = .ok (.iload 4, 2) := by decide +kernel
theorem dX12_quarries_38 : decode cX12_quarries 38 = .ok (.iastore, 1) := by decide +kernel
theorem dX12_quarries_39 : decode cX12_quarries 39 = .ok (.aload_n 0, 1) := by decide +kernel
theorem dX12_quarries_40 : decode cX12_quarries 40 = .ok (.iload_n 2, 1) := by decide +kernel
theorem dX12_quarries_41 : decode cX12_quarries 41 = .ok (.invokevirtual 265, 3) := by decide +kernel
theorem dX12_quarries_44 : decode cX12_quarries 44 = .ok (.aload_n 0, 1) := by decide +kernel
theorem dX12_quarries_45 : decode cX12_quarries 45 = .ok (.getfield 39, 3) := by decide +kernel
theorem dX12_quarries_48 : decode cX12_quarries 48 = .ok (.iconst 0, 1) := by decide +kernel
theorem dX12_quarries_49 : decode cX12_quarries 49 = .ok (.baload, 1) := by decide +kernel
theorem dX12_quarries_50 : decode cX12_quarries 50 = .ok (.istore 5, 2) := by decide +kernel
theorem dX12_quarries_52 : decode cX12_quarries 52 = .ok (.iload_n 3, 1) := by decide +kernel
theorem dX12_quarries_53 : decode cX12_quarries 53 = .ok (.iload 5, 2) := by decide +kernel
theorem dX12_quarries_55 : decode cX12_quarries 55 = .ok (.ifCond .eq 10, 3) := by decide +kernel
theorem dX12_quarries_58 : decode cX12_quarries 58 = .ok (.iconst 1, 1) := by decide +kernel
theorem dX12_quarries_59 : decode cX12_quarries 59 = .ok (.iload 4, 2) := by decide +kernel
theorem dX12_quarries_61 : decode cX12_quarries 61 = .ok (.ishl, 1) := by decide +kernel
theorem dX12_quarries_62 : decode cX12_quarries 62 = .ok (.goto 4, 3) := by decide +kernel
theorem dX12_quarries_65 : decode cX12_quarries 65 = .ok (.iconst 0, 1) := by decide +kernel
theorem dX12_quarries_66 : decode cX12_quarries 66 = .ok (.ior, 1) := by decide +kernel
theorem dX12_quarries_67 : decode cX12_quarries 67 = .ok (.istore_n 3, 1) := by decide +kernel
theorem dX12_quarries_68 : decode cX12_quarries 68 = .ok (.iinc 4 1, 3) := by decide +kernel
theorem dX12_quarries_71 : decode cX12_quarries 71 = .ok (.goto (-60), 3) := by decide +kernel
theorem dX12_quarries_74 : decode cX12_quarries 74 = .ok (.iload_n 3, 1) := by decide +kernel
theorem dX12_quarries_75 : decode cX12_quarries 75 = .ok (.ireturn, 1) := by decide +kernel
theorem dX12_of_0 : decode cX12_of 0 = .ok (.aload_n 0, 1) := by decide +kernel
theorem dX12_of_1 : decode cX12_of 1 = .ok (.iload_n 1, 1) := by decide +kernel
theorem dX12_of_2 : decode cX12_of 2 = .ok (.invokevirtual 272, 3) := by decide +kernel
theorem dX12_of_5 : decode cX12_of 5 = .ok (.ifCond .ne 5, 3) := by decide +kernel
theorem dX12_of_8 : decode cX12_of 8 = .ok (.iconst (-1), 1) := by decide +kernel
theorem dX12_of_9 : decode cX12_of 9 = .ok (.ireturn, 1) := by decide +kernel
theorem dX12_of_10 : decode cX12_of 10 = .ok (.aload_n 0, 1) := by decide +kernel
theorem dX12_of_11 : decode cX12_of 11 = .ok (.getfield 7, 3) := by decide +kernel
theorem dX12_of_14 : decode cX12_of 14 = .ok (.iconst 1, 1) := by decide +kernel
theorem dX12_of_15 : decode cX12_of 15 = .ok (.iaload, 1) := by decide +kernel
theorem dX12_of_16 : decode cX12_of 16 = .ok (.iconst 1, 1) := by decide +kernel
theorem dX12_of_17 : decode cX12_of 17 = .ok (.iload_n 1, 1) := by decide +kernel
theorem dX12_of_18 : decode cX12_of 18 = .ok (.ishl, 1) := by decide +kernel
theorem dX12_of_19 : decode cX12_of 19 = .ok (.iconst (-1), 1) := by decide +kernel
theorem dX12_of_20 : decode cX12_of 20 = .ok (.ixor, 1) := by decide +kernel
theorem dX12_of_21 : decode cX12_of 21 = .ok (.iand, 1) := by decide +kernel
theorem dX12_of_22 : decode cX12_of 22 = .ok (.istore_n 3, 1) := by decide +kernel
theorem dX12_of_23 : decode cX12_of 23 = .ok (.iload_n 2, 1) := by decide +kernel
theorem dX12_of_24 : decode cX12_of 24 = .ok (.tableswitch 103 0 4 #[36, 55, 75, 82, 88], 36) := by decide +kernel
theorem dX12_of_60 : decode cX12_of 60 = .ok (.aload_n 0, 1) := by decide +kernel
theorem dX12_of_61 : decode cX12_of 61 = .ok (.getfield 7, 3) := by decide +kernel
theorem dX12_of_64 : decode cX12_of 64 = .ok (.iconst 1, 1) := by decide +kernel
theorem dX12_of_65 : decode cX12_of 65 = .ok (.iaload, 1) := by decide +kernel
theorem dX12_of_66 : decode cX12_of 66 = .ok (.iload_n 1, 1) := by decide +kernel
theorem dX12_of_67 : decode cX12_of 67 = .ok (.invokestatic 249, 3) := by decide +kernel
theorem dX12_of_70 : decode cX12_of 70 = .ok (.ifCond .eq 7, 3) := by decide +kernel
theorem dX12_of_73 : decode cX12_of 73 = .ok (.iconst 1, 1) := by decide +kernel
theorem dX12_of_74 : decode cX12_of 74 = .ok (.goto 4, 3) := by decide +kernel
theorem dX12_of_77 : decode cX12_of 77 = .ok (.iconst 0, 1) := by decide +kernel
theorem dX12_of_78 : decode cX12_of 78 = .ok (.ireturn, 1) := by decide +kernel
theorem dX12_of_79 : decode cX12_of 79 = .ok (.aload_n 0, 1) := by decide +kernel
theorem dX12_of_80 : decode cX12_of 80 = .ok (.iload_n 1, 1) := by decide +kernel
theorem dX12_of_81 : decode cX12_of 81 = .ok (.aload_n 0, 1) := by decide +kernel
theorem dX12_of_82 : decode cX12_of 82 = .ok (.getfield 7, 3) := by decide +kernel
theorem dX12_of_85 : decode cX12_of 85 = .ok (.iconst 1, 1) := by decide +kernel
theorem dX12_of_86 : decode cX12_of 86 = .ok (.iaload, 1) := by decide +kernel
theorem dX12_of_87 : decode cX12_of 87 = .ok (.invokevirtual 275, 3) := by decide +kernel
theorem dX12_of_90 : decode cX12_of 90 = .ok (.ifCond .eq 7, 3) := by decide +kernel
theorem dX12_of_93 : decode cX12_of 93 = .ok (.iconst 1, 1) := by decide +kernel
theorem dX12_of_94 : decode cX12_of 94 = .ok (.goto 4, 3) := by decide +kernel
theorem dX12_of_97 : decode cX12_of 97 = .ok (.iconst 0, 1) := by decide +kernel
theorem dX12_of_98 : decode cX12_of 98 = .ok (.ireturn, 1) := by decide +kernel
theorem dX12_of_99 : decode cX12_of 99 = .ok (.aload_n 0, 1) := by decide +kernel
theorem dX12_of_100 : decode cX12_of 100 = .ok (.iload_n 1, 1) := by decide +kernel
theorem dX12_of_101 : decode cX12_of 101 = .ok (.iload_n 3, 1) := by decide +kernel
theorem dX12_of_102 : decode cX12_of 102 = .ok (.invokevirtual 278, 3) := by decide +kernel
theorem dX12_of_105 : decode cX12_of 105 = .ok (.ireturn, 1) := by decide +kernel
theorem dX12_of_106 : decode cX12_of 106 = .ok (.aload_n 0, 1) := by decide +kernel
theorem dX12_of_107 : decode cX12_of 107 = .ok (.iload_n 1, 1) := by decide +kernel
theorem dX12_of_108 : decode cX12_of 108 = .ok (.invokevirtual 281, 3) := by decide +kernel
theorem dX12_of_111 : decode cX12_of 111 = .ok (.ireturn, 1) := by decide +kernel
theorem dX12_of_112 : decode cX12_of 112 = .ok (.aload_n 0, 1) := by decide +kernel
theorem dX12_of_113 : decode cX12_of 113 = .ok (.iload_n 1, 1) := by decide +kernel
theorem dX12_of_114 : decode cX12_of 114 = .ok (.iload_n 3, 1) := by decide +kernel
theorem dX12_of_115 : decode cX12_of 115 = .ok (.invokevirtual 253, 3) := by decide +kernel
theorem dX12_of_118 : decode cX12_of 118 = .ok (.ifCond .eq 7, 3) := by decide +kernel
theorem dX12_of_121 : decode cX12_of 121 = .ok (.iconst 1, 1) := by decide +kernel
theorem dX12_of_122 : decode cX12_of 122 = .ok (.goto 4, 3) := by decide +kernel
theorem dX12_of_125 : decode cX12_of 125 = .ok (.iconst 0, 1) := by decide +kernel
theorem dX12_of_126 : decode cX12_of 126 = .ok (.ireturn, 1) := by decide +kernel
theorem dX12_of_127 : decode cX12_of 127 = .ok (.iconst (-1), 1) := by decide +kernel
theorem dX12_of_128 : decode cX12_of 128 = .ok (.ireturn, 1) := by decide +kernel
theorem dX12_keep_0 : decode cX12_keep 0 = .ok (.aload_n 0, 1) := by decide +kernel
theorem dX12_keep_1 : decode cX12_keep 1 = .ok (.getfield 7, 3) := by decide +kernel
theorem dX12_keep_4 : decode cX12_keep 4 = .ok (.bipush 6, 2) := by decide +kernel
theorem dX12_keep_6 : decode cX12_keep 6 = .ok (.iaload, 1) := by decide +kernel
theorem dX12_keep_7 : decode cX12_keep 7 = .ok (.bipush 30, 2) := by decide +kernel
theorem dX12_keep_9 : decode cX12_keep 9 = .ok (.if_icmp .ne 48, 3) := by decide +kernel
theorem dX12_keep_12 : decode cX12_keep 12 = .ok (.iconst 0, 1) := by decide +kernel
theorem dX12_keep_13 : decode cX12_keep 13 = .ok (.istore_n 1, 1) := by decide +kernel
theorem dX12_keep_14 : decode cX12_keep 14 = .ok (.iload_n 1, 1) := by decide +kernel
theorem dX12_keep_15 : decode cX12_keep 15 = .ok (.sipush 638, 3) := by decide +kernel
theorem dX12_keep_18 : decode cX12_keep 18 = .ok (.if_icmp .ge 28, 3) := by decide +kernel
theorem dX12_keep_21 : decode cX12_keep 21 = .ok (.aload_n 0, 1) := by decide +kernel
theorem dX12_keep_22 : decode cX12_keep 22 = .ok (.getfield 7, 3) := by decide +kernel
theorem dX12_keep_25 : decode cX12_keep 25 = .ok (.bipush 120, 2) := by decide +kernel
theorem dX12_keep_27 : decode cX12_keep 27 = .ok (.iload_n 1, 1) := by decide +kernel
theorem dX12_keep_28 : decode cX12_keep 28 = .ok (.iadd, 1) := by decide +kernel
theorem dX12_keep_29 : decode cX12_keep 29 = .ok (.aload_n 0, 1) := by decide +kernel
theorem dX12_keep_30 : decode cX12_keep 30 = .ok (.getfield 7, 3) := by decide +kernel
theorem dX12_keep_33 : decode cX12_keep 33 = .ok (.sipush 142, 3) := by decide +kernel
theorem dX12_keep_36 : decode cX12_keep 36 = .ok (.iload_n 1, 1) := by decide +kernel
theorem dX12_keep_37 : decode cX12_keep 37 = .ok (.iadd, 1) := by decide +kernel
theorem dX12_keep_38 : decode cX12_keep 38 = .ok (.iaload, 1) := by decide +kernel
theorem dX12_keep_39 : decode cX12_keep 39 = .ok (.iastore, 1) := by decide +kernel
theorem dX12_keep_40 : decode cX12_keep 40 = .ok (.iinc 1 1, 3) := by decide +kernel
theorem dX12_keep_43 : decode cX12_keep 43 = .ok (.goto (-29), 3) := by decide +kernel
theorem dX12_keep_46 : decode cX12_keep 46 = .ok (.aload_n 0, 1) := by decide +kernel
theorem dX12_keep_47 : decode cX12_keep 47 = .ok (.getfield 7, 3) := by decide +kernel
theorem dX12_keep_50 : decode cX12_keep 50 = .ok (.bipush 6, 2) := by decide +kernel
theorem dX12_keep_52 : decode cX12_keep 52 = .ok (.dup2, 1) := by decide +kernel
theorem dX12_keep_53 : decode cX12_keep 53 = .ok (.iaload, 1) := by decide +kernel
theorem dX12_keep_54 : decode cX12_keep 54 = .ok (.iconst 1, 1) := by decide +kernel
theorem dX12_keep_55 : decode cX12_keep 55 = .ok (.isub, 1) := by decide +kernel
theorem dX12_keep_56 : decode cX12_keep 56 = .ok (.iastore, 1) := by decide +kernel
theorem dX12_keep_57 : decode cX12_keep 57 = .ok (.bipush 120, 2) := by decide +kernel
theorem dX12_keep_59 : decode cX12_keep 59 = .ok (.bipush 22, 2) := by decide +kernel
theorem dX12_keep_61 : decode cX12_keep 61 = .ok (.aload_n 0, 1) := by decide +kernel
theorem dX12_keep_62 : decode cX12_keep 62 = .ok (.getfield 7, 3) := by decide +kernel
theorem dX12_keep_65 : decode cX12_keep 65 = .ok (.bipush 6, 2) := by decide +kernel
theorem dX12_keep_67 : decode cX12_keep 67 = .ok (.iaload, 1) := by decide +kernel
theorem dX12_keep_68 : decode cX12_keep 68 = .ok (.imul, 1) := by decide +kernel
theorem dX12_keep_69 : decode cX12_keep 69 = .ok (.iadd, 1) := by decide +kernel
theorem dX12_keep_70 : decode cX12_keep 70 = .ok (.istore_n 1, 1) := by decide +kernel
theorem dX12_keep_71 : decode cX12_keep 71 = .ok (.aload_n 0, 1) := by decide +kernel
theorem dX12_keep_72 : decode cX12_keep 72 = .ok (.getfield 7, 3) := by decide +kernel
theorem dX12_keep_75 : decode cX12_keep 75 = .ok (.iload_n 1, 1) := by decide +kernel
theorem dX12_keep_76 : decode cX12_keep 76 = .ok (.aload_n 0, 1) := by decide +kernel
theorem dX12_keep_77 : decode cX12_keep 77 = .ok (.getfield 7, 3) := by decide +kernel
theorem dX12_keep_80 : decode cX12_keep 80 = .ok (.iconst 1, 1) := by decide +kernel
theorem dX12_keep_81 : decode cX12_keep 81 = .ok (.iaload, 1) := by decide +kernel
theorem dX12_keep_82 : decode cX12_keep 82 = .ok (.iastore, 1) := by decide +kernel
theorem dX12_keep_83 : decode cX12_keep 83 = .ok (.aload_n 0, 1) := by decide +kernel
theorem dX12_keep_84 : decode cX12_keep 84 = .ok (.getfield 7, 3) := by decide +kernel
theorem dX12_keep_87 : decode cX12_keep 87 = .ok (.iload_n 1, 1) := by decide +kernel
theorem dX12_keep_88 : decode cX12_keep 88 = .ok (.iconst 1, 1) := by decide +kernel
theorem dX12_keep_89 : decode cX12_keep 89 = .ok (.iadd, 1) := by decide +kernel
theorem dX12_keep_90 : decode cX12_keep 90 = .ok (.aload_n 0, 1) := by decide +kernel
theorem dX12_keep_91 : decode cX12_keep 91 = .ok (.getfield 7, 3) := by decide +kernel
theorem dX12_keep_94 : decode cX12_keep 94 = .ok (.iconst 3, 1) := by decide +kernel
theorem dX12_keep_95 : decode cX12_keep 95 = .ok (.iaload, 1) := by decide +kernel
theorem dX12_keep_96 : decode cX12_keep 96 = .ok (.iastore, 1) := by decide +kernel
theorem dX12_keep_97 : decode cX12_keep 97 = .ok (.iconst 0, 1) := by decide +kernel
theorem dX12_keep_98 : decode cX12_keep 98 = .ok (.istore_n 2, 1) := by decide +kernel
theorem dX12_keep_99 : decode cX12_keep 99 = .ok (.iload_n 2, 1) := by decide +kernel
theorem dX12_keep_100 : decode cX12_keep 100 = .ok (.bipush 10, 2) := by decide +kernel
theorem dX12_keep_102 : decode cX12_keep 102 = .ok (.if_icmp .ge 53, 3) := by decide +kernel
theorem dX12_keep_105 : decode cX12_keep 105 = .ok (.aload_n 0, 1) := by decide +kernel
theorem dX12_keep_106 : decode cX12_keep 106 = .ok (.getfield 7, 3) := by decide +kernel
theorem dX12_keep_109 : decode cX12_keep 109 = .ok (.iload_n 1, 1) := by decide +kernel
theorem dX12_keep_110 : decode cX12_keep 110 = .ok (.iconst 2, 1) := by decide +kernel
theorem dX12_keep_111 : decode cX12_keep 111 = .ok (.iadd, 1) := by decide +kernel
theorem dX12_keep_112 : decode cX12_keep 112 = .ok (.iconst 2, 1) := by decide +kernel
theorem dX12_keep_113 : decode cX12_keep 113 = .ok (.iload_n 2, 1) := by decide +kernel
theorem dX12_keep_114 : decode cX12_keep 114 = .ok (.imul, 1) := by decide +kernel
theorem dX12_keep_115 : decode cX12_keep 115 = .ok (.iadd, 1) := by decide +kernel
theorem dX12_keep_116 : decode cX12_keep 116 = .ok (.aload_n 0, 1) := by decide +kernel
theorem dX12_keep_117 : decode cX12_keep 117 = .ok (.getfield 7, 3) := by decide +kernel
theorem dX12_keep_120 : decode cX12_keep 120 = .ok (.iload_n 2, 1) := by decide +kernel
theorem dX12_keep_121 : decode cX12_keep 121 = .ok (.invokestatic 77, 3) := by decide +kernel
theorem dX12_keep_124 : decode cX12_keep 124 = .ok (.iaload, 1) := by decide +kernel
theorem dX12_keep_125 : decode cX12_keep 125 = .ok (.iastore, 1) := by decide +kernel
theorem dX12_keep_126 : decode cX12_keep 126 = .ok (.aload_n 0, 1) := by decide +kernel
theorem dX12_keep_127 : decode cX12_keep 127 = .ok (.getfield 7, 3) := by decide +kernel
theorem dX12_keep_130 : decode cX12_keep 130 = .ok (.iload_n 1, 1) := by decide +kernel
theorem dX12_keep_131 : decode cX12_keep 131 = .ok (.iconst 3, 1) := by decide +kernel
theorem dX12_keep_132 : decode cX12_keep 132 = .ok (.iadd, 1) := by decide +kernel
theorem dX12_keep_133 : decode cX12_keep 133 = .ok (.iconst 2, 1) := by decide +kernel
theorem dX12_keep_134 : decode cX12_keep 134 = .ok (.iload_n 2, 1) := by decide +kernel
theorem dX12_keep_135 : decode cX12_keep 135 = .ok (.imul, 1) := by decide +kernel
theorem dX12_keep_136 : decode cX12_keep 136 = .ok (.iadd, 1) := by decide +kernel
theorem dX12_keep_137 : decode cX12_keep 137 = .ok (.aload_n 0, 1) := by decide +kernel
theorem dX12_keep_138 : decode cX12_keep 138 = .ok (.getfield 7, 3) := by decide +kernel
theorem dX12_keep_141 : decode cX12_keep 141 = .ok (.iload_n 2, 1) := by decide +kernel
theorem dX12_keep_142 : decode cX12_keep 142 = .ok (.invokestatic 77, 3) := by decide +kernel
theorem dX12_keep_145 : decode cX12_keep 145 = .ok (.iconst 1, 1) := by decide +kernel
theorem dX12_keep_146 : decode cX12_keep 146 = .ok (.iadd, 1) := by decide +kernel
theorem dX12_keep_147 : decode cX12_keep 147 = .ok (.iaload, 1) := by decide +kernel
theorem dX12_keep_148 : decode cX12_keep 148 = .ok (.iastore, 1) := by decide +kernel
theorem dX12_keep_149 : decode cX12_keep 149 = .ok (.iinc 2 1, 3) := by decide +kernel
theorem dX12_keep_152 : decode cX12_keep 152 = .ok (.goto (-53), 3) := by decide +kernel
theorem dX12_keep_155 : decode cX12_keep 155 = .ok (.aload_n 0, 1) := by decide +kernel
theorem dX12_keep_156 : decode cX12_keep 156 = .ok (.getfield 7, 3) := by decide +kernel
theorem dX12_keep_159 : decode cX12_keep 159 = .ok (.bipush 6, 2) := by decide +kernel
theorem dX12_keep_161 : decode cX12_keep 161 = .ok (.dup2, 1) := by decide +kernel
theorem dX12_keep_162 : decode cX12_keep 162 = .ok (.iaload, 1) := by decide +kernel
theorem dX12_keep_163 : decode cX12_keep 163 = .ok (.iconst 1, 1) := by decide +kernel
theorem dX12_keep_164 : decode cX12_keep 164 = .ok (.iadd, 1) := by decide +kernel
theorem dX12_keep_165 : decode cX12_keep 165 = .ok (.iastore, 1) := by decide +kernel
theorem dX12_keep_166 : decode cX12_keep 166 = .ok (.return_, 1) := by decide +kernel
theorem dX12_undo_0 : decode cX12_undo 0 = .ok (.aload_n 0, 1) := by decide +kernel
theorem dX12_undo_1 : decode cX12_undo 1 = .ok (.getfield 7, 3) := by decide +kernel
theorem dX12_undo_4 : decode cX12_undo 4 = .ok (.bipush 6, 2) := by decide +kernel
theorem dX12_undo_6 : decode cX12_undo 6 = .ok (.iaload, 1) := by decide +kernel
theorem dX12_undo_7 : decode cX12_undo 7 = .ok (.ifCond .ne 5, 3) := by decide +kernel
theorem dX12_undo_10 : decode cX12_undo 10 = .ok (.iconst (-1), 1) := by decide +kernel
theorem dX12_undo_11 : decode cX12_undo 11 = .ok (.ireturn, 1) := by decide +kernel
theorem dX12_undo_12 : decode cX12_undo 12 = .ok (.aload_n 0, 1) := by decide +kernel
theorem dX12_undo_13 : decode cX12_undo 13 = .ok (.getfield 7, 3) := by decide +kernel
theorem dX12_undo_16 : decode cX12_undo 16 = .ok (.bipush 6, 2) := by decide +kernel
theorem dX12_undo_18 : decode cX12_undo 18 = .ok (.dup2, 1) := by decide +kernel
theorem dX12_undo_19 : decode cX12_undo 19 = .ok (.iaload, 1) := by decide +kernel
theorem dX12_undo_20 : decode cX12_undo 20 = .ok (.iconst 1, 1) := by decide +kernel
theorem dX12_undo_21 : decode cX12_undo 21 = .ok (.isub, 1) := by decide +kernel
theorem dX12_undo_22 : decode cX12_undo 22 = .ok (.iastore, 1) := by decide +kernel
theorem dX12_undo_23 : decode cX12_undo 23 = .ok (.bipush 120, 2) := by decide +kernel
theorem dX12_undo_25 : decode cX12_undo 25 = .ok (.bipush 22, 2) := by decide +kernel
theorem dX12_undo_27 : decode cX12_undo 27 = .ok (.aload_n 0, 1) := by decide +kernel
theorem dX12_undo_28 : decode cX12_undo 28 = .ok (.getfield 7, 3) := by decide +kernel
theorem dX12_undo_31 : decode cX12_undo 31 = .ok (.bipush 6, 2) := by decide +kernel
theorem dX12_undo_33 : decode cX12_undo 33 = .ok (.iaload, 1) := by decide +kernel
theorem dX12_undo_34 : decode cX12_undo 34 = .ok (.imul, 1) := by decide +kernel
theorem dX12_undo_35 : decode cX12_undo 35 = .ok (.iadd, 1) := by decide +kernel
theorem dX12_undo_36 : decode cX12_undo 36 = .ok (.istore_n 1, 1) := by decide +kernel
theorem dX12_undo_37 : decode cX12_undo 37 = .ok (.aload_n 0, 1) := by decide +kernel
theorem dX12_undo_38 : decode cX12_undo 38 = .ok (.getfield 7, 3) := by decide +kernel
theorem dX12_undo_41 : decode cX12_undo 41 = .ok (.iconst 1, 1) := by decide +kernel
theorem dX12_undo_42 : decode cX12_undo 42 = .ok (.aload_n 0, 1) := by decide +kernel
theorem dX12_undo_43 : decode cX12_undo 43 = .ok (.getfield 7, 3) := by decide +kernel
theorem dX12_undo_46 : decode cX12_undo 46 = .ok (.iload_n 1, 1) := by decide +kernel
theorem dX12_undo_47 : decode cX12_undo 47 = .ok (.iaload, 1) := by decide +kernel
theorem dX12_undo_48 : decode cX12_undo 48 = .ok (.iastore, 1) := by decide +kernel
theorem dX12_undo_49 : decode cX12_undo 49 = .ok (.iconst 0, 1) := by decide +kernel
theorem dX12_undo_50 : decode cX12_undo 50 = .ok (.istore_n 2, 1) := by decide +kernel
theorem dX12_undo_51 : decode cX12_undo 51 = .ok (.iload_n 2, 1) := by decide +kernel
theorem dX12_undo_52 : decode cX12_undo 52 = .ok (.aload_n 0, 1) := by decide +kernel
theorem dX12_undo_53 : decode cX12_undo 53 = .ok (.getfield 7, 3) := by decide +kernel
theorem dX12_undo_56 : decode cX12_undo 56 = .ok (.iload_n 1, 1) := by decide +kernel
theorem dX12_undo_57 : decode cX12_undo 57 = .ok (.iconst 1, 1) := by decide +kernel
theorem dX12_undo_58 : decode cX12_undo 58 = .ok (.iadd, 1) := by decide +kernel
theorem dX12_undo_59 : decode cX12_undo 59 = .ok (.iaload, 1) := by decide +kernel
theorem dX12_undo_60 : decode cX12_undo 60 = .ok (.if_icmp .ge 53, 3) := by decide +kernel
theorem dX12_undo_63 : decode cX12_undo 63 = .ok (.aload_n 0, 1) := by decide +kernel
theorem dX12_undo_64 : decode cX12_undo 64 = .ok (.getfield 7, 3) := by decide +kernel
theorem dX12_undo_67 : decode cX12_undo 67 = .ok (.iload_n 2, 1) := by decide +kernel
theorem dX12_undo_68 : decode cX12_undo 68 = .ok (.invokestatic 77, 3) := by decide +kernel
theorem dX12_undo_71 : decode cX12_undo 71 = .ok (.aload_n 0, 1) := by decide +kernel
theorem dX12_undo_72 : decode cX12_undo 72 = .ok (.getfield 7, 3) := by decide +kernel
theorem dX12_undo_75 : decode cX12_undo 75 = .ok (.iload_n 1, 1) := by decide +kernel
theorem dX12_undo_76 : decode cX12_undo 76 = .ok (.iconst 2, 1) := by decide +kernel
theorem dX12_undo_77 : decode cX12_undo 77 = .ok (.iadd, 1) := by decide +kernel
theorem dX12_undo_78 : decode cX12_undo 78 = .ok (.iconst 2, 1) := by decide +kernel
theorem dX12_undo_79 : decode cX12_undo 79 = .ok (.iload_n 2, 1) := by decide +kernel
theorem dX12_undo_80 : decode cX12_undo 80 = .ok (.imul, 1) := by decide +kernel
theorem dX12_undo_81 : decode cX12_undo 81 = .ok (.iadd, 1) := by decide +kernel
theorem dX12_undo_82 : decode cX12_undo 82 = .ok (.iaload, 1) := by decide +kernel
theorem dX12_undo_83 : decode cX12_undo 83 = .ok (.iastore, 1) := by decide +kernel
theorem dX12_undo_84 : decode cX12_undo 84 = .ok (.aload_n 0, 1) := by decide +kernel
theorem dX12_undo_85 : decode cX12_undo 85 = .ok (.getfield 7, 3) := by decide +kernel
theorem dX12_undo_88 : decode cX12_undo 88 = .ok (.iload_n 2, 1) := by decide +kernel
theorem dX12_undo_89 : decode cX12_undo 89 = .ok (.invokestatic 77, 3) := by decide +kernel
theorem dX12_undo_92 : decode cX12_undo 92 = .ok (.iconst 1, 1) := by decide +kernel
theorem dX12_undo_93 : decode cX12_undo 93 = .ok (.iadd, 1) := by decide +kernel
theorem dX12_undo_94 : decode cX12_undo 94 = .ok (.aload_n 0, 1) := by decide +kernel
theorem dX12_undo_95 : decode cX12_undo 95 = .ok (.getfield 7, 3) := by decide +kernel
theorem dX12_undo_98 : decode cX12_undo 98 = .ok (.iload_n 1, 1) := by decide +kernel
theorem dX12_undo_99 : decode cX12_undo 99 = .ok (.iconst 3, 1) := by decide +kernel
theorem dX12_undo_100 : decode cX12_undo 100 = .ok (.iadd, 1) := by decide +kernel
theorem dX12_undo_101 : decode cX12_undo 101 = .ok (.iconst 2, 1) := by decide +kernel
theorem dX12_undo_102 : decode cX12_undo 102 = .ok (.iload_n 2, 1) := by decide +kernel
theorem dX12_undo_103 : decode cX12_undo 103 = .ok (.imul, 1) := by decide +kernel
theorem dX12_undo_104 : decode cX12_undo 104 = .ok (.iadd, 1) := by decide +kernel
theorem dX12_undo_105 : decode cX12_undo 105 = .ok (.iaload, 1) := by decide +kernel
theorem dX12_undo_106 : decode cX12_undo 106 = .ok (.iastore, 1) := by decide +kernel
theorem dX12_undo_107 : decode cX12_undo 107 = .ok (.iinc 2 1, 3) := by decide +kernel
theorem dX12_undo_110 : decode cX12_undo 110 = .ok (.goto (-59), 3) := by decide +kernel
theorem dX12_undo_113 : decode cX12_undo 113 = .ok (.aload_n 0, 1) := by decide +kernel
theorem dX12_undo_114 : decode cX12_undo 114 = .ok (.getfield 7, 3) := by decide +kernel
theorem dX12_undo_117 : decode cX12_undo 117 = .ok (.bipush 6, 2) := by decide +kernel
theorem dX12_undo_119 : decode cX12_undo 119 = .ok (.iaload, 1) := by decide +kernel
theorem dX12_undo_120 : decode cX12_undo 120 = .ok (.ireturn, 1) := by decide +kernel
theorem dX12_lay_0 : decode cX12_lay 0 = .ok (.aload_n 0, 1) := by decide +kernel
theorem dX12_lay_1 : decode cX12_lay 1 = .ok (.iload_n 1, 1) := by decide +kernel
theorem dX12_lay_2 : decode cX12_lay 2 = .ok (.invokevirtual 272, 3) := by decide +kernel
theorem dX12_lay_5 : decode cX12_lay 5 = .ok (.ifCond .eq 17, 3) := by decide +kernel
theorem dX12_lay_8 : decode cX12_lay 8 = .ok (.aload_n 0, 1) := by decide +kernel
theorem dX12_lay_9 : decode cX12_lay 9 = .ok (.iload_n 1, 1) := by decide +kernel
theorem dX12_lay_10 : decode cX12_lay 10 = .ok (.aload_n 0, 1) := by decide +kernel
theorem dX12_lay_11 : decode cX12_lay 11 = .ok (.getfield 7, 3) := by decide +kernel
theorem dX12_lay_14 : decode cX12_lay 14 = .ok (.iconst 1, 1) := by decide +kernel
theorem dX12_lay_15 : decode cX12_lay 15 = .ok (.iaload, 1) := by decide +kernel
theorem dX12_lay_16 : decode cX12_lay 16 = .ok (.invokevirtual 275, 3) := by decide +kernel
theorem dX12_lay_19 : decode cX12_lay 19 = .ok (.ifCond .ne 5, 3) := by decide +kernel
theorem dX12_lay_22 : decode cX12_lay 22 = .ok (.iconst (-1), 1) := by decide +kernel
theorem dX12_lay_23 : decode cX12_lay 23 = .ok (.ireturn, 1) := by decide +kernel
theorem dX12_lay_24 : decode cX12_lay 24 = .ok (.aload_n 0, 1) := by decide +kernel
theorem dX12_lay_25 : decode cX12_lay 25 = .ok (.iload_n 1, 1) := by decide +kernel
theorem dX12_lay_26 : decode cX12_lay 26 = .ok (.aload_n 0, 1) := by decide +kernel
theorem dX12_lay_27 : decode cX12_lay 27 = .ok (.getfield 7, 3) := by decide +kernel
theorem dX12_lay_30 : decode cX12_lay 30 = .ok (.iconst 1, 1) := by decide +kernel
theorem dX12_lay_31 : decode cX12_lay 31 = .ok (.iaload, 1) := by decide +kernel
theorem dX12_lay_32 : decode cX12_lay 32 = .ok (.invokevirtual 278, 3) := by decide +kernel
theorem dX12_lay_35 : decode cX12_lay 35 = .ok (.istore_n 2, 1) := by decide +kernel
theorem dX12_lay_36 : decode cX12_lay 36 = .ok (.aload_n 0, 1) := by decide +kernel
theorem dX12_lay_37 : decode cX12_lay 37 = .ok (.invokevirtual 284, 3) := by decide +kernel
theorem dX12_lay_40 : decode cX12_lay 40 = .ok (.aload_n 0, 1) := by decide +kernel
theorem dX12_lay_41 : decode cX12_lay 41 = .ok (.getfield 7, 3) := by decide +kernel
theorem dX12_lay_44 : decode cX12_lay 44 = .ok (.iconst 1, 1) := by decide +kernel
theorem dX12_lay_45 : decode cX12_lay 45 = .ok (.dup2, 1) := by decide +kernel
theorem dX12_lay_46 : decode cX12_lay 46 = .ok (.iaload, 1) := by decide +kernel
theorem dX12_lay_47 : decode cX12_lay 47 = .ok (.iconst 1, 1) := by decide +kernel
theorem dX12_lay_48 : decode cX12_lay 48 = .ok (.iload_n 1, 1) := by decide +kernel
theorem dX12_lay_49 : decode cX12_lay 49 = .ok (.ishl, 1) := by decide +kernel
theorem dX12_lay_50 : decode cX12_lay 50 = .ok (.ior, 1) := by decide +kernel
theorem dX12_lay_51 : decode cX12_lay 51 = .ok (.iastore, 1) := by decide +kernel
theorem dX12_lay_52 : decode cX12_lay 52 = .ok (.iload_n 2, 1) := by decide +kernel
theorem dX12_lay_53 : decode cX12_lay 53 = .ok (.ireturn, 1) := by decide +kernel
theorem dX12_out_0 : decode cX12_out 0 = .ok (.aload_n 0, 1) := by decide +kernel
theorem dX12_out_1 : decode cX12_out 1 = .ok (.iload_n 1, 1) := by decide +kernel
theorem dX12_out_2 : decode cX12_out 2 = .ok (.invokevirtual 272, 3) := by decide +kernel
theorem dX12_out_5 : decode cX12_out 5 = .ok (.ifCond .eq 35, 3) := by decide +kernel
theorem dX12_out_8 : decode cX12_out 8 = .ok (.aload_n 0, 1) := by decide +kernel
theorem dX12_out_9 : decode cX12_out 9 = .ok (.getfield 7, 3) := by decide +kernel
theorem dX12_out_12 : decode cX12_out 12 = .ok (.iconst 1, 1) := by decide +kernel
theorem dX12_out_13 : decode cX12_out 13 = .ok (.iaload, 1) := by decide +kernel
theorem dX12_out_14 : decode cX12_out 14 = .ok (.iload_n 1, 1) := by decide +kernel
theorem dX12_out_15 : decode cX12_out 15 = .ok (.invokestatic 249, 3) := by decide +kernel
theorem dX12_out_18 : decode cX12_out 18 = .ok (.ifCond .eq 22, 3) := by decide +kernel
theorem dX12_out_21 : decode cX12_out 21 = .ok (.aload_n 0, 1) := by decide +kernel
theorem dX12_out_22 : decode cX12_out 22 = .ok (.aload_n 0, 1) := by decide +kernel
theorem dX12_out_23 : decode cX12_out 23 = .ok (.getfield 7, 3) := by decide +kernel
theorem dX12_out_26 : decode cX12_out 26 = .ok (.iconst 1, 1) := by decide +kernel
theorem dX12_out_27 : decode cX12_out 27 = .ok (.iaload, 1) := by decide +kernel
theorem dX12_out_28 : decode cX12_out 28 = .ok (.iconst 1, 1) := by decide +kernel
theorem dX12_out_29 : decode cX12_out 29 = .ok (.iload_n 1, 1) := by decide +kernel
theorem dX12_out_30 : decode cX12_out 30 = .ok (.ishl, 1) := by decide +kernel
theorem dX12_out_31 : decode cX12_out 31 = .ok (.iconst (-1), 1) := by decide +kernel
theorem dX12_out_32 : decode cX12_out 32 = .ok (.ixor, 1) := by decide +kernel
theorem dX12_out_33 : decode cX12_out 33 = .ok (.iand, 1) := by decide +kernel
theorem dX12_out_34 : decode cX12_out 34 = .ok (.invokevirtual 256, 3) := by decide +kernel
theorem dX12_out_37 : decode cX12_out 37 = .ok (.ifCond .ne 5, 3) := by decide +kernel
theorem dX12_out_40 : decode cX12_out 40 = .ok (.iconst (-1), 1) := by decide +kernel
theorem dX12_out_41 : decode cX12_out 41 = .ok (.ireturn, 1) := by decide +kernel
theorem dX12_out_42 : decode cX12_out 42 = .ok (.aload_n 0, 1) := by decide +kernel
theorem dX12_out_43 : decode cX12_out 43 = .ok (.invokevirtual 284, 3) := by decide +kernel
theorem dX12_out_46 : decode cX12_out 46 = .ok (.aload_n 0, 1) := by decide +kernel
theorem dX12_out_47 : decode cX12_out 47 = .ok (.getfield 7, 3) := by decide +kernel
theorem dX12_out_50 : decode cX12_out 50 = .ok (.iconst 1, 1) := by decide +kernel
theorem dX12_out_51 : decode cX12_out 51 = .ok (.dup2, 1) := by decide +kernel
theorem dX12_out_52 : decode cX12_out 52 = .ok (.iaload, 1) := by decide +kernel
theorem dX12_out_53 : decode cX12_out 53 = .ok (.iconst 1, 1) := by decide +kernel
theorem dX12_out_54 : decode cX12_out 54 = .ok (.iload_n 1, 1) := by decide +kernel
theorem dX12_out_55 : decode cX12_out 55 = .ok (.ishl, 1) := by decide +kernel
theorem dX12_out_56 : decode cX12_out 56 = .ok (.iconst (-1), 1) := by decide +kernel
theorem dX12_out_57 : decode cX12_out 57 = .ok (.ixor, 1) := by decide +kernel
theorem dX12_out_58 : decode cX12_out 58 = .ok (.iand, 1) := by decide +kernel
theorem dX12_out_59 : decode cX12_out 59 = .ok (.iastore, 1) := by decide +kernel
theorem dX12_out_60 : decode cX12_out 60 = .ok (.aload_n 0, 1) := by decide +kernel
theorem dX12_out_61 : decode cX12_out 61 = .ok (.getfield 7, 3) := by decide +kernel
theorem dX12_out_64 : decode cX12_out 64 = .ok (.iconst 1, 1) := by decide +kernel
theorem dX12_out_65 : decode cX12_out 65 = .ok (.iaload, 1) := by decide +kernel
theorem dX12_out_66 : decode cX12_out 66 = .ok (.invokestatic 70, 3) := by decide +kernel
theorem dX12_out_69 : decode cX12_out 69 = .ok (.ireturn, 1) := by decide +kernel
theorem dX12_canLend_0 : decode cX12_canLend 0 = .ok (.aload_n 0, 1) := by decide +kernel
theorem dX12_canLend_1 : decode cX12_canLend 1 = .ok (.iload_n 1, 1) := by decide +kernel
theorem dX12_canLend_2 : decode cX12_canLend 2 = .ok (.invokevirtual 80, 3) := by decide +kernel
theorem dX12_canLend_5 : decode cX12_canLend 5 = .ok (.ifCond .eq 45, 3) := by decide +kernel
theorem dX12_canLend_8 : decode cX12_canLend 8 = .ok (.aload_n 0, 1) := by decide +kernel
theorem dX12_canLend_9 : decode cX12_canLend 9 = .ok (.iload_n 2, 1) := by decide +kernel
theorem dX12_canLend_10 : decode cX12_canLend 10 = .ok (.invokevirtual 80, 3) := by decide +kernel
theorem dX12_canLend_13 : decode cX12_canLend 13 = .ok (.ifCond .eq 37, 3) := by decide +kernel
theorem dX12_canLend_16 : decode cX12_canLend 16 = .ok (.aload_n 0, 1) := by decide +kernel
theorem dX12_canLend_17 : decode cX12_canLend 17 = .ok (.getfield 7, 3) := by decide +kernel
theorem dX12_canLend_20 : decode cX12_canLend 20 = .ok (.iload_n 1, 1) := by decide +kernel
theorem dX12_canLend_21 : decode cX12_canLend 21 = .ok (.invokestatic 77, 3) := by decide +kernel
theorem dX12_canLend_24 : decode cX12_canLend 24 = .ok (.iconst 2, 1) := by decide +kernel
theorem dX12_canLend_25 : decode cX12_canLend 25 = .ok (.iadd, 1) := by decide +kernel
theorem dX12_canLend_26 : decode cX12_canLend 26 = .ok (.iaload, 1) := by decide +kernel
theorem dX12_canLend_27 : decode cX12_canLend 27 = .ok (.iload_n 2, 1) := by decide +kernel
theorem dX12_canLend_28 : decode cX12_canLend 28 = .ok (.invokestatic 249, 3) := by decide +kernel
theorem dX12_canLend_31 : decode cX12_canLend 31 = .ok (.ifCond .eq 19, 3) := by decide +kernel
theorem dX12_canLend_34 : decode cX12_canLend 34 = .ok (.aload_n 0, 1) := by decide +kernel
theorem dX12_canLend_35 : decode cX12_canLend 35 = .ok (.getfield 7, 3) := by decide +kernel
theorem dX12_canLend_38 : decode cX12_canLend 38 = .ok (.iload_n 1, 1) := by decide +kernel
theorem dX12_canLend_39 : decode cX12_canLend 39 = .ok (.invokestatic 77, 3) := by decide +kernel
theorem dX12_canLend_42 : decode cX12_canLend 42 = .ok (.iaload, 1) := by decide +kernel
theorem dX12_canLend_43 : decode cX12_canLend 43 = .ok (.ifCond .le 7, 3) := by decide +kernel
theorem dX12_canLend_46 : decode cX12_canLend 46 = .ok (.iconst 1, 1) := by decide +kernel
theorem dX12_canLend_47 : decode cX12_canLend 47 = .ok (.goto 4, 3) := by decide +kernel
theorem dX12_canLend_50 : decode cX12_canLend 50 = .ok (.iconst 0, 1) := by decide +kernel
theorem dX12_canLend_51 : decode cX12_canLend 51 = .ok (.ireturn, 1) := by decide +kernel
theorem dX12_lends_0 : decode cX12_lends 0 = .ok (.aload_n 0, 1) := by decide +kernel
theorem dX12_lends_1 : decode cX12_lends 1 = .ok (.getfield 7, 3) := by decide +kernel
theorem dX12_lends_4 : decode cX12_lends 4 = .ok (.iload_n 1, 1) := by decide +kernel
theorem dX12_lends_5 : decode cX12_lends 5 = .ok (.invokestatic 77, 3) := by decide +kernel
theorem dX12_lends_8 : decode cX12_lends 8 = .ok (.dup2, 1) := by decide +kernel
theorem dX12_lends_9 : decode cX12_lends 9 = .ok (.iaload, 1) := by decide +kernel
theorem dX12_lends_10 : decode cX12_lends 10 = .ok (.iconst 1, 1) := by decide +kernel
theorem dX12_lends_11 : decode cX12_lends 11 = .ok (.isub, 1) := by decide +kernel
theorem dX12_lends_12 : decode cX12_lends 12 = .ok (.iastore, 1) := by decide +kernel
theorem dX12_lends_13 : decode cX12_lends 13 = .ok (.aload_n 0, 1) := by decide +kernel
theorem dX12_lends_14 : decode cX12_lends 14 = .ok (.getfield 7, 3) := by decide +kernel
theorem dX12_lends_17 : decode cX12_lends 17 = .ok (.iload_n 1, 1) := by decide +kernel
theorem dX12_lends_18 : decode cX12_lends 18 = .ok (.invokestatic 77, 3) := by decide +kernel
theorem dX12_lends_21 : decode cX12_lends 21 = .ok (.iconst 1, 1) := by decide +kernel
theorem dX12_lends_22 : decode cX12_lends 22 = .ok (.iadd, 1) := by decide +kernel
theorem dX12_lends_23 : decode cX12_lends 23 = .ok (.dup2, 1) := by decide +kernel
theorem dX12_lends_24 : decode cX12_lends 24 = .ok (.iaload, 1) := by decide +kernel
theorem dX12_lends_25 : decode cX12_lends 25 = .ok (.iconst 1, 1) := by decide +kernel
theorem dX12_lends_26 : decode cX12_lends 26 = .ok (.isub, 1) := by decide +kernel
theorem dX12_lends_27 : decode cX12_lends 27 = .ok (.iastore, 1) := by decide +kernel
theorem dX12_lends_28 : decode cX12_lends 28 = .ok (.aload_n 0, 1) := by decide +kernel
theorem dX12_lends_29 : decode cX12_lends 29 = .ok (.getfield 7, 3) := by decide +kernel
theorem dX12_lends_32 : decode cX12_lends 32 = .ok (.iload_n 2, 1) := by decide +kernel
theorem dX12_lends_33 : decode cX12_lends 33 = .ok (.invokestatic 77, 3) := by decide +kernel
theorem dX12_lends_36 : decode cX12_lends 36 = .ok (.dup2, 1) := by decide +kernel
theorem dX12_lends_37 : decode cX12_lends 37 = .ok (.iaload, 1) := by decide +kernel
theorem dX12_lends_38 : decode cX12_lends 38 = .ok (.iconst 1, 1) := by decide +kernel
theorem dX12_lends_39 : decode cX12_lends 39 = .ok (.iadd, 1) := by decide +kernel
theorem dX12_lends_40 : decode cX12_lends 40 = .ok (.iastore, 1) := by decide +kernel
theorem dX12_lends_41 : decode cX12_lends 41 = .ok (.aload_n 0, 1) := by decide +kernel
theorem dX12_lends_42 : decode cX12_lends 42 = .ok (.getfield 7, 3) := by decide +kernel
theorem dX12_lends_45 : decode cX12_lends 45 = .ok (.iload_n 2, 1) := by decide +kernel
theorem dX12_lends_46 : decode cX12_lends 46 = .ok (.invokestatic 77, 3) := by decide +kernel
theorem dX12_lends_49 : decode cX12_lends 49 = .ok (.iconst 1, 1) := by decide +kernel
theorem dX12_lends_50 : decode cX12_lends 50 = .ok (.iadd, 1) := by decide +kernel
theorem dX12_lends_51 : decode cX12_lends 51 = .ok (.dup2, 1) := by decide +kernel
theorem dX12_lends_52 : decode cX12_lends 52 = .ok (.iaload, 1) := by decide +kernel
theorem dX12_lends_53 : decode cX12_lends 53 = .ok (.iconst 1, 1) := by decide +kernel
theorem dX12_lends_54 : decode cX12_lends 54 = .ok (.iadd, 1) := by decide +kernel
theorem dX12_lends_55 : decode cX12_lends 55 = .ok (.iastore, 1) := by decide +kernel
theorem dX12_lends_56 : decode cX12_lends 56 = .ok (.return_, 1) := by decide +kernel
theorem dX12_lend_0 : decode cX12_lend 0 = .ok (.aload_n 0, 1) := by decide +kernel
theorem dX12_lend_1 : decode cX12_lend 1 = .ok (.iload_n 1, 1) := by decide +kernel
theorem dX12_lend_2 : decode cX12_lend 2 = .ok (.iload_n 2, 1) := by decide +kernel
theorem dX12_lend_3 : decode cX12_lend 3 = .ok (.invokevirtual 287, 3) := by decide +kernel
theorem dX12_lend_6 : decode cX12_lend 6 = .ok (.ifCond .ne 5, 3) := by decide +kernel
theorem dX12_lend_9 : decode cX12_lend 9 = .ok (.iconst (-1), 1) := by decide +kernel
theorem dX12_lend_10 : decode cX12_lend 10 = .ok (.ireturn, 1) := by decide +kernel
theorem dX12_lend_11 : decode cX12_lend 11 = .ok (.aload_n 0, 1) := by decide +kernel
theorem dX12_lend_12 : decode cX12_lend 12 = .ok (.invokevirtual 284, 3) := by decide +kernel
theorem dX12_lend_15 : decode cX12_lend 15 = .ok (.aload_n 0, 1) := by decide +kernel
theorem dX12_lend_16 : decode cX12_lend 16 = .ok (.iload_n 1, 1) := by decide +kernel
theorem dX12_lend_17 : decode cX12_lend 17 = .ok (.iload_n 2, 1) := by decide +kernel
theorem dX12_lend_18 : decode cX12_lend 18 = .ok (.invokevirtual 290, 3) := by decide +kernel
theorem dX12_lend_21 : decode cX12_lend 21 = .ok (.aload_n 0, 1) := by decide +kernel
theorem dX12_lend_22 : decode cX12_lend 22 = .ok (.getfield 7, 3) := by decide +kernel
theorem dX12_lend_25 : decode cX12_lend 25 = .ok (.iload_n 1, 1) := by decide +kernel
theorem dX12_lend_26 : decode cX12_lend 26 = .ok (.invokestatic 77, 3) := by decide +kernel
theorem dX12_lend_29 : decode cX12_lend 29 = .ok (.iaload, 1) := by decide +kernel
theorem dX12_lend_30 : decode cX12_lend 30 = .ok (.ireturn, 1) := by decide +kernel
theorem dX12_isPlayed_0 : decode cX12_isPlayed 0 = .ok (.aload_n 0, 1) := by decide +kernel
theorem dX12_isPlayed_1 : decode cX12_isPlayed 1 = .ok (.getfield 16, 3) := by decide +kernel
theorem dX12_isPlayed_4 : decode cX12_isPlayed 4 = .ok (.iload_n 1, 1) := by decide +kernel
theorem dX12_isPlayed_5 : decode cX12_isPlayed 5 = .ok (.iaload, 1) := by decide +kernel
theorem dX12_isPlayed_6 : decode cX12_isPlayed 6 = .ok (.tableswitch 97 3 5 #[26, 47, 68], 26) := by decide +kernel
theorem dX12_isPlayed_32 : decode cX12_isPlayed 32 = .ok (.aload_n 0, 1) := by decide +kernel
theorem dX12_isPlayed_33 : decode cX12_isPlayed 33 = .ok (.aload_n 0, 1) := by decide +kernel
theorem dX12_isPlayed_34 : decode cX12_isPlayed 34 = .ok (.getfield 16, 3) := by decide +kernel
theorem dX12_isPlayed_37 : decode cX12_isPlayed 37 = .ok (.iload_n 1, 1) := by decide +kernel
theorem dX12_isPlayed_38 : decode cX12_isPlayed 38 = .ok (.iconst 1, 1) := by decide +kernel
theorem dX12_isPlayed_39 : decode cX12_isPlayed 39 = .ok (.iadd, 1) := by decide +kernel
theorem dX12_isPlayed_40 : decode cX12_isPlayed 40 = .ok (.iaload, 1) := by decide +kernel
theorem dX12_isPlayed_41 : decode cX12_isPlayed 41 = .ok (.invokevirtual 293, 3) := by decide +kernel
theorem dX12_isPlayed_44 : decode cX12_isPlayed 44 = .ok (.ifCond .lt 7, 3) := by decide +kernel
theorem dX12_isPlayed_47 : decode cX12_isPlayed 47 = .ok (.iconst 1, 1) := by decide +kernel
theorem dX12_isPlayed_48 : decode cX12_isPlayed 48 = .ok (.goto 4, 3) := by decide +kernel
theorem dX12_isPlayed_51 : decode cX12_isPlayed 51 = .ok (.iconst 0, 1) := by decide +kernel
theorem dX12_isPlayed_52 : decode cX12_isPlayed 52 = .ok (.ireturn, 1) := by decide +kernel
theorem dX12_isPlayed_53 : decode cX12_isPlayed 53 = .ok (.aload_n 0, 1) := by decide +kernel
theorem dX12_isPlayed_54 : decode cX12_isPlayed 54 = .ok (.aload_n 0, 1) := by decide +kernel
theorem dX12_isPlayed_55 : decode cX12_isPlayed 55 = .ok (.getfield 16, 3) := by decide +kernel
theorem dX12_isPlayed_58 : decode cX12_isPlayed 58 = .ok (.iload_n 1, 1) := by decide +kernel
theorem dX12_isPlayed_59 : decode cX12_isPlayed 59 = .ok (.iconst 1, 1) := by decide +kernel
theorem dX12_isPlayed_60 : decode cX12_isPlayed 60 = .ok (.iadd, 1) := by decide +kernel
theorem dX12_isPlayed_61 : decode cX12_isPlayed 61 = .ok (.iaload, 1) := by decide +kernel
theorem dX12_isPlayed_62 : decode cX12_isPlayed 62 = .ok (.invokevirtual 296, 3) := by decide +kernel
theorem dX12_isPlayed_65 : decode cX12_isPlayed 65 = .ok (.ifCond .lt 7, 3) := by decide +kernel
theorem dX12_isPlayed_68 : decode cX12_isPlayed 68 = .ok (.iconst 1, 1) := by decide +kernel
theorem dX12_isPlayed_69 : decode cX12_isPlayed 69 = .ok (.goto 4, 3) := by decide +kernel
theorem dX12_isPlayed_72 : decode cX12_isPlayed 72 = .ok (.iconst 0, 1) := by decide +kernel
theorem dX12_isPlayed_73 : decode cX12_isPlayed 73 = .ok (.ireturn, 1) := by decide +kernel
theorem dX12_isPlayed_74 : decode cX12_isPlayed 74 = .ok (.aload_n 0, 1) := by decide +kernel
theorem dX12_isPlayed_75 : decode cX12_isPlayed 75 = .ok (.aload_n 0, 1) := by decide +kernel
theorem dX12_isPlayed_76 : decode cX12_isPlayed 76 = .ok (.getfield 16, 3) := by decide +kernel
theorem dX12_isPlayed_79 : decode cX12_isPlayed 79 = .ok (.iload_n 1, 1) := by decide +kernel
theorem dX12_isPlayed_80 : decode cX12_isPlayed 80 = .ok (.iconst 1, 1) := by decide +kernel
theorem dX12_isPlayed_81 : decode cX12_isPlayed 81 = .ok (.iadd, 1) := by decide +kernel
theorem dX12_isPlayed_82 : decode cX12_isPlayed 82 = .ok (.iaload, 1) := by decide +kernel
theorem dX12_isPlayed_83 : decode cX12_isPlayed 83 = .ok (.aload_n 0, 1) := by decide +kernel
theorem dX12_isPlayed_84 : decode cX12_isPlayed 84 = .ok (.getfield 16, 3) := by decide +kernel
theorem dX12_isPlayed_87 : decode cX12_isPlayed 87 = .ok (.iload_n 1, 1) := by decide +kernel
theorem dX12_isPlayed_88 : decode cX12_isPlayed 88 = .ok (.iconst 2, 1) := by decide +kernel
theorem dX12_isPlayed_89 : decode cX12_isPlayed 89 = .ok (.iadd, 1) := by decide +kernel
theorem dX12_isPlayed_90 : decode cX12_isPlayed 90 = .ok (.iaload, 1) := by decide +kernel
theorem dX12_isPlayed_91 : decode cX12_isPlayed 91 = .ok (.invokevirtual 299, 3) := by decide +kernel
theorem dX12_isPlayed_94 : decode cX12_isPlayed 94 = .ok (.ifCond .lt 7, 3) := by decide +kernel
theorem dX12_isPlayed_97 : decode cX12_isPlayed 97 = .ok (.iconst 1, 1) := by decide +kernel
theorem dX12_isPlayed_98 : decode cX12_isPlayed 98 = .ok (.goto 4, 3) := by decide +kernel
theorem dX12_isPlayed_101 : decode cX12_isPlayed 101 = .ok (.iconst 0, 1) := by decide +kernel
theorem dX12_isPlayed_102 : decode cX12_isPlayed 102 = .ok (.ireturn, 1) := by decide +kernel
theorem dX12_isPlayed_103 : decode cX12_isPlayed 103 = .ok (.iconst 1, 1) := by decide +kernel
theorem dX12_isPlayed_104 : decode cX12_isPlayed 104 = .ok (.ireturn, 1) := by decide +kernel
theorem dX12_played_0 : decode cX12_played 0 = .ok (.iload_n 1, 1) := by decide +kernel
theorem dX12_played_1 : decode cX12_played 1 = .ok (.iconst 0, 1) := by decide +kernel
theorem dX12_played_2 : decode cX12_played 2 = .ok (.aload_n 0, 1) := by decide +kernel
theorem dX12_played_3 : decode cX12_played 3 = .ok (.getfield 7, 3) := by decide +kernel
theorem dX12_played_6 : decode cX12_played 6 = .ok (.iconst 4, 1) := by decide +kernel
theorem dX12_played_7 : decode cX12_played 7 = .ok (.iaload, 1) := by decide +kernel
theorem dX12_played_8 : decode cX12_played 8 = .ok (.iconst 1, 1) := by decide +kernel
theorem dX12_played_9 : decode cX12_played 9 = .ok (.isub, 1) := by decide +kernel
theorem dX12_played_10 : decode cX12_played 10 = .ok (.invokestatic 62, 3) := by decide +kernel
theorem dX12_played_13 : decode cX12_played 13 = .ok (.ifCond .ne 6, 3) := by decide +kernel
theorem dX12_played_16 : decode cX12_played 16 = .ok (.bipush (-2), 2) := by decide +kernel
theorem dX12_played_18 : decode cX12_played 18 = .ok (.ireturn, 1) := by decide +kernel
theorem dX12_played_19 : decode cX12_played 19 = .ok (.iconst 0, 1) := by decide +kernel
theorem dX12_played_20 : decode cX12_played 20 = .ok (.istore_n 2, 1) := by decide +kernel
theorem dX12_played_21 : decode cX12_played 21 = .ok (.iload_n 2, 1) := by decide +kernel
theorem dX12_played_22 : decode cX12_played 22 = .ok (.aload_n 0, 1) := by decide +kernel
theorem dX12_played_23 : decode cX12_played 23 = .ok (.getfield 16, 3) := by decide +kernel
theorem dX12_played_26 : decode cX12_played 26 = .ok (.sipush 680, 3) := by decide +kernel
theorem dX12_played_29 : decode cX12_played 29 = .ok (.iload_n 1, 1) := by decide +kernel
theorem dX12_played_30 : decode cX12_played 30 = .ok (.imul, 1) := by decide +kernel
theorem dX12_played_31 : decode cX12_played 31 = .ok (.iaload, 1) := by decide +kernel
theorem dX12_played_32 : decode cX12_played 32 = .ok (.if_icmp .ge 29, 3) := by decide +kernel
theorem dX12_played_35 : decode cX12_played 35 = .ok (.aload_n 0, 1) := by decide +kernel
theorem dX12_played_36 : decode cX12_played 36 = .ok (.sipush 680, 3) := by decide +kernel
theorem dX12_played_39 : decode cX12_played 39 = .ok (.iload_n 1, 1) := by decide +kernel
theorem dX12_played_40 : decode cX12_played 40 = .ok (.imul, 1) := by decide +kernel
theorem dX12_played_41 : decode cX12_played 41 = .ok (.iconst 1, 1) := by decide +kernel
theorem dX12_played_42 : decode cX12_played 42 = .ok (.iadd, 1) := by decide +kernel
theorem dX12_played_43 : decode cX12_played 43 = .ok (.iconst 3, 1) := by decide +kernel
theorem dX12_played_44 : decode cX12_played 44 = .ok (.iload_n 2, 1) := by decide +kernel
theorem dX12_played_45 : decode cX12_played 45 = .ok (.imul, 1) := by decide +kernel
theorem dX12_played_46 : decode cX12_played 46 = .ok (.iadd, 1) := by decide +kernel
theorem dX12_played_47 : decode cX12_played 47 = .ok (.invokevirtual 302, 3) := by decide +kernel
theorem dX12_played_50 : decode cX12_played 50 = .ok (.ifCond .ne 5, 3) := by decide +kernel
theorem dX12_played_53 : decode cX12_played 53 = .ok (.iload_n 2, 1) := by decide +kernel
theorem dX12_played_54 : decode cX12_played 54 = .ok (.ireturn, 1) := by decide +kernel
theorem dX12_played_55 : decode cX12_played 55 = .ok (.iinc 2 1, 3) := by decide +kernel
theorem dX12_played_58 : decode cX12_played 58 = .ok (.goto (-37), 3) := by decide +kernel
theorem dX12_played_61 : decode cX12_played 61 = .ok (.iconst (-1), 1) := by decide +kernel
theorem dX12_played_62 : decode cX12_played 62 = .ok (.ireturn, 1) := by decide +kernel
theorem dX12_findSought_0 : decode cX12_findSought 0 = .ok (.iconst 0, 1) := by decide +kernel
theorem dX12_findSought_1 : decode cX12_findSought 1 = .ok (.istore_n 1, 1) := by decide +kernel
theorem dX12_findSought_2 : decode cX12_findSought 2 = .ok (.iload_n 1, 1) := by decide +kernel
theorem dX12_findSought_3 : decode cX12_findSought 3 = .ok (.aload_n 0, 1) := by decide +kernel
theorem dX12_findSought_4 : decode cX12_findSought 4 = .ok (.invokevirtual 66, 3) := by decide +kernel
theorem dX12_findSought_7 : decode cX12_findSought 7 = .ok (.if_icmp .gt 24, 3) := by decide +kernel
theorem dX12_findSought_10 : decode cX12_findSought 10 = .ok (.aload_n 0, 1) := by decide +kernel
theorem dX12_findSought_11 : decode cX12_findSought 11 = .ok (.getfield 43, 3) := by decide +kernel
theorem dX12_findSought_14 : decode cX12_findSought 14 = .ok (.iload_n 1, 1) := by decide +kernel
theorem dX12_findSought_15 : decode cX12_findSought 15 = .ok (.iload_n 1, 1) := by decide +kernel
theorem dX12_findSought_16 : decode cX12_findSought 16 = .ok (.ifCond .ne 7, 3) := by decide +kernel
theorem dX12_findSought_19 : decode cX12_findSought 19 = .ok (.iconst 1, 1) := by decide +kernel
theorem dX12_findSought_20 : decode cX12_findSought 20 = .ok (.goto 4, 3) := by decide +kernel
theorem dX12_findSought_23 : decode cX12_findSought 23 = .ok (.iconst 0, 1) := by decide +kernel
end
section
theorem dX12_findSought_24 : decode cX12_findSought 24 = .ok (.bastore, 1) := by decide +kernel
theorem dX12_findSought_25 : decode cX12_findSought 25 = .ok (.iinc 1 1, 3) := by decide +kernel
theorem dX12_findSought_28 : decode cX12_findSought 28 = .ok (.goto (-26), 3) := by decide +kernel
theorem dX12_findSought_31 : decode cX12_findSought 31 = .ok (.aload_n 0, 1) := by decide +kernel
theorem dX12_findSought_32 : decode cX12_findSought 32 = .ok (.iconst 0, 1) := by decide +kernel
theorem dX12_findSought_33 : decode cX12_findSought 33 = .ok (.putfield 305, 3) := by decide +kernel
theorem dX12_findSought_36 : decode cX12_findSought 36 = .ok (.iconst 0, 1) := by decide +kernel
theorem dX12_findSought_37 : decode cX12_findSought 37 = .ok (.istore_n 1, 1) := by decide +kernel
theorem dX12_findSought_38 : decode cX12_findSought 38 = .ok (.iload_n 1, 1) := by decide +kernel
theorem dX12_findSought_39 : decode cX12_findSought 39 = .ok (.aload_n 0, 1) := by decide +kernel
theorem dX12_findSought_40 : decode cX12_findSought 40 = .ok (.invokevirtual 66, 3) := by decide +kernel
theorem dX12_findSought_43 : decode cX12_findSought 43 = .ok (.if_icmp .gt 78, 3) := by decide +kernel
theorem dX12_findSought_46 : decode cX12_findSought 46 = .ok (.aload_n 0, 1) := by decide +kernel
theorem dX12_findSought_47 : decode cX12_findSought 47 = .ok (.getfield 43, 3) := by decide +kernel
theorem dX12_findSought_50 : decode cX12_findSought 50 = .ok (.iload_n 1, 1) := by decide +kernel
theorem dX12_findSought_51 : decode cX12_findSought 51 = .ok (.baload, 1) := by decide +kernel
theorem dX12_findSought_52 : decode cX12_findSought 52 = .ok (.ifCond .ne 6, 3) := by decide +kernel
theorem dX12_findSought_55 : decode cX12_findSought 55 = .ok (.goto 60, 3) := by decide +kernel
theorem dX12_findSought_58 : decode cX12_findSought 58 = .ok (.iload_n 1, 1) := by decide +kernel
theorem dX12_findSought_59 : decode cX12_findSought 59 = .ok (.invokestatic 70, 3) := by decide +kernel
theorem dX12_findSought_62 : decode cX12_findSought 62 = .ok (.aload_n 0, 1) := by decide +kernel
theorem dX12_findSought_63 : decode cX12_findSought 63 = .ok (.getfield 305, 3) := by decide +kernel
theorem dX12_findSought_66 : decode cX12_findSought 66 = .ok (.invokestatic 70, 3) := by decide +kernel
theorem dX12_findSought_69 : decode cX12_findSought 69 = .ok (.if_icmp .le 8, 3) := by decide +kernel
theorem dX12_findSought_72 : decode cX12_findSought 72 = .ok (.aload_n 0, 1) := by decide +kernel
theorem dX12_findSought_73 : decode cX12_findSought 73 = .ok (.iload_n 1, 1) := by decide +kernel
theorem dX12_findSought_74 : decode cX12_findSought 74 = .ok (.putfield 305, 3) := by decide +kernel
theorem dX12_findSought_77 : decode cX12_findSought 77 = .ok (.iconst 0, 1) := by decide +kernel
theorem dX12_findSought_78 : decode cX12_findSought 78 = .ok (.istore_n 2, 1) := by decide +kernel
theorem dX12_findSought_79 : decode cX12_findSought 79 = .ok (.iload_n 2, 1) := by decide +kernel
theorem dX12_findSought_80 : decode cX12_findSought 80 = .ok (.aload_n 0, 1) := by decide +kernel
theorem dX12_findSought_81 : decode cX12_findSought 81 = .ok (.getfield 7, 3) := by decide +kernel
theorem dX12_findSought_84 : decode cX12_findSought 84 = .ok (.iconst 0, 1) := by decide +kernel
theorem dX12_findSought_85 : decode cX12_findSought 85 = .ok (.iaload, 1) := by decide +kernel
theorem dX12_findSought_86 : decode cX12_findSought 86 = .ok (.if_icmp .ge 29, 3) := by decide +kernel
theorem dX12_findSought_89 : decode cX12_findSought 89 = .ok (.aload_n 0, 1) := by decide +kernel
theorem dX12_findSought_90 : decode cX12_findSought 90 = .ok (.iload_n 2, 1) := by decide +kernel
theorem dX12_findSought_91 : decode cX12_findSought 91 = .ok (.iload_n 1, 1) := by decide +kernel
theorem dX12_findSought_92 : decode cX12_findSought 92 = .ok (.invokevirtual 275, 3) := by decide +kernel
theorem dX12_findSought_95 : decode cX12_findSought 95 = .ok (.ifCond .eq 14, 3) := by decide +kernel
theorem dX12_findSought_98 : decode cX12_findSought 98 = .ok (.aload_n 0, 1) := by decide +kernel
theorem dX12_findSought_99 : decode cX12_findSought 99 = .ok (.getfield 43, 3) := by decide +kernel
theorem dX12_findSought_102 : decode cX12_findSought 102 = .ok (.iload_n 1, 1) := by decide +kernel
theorem dX12_findSought_103 : decode cX12_findSought 103 = .ok (.iconst 1, 1) := by decide +kernel
theorem dX12_findSought_104 : decode cX12_findSought 104 = .ok (.iload_n 2, 1) := by decide +kernel
theorem dX12_findSought_105 : decode cX12_findSought 105 = .ok (.ishl, 1) := by decide +kernel
theorem dX12_findSought_106 : decode cX12_findSought 106 = .ok (.ior, 1) := by decide +kernel
theorem dX12_findSought_107 : decode cX12_findSought 107 = .ok (.iconst 1, 1) := by decide +kernel
theorem dX12_findSought_108 : decode cX12_findSought 108 = .ok (.bastore, 1) := by decide +kernel
theorem dX12_findSought_109 : decode cX12_findSought 109 = .ok (.iinc 2 1, 3) := by decide +kernel
theorem dX12_findSought_112 : decode cX12_findSought 112 = .ok (.goto (-33), 3) := by decide +kernel
theorem dX12_findSought_115 : decode cX12_findSought 115 = .ok (.iinc 1 1, 3) := by decide +kernel
theorem dX12_findSought_118 : decode cX12_findSought 118 = .ok (.goto (-80), 3) := by decide +kernel
theorem dX12_findSought_121 : decode cX12_findSought 121 = .ok (.return_, 1) := by decide +kernel
theorem dX12_findLeft_0 : decode cX12_findLeft 0 = .ok (.aload_n 0, 1) := by decide +kernel
theorem dX12_findLeft_1 : decode cX12_findLeft 1 = .ok (.invokevirtual 308, 3) := by decide +kernel
theorem dX12_findLeft_4 : decode cX12_findLeft 4 = .ok (.aload_n 0, 1) := by decide +kernel
theorem dX12_findLeft_5 : decode cX12_findLeft 5 = .ok (.getfield 305, 3) := by decide +kernel
theorem dX12_findLeft_8 : decode cX12_findLeft 8 = .ok (.istore_n 1, 1) := by decide +kernel
theorem dX12_findLeft_9 : decode cX12_findLeft 9 = .ok (.iload_n 1, 1) := by decide +kernel
theorem dX12_findLeft_10 : decode cX12_findLeft 10 = .ok (.ifCond .lt 129, 3) := by decide +kernel
theorem dX12_findLeft_13 : decode cX12_findLeft 13 = .ok (.aload_n 0, 1) := by decide +kernel
theorem dX12_findLeft_14 : decode cX12_findLeft 14 = .ok (.getfield 46, 3) := by decide +kernel
theorem dX12_findLeft_17 : decode cX12_findLeft 17 = .ok (.iload_n 1, 1) := by decide +kernel
theorem dX12_findLeft_18 : decode cX12_findLeft 18 = .ok (.iload_n 1, 1) := by decide +kernel
theorem dX12_findLeft_19 : decode cX12_findLeft 19 = .ok (.aload_n 0, 1) := by decide +kernel
theorem dX12_findLeft_20 : decode cX12_findLeft 20 = .ok (.getfield 305, 3) := by decide +kernel
theorem dX12_findLeft_23 : decode cX12_findLeft 23 = .ok (.if_icmp .ne 7, 3) := by decide +kernel
theorem dX12_findLeft_26 : decode cX12_findLeft 26 = .ok (.iconst 0, 1) := by decide +kernel
theorem dX12_findLeft_27 : decode cX12_findLeft 27 = .ok (.goto 6, 3) := by decide +kernel
theorem dX12_findLeft_30 : decode cX12_findLeft 30 = .ok (.ldc_w 311, 3) := by decide +kernel
theorem dX12_findLeft_33 : decode cX12_findLeft 33 = .ok (.iastore, 1) := by decide +kernel
theorem dX12_findLeft_34 : decode cX12_findLeft 34 = .ok (.iload_n 1, 1) := by decide +kernel
theorem dX12_findLeft_35 : decode cX12_findLeft 35 = .ok (.aload_n 0, 1) := by decide +kernel
theorem dX12_findLeft_36 : decode cX12_findLeft 36 = .ok (.getfield 305, 3) := by decide +kernel
theorem dX12_findLeft_39 : decode cX12_findLeft 39 = .ok (.iconst (-1), 1) := by decide +kernel
theorem dX12_findLeft_40 : decode cX12_findLeft 40 = .ok (.ixor, 1) := by decide +kernel
theorem dX12_findLeft_41 : decode cX12_findLeft 41 = .ok (.iand, 1) := by decide +kernel
theorem dX12_findLeft_42 : decode cX12_findLeft 42 = .ok (.ifCond .eq 6, 3) := by decide +kernel
theorem dX12_findLeft_45 : decode cX12_findLeft 45 = .ok (.goto 88, 3) := by decide +kernel
theorem dX12_findLeft_48 : decode cX12_findLeft 48 = .ok (.iconst 0, 1) := by decide +kernel
theorem dX12_findLeft_49 : decode cX12_findLeft 49 = .ok (.istore_n 2, 1) := by decide +kernel
theorem dX12_findLeft_50 : decode cX12_findLeft 50 = .ok (.iload_n 2, 1) := by decide +kernel
theorem dX12_findLeft_51 : decode cX12_findLeft 51 = .ok (.aload_n 0, 1) := by decide +kernel
theorem dX12_findLeft_52 : decode cX12_findLeft 52 = .ok (.getfield 7, 3) := by decide +kernel
theorem dX12_findLeft_55 : decode cX12_findLeft 55 = .ok (.iconst 0, 1) := by decide +kernel
theorem dX12_findLeft_56 : decode cX12_findLeft 56 = .ok (.iaload, 1) := by decide +kernel
theorem dX12_findLeft_57 : decode cX12_findLeft 57 = .ok (.if_icmp .ge 76, 3) := by decide +kernel
theorem dX12_findLeft_60 : decode cX12_findLeft 60 = .ok (.aload_n 0, 1) := by decide +kernel
theorem dX12_findLeft_61 : decode cX12_findLeft 61 = .ok (.getfield 305, 3) := by decide +kernel
theorem dX12_findLeft_64 : decode cX12_findLeft 64 = .ok (.iload_n 2, 1) := by decide +kernel
theorem dX12_findLeft_65 : decode cX12_findLeft 65 = .ok (.invokestatic 249, 3) := by decide +kernel
theorem dX12_findLeft_68 : decode cX12_findLeft 68 = .ok (.ifCond .eq 59, 3) := by decide +kernel
theorem dX12_findLeft_71 : decode cX12_findLeft 71 = .ok (.aload_n 0, 1) := by decide +kernel
theorem dX12_findLeft_72 : decode cX12_findLeft 72 = .ok (.getfield 43, 3) := by decide +kernel
theorem dX12_findLeft_75 : decode cX12_findLeft 75 = .ok (.iload_n 1, 1) := by decide +kernel
theorem dX12_findLeft_76 : decode cX12_findLeft 76 = .ok (.baload, 1) := by decide +kernel
theorem dX12_findLeft_77 : decode cX12_findLeft 77 = .ok (.ifCond .eq 50, 3) := by decide +kernel
theorem dX12_findLeft_80 : decode cX12_findLeft 80 = .ok (.aload_n 0, 1) := by decide +kernel
theorem dX12_findLeft_81 : decode cX12_findLeft 81 = .ok (.iload_n 2, 1) := by decide +kernel
theorem dX12_findLeft_82 : decode cX12_findLeft 82 = .ok (.iload_n 1, 1) := by decide +kernel
theorem dX12_findLeft_83 : decode cX12_findLeft 83 = .ok (.invokevirtual 275, 3) := by decide +kernel
theorem dX12_findLeft_86 : decode cX12_findLeft 86 = .ok (.ifCond .ne 6, 3) := by decide +kernel
theorem dX12_findLeft_89 : decode cX12_findLeft 89 = .ok (.goto 38, 3) := by decide +kernel
theorem dX12_findLeft_92 : decode cX12_findLeft 92 = .ok (.aload_n 0, 1) := by decide +kernel
theorem dX12_findLeft_93 : decode cX12_findLeft 93 = .ok (.iload_n 2, 1) := by decide +kernel
theorem dX12_findLeft_94 : decode cX12_findLeft 94 = .ok (.iload_n 1, 1) := by decide +kernel
theorem dX12_findLeft_95 : decode cX12_findLeft 95 = .ok (.invokevirtual 278, 3) := by decide +kernel
theorem dX12_findLeft_98 : decode cX12_findLeft 98 = .ok (.aload_n 0, 1) := by decide +kernel
theorem dX12_findLeft_99 : decode cX12_findLeft 99 = .ok (.getfield 46, 3) := by decide +kernel
theorem dX12_findLeft_102 : decode cX12_findLeft 102 = .ok (.iload_n 1, 1) := by decide +kernel
theorem dX12_findLeft_103 : decode cX12_findLeft 103 = .ok (.iconst 1, 1) := by decide +kernel
theorem dX12_findLeft_104 : decode cX12_findLeft 104 = .ok (.iload_n 2, 1) := by decide +kernel
theorem dX12_findLeft_105 : decode cX12_findLeft 105 = .ok (.ishl, 1) := by decide +kernel
theorem dX12_findLeft_106 : decode cX12_findLeft 106 = .ok (.ior, 1) := by decide +kernel
theorem dX12_findLeft_107 : decode cX12_findLeft 107 = .ok (.iaload, 1) := by decide +kernel
theorem dX12_findLeft_108 : decode cX12_findLeft 108 = .ok (.iadd, 1) := by decide +kernel
theorem dX12_findLeft_109 : decode cX12_findLeft 109 = .ok (.istore_n 3, 1) := by decide +kernel
theorem dX12_findLeft_110 : decode cX12_findLeft 110 = .ok (.iload_n 3, 1) := by decide +kernel
theorem dX12_findLeft_111 : decode cX12_findLeft 111 = .ok (.aload_n 0, 1) := by decide +kernel
theorem dX12_findLeft_112 : decode cX12_findLeft 112 = .ok (.getfield 46, 3) := by decide +kernel
theorem dX12_findLeft_115 : decode cX12_findLeft 115 = .ok (.iload_n 1, 1) := by decide +kernel
theorem dX12_findLeft_116 : decode cX12_findLeft 116 = .ok (.iaload, 1) := by decide +kernel
theorem dX12_findLeft_117 : decode cX12_findLeft 117 = .ok (.if_icmp .ge 10, 3) := by decide +kernel
theorem dX12_findLeft_120 : decode cX12_findLeft 120 = .ok (.aload_n 0, 1) := by decide +kernel
theorem dX12_findLeft_121 : decode cX12_findLeft 121 = .ok (.getfield 46, 3) := by decide +kernel
theorem dX12_findLeft_124 : decode cX12_findLeft 124 = .ok (.iload_n 1, 1) := by decide +kernel
theorem dX12_findLeft_125 : decode cX12_findLeft 125 = .ok (.iload_n 3, 1) := by decide +kernel
theorem dX12_findLeft_126 : decode cX12_findLeft 126 = .ok (.iastore, 1) := by decide +kernel
theorem dX12_findLeft_127 : decode cX12_findLeft 127 = .ok (.iinc 2 1, 3) := by decide +kernel
theorem dX12_findLeft_130 : decode cX12_findLeft 130 = .ok (.goto (-80), 3) := by decide +kernel
theorem dX12_findLeft_133 : decode cX12_findLeft 133 = .ok (.iinc 1 (-1), 3) := by decide +kernel
theorem dX12_findLeft_136 : decode cX12_findLeft 136 = .ok (.goto (-127), 3) := by decide +kernel
theorem dX12_findLeft_139 : decode cX12_findLeft 139 = .ok (.return_, 1) := by decide +kernel
theorem dX12_least_0 : decode cX12_least 0 = .ok (.iload_n 1, 1) := by decide +kernel
theorem dX12_least_1 : decode cX12_least 1 = .ok (.bipush (-2), 2) := by decide +kernel
theorem dX12_least_3 : decode cX12_least 3 = .ok (.if_icmp .ge 6, 3) := by decide +kernel
theorem dX12_least_6 : decode cX12_least 6 = .ok (.bipush (-3), 2) := by decide +kernel
theorem dX12_least_8 : decode cX12_least 8 = .ok (.ireturn, 1) := by decide +kernel
theorem dX12_least_9 : decode cX12_least 9 = .ok (.aload_n 0, 1) := by decide +kernel
theorem dX12_least_10 : decode cX12_least 10 = .ok (.invokevirtual 312, 3) := by decide +kernel
theorem dX12_least_13 : decode cX12_least 13 = .ok (.iload_n 1, 1) := by decide +kernel
theorem dX12_least_14 : decode cX12_least 14 = .ok (.iconst (-1), 1) := by decide +kernel
theorem dX12_least_15 : decode cX12_least 15 = .ok (.if_icmp .ne 11, 3) := by decide +kernel
theorem dX12_least_18 : decode cX12_least 18 = .ok (.aload_n 0, 1) := by decide +kernel
theorem dX12_least_19 : decode cX12_least 19 = .ok (.getfield 305, 3) := by decide +kernel
theorem dX12_least_22 : decode cX12_least 22 = .ok (.invokestatic 70, 3) := by decide +kernel
theorem dX12_least_25 : decode cX12_least 25 = .ok (.ireturn, 1) := by decide +kernel
theorem dX12_least_26 : decode cX12_least 26 = .ok (.iload_n 1, 1) := by decide +kernel
theorem dX12_least_27 : decode cX12_least 27 = .ok (.bipush (-2), 2) := by decide +kernel
theorem dX12_least_29 : decode cX12_least 29 = .ok (.if_icmp .ne 10, 3) := by decide +kernel
theorem dX12_least_32 : decode cX12_least 32 = .ok (.aload_n 0, 1) := by decide +kernel
theorem dX12_least_33 : decode cX12_least 33 = .ok (.getfield 46, 3) := by decide +kernel
theorem dX12_least_36 : decode cX12_least 36 = .ok (.iconst 0, 1) := by decide +kernel
theorem dX12_least_37 : decode cX12_least 37 = .ok (.iaload, 1) := by decide +kernel
theorem dX12_least_38 : decode cX12_least 38 = .ok (.ireturn, 1) := by decide +kernel
theorem dX12_least_39 : decode cX12_least 39 = .ok (.iload_n 1, 1) := by decide +kernel
theorem dX12_least_40 : decode cX12_least 40 = .ok (.aload_n 0, 1) := by decide +kernel
theorem dX12_least_41 : decode cX12_least 41 = .ok (.getfield 305, 3) := by decide +kernel
theorem dX12_least_44 : decode cX12_least 44 = .ok (.invokestatic 70, 3) := by decide +kernel
theorem dX12_least_47 : decode cX12_least 47 = .ok (.if_icmp .lt 6, 3) := by decide +kernel
theorem dX12_least_50 : decode cX12_least 50 = .ok (.bipush (-3), 2) := by decide +kernel
theorem dX12_least_52 : decode cX12_least 52 = .ok (.ireturn, 1) := by decide +kernel
theorem dX12_least_53 : decode cX12_least 53 = .ok (.iconst 0, 1) := by decide +kernel
theorem dX12_least_54 : decode cX12_least 54 = .ok (.istore_n 2, 1) := by decide +kernel
theorem dX12_least_55 : decode cX12_least 55 = .ok (.iconst (-1), 1) := by decide +kernel
theorem dX12_least_56 : decode cX12_least 56 = .ok (.istore_n 3, 1) := by decide +kernel
theorem dX12_least_57 : decode cX12_least 57 = .ok (.iconst 0, 1) := by decide +kernel
theorem dX12_least_58 : decode cX12_least 58 = .ok (.istore 4, 2) := by decide +kernel
theorem dX12_least_60 : decode cX12_least 60 = .ok (.iload 4, 2) := by decide +kernel
theorem dX12_least_62 : decode cX12_least 62 = .ok (.iload_n 1, 1) := by decide +kernel
theorem dX12_least_63 : decode cX12_least 63 = .ok (.if_icmp .gt 69, 3) := by decide +kernel
theorem dX12_least_66 : decode cX12_least 66 = .ok (.iconst 0, 1) := by decide +kernel
theorem dX12_least_67 : decode cX12_least 67 = .ok (.istore_n 3, 1) := by decide +kernel
theorem dX12_least_68 : decode cX12_least 68 = .ok (.aload_n 0, 1) := by decide +kernel
theorem dX12_least_69 : decode cX12_least 69 = .ok (.getfield 305, 3) := by decide +kernel
theorem dX12_least_72 : decode cX12_least 72 = .ok (.iload_n 3, 1) := by decide +kernel
theorem dX12_least_73 : decode cX12_least 73 = .ok (.invokestatic 249, 3) := by decide +kernel
theorem dX12_least_76 : decode cX12_least 76 = .ok (.ifCond .eq 38, 3) := by decide +kernel
theorem dX12_least_79 : decode cX12_least 79 = .ok (.aload_n 0, 1) := by decide +kernel
theorem dX12_least_80 : decode cX12_least 80 = .ok (.iload_n 3, 1) := by decide +kernel
theorem dX12_least_81 : decode cX12_least 81 = .ok (.iload_n 2, 1) := by decide +kernel
theorem dX12_least_82 : decode cX12_least 82 = .ok (.invokevirtual 275, 3) := by decide +kernel
theorem dX12_least_85 : decode cX12_least 85 = .ok (.ifCond .eq 29, 3) := by decide +kernel
theorem dX12_least_88 : decode cX12_least 88 = .ok (.aload_n 0, 1) := by decide +kernel
theorem dX12_least_89 : decode cX12_least 89 = .ok (.iload_n 3, 1) := by decide +kernel
theorem dX12_least_90 : decode cX12_least 90 = .ok (.iload_n 2, 1) := by decide +kernel
theorem dX12_least_91 : decode cX12_least 91 = .ok (.invokevirtual 278, 3) := by decide +kernel
theorem dX12_least_94 : decode cX12_least 94 = .ok (.aload_n 0, 1) := by decide +kernel
theorem dX12_least_95 : decode cX12_least 95 = .ok (.getfield 46, 3) := by decide +kernel
theorem dX12_least_98 : decode cX12_least 98 = .ok (.iload_n 2, 1) := by decide +kernel
theorem dX12_least_99 : decode cX12_least 99 = .ok (.iconst 1, 1) := by decide +kernel
theorem dX12_least_100 : decode cX12_least 100 = .ok (.iload_n 3, 1) := by decide +kernel
theorem dX12_least_101 : decode cX12_least 101 = .ok (.ishl, 1) := by decide +kernel
theorem dX12_least_102 : decode cX12_least 102 = .ok (.ior, 1) := by decide +kernel
theorem dX12_least_103 : decode cX12_least 103 = .ok (.iaload, 1) := by decide +kernel
theorem dX12_least_104 : decode cX12_least 104 = .ok (.iadd, 1) := by decide +kernel
theorem dX12_least_105 : decode cX12_least 105 = .ok (.aload_n 0, 1) := by decide +kernel
theorem dX12_least_106 : decode cX12_least 106 = .ok (.getfield 46, 3) := by decide +kernel
theorem dX12_least_109 : decode cX12_least 109 = .ok (.iload_n 2, 1) := by decide +kernel
theorem dX12_least_110 : decode cX12_least 110 = .ok (.iaload, 1) := by decide +kernel
theorem dX12_least_111 : decode cX12_least 111 = .ok (.if_icmp .eq 9, 3) := by decide +kernel
theorem dX12_least_114 : decode cX12_least 114 = .ok (.iinc 3 1, 3) := by decide +kernel
theorem dX12_least_117 : decode cX12_least 117 = .ok (.goto (-49), 3) := by decide +kernel
theorem dX12_least_120 : decode cX12_least 120 = .ok (.iload_n 2, 1) := by decide +kernel
theorem dX12_least_121 : decode cX12_least 121 = .ok (.iconst 1, 1) := by decide +kernel
theorem dX12_least_122 : decode cX12_least 122 = .ok (.iload_n 3, 1) := by decide +kernel
theorem dX12_least_123 : decode cX12_least 123 = .ok (.ishl, 1) := by decide +kernel
theorem dX12_least_124 : decode cX12_least 124 = .ok (.ior, 1) := by decide +kernel
theorem dX12_least_125 : decode cX12_least 125 = .ok (.istore_n 2, 1) := by decide +kernel
theorem dX12_least_126 : decode cX12_least 126 = .ok (.iinc 4 1, 3) := by decide +kernel
theorem dX12_least_129 : decode cX12_least 129 = .ok (.goto (-69), 3) := by decide +kernel
theorem dX12_least_132 : decode cX12_least 132 = .ok (.iload_n 3, 1) := by decide +kernel
theorem dX12_least_133 : decode cX12_least 133 = .ok (.ireturn, 1) := by decide +kernel
theorem dX12_count_0 : decode cX12_count 0 = .ok (.iconst 0, 1) := by decide +kernel
theorem dX12_count_1 : decode cX12_count 1 = .ok (.istore_n 3, 1) := by decide +kernel
theorem dX12_count_2 : decode cX12_count 2 = .ok (.iload_n 3, 1) := by decide +kernel
theorem dX12_count_3 : decode cX12_count 3 = .ok (.aload_n 0, 1) := by decide +kernel
theorem dX12_count_4 : decode cX12_count 4 = .ok (.invokevirtual 66, 3) := by decide +kernel
theorem dX12_count_7 : decode cX12_count 7 = .ok (.if_icmp .gt 24, 3) := by decide +kernel
theorem dX12_count_10 : decode cX12_count 10 = .ok (.aload_n 0, 1) := by decide +kernel
theorem dX12_count_11 : decode cX12_count 11 = .ok (.getfield 49, 3) := by decide +kernel
theorem dX12_count_14 : decode cX12_count 14 = .ok (.iload_n 3, 1) := by decide +kernel
theorem dX12_count_15 : decode cX12_count 15 = .ok (.iload_n 3, 1) := by decide +kernel
theorem dX12_count_16 : decode cX12_count 16 = .ok (.ifCond .ne 7, 3) := by decide +kernel
theorem dX12_count_19 : decode cX12_count 19 = .ok (.lconst 1, 1) := by decide +kernel
theorem dX12_count_20 : decode cX12_count 20 = .ok (.goto 4, 3) := by decide +kernel
theorem dX12_count_23 : decode cX12_count 23 = .ok (.lconst 0, 1) := by decide +kernel
theorem dX12_count_24 : decode cX12_count 24 = .ok (.lastore, 1) := by decide +kernel
theorem dX12_count_25 : decode cX12_count 25 = .ok (.iinc 3 1, 3) := by decide +kernel
theorem dX12_count_28 : decode cX12_count 28 = .ok (.goto (-26), 3) := by decide +kernel
theorem dX12_count_31 : decode cX12_count 31 = .ok (.iconst 0, 1) := by decide +kernel
theorem dX12_count_32 : decode cX12_count 32 = .ok (.istore_n 3, 1) := by decide +kernel
theorem dX12_count_33 : decode cX12_count 33 = .ok (.iload_n 3, 1) := by decide +kernel
theorem dX12_count_34 : decode cX12_count 34 = .ok (.aload_n 0, 1) := by decide +kernel
theorem dX12_count_35 : decode cX12_count 35 = .ok (.invokevirtual 66, 3) := by decide +kernel
theorem dX12_count_38 : decode cX12_count 38 = .ok (.if_icmp .gt 140, 3) := by decide +kernel
theorem dX12_count_41 : decode cX12_count 41 = .ok (.iload_n 3, 1) := by decide +kernel
theorem dX12_count_42 : decode cX12_count 42 = .ok (.invokestatic 70, 3) := by decide +kernel
theorem dX12_count_45 : decode cX12_count 45 = .ok (.istore 4, 2) := by decide +kernel
theorem dX12_count_47 : decode cX12_count 47 = .ok (.aload_n 0, 1) := by decide +kernel
theorem dX12_count_48 : decode cX12_count 48 = .ok (.getfield 49, 3) := by decide +kernel
theorem dX12_count_51 : decode cX12_count 51 = .ok (.iload_n 3, 1) := by decide +kernel
theorem dX12_count_52 : decode cX12_count 52 = .ok (.laload, 1) := by decide +kernel
theorem dX12_count_53 : decode cX12_count 53 = .ok (.lconst 0, 1) := by decide +kernel
theorem dX12_count_54 : decode cX12_count 54 = .ok (.lcmp, 1) := by decide +kernel
theorem dX12_count_55 : decode cX12_count 55 = .ok (.ifCond .eq 117, 3) := by decide +kernel
theorem dX12_count_58 : decode cX12_count 58 = .ok (.iload 4, 2) := by decide +kernel
theorem dX12_count_60 : decode cX12_count 60 = .ok (.iload_n 1, 1) := by decide +kernel
theorem dX12_count_61 : decode cX12_count 61 = .ok (.if_icmp .lt 6, 3) := by decide +kernel
theorem dX12_count_64 : decode cX12_count 64 = .ok (.goto 108, 3) := by decide +kernel
theorem dX12_count_67 : decode cX12_count 67 = .ok (.iconst 0, 1) := by decide +kernel
theorem dX12_count_68 : decode cX12_count 68 = .ok (.istore 5, 2) := by decide +kernel
theorem dX12_count_70 : decode cX12_count 70 = .ok (.iload 5, 2) := by decide +kernel
theorem dX12_count_72 : decode cX12_count 72 = .ok (.aload_n 0, 1) := by decide +kernel
theorem dX12_count_73 : decode cX12_count 73 = .ok (.getfield 7, 3) := by decide +kernel
theorem dX12_count_76 : decode cX12_count 76 = .ok (.iconst 0, 1) := by decide +kernel
theorem dX12_count_77 : decode cX12_count 77 = .ok (.iaload, 1) := by decide +kernel
theorem dX12_count_78 : decode cX12_count 78 = .ok (.if_icmp .ge 94, 3) := by decide +kernel
theorem dX12_count_81 : decode cX12_count 81 = .ok (.aload_n 0, 1) := by decide +kernel
theorem dX12_count_82 : decode cX12_count 82 = .ok (.getfield 7, 3) := by decide +kernel
theorem dX12_count_85 : decode cX12_count 85 = .ok (.iload 5, 2) := by decide +kernel
theorem dX12_count_87 : decode cX12_count 87 = .ok (.invokestatic 74, 3) := by decide +kernel
theorem dX12_count_90 : decode cX12_count 90 = .ok (.iconst 1, 1) := by decide +kernel
theorem dX12_count_91 : decode cX12_count 91 = .ok (.iadd, 1) := by decide +kernel
theorem dX12_count_92 : decode cX12_count 92 = .ok (.iaload, 1) := by decide +kernel
theorem dX12_count_93 : decode cX12_count 93 = .ok (.istore 6, 2) := by decide +kernel
theorem dX12_count_95 : decode cX12_count 95 = .ok (.iload_n 2, 1) := by decide +kernel
theorem dX12_count_96 : decode cX12_count 96 = .ok (.ifCond .eq 37, 3) := by decide +kernel
theorem dX12_count_99 : decode cX12_count 99 = .ok (.iload 6, 2) := by decide +kernel
theorem dX12_count_101 : decode cX12_count 101 = .ok (.aload_n 0, 1) := by decide +kernel
theorem dX12_count_102 : decode cX12_count 102 = .ok (.getfield 7, 3) := by decide +kernel
theorem dX12_count_105 : decode cX12_count 105 = .ok (.bipush 100, 2) := by decide +kernel
theorem dX12_count_107 : decode cX12_count 107 = .ok (.iconst 2, 1) := by decide +kernel
theorem dX12_count_108 : decode cX12_count 108 = .ok (.iload 4, 2) := by decide +kernel
theorem dX12_count_110 : decode cX12_count 110 = .ok (.imul, 1) := by decide +kernel
theorem dX12_count_111 : decode cX12_count 111 = .ok (.iadd, 1) := by decide +kernel
theorem dX12_count_112 : decode cX12_count 112 = .ok (.iaload, 1) := by decide +kernel
theorem dX12_count_113 : decode cX12_count 113 = .ok (.aload_n 0, 1) := by decide +kernel
theorem dX12_count_114 : decode cX12_count 114 = .ok (.getfield 7, 3) := by decide +kernel
theorem dX12_count_117 : decode cX12_count 117 = .ok (.bipush 100, 2) := by decide +kernel
theorem dX12_count_119 : decode cX12_count 119 = .ok (.iconst 2, 1) := by decide +kernel
theorem dX12_count_120 : decode cX12_count 120 = .ok (.iload 4, 2) := by decide +kernel
theorem dX12_count_122 : decode cX12_count 122 = .ok (.imul, 1) := by decide +kernel
theorem dX12_count_123 : decode cX12_count 123 = .ok (.iadd, 1) := by decide +kernel
theorem dX12_count_124 : decode cX12_count 124 = .ok (.iconst 1, 1) := by decide +kernel
theorem dX12_count_125 : decode cX12_count 125 = .ok (.iadd, 1) := by decide +kernel
theorem dX12_count_126 : decode cX12_count 126 = .ok (.iaload, 1) := by decide +kernel
theorem dX12_count_127 : decode cX12_count 127 = .ok (.invokestatic 62, 3) := by decide +kernel
theorem dX12_count_130 : decode cX12_count 130 = .ok (.ifCond .eq 36, 3) := by decide +kernel
theorem dX12_count_133 : decode cX12_count 133 = .ok (.aload_n 0, 1) := by decide +kernel
theorem dX12_count_134 : decode cX12_count 134 = .ok (.iload 5, 2) := by decide +kernel
theorem dX12_count_136 : decode cX12_count 136 = .ok (.iload_n 3, 1) := by decide +kernel
theorem dX12_count_137 : decode cX12_count 137 = .ok (.invokevirtual 275, 3) := by decide +kernel
theorem dX12_count_140 : decode cX12_count 140 = .ok (.ifCond .ne 6, 3) := by decide +kernel
theorem dX12_count_143 : decode cX12_count 143 = .ok (.goto 23, 3) := by decide +kernel
theorem dX12_count_146 : decode cX12_count 146 = .ok (.aload_n 0, 1) := by decide +kernel
theorem dX12_count_147 : decode cX12_count 147 = .ok (.getfield 49, 3) := by decide +kernel
theorem dX12_count_150 : decode cX12_count 150 = .ok (.iload_n 3, 1) := by decide +kernel
theorem dX12_count_151 : decode cX12_count 151 = .ok (.iconst 1, 1) := by decide +kernel
theorem dX12_count_152 : decode cX12_count 152 = .ok (.iload 5, 2) := by decide +kernel
theorem dX12_count_154 : decode cX12_count 154 = .ok (.ishl, 1) := by decide +kernel
theorem dX12_count_155 : decode cX12_count 155 = .ok (.ior, 1) := by decide +kernel
theorem dX12_count_156 : decode cX12_count 156 = .ok (.dup2, 1) := by decide +kernel
theorem dX12_count_157 : decode cX12_count 157 = .ok (.laload, 1) := by decide +kernel
theorem dX12_count_158 : decode cX12_count 158 = .ok (.aload_n 0, 1) := by decide +kernel
theorem dX12_count_159 : decode cX12_count 159 = .ok (.getfield 49, 3) := by decide +kernel
theorem dX12_count_162 : decode cX12_count 162 = .ok (.iload_n 3, 1) := by decide +kernel
theorem dX12_count_163 : decode cX12_count 163 = .ok (.laload, 1) := by decide +kernel
theorem dX12_count_164 : decode cX12_count 164 = .ok (.ladd, 1) := by decide +kernel
theorem dX12_count_165 : decode cX12_count 165 = .ok (.lastore, 1) := by decide +kernel
theorem dX12_count_166 : decode cX12_count 166 = .ok (.iinc 5 1, 3) := by decide +kernel
theorem dX12_count_169 : decode cX12_count 169 = .ok (.goto (-99), 3) := by decide +kernel
theorem dX12_count_172 : decode cX12_count 172 = .ok (.iinc 3 1, 3) := by decide +kernel
theorem dX12_count_175 : decode cX12_count 175 = .ok (.goto (-142), 3) := by decide +kernel
theorem dX12_count_178 : decode cX12_count 178 = .ok (.return_, 1) := by decide +kernel
theorem dX12_orders_0 : decode cX12_orders 0 = .ok (.aload_n 0, 1) := by decide +kernel
theorem dX12_orders_1 : decode cX12_orders 1 = .ok (.aload_n 0, 1) := by decide +kernel
theorem dX12_orders_2 : decode cX12_orders 2 = .ok (.getfield 7, 3) := by decide +kernel
theorem dX12_orders_5 : decode cX12_orders 5 = .ok (.iconst 0, 1) := by decide +kernel
theorem dX12_orders_6 : decode cX12_orders 6 = .ok (.iaload, 1) := by decide +kernel
theorem dX12_orders_7 : decode cX12_orders 7 = .ok (.iconst 0, 1) := by decide +kernel
theorem dX12_orders_8 : decode cX12_orders 8 = .ok (.invokevirtual 315, 3) := by decide +kernel
theorem dX12_orders_11 : decode cX12_orders 11 = .ok (.aload_n 0, 1) := by decide +kernel
theorem dX12_orders_12 : decode cX12_orders 12 = .ok (.getfield 49, 3) := by decide +kernel
theorem dX12_orders_15 : decode cX12_orders 15 = .ok (.aload_n 0, 1) := by decide +kernel
theorem dX12_orders_16 : decode cX12_orders 16 = .ok (.invokevirtual 66, 3) := by decide +kernel
theorem dX12_orders_19 : decode cX12_orders 19 = .ok (.laload, 1) := by decide +kernel
theorem dX12_orders_20 : decode cX12_orders 20 = .ok (.lreturn, 1) := by decide +kernel
theorem dX12_sound_0 : decode cX12_sound 0 = .ok (.iload_n 1, 1) := by decide +kernel
theorem dX12_sound_1 : decode cX12_sound 1 = .ok (.iconst 0, 1) := by decide +kernel
theorem dX12_sound_2 : decode cX12_sound 2 = .ok (.bipush 20, 2) := by decide +kernel
theorem dX12_sound_4 : decode cX12_sound 4 = .ok (.invokestatic 62, 3) := by decide +kernel
theorem dX12_sound_7 : decode cX12_sound 7 = .ok (.ifCond .eq 25, 3) := by decide +kernel
theorem dX12_sound_10 : decode cX12_sound 10 = .ok (.iload_n 2, 1) := by decide +kernel
theorem dX12_sound_11 : decode cX12_sound 11 = .ok (.iload_n 1, 1) := by decide +kernel
theorem dX12_sound_12 : decode cX12_sound 12 = .ok (.bipush 20, 2) := by decide +kernel
theorem dX12_sound_14 : decode cX12_sound 14 = .ok (.invokestatic 62, 3) := by decide +kernel
theorem dX12_sound_17 : decode cX12_sound 17 = .ok (.ifCond .eq 15, 3) := by decide +kernel
theorem dX12_sound_20 : decode cX12_sound 20 = .ok (.aload_n 0, 1) := by decide +kernel
theorem dX12_sound_21 : decode cX12_sound 21 = .ok (.getfield 7, 3) := by decide +kernel
theorem dX12_sound_24 : decode cX12_sound 24 = .ok (.bipush 7, 2) := by decide +kernel
theorem dX12_sound_26 : decode cX12_sound 26 = .ok (.iaload, 1) := by decide +kernel
theorem dX12_sound_27 : decode cX12_sound 27 = .ok (.bipush 8, 2) := by decide +kernel
theorem dX12_sound_29 : decode cX12_sound 29 = .ok (.if_icmp .ne 5, 3) := by decide +kernel
theorem dX12_sound_32 : decode cX12_sound 32 = .ok (.iconst (-1), 1) := by decide +kernel
theorem dX12_sound_33 : decode cX12_sound 33 = .ok (.ireturn, 1) := by decide +kernel
theorem dX12_sound_34 : decode cX12_sound 34 = .ok (.aload_n 0, 1) := by decide +kernel
theorem dX12_sound_35 : decode cX12_sound 35 = .ok (.getfield 7, 3) := by decide +kernel
theorem dX12_sound_38 : decode cX12_sound 38 = .ok (.bipush 100, 2) := by decide +kernel
theorem dX12_sound_40 : decode cX12_sound 40 = .ok (.iconst 2, 1) := by decide +kernel
theorem dX12_sound_41 : decode cX12_sound 41 = .ok (.aload_n 0, 1) := by decide +kernel
theorem dX12_sound_42 : decode cX12_sound 42 = .ok (.getfield 7, 3) := by decide +kernel
theorem dX12_sound_45 : decode cX12_sound 45 = .ok (.bipush 7, 2) := by decide +kernel
theorem dX12_sound_47 : decode cX12_sound 47 = .ok (.iaload, 1) := by decide +kernel
theorem dX12_sound_48 : decode cX12_sound 48 = .ok (.imul, 1) := by decide +kernel
theorem dX12_sound_49 : decode cX12_sound 49 = .ok (.iadd, 1) := by decide +kernel
theorem dX12_sound_50 : decode cX12_sound 50 = .ok (.iload_n 1, 1) := by decide +kernel
theorem dX12_sound_51 : decode cX12_sound 51 = .ok (.iastore, 1) := by decide +kernel
theorem dX12_sound_52 : decode cX12_sound 52 = .ok (.aload_n 0, 1) := by decide +kernel
theorem dX12_sound_53 : decode cX12_sound 53 = .ok (.getfield 7, 3) := by decide +kernel
theorem dX12_sound_56 : decode cX12_sound 56 = .ok (.bipush 100, 2) := by decide +kernel
theorem dX12_sound_58 : decode cX12_sound 58 = .ok (.iconst 2, 1) := by decide +kernel
theorem dX12_sound_59 : decode cX12_sound 59 = .ok (.aload_n 0, 1) := by decide +kernel
theorem dX12_sound_60 : decode cX12_sound 60 = .ok (.getfield 7, 3) := by decide +kernel
theorem dX12_sound_63 : decode cX12_sound 63 = .ok (.bipush 7, 2) := by decide +kernel
theorem dX12_sound_65 : decode cX12_sound 65 = .ok (.iaload, 1) := by decide +kernel
theorem dX12_sound_66 : decode cX12_sound 66 = .ok (.imul, 1) := by decide +kernel
theorem dX12_sound_67 : decode cX12_sound 67 = .ok (.iadd, 1) := by decide +kernel
theorem dX12_sound_68 : decode cX12_sound 68 = .ok (.iconst 1, 1) := by decide +kernel
theorem dX12_sound_69 : decode cX12_sound 69 = .ok (.iadd, 1) := by decide +kernel
theorem dX12_sound_70 : decode cX12_sound 70 = .ok (.iload_n 2, 1) := by decide +kernel
theorem dX12_sound_71 : decode cX12_sound 71 = .ok (.iastore, 1) := by decide +kernel
theorem dX12_sound_72 : decode cX12_sound 72 = .ok (.aload_n 0, 1) := by decide +kernel
theorem dX12_sound_73 : decode cX12_sound 73 = .ok (.getfield 7, 3) := by decide +kernel
theorem dX12_sound_76 : decode cX12_sound 76 = .ok (.bipush 7, 2) := by decide +kernel
theorem dX12_sound_78 : decode cX12_sound 78 = .ok (.dup2, 1) := by decide +kernel
theorem dX12_sound_79 : decode cX12_sound 79 = .ok (.iaload, 1) := by decide +kernel
theorem dX12_sound_80 : decode cX12_sound 80 = .ok (.iconst 1, 1) := by decide +kernel
theorem dX12_sound_81 : decode cX12_sound 81 = .ok (.iadd, 1) := by decide +kernel
theorem dX12_sound_82 : decode cX12_sound 82 = .ok (.iastore, 1) := by decide +kernel
theorem dX12_sound_83 : decode cX12_sound 83 = .ok (.aload_n 0, 1) := by decide +kernel
theorem dX12_sound_84 : decode cX12_sound 84 = .ok (.getfield 7, 3) := by decide +kernel
theorem dX12_sound_87 : decode cX12_sound 87 = .ok (.bipush 7, 2) := by decide +kernel
theorem dX12_sound_89 : decode cX12_sound 89 = .ok (.iaload, 1) := by decide +kernel
theorem dX12_sound_90 : decode cX12_sound 90 = .ok (.ireturn, 1) := by decide +kernel
theorem dX12_hush_0 : decode cX12_hush 0 = .ok (.aload_n 0, 1) := by decide +kernel
theorem dX12_hush_1 : decode cX12_hush 1 = .ok (.getfield 7, 3) := by decide +kernel
theorem dX12_hush_4 : decode cX12_hush 4 = .ok (.bipush 7, 2) := by decide +kernel
theorem dX12_hush_6 : decode cX12_hush 6 = .ok (.iaload, 1) := by decide +kernel
theorem dX12_hush_7 : decode cX12_hush 7 = .ok (.istore_n 1, 1) := by decide +kernel
theorem dX12_hush_8 : decode cX12_hush 8 = .ok (.aload_n 0, 1) := by decide +kernel
theorem dX12_hush_9 : decode cX12_hush 9 = .ok (.getfield 7, 3) := by decide +kernel
theorem dX12_hush_12 : decode cX12_hush 12 = .ok (.bipush 7, 2) := by decide +kernel
theorem dX12_hush_14 : decode cX12_hush 14 = .ok (.iconst 0, 1) := by decide +kernel
theorem dX12_hush_15 : decode cX12_hush 15 = .ok (.iastore, 1) := by decide +kernel
theorem dX12_hush_16 : decode cX12_hush 16 = .ok (.iload_n 1, 1) := by decide +kernel
theorem dX12_hush_17 : decode cX12_hush 17 = .ok (.ireturn, 1) := by decide +kernel
theorem dX12_heard_0 : decode cX12_heard 0 = .ok (.iload_n 1, 1) := by decide +kernel
theorem dX12_heard_1 : decode cX12_heard 1 = .ok (.iconst 0, 1) := by decide +kernel
theorem dX12_heard_2 : decode cX12_heard 2 = .ok (.iconst 2, 1) := by decide +kernel
theorem dX12_heard_3 : decode cX12_heard 3 = .ok (.invokestatic 62, 3) := by decide +kernel
theorem dX12_heard_6 : decode cX12_heard 6 = .ok (.ifCond .ne 7, 3) := by decide +kernel
theorem dX12_heard_9 : decode cX12_heard 9 = .ok (.ldc2_w 319, 3) := by decide +kernel
theorem dX12_heard_12 : decode cX12_heard 12 = .ok (.lreturn, 1) := by decide +kernel
theorem dX12_heard_13 : decode cX12_heard 13 = .ok (.aload_n 0, 1) := by decide +kernel
theorem dX12_heard_14 : decode cX12_heard 14 = .ok (.aload_n 0, 1) := by decide +kernel
theorem dX12_heard_15 : decode cX12_heard 15 = .ok (.getfield 7, 3) := by decide +kernel
theorem dX12_heard_18 : decode cX12_heard 18 = .ok (.bipush 7, 2) := by decide +kernel
theorem dX12_heard_20 : decode cX12_heard 20 = .ok (.iaload, 1) := by decide +kernel
theorem dX12_heard_21 : decode cX12_heard 21 = .ok (.iconst 1, 1) := by decide +kernel
theorem dX12_heard_22 : decode cX12_heard 22 = .ok (.invokevirtual 315, 3) := by decide +kernel
theorem dX12_heard_25 : decode cX12_heard 25 = .ok (.lconst 0, 1) := by decide +kernel
theorem dX12_heard_26 : decode cX12_heard 26 = .ok (.lstore_n 2, 1) := by decide +kernel
theorem dX12_heard_27 : decode cX12_heard 27 = .ok (.aload_n 0, 1) := by decide +kernel
theorem dX12_heard_28 : decode cX12_heard 28 = .ok (.invokevirtual 66, 3) := by decide +kernel
theorem dX12_heard_31 : decode cX12_heard 31 = .ok (.istore 4, 2) := by decide +kernel
theorem dX12_heard_33 : decode cX12_heard 33 = .ok (.iconst 0, 1) := by decide +kernel
theorem dX12_heard_34 : decode cX12_heard 34 = .ok (.istore 5, 2) := by decide +kernel
theorem dX12_heard_36 : decode cX12_heard 36 = .ok (.iconst 0, 1) := by decide +kernel
theorem dX12_heard_37 : decode cX12_heard 37 = .ok (.istore 6, 2) := by decide +kernel
theorem dX12_heard_39 : decode cX12_heard 39 = .ok (.iload 6, 2) := by decide +kernel
theorem dX12_heard_41 : decode cX12_heard 41 = .ok (.aload_n 0, 1) := by decide +kernel
theorem dX12_heard_42 : decode cX12_heard 42 = .ok (.invokevirtual 66, 3) := by decide +kernel
theorem dX12_heard_45 : decode cX12_heard 45 = .ok (.if_icmp .gt 63, 3) := by decide +kernel
theorem dX12_heard_48 : decode cX12_heard 48 = .ok (.iload 6, 2) := by decide +kernel
theorem dX12_heard_50 : decode cX12_heard 50 = .ok (.invokestatic 70, 3) := by decide +kernel
theorem dX12_heard_53 : decode cX12_heard 53 = .ok (.aload_n 0, 1) := by decide +kernel
theorem dX12_heard_54 : decode cX12_heard 54 = .ok (.getfield 7, 3) := by decide +kernel
theorem dX12_heard_57 : decode cX12_heard 57 = .ok (.bipush 7, 2) := by decide +kernel
theorem dX12_heard_59 : decode cX12_heard 59 = .ok (.iaload, 1) := by decide +kernel
theorem dX12_heard_60 : decode cX12_heard 60 = .ok (.if_icmp .ne 42, 3) := by decide +kernel
theorem dX12_heard_63 : decode cX12_heard 63 = .ok (.aload_n 0, 1) := by decide +kernel
theorem dX12_heard_64 : decode cX12_heard 64 = .ok (.getfield 49, 3) := by decide +kernel
theorem dX12_heard_67 : decode cX12_heard 67 = .ok (.iload 6, 2) := by decide +kernel
theorem dX12_heard_69 : decode cX12_heard 69 = .ok (.laload, 1) := by decide +kernel
theorem dX12_heard_70 : decode cX12_heard 70 = .ok (.lconst 0, 1) := by decide +kernel
theorem dX12_heard_71 : decode cX12_heard 71 = .ok (.lcmp, 1) := by decide +kernel
theorem dX12_heard_72 : decode cX12_heard 72 = .ok (.ifCond .ne 6, 3) := by decide +kernel
theorem dX12_heard_75 : decode cX12_heard 75 = .ok (.goto 27, 3) := by decide +kernel
theorem dX12_heard_78 : decode cX12_heard 78 = .ok (.lload_n 2, 1) := by decide +kernel
theorem dX12_heard_79 : decode cX12_heard 79 = .ok (.aload_n 0, 1) := by decide +kernel
theorem dX12_heard_80 : decode cX12_heard 80 = .ok (.getfield 49, 3) := by decide +kernel
theorem dX12_heard_83 : decode cX12_heard 83 = .ok (.iload 6, 2) := by decide +kernel
theorem dX12_heard_85 : decode cX12_heard 85 = .ok (.laload, 1) := by decide +kernel
theorem dX12_heard_86 : decode cX12_heard 86 = .ok (.ladd, 1) := by decide +kernel
theorem dX12_heard_87 : decode cX12_heard 87 = .ok (.lstore_n 2, 1) := by decide +kernel
theorem dX12_heard_88 : decode cX12_heard 88 = .ok (.iload 4, 2) := by decide +kernel
theorem dX12_heard_90 : decode cX12_heard 90 = .ok (.iload 6, 2) := by decide +kernel
theorem dX12_heard_92 : decode cX12_heard 92 = .ok (.iand, 1) := by decide +kernel
theorem dX12_heard_93 : decode cX12_heard 93 = .ok (.istore 4, 2) := by decide +kernel
theorem dX12_heard_95 : decode cX12_heard 95 = .ok (.iload 5, 2) := by decide +kernel
theorem dX12_heard_97 : decode cX12_heard 97 = .ok (.iload 6, 2) := by decide +kernel
theorem dX12_heard_99 : decode cX12_heard 99 = .ok (.ior, 1) := by decide +kernel
theorem dX12_heard_100 : decode cX12_heard 100 = .ok (.istore 5, 2) := by decide +kernel
theorem dX12_heard_102 : decode cX12_heard 102 = .ok (.iinc 6 1, 3) := by decide +kernel
theorem dX12_heard_105 : decode cX12_heard 105 = .ok (.goto (-66), 3) := by decide +kernel
theorem dX12_heard_108 : decode cX12_heard 108 = .ok (.iload_n 1, 1) := by decide +kernel
theorem dX12_heard_109 : decode cX12_heard 109 = .ok (.ifCond .ne 7, 3) := by decide +kernel
theorem dX12_heard_112 : decode cX12_heard 112 = .ok (.lload_n 2, 1) := by decide +kernel
theorem dX12_heard_113 : decode cX12_heard 113 = .ok (.goto 27, 3) := by decide +kernel
theorem dX12_heard_116 : decode cX12_heard 116 = .ok (.iload_n 1, 1) := by decide +kernel
theorem dX12_heard_117 : decode cX12_heard 117 = .ok (.iconst 2, 1) := by decide +kernel
theorem dX12_heard_118 : decode cX12_heard 118 = .ok (.if_icmp .ne 9, 3) := by decide +kernel
theorem dX12_heard_121 : decode cX12_heard 121 = .ok (.iload 5, 2) := by decide +kernel
theorem dX12_heard_123 : decode cX12_heard 123 = .ok (.i2l, 1) := by decide +kernel
theorem dX12_heard_124 : decode cX12_heard 124 = .ok (.goto 16, 3) := by decide +kernel
theorem dX12_heard_127 : decode cX12_heard 127 = .ok (.lload_n 2, 1) := by decide +kernel
theorem dX12_heard_128 : decode cX12_heard 128 = .ok (.lconst 0, 1) := by decide +kernel
theorem dX12_heard_129 : decode cX12_heard 129 = .ok (.lcmp, 1) := by decide +kernel
theorem dX12_heard_130 : decode cX12_heard 130 = .ok (.ifCond .ne 7, 3) := by decide +kernel
theorem dX12_heard_133 : decode cX12_heard 133 = .ok (.lconst 0, 1) := by decide +kernel
theorem dX12_heard_134 : decode cX12_heard 134 = .ok (.goto 6, 3) := by decide +kernel
theorem dX12_heard_137 : decode cX12_heard 137 = .ok (.iload 4, 2) := by decide +kernel
theorem dX12_heard_139 : decode cX12_heard 139 = .ok (.i2l, 1) := by decide +kernel
theorem dX12_heard_140 : decode cX12_heard 140 = .ok (.lreturn, 1) := by decide +kernel
theorem dX12_with_0 : decode cX12_with 0 = .ok (.aload_n 0, 1) := by decide +kernel
theorem dX12_with_1 : decode cX12_with 1 = .ok (.iload_n 1, 1) := by decide +kernel
theorem dX12_with_2 : decode cX12_with 2 = .ok (.invokevirtual 272, 3) := by decide +kernel
theorem dX12_with_5 : decode cX12_with 5 = .ok (.ifCond .eq 16, 3) := by decide +kernel
theorem dX12_with_8 : decode cX12_with 8 = .ok (.aload_n 0, 1) := by decide +kernel
theorem dX12_with_9 : decode cX12_with 9 = .ok (.getfield 7, 3) := by decide +kernel
theorem dX12_with_12 : decode cX12_with 12 = .ok (.iconst 1, 1) := by decide +kernel
theorem dX12_with_13 : decode cX12_with 13 = .ok (.iaload, 1) := by decide +kernel
theorem dX12_with_14 : decode cX12_with 14 = .ok (.iload_n 1, 1) := by decide +kernel
theorem dX12_with_15 : decode cX12_with 15 = .ok (.invokestatic 249, 3) := by decide +kernel
theorem dX12_with_18 : decode cX12_with 18 = .ok (.ifCond .ne 5, 3) := by decide +kernel
theorem dX12_with_21 : decode cX12_with 21 = .ok (.iconst (-1), 1) := by decide +kernel
theorem dX12_with_22 : decode cX12_with 22 = .ok (.ireturn, 1) := by decide +kernel
theorem dX12_with_23 : decode cX12_with 23 = .ok (.iconst (-1), 1) := by decide +kernel
theorem dX12_with_24 : decode cX12_with 24 = .ok (.istore_n 2, 1) := by decide +kernel
theorem dX12_with_25 : decode cX12_with 25 = .ok (.iconst 0, 1) := by decide +kernel
theorem dX12_with_26 : decode cX12_with 26 = .ok (.istore_n 3, 1) := by decide +kernel
theorem dX12_with_27 : decode cX12_with 27 = .ok (.iload_n 3, 1) := by decide +kernel
theorem dX12_with_28 : decode cX12_with 28 = .ok (.aload_n 0, 1) := by decide +kernel
theorem dX12_with_29 : decode cX12_with 29 = .ok (.invokevirtual 66, 3) := by decide +kernel
theorem dX12_with_32 : decode cX12_with 32 = .ok (.if_icmp .gt 67, 3) := by decide +kernel
theorem dX12_with_35 : decode cX12_with 35 = .ok (.iload_n 3, 1) := by decide +kernel
theorem dX12_with_36 : decode cX12_with 36 = .ok (.iload_n 1, 1) := by decide +kernel
theorem dX12_with_37 : decode cX12_with 37 = .ok (.invokestatic 249, 3) := by decide +kernel
theorem dX12_with_40 : decode cX12_with 40 = .ok (.ifCond .eq 53, 3) := by decide +kernel
theorem dX12_with_43 : decode cX12_with 43 = .ok (.iload_n 3, 1) := by decide +kernel
theorem dX12_with_44 : decode cX12_with 44 = .ok (.aload_n 0, 1) := by decide +kernel
theorem dX12_with_45 : decode cX12_with 45 = .ok (.getfield 7, 3) := by decide +kernel
theorem dX12_with_48 : decode cX12_with 48 = .ok (.iconst 1, 1) := by decide +kernel
theorem dX12_with_49 : decode cX12_with 49 = .ok (.iaload, 1) := by decide +kernel
theorem dX12_with_50 : decode cX12_with 50 = .ok (.iconst (-1), 1) := by decide +kernel
theorem dX12_with_51 : decode cX12_with 51 = .ok (.ixor, 1) := by decide +kernel
theorem dX12_with_52 : decode cX12_with 52 = .ok (.iand, 1) := by decide +kernel
theorem dX12_with_53 : decode cX12_with 53 = .ok (.ifCond .ne 40, 3) := by decide +kernel
theorem dX12_with_56 : decode cX12_with 56 = .ok (.iload_n 2, 1) := by decide +kernel
theorem dX12_with_57 : decode cX12_with 57 = .ok (.ifCond .lt 17, 3) := by decide +kernel
theorem dX12_with_60 : decode cX12_with 60 = .ok (.iload_n 3, 1) := by decide +kernel
theorem dX12_with_61 : decode cX12_with 61 = .ok (.invokestatic 70, 3) := by decide +kernel
theorem dX12_with_64 : decode cX12_with 64 = .ok (.iload_n 2, 1) := by decide +kernel
theorem dX12_with_65 : decode cX12_with 65 = .ok (.invokestatic 70, 3) := by decide +kernel
theorem dX12_with_68 : decode cX12_with 68 = .ok (.if_icmp .lt 6, 3) := by decide +kernel
theorem dX12_with_71 : decode cX12_with 71 = .ok (.goto 22, 3) := by decide +kernel
theorem dX12_with_74 : decode cX12_with 74 = .ok (.aload_n 0, 1) := by decide +kernel
theorem dX12_with_75 : decode cX12_with 75 = .ok (.aload_n 0, 1) := by decide +kernel
theorem dX12_with_76 : decode cX12_with 76 = .ok (.getfield 7, 3) := by decide +kernel
theorem dX12_with_79 : decode cX12_with 79 = .ok (.iconst 1, 1) := by decide +kernel
theorem dX12_with_80 : decode cX12_with 80 = .ok (.iaload, 1) := by decide +kernel
theorem dX12_with_81 : decode cX12_with 81 = .ok (.iload_n 3, 1) := by decide +kernel
theorem dX12_with_82 : decode cX12_with 82 = .ok (.iconst (-1), 1) := by decide +kernel
theorem dX12_with_83 : decode cX12_with 83 = .ok (.ixor, 1) := by decide +kernel
theorem dX12_with_84 : decode cX12_with 84 = .ok (.iand, 1) := by decide +kernel
theorem dX12_with_85 : decode cX12_with 85 = .ok (.invokevirtual 256, 3) := by decide +kernel
theorem dX12_with_88 : decode cX12_with 88 = .ok (.ifCond .eq 5, 3) := by decide +kernel
theorem dX12_with_91 : decode cX12_with 91 = .ok (.iload_n 3, 1) := by decide +kernel
theorem dX12_with_92 : decode cX12_with 92 = .ok (.istore_n 2, 1) := by decide +kernel
theorem dX12_with_93 : decode cX12_with 93 = .ok (.iinc 3 1, 3) := by decide +kernel
theorem dX12_with_96 : decode cX12_with 96 = .ok (.goto (-69), 3) := by decide +kernel
theorem dX12_with_99 : decode cX12_with 99 = .ok (.iload_n 2, 1) := by decide +kernel
theorem dX12_with_100 : decode cX12_with 100 = .ok (.ireturn, 1) := by decide +kernel
theorem dX12_houseOf_0 : decode cX12_houseOf 0 = .ok (.aload_n 0, 1) := by decide +kernel
theorem dX12_houseOf_1 : decode cX12_houseOf 1 = .ok (.iload_n 1, 1) := by decide +kernel
theorem dX12_houseOf_2 : decode cX12_houseOf 2 = .ok (.invokevirtual 80, 3) := by decide +kernel
theorem dX12_houseOf_5 : decode cX12_houseOf 5 = .ok (.ifCond .eq 12, 3) := by decide +kernel
theorem dX12_houseOf_8 : decode cX12_houseOf 8 = .ok (.iload_n 2, 1) := by decide +kernel
theorem dX12_houseOf_9 : decode cX12_houseOf 9 = .ok (.iconst 0, 1) := by decide +kernel
theorem dX12_houseOf_10 : decode cX12_houseOf 10 = .ok (.iconst 2, 1) := by decide +kernel
theorem dX12_houseOf_11 : decode cX12_houseOf 11 = .ok (.invokestatic 62, 3) := by decide +kernel
theorem dX12_houseOf_14 : decode cX12_houseOf 14 = .ok (.ifCond .ne 7, 3) := by decide +kernel
theorem dX12_houseOf_17 : decode cX12_houseOf 17 = .ok (.sipush (-1000), 3) := by decide +kernel
theorem dX12_houseOf_20 : decode cX12_houseOf 20 = .ok (.ireturn, 1) := by decide +kernel
theorem dX12_houseOf_21 : decode cX12_houseOf 21 = .ok (.iload_n 2, 1) := by decide +kernel
theorem dX12_houseOf_22 : decode cX12_houseOf 22 = .ok (.iconst 2, 1) := by decide +kernel
theorem dX12_houseOf_23 : decode cX12_houseOf 23 = .ok (.if_icmp .ne 20, 3) := by decide +kernel
theorem dX12_houseOf_26 : decode cX12_houseOf 26 = .ok (.aload_n 0, 1) := by decide +kernel
theorem dX12_houseOf_27 : decode cX12_houseOf 27 = .ok (.getfield 7, 3) := by decide +kernel
theorem dX12_houseOf_30 : decode cX12_houseOf 30 = .ok (.iload_n 1, 1) := by decide +kernel
theorem dX12_houseOf_31 : decode cX12_houseOf 31 = .ok (.invokestatic 77, 3) := by decide +kernel
theorem dX12_houseOf_34 : decode cX12_houseOf 34 = .ok (.iconst 2, 1) := by decide +kernel
theorem dX12_houseOf_35 : decode cX12_houseOf 35 = .ok (.iadd, 1) := by decide +kernel
theorem dX12_houseOf_36 : decode cX12_houseOf 36 = .ok (.iaload, 1) := by decide +kernel
theorem dX12_houseOf_37 : decode cX12_houseOf 37 = .ok (.invokestatic 70, 3) := by decide +kernel
theorem dX12_houseOf_40 : decode cX12_houseOf 40 = .ok (.goto 14, 3) := by decide +kernel
theorem dX12_houseOf_43 : decode cX12_houseOf 43 = .ok (.aload_n 0, 1) := by decide +kernel
theorem dX12_houseOf_44 : decode cX12_houseOf 44 = .ok (.getfield 7, 3) := by decide +kernel
theorem dX12_houseOf_47 : decode cX12_houseOf 47 = .ok (.iload_n 1, 1) := by decide +kernel
theorem dX12_houseOf_48 : decode cX12_houseOf 48 = .ok (.invokestatic 77, 3) := by decide +kernel
theorem dX12_houseOf_51 : decode cX12_houseOf 51 = .ok (.iload_n 2, 1) := by decide +kernel
theorem dX12_houseOf_52 : decode cX12_houseOf 52 = .ok (.iadd, 1) := by decide +kernel
theorem dX12_houseOf_53 : decode cX12_houseOf 53 = .ok (.iaload, 1) := by decide +kernel
theorem dX12_houseOf_54 : decode cX12_houseOf 54 = .ok (.ireturn, 1) := by decide +kernel
theorem dX12_findFar_0 : decode cX12_findFar 0 = .ok (.iconst 0, 1) := by decide +kernel
theorem dX12_findFar_1 : decode cX12_findFar 1 = .ok (.istore_n 2, 1) := by decide +kernel
theorem dX12_findFar_2 : decode cX12_findFar 2 = .ok (.iload_n 2, 1) := by decide +kernel
theorem dX12_findFar_3 : decode cX12_findFar 3 = .ok (.bipush 10, 2) := by decide +kernel
theorem dX12_findFar_5 : decode cX12_findFar 5 = .ok (.if_icmp .ge 27, 3) := by decide +kernel
theorem dX12_findFar_8 : decode cX12_findFar 8 = .ok (.aload_n 0, 1) := by decide +kernel
theorem dX12_findFar_9 : decode cX12_findFar 9 = .ok (.getfield 52, 3) := by decide +kernel
theorem dX12_findFar_12 : decode cX12_findFar 12 = .ok (.iload_n 2, 1) := by decide +kernel
theorem dX12_findFar_13 : decode cX12_findFar 13 = .ok (.iload_n 2, 1) := by decide +kernel
theorem dX12_findFar_14 : decode cX12_findFar 14 = .ok (.iload_n 1, 1) := by decide +kernel
theorem dX12_findFar_15 : decode cX12_findFar 15 = .ok (.if_icmp .ne 7, 3) := by decide +kernel
theorem dX12_findFar_18 : decode cX12_findFar 18 = .ok (.iconst 1, 1) := by decide +kernel
theorem dX12_findFar_19 : decode cX12_findFar 19 = .ok (.goto 6, 3) := by decide +kernel
theorem dX12_findFar_22 : decode cX12_findFar 22 = .ok (.ldc_w 311, 3) := by decide +kernel
theorem dX12_findFar_25 : decode cX12_findFar 25 = .ok (.iastore, 1) := by decide +kernel
theorem dX12_findFar_26 : decode cX12_findFar 26 = .ok (.iinc 2 1, 3) := by decide +kernel
theorem dX12_findFar_29 : decode cX12_findFar 29 = .ok (.goto (-27), 3) := by decide +kernel
theorem dX12_findFar_32 : decode cX12_findFar 32 = .ok (.iconst 0, 1) := by decide +kernel
theorem dX12_findFar_33 : decode cX12_findFar 33 = .ok (.istore_n 2, 1) := by decide +kernel
theorem dX12_findFar_34 : decode cX12_findFar 34 = .ok (.iload_n 2, 1) := by decide +kernel
theorem dX12_findFar_35 : decode cX12_findFar 35 = .ok (.aload_n 0, 1) := by decide +kernel
theorem dX12_findFar_36 : decode cX12_findFar 36 = .ok (.getfield 7, 3) := by decide +kernel
theorem dX12_findFar_39 : decode cX12_findFar 39 = .ok (.iconst 3, 1) := by decide +kernel
theorem dX12_findFar_40 : decode cX12_findFar 40 = .ok (.iaload, 1) := by decide +kernel
theorem dX12_findFar_41 : decode cX12_findFar 41 = .ok (.if_icmp .ge 116, 3) := by decide +kernel
theorem dX12_findFar_44 : decode cX12_findFar 44 = .ok (.iconst 0, 1) := by decide +kernel
theorem dX12_findFar_45 : decode cX12_findFar 45 = .ok (.istore_n 3, 1) := by decide +kernel
theorem dX12_findFar_46 : decode cX12_findFar 46 = .ok (.iload_n 3, 1) := by decide +kernel
theorem dX12_findFar_47 : decode cX12_findFar 47 = .ok (.aload_n 0, 1) := by decide +kernel
theorem dX12_findFar_48 : decode cX12_findFar 48 = .ok (.getfield 7, 3) := by decide +kernel
theorem dX12_findFar_51 : decode cX12_findFar 51 = .ok (.iconst 3, 1) := by decide +kernel
theorem dX12_findFar_52 : decode cX12_findFar 52 = .ok (.iaload, 1) := by decide +kernel
theorem dX12_findFar_53 : decode cX12_findFar 53 = .ok (.if_icmp .ge 98, 3) := by decide +kernel
theorem dX12_findFar_56 : decode cX12_findFar 56 = .ok (.iconst 0, 1) := by decide +kernel
theorem dX12_findFar_57 : decode cX12_findFar 57 = .ok (.istore 4, 2) := by decide +kernel
theorem dX12_findFar_59 : decode cX12_findFar 59 = .ok (.iload 4, 2) := by decide +kernel
theorem dX12_findFar_61 : decode cX12_findFar 61 = .ok (.aload_n 0, 1) := by decide +kernel
theorem dX12_findFar_62 : decode cX12_findFar 62 = .ok (.getfield 7, 3) := by decide +kernel
theorem dX12_findFar_65 : decode cX12_findFar 65 = .ok (.iconst 3, 1) := by decide +kernel
theorem dX12_findFar_66 : decode cX12_findFar 66 = .ok (.iaload, 1) := by decide +kernel
theorem dX12_findFar_67 : decode cX12_findFar 67 = .ok (.if_icmp .ge 78, 3) := by decide +kernel
theorem dX12_findFar_70 : decode cX12_findFar 70 = .ok (.iload_n 3, 1) := by decide +kernel
theorem dX12_findFar_71 : decode cX12_findFar 71 = .ok (.iload_n 1, 1) := by decide +kernel
theorem dX12_findFar_72 : decode cX12_findFar 72 = .ok (.if_icmp .eq 67, 3) := by decide +kernel
theorem dX12_findFar_75 : decode cX12_findFar 75 = .ok (.aload_n 0, 1) := by decide +kernel
theorem dX12_findFar_76 : decode cX12_findFar 76 = .ok (.getfield 7, 3) := by decide +kernel
theorem dX12_findFar_79 : decode cX12_findFar 79 = .ok (.iload_n 3, 1) := by decide +kernel
theorem dX12_findFar_80 : decode cX12_findFar 80 = .ok (.invokestatic 77, 3) := by decide +kernel
theorem dX12_findFar_83 : decode cX12_findFar 83 = .ok (.iaload, 1) := by decide +kernel
theorem dX12_findFar_84 : decode cX12_findFar 84 = .ok (.ifCond .le 55, 3) := by decide +kernel
theorem dX12_findFar_87 : decode cX12_findFar 87 = .ok (.aload_n 0, 1) := by decide +kernel
theorem dX12_findFar_88 : decode cX12_findFar 88 = .ok (.getfield 7, 3) := by decide +kernel
theorem dX12_findFar_91 : decode cX12_findFar 91 = .ok (.iload_n 3, 1) := by decide +kernel
theorem dX12_findFar_92 : decode cX12_findFar 92 = .ok (.invokestatic 77, 3) := by decide +kernel
theorem dX12_findFar_95 : decode cX12_findFar 95 = .ok (.iconst 2, 1) := by decide +kernel
theorem dX12_findFar_96 : decode cX12_findFar 96 = .ok (.iadd, 1) := by decide +kernel
theorem dX12_findFar_97 : decode cX12_findFar 97 = .ok (.iaload, 1) := by decide +kernel
theorem dX12_findFar_98 : decode cX12_findFar 98 = .ok (.iload 4, 2) := by decide +kernel
theorem dX12_findFar_100 : decode cX12_findFar 100 = .ok (.invokestatic 249, 3) := by decide +kernel
theorem dX12_findFar_103 : decode cX12_findFar 103 = .ok (.ifCond .eq 36, 3) := by decide +kernel
theorem dX12_findFar_106 : decode cX12_findFar 106 = .ok (.aload_n 0, 1) := by decide +kernel
theorem dX12_findFar_107 : decode cX12_findFar 107 = .ok (.getfield 52, 3) := by decide +kernel
theorem dX12_findFar_110 : decode cX12_findFar 110 = .ok (.iload 4, 2) := by decide +kernel
theorem dX12_findFar_112 : decode cX12_findFar 112 = .ok (.iaload, 1) := by decide +kernel
theorem dX12_findFar_113 : decode cX12_findFar 113 = .ok (.iconst 1, 1) := by decide +kernel
theorem dX12_findFar_114 : decode cX12_findFar 114 = .ok (.iadd, 1) := by decide +kernel
theorem dX12_findFar_115 : decode cX12_findFar 115 = .ok (.aload_n 0, 1) := by decide +kernel
theorem dX12_findFar_116 : decode cX12_findFar 116 = .ok (.getfield 52, 3) := by decide +kernel
theorem dX12_findFar_119 : decode cX12_findFar 119 = .ok (.iload_n 3, 1) := by decide +kernel
theorem dX12_findFar_120 : decode cX12_findFar 120 = .ok (.iaload, 1) := by decide +kernel
theorem dX12_findFar_121 : decode cX12_findFar 121 = .ok (.if_icmp .ge 18, 3) := by decide +kernel
theorem dX12_findFar_124 : decode cX12_findFar 124 = .ok (.aload_n 0, 1) := by decide +kernel
theorem dX12_findFar_125 : decode cX12_findFar 125 = .ok (.getfield 52, 3) := by decide +kernel
theorem dX12_findFar_128 : decode cX12_findFar 128 = .ok (.iload_n 3, 1) := by decide +kernel
theorem dX12_findFar_129 : decode cX12_findFar 129 = .ok (.aload_n 0, 1) := by decide +kernel
theorem dX12_findFar_130 : decode cX12_findFar 130 = .ok (.getfield 52, 3) := by decide +kernel
theorem dX12_findFar_133 : decode cX12_findFar 133 = .ok (.iload 4, 2) := by decide +kernel
theorem dX12_findFar_135 : decode cX12_findFar 135 = .ok (.iaload, 1) := by decide +kernel
theorem dX12_findFar_136 : decode cX12_findFar 136 = .ok (.iconst 1, 1) := by decide +kernel
theorem dX12_findFar_137 : decode cX12_findFar 137 = .ok (.iadd, 1) := by decide +kernel
theorem dX12_findFar_138 : decode cX12_findFar 138 = .ok (.iastore, 1) := by decide +kernel
theorem dX12_findFar_139 : decode cX12_findFar 139 = .ok (.iinc 4 1, 3) := by decide +kernel
theorem dX12_findFar_142 : decode cX12_findFar 142 = .ok (.goto (-83), 3) := by decide +kernel
theorem dX12_findFar_145 : decode cX12_findFar 145 = .ok (.iinc 3 1, 3) := by decide +kernel
theorem dX12_findFar_148 : decode cX12_findFar 148 = .ok (.goto (-102), 3) := by decide +kernel
theorem dX12_findFar_151 : decode cX12_findFar 151 = .ok (.iinc 2 1, 3) := by decide +kernel
theorem dX12_findFar_154 : decode cX12_findFar 154 = .ok (.goto (-120), 3) := by decide +kernel
theorem dX12_findFar_157 : decode cX12_findFar 157 = .ok (.return_, 1) := by decide +kernel
theorem dX12_row_0 : decode cX12_row 0 = .ok (.aload_n 0, 1) := by decide +kernel
theorem dX12_row_1 : decode cX12_row 1 = .ok (.iload_n 1, 1) := by decide +kernel
theorem dX12_row_2 : decode cX12_row 2 = .ok (.invokevirtual 80, 3) := by decide +kernel
theorem dX12_row_5 : decode cX12_row 5 = .ok (.ifCond .eq 16, 3) := by decide +kernel
theorem dX12_row_8 : decode cX12_row 8 = .ok (.aload_n 0, 1) := by decide +kernel
theorem dX12_row_9 : decode cX12_row 9 = .ok (.iload_n 2, 1) := by decide +kernel
theorem dX12_row_10 : decode cX12_row 10 = .ok (.invokevirtual 80, 3) := by decide +kernel
theorem dX12_row_13 : decode cX12_row 13 = .ok (.ifCond .eq 8, 3) := by decide +kernel
theorem dX12_row_16 : decode cX12_row 16 = .ok (.iload_n 3, 1) := by decide +kernel
theorem dX12_row_17 : decode cX12_row 17 = .ok (.iconst (-1), 1) := by decide +kernel
theorem dX12_row_18 : decode cX12_row 18 = .ok (.if_icmp .ge 5, 3) := by decide +kernel
theorem dX12_row_21 : decode cX12_row 21 = .ok (.iconst (-1), 1) := by decide +kernel
theorem dX12_row_22 : decode cX12_row 22 = .ok (.ireturn, 1) := by decide +kernel
theorem dX12_row_23 : decode cX12_row 23 = .ok (.aload_n 0, 1) := by decide +kernel
theorem dX12_row_24 : decode cX12_row 24 = .ok (.iload_n 2, 1) := by decide +kernel
theorem dX12_row_25 : decode cX12_row 25 = .ok (.invokevirtual 321, 3) := by decide +kernel
theorem dX12_row_28 : decode cX12_row 28 = .ok (.aload_n 0, 1) := by decide +kernel
theorem dX12_row_29 : decode cX12_row 29 = .ok (.getfield 52, 3) := by decide +kernel
theorem dX12_row_32 : decode cX12_row 32 = .ok (.iload_n 1, 1) := by decide +kernel
theorem dX12_row_33 : decode cX12_row 33 = .ok (.iaload, 1) := by decide +kernel
theorem dX12_row_34 : decode cX12_row 34 = .ok (.ldc_w 311, 3) := by decide +kernel
theorem dX12_row_37 : decode cX12_row 37 = .ok (.if_icmp .ge 13, 3) := by decide +kernel
theorem dX12_row_40 : decode cX12_row 40 = .ok (.iload_n 3, 1) := by decide +kernel
theorem dX12_row_41 : decode cX12_row 41 = .ok (.aload_n 0, 1) := by decide +kernel
theorem dX12_row_42 : decode cX12_row 42 = .ok (.getfield 52, 3) := by decide +kernel
theorem dX12_row_45 : decode cX12_row 45 = .ok (.iload_n 1, 1) := by decide +kernel
theorem dX12_row_46 : decode cX12_row 46 = .ok (.iaload, 1) := by decide +kernel
theorem dX12_row_47 : decode cX12_row 47 = .ok (.if_icmp .lt 5, 3) := by decide +kernel
theorem dX12_row_50 : decode cX12_row 50 = .ok (.iconst (-1), 1) := by decide +kernel
theorem dX12_row_51 : decode cX12_row 51 = .ok (.ireturn, 1) := by decide +kernel
theorem dX12_row_52 : decode cX12_row 52 = .ok (.iload_n 3, 1) := by decide +kernel
theorem dX12_row_53 : decode cX12_row 53 = .ok (.iconst (-1), 1) := by decide +kernel
theorem dX12_row_54 : decode cX12_row 54 = .ok (.if_icmp .ne 10, 3) := by decide +kernel
theorem dX12_row_57 : decode cX12_row 57 = .ok (.aload_n 0, 1) := by decide +kernel
theorem dX12_row_58 : decode cX12_row 58 = .ok (.getfield 52, 3) := by decide +kernel
theorem dX12_row_61 : decode cX12_row 61 = .ok (.iload_n 1, 1) := by decide +kernel
theorem dX12_row_62 : decode cX12_row 62 = .ok (.iaload, 1) := by decide +kernel
theorem dX12_row_63 : decode cX12_row 63 = .ok (.ireturn, 1) := by decide +kernel
theorem dX12_row_64 : decode cX12_row 64 = .ok (.iload_n 1, 1) := by decide +kernel
theorem dX12_row_65 : decode cX12_row 65 = .ok (.istore 4, 2) := by decide +kernel
theorem dX12_row_67 : decode cX12_row 67 = .ok (.iconst 0, 1) := by decide +kernel
theorem dX12_row_68 : decode cX12_row 68 = .ok (.istore 5, 2) := by decide +kernel
theorem dX12_row_70 : decode cX12_row 70 = .ok (.iload 5, 2) := by decide +kernel
theorem dX12_row_72 : decode cX12_row 72 = .ok (.iload_n 3, 1) := by decide +kernel
theorem dX12_row_73 : decode cX12_row 73 = .ok (.if_icmp .ge 61, 3) := by decide +kernel
theorem dX12_row_76 : decode cX12_row 76 = .ok (.iconst 0, 1) := by decide +kernel
theorem dX12_row_77 : decode cX12_row 77 = .ok (.istore 6, 2) := by decide +kernel
theorem dX12_row_79 : decode cX12_row 79 = .ok (.aload_n 0, 1) := by decide +kernel
theorem dX12_row_80 : decode cX12_row 80 = .ok (.getfield 7, 3) := by decide +kernel
theorem dX12_row_83 : decode cX12_row 83 = .ok (.iload 4, 2) := by decide +kernel
theorem dX12_row_85 : decode cX12_row 85 = .ok (.invokestatic 77, 3) := by decide +kernel
theorem dX12_row_88 : decode cX12_row 88 = .ok (.iconst 2, 1) := by decide +kernel
theorem dX12_row_89 : decode cX12_row 89 = .ok (.iadd, 1) := by decide +kernel
theorem dX12_row_90 : decode cX12_row 90 = .ok (.iaload, 1) := by decide +kernel
theorem dX12_row_91 : decode cX12_row 91 = .ok (.iload 6, 2) := by decide +kernel
theorem dX12_row_93 : decode cX12_row 93 = .ok (.invokestatic 249, 3) := by decide +kernel
theorem dX12_row_96 : decode cX12_row 96 = .ok (.ifCond .eq 22, 3) := by decide +kernel
theorem dX12_row_99 : decode cX12_row 99 = .ok (.aload_n 0, 1) := by decide +kernel
theorem dX12_row_100 : decode cX12_row 100 = .ok (.getfield 52, 3) := by decide +kernel
theorem dX12_row_103 : decode cX12_row 103 = .ok (.iload 6, 2) := by decide +kernel
theorem dX12_row_105 : decode cX12_row 105 = .ok (.iaload, 1) := by decide +kernel
theorem dX12_row_106 : decode cX12_row 106 = .ok (.aload_n 0, 1) := by decide +kernel
theorem dX12_row_107 : decode cX12_row 107 = .ok (.getfield 52, 3) := by decide +kernel
theorem dX12_row_110 : decode cX12_row 110 = .ok (.iload 4, 2) := by decide +kernel
theorem dX12_row_112 : decode cX12_row 112 = .ok (.iaload, 1) := by decide +kernel
theorem dX12_row_113 : decode cX12_row 113 = .ok (.iconst 1, 1) := by decide +kernel
theorem dX12_row_114 : decode cX12_row 114 = .ok (.isub, 1) := by decide +kernel
theorem dX12_row_115 : decode cX12_row 115 = .ok (.if_icmp .eq 9, 3) := by decide +kernel
theorem dX12_row_118 : decode cX12_row 118 = .ok (.iinc 6 1, 3) := by decide +kernel
theorem dX12_row_121 : decode cX12_row 121 = .ok (.goto (-42), 3) := by decide +kernel
theorem dX12_row_124 : decode cX12_row 124 = .ok (.iload 6, 2) := by decide +kernel
theorem dX12_row_126 : decode cX12_row 126 = .ok (.istore 4, 2) := by decide +kernel
theorem dX12_row_128 : decode cX12_row 128 = .ok (.iinc 5 1, 3) := by decide +kernel
theorem dX12_row_131 : decode cX12_row 131 = .ok (.goto (-61), 3) := by decide +kernel
theorem dX12_row_134 : decode cX12_row 134 = .ok (.iload 4, 2) := by decide +kernel
theorem dX12_row_136 : decode cX12_row 136 = .ok (.ireturn, 1) := by decide +kernel
theorem dX12_winter_0 : decode cX12_winter 0 = .ok (.iconst 0, 1) := by decide +kernel
theorem dX12_winter_1 : decode cX12_winter 1 = .ok (.istore_n 1, 1) := by decide +kernel
theorem dX12_winter_2 : decode cX12_winter 2 = .ok (.iconst 0, 1) := by decide +kernel
theorem dX12_winter_3 : decode cX12_winter 3 = .ok (.istore_n 2, 1) := by decide +kernel
theorem dX12_winter_4 : decode cX12_winter 4 = .ok (.iload_n 2, 1) := by decide +kernel
theorem dX12_winter_5 : decode cX12_winter 5 = .ok (.aload_n 0, 1) := by decide +kernel
theorem dX12_winter_6 : decode cX12_winter 6 = .ok (.getfield 7, 3) := by decide +kernel
theorem dX12_winter_9 : decode cX12_winter 9 = .ok (.iconst 3, 1) := by decide +kernel
theorem dX12_winter_10 : decode cX12_winter 10 = .ok (.iaload, 1) := by decide +kernel
theorem dX12_winter_11 : decode cX12_winter 11 = .ok (.if_icmp .ge 33, 3) := by decide +kernel
theorem dX12_winter_14 : decode cX12_winter 14 = .ok (.iload_n 1, 1) := by decide +kernel
theorem dX12_winter_15 : decode cX12_winter 15 = .ok (.aload_n 0, 1) := by decide +kernel
theorem dX12_winter_16 : decode cX12_winter 16 = .ok (.getfield 7, 3) := by decide +kernel
theorem dX12_winter_19 : decode cX12_winter 19 = .ok (.iload_n 2, 1) := by decide +kernel
theorem dX12_winter_20 : decode cX12_winter 20 = .ok (.invokestatic 77, 3) := by decide +kernel
theorem dX12_winter_23 : decode cX12_winter 23 = .ok (.iconst 1, 1) := by decide +kernel
theorem dX12_winter_24 : decode cX12_winter 24 = .ok (.iadd, 1) := by decide +kernel
theorem dX12_winter_25 : decode cX12_winter 25 = .ok (.iaload, 1) := by decide +kernel
theorem dX12_winter_26 : decode cX12_winter 26 = .ok (.ifCond .eq 9, 3) := by decide +kernel
theorem dX12_winter_29 : decode cX12_winter 29 = .ok (.iconst 1, 1) := by decide +kernel
theorem dX12_winter_30 : decode cX12_winter 30 = .ok (.iload_n 2, 1) := by decide +kernel
theorem dX12_winter_31 : decode cX12_winter 31 = .ok (.ishl, 1) := by decide +kernel
theorem dX12_winter_32 : decode cX12_winter 32 = .ok (.goto 4, 3) := by decide +kernel
theorem dX12_winter_35 : decode cX12_winter 35 = .ok (.iconst 0, 1) := by decide +kernel
theorem dX12_winter_36 : decode cX12_winter 36 = .ok (.iadd, 1) := by decide +kernel
theorem dX12_winter_37 : decode cX12_winter 37 = .ok (.istore_n 1, 1) := by decide +kernel
theorem dX12_winter_38 : decode cX12_winter 38 = .ok (.iinc 2 1, 3) := by decide +kernel
theorem dX12_winter_41 : decode cX12_winter 41 = .ok (.goto (-37), 3) := by decide +kernel
theorem dX12_winter_44 : decode cX12_winter 44 = .ok (.iconst 0, 1) := by decide +kernel
theorem dX12_winter_45 : decode cX12_winter 45 = .ok (.istore_n 2, 1) := by decide +kernel
theorem dX12_winter_46 : decode cX12_winter 46 = .ok (.iconst 0, 1) := by decide +kernel
theorem dX12_winter_47 : decode cX12_winter 47 = .ok (.istore_n 3, 1) := by decide +kernel
theorem dX12_winter_48 : decode cX12_winter 48 = .ok (.iload_n 3, 1) := by decide +kernel
theorem dX12_winter_49 : decode cX12_winter 49 = .ok (.iconst 1, 1) := by decide +kernel
theorem dX12_winter_50 : decode cX12_winter 50 = .ok (.aload_n 0, 1) := by decide +kernel
theorem dX12_winter_51 : decode cX12_winter 51 = .ok (.getfield 7, 3) := by decide +kernel
theorem dX12_winter_54 : decode cX12_winter 54 = .ok (.iconst 3, 1) := by decide +kernel
theorem dX12_winter_55 : decode cX12_winter 55 = .ok (.iaload, 1) := by decide +kernel
theorem dX12_winter_56 : decode cX12_winter 56 = .ok (.ishl, 1) := by decide +kernel
theorem dX12_winter_57 : decode cX12_winter 57 = .ok (.if_icmp .ge 149, 3) := by decide +kernel
theorem dX12_winter_60 : decode cX12_winter 60 = .ok (.iconst 0, 1) := by decide +kernel
theorem dX12_winter_61 : decode cX12_winter 61 = .ok (.istore 4, 2) := by decide +kernel
theorem dX12_winter_63 : decode cX12_winter 63 = .ok (.aload_n 0, 1) := by decide +kernel
theorem dX12_winter_64 : decode cX12_winter 64 = .ok (.getfield 55, 3) := by decide +kernel
theorem dX12_winter_67 : decode cX12_winter 67 = .ok (.iload_n 3, 1) := by decide +kernel
theorem dX12_winter_68 : decode cX12_winter 68 = .ok (.iconst 0, 1) := by decide +kernel
theorem dX12_winter_69 : decode cX12_winter 69 = .ok (.iastore, 1) := by decide +kernel
theorem dX12_winter_70 : decode cX12_winter 70 = .ok (.iconst 0, 1) := by decide +kernel
theorem dX12_winter_71 : decode cX12_winter 71 = .ok (.istore 5, 2) := by decide +kernel
theorem dX12_winter_73 : decode cX12_winter 73 = .ok (.iload 5, 2) := by decide +kernel
theorem dX12_winter_75 : decode cX12_winter 75 = .ok (.aload_n 0, 1) := by decide +kernel
theorem dX12_winter_76 : decode cX12_winter 76 = .ok (.getfield 7, 3) := by decide +kernel
theorem dX12_winter_79 : decode cX12_winter 79 = .ok (.iconst 3, 1) := by decide +kernel
theorem dX12_winter_80 : decode cX12_winter 80 = .ok (.iaload, 1) := by decide +kernel
theorem dX12_winter_81 : decode cX12_winter 81 = .ok (.if_icmp .ge 79, 3) := by decide +kernel
theorem dX12_winter_84 : decode cX12_winter 84 = .ok (.iload_n 3, 1) := by decide +kernel
theorem dX12_winter_85 : decode cX12_winter 85 = .ok (.iload 5, 2) := by decide +kernel
theorem dX12_winter_87 : decode cX12_winter 87 = .ok (.invokestatic 249, 3) := by decide +kernel
theorem dX12_winter_90 : decode cX12_winter 90 = .ok (.ifCond .ne 6, 3) := by decide +kernel
theorem dX12_winter_93 : decode cX12_winter 93 = .ok (.goto 61, 3) := by decide +kernel
theorem dX12_winter_96 : decode cX12_winter 96 = .ok (.iload 4, 2) := by decide +kernel
theorem dX12_winter_98 : decode cX12_winter 98 = .ok (.aload_n 0, 1) := by decide +kernel
theorem dX12_winter_99 : decode cX12_winter 99 = .ok (.getfield 7, 3) := by decide +kernel
theorem dX12_winter_102 : decode cX12_winter 102 = .ok (.iload 5, 2) := by decide +kernel
theorem dX12_winter_104 : decode cX12_winter 104 = .ok (.invokestatic 77, 3) := by decide +kernel
theorem dX12_winter_107 : decode cX12_winter 107 = .ok (.iconst 1, 1) := by decide +kernel
theorem dX12_winter_108 : decode cX12_winter 108 = .ok (.iadd, 1) := by decide +kernel
theorem dX12_winter_109 : decode cX12_winter 109 = .ok (.iaload, 1) := by decide +kernel
theorem dX12_winter_110 : decode cX12_winter 110 = .ok (.iadd, 1) := by decide +kernel
theorem dX12_winter_111 : decode cX12_winter 111 = .ok (.istore 4, 2) := by decide +kernel
theorem dX12_winter_113 : decode cX12_winter 113 = .ok (.aload_n 0, 1) := by decide +kernel
theorem dX12_winter_114 : decode cX12_winter 114 = .ok (.getfield 55, 3) := by decide +kernel
theorem dX12_winter_117 : decode cX12_winter 117 = .ok (.iload_n 3, 1) := by decide +kernel
theorem dX12_winter_118 : decode cX12_winter 118 = .ok (.iconst 1, 1) := by decide +kernel
theorem dX12_winter_119 : decode cX12_winter 119 = .ok (.iload 5, 2) := by decide +kernel
theorem dX12_winter_121 : decode cX12_winter 121 = .ok (.ishl, 1) := by decide +kernel
theorem dX12_winter_122 : decode cX12_winter 122 = .ok (.iconst (-1), 1) := by decide +kernel
theorem dX12_winter_123 : decode cX12_winter 123 = .ok (.ixor, 1) := by decide +kernel
theorem dX12_winter_124 : decode cX12_winter 124 = .ok (.iand, 1) := by decide +kernel
theorem dX12_winter_125 : decode cX12_winter 125 = .ok (.iaload, 1) := by decide +kernel
theorem dX12_winter_126 : decode cX12_winter 126 = .ok (.aload_n 0, 1) := by decide +kernel
theorem dX12_winter_127 : decode cX12_winter 127 = .ok (.getfield 55, 3) := by decide +kernel
theorem dX12_winter_130 : decode cX12_winter 130 = .ok (.iload_n 3, 1) := by decide +kernel
theorem dX12_winter_131 : decode cX12_winter 131 = .ok (.iaload, 1) := by decide +kernel
theorem dX12_winter_132 : decode cX12_winter 132 = .ok (.if_icmp .le 22, 3) := by decide +kernel
theorem dX12_winter_135 : decode cX12_winter 135 = .ok (.aload_n 0, 1) := by decide +kernel
theorem dX12_winter_136 : decode cX12_winter 136 = .ok (.getfield 55, 3) := by decide +kernel
theorem dX12_winter_139 : decode cX12_winter 139 = .ok (.iload_n 3, 1) := by decide +kernel
theorem dX12_winter_140 : decode cX12_winter 140 = .ok (.aload_n 0, 1) := by decide +kernel
theorem dX12_winter_141 : decode cX12_winter 141 = .ok (.getfield 55, 3) := by decide +kernel
theorem dX12_winter_144 : decode cX12_winter 144 = .ok (.iload_n 3, 1) := by decide +kernel
theorem dX12_winter_145 : decode cX12_winter 145 = .ok (.iconst 1, 1) := by decide +kernel
theorem dX12_winter_146 : decode cX12_winter 146 = .ok (.iload 5, 2) := by decide +kernel
theorem dX12_winter_148 : decode cX12_winter 148 = .ok (.ishl, 1) := by decide +kernel
theorem dX12_winter_149 : decode cX12_winter 149 = .ok (.iconst (-1), 1) := by decide +kernel
theorem dX12_winter_150 : decode cX12_winter 150 = .ok (.ixor, 1) := by decide +kernel
theorem dX12_winter_151 : decode cX12_winter 151 = .ok (.iand, 1) := by decide +kernel
theorem dX12_winter_152 : decode cX12_winter 152 = .ok (.iaload, 1) := by decide +kernel
theorem dX12_winter_153 : decode cX12_winter 153 = .ok (.iastore, 1) := by decide +kernel
theorem dX12_winter_154 : decode cX12_winter 154 = .ok (.iinc 5 1, 3) := by decide +kernel
theorem dX12_winter_157 : decode cX12_winter 157 = .ok (.goto (-84), 3) := by decide +kernel
theorem dX12_winter_160 : decode cX12_winter 160 = .ok (.aload_n 0, 1) := by decide +kernel
theorem dX12_winter_161 : decode cX12_winter 161 = .ok (.getfield 55, 3) := by decide +kernel
theorem dX12_winter_164 : decode cX12_winter 164 = .ok (.iload_n 3, 1) := by decide +kernel
theorem dX12_winter_165 : decode cX12_winter 165 = .ok (.dup2, 1) := by decide +kernel
theorem dX12_winter_166 : decode cX12_winter 166 = .ok (.iaload, 1) := by decide +kernel
theorem dX12_winter_167 : decode cX12_winter 167 = .ok (.iload 4, 2) := by decide +kernel
theorem dX12_winter_169 : decode cX12_winter 169 = .ok (.ifCond .ne 11, 3) := by decide +kernel
theorem dX12_winter_172 : decode cX12_winter 172 = .ok (.iload_n 3, 1) := by decide +kernel
theorem dX12_winter_173 : decode cX12_winter 173 = .ok (.ifCond .eq 7, 3) := by decide +kernel
theorem dX12_winter_176 : decode cX12_winter 176 = .ok (.iconst 1, 1) := by decide +kernel
theorem dX12_winter_177 : decode cX12_winter 177 = .ok (.goto 4, 3) := by decide +kernel
theorem dX12_winter_180 : decode cX12_winter 180 = .ok (.iconst 0, 1) := by decide +kernel
theorem dX12_winter_181 : decode cX12_winter 181 = .ok (.iadd, 1) := by decide +kernel
theorem dX12_winter_182 : decode cX12_winter 182 = .ok (.iastore, 1) := by decide +kernel
theorem dX12_winter_183 : decode cX12_winter 183 = .ok (.iload_n 3, 1) := by decide +kernel
theorem dX12_winter_184 : decode cX12_winter 184 = .ok (.iload_n 1, 1) := by decide +kernel
theorem dX12_winter_185 : decode cX12_winter 185 = .ok (.if_icmp .ne 15, 3) := by decide +kernel
theorem dX12_winter_188 : decode cX12_winter 188 = .ok (.iload_n 3, 1) := by decide +kernel
theorem dX12_winter_189 : decode cX12_winter 189 = .ok (.invokestatic 70, 3) := by decide +kernel
theorem dX12_winter_192 : decode cX12_winter 192 = .ok (.aload_n 0, 1) := by decide +kernel
theorem dX12_winter_193 : decode cX12_winter 193 = .ok (.getfield 55, 3) := by decide +kernel
theorem dX12_winter_196 : decode cX12_winter 196 = .ok (.iload_n 3, 1) := by decide +kernel
theorem dX12_winter_197 : decode cX12_winter 197 = .ok (.iaload, 1) := by decide +kernel
theorem dX12_winter_198 : decode cX12_winter 198 = .ok (.isub, 1) := by decide +kernel
theorem dX12_winter_199 : decode cX12_winter 199 = .ok (.istore_n 2, 1) := by decide +kernel
theorem dX12_winter_200 : decode cX12_winter 200 = .ok (.iinc 3 1, 3) := by decide +kernel
theorem dX12_winter_203 : decode cX12_winter 203 = .ok (.goto (-155), 3) := by decide +kernel
theorem dX12_winter_206 : decode cX12_winter 206 = .ok (.iload_n 2, 1) := by decide +kernel
theorem dX12_winter_207 : decode cX12_winter 207 = .ok (.ireturn, 1) := by decide +kernel
theorem dX12_draw_0 : decode cX12_draw 0 = .ok (.aload_n 0, 1) := by decide +kernel
theorem dX12_draw_1 : decode cX12_draw 1 = .ok (.getfield 324, 3) := by decide +kernel
theorem dX12_draw_4 : decode cX12_draw 4 = .ok (.iload_n 1, 1) := by decide +kernel
theorem dX12_draw_5 : decode cX12_draw 5 = .ok (.irem, 1) := by decide +kernel
theorem dX12_draw_6 : decode cX12_draw 6 = .ok (.istore_n 2, 1) := by decide +kernel
theorem dX12_draw_7 : decode cX12_draw 7 = .ok (.aload_n 0, 1) := by decide +kernel
theorem dX12_draw_8 : decode cX12_draw 8 = .ok (.aload_n 0, 1) := by decide +kernel
theorem dX12_draw_9 : decode cX12_draw 9 = .ok (.getfield 324, 3) := by decide +kernel
theorem dX12_draw_12 : decode cX12_draw 12 = .ok (.i2l, 1) := by decide +kernel
theorem dX12_draw_13 : decode cX12_draw 13 = .ok (.ldc2_w 327, 3) := by decide +kernel
theorem dX12_draw_16 : decode cX12_draw 16 = .ok (.lmul, 1) := by decide +kernel
theorem dX12_draw_17 : decode cX12_draw 17 = .ok (.ldc2_w 329, 3) := by decide +kernel
theorem dX12_draw_20 : decode cX12_draw 20 = .ok (.ladd, 1) := by decide +kernel
theorem dX12_draw_21 : decode cX12_draw 21 = .ok (.ldc2_w 331, 3) := by decide +kernel
theorem dX12_draw_24 : decode cX12_draw 24 = .ok (.lrem, 1) := by decide +kernel
theorem dX12_draw_25 : decode cX12_draw 25 = .ok (.l2i, 1) := by decide +kernel
theorem dX12_draw_26 : decode cX12_draw 26 = .ok (.putfield 324, 3) := by decide +kernel
theorem dX12_draw_29 : decode cX12_draw 29 = .ok (.iload_n 2, 1) := by decide +kernel
theorem dX12_draw_30 : decode cX12_draw 30 = .ok (.ireturn, 1) := by decide +kernel
theorem dX12_town_0 : decode cX12_town 0 = .ok (.iload_n 1, 1) := by decide +kernel
theorem dX12_town_1 : decode cX12_town 1 = .ok (.iconst 0, 1) := by decide +kernel
theorem dX12_town_2 : decode cX12_town 2 = .ok (.sipush 9999, 3) := by decide +kernel
theorem dX12_town_5 : decode cX12_town 5 = .ok (.invokestatic 62, 3) := by decide +kernel
theorem dX12_town_8 : decode cX12_town 8 = .ok (.ifCond .eq 22, 3) := by decide +kernel
theorem dX12_town_11 : decode cX12_town 11 = .ok (.iload_n 2, 1) := by decide +kernel
theorem dX12_town_12 : decode cX12_town 12 = .ok (.iconst 1, 1) := by decide +kernel
theorem dX12_town_13 : decode cX12_town 13 = .ok (.bipush 99, 2) := by decide +kernel
theorem dX12_town_15 : decode cX12_town 15 = .ok (.invokestatic 62, 3) := by decide +kernel
theorem dX12_town_18 : decode cX12_town 18 = .ok (.ifCond .eq 12, 3) := by decide +kernel
theorem dX12_town_21 : decode cX12_town 21 = .ok (.aload_n 0, 1) := by decide +kernel
theorem dX12_town_22 : decode cX12_town 22 = .ok (.getfield 7, 3) := by decide +kernel
theorem dX12_town_25 : decode cX12_town 25 = .ok (.iconst 3, 1) := by decide +kernel
theorem dX12_town_26 : decode cX12_town 26 = .ok (.iaload, 1) := by decide +kernel
theorem dX12_town_27 : decode cX12_town 27 = .ok (.ifCond .ne 5, 3) := by decide +kernel
theorem dX12_town_30 : decode cX12_town 30 = .ok (.iconst (-1), 1) := by decide +kernel
theorem dX12_town_31 : decode cX12_town 31 = .ok (.ireturn, 1) := by decide +kernel
theorem dX12_town_32 : decode cX12_town 32 = .ok (.aload_n 0, 1) := by decide +kernel
theorem dX12_town_33 : decode cX12_town 33 = .ok (.invokevirtual 284, 3) := by decide +kernel
theorem dX12_town_36 : decode cX12_town 36 = .ok (.aload_n 0, 1) := by decide +kernel
theorem dX12_town_37 : decode cX12_town 37 = .ok (.iload_n 1, 1) := by decide +kernel
theorem dX12_town_38 : decode cX12_town 38 = .ok (.bipush 9, 2) := by decide +kernel
theorem dX12_town_40 : decode cX12_town 40 = .ok (.imul, 1) := by decide +kernel
theorem dX12_town_41 : decode cX12_town 41 = .ok (.iconst 4, 1) := by decide +kernel
theorem dX12_town_42 : decode cX12_town 42 = .ok (.iadd, 1) := by decide +kernel
theorem dX12_town_43 : decode cX12_town 43 = .ok (.putfield 324, 3) := by decide +kernel
theorem dX12_town_46 : decode cX12_town 46 = .ok (.iconst 0, 1) := by decide +kernel
theorem dX12_town_47 : decode cX12_town 47 = .ok (.istore_n 3, 1) := by decide +kernel
theorem dX12_town_48 : decode cX12_town 48 = .ok (.iconst 0, 1) := by decide +kernel
theorem dX12_town_49 : decode cX12_town 49 = .ok (.istore 4, 2) := by decide +kernel
theorem dX12_town_51 : decode cX12_town 51 = .ok (.iload 4, 2) := by decide +kernel
theorem dX12_town_53 : decode cX12_town 53 = .ok (.iload_n 2, 1) := by decide +kernel
theorem dX12_town_54 : decode cX12_town 54 = .ok (.if_icmp .ge 143, 3) := by decide +kernel
theorem dX12_town_57 : decode cX12_town 57 = .ok (.aload_n 0, 1) := by decide +kernel
theorem dX12_town_58 : decode cX12_town 58 = .ok (.aload_n 0, 1) := by decide +kernel
theorem dX12_town_59 : decode cX12_town 59 = .ok (.getfield 7, 3) := by decide +kernel
theorem dX12_town_62 : decode cX12_town 62 = .ok (.iconst 3, 1) := by decide +kernel
theorem dX12_town_63 : decode cX12_town 63 = .ok (.iaload, 1) := by decide +kernel
theorem dX12_town_64 : decode cX12_town 64 = .ok (.invokevirtual 333, 3) := by decide +kernel
theorem dX12_town_67 : decode cX12_town 67 = .ok (.istore 5, 2) := by decide +kernel
theorem dX12_town_69 : decode cX12_town 69 = .ok (.aload_n 0, 1) := by decide +kernel
theorem dX12_town_70 : decode cX12_town 70 = .ok (.getfield 7, 3) := by decide +kernel
theorem dX12_town_73 : decode cX12_town 73 = .ok (.iload 5, 2) := by decide +kernel
theorem dX12_town_75 : decode cX12_town 75 = .ok (.invokestatic 77, 3) := by decide +kernel
theorem dX12_town_78 : decode cX12_town 78 = .ok (.iconst 2, 1) := by decide +kernel
theorem dX12_town_79 : decode cX12_town 79 = .ok (.iadd, 1) := by decide +kernel
theorem dX12_town_80 : decode cX12_town 80 = .ok (.iaload, 1) := by decide +kernel
theorem dX12_town_81 : decode cX12_town 81 = .ok (.invokestatic 70, 3) := by decide +kernel
theorem dX12_town_84 : decode cX12_town 84 = .ok (.istore 6, 2) := by decide +kernel
theorem dX12_town_86 : decode cX12_town 86 = .ok (.iload 6, 2) := by decide +kernel
theorem dX12_town_88 : decode cX12_town 88 = .ok (.ifCond .ne 6, 3) := by decide +kernel
theorem dX12_town_91 : decode cX12_town 91 = .ok (.goto 100, 3) := by decide +kernel
theorem dX12_town_94 : decode cX12_town 94 = .ok (.aload_n 0, 1) := by decide +kernel
theorem dX12_town_95 : decode cX12_town 95 = .ok (.iload 6, 2) := by decide +kernel
theorem dX12_town_97 : decode cX12_town 97 = .ok (.invokevirtual 333, 3) := by decide +kernel
theorem dX12_town_100 : decode cX12_town 100 = .ok (.istore 7, 2) := by decide +kernel
theorem dX12_town_102 : decode cX12_town 102 = .ok (.iconst 0, 1) := by decide +kernel
theorem dX12_town_103 : decode cX12_town 103 = .ok (.istore 8, 2) := by decide +kernel
theorem dX12_town_105 : decode cX12_town 105 = .ok (.aload_n 0, 1) := by decide +kernel
theorem dX12_town_106 : decode cX12_town 106 = .ok (.getfield 7, 3) := by decide +kernel
theorem dX12_town_109 : decode cX12_town 109 = .ok (.iload 5, 2) := by decide +kernel
theorem dX12_town_111 : decode cX12_town 111 = .ok (.invokestatic 77, 3) := by decide +kernel
theorem dX12_town_114 : decode cX12_town 114 = .ok (.iconst 2, 1) := by decide +kernel
theorem dX12_town_115 : decode cX12_town 115 = .ok (.iadd, 1) := by decide +kernel
theorem dX12_town_116 : decode cX12_town 116 = .ok (.iaload, 1) := by decide +kernel
theorem dX12_town_117 : decode cX12_town 117 = .ok (.iload 8, 2) := by decide +kernel
theorem dX12_town_119 : decode cX12_town 119 = .ok (.invokestatic 249, 3) := by decide +kernel
theorem dX12_town_122 : decode cX12_town 122 = .ok (.ifCond .eq 8, 3) := by decide +kernel
theorem dX12_town_125 : decode cX12_town 125 = .ok (.iload 7, 2) := by decide +kernel
theorem dX12_town_127 : decode cX12_town 127 = .ok (.ifCond .le 39, 3) := by decide +kernel
theorem dX12_town_130 : decode cX12_town 130 = .ok (.iload 7, 2) := by decide +kernel
theorem dX12_town_132 : decode cX12_town 132 = .ok (.aload_n 0, 1) := by decide +kernel
theorem dX12_town_133 : decode cX12_town 133 = .ok (.getfield 7, 3) := by decide +kernel
theorem dX12_town_136 : decode cX12_town 136 = .ok (.iload 5, 2) := by decide +kernel
theorem dX12_town_138 : decode cX12_town 138 = .ok (.invokestatic 77, 3) := by decide +kernel
theorem dX12_town_141 : decode cX12_town 141 = .ok (.iconst 2, 1) := by decide +kernel
theorem dX12_town_142 : decode cX12_town 142 = .ok (.iadd, 1) := by decide +kernel
theorem dX12_town_143 : decode cX12_town 143 = .ok (.iaload, 1) := by decide +kernel
theorem dX12_town_144 : decode cX12_town 144 = .ok (.iload 8, 2) := by decide +kernel
theorem dX12_town_146 : decode cX12_town 146 = .ok (.invokestatic 249, 3) := by decide +kernel
theorem dX12_town_149 : decode cX12_town 149 = .ok (.ifCond .eq 7, 3) := by decide +kernel
theorem dX12_town_152 : decode cX12_town 152 = .ok (.iconst 1, 1) := by decide +kernel
theorem dX12_town_153 : decode cX12_town 153 = .ok (.goto 4, 3) := by decide +kernel
theorem dX12_town_156 : decode cX12_town 156 = .ok (.iconst 0, 1) := by decide +kernel
theorem dX12_town_157 : decode cX12_town 157 = .ok (.isub, 1) := by decide +kernel
theorem dX12_town_158 : decode cX12_town 158 = .ok (.istore 7, 2) := by decide +kernel
theorem dX12_town_160 : decode cX12_town 160 = .ok (.iinc 8 1, 3) := by decide +kernel
theorem dX12_town_163 : decode cX12_town 163 = .ok (.goto (-58), 3) := by decide +kernel
theorem dX12_town_166 : decode cX12_town 166 = .ok (.aload_n 0, 1) := by decide +kernel
theorem dX12_town_167 : decode cX12_town 167 = .ok (.iload 5, 2) := by decide +kernel
theorem dX12_town_169 : decode cX12_town 169 = .ok (.iload 8, 2) := by decide +kernel
theorem dX12_town_171 : decode cX12_town 171 = .ok (.invokevirtual 287, 3) := by decide +kernel
theorem dX12_town_174 : decode cX12_town 174 = .ok (.ifCond .ne 6, 3) := by decide +kernel
theorem dX12_town_177 : decode cX12_town 177 = .ok (.goto 14, 3) := by decide +kernel
theorem dX12_town_180 : decode cX12_town 180 = .ok (.aload_n 0, 1) := by decide +kernel
theorem dX12_town_181 : decode cX12_town 181 = .ok (.iload 5, 2) := by decide +kernel
theorem dX12_town_183 : decode cX12_town 183 = .ok (.iload 8, 2) := by decide +kernel
theorem dX12_town_185 : decode cX12_town 185 = .ok (.invokevirtual 290, 3) := by decide +kernel
theorem dX12_town_188 : decode cX12_town 188 = .ok (.iinc 3 1, 3) := by decide +kernel
theorem dX12_town_191 : decode cX12_town 191 = .ok (.iinc 4 1, 3) := by decide +kernel
theorem dX12_town_194 : decode cX12_town 194 = .ok (.goto (-143), 3) := by decide +kernel
theorem dX12_town_197 : decode cX12_town 197 = .ok (.iload_n 3, 1) := by decide +kernel
theorem dX12_town_198 : decode cX12_town 198 = .ok (.ireturn, 1) := by decide +kernel
theorem dX12_image_0 : decode cX12_image 0 = .ok (.aload_n 0, 1) := by decide +kernel
theorem dX12_image_1 : decode cX12_image 1 = .ok (.getfield 7, 3) := by decide +kernel
theorem dX12_image_4 : decode cX12_image 4 = .ok (.aload_n 0, 1) := by decide +kernel
theorem dX12_image_5 : decode cX12_image 5 = .ok (.getfield 13, 3) := by decide +kernel
theorem dX12_image_8 : decode cX12_image 8 = .ok (.invokestatic 58, 3) := by decide +kernel
theorem dX12_image_11 : decode cX12_image 11 = .ok (.aload_n 0, 1) := by decide +kernel
theorem dX12_image_12 : decode cX12_image 12 = .ok (.getfield 7, 3) := by decide +kernel
theorem dX12_image_15 : decode cX12_image 15 = .ok (.iconst 1, 1) := by decide +kernel
theorem dX12_image_16 : decode cX12_image 16 = .ok (.iaload, 1) := by decide +kernel
theorem dX12_image_17 : decode cX12_image 17 = .ok (.invokestatic 70, 3) := by decide +kernel
theorem dX12_image_20 : decode cX12_image 20 = .ok (.ireturn, 1) := by decide +kernel
theorem dX12_back_0 : decode cX12_back 0 = .ok (.aload_n 0, 1) := by decide +kernel
theorem dX12_back_1 : decode cX12_back 1 = .ok (.getfield 13, 3) := by decide +kernel
theorem dX12_back_4 : decode cX12_back 4 = .ok (.aload_n 0, 1) := by decide +kernel
theorem dX12_back_5 : decode cX12_back 5 = .ok (.getfield 7, 3) := by decide +kernel
theorem dX12_back_8 : decode cX12_back 8 = .ok (.invokestatic 58, 3) := by decide +kernel
theorem dX12_back_11 : decode cX12_back 11 = .ok (.aload_n 0, 1) := by decide +kernel
theorem dX12_back_12 : decode cX12_back 12 = .ok (.getfield 7, 3) := by decide +kernel
theorem dX12_back_15 : decode cX12_back 15 = .ok (.iconst 1, 1) := by decide +kernel
theorem dX12_back_16 : decode cX12_back 16 = .ok (.iaload, 1) := by decide +kernel
theorem dX12_back_17 : decode cX12_back 17 = .ok (.invokestatic 70, 3) := by decide +kernel
theorem dX12_back_20 : decode cX12_back 20 = .ok (.ireturn, 1) := by decide +kernel
theorem dX12_about_0 : decode cX12_about 0 = .ok (.iload_n 1, 1) := by decide +kernel
theorem dX12_about_1 : decode cX12_about 1 = .ok (.bipush 10, 2) := by decide +kernel
theorem dX12_about_3 : decode cX12_about 3 = .ok (.bipush 9, 2) := by decide +kernel
theorem dX12_about_5 : decode cX12_about 5 = .ok (.aload_n 0, 1) := by decide +kernel
theorem dX12_about_6 : decode cX12_about 6 = .ok (.getfield 7, 3) := by decide +kernel
theorem dX12_about_9 : decode cX12_about 9 = .ok (.iconst 0, 1) := by decide +kernel
theorem dX12_about_10 : decode cX12_about 10 = .ok (.iaload, 1) := by decide +kernel
theorem dX12_about_11 : decode cX12_about 11 = .ok (.iadd, 1) := by decide +kernel
theorem dX12_about_12 : decode cX12_about 12 = .ok (.invokestatic 62, 3) := by decide +kernel
theorem dX12_about_15 : decode cX12_about 15 = .ok (.ifCond .eq 18, 3) := by decide +kernel
theorem dX12_about_18 : decode cX12_about 18 = .ok (.aload_n 0, 1) := by decide +kernel
theorem dX12_about_19 : decode cX12_about 19 = .ok (.getfield 7, 3) := by decide +kernel
theorem dX12_about_22 : decode cX12_about 22 = .ok (.iload_n 1, 1) := by decide +kernel
theorem dX12_about_23 : decode cX12_about 23 = .ok (.bipush 10, 2) := by decide +kernel
theorem dX12_about_25 : decode cX12_about 25 = .ok (.isub, 1) := by decide +kernel
theorem dX12_about_26 : decode cX12_about 26 = .ok (.invokestatic 74, 3) := by decide +kernel
theorem dX12_about_29 : decode cX12_about 29 = .ok (.iconst 3, 1) := by decide +kernel
theorem dX12_about_30 : decode cX12_about 30 = .ok (.iadd, 1) := by decide +kernel
theorem dX12_about_31 : decode cX12_about 31 = .ok (.iaload, 1) := by decide +kernel
theorem dX12_about_32 : decode cX12_about 32 = .ok (.ireturn, 1) := by decide +kernel
theorem dX12_about_33 : decode cX12_about 33 = .ok (.iload_n 1, 1) := by decide +kernel
theorem dX12_about_34 : decode cX12_about 34 = .ok (.bipush 30, 2) := by decide +kernel
theorem dX12_about_36 : decode cX12_about 36 = .ok (.bipush 29, 2) := by decide +kernel
theorem dX12_about_38 : decode cX12_about 38 = .ok (.aload_n 0, 1) := by decide +kernel
theorem dX12_about_39 : decode cX12_about 39 = .ok (.getfield 7, 3) := by decide +kernel
theorem dX12_about_42 : decode cX12_about 42 = .ok (.iconst 0, 1) := by decide +kernel
theorem dX12_about_43 : decode cX12_about 43 = .ok (.iaload, 1) := by decide +kernel
theorem dX12_about_44 : decode cX12_about 44 = .ok (.iadd, 1) := by decide +kernel
theorem dX12_about_45 : decode cX12_about 45 = .ok (.invokestatic 62, 3) := by decide +kernel
theorem dX12_about_48 : decode cX12_about 48 = .ok (.ifCond .eq 18, 3) := by decide +kernel
theorem dX12_about_51 : decode cX12_about 51 = .ok (.aload_n 0, 1) := by decide +kernel
theorem dX12_about_52 : decode cX12_about 52 = .ok (.getfield 7, 3) := by decide +kernel
theorem dX12_about_55 : decode cX12_about 55 = .ok (.iload_n 1, 1) := by decide +kernel
theorem dX12_about_56 : decode cX12_about 56 = .ok (.bipush 30, 2) := by decide +kernel
theorem dX12_about_58 : decode cX12_about 58 = .ok (.isub, 1) := by decide +kernel
theorem dX12_about_59 : decode cX12_about 59 = .ok (.invokestatic 74, 3) := by decide +kernel
theorem dX12_about_62 : decode cX12_about 62 = .ok (.iconst 4, 1) := by decide +kernel
theorem dX12_about_63 : decode cX12_about 63 = .ok (.iadd, 1) := by decide +kernel
theorem dX12_about_64 : decode cX12_about 64 = .ok (.iaload, 1) := by decide +kernel
theorem dX12_about_65 : decode cX12_about 65 = .ok (.ireturn, 1) := by decide +kernel
theorem dX12_about_66 : decode cX12_about 66 = .ok (.iload_n 1, 1) := by decide +kernel
theorem dX12_about_67 : decode cX12_about 67 = .ok (.tableswitch 61 0 8 #[49, 49, 49, 49, 49, 49, 49, 49, 56], 49) := by decide +kernel
theorem dX12_about_116 : decode cX12_about 116 = .ok (.aload_n 0, 1) := by decide +kernel
theorem dX12_about_117 : decode cX12_about 117 = .ok (.getfield 7, 3) := by decide +kernel
theorem dX12_about_120 : decode cX12_about 120 = .ok (.iload_n 1, 1) := by decide +kernel
theorem dX12_about_121 : decode cX12_about 121 = .ok (.iaload, 1) := by decide +kernel
theorem dX12_about_122 : decode cX12_about 122 = .ok (.ireturn, 1) := by decide +kernel
theorem dX12_about_123 : decode cX12_about 123 = .ok (.aload_n 0, 1) := by decide +kernel
theorem dX12_about_124 : decode cX12_about 124 = .ok (.getfield 88, 3) := by decide +kernel
theorem dX12_about_127 : decode cX12_about 127 = .ok (.ireturn, 1) := by decide +kernel
theorem dX12_about_128 : decode cX12_about 128 = .ok (.bipush (-2), 2) := by decide +kernel
theorem dX12_about_130 : decode cX12_about 130 = .ok (.ireturn, 1) := by decide +kernel
theorem dJ11_isValidCodePoint_9a6ad_0 : decode cJ11_isValidCodePoint_9a6ad 0 = .ok (.iload_n 0, 1) := by decide +kernel
theorem dJ11_isValidCodePoint_9a6ad_1 : decode cJ11_isValidCodePoint_9a6ad 1 = .ok (.bipush 16, 2) := by decide +kernel
theorem dJ11_isValidCodePoint_9a6ad_3 : decode cJ11_isValidCodePoint_9a6ad 3 = .ok (.iushr, 1) := by decide +kernel
theorem dJ11_isValidCodePoint_9a6ad_4 : decode cJ11_isValidCodePoint_9a6ad 4 = .ok (.istore_n 1, 1) := by decide +kernel
theorem dJ11_isValidCodePoint_9a6ad_5 : decode cJ11_isValidCodePoint_9a6ad 5 = .ok (.iload_n 1, 1) := by decide +kernel
theorem dJ11_isValidCodePoint_9a6ad_6 : decode cJ11_isValidCodePoint_9a6ad 6 = .ok (.bipush 17, 2) := by decide +kernel
theorem dJ11_isValidCodePoint_9a6ad_8 : decode cJ11_isValidCodePoint_9a6ad 8 = .ok (.if_icmp .ge 7, 3) := by decide +kernel
theorem dJ11_isValidCodePoint_9a6ad_11 : decode cJ11_isValidCodePoint_9a6ad 11 = .ok (.iconst 1, 1) := by decide +kernel
theorem dJ11_isValidCodePoint_9a6ad_12 : decode cJ11_isValidCodePoint_9a6ad 12 = .ok (.goto 4, 3) := by decide +kernel
theorem dJ11_isValidCodePoint_9a6ad_15 : decode cJ11_isValidCodePoint_9a6ad 15 = .ok (.iconst 0, 1) := by decide +kernel
theorem dJ11_isValidCodePoint_9a6ad_16 : decode cJ11_isValidCodePoint_9a6ad 16 = .ok (.ireturn, 1) := by decide +kernel
theorem dJ11_highSurrogate_5068e_0 : decode cJ11_highSurrogate_5068e 0 = .ok (.iload_n 0, 1) := by decide +kernel
theorem dJ11_highSurrogate_5068e_1 : decode cJ11_highSurrogate_5068e 1 = .ok (.bipush 10, 2) := by decide +kernel
theorem dJ11_highSurrogate_5068e_3 : decode cJ11_highSurrogate_5068e 3 = .ok (.iushr, 1) := by decide +kernel
theorem dJ11_highSurrogate_5068e_4 : decode cJ11_highSurrogate_5068e 4 = .ok (.ldc 110, 2) := by decide +kernel
theorem dJ11_highSurrogate_5068e_6 : decode cJ11_highSurrogate_5068e 6 = .ok (.iadd, 1) := by decide +kernel
theorem dJ11_highSurrogate_5068e_7 : decode cJ11_highSurrogate_5068e 7 = .ok (.i2c, 1) := by decide +kernel
theorem dJ11_highSurrogate_5068e_8 : decode cJ11_highSurrogate_5068e 8 = .ok (.ireturn, 1) := by decide +kernel
theorem dJ11_lowSurrogate_5068e_0 : decode cJ11_lowSurrogate_5068e 0 = .ok (.iload_n 0, 1) := by decide +kernel
theorem dJ11_lowSurrogate_5068e_1 : decode cJ11_lowSurrogate_5068e 1 = .ok (.sipush 1023, 3) := by decide +kernel
theorem dJ11_lowSurrogate_5068e_4 : decode cJ11_lowSurrogate_5068e 4 = .ok (.iand, 1) := by decide +kernel
theorem dJ11_lowSurrogate_5068e_5 : decode cJ11_lowSurrogate_5068e 5 = .ok (.ldc 76, 2) := by decide +kernel
theorem dJ11_lowSurrogate_5068e_7 : decode cJ11_lowSurrogate_5068e 7 = .ok (.iadd, 1) := by decide +kernel
theorem dJ11_lowSurrogate_5068e_8 : decode cJ11_lowSurrogate_5068e 8 = .ok (.i2c, 1) := by decide +kernel
theorem dJ11_lowSurrogate_5068e_9 : decode cJ11_lowSurrogate_5068e 9 = .ok (.ireturn, 1) := by decide +kernel
theorem dJ6_numberOfTrailingZeros_0f7a4_0 : decode cJ6_numberOfTrailingZeros_0f7a4 0 = .ok (.iload_n 0, 1) := by decide +kernel
theorem dJ6_numberOfTrailingZeros_0f7a4_1 : decode cJ6_numberOfTrailingZeros_0f7a4 1 = .ok (.iconst (-1), 1) := by decide +kernel
theorem dJ6_numberOfTrailingZeros_0f7a4_2 : decode cJ6_numberOfTrailingZeros_0f7a4 2 = .ok (.ixor, 1) := by decide +kernel
theorem dJ6_numberOfTrailingZeros_0f7a4_3 : decode cJ6_numberOfTrailingZeros_0f7a4 3 = .ok (.iload_n 0, 1) := by decide +kernel
theorem dJ6_numberOfTrailingZeros_0f7a4_4 : decode cJ6_numberOfTrailingZeros_0f7a4 4 = .ok (.iconst 1, 1) := by decide +kernel
theorem dJ6_numberOfTrailingZeros_0f7a4_5 : decode cJ6_numberOfTrailingZeros_0f7a4 5 = .ok (.isub, 1) := by decide +kernel
theorem dJ6_numberOfTrailingZeros_0f7a4_6 : decode cJ6_numberOfTrailingZeros_0f7a4 6 = .ok (.iand, 1) := by decide +kernel
theorem dJ6_numberOfTrailingZeros_0f7a4_7 : decode cJ6_numberOfTrailingZeros_0f7a4 7 = .ok (.istore_n 0, 1) := by decide +kernel
theorem dJ6_numberOfTrailingZeros_0f7a4_8 : decode cJ6_numberOfTrailingZeros_0f7a4 8 = .ok (.iload_n 0, 1) := by decide +kernel
theorem dJ6_numberOfTrailingZeros_0f7a4_9 : decode cJ6_numberOfTrailingZeros_0f7a4 9 = .ok (.ifCond .gt 8, 3) := by decide +kernel
theorem dJ6_numberOfTrailingZeros_0f7a4_12 : decode cJ6_numberOfTrailingZeros_0f7a4 12 = .ok (.iload_n 0, 1) := by decide +kernel
theorem dJ6_numberOfTrailingZeros_0f7a4_13 : decode cJ6_numberOfTrailingZeros_0f7a4 13 = .ok (.bipush 32, 2) := by decide +kernel
theorem dJ6_numberOfTrailingZeros_0f7a4_15 : decode cJ6_numberOfTrailingZeros_0f7a4 15 = .ok (.iand, 1) := by decide +kernel
theorem dJ6_numberOfTrailingZeros_0f7a4_16 : decode cJ6_numberOfTrailingZeros_0f7a4 16 = .ok (.ireturn, 1) := by decide +kernel
theorem dJ6_numberOfTrailingZeros_0f7a4_17 : decode cJ6_numberOfTrailingZeros_0f7a4 17 = .ok (.iconst 1, 1) := by decide +kernel
theorem dJ6_numberOfTrailingZeros_0f7a4_18 : decode cJ6_numberOfTrailingZeros_0f7a4 18 = .ok (.istore_n 1, 1) := by decide +kernel
theorem dJ6_numberOfTrailingZeros_0f7a4_19 : decode cJ6_numberOfTrailingZeros_0f7a4 19 = .ok (.iload_n 0, 1) := by decide +kernel
theorem dJ6_numberOfTrailingZeros_0f7a4_20 : decode cJ6_numberOfTrailingZeros_0f7a4 20 = .ok (.ldc_w 264, 3) := by decide +kernel
theorem dJ6_numberOfTrailingZeros_0f7a4_23 : decode cJ6_numberOfTrailingZeros_0f7a4 23 = .ok (.if_icmp .le 11, 3) := by decide +kernel
theorem dJ6_numberOfTrailingZeros_0f7a4_26 : decode cJ6_numberOfTrailingZeros_0f7a4 26 = .ok (.iinc 1 16, 3) := by decide +kernel
theorem dJ6_numberOfTrailingZeros_0f7a4_29 : decode cJ6_numberOfTrailingZeros_0f7a4 29 = .ok (.iload_n 0, 1) := by decide +kernel
theorem dJ6_numberOfTrailingZeros_0f7a4_30 : decode cJ6_numberOfTrailingZeros_0f7a4 30 = .ok (.bipush 16, 2) := by decide +kernel
theorem dJ6_numberOfTrailingZeros_0f7a4_32 : decode cJ6_numberOfTrailingZeros_0f7a4 32 = .ok (.iushr, 1) := by decide +kernel
theorem dJ6_numberOfTrailingZeros_0f7a4_33 : decode cJ6_numberOfTrailingZeros_0f7a4 33 = .ok (.istore_n 0, 1) := by decide +kernel
theorem dJ6_numberOfTrailingZeros_0f7a4_34 : decode cJ6_numberOfTrailingZeros_0f7a4 34 = .ok (.iload_n 0, 1) := by decide +kernel
theorem dJ6_numberOfTrailingZeros_0f7a4_35 : decode cJ6_numberOfTrailingZeros_0f7a4 35 = .ok (.sipush 256, 3) := by decide +kernel
theorem dJ6_numberOfTrailingZeros_0f7a4_38 : decode cJ6_numberOfTrailingZeros_0f7a4 38 = .ok (.if_icmp .le 11, 3) := by decide +kernel
theorem dJ6_numberOfTrailingZeros_0f7a4_41 : decode cJ6_numberOfTrailingZeros_0f7a4 41 = .ok (.iinc 1 8, 3) := by decide +kernel
theorem dJ6_numberOfTrailingZeros_0f7a4_44 : decode cJ6_numberOfTrailingZeros_0f7a4 44 = .ok (.iload_n 0, 1) := by decide +kernel
theorem dJ6_numberOfTrailingZeros_0f7a4_45 : decode cJ6_numberOfTrailingZeros_0f7a4 45 = .ok (.bipush 8, 2) := by decide +kernel
theorem dJ6_numberOfTrailingZeros_0f7a4_47 : decode cJ6_numberOfTrailingZeros_0f7a4 47 = .ok (.iushr, 1) := by decide +kernel
theorem dJ6_numberOfTrailingZeros_0f7a4_48 : decode cJ6_numberOfTrailingZeros_0f7a4 48 = .ok (.istore_n 0, 1) := by decide +kernel
theorem dJ6_numberOfTrailingZeros_0f7a4_49 : decode cJ6_numberOfTrailingZeros_0f7a4 49 = .ok (.iload_n 0, 1) := by decide +kernel
theorem dJ6_numberOfTrailingZeros_0f7a4_50 : decode cJ6_numberOfTrailingZeros_0f7a4 50 = .ok (.bipush 16, 2) := by decide +kernel
theorem dJ6_numberOfTrailingZeros_0f7a4_52 : decode cJ6_numberOfTrailingZeros_0f7a4 52 = .ok (.if_icmp .le 10, 3) := by decide +kernel
theorem dJ6_numberOfTrailingZeros_0f7a4_55 : decode cJ6_numberOfTrailingZeros_0f7a4 55 = .ok (.iinc 1 4, 3) := by decide +kernel
theorem dJ6_numberOfTrailingZeros_0f7a4_58 : decode cJ6_numberOfTrailingZeros_0f7a4 58 = .ok (.iload_n 0, 1) := by decide +kernel
theorem dJ6_numberOfTrailingZeros_0f7a4_59 : decode cJ6_numberOfTrailingZeros_0f7a4 59 = .ok (.iconst 4, 1) := by decide +kernel
theorem dJ6_numberOfTrailingZeros_0f7a4_60 : decode cJ6_numberOfTrailingZeros_0f7a4 60 = .ok (.iushr, 1) := by decide +kernel
theorem dJ6_numberOfTrailingZeros_0f7a4_61 : decode cJ6_numberOfTrailingZeros_0f7a4 61 = .ok (.istore_n 0, 1) := by decide +kernel
theorem dJ6_numberOfTrailingZeros_0f7a4_62 : decode cJ6_numberOfTrailingZeros_0f7a4 62 = .ok (.iload_n 0, 1) := by decide +kernel
theorem dJ6_numberOfTrailingZeros_0f7a4_63 : decode cJ6_numberOfTrailingZeros_0f7a4 63 = .ok (.iconst 4, 1) := by decide +kernel
theorem dJ6_numberOfTrailingZeros_0f7a4_64 : decode cJ6_numberOfTrailingZeros_0f7a4 64 = .ok (.if_icmp .le 10, 3) := by decide +kernel
theorem dJ6_numberOfTrailingZeros_0f7a4_67 : decode cJ6_numberOfTrailingZeros_0f7a4 67 = .ok (.iinc 1 2, 3) := by decide +kernel
theorem dJ6_numberOfTrailingZeros_0f7a4_70 : decode cJ6_numberOfTrailingZeros_0f7a4 70 = .ok (.iload_n 0, 1) := by decide +kernel
theorem dJ6_numberOfTrailingZeros_0f7a4_71 : decode cJ6_numberOfTrailingZeros_0f7a4 71 = .ok (.iconst 2, 1) := by decide +kernel
theorem dJ6_numberOfTrailingZeros_0f7a4_72 : decode cJ6_numberOfTrailingZeros_0f7a4 72 = .ok (.iushr, 1) := by decide +kernel
theorem dJ6_numberOfTrailingZeros_0f7a4_73 : decode cJ6_numberOfTrailingZeros_0f7a4 73 = .ok (.istore_n 0, 1) := by decide +kernel
theorem dJ6_numberOfTrailingZeros_0f7a4_74 : decode cJ6_numberOfTrailingZeros_0f7a4 74 = .ok (.iload_n 1, 1) := by decide +kernel
theorem dJ6_numberOfTrailingZeros_0f7a4_75 : decode cJ6_numberOfTrailingZeros_0f7a4 75 = .ok (.iload_n 0, 1) := by decide +kernel
theorem dJ6_numberOfTrailingZeros_0f7a4_76 : decode cJ6_numberOfTrailingZeros_0f7a4 76 = .ok (.iconst 1, 1) := by decide +kernel
theorem dJ6_numberOfTrailingZeros_0f7a4_77 : decode cJ6_numberOfTrailingZeros_0f7a4 77 = .ok (.iushr, 1) := by decide +kernel
theorem dJ6_numberOfTrailingZeros_0f7a4_78 : decode cJ6_numberOfTrailingZeros_0f7a4 78 = .ok (.iadd, 1) := by decide +kernel
theorem dJ6_numberOfTrailingZeros_0f7a4_79 : decode cJ6_numberOfTrailingZeros_0f7a4 79 = .ok (.ireturn, 1) := by decide +kernel
theorem dJ6_bitCount_0f7a4_0 : decode cJ6_bitCount_0f7a4 0 = .ok (.iload_n 0, 1) := by decide +kernel
theorem dJ6_bitCount_0f7a4_1 : decode cJ6_bitCount_0f7a4 1 = .ok (.iload_n 0, 1) := by decide +kernel
theorem dJ6_bitCount_0f7a4_2 : decode cJ6_bitCount_0f7a4 2 = .ok (.iconst 1, 1) := by decide +kernel
theorem dJ6_bitCount_0f7a4_3 : decode cJ6_bitCount_0f7a4 3 = .ok (.iushr, 1) := by decide +kernel
theorem dJ6_bitCount_0f7a4_4 : decode cJ6_bitCount_0f7a4 4 = .ok (.ldc_w 265, 3) := by decide +kernel
theorem dJ6_bitCount_0f7a4_7 : decode cJ6_bitCount_0f7a4 7 = .ok (.iand, 1) := by decide +kernel
theorem dJ6_bitCount_0f7a4_8 : decode cJ6_bitCount_0f7a4 8 = .ok (.isub, 1) := by decide +kernel
theorem dJ6_bitCount_0f7a4_9 : decode cJ6_bitCount_0f7a4 9 = .ok (.istore_n 0, 1) := by decide +kernel
theorem dJ6_bitCount_0f7a4_10 : decode cJ6_bitCount_0f7a4 10 = .ok (.iload_n 0, 1) := by decide +kernel
theorem dJ6_bitCount_0f7a4_11 : decode cJ6_bitCount_0f7a4 11 = .ok (.ldc_w 266, 3) := by decide +kernel
theorem dJ6_bitCount_0f7a4_14 : decode cJ6_bitCount_0f7a4 14 = .ok (.iand, 1) := by decide +kernel
theorem dJ6_bitCount_0f7a4_15 : decode cJ6_bitCount_0f7a4 15 = .ok (.iload_n 0, 1) := by decide +kernel
theorem dJ6_bitCount_0f7a4_16 : decode cJ6_bitCount_0f7a4 16 = .ok (.iconst 2, 1) := by decide +kernel
theorem dJ6_bitCount_0f7a4_17 : decode cJ6_bitCount_0f7a4 17 = .ok (.iushr, 1) := by decide +kernel
theorem dJ6_bitCount_0f7a4_18 : decode cJ6_bitCount_0f7a4 18 = .ok (.ldc_w 266, 3) := by decide +kernel
theorem dJ6_bitCount_0f7a4_21 : decode cJ6_bitCount_0f7a4 21 = .ok (.iand, 1) := by decide +kernel
theorem dJ6_bitCount_0f7a4_22 : decode cJ6_bitCount_0f7a4 22 = .ok (.iadd, 1) := by decide +kernel
theorem dJ6_bitCount_0f7a4_23 : decode cJ6_bitCount_0f7a4 23 = .ok (.istore_n 0, 1) := by decide +kernel
theorem dJ6_bitCount_0f7a4_24 : decode cJ6_bitCount_0f7a4 24 = .ok (.iload_n 0, 1) := by decide +kernel
theorem dJ6_bitCount_0f7a4_25 : decode cJ6_bitCount_0f7a4 25 = .ok (.iload_n 0, 1) := by decide +kernel
theorem dJ6_bitCount_0f7a4_26 : decode cJ6_bitCount_0f7a4 26 = .ok (.iconst 4, 1) := by decide +kernel
theorem dJ6_bitCount_0f7a4_27 : decode cJ6_bitCount_0f7a4 27 = .ok (.iushr, 1) := by decide +kernel
theorem dJ6_bitCount_0f7a4_28 : decode cJ6_bitCount_0f7a4 28 = .ok (.iadd, 1) := by decide +kernel
theorem dJ6_bitCount_0f7a4_29 : decode cJ6_bitCount_0f7a4 29 = .ok (.ldc_w 267, 3) := by decide +kernel
theorem dJ6_bitCount_0f7a4_32 : decode cJ6_bitCount_0f7a4 32 = .ok (.iand, 1) := by decide +kernel
theorem dJ6_bitCount_0f7a4_33 : decode cJ6_bitCount_0f7a4 33 = .ok (.istore_n 0, 1) := by decide +kernel
theorem dJ6_bitCount_0f7a4_34 : decode cJ6_bitCount_0f7a4 34 = .ok (.iload_n 0, 1) := by decide +kernel
theorem dJ6_bitCount_0f7a4_35 : decode cJ6_bitCount_0f7a4 35 = .ok (.iload_n 0, 1) := by decide +kernel
theorem dJ6_bitCount_0f7a4_36 : decode cJ6_bitCount_0f7a4 36 = .ok (.bipush 8, 2) := by decide +kernel
theorem dJ6_bitCount_0f7a4_38 : decode cJ6_bitCount_0f7a4 38 = .ok (.iushr, 1) := by decide +kernel
theorem dJ6_bitCount_0f7a4_39 : decode cJ6_bitCount_0f7a4 39 = .ok (.iadd, 1) := by decide +kernel
theorem dJ6_bitCount_0f7a4_40 : decode cJ6_bitCount_0f7a4 40 = .ok (.istore_n 0, 1) := by decide +kernel
theorem dJ6_bitCount_0f7a4_41 : decode cJ6_bitCount_0f7a4 41 = .ok (.iload_n 0, 1) := by decide +kernel
theorem dJ6_bitCount_0f7a4_42 : decode cJ6_bitCount_0f7a4 42 = .ok (.iload_n 0, 1) := by decide +kernel
theorem dJ6_bitCount_0f7a4_43 : decode cJ6_bitCount_0f7a4 43 = .ok (.bipush 16, 2) := by decide +kernel
theorem dJ6_bitCount_0f7a4_45 : decode cJ6_bitCount_0f7a4 45 = .ok (.iushr, 1) := by decide +kernel
theorem dJ6_bitCount_0f7a4_46 : decode cJ6_bitCount_0f7a4 46 = .ok (.iadd, 1) := by decide +kernel
theorem dJ6_bitCount_0f7a4_47 : decode cJ6_bitCount_0f7a4 47 = .ok (.istore_n 0, 1) := by decide +kernel
theorem dJ6_bitCount_0f7a4_48 : decode cJ6_bitCount_0f7a4 48 = .ok (.iload_n 0, 1) := by decide +kernel
theorem dJ6_bitCount_0f7a4_49 : decode cJ6_bitCount_0f7a4 49 = .ok (.bipush 63, 2) := by decide +kernel
theorem dJ6_bitCount_0f7a4_51 : decode cJ6_bitCount_0f7a4 51 = .ok (.iand, 1) := by decide +kernel
theorem dJ6_bitCount_0f7a4_52 : decode cJ6_bitCount_0f7a4 52 = .ok (.ireturn, 1) := by decide +kernel
theorem dJ9_max_7cf53_0 : decode cJ9_max_7cf53 0 = .ok (.iload_n 0, 1) := by decide +kernel
theorem dJ9_max_7cf53_1 : decode cJ9_max_7cf53 1 = .ok (.iload_n 1, 1) := by decide +kernel
theorem dJ9_max_7cf53_2 : decode cJ9_max_7cf53 2 = .ok (.if_icmp .lt 7, 3) := by decide +kernel
theorem dJ9_max_7cf53_5 : decode cJ9_max_7cf53 5 = .ok (.iload_n 0, 1) := by decide +kernel
theorem dJ9_max_7cf53_6 : decode cJ9_max_7cf53 6 = .ok (.goto 4, 3) := by decide +kernel
theorem dJ9_max_7cf53_9 : decode cJ9_max_7cf53 9 = .ok (.iload_n 1, 1) := by decide +kernel
theorem dJ9_max_7cf53_10 : decode cJ9_max_7cf53 10 = .ok (.ireturn, 1) := by decide +kernel
theorem dJ9_max_f86c9_0 : decode cJ9_max_f86c9 0 = .ok (.lload_n 0, 1) := by decide +kernel
theorem dJ9_max_f86c9_1 : decode cJ9_max_f86c9 1 = .ok (.lload_n 2, 1) := by decide +kernel
theorem dJ9_max_f86c9_2 : decode cJ9_max_f86c9 2 = .ok (.lcmp, 1) := by decide +kernel
theorem dJ9_max_f86c9_3 : decode cJ9_max_f86c9 3 = .ok (.ifCond .lt 7, 3) := by decide +kernel
theorem dJ9_max_f86c9_6 : decode cJ9_max_f86c9 6 = .ok (.lload_n 0, 1) := by decide +kernel
theorem dJ9_max_f86c9_7 : decode cJ9_max_f86c9 7 = .ok (.goto 4, 3) := by decide +kernel
theorem dJ9_max_f86c9_10 : decode cJ9_max_f86c9 10 = .ok (.lload_n 2, 1) := by decide +kernel
theorem dJ9_max_f86c9_11 : decode cJ9_max_f86c9 11 = .ok (.lreturn, 1) := by decide +kernel
theorem dJ9_min_7cf53_0 : decode cJ9_min_7cf53 0 = .ok (.iload_n 0, 1) := by decide +kernel
theorem dJ9_min_7cf53_1 : decode cJ9_min_7cf53 1 = .ok (.iload_n 1, 1) := by decide +kernel
theorem dJ9_min_7cf53_2 : decode cJ9_min_7cf53 2 = .ok (.if_icmp .gt 7, 3) := by decide +kernel
theorem dJ9_min_7cf53_5 : decode cJ9_min_7cf53 5 = .ok (.iload_n 0, 1) := by decide +kernel
theorem dJ9_min_7cf53_6 : decode cJ9_min_7cf53 6 = .ok (.goto 4, 3) := by decide +kernel
theorem dJ9_min_7cf53_9 : decode cJ9_min_7cf53 9 = .ok (.iload_n 1, 1) := by decide +kernel
theorem dJ9_min_7cf53_10 : decode cJ9_min_7cf53 10 = .ok (.ireturn, 1) := by decide +kernel
theorem dJ9_min_f86c9_0 : decode cJ9_min_f86c9 0 = .ok (.lload_n 0, 1) := by decide +kernel
end
section
theorem dJ9_min_f86c9_1 : decode cJ9_min_f86c9 1 = .ok (.lload_n 2, 1) := by decide +kernel
theorem dJ9_min_f86c9_2 : decode cJ9_min_f86c9 2 = .ok (.lcmp, 1) := by decide +kernel
theorem dJ9_min_f86c9_3 : decode cJ9_min_f86c9 3 = .ok (.ifCond .gt 7, 3) := by decide +kernel
theorem dJ9_min_f86c9_6 : decode cJ9_min_f86c9 6 = .ok (.lload_n 0, 1) := by decide +kernel
theorem dJ9_min_f86c9_7 : decode cJ9_min_f86c9 7 = .ok (.goto 4, 3) := by decide +kernel
theorem dJ9_min_f86c9_10 : decode cJ9_min_f86c9 10 = .ok (.lload_n 2, 1) := by decide +kernel
theorem dJ9_min_f86c9_11 : decode cJ9_min_f86c9 11 = .ok (.lreturn, 1) := by decide +kernel
theorem dJ0_length_8abf5_0 : decode cJ0_length_8abf5 0 = .ok (.aload_n 0, 1) := by decide +kernel
theorem dJ0_length_8abf5_1 : decode cJ0_length_8abf5 1 = .ok (.getfield 9, 3) := by decide +kernel
theorem dJ0_length_8abf5_4 : decode cJ0_length_8abf5 4 = .ok (.arraylength, 1) := by decide +kernel
theorem dJ0_length_8abf5_5 : decode cJ0_length_8abf5 5 = .ok (.aload_n 0, 1) := by decide +kernel
theorem dJ0_length_8abf5_6 : decode cJ0_length_8abf5 6 = .ok (.invokevirtual 335, 3) := by decide +kernel
theorem dJ0_length_8abf5_9 : decode cJ0_length_8abf5 9 = .ok (.ishr, 1) := by decide +kernel
theorem dJ0_length_8abf5_10 : decode cJ0_length_8abf5 10 = .ok (.ireturn, 1) := by decide +kernel
theorem dJ0_charAt_5068e_0 : decode cJ0_charAt_5068e 0 = .ok (.aload_n 0, 1) := by decide +kernel
theorem dJ0_charAt_5068e_1 : decode cJ0_charAt_5068e 1 = .ok (.invokevirtual 492, 3) := by decide +kernel
theorem dJ0_charAt_5068e_4 : decode cJ0_charAt_5068e 4 = .ok (.ifCond .eq 12, 3) := by decide +kernel
theorem dJ0_charAt_5068e_7 : decode cJ0_charAt_5068e 7 = .ok (.aload_n 0, 1) := by decide +kernel
theorem dJ0_charAt_5068e_8 : decode cJ0_charAt_5068e 8 = .ok (.getfield 9, 3) := by decide +kernel
theorem dJ0_charAt_5068e_11 : decode cJ0_charAt_5068e 11 = .ok (.iload_n 1, 1) := by decide +kernel
theorem dJ0_charAt_5068e_12 : decode cJ0_charAt_5068e 12 = .ok (.invokestatic 495, 3) := by decide +kernel
theorem dJ0_charAt_5068e_15 : decode cJ0_charAt_5068e 15 = .ok (.ireturn, 1) := by decide +kernel
theorem dJ0_charAt_5068e_16 : decode cJ0_charAt_5068e 16 = .ok (.aload_n 0, 1) := by decide +kernel
theorem dJ0_charAt_5068e_17 : decode cJ0_charAt_5068e 17 = .ok (.getfield 9, 3) := by decide +kernel
theorem dJ0_charAt_5068e_20 : decode cJ0_charAt_5068e 20 = .ok (.iload_n 1, 1) := by decide +kernel
theorem dJ0_charAt_5068e_21 : decode cJ0_charAt_5068e 21 = .ok (.invokestatic 498, 3) := by decide +kernel
theorem dJ0_charAt_5068e_24 : decode cJ0_charAt_5068e 24 = .ok (.ireturn, 1) := by decide +kernel
theorem dJ0_indexOf_0f7a4_0 : decode cJ0_indexOf_0f7a4 0 = .ok (.aload_n 0, 1) := by decide +kernel
theorem dJ0_indexOf_0f7a4_1 : decode cJ0_indexOf_0f7a4 1 = .ok (.iload_n 1, 1) := by decide +kernel
theorem dJ0_indexOf_0f7a4_2 : decode cJ0_indexOf_0f7a4 2 = .ok (.iconst 0, 1) := by decide +kernel
theorem dJ0_indexOf_0f7a4_3 : decode cJ0_indexOf_0f7a4 3 = .ok (.invokevirtual 633, 3) := by decide +kernel
theorem dJ0_indexOf_0f7a4_6 : decode cJ0_indexOf_0f7a4 6 = .ok (.ireturn, 1) := by decide +kernel
theorem dJ0_indexOf_7cf53_0 : decode cJ0_indexOf_7cf53 0 = .ok (.aload_n 0, 1) := by decide +kernel
theorem dJ0_indexOf_7cf53_1 : decode cJ0_indexOf_7cf53 1 = .ok (.invokevirtual 492, 3) := by decide +kernel
theorem dJ0_indexOf_7cf53_4 : decode cJ0_indexOf_7cf53 4 = .ok (.ifCond .eq 19, 3) := by decide +kernel
theorem dJ0_indexOf_7cf53_7 : decode cJ0_indexOf_7cf53 7 = .ok (.aload_n 0, 1) := by decide +kernel
theorem dJ0_indexOf_7cf53_8 : decode cJ0_indexOf_7cf53 8 = .ok (.getfield 9, 3) := by decide +kernel
theorem dJ0_indexOf_7cf53_11 : decode cJ0_indexOf_7cf53 11 = .ok (.iload_n 1, 1) := by decide +kernel
theorem dJ0_indexOf_7cf53_12 : decode cJ0_indexOf_7cf53 12 = .ok (.iload_n 2, 1) := by decide +kernel
theorem dJ0_indexOf_7cf53_13 : decode cJ0_indexOf_7cf53 13 = .ok (.aload_n 0, 1) := by decide +kernel
theorem dJ0_indexOf_7cf53_14 : decode cJ0_indexOf_7cf53 14 = .ok (.invokevirtual 505, 3) := by decide +kernel
theorem dJ0_indexOf_7cf53_17 : decode cJ0_indexOf_7cf53 17 = .ok (.invokestatic 637, 3) := by decide +kernel
theorem dJ0_indexOf_7cf53_20 : decode cJ0_indexOf_7cf53 20 = .ok (.goto 16, 3) := by decide +kernel
theorem dJ0_indexOf_7cf53_23 : decode cJ0_indexOf_7cf53 23 = .ok (.aload_n 0, 1) := by decide +kernel
theorem dJ0_indexOf_7cf53_24 : decode cJ0_indexOf_7cf53 24 = .ok (.getfield 9, 3) := by decide +kernel
theorem dJ0_indexOf_7cf53_27 : decode cJ0_indexOf_7cf53 27 = .ok (.iload_n 1, 1) := by decide +kernel
theorem dJ0_indexOf_7cf53_28 : decode cJ0_indexOf_7cf53 28 = .ok (.iload_n 2, 1) := by decide +kernel
theorem dJ0_indexOf_7cf53_29 : decode cJ0_indexOf_7cf53 29 = .ok (.aload_n 0, 1) := by decide +kernel
theorem dJ0_indexOf_7cf53_30 : decode cJ0_indexOf_7cf53 30 = .ok (.invokevirtual 505, 3) := by decide +kernel
theorem dJ0_indexOf_7cf53_33 : decode cJ0_indexOf_7cf53 33 = .ok (.invokestatic 640, 3) := by decide +kernel
theorem dJ0_indexOf_7cf53_36 : decode cJ0_indexOf_7cf53 36 = .ok (.ireturn, 1) := by decide +kernel
theorem dJ0_coder_7d493_0 : decode cJ0_coder_7d493 0 = .ok (.getstatic 38, 3) := by decide +kernel
theorem dJ0_coder_7d493_3 : decode cJ0_coder_7d493 3 = .ok (.ifCond .eq 10, 3) := by decide +kernel
theorem dJ0_coder_7d493_6 : decode cJ0_coder_7d493 6 = .ok (.aload_n 0, 1) := by decide +kernel
theorem dJ0_coder_7d493_7 : decode cJ0_coder_7d493 7 = .ok (.getfield 15, 3) := by decide +kernel
theorem dJ0_coder_7d493_10 : decode cJ0_coder_7d493 10 = .ok (.goto 4, 3) := by decide +kernel
theorem dJ0_coder_7d493_13 : decode cJ0_coder_7d493 13 = .ok (.iconst 1, 1) := by decide +kernel
theorem dJ0_coder_7d493_14 : decode cJ0_coder_7d493 14 = .ok (.ireturn, 1) := by decide +kernel
theorem dJ0_isLatin1_aae02_0 : decode cJ0_isLatin1_aae02 0 = .ok (.getstatic 38, 3) := by decide +kernel
theorem dJ0_isLatin1_aae02_3 : decode cJ0_isLatin1_aae02 3 = .ok (.ifCond .eq 14, 3) := by decide +kernel
theorem dJ0_isLatin1_aae02_6 : decode cJ0_isLatin1_aae02 6 = .ok (.aload_n 0, 1) := by decide +kernel
theorem dJ0_isLatin1_aae02_7 : decode cJ0_isLatin1_aae02 7 = .ok (.getfield 15, 3) := by decide +kernel
theorem dJ0_isLatin1_aae02_10 : decode cJ0_isLatin1_aae02 10 = .ok (.ifCond .ne 7, 3) := by decide +kernel
theorem dJ0_isLatin1_aae02_13 : decode cJ0_isLatin1_aae02 13 = .ok (.iconst 1, 1) := by decide +kernel
theorem dJ0_isLatin1_aae02_14 : decode cJ0_isLatin1_aae02 14 = .ok (.goto 4, 3) := by decide +kernel
theorem dJ0_isLatin1_aae02_17 : decode cJ0_isLatin1_aae02 17 = .ok (.iconst 0, 1) := by decide +kernel
theorem dJ0_isLatin1_aae02_18 : decode cJ0_isLatin1_aae02 18 = .ok (.ireturn, 1) := by decide +kernel
theorem dJ0_checkIndex_df160_0 : decode cJ0_checkIndex_df160 0 = .ok (.iload_n 0, 1) := by decide +kernel
theorem dJ0_checkIndex_df160_1 : decode cJ0_checkIndex_df160 1 = .ok (.iload_n 1, 1) := by decide +kernel
theorem dJ0_checkIndex_df160_2 : decode cJ0_checkIndex_df160 2 = .ok (.getstatic 1053, 3) := by decide +kernel
theorem dJ0_checkIndex_df160_5 : decode cJ0_checkIndex_df160 5 = .ok (.invokestatic 1059, 3) := by decide +kernel
theorem dJ0_checkIndex_df160_8 : decode cJ0_checkIndex_df160 8 = .ok (.pop, 1) := by decide +kernel
theorem dJ0_checkIndex_df160_9 : decode cJ0_checkIndex_df160 9 = .ok (.return_, 1) := by decide +kernel
theorem dJ0_checkBoundsBeginEnd_23922_0 : decode cJ0_checkBoundsBeginEnd_23922 0 = .ok (.iload_n 0, 1) := by decide +kernel
theorem dJ0_checkBoundsBeginEnd_23922_1 : decode cJ0_checkBoundsBeginEnd_23922 1 = .ok (.iload_n 1, 1) := by decide +kernel
theorem dJ0_checkBoundsBeginEnd_23922_2 : decode cJ0_checkBoundsBeginEnd_23922 2 = .ok (.iload_n 2, 1) := by decide +kernel
theorem dJ0_checkBoundsBeginEnd_23922_3 : decode cJ0_checkBoundsBeginEnd_23922 3 = .ok (.getstatic 1053, 3) := by decide +kernel
theorem dJ0_checkBoundsBeginEnd_23922_6 : decode cJ0_checkBoundsBeginEnd_23922 6 = .ok (.invokestatic 1062, 3) := by decide +kernel
theorem dJ0_checkBoundsBeginEnd_23922_9 : decode cJ0_checkBoundsBeginEnd_23922 9 = .ok (.pop, 1) := by decide +kernel
theorem dJ0_checkBoundsBeginEnd_23922_10 : decode cJ0_checkBoundsBeginEnd_23922 10 = .ok (.return_, 1) := by decide +kernel
theorem dJ1_charAt_3b067_0 : decode cJ1_charAt_3b067 0 = .ok (.iload_n 1, 1) := by decide +kernel
theorem dJ1_charAt_3b067_1 : decode cJ1_charAt_3b067 1 = .ok (.aload_n 0, 1) := by decide +kernel
theorem dJ1_charAt_3b067_2 : decode cJ1_charAt_3b067 2 = .ok (.arraylength, 1) := by decide +kernel
theorem dJ1_charAt_3b067_3 : decode cJ1_charAt_3b067 3 = .ok (.invokestatic 9, 3) := by decide +kernel
theorem dJ1_charAt_3b067_6 : decode cJ1_charAt_3b067 6 = .ok (.aload_n 0, 1) := by decide +kernel
theorem dJ1_charAt_3b067_7 : decode cJ1_charAt_3b067 7 = .ok (.iload_n 1, 1) := by decide +kernel
theorem dJ1_charAt_3b067_8 : decode cJ1_charAt_3b067 8 = .ok (.baload, 1) := by decide +kernel
theorem dJ1_charAt_3b067_9 : decode cJ1_charAt_3b067 9 = .ok (.sipush 255, 3) := by decide +kernel
theorem dJ1_charAt_3b067_12 : decode cJ1_charAt_3b067 12 = .ok (.iand, 1) := by decide +kernel
theorem dJ1_charAt_3b067_13 : decode cJ1_charAt_3b067 13 = .ok (.i2c, 1) := by decide +kernel
theorem dJ1_charAt_3b067_14 : decode cJ1_charAt_3b067 14 = .ok (.ireturn, 1) := by decide +kernel
theorem dJ1_canEncode_9a6ad_0 : decode cJ1_canEncode_9a6ad 0 = .ok (.iload_n 0, 1) := by decide +kernel
theorem dJ1_canEncode_9a6ad_1 : decode cJ1_canEncode_9a6ad 1 = .ok (.ifCond .lt 14, 3) := by decide +kernel
theorem dJ1_canEncode_9a6ad_4 : decode cJ1_canEncode_9a6ad 4 = .ok (.iload_n 0, 1) := by decide +kernel
theorem dJ1_canEncode_9a6ad_5 : decode cJ1_canEncode_9a6ad 5 = .ok (.sipush 255, 3) := by decide +kernel
theorem dJ1_canEncode_9a6ad_8 : decode cJ1_canEncode_9a6ad 8 = .ok (.if_icmp .gt 7, 3) := by decide +kernel
theorem dJ1_canEncode_9a6ad_11 : decode cJ1_canEncode_9a6ad 11 = .ok (.iconst 1, 1) := by decide +kernel
theorem dJ1_canEncode_9a6ad_12 : decode cJ1_canEncode_9a6ad 12 = .ok (.goto 4, 3) := by decide +kernel
theorem dJ1_canEncode_9a6ad_15 : decode cJ1_canEncode_9a6ad 15 = .ok (.iconst 0, 1) := by decide +kernel
theorem dJ1_canEncode_9a6ad_16 : decode cJ1_canEncode_9a6ad 16 = .ok (.ireturn, 1) := by decide +kernel
theorem dJ1_indexOf_4cfef_0 : decode cJ1_indexOf_4cfef 0 = .ok (.iload_n 1, 1) := by decide +kernel
theorem dJ1_indexOf_4cfef_1 : decode cJ1_indexOf_4cfef 1 = .ok (.invokestatic 88, 3) := by decide +kernel
theorem dJ1_indexOf_4cfef_4 : decode cJ1_indexOf_4cfef 4 = .ok (.ifCond .ne 5, 3) := by decide +kernel
theorem dJ1_indexOf_4cfef_7 : decode cJ1_indexOf_4cfef 7 = .ok (.iconst (-1), 1) := by decide +kernel
theorem dJ1_indexOf_4cfef_8 : decode cJ1_indexOf_4cfef 8 = .ok (.ireturn, 1) := by decide +kernel
theorem dJ1_indexOf_4cfef_9 : decode cJ1_indexOf_4cfef 9 = .ok (.iload_n 2, 1) := by decide +kernel
theorem dJ1_indexOf_4cfef_10 : decode cJ1_indexOf_4cfef 10 = .ok (.iconst 0, 1) := by decide +kernel
theorem dJ1_indexOf_4cfef_11 : decode cJ1_indexOf_4cfef 11 = .ok (.invokestatic 92, 3) := by decide +kernel
theorem dJ1_indexOf_4cfef_14 : decode cJ1_indexOf_4cfef 14 = .ok (.istore_n 2, 1) := by decide +kernel
theorem dJ1_indexOf_4cfef_15 : decode cJ1_indexOf_4cfef 15 = .ok (.iload_n 3, 1) := by decide +kernel
theorem dJ1_indexOf_4cfef_16 : decode cJ1_indexOf_4cfef 16 = .ok (.aload_n 0, 1) := by decide +kernel
theorem dJ1_indexOf_4cfef_17 : decode cJ1_indexOf_4cfef 17 = .ok (.arraylength, 1) := by decide +kernel
theorem dJ1_indexOf_4cfef_18 : decode cJ1_indexOf_4cfef 18 = .ok (.invokestatic 38, 3) := by decide +kernel
theorem dJ1_indexOf_4cfef_21 : decode cJ1_indexOf_4cfef 21 = .ok (.istore_n 3, 1) := by decide +kernel
theorem dJ1_indexOf_4cfef_22 : decode cJ1_indexOf_4cfef 22 = .ok (.iload_n 2, 1) := by decide +kernel
theorem dJ1_indexOf_4cfef_23 : decode cJ1_indexOf_4cfef 23 = .ok (.iload_n 3, 1) := by decide +kernel
theorem dJ1_indexOf_4cfef_24 : decode cJ1_indexOf_4cfef 24 = .ok (.if_icmp .lt 5, 3) := by decide +kernel
theorem dJ1_indexOf_4cfef_27 : decode cJ1_indexOf_4cfef 27 = .ok (.iconst (-1), 1) := by decide +kernel
theorem dJ1_indexOf_4cfef_28 : decode cJ1_indexOf_4cfef 28 = .ok (.ireturn, 1) := by decide +kernel
theorem dJ1_indexOf_4cfef_29 : decode cJ1_indexOf_4cfef 29 = .ok (.aload_n 0, 1) := by decide +kernel
theorem dJ1_indexOf_4cfef_30 : decode cJ1_indexOf_4cfef 30 = .ok (.iload_n 1, 1) := by decide +kernel
theorem dJ1_indexOf_4cfef_31 : decode cJ1_indexOf_4cfef 31 = .ok (.iload_n 2, 1) := by decide +kernel
theorem dJ1_indexOf_4cfef_32 : decode cJ1_indexOf_4cfef 32 = .ok (.iload_n 3, 1) := by decide +kernel
theorem dJ1_indexOf_4cfef_33 : decode cJ1_indexOf_4cfef 33 = .ok (.invokestatic 95, 3) := by decide +kernel
theorem dJ1_indexOf_4cfef_36 : decode cJ1_indexOf_4cfef 36 = .ok (.ireturn, 1) := by decide +kernel
theorem dJ1_indexOfChar_4cfef_0 : decode cJ1_indexOfChar_4cfef 0 = .ok (.iload_n 1, 1) := by decide +kernel
theorem dJ1_indexOfChar_4cfef_1 : decode cJ1_indexOfChar_4cfef 1 = .ok (.i2b, 1) := by decide +kernel
theorem dJ1_indexOfChar_4cfef_2 : decode cJ1_indexOfChar_4cfef 2 = .ok (.istore 4, 2) := by decide +kernel
theorem dJ1_indexOfChar_4cfef_4 : decode cJ1_indexOfChar_4cfef 4 = .ok (.iload_n 2, 1) := by decide +kernel
theorem dJ1_indexOfChar_4cfef_5 : decode cJ1_indexOfChar_4cfef 5 = .ok (.istore 5, 2) := by decide +kernel
theorem dJ1_indexOfChar_4cfef_7 : decode cJ1_indexOfChar_4cfef 7 = .ok (.iload 5, 2) := by decide +kernel
theorem dJ1_indexOfChar_4cfef_9 : decode cJ1_indexOfChar_4cfef 9 = .ok (.iload_n 3, 1) := by decide +kernel
theorem dJ1_indexOfChar_4cfef_10 : decode cJ1_indexOfChar_4cfef 10 = .ok (.if_icmp .ge 21, 3) := by decide +kernel
theorem dJ1_indexOfChar_4cfef_13 : decode cJ1_indexOfChar_4cfef 13 = .ok (.aload_n 0, 1) := by decide +kernel
theorem dJ1_indexOfChar_4cfef_14 : decode cJ1_indexOfChar_4cfef 14 = .ok (.iload 5, 2) := by decide +kernel
theorem dJ1_indexOfChar_4cfef_16 : decode cJ1_indexOfChar_4cfef 16 = .ok (.baload, 1) := by decide +kernel
theorem dJ1_indexOfChar_4cfef_17 : decode cJ1_indexOfChar_4cfef 17 = .ok (.iload 4, 2) := by decide +kernel
theorem dJ1_indexOfChar_4cfef_19 : decode cJ1_indexOfChar_4cfef 19 = .ok (.if_icmp .ne 6, 3) := by decide +kernel
theorem dJ1_indexOfChar_4cfef_22 : decode cJ1_indexOfChar_4cfef 22 = .ok (.iload 5, 2) := by decide +kernel
theorem dJ1_indexOfChar_4cfef_24 : decode cJ1_indexOfChar_4cfef 24 = .ok (.ireturn, 1) := by decide +kernel
theorem dJ1_indexOfChar_4cfef_25 : decode cJ1_indexOfChar_4cfef 25 = .ok (.iinc 5 1, 3) := by decide +kernel
theorem dJ1_indexOfChar_4cfef_28 : decode cJ1_indexOfChar_4cfef 28 = .ok (.goto (-21), 3) := by decide +kernel
theorem dJ1_indexOfChar_4cfef_31 : decode cJ1_indexOfChar_4cfef 31 = .ok (.iconst (-1), 1) := by decide +kernel
theorem dJ1_indexOfChar_4cfef_32 : decode cJ1_indexOfChar_4cfef 32 = .ok (.ireturn, 1) := by decide +kernel
theorem dJ2_getChar_3b067_0 : decode cJ2_getChar_3b067 0 = .ok (.getstatic 44, 3) := by decide +kernel
theorem dJ2_getChar_3b067_3 : decode cJ2_getChar_3b067 3 = .ok (.ifCond .ne 25, 3) := by decide +kernel
theorem dJ2_getChar_3b067_6 : decode cJ2_getChar_3b067 6 = .ok (.iload_n 1, 1) := by decide +kernel
theorem dJ2_getChar_3b067_7 : decode cJ2_getChar_3b067 7 = .ok (.ifCond .lt 11, 3) := by decide +kernel
theorem dJ2_getChar_3b067_10 : decode cJ2_getChar_3b067 10 = .ok (.iload_n 1, 1) := by decide +kernel
theorem dJ2_getChar_3b067_11 : decode cJ2_getChar_3b067 11 = .ok (.aload_n 0, 1) := by decide +kernel
theorem dJ2_getChar_3b067_12 : decode cJ2_getChar_3b067 12 = .ok (.invokestatic 48, 3) := by decide +kernel
theorem dJ2_getChar_3b067_15 : decode cJ2_getChar_3b067 15 = .ok (.if_icmp .lt 13, 3) := by decide +kernel
theorem dJ2_getChar_3b067_18 : decode cJ2_getChar_3b067 18 = .ok (.new 52, 3) := by decide +kernel
theorem dJ2_getChar_3b067_21 : decode cJ2_getChar_3b067 21 = .ok (.dup, 1) := by decide +kernel
theorem dJ2_getChar_3b067_22 : decode cJ2_getChar_3b067 22 = .ok (.ldc 54, 2) := by decide +kernel
theorem dJ2_getChar_3b067_24 : decode cJ2_getChar_3b067 24 = .ok (.invokespecial 56, 3) := by decide +kernel
theorem dJ2_getChar_3b067_27 : decode cJ2_getChar_3b067 27 = .ok (.athrow, 1) := by decide +kernel
theorem dJ2_getChar_3b067_28 : decode cJ2_getChar_3b067 28 = .ok (.iload_n 1, 1) := by decide +kernel
theorem dJ2_getChar_3b067_29 : decode cJ2_getChar_3b067 29 = .ok (.iconst 1, 1) := by decide +kernel
theorem dJ2_getChar_3b067_30 : decode cJ2_getChar_3b067 30 = .ok (.ishl, 1) := by decide +kernel
theorem dJ2_getChar_3b067_31 : decode cJ2_getChar_3b067 31 = .ok (.istore_n 1, 1) := by decide +kernel
theorem dJ2_getChar_3b067_32 : decode cJ2_getChar_3b067 32 = .ok (.aload_n 0, 1) := by decide +kernel
theorem dJ2_getChar_3b067_33 : decode cJ2_getChar_3b067 33 = .ok (.iload_n 1, 1) := by decide +kernel
theorem dJ2_getChar_3b067_34 : decode cJ2_getChar_3b067 34 = .ok (.iinc 1 1, 3) := by decide +kernel
theorem dJ2_getChar_3b067_37 : decode cJ2_getChar_3b067 37 = .ok (.baload, 1) := by decide +kernel
theorem dJ2_getChar_3b067_38 : decode cJ2_getChar_3b067 38 = .ok (.sipush 255, 3) := by decide +kernel
theorem dJ2_getChar_3b067_41 : decode cJ2_getChar_3b067 41 = .ok (.iand, 1) := by decide +kernel
theorem dJ2_getChar_3b067_42 : decode cJ2_getChar_3b067 42 = .ok (.getstatic 59, 3) := by decide +kernel
theorem dJ2_getChar_3b067_45 : decode cJ2_getChar_3b067 45 = .ok (.ishl, 1) := by decide +kernel
theorem dJ2_getChar_3b067_46 : decode cJ2_getChar_3b067 46 = .ok (.aload_n 0, 1) := by decide +kernel
theorem dJ2_getChar_3b067_47 : decode cJ2_getChar_3b067 47 = .ok (.iload_n 1, 1) := by decide +kernel
theorem dJ2_getChar_3b067_48 : decode cJ2_getChar_3b067 48 = .ok (.baload, 1) := by decide +kernel
theorem dJ2_getChar_3b067_49 : decode cJ2_getChar_3b067 49 = .ok (.sipush 255, 3) := by decide +kernel
theorem dJ2_getChar_3b067_52 : decode cJ2_getChar_3b067 52 = .ok (.iand, 1) := by decide +kernel
theorem dJ2_getChar_3b067_53 : decode cJ2_getChar_3b067 53 = .ok (.getstatic 63, 3) := by decide +kernel
theorem dJ2_getChar_3b067_56 : decode cJ2_getChar_3b067 56 = .ok (.ishl, 1) := by decide +kernel
theorem dJ2_getChar_3b067_57 : decode cJ2_getChar_3b067 57 = .ok (.ior, 1) := by decide +kernel
theorem dJ2_getChar_3b067_58 : decode cJ2_getChar_3b067 58 = .ok (.i2c, 1) := by decide +kernel
theorem dJ2_getChar_3b067_59 : decode cJ2_getChar_3b067 59 = .ok (.ireturn, 1) := by decide +kernel
theorem dJ2_length_9d52b_0 : decode cJ2_length_9d52b 0 = .ok (.aload_n 0, 1) := by decide +kernel
theorem dJ2_length_9d52b_1 : decode cJ2_length_9d52b 1 = .ok (.arraylength, 1) := by decide +kernel
theorem dJ2_length_9d52b_2 : decode cJ2_length_9d52b 2 = .ok (.iconst 1, 1) := by decide +kernel
theorem dJ2_length_9d52b_3 : decode cJ2_length_9d52b 3 = .ok (.ishr, 1) := by decide +kernel
theorem dJ2_length_9d52b_4 : decode cJ2_length_9d52b 4 = .ok (.ireturn, 1) := by decide +kernel
theorem dJ2_indexOf_4cfef_0 : decode cJ2_indexOf_4cfef 0 = .ok (.iload_n 2, 1) := by decide +kernel
theorem dJ2_indexOf_4cfef_1 : decode cJ2_indexOf_4cfef 1 = .ok (.iconst 0, 1) := by decide +kernel
theorem dJ2_indexOf_4cfef_2 : decode cJ2_indexOf_4cfef 2 = .ok (.invokestatic 224, 3) := by decide +kernel
theorem dJ2_indexOf_4cfef_5 : decode cJ2_indexOf_4cfef 5 = .ok (.istore_n 2, 1) := by decide +kernel
theorem dJ2_indexOf_4cfef_6 : decode cJ2_indexOf_4cfef 6 = .ok (.iload_n 3, 1) := by decide +kernel
theorem dJ2_indexOf_4cfef_7 : decode cJ2_indexOf_4cfef 7 = .ok (.aload_n 0, 1) := by decide +kernel
theorem dJ2_indexOf_4cfef_8 : decode cJ2_indexOf_4cfef 8 = .ok (.arraylength, 1) := by decide +kernel
theorem dJ2_indexOf_4cfef_9 : decode cJ2_indexOf_4cfef 9 = .ok (.iconst 1, 1) := by decide +kernel
theorem dJ2_indexOf_4cfef_10 : decode cJ2_indexOf_4cfef 10 = .ok (.ishr, 1) := by decide +kernel
theorem dJ2_indexOf_4cfef_11 : decode cJ2_indexOf_4cfef 11 = .ok (.invokestatic 183, 3) := by decide +kernel
theorem dJ2_indexOf_4cfef_14 : decode cJ2_indexOf_4cfef 14 = .ok (.istore_n 3, 1) := by decide +kernel
theorem dJ2_indexOf_4cfef_15 : decode cJ2_indexOf_4cfef 15 = .ok (.iload_n 2, 1) := by decide +kernel
theorem dJ2_indexOf_4cfef_16 : decode cJ2_indexOf_4cfef 16 = .ok (.iload_n 3, 1) := by decide +kernel
theorem dJ2_indexOf_4cfef_17 : decode cJ2_indexOf_4cfef 17 = .ok (.if_icmp .lt 5, 3) := by decide +kernel
theorem dJ2_indexOf_4cfef_20 : decode cJ2_indexOf_4cfef 20 = .ok (.iconst (-1), 1) := by decide +kernel
theorem dJ2_indexOf_4cfef_21 : decode cJ2_indexOf_4cfef 21 = .ok (.ireturn, 1) := by decide +kernel
theorem dJ2_indexOf_4cfef_22 : decode cJ2_indexOf_4cfef 22 = .ok (.iload_n 1, 1) := by decide +kernel
theorem dJ2_indexOf_4cfef_23 : decode cJ2_indexOf_4cfef 23 = .ok (.ldc 227, 2) := by decide +kernel
theorem dJ2_indexOf_4cfef_25 : decode cJ2_indexOf_4cfef 25 = .ok (.if_icmp .ge 11, 3) := by decide +kernel
theorem dJ2_indexOf_4cfef_28 : decode cJ2_indexOf_4cfef 28 = .ok (.aload_n 0, 1) := by decide +kernel
theorem dJ2_indexOf_4cfef_29 : decode cJ2_indexOf_4cfef 29 = .ok (.iload_n 1, 1) := by decide +kernel
theorem dJ2_indexOf_4cfef_30 : decode cJ2_indexOf_4cfef 30 = .ok (.iload_n 2, 1) := by decide +kernel
theorem dJ2_indexOf_4cfef_31 : decode cJ2_indexOf_4cfef 31 = .ok (.iload_n 3, 1) := by decide +kernel
theorem dJ2_indexOf_4cfef_32 : decode cJ2_indexOf_4cfef 32 = .ok (.invokestatic 228, 3) := by decide +kernel
theorem dJ2_indexOf_4cfef_35 : decode cJ2_indexOf_4cfef 35 = .ok (.ireturn, 1) := by decide +kernel
theorem dJ2_indexOf_4cfef_36 : decode cJ2_indexOf_4cfef 36 = .ok (.aload_n 0, 1) := by decide +kernel
theorem dJ2_indexOf_4cfef_37 : decode cJ2_indexOf_4cfef 37 = .ok (.iload_n 1, 1) := by decide +kernel
theorem dJ2_indexOf_4cfef_38 : decode cJ2_indexOf_4cfef 38 = .ok (.iload_n 2, 1) := by decide +kernel
theorem dJ2_indexOf_4cfef_39 : decode cJ2_indexOf_4cfef 39 = .ok (.iload_n 3, 1) := by decide +kernel
theorem dJ2_indexOf_4cfef_40 : decode cJ2_indexOf_4cfef 40 = .ok (.invokestatic 232, 3) := by decide +kernel
theorem dJ2_indexOf_4cfef_43 : decode cJ2_indexOf_4cfef 43 = .ok (.ireturn, 1) := by decide +kernel
theorem dJ2_indexOfChar_4cfef_0 : decode cJ2_indexOfChar_4cfef 0 = .ok (.iload_n 2, 1) := by decide +kernel
theorem dJ2_indexOfChar_4cfef_1 : decode cJ2_indexOfChar_4cfef 1 = .ok (.iload_n 3, 1) := by decide +kernel
theorem dJ2_indexOfChar_4cfef_2 : decode cJ2_indexOfChar_4cfef 2 = .ok (.aload_n 0, 1) := by decide +kernel
theorem dJ2_indexOfChar_4cfef_3 : decode cJ2_indexOfChar_4cfef 3 = .ok (.invokestatic 96, 3) := by decide +kernel
theorem dJ2_indexOfChar_4cfef_6 : decode cJ2_indexOfChar_4cfef 6 = .ok (.aload_n 0, 1) := by decide +kernel
theorem dJ2_indexOfChar_4cfef_7 : decode cJ2_indexOfChar_4cfef 7 = .ok (.iload_n 1, 1) := by decide +kernel
theorem dJ2_indexOfChar_4cfef_8 : decode cJ2_indexOfChar_4cfef 8 = .ok (.iload_n 2, 1) := by decide +kernel
theorem dJ2_indexOfChar_4cfef_9 : decode cJ2_indexOfChar_4cfef 9 = .ok (.iload_n 3, 1) := by decide +kernel
theorem dJ2_indexOfChar_4cfef_10 : decode cJ2_indexOfChar_4cfef 10 = .ok (.invokestatic 244, 3) := by decide +kernel
theorem dJ2_indexOfChar_4cfef_13 : decode cJ2_indexOfChar_4cfef 13 = .ok (.ireturn, 1) := by decide +kernel
theorem dJ2_indexOfCharUnsafe_4cfef_0 : decode cJ2_indexOfCharUnsafe_4cfef 0 = .ok (.iload_n 2, 1) := by decide +kernel
theorem dJ2_indexOfCharUnsafe_4cfef_1 : decode cJ2_indexOfCharUnsafe_4cfef 1 = .ok (.istore 4, 2) := by decide +kernel
theorem dJ2_indexOfCharUnsafe_4cfef_3 : decode cJ2_indexOfCharUnsafe_4cfef 3 = .ok (.iload 4, 2) := by decide +kernel
theorem dJ2_indexOfCharUnsafe_4cfef_5 : decode cJ2_indexOfCharUnsafe_4cfef 5 = .ok (.iload_n 3, 1) := by decide +kernel
theorem dJ2_indexOfCharUnsafe_4cfef_6 : decode cJ2_indexOfCharUnsafe_4cfef 6 = .ok (.if_icmp .ge 22, 3) := by decide +kernel
theorem dJ2_indexOfCharUnsafe_4cfef_9 : decode cJ2_indexOfCharUnsafe_4cfef 9 = .ok (.aload_n 0, 1) := by decide +kernel
theorem dJ2_indexOfCharUnsafe_4cfef_10 : decode cJ2_indexOfCharUnsafe_4cfef 10 = .ok (.iload 4, 2) := by decide +kernel
theorem dJ2_indexOfCharUnsafe_4cfef_12 : decode cJ2_indexOfCharUnsafe_4cfef 12 = .ok (.invokestatic 71, 3) := by decide +kernel
theorem dJ2_indexOfCharUnsafe_4cfef_15 : decode cJ2_indexOfCharUnsafe_4cfef 15 = .ok (.iload_n 1, 1) := by decide +kernel
theorem dJ2_indexOfCharUnsafe_4cfef_16 : decode cJ2_indexOfCharUnsafe_4cfef 16 = .ok (.if_icmp .ne 6, 3) := by decide +kernel
theorem dJ2_indexOfCharUnsafe_4cfef_19 : decode cJ2_indexOfCharUnsafe_4cfef 19 = .ok (.iload 4, 2) := by decide +kernel
theorem dJ2_indexOfCharUnsafe_4cfef_21 : decode cJ2_indexOfCharUnsafe_4cfef 21 = .ok (.ireturn, 1) := by decide +kernel
theorem dJ2_indexOfCharUnsafe_4cfef_22 : decode cJ2_indexOfCharUnsafe_4cfef 22 = .ok (.iinc 4 1, 3) := by decide +kernel
theorem dJ2_indexOfCharUnsafe_4cfef_25 : decode cJ2_indexOfCharUnsafe_4cfef 25 = .ok (.goto (-22), 3) := by decide +kernel
theorem dJ2_indexOfCharUnsafe_4cfef_28 : decode cJ2_indexOfCharUnsafe_4cfef 28 = .ok (.iconst (-1), 1) := by decide +kernel
theorem dJ2_indexOfCharUnsafe_4cfef_29 : decode cJ2_indexOfCharUnsafe_4cfef 29 = .ok (.ireturn, 1) := by decide +kernel
theorem dJ2_indexOfSupplementary_4cfef_0 : decode cJ2_indexOfSupplementary_4cfef 0 = .ok (.iload_n 1, 1) := by decide +kernel
theorem dJ2_indexOfSupplementary_4cfef_1 : decode cJ2_indexOfSupplementary_4cfef 1 = .ok (.invokestatic 164, 3) := by decide +kernel
theorem dJ2_indexOfSupplementary_4cfef_4 : decode cJ2_indexOfSupplementary_4cfef 4 = .ok (.ifCond .eq 65, 3) := by decide +kernel
theorem dJ2_indexOfSupplementary_4cfef_7 : decode cJ2_indexOfSupplementary_4cfef 7 = .ok (.iload_n 1, 1) := by decide +kernel
theorem dJ2_indexOfSupplementary_4cfef_8 : decode cJ2_indexOfSupplementary_4cfef 8 = .ok (.invokestatic 157, 3) := by decide +kernel
theorem dJ2_indexOfSupplementary_4cfef_11 : decode cJ2_indexOfSupplementary_4cfef 11 = .ok (.istore 4, 2) := by decide +kernel
theorem dJ2_indexOfSupplementary_4cfef_13 : decode cJ2_indexOfSupplementary_4cfef 13 = .ok (.iload_n 1, 1) := by decide +kernel
theorem dJ2_indexOfSupplementary_4cfef_14 : decode cJ2_indexOfSupplementary_4cfef 14 = .ok (.invokestatic 161, 3) := by decide +kernel
theorem dJ2_indexOfSupplementary_4cfef_17 : decode cJ2_indexOfSupplementary_4cfef 17 = .ok (.istore 5, 2) := by decide +kernel
theorem dJ2_indexOfSupplementary_4cfef_19 : decode cJ2_indexOfSupplementary_4cfef 19 = .ok (.iload_n 2, 1) := by decide +kernel
theorem dJ2_indexOfSupplementary_4cfef_20 : decode cJ2_indexOfSupplementary_4cfef 20 = .ok (.iload_n 3, 1) := by decide +kernel
theorem dJ2_indexOfSupplementary_4cfef_21 : decode cJ2_indexOfSupplementary_4cfef 21 = .ok (.aload_n 0, 1) := by decide +kernel
theorem dJ2_indexOfSupplementary_4cfef_22 : decode cJ2_indexOfSupplementary_4cfef 22 = .ok (.invokestatic 96, 3) := by decide +kernel
theorem dJ2_indexOfSupplementary_4cfef_25 : decode cJ2_indexOfSupplementary_4cfef 25 = .ok (.iload_n 2, 1) := by decide +kernel
theorem dJ2_indexOfSupplementary_4cfef_26 : decode cJ2_indexOfSupplementary_4cfef 26 = .ok (.istore 6, 2) := by decide +kernel
theorem dJ2_indexOfSupplementary_4cfef_28 : decode cJ2_indexOfSupplementary_4cfef 28 = .ok (.iload 6, 2) := by decide +kernel
theorem dJ2_indexOfSupplementary_4cfef_30 : decode cJ2_indexOfSupplementary_4cfef 30 = .ok (.iload_n 3, 1) := by decide +kernel
theorem dJ2_indexOfSupplementary_4cfef_31 : decode cJ2_indexOfSupplementary_4cfef 31 = .ok (.iconst 1, 1) := by decide +kernel
theorem dJ2_indexOfSupplementary_4cfef_32 : decode cJ2_indexOfSupplementary_4cfef 32 = .ok (.isub, 1) := by decide +kernel
theorem dJ2_indexOfSupplementary_4cfef_33 : decode cJ2_indexOfSupplementary_4cfef 33 = .ok (.if_icmp .ge 36, 3) := by decide +kernel
theorem dJ2_indexOfSupplementary_4cfef_36 : decode cJ2_indexOfSupplementary_4cfef 36 = .ok (.aload_n 0, 1) := by decide +kernel
theorem dJ2_indexOfSupplementary_4cfef_37 : decode cJ2_indexOfSupplementary_4cfef 37 = .ok (.iload 6, 2) := by decide +kernel
theorem dJ2_indexOfSupplementary_4cfef_39 : decode cJ2_indexOfSupplementary_4cfef 39 = .ok (.invokestatic 71, 3) := by decide +kernel
theorem dJ2_indexOfSupplementary_4cfef_42 : decode cJ2_indexOfSupplementary_4cfef 42 = .ok (.iload 4, 2) := by decide +kernel
theorem dJ2_indexOfSupplementary_4cfef_44 : decode cJ2_indexOfSupplementary_4cfef 44 = .ok (.if_icmp .ne 19, 3) := by decide +kernel
theorem dJ2_indexOfSupplementary_4cfef_47 : decode cJ2_indexOfSupplementary_4cfef 47 = .ok (.aload_n 0, 1) := by decide +kernel
theorem dJ2_indexOfSupplementary_4cfef_48 : decode cJ2_indexOfSupplementary_4cfef 48 = .ok (.iload 6, 2) := by decide +kernel
theorem dJ2_indexOfSupplementary_4cfef_50 : decode cJ2_indexOfSupplementary_4cfef 50 = .ok (.iconst 1, 1) := by decide +kernel
theorem dJ2_indexOfSupplementary_4cfef_51 : decode cJ2_indexOfSupplementary_4cfef 51 = .ok (.iadd, 1) := by decide +kernel
theorem dJ2_indexOfSupplementary_4cfef_52 : decode cJ2_indexOfSupplementary_4cfef 52 = .ok (.invokestatic 71, 3) := by decide +kernel
theorem dJ2_indexOfSupplementary_4cfef_55 : decode cJ2_indexOfSupplementary_4cfef 55 = .ok (.iload 5, 2) := by decide +kernel
theorem dJ2_indexOfSupplementary_4cfef_57 : decode cJ2_indexOfSupplementary_4cfef 57 = .ok (.if_icmp .ne 6, 3) := by decide +kernel
theorem dJ2_indexOfSupplementary_4cfef_60 : decode cJ2_indexOfSupplementary_4cfef 60 = .ok (.iload 6, 2) := by decide +kernel
theorem dJ2_indexOfSupplementary_4cfef_62 : decode cJ2_indexOfSupplementary_4cfef 62 = .ok (.ireturn, 1) := by decide +kernel
theorem dJ2_indexOfSupplementary_4cfef_63 : decode cJ2_indexOfSupplementary_4cfef 63 = .ok (.iinc 6 1, 3) := by decide +kernel
theorem dJ2_indexOfSupplementary_4cfef_66 : decode cJ2_indexOfSupplementary_4cfef 66 = .ok (.goto (-38), 3) := by decide +kernel
theorem dJ2_indexOfSupplementary_4cfef_69 : decode cJ2_indexOfSupplementary_4cfef 69 = .ok (.iconst (-1), 1) := by decide +kernel
theorem dJ2_indexOfSupplementary_4cfef_70 : decode cJ2_indexOfSupplementary_4cfef 70 = .ok (.ireturn, 1) := by decide +kernel
theorem dJ2_charAt_3b067_0 : decode cJ2_charAt_3b067 0 = .ok (.iload_n 1, 1) := by decide +kernel
theorem dJ2_charAt_3b067_1 : decode cJ2_charAt_3b067 1 = .ok (.aload_n 0, 1) := by decide +kernel
theorem dJ2_charAt_3b067_2 : decode cJ2_charAt_3b067 2 = .ok (.invokestatic 67, 3) := by decide +kernel
theorem dJ2_charAt_3b067_5 : decode cJ2_charAt_3b067 5 = .ok (.aload_n 0, 1) := by decide +kernel
theorem dJ2_charAt_3b067_6 : decode cJ2_charAt_3b067 6 = .ok (.iload_n 1, 1) := by decide +kernel
theorem dJ2_charAt_3b067_7 : decode cJ2_charAt_3b067 7 = .ok (.invokestatic 71, 3) := by decide +kernel
theorem dJ2_charAt_3b067_10 : decode cJ2_charAt_3b067 10 = .ok (.ireturn, 1) := by decide +kernel
theorem dJ2_checkIndex_2214a_0 : decode cJ2_checkIndex_2214a 0 = .ok (.iload_n 0, 1) := by decide +kernel
theorem dJ2_checkIndex_2214a_1 : decode cJ2_checkIndex_2214a 1 = .ok (.aload_n 1, 1) := by decide +kernel
theorem dJ2_checkIndex_2214a_2 : decode cJ2_checkIndex_2214a 2 = .ok (.invokestatic 48, 3) := by decide +kernel
theorem dJ2_checkIndex_2214a_5 : decode cJ2_checkIndex_2214a 5 = .ok (.invokestatic 414, 3) := by decide +kernel
theorem dJ2_checkIndex_2214a_8 : decode cJ2_checkIndex_2214a 8 = .ok (.return_, 1) := by decide +kernel
theorem dJ2_checkBoundsBeginEnd_d044e_0 : decode cJ2_checkBoundsBeginEnd_d044e 0 = .ok (.iload_n 0, 1) := by decide +kernel
theorem dJ2_checkBoundsBeginEnd_d044e_1 : decode cJ2_checkBoundsBeginEnd_d044e 1 = .ok (.iload_n 1, 1) := by decide +kernel
theorem dJ2_checkBoundsBeginEnd_d044e_2 : decode cJ2_checkBoundsBeginEnd_d044e 2 = .ok (.aload_n 2, 1) := by decide +kernel
theorem dJ2_checkBoundsBeginEnd_d044e_3 : decode cJ2_checkBoundsBeginEnd_d044e 3 = .ok (.invokestatic 48, 3) := by decide +kernel
theorem dJ2_checkBoundsBeginEnd_d044e_6 : decode cJ2_checkBoundsBeginEnd_d044e 6 = .ok (.invokestatic 241, 3) := by decide +kernel
theorem dJ2_checkBoundsBeginEnd_d044e_9 : decode cJ2_checkBoundsBeginEnd_d044e 9 = .ok (.return_, 1) := by decide +kernel
theorem dJ7_fill_53178_0 : decode cJ7_fill_53178 0 = .ok (.iconst 0, 1) := by decide +kernel
theorem dJ7_fill_53178_1 : decode cJ7_fill_53178 1 = .ok (.istore_n 2, 1) := by decide +kernel
theorem dJ7_fill_53178_2 : decode cJ7_fill_53178 2 = .ok (.aload_n 0, 1) := by decide +kernel
theorem dJ7_fill_53178_3 : decode cJ7_fill_53178 3 = .ok (.arraylength, 1) := by decide +kernel
theorem dJ7_fill_53178_4 : decode cJ7_fill_53178 4 = .ok (.istore_n 3, 1) := by decide +kernel
theorem dJ7_fill_53178_5 : decode cJ7_fill_53178 5 = .ok (.iload_n 2, 1) := by decide +kernel
theorem dJ7_fill_53178_6 : decode cJ7_fill_53178 6 = .ok (.iload_n 3, 1) := by decide +kernel
theorem dJ7_fill_53178_7 : decode cJ7_fill_53178 7 = .ok (.if_icmp .ge 13, 3) := by decide +kernel
theorem dJ7_fill_53178_10 : decode cJ7_fill_53178 10 = .ok (.aload_n 0, 1) := by decide +kernel
theorem dJ7_fill_53178_11 : decode cJ7_fill_53178 11 = .ok (.iload_n 2, 1) := by decide +kernel
theorem dJ7_fill_53178_12 : decode cJ7_fill_53178 12 = .ok (.iload_n 1, 1) := by decide +kernel
theorem dJ7_fill_53178_13 : decode cJ7_fill_53178 13 = .ok (.iastore, 1) := by decide +kernel
theorem dJ7_fill_53178_14 : decode cJ7_fill_53178 14 = .ok (.iinc 2 1, 3) := by decide +kernel
theorem dJ7_fill_53178_17 : decode cJ7_fill_53178 17 = .ok (.goto (-12), 3) := by decide +kernel
theorem dJ7_fill_53178_20 : decode cJ7_fill_53178 20 = .ok (.return_, 1) := by decide +kernel
theorem dJ7_copyOf_59c91_0 : decode cJ7_copyOf_59c91 0 = .ok (.iload_n 1, 1) := by decide +kernel
theorem dJ7_copyOf_59c91_1 : decode cJ7_copyOf_59c91 1 = .ok (.aload_n 0, 1) := by decide +kernel
theorem dJ7_copyOf_59c91_2 : decode cJ7_copyOf_59c91 2 = .ok (.arraylength, 1) := by decide +kernel
theorem dJ7_copyOf_59c91_3 : decode cJ7_copyOf_59c91 3 = .ok (.if_icmp .ne 11, 3) := by decide +kernel
theorem dJ7_copyOf_59c91_6 : decode cJ7_copyOf_59c91 6 = .ok (.aload_n 0, 1) := by decide +kernel
theorem dJ7_copyOf_59c91_7 : decode cJ7_copyOf_59c91 7 = .ok (.invokevirtual 316, 3) := by decide +kernel
theorem dJ7_copyOf_59c91_10 : decode cJ7_copyOf_59c91 10 = .ok (.checkcast 317, 3) := by decide +kernel
theorem dJ7_copyOf_59c91_13 : decode cJ7_copyOf_59c91 13 = .ok (.areturn, 1) := by decide +kernel
theorem dJ7_copyOf_59c91_14 : decode cJ7_copyOf_59c91 14 = .ok (.iload_n 1, 1) := by decide +kernel
theorem dJ7_copyOf_59c91_15 : decode cJ7_copyOf_59c91 15 = .ok (.newarray .int, 2) := by decide +kernel
theorem dJ7_copyOf_59c91_17 : decode cJ7_copyOf_59c91 17 = .ok (.astore_n 2, 1) := by decide +kernel
theorem dJ7_copyOf_59c91_18 : decode cJ7_copyOf_59c91 18 = .ok (.aload_n 0, 1) := by decide +kernel
theorem dJ7_copyOf_59c91_19 : decode cJ7_copyOf_59c91 19 = .ok (.iconst 0, 1) := by decide +kernel
theorem dJ7_copyOf_59c91_20 : decode cJ7_copyOf_59c91 20 = .ok (.aload_n 2, 1) := by decide +kernel
theorem dJ7_copyOf_59c91_21 : decode cJ7_copyOf_59c91 21 = .ok (.iconst 0, 1) := by decide +kernel
theorem dJ7_copyOf_59c91_22 : decode cJ7_copyOf_59c91 22 = .ok (.aload_n 0, 1) := by decide +kernel
theorem dJ7_copyOf_59c91_23 : decode cJ7_copyOf_59c91 23 = .ok (.arraylength, 1) := by decide +kernel
theorem dJ7_copyOf_59c91_24 : decode cJ7_copyOf_59c91 24 = .ok (.iload_n 1, 1) := by decide +kernel
theorem dJ7_copyOf_59c91_25 : decode cJ7_copyOf_59c91 25 = .ok (.invokestatic 304, 3) := by decide +kernel
theorem dJ7_copyOf_59c91_28 : decode cJ7_copyOf_59c91 28 = .ok (.invokestatic 150, 3) := by decide +kernel
theorem dJ7_copyOf_59c91_31 : decode cJ7_copyOf_59c91 31 = .ok (.aload_n 2, 1) := by decide +kernel
theorem dJ7_copyOf_59c91_32 : decode cJ7_copyOf_59c91 32 = .ok (.areturn, 1) := by decide +kernel
theorem dJ3_checkIndex_8e157_0 : decode cJ3_checkIndex_8e157 0 = .ok (.iload_n 0, 1) := by decide +kernel
theorem dJ3_checkIndex_8e157_1 : decode cJ3_checkIndex_8e157 1 = .ok (.ifCond .lt 8, 3) := by decide +kernel
theorem dJ3_checkIndex_8e157_4 : decode cJ3_checkIndex_8e157 4 = .ok (.iload_n 0, 1) := by decide +kernel
theorem dJ3_checkIndex_8e157_5 : decode cJ3_checkIndex_8e157 5 = .ok (.iload_n 1, 1) := by decide +kernel
theorem dJ3_checkIndex_8e157_6 : decode cJ3_checkIndex_8e157 6 = .ok (.if_icmp .lt 10, 3) := by decide +kernel
theorem dJ3_checkIndex_8e157_9 : decode cJ3_checkIndex_8e157 9 = .ok (.aload_n 2, 1) := by decide +kernel
theorem dJ3_checkIndex_8e157_10 : decode cJ3_checkIndex_8e157 10 = .ok (.iload_n 0, 1) := by decide +kernel
theorem dJ3_checkIndex_8e157_11 : decode cJ3_checkIndex_8e157 11 = .ok (.iload_n 1, 1) := by decide +kernel
theorem dJ3_checkIndex_8e157_12 : decode cJ3_checkIndex_8e157 12 = .ok (.invokestatic 95, 3) := by decide +kernel
theorem dJ3_checkIndex_8e157_15 : decode cJ3_checkIndex_8e157 15 = .ok (.athrow, 1) := by decide +kernel
theorem dJ3_checkIndex_8e157_16 : decode cJ3_checkIndex_8e157 16 = .ok (.iload_n 0, 1) := by decide +kernel
theorem dJ3_checkIndex_8e157_17 : decode cJ3_checkIndex_8e157 17 = .ok (.ireturn, 1) := by decide +kernel
theorem dJ3_checkFromToIndex_8c36e_0 : decode cJ3_checkFromToIndex_8c36e 0 = .ok (.iload_n 0, 1) := by decide +kernel
theorem dJ3_checkFromToIndex_8c36e_1 : decode cJ3_checkFromToIndex_8c36e 1 = .ok (.ifCond .lt 13, 3) := by decide +kernel
theorem dJ3_checkFromToIndex_8c36e_4 : decode cJ3_checkFromToIndex_8c36e 4 = .ok (.iload_n 0, 1) := by decide +kernel
theorem dJ3_checkFromToIndex_8c36e_5 : decode cJ3_checkFromToIndex_8c36e 5 = .ok (.iload_n 1, 1) := by decide +kernel
theorem dJ3_checkFromToIndex_8c36e_6 : decode cJ3_checkFromToIndex_8c36e 6 = .ok (.if_icmp .gt 8, 3) := by decide +kernel
theorem dJ3_checkFromToIndex_8c36e_9 : decode cJ3_checkFromToIndex_8c36e 9 = .ok (.iload_n 1, 1) := by decide +kernel
theorem dJ3_checkFromToIndex_8c36e_10 : decode cJ3_checkFromToIndex_8c36e 10 = .ok (.iload_n 2, 1) := by decide +kernel
theorem dJ3_checkFromToIndex_8c36e_11 : decode cJ3_checkFromToIndex_8c36e 11 = .ok (.if_icmp .le 11, 3) := by decide +kernel
theorem dJ3_checkFromToIndex_8c36e_14 : decode cJ3_checkFromToIndex_8c36e 14 = .ok (.aload_n 3, 1) := by decide +kernel
theorem dJ3_checkFromToIndex_8c36e_15 : decode cJ3_checkFromToIndex_8c36e 15 = .ok (.iload_n 0, 1) := by decide +kernel
theorem dJ3_checkFromToIndex_8c36e_16 : decode cJ3_checkFromToIndex_8c36e 16 = .ok (.iload_n 1, 1) := by decide +kernel
theorem dJ3_checkFromToIndex_8c36e_17 : decode cJ3_checkFromToIndex_8c36e 17 = .ok (.iload_n 2, 1) := by decide +kernel
theorem dJ3_checkFromToIndex_8c36e_18 : decode cJ3_checkFromToIndex_8c36e 18 = .ok (.invokestatic 99, 3) := by decide +kernel
theorem dJ3_checkFromToIndex_8c36e_21 : decode cJ3_checkFromToIndex_8c36e 21 = .ok (.athrow, 1) := by decide +kernel
theorem dJ3_checkFromToIndex_8c36e_22 : decode cJ3_checkFromToIndex_8c36e 22 = .ok (.iload_n 0, 1) := by decide +kernel
theorem dJ3_checkFromToIndex_8c36e_23 : decode cJ3_checkFromToIndex_8c36e 23 = .ok (.ireturn, 1) := by decide +kernel
theorem dL_law_0 : decode cL_law 0 = .ok (.new 7, 3) := by decide +kernel
theorem dL_law_3 : decode cL_law 3 = .ok (.dup, 1) := by decide +kernel
theorem dL_law_4 : decode cL_law 4 = .ok (.invokespecial 9, 3) := by decide +kernel
theorem dL_law_7 : decode cL_law 7 = .ok (.astore_n 1, 1) := by decide +kernel
theorem dL_law_8 : decode cL_law 8 = .ok (.new 10, 3) := by decide +kernel
theorem dL_law_11 : decode cL_law 11 = .ok (.dup, 1) := by decide +kernel
theorem dL_law_12 : decode cL_law 12 = .ok (.invokespecial 12, 3) := by decide +kernel
theorem dL_law_15 : decode cL_law 15 = .ok (.astore_n 2, 1) := by decide +kernel
theorem dL_law_16 : decode cL_law 16 = .ok (.iconst 0, 1) := by decide +kernel
theorem dL_law_17 : decode cL_law 17 = .ok (.istore_n 3, 1) := by decide +kernel
theorem dL_law_18 : decode cL_law 18 = .ok (.iload_n 3, 1) := by decide +kernel
theorem dL_law_19 : decode cL_law 19 = .ok (.aload_n 0, 1) := by decide +kernel
theorem dL_law_20 : decode cL_law 20 = .ok (.arraylength, 1) := by decide +kernel
theorem dL_law_21 : decode cL_law 21 = .ok (.bipush 6, 2) := by decide +kernel
theorem dL_law_23 : decode cL_law 23 = .ok (.isub, 1) := by decide +kernel
theorem dL_law_24 : decode cL_law 24 = .ok (.if_icmp .gt 931, 3) := by decide +kernel
theorem dL_law_27 : decode cL_law 27 = .ok (.aload_n 0, 1) := by decide +kernel
theorem dL_law_28 : decode cL_law 28 = .ok (.iload_n 3, 1) := by decide +kernel
theorem dL_law_29 : decode cL_law 29 = .ok (.iaload, 1) := by decide +kernel
theorem dL_law_30 : decode cL_law 30 = .ok (.bipush 31, 2) := by decide +kernel
theorem dL_law_32 : decode cL_law 32 = .ok (.iand, 1) := by decide +kernel
theorem dL_law_33 : decode cL_law 33 = .ok (.tableswitch 916 0 28 #[131, 194, 217, 240, 299, 362, 385, 398, 421, 444, 477, 500, 523, 546, 579, 602, 615, 638, 652, 685, 698, 722, 745, 778, 821, 834, 867, 880, 893], 131) := by decide +kernel
theorem dL_law_164 : decode cL_law 164 = .ok (.aload_n 1, 1) := by decide +kernel
theorem dL_law_165 : decode cL_law 165 = .ok (.aload_n 0, 1) := by decide +kernel
theorem dL_law_166 : decode cL_law 166 = .ok (.iload_n 3, 1) := by decide +kernel
theorem dL_law_167 : decode cL_law 167 = .ok (.iconst 1, 1) := by decide +kernel
theorem dL_law_168 : decode cL_law 168 = .ok (.iadd, 1) := by decide +kernel
theorem dL_law_169 : decode cL_law 169 = .ok (.iaload, 1) := by decide +kernel
theorem dL_law_170 : decode cL_law 170 = .ok (.aload_n 0, 1) := by decide +kernel
theorem dL_law_171 : decode cL_law 171 = .ok (.iload_n 3, 1) := by decide +kernel
theorem dL_law_172 : decode cL_law 172 = .ok (.iconst 2, 1) := by decide +kernel
theorem dL_law_173 : decode cL_law 173 = .ok (.iadd, 1) := by decide +kernel
theorem dL_law_174 : decode cL_law 174 = .ok (.iaload, 1) := by decide +kernel
theorem dL_law_175 : decode cL_law 175 = .ok (.aload_n 0, 1) := by decide +kernel
theorem dL_law_176 : decode cL_law 176 = .ok (.iload_n 3, 1) := by decide +kernel
theorem dL_law_177 : decode cL_law 177 = .ok (.iconst 3, 1) := by decide +kernel
theorem dL_law_178 : decode cL_law 178 = .ok (.iadd, 1) := by decide +kernel
theorem dL_law_179 : decode cL_law 179 = .ok (.iaload, 1) := by decide +kernel
theorem dL_law_180 : decode cL_law 180 = .ok (.aload_n 0, 1) := by decide +kernel
theorem dL_law_181 : decode cL_law 181 = .ok (.iload_n 3, 1) := by decide +kernel
theorem dL_law_182 : decode cL_law 182 = .ok (.iconst 4, 1) := by decide +kernel
theorem dL_law_183 : decode cL_law 183 = .ok (.iadd, 1) := by decide +kernel
theorem dL_law_184 : decode cL_law 184 = .ok (.iaload, 1) := by decide +kernel
theorem dL_law_185 : decode cL_law 185 = .ok (.aload_n 0, 1) := by decide +kernel
theorem dL_law_186 : decode cL_law 186 = .ok (.iload_n 3, 1) := by decide +kernel
theorem dL_law_187 : decode cL_law 187 = .ok (.iconst 5, 1) := by decide +kernel
theorem dL_law_188 : decode cL_law 188 = .ok (.iadd, 1) := by decide +kernel
theorem dL_law_189 : decode cL_law 189 = .ok (.iaload, 1) := by decide +kernel
theorem dL_law_190 : decode cL_law 190 = .ok (.invokevirtual 13, 3) := by decide +kernel
theorem dL_law_193 : decode cL_law 193 = .ok (.aload_n 2, 1) := by decide +kernel
theorem dL_law_194 : decode cL_law 194 = .ok (.aload_n 0, 1) := by decide +kernel
theorem dL_law_195 : decode cL_law 195 = .ok (.iload_n 3, 1) := by decide +kernel
theorem dL_law_196 : decode cL_law 196 = .ok (.iconst 1, 1) := by decide +kernel
theorem dL_law_197 : decode cL_law 197 = .ok (.iadd, 1) := by decide +kernel
theorem dL_law_198 : decode cL_law 198 = .ok (.iaload, 1) := by decide +kernel
theorem dL_law_199 : decode cL_law 199 = .ok (.aload_n 0, 1) := by decide +kernel
theorem dL_law_200 : decode cL_law 200 = .ok (.iload_n 3, 1) := by decide +kernel
theorem dL_law_201 : decode cL_law 201 = .ok (.iconst 2, 1) := by decide +kernel
theorem dL_law_202 : decode cL_law 202 = .ok (.iadd, 1) := by decide +kernel
theorem dL_law_203 : decode cL_law 203 = .ok (.iaload, 1) := by decide +kernel
theorem dL_law_204 : decode cL_law 204 = .ok (.aload_n 0, 1) := by decide +kernel
theorem dL_law_205 : decode cL_law 205 = .ok (.iload_n 3, 1) := by decide +kernel
theorem dL_law_206 : decode cL_law 206 = .ok (.iconst 3, 1) := by decide +kernel
theorem dL_law_207 : decode cL_law 207 = .ok (.iadd, 1) := by decide +kernel
theorem dL_law_208 : decode cL_law 208 = .ok (.iaload, 1) := by decide +kernel
theorem dL_law_209 : decode cL_law 209 = .ok (.aload_n 0, 1) := by decide +kernel
theorem dL_law_210 : decode cL_law 210 = .ok (.iload_n 3, 1) := by decide +kernel
theorem dL_law_211 : decode cL_law 211 = .ok (.iconst 4, 1) := by decide +kernel
theorem dL_law_212 : decode cL_law 212 = .ok (.iadd, 1) := by decide +kernel
theorem dL_law_213 : decode cL_law 213 = .ok (.iaload, 1) := by decide +kernel
theorem dL_law_214 : decode cL_law 214 = .ok (.aload_n 0, 1) := by decide +kernel
theorem dL_law_215 : decode cL_law 215 = .ok (.iload_n 3, 1) := by decide +kernel
theorem dL_law_216 : decode cL_law 216 = .ok (.iconst 5, 1) := by decide +kernel
theorem dL_law_217 : decode cL_law 217 = .ok (.iadd, 1) := by decide +kernel
theorem dL_law_218 : decode cL_law 218 = .ok (.iaload, 1) := by decide +kernel
theorem dL_law_219 : decode cL_law 219 = .ok (.invokevirtual 17, 3) := by decide +kernel
theorem dL_law_222 : decode cL_law 222 = .ok (.if_icmp .eq 727, 3) := by decide +kernel
theorem dL_law_225 : decode cL_law 225 = .ok (.iconst 0, 1) := by decide +kernel
theorem dL_law_226 : decode cL_law 226 = .ok (.ireturn, 1) := by decide +kernel
theorem dL_law_227 : decode cL_law 227 = .ok (.aload_n 1, 1) := by decide +kernel
theorem dL_law_228 : decode cL_law 228 = .ok (.aload_n 0, 1) := by decide +kernel
theorem dL_law_229 : decode cL_law 229 = .ok (.iload_n 3, 1) := by decide +kernel
theorem dL_law_230 : decode cL_law 230 = .ok (.iconst 1, 1) := by decide +kernel
theorem dL_law_231 : decode cL_law 231 = .ok (.iadd, 1) := by decide +kernel
theorem dL_law_232 : decode cL_law 232 = .ok (.iaload, 1) := by decide +kernel
theorem dL_law_233 : decode cL_law 233 = .ok (.invokevirtual 18, 3) := by decide +kernel
theorem dL_law_236 : decode cL_law 236 = .ok (.aload_n 2, 1) := by decide +kernel
theorem dL_law_237 : decode cL_law 237 = .ok (.aload_n 0, 1) := by decide +kernel
theorem dL_law_238 : decode cL_law 238 = .ok (.iload_n 3, 1) := by decide +kernel
theorem dL_law_239 : decode cL_law 239 = .ok (.iconst 1, 1) := by decide +kernel
theorem dL_law_240 : decode cL_law 240 = .ok (.iadd, 1) := by decide +kernel
theorem dL_law_241 : decode cL_law 241 = .ok (.iaload, 1) := by decide +kernel
theorem dL_law_242 : decode cL_law 242 = .ok (.invokevirtual 22, 3) := by decide +kernel
theorem dL_law_245 : decode cL_law 245 = .ok (.if_icmp .eq 704, 3) := by decide +kernel
theorem dL_law_248 : decode cL_law 248 = .ok (.iconst 0, 1) := by decide +kernel
theorem dL_law_249 : decode cL_law 249 = .ok (.ireturn, 1) := by decide +kernel
theorem dL_law_250 : decode cL_law 250 = .ok (.aload_n 1, 1) := by decide +kernel
theorem dL_law_251 : decode cL_law 251 = .ok (.aload_n 0, 1) := by decide +kernel
theorem dL_law_252 : decode cL_law 252 = .ok (.iload_n 3, 1) := by decide +kernel
theorem dL_law_253 : decode cL_law 253 = .ok (.iconst 1, 1) := by decide +kernel
theorem dL_law_254 : decode cL_law 254 = .ok (.iadd, 1) := by decide +kernel
theorem dL_law_255 : decode cL_law 255 = .ok (.iaload, 1) := by decide +kernel
theorem dL_law_256 : decode cL_law 256 = .ok (.invokevirtual 23, 3) := by decide +kernel
theorem dL_law_259 : decode cL_law 259 = .ok (.aload_n 2, 1) := by decide +kernel
theorem dL_law_260 : decode cL_law 260 = .ok (.aload_n 0, 1) := by decide +kernel
theorem dL_law_261 : decode cL_law 261 = .ok (.iload_n 3, 1) := by decide +kernel
theorem dL_law_262 : decode cL_law 262 = .ok (.iconst 1, 1) := by decide +kernel
theorem dL_law_263 : decode cL_law 263 = .ok (.iadd, 1) := by decide +kernel
theorem dL_law_264 : decode cL_law 264 = .ok (.iaload, 1) := by decide +kernel
theorem dL_law_265 : decode cL_law 265 = .ok (.invokevirtual 27, 3) := by decide +kernel
theorem dL_law_268 : decode cL_law 268 = .ok (.if_icmp .eq 681, 3) := by decide +kernel
theorem dL_law_271 : decode cL_law 271 = .ok (.iconst 0, 1) := by decide +kernel
theorem dL_law_272 : decode cL_law 272 = .ok (.ireturn, 1) := by decide +kernel
theorem dL_law_273 : decode cL_law 273 = .ok (.aload_n 1, 1) := by decide +kernel
theorem dL_law_274 : decode cL_law 274 = .ok (.aload_n 0, 1) := by decide +kernel
theorem dL_law_275 : decode cL_law 275 = .ok (.iload_n 3, 1) := by decide +kernel
theorem dL_law_276 : decode cL_law 276 = .ok (.iconst 1, 1) := by decide +kernel
theorem dL_law_277 : decode cL_law 277 = .ok (.iadd, 1) := by decide +kernel
theorem dL_law_278 : decode cL_law 278 = .ok (.iaload, 1) := by decide +kernel
theorem dL_law_279 : decode cL_law 279 = .ok (.aload_n 0, 1) := by decide +kernel
theorem dL_law_280 : decode cL_law 280 = .ok (.iload_n 3, 1) := by decide +kernel
theorem dL_law_281 : decode cL_law 281 = .ok (.iconst 2, 1) := by decide +kernel
theorem dL_law_282 : decode cL_law 282 = .ok (.iadd, 1) := by decide +kernel
theorem dL_law_283 : decode cL_law 283 = .ok (.iaload, 1) := by decide +kernel
theorem dL_law_284 : decode cL_law 284 = .ok (.aload_n 0, 1) := by decide +kernel
theorem dL_law_285 : decode cL_law 285 = .ok (.iload_n 3, 1) := by decide +kernel
theorem dL_law_286 : decode cL_law 286 = .ok (.iconst 3, 1) := by decide +kernel
theorem dL_law_287 : decode cL_law 287 = .ok (.iadd, 1) := by decide +kernel
theorem dL_law_288 : decode cL_law 288 = .ok (.iaload, 1) := by decide +kernel
theorem dL_law_289 : decode cL_law 289 = .ok (.ifCond .eq 7, 3) := by decide +kernel
theorem dL_law_292 : decode cL_law 292 = .ok (.iconst 1, 1) := by decide +kernel
theorem dL_law_293 : decode cL_law 293 = .ok (.goto 4, 3) := by decide +kernel
theorem dL_law_296 : decode cL_law 296 = .ok (.iconst 0, 1) := by decide +kernel
theorem dL_law_297 : decode cL_law 297 = .ok (.invokevirtual 28, 3) := by decide +kernel
theorem dL_law_300 : decode cL_law 300 = .ok (.aload_n 2, 1) := by decide +kernel
theorem dL_law_301 : decode cL_law 301 = .ok (.aload_n 0, 1) := by decide +kernel
theorem dL_law_302 : decode cL_law 302 = .ok (.iload_n 3, 1) := by decide +kernel
theorem dL_law_303 : decode cL_law 303 = .ok (.iconst 1, 1) := by decide +kernel
theorem dL_law_304 : decode cL_law 304 = .ok (.iadd, 1) := by decide +kernel
theorem dL_law_305 : decode cL_law 305 = .ok (.iaload, 1) := by decide +kernel
theorem dL_law_306 : decode cL_law 306 = .ok (.aload_n 0, 1) := by decide +kernel
theorem dL_law_307 : decode cL_law 307 = .ok (.iload_n 3, 1) := by decide +kernel
theorem dL_law_308 : decode cL_law 308 = .ok (.iconst 2, 1) := by decide +kernel
theorem dL_law_309 : decode cL_law 309 = .ok (.iadd, 1) := by decide +kernel
theorem dL_law_310 : decode cL_law 310 = .ok (.iaload, 1) := by decide +kernel
theorem dL_law_311 : decode cL_law 311 = .ok (.aload_n 0, 1) := by decide +kernel
theorem dL_law_312 : decode cL_law 312 = .ok (.iload_n 3, 1) := by decide +kernel
theorem dL_law_313 : decode cL_law 313 = .ok (.iconst 3, 1) := by decide +kernel
theorem dL_law_314 : decode cL_law 314 = .ok (.iadd, 1) := by decide +kernel
theorem dL_law_315 : decode cL_law 315 = .ok (.iaload, 1) := by decide +kernel
theorem dL_law_316 : decode cL_law 316 = .ok (.ifCond .eq 7, 3) := by decide +kernel
theorem dL_law_319 : decode cL_law 319 = .ok (.iconst 1, 1) := by decide +kernel
theorem dL_law_320 : decode cL_law 320 = .ok (.goto 4, 3) := by decide +kernel
theorem dL_law_323 : decode cL_law 323 = .ok (.iconst 0, 1) := by decide +kernel
theorem dL_law_324 : decode cL_law 324 = .ok (.invokevirtual 32, 3) := by decide +kernel
theorem dL_law_327 : decode cL_law 327 = .ok (.if_icmp .eq 622, 3) := by decide +kernel
theorem dL_law_330 : decode cL_law 330 = .ok (.iconst 0, 1) := by decide +kernel
theorem dL_law_331 : decode cL_law 331 = .ok (.ireturn, 1) := by decide +kernel
theorem dL_law_332 : decode cL_law 332 = .ok (.aload_n 1, 1) := by decide +kernel
theorem dL_law_333 : decode cL_law 333 = .ok (.aload_n 0, 1) := by decide +kernel
theorem dL_law_334 : decode cL_law 334 = .ok (.iload_n 3, 1) := by decide +kernel
theorem dL_law_335 : decode cL_law 335 = .ok (.iconst 1, 1) := by decide +kernel
theorem dL_law_336 : decode cL_law 336 = .ok (.iadd, 1) := by decide +kernel
theorem dL_law_337 : decode cL_law 337 = .ok (.iaload, 1) := by decide +kernel
theorem dL_law_338 : decode cL_law 338 = .ok (.aload_n 0, 1) := by decide +kernel
theorem dL_law_339 : decode cL_law 339 = .ok (.iload_n 3, 1) := by decide +kernel
theorem dL_law_340 : decode cL_law 340 = .ok (.iconst 2, 1) := by decide +kernel
theorem dL_law_341 : decode cL_law 341 = .ok (.iadd, 1) := by decide +kernel
theorem dL_law_342 : decode cL_law 342 = .ok (.iaload, 1) := by decide +kernel
theorem dL_law_343 : decode cL_law 343 = .ok (.aload_n 0, 1) := by decide +kernel
theorem dL_law_344 : decode cL_law 344 = .ok (.iload_n 3, 1) := by decide +kernel
theorem dL_law_345 : decode cL_law 345 = .ok (.iconst 3, 1) := by decide +kernel
theorem dL_law_346 : decode cL_law 346 = .ok (.iadd, 1) := by decide +kernel
theorem dL_law_347 : decode cL_law 347 = .ok (.iaload, 1) := by decide +kernel
theorem dL_law_348 : decode cL_law 348 = .ok (.aload_n 0, 1) := by decide +kernel
theorem dL_law_349 : decode cL_law 349 = .ok (.iload_n 3, 1) := by decide +kernel
theorem dL_law_350 : decode cL_law 350 = .ok (.iconst 4, 1) := by decide +kernel
theorem dL_law_351 : decode cL_law 351 = .ok (.iadd, 1) := by decide +kernel
theorem dL_law_352 : decode cL_law 352 = .ok (.iaload, 1) := by decide +kernel
theorem dL_law_353 : decode cL_law 353 = .ok (.aload_n 0, 1) := by decide +kernel
theorem dL_law_354 : decode cL_law 354 = .ok (.iload_n 3, 1) := by decide +kernel
theorem dL_law_355 : decode cL_law 355 = .ok (.iconst 5, 1) := by decide +kernel
theorem dL_law_356 : decode cL_law 356 = .ok (.iadd, 1) := by decide +kernel
theorem dL_law_357 : decode cL_law 357 = .ok (.iaload, 1) := by decide +kernel
theorem dL_law_358 : decode cL_law 358 = .ok (.invokevirtual 33, 3) := by decide +kernel
theorem dL_law_361 : decode cL_law 361 = .ok (.aload_n 2, 1) := by decide +kernel
theorem dL_law_362 : decode cL_law 362 = .ok (.aload_n 0, 1) := by decide +kernel
theorem dL_law_363 : decode cL_law 363 = .ok (.iload_n 3, 1) := by decide +kernel
theorem dL_law_364 : decode cL_law 364 = .ok (.iconst 1, 1) := by decide +kernel
theorem dL_law_365 : decode cL_law 365 = .ok (.iadd, 1) := by decide +kernel
theorem dL_law_366 : decode cL_law 366 = .ok (.iaload, 1) := by decide +kernel
theorem dL_law_367 : decode cL_law 367 = .ok (.aload_n 0, 1) := by decide +kernel
theorem dL_law_368 : decode cL_law 368 = .ok (.iload_n 3, 1) := by decide +kernel
theorem dL_law_369 : decode cL_law 369 = .ok (.iconst 2, 1) := by decide +kernel
theorem dL_law_370 : decode cL_law 370 = .ok (.iadd, 1) := by decide +kernel
theorem dL_law_371 : decode cL_law 371 = .ok (.iaload, 1) := by decide +kernel
theorem dL_law_372 : decode cL_law 372 = .ok (.aload_n 0, 1) := by decide +kernel
theorem dL_law_373 : decode cL_law 373 = .ok (.iload_n 3, 1) := by decide +kernel
theorem dL_law_374 : decode cL_law 374 = .ok (.iconst 3, 1) := by decide +kernel
theorem dL_law_375 : decode cL_law 375 = .ok (.iadd, 1) := by decide +kernel
theorem dL_law_376 : decode cL_law 376 = .ok (.iaload, 1) := by decide +kernel
theorem dL_law_377 : decode cL_law 377 = .ok (.aload_n 0, 1) := by decide +kernel
theorem dL_law_378 : decode cL_law 378 = .ok (.iload_n 3, 1) := by decide +kernel
theorem dL_law_379 : decode cL_law 379 = .ok (.iconst 4, 1) := by decide +kernel
theorem dL_law_380 : decode cL_law 380 = .ok (.iadd, 1) := by decide +kernel
theorem dL_law_381 : decode cL_law 381 = .ok (.iaload, 1) := by decide +kernel
theorem dL_law_382 : decode cL_law 382 = .ok (.aload_n 0, 1) := by decide +kernel
theorem dL_law_383 : decode cL_law 383 = .ok (.iload_n 3, 1) := by decide +kernel
theorem dL_law_384 : decode cL_law 384 = .ok (.iconst 5, 1) := by decide +kernel
theorem dL_law_385 : decode cL_law 385 = .ok (.iadd, 1) := by decide +kernel
theorem dL_law_386 : decode cL_law 386 = .ok (.iaload, 1) := by decide +kernel
theorem dL_law_387 : decode cL_law 387 = .ok (.invokevirtual 36, 3) := by decide +kernel
theorem dL_law_390 : decode cL_law 390 = .ok (.if_icmp .eq 559, 3) := by decide +kernel
theorem dL_law_393 : decode cL_law 393 = .ok (.iconst 0, 1) := by decide +kernel
theorem dL_law_394 : decode cL_law 394 = .ok (.ireturn, 1) := by decide +kernel
theorem dL_law_395 : decode cL_law 395 = .ok (.aload_n 1, 1) := by decide +kernel
theorem dL_law_396 : decode cL_law 396 = .ok (.aload_n 0, 1) := by decide +kernel
theorem dL_law_397 : decode cL_law 397 = .ok (.iload_n 3, 1) := by decide +kernel
theorem dL_law_398 : decode cL_law 398 = .ok (.iconst 1, 1) := by decide +kernel
theorem dL_law_399 : decode cL_law 399 = .ok (.iadd, 1) := by decide +kernel
theorem dL_law_400 : decode cL_law 400 = .ok (.iaload, 1) := by decide +kernel
theorem dL_law_401 : decode cL_law 401 = .ok (.invokevirtual 37, 3) := by decide +kernel
theorem dL_law_404 : decode cL_law 404 = .ok (.aload_n 2, 1) := by decide +kernel
theorem dL_law_405 : decode cL_law 405 = .ok (.aload_n 0, 1) := by decide +kernel
theorem dL_law_406 : decode cL_law 406 = .ok (.iload_n 3, 1) := by decide +kernel
theorem dL_law_407 : decode cL_law 407 = .ok (.iconst 1, 1) := by decide +kernel
theorem dL_law_408 : decode cL_law 408 = .ok (.iadd, 1) := by decide +kernel
theorem dL_law_409 : decode cL_law 409 = .ok (.iaload, 1) := by decide +kernel
theorem dL_law_410 : decode cL_law 410 = .ok (.invokevirtual 40, 3) := by decide +kernel
theorem dL_law_413 : decode cL_law 413 = .ok (.if_icmp .eq 536, 3) := by decide +kernel
theorem dL_law_416 : decode cL_law 416 = .ok (.iconst 0, 1) := by decide +kernel
theorem dL_law_417 : decode cL_law 417 = .ok (.ireturn, 1) := by decide +kernel
theorem dL_law_418 : decode cL_law 418 = .ok (.aload_n 1, 1) := by decide +kernel
theorem dL_law_419 : decode cL_law 419 = .ok (.invokevirtual 41, 3) := by decide +kernel
theorem dL_law_422 : decode cL_law 422 = .ok (.aload_n 2, 1) := by decide +kernel
theorem dL_law_423 : decode cL_law 423 = .ok (.invokevirtual 45, 3) := by decide +kernel
theorem dL_law_426 : decode cL_law 426 = .ok (.if_icmp .eq 523, 3) := by decide +kernel
theorem dL_law_429 : decode cL_law 429 = .ok (.iconst 0, 1) := by decide +kernel
theorem dL_law_430 : decode cL_law 430 = .ok (.ireturn, 1) := by decide +kernel
theorem dL_law_431 : decode cL_law 431 = .ok (.aload_n 1, 1) := by decide +kernel
theorem dL_law_432 : decode cL_law 432 = .ok (.aload_n 0, 1) := by decide +kernel
theorem dL_law_433 : decode cL_law 433 = .ok (.iload_n 3, 1) := by decide +kernel
theorem dL_law_434 : decode cL_law 434 = .ok (.iconst 1, 1) := by decide +kernel
theorem dL_law_435 : decode cL_law 435 = .ok (.iadd, 1) := by decide +kernel
theorem dL_law_436 : decode cL_law 436 = .ok (.iaload, 1) := by decide +kernel
theorem dL_law_437 : decode cL_law 437 = .ok (.invokevirtual 46, 3) := by decide +kernel
theorem dL_law_440 : decode cL_law 440 = .ok (.aload_n 2, 1) := by decide +kernel
theorem dL_law_441 : decode cL_law 441 = .ok (.aload_n 0, 1) := by decide +kernel
theorem dL_law_442 : decode cL_law 442 = .ok (.iload_n 3, 1) := by decide +kernel
theorem dL_law_443 : decode cL_law 443 = .ok (.iconst 1, 1) := by decide +kernel
theorem dL_law_444 : decode cL_law 444 = .ok (.iadd, 1) := by decide +kernel
theorem dL_law_445 : decode cL_law 445 = .ok (.iaload, 1) := by decide +kernel
theorem dL_law_446 : decode cL_law 446 = .ok (.invokevirtual 49, 3) := by decide +kernel
theorem dL_law_449 : decode cL_law 449 = .ok (.if_icmp .eq 500, 3) := by decide +kernel
theorem dL_law_452 : decode cL_law 452 = .ok (.iconst 0, 1) := by decide +kernel
theorem dL_law_453 : decode cL_law 453 = .ok (.ireturn, 1) := by decide +kernel
theorem dL_law_454 : decode cL_law 454 = .ok (.aload_n 1, 1) := by decide +kernel
theorem dL_law_455 : decode cL_law 455 = .ok (.aload_n 0, 1) := by decide +kernel
theorem dL_law_456 : decode cL_law 456 = .ok (.iload_n 3, 1) := by decide +kernel
theorem dL_law_457 : decode cL_law 457 = .ok (.iconst 1, 1) := by decide +kernel
theorem dL_law_458 : decode cL_law 458 = .ok (.iadd, 1) := by decide +kernel
theorem dL_law_459 : decode cL_law 459 = .ok (.iaload, 1) := by decide +kernel
theorem dL_law_460 : decode cL_law 460 = .ok (.invokevirtual 50, 3) := by decide +kernel
theorem dL_law_463 : decode cL_law 463 = .ok (.aload_n 2, 1) := by decide +kernel
theorem dL_law_464 : decode cL_law 464 = .ok (.aload_n 0, 1) := by decide +kernel
theorem dL_law_465 : decode cL_law 465 = .ok (.iload_n 3, 1) := by decide +kernel
theorem dL_law_466 : decode cL_law 466 = .ok (.iconst 1, 1) := by decide +kernel
theorem dL_law_467 : decode cL_law 467 = .ok (.iadd, 1) := by decide +kernel
theorem dL_law_468 : decode cL_law 468 = .ok (.iaload, 1) := by decide +kernel
theorem dL_law_469 : decode cL_law 469 = .ok (.invokevirtual 53, 3) := by decide +kernel
theorem dL_law_472 : decode cL_law 472 = .ok (.if_icmp .eq 477, 3) := by decide +kernel
theorem dL_law_475 : decode cL_law 475 = .ok (.iconst 0, 1) := by decide +kernel
theorem dL_law_476 : decode cL_law 476 = .ok (.ireturn, 1) := by decide +kernel
theorem dL_law_477 : decode cL_law 477 = .ok (.aload_n 1, 1) := by decide +kernel
theorem dL_law_478 : decode cL_law 478 = .ok (.aload_n 0, 1) := by decide +kernel
theorem dL_law_479 : decode cL_law 479 = .ok (.iload_n 3, 1) := by decide +kernel
theorem dL_law_480 : decode cL_law 480 = .ok (.iconst 1, 1) := by decide +kernel
theorem dL_law_481 : decode cL_law 481 = .ok (.iadd, 1) := by decide +kernel
theorem dL_law_482 : decode cL_law 482 = .ok (.iaload, 1) := by decide +kernel
theorem dL_law_483 : decode cL_law 483 = .ok (.aload_n 0, 1) := by decide +kernel
theorem dL_law_484 : decode cL_law 484 = .ok (.iload_n 3, 1) := by decide +kernel
theorem dL_law_485 : decode cL_law 485 = .ok (.iconst 2, 1) := by decide +kernel
theorem dL_law_486 : decode cL_law 486 = .ok (.iadd, 1) := by decide +kernel
theorem dL_law_487 : decode cL_law 487 = .ok (.iaload, 1) := by decide +kernel
theorem dL_law_488 : decode cL_law 488 = .ok (.invokevirtual 54, 3) := by decide +kernel
theorem dL_law_491 : decode cL_law 491 = .ok (.aload_n 2, 1) := by decide +kernel
theorem dL_law_492 : decode cL_law 492 = .ok (.aload_n 0, 1) := by decide +kernel
theorem dL_law_493 : decode cL_law 493 = .ok (.iload_n 3, 1) := by decide +kernel
theorem dL_law_494 : decode cL_law 494 = .ok (.iconst 1, 1) := by decide +kernel
theorem dL_law_495 : decode cL_law 495 = .ok (.iadd, 1) := by decide +kernel
theorem dL_law_496 : decode cL_law 496 = .ok (.iaload, 1) := by decide +kernel
theorem dL_law_497 : decode cL_law 497 = .ok (.aload_n 0, 1) := by decide +kernel
theorem dL_law_498 : decode cL_law 498 = .ok (.iload_n 3, 1) := by decide +kernel
theorem dL_law_499 : decode cL_law 499 = .ok (.iconst 2, 1) := by decide +kernel
theorem dL_law_500 : decode cL_law 500 = .ok (.iadd, 1) := by decide +kernel
theorem dL_law_501 : decode cL_law 501 = .ok (.iaload, 1) := by decide +kernel
theorem dL_law_502 : decode cL_law 502 = .ok (.invokevirtual 58, 3) := by decide +kernel
theorem dL_law_505 : decode cL_law 505 = .ok (.if_icmp .eq 444, 3) := by decide +kernel
theorem dL_law_508 : decode cL_law 508 = .ok (.iconst 0, 1) := by decide +kernel
theorem dL_law_509 : decode cL_law 509 = .ok (.ireturn, 1) := by decide +kernel
theorem dL_law_510 : decode cL_law 510 = .ok (.aload_n 1, 1) := by decide +kernel
theorem dL_law_511 : decode cL_law 511 = .ok (.aload_n 0, 1) := by decide +kernel
theorem dL_law_512 : decode cL_law 512 = .ok (.iload_n 3, 1) := by decide +kernel
theorem dL_law_513 : decode cL_law 513 = .ok (.iconst 1, 1) := by decide +kernel
theorem dL_law_514 : decode cL_law 514 = .ok (.iadd, 1) := by decide +kernel
theorem dL_law_515 : decode cL_law 515 = .ok (.iaload, 1) := by decide +kernel
theorem dL_law_516 : decode cL_law 516 = .ok (.invokevirtual 59, 3) := by decide +kernel
theorem dL_law_519 : decode cL_law 519 = .ok (.aload_n 2, 1) := by decide +kernel
theorem dL_law_520 : decode cL_law 520 = .ok (.aload_n 0, 1) := by decide +kernel
theorem dL_law_521 : decode cL_law 521 = .ok (.iload_n 3, 1) := by decide +kernel
theorem dL_law_522 : decode cL_law 522 = .ok (.iconst 1, 1) := by decide +kernel
theorem dL_law_523 : decode cL_law 523 = .ok (.iadd, 1) := by decide +kernel
theorem dL_law_524 : decode cL_law 524 = .ok (.iaload, 1) := by decide +kernel
theorem dL_law_525 : decode cL_law 525 = .ok (.invokevirtual 62, 3) := by decide +kernel
theorem dL_law_528 : decode cL_law 528 = .ok (.if_icmp .eq 421, 3) := by decide +kernel
theorem dL_law_531 : decode cL_law 531 = .ok (.iconst 0, 1) := by decide +kernel
theorem dL_law_532 : decode cL_law 532 = .ok (.ireturn, 1) := by decide +kernel
theorem dL_law_533 : decode cL_law 533 = .ok (.aload_n 1, 1) := by decide +kernel
theorem dL_law_534 : decode cL_law 534 = .ok (.aload_n 0, 1) := by decide +kernel
theorem dL_law_535 : decode cL_law 535 = .ok (.iload_n 3, 1) := by decide +kernel
theorem dL_law_536 : decode cL_law 536 = .ok (.iconst 1, 1) := by decide +kernel
theorem dL_law_537 : decode cL_law 537 = .ok (.iadd, 1) := by decide +kernel
theorem dL_law_538 : decode cL_law 538 = .ok (.iaload, 1) := by decide +kernel
theorem dL_law_539 : decode cL_law 539 = .ok (.invokevirtual 63, 3) := by decide +kernel
theorem dL_law_542 : decode cL_law 542 = .ok (.aload_n 2, 1) := by decide +kernel
theorem dL_law_543 : decode cL_law 543 = .ok (.aload_n 0, 1) := by decide +kernel
theorem dL_law_544 : decode cL_law 544 = .ok (.iload_n 3, 1) := by decide +kernel
theorem dL_law_545 : decode cL_law 545 = .ok (.iconst 1, 1) := by decide +kernel
theorem dL_law_546 : decode cL_law 546 = .ok (.iadd, 1) := by decide +kernel
theorem dL_law_547 : decode cL_law 547 = .ok (.iaload, 1) := by decide +kernel
theorem dL_law_548 : decode cL_law 548 = .ok (.invokevirtual 66, 3) := by decide +kernel
theorem dL_law_551 : decode cL_law 551 = .ok (.if_icmp .eq 398, 3) := by decide +kernel
theorem dL_law_554 : decode cL_law 554 = .ok (.iconst 0, 1) := by decide +kernel
theorem dL_law_555 : decode cL_law 555 = .ok (.ireturn, 1) := by decide +kernel
theorem dL_law_556 : decode cL_law 556 = .ok (.aload_n 1, 1) := by decide +kernel
theorem dL_law_557 : decode cL_law 557 = .ok (.aload_n 0, 1) := by decide +kernel
theorem dL_law_558 : decode cL_law 558 = .ok (.iload_n 3, 1) := by decide +kernel
theorem dL_law_559 : decode cL_law 559 = .ok (.iconst 1, 1) := by decide +kernel
theorem dL_law_560 : decode cL_law 560 = .ok (.iadd, 1) := by decide +kernel
theorem dL_law_561 : decode cL_law 561 = .ok (.iaload, 1) := by decide +kernel
theorem dL_law_562 : decode cL_law 562 = .ok (.invokevirtual 67, 3) := by decide +kernel
theorem dL_law_565 : decode cL_law 565 = .ok (.aload_n 2, 1) := by decide +kernel
theorem dL_law_566 : decode cL_law 566 = .ok (.aload_n 0, 1) := by decide +kernel
theorem dL_law_567 : decode cL_law 567 = .ok (.iload_n 3, 1) := by decide +kernel
theorem dL_law_568 : decode cL_law 568 = .ok (.iconst 1, 1) := by decide +kernel
theorem dL_law_569 : decode cL_law 569 = .ok (.iadd, 1) := by decide +kernel
theorem dL_law_570 : decode cL_law 570 = .ok (.iaload, 1) := by decide +kernel
theorem dL_law_571 : decode cL_law 571 = .ok (.invokevirtual 70, 3) := by decide +kernel
theorem dL_law_574 : decode cL_law 574 = .ok (.if_icmp .eq 375, 3) := by decide +kernel
theorem dL_law_577 : decode cL_law 577 = .ok (.iconst 0, 1) := by decide +kernel
theorem dL_law_578 : decode cL_law 578 = .ok (.ireturn, 1) := by decide +kernel
theorem dL_law_579 : decode cL_law 579 = .ok (.aload_n 1, 1) := by decide +kernel
theorem dL_law_580 : decode cL_law 580 = .ok (.aload_n 0, 1) := by decide +kernel
theorem dL_law_581 : decode cL_law 581 = .ok (.iload_n 3, 1) := by decide +kernel
theorem dL_law_582 : decode cL_law 582 = .ok (.iconst 1, 1) := by decide +kernel
theorem dL_law_583 : decode cL_law 583 = .ok (.iadd, 1) := by decide +kernel
theorem dL_law_584 : decode cL_law 584 = .ok (.iaload, 1) := by decide +kernel
theorem dL_law_585 : decode cL_law 585 = .ok (.aload_n 0, 1) := by decide +kernel
theorem dL_law_586 : decode cL_law 586 = .ok (.iload_n 3, 1) := by decide +kernel
theorem dL_law_587 : decode cL_law 587 = .ok (.iconst 2, 1) := by decide +kernel
theorem dL_law_588 : decode cL_law 588 = .ok (.iadd, 1) := by decide +kernel
theorem dL_law_589 : decode cL_law 589 = .ok (.iaload, 1) := by decide +kernel
theorem dL_law_590 : decode cL_law 590 = .ok (.invokevirtual 71, 3) := by decide +kernel
theorem dL_law_593 : decode cL_law 593 = .ok (.aload_n 2, 1) := by decide +kernel
theorem dL_law_594 : decode cL_law 594 = .ok (.aload_n 0, 1) := by decide +kernel
theorem dL_law_595 : decode cL_law 595 = .ok (.iload_n 3, 1) := by decide +kernel
theorem dL_law_596 : decode cL_law 596 = .ok (.iconst 1, 1) := by decide +kernel
theorem dL_law_597 : decode cL_law 597 = .ok (.iadd, 1) := by decide +kernel
theorem dL_law_598 : decode cL_law 598 = .ok (.iaload, 1) := by decide +kernel
theorem dL_law_599 : decode cL_law 599 = .ok (.aload_n 0, 1) := by decide +kernel
theorem dL_law_600 : decode cL_law 600 = .ok (.iload_n 3, 1) := by decide +kernel
theorem dL_law_601 : decode cL_law 601 = .ok (.iconst 2, 1) := by decide +kernel
theorem dL_law_602 : decode cL_law 602 = .ok (.iadd, 1) := by decide +kernel
theorem dL_law_603 : decode cL_law 603 = .ok (.iaload, 1) := by decide +kernel
theorem dL_law_604 : decode cL_law 604 = .ok (.invokevirtual 74, 3) := by decide +kernel
theorem dL_law_607 : decode cL_law 607 = .ok (.if_icmp .eq 342, 3) := by decide +kernel
theorem dL_law_610 : decode cL_law 610 = .ok (.iconst 0, 1) := by decide +kernel
theorem dL_law_611 : decode cL_law 611 = .ok (.ireturn, 1) := by decide +kernel
theorem dL_law_612 : decode cL_law 612 = .ok (.aload_n 1, 1) := by decide +kernel
theorem dL_law_613 : decode cL_law 613 = .ok (.aload_n 0, 1) := by decide +kernel
theorem dL_law_614 : decode cL_law 614 = .ok (.iload_n 3, 1) := by decide +kernel
theorem dL_law_615 : decode cL_law 615 = .ok (.iconst 1, 1) := by decide +kernel
theorem dL_law_616 : decode cL_law 616 = .ok (.iadd, 1) := by decide +kernel
theorem dL_law_617 : decode cL_law 617 = .ok (.iaload, 1) := by decide +kernel
theorem dL_law_618 : decode cL_law 618 = .ok (.invokevirtual 75, 3) := by decide +kernel
theorem dL_law_621 : decode cL_law 621 = .ok (.aload_n 2, 1) := by decide +kernel
theorem dL_law_622 : decode cL_law 622 = .ok (.aload_n 0, 1) := by decide +kernel
theorem dL_law_623 : decode cL_law 623 = .ok (.iload_n 3, 1) := by decide +kernel
theorem dL_law_624 : decode cL_law 624 = .ok (.iconst 1, 1) := by decide +kernel
theorem dL_law_625 : decode cL_law 625 = .ok (.iadd, 1) := by decide +kernel
theorem dL_law_626 : decode cL_law 626 = .ok (.iaload, 1) := by decide +kernel
theorem dL_law_627 : decode cL_law 627 = .ok (.invokevirtual 78, 3) := by decide +kernel
theorem dL_law_630 : decode cL_law 630 = .ok (.if_icmp .eq 319, 3) := by decide +kernel
theorem dL_law_633 : decode cL_law 633 = .ok (.iconst 0, 1) := by decide +kernel
theorem dL_law_634 : decode cL_law 634 = .ok (.ireturn, 1) := by decide +kernel
theorem dL_law_635 : decode cL_law 635 = .ok (.aload_n 1, 1) := by decide +kernel
theorem dL_law_636 : decode cL_law 636 = .ok (.invokevirtual 79, 3) := by decide +kernel
theorem dL_law_639 : decode cL_law 639 = .ok (.aload_n 2, 1) := by decide +kernel
theorem dL_law_640 : decode cL_law 640 = .ok (.invokevirtual 82, 3) := by decide +kernel
theorem dL_law_643 : decode cL_law 643 = .ok (.if_icmp .eq 306, 3) := by decide +kernel
theorem dL_law_646 : decode cL_law 646 = .ok (.iconst 0, 1) := by decide +kernel
theorem dL_law_647 : decode cL_law 647 = .ok (.ireturn, 1) := by decide +kernel
theorem dL_law_648 : decode cL_law 648 = .ok (.aload_n 1, 1) := by decide +kernel
theorem dL_law_649 : decode cL_law 649 = .ok (.aload_n 0, 1) := by decide +kernel
theorem dL_law_650 : decode cL_law 650 = .ok (.iload_n 3, 1) := by decide +kernel
theorem dL_law_651 : decode cL_law 651 = .ok (.iconst 1, 1) := by decide +kernel
theorem dL_law_652 : decode cL_law 652 = .ok (.iadd, 1) := by decide +kernel
theorem dL_law_653 : decode cL_law 653 = .ok (.iaload, 1) := by decide +kernel
theorem dL_law_654 : decode cL_law 654 = .ok (.invokevirtual 83, 3) := by decide +kernel
theorem dL_law_657 : decode cL_law 657 = .ok (.aload_n 2, 1) := by decide +kernel
theorem dL_law_658 : decode cL_law 658 = .ok (.aload_n 0, 1) := by decide +kernel
theorem dL_law_659 : decode cL_law 659 = .ok (.iload_n 3, 1) := by decide +kernel
theorem dL_law_660 : decode cL_law 660 = .ok (.iconst 1, 1) := by decide +kernel
theorem dL_law_661 : decode cL_law 661 = .ok (.iadd, 1) := by decide +kernel
theorem dL_law_662 : decode cL_law 662 = .ok (.iaload, 1) := by decide +kernel
theorem dL_law_663 : decode cL_law 663 = .ok (.invokevirtual 86, 3) := by decide +kernel
theorem dL_law_666 : decode cL_law 666 = .ok (.if_icmp .eq 283, 3) := by decide +kernel
theorem dL_law_669 : decode cL_law 669 = .ok (.iconst 0, 1) := by decide +kernel
theorem dL_law_670 : decode cL_law 670 = .ok (.ireturn, 1) := by decide +kernel
theorem dL_law_671 : decode cL_law 671 = .ok (.aload_n 1, 1) := by decide +kernel
theorem dL_law_672 : decode cL_law 672 = .ok (.invokevirtual 87, 3) := by decide +kernel
theorem dL_law_675 : decode cL_law 675 = .ok (.aload_n 2, 1) := by decide +kernel
theorem dL_law_676 : decode cL_law 676 = .ok (.invokevirtual 91, 3) := by decide +kernel
theorem dL_law_679 : decode cL_law 679 = .ok (.lcmp, 1) := by decide +kernel
theorem dL_law_680 : decode cL_law 680 = .ok (.ifCond .eq 269, 3) := by decide +kernel
theorem dL_law_683 : decode cL_law 683 = .ok (.iconst 0, 1) := by decide +kernel
theorem dL_law_684 : decode cL_law 684 = .ok (.ireturn, 1) := by decide +kernel
theorem dL_law_685 : decode cL_law 685 = .ok (.aload_n 1, 1) := by decide +kernel
theorem dL_law_686 : decode cL_law 686 = .ok (.aload_n 0, 1) := by decide +kernel
theorem dL_law_687 : decode cL_law 687 = .ok (.iload_n 3, 1) := by decide +kernel
theorem dL_law_688 : decode cL_law 688 = .ok (.iconst 1, 1) := by decide +kernel
theorem dL_law_689 : decode cL_law 689 = .ok (.iadd, 1) := by decide +kernel
theorem dL_law_690 : decode cL_law 690 = .ok (.iaload, 1) := by decide +kernel
theorem dL_law_691 : decode cL_law 691 = .ok (.aload_n 0, 1) := by decide +kernel
theorem dL_law_692 : decode cL_law 692 = .ok (.iload_n 3, 1) := by decide +kernel
theorem dL_law_693 : decode cL_law 693 = .ok (.iconst 2, 1) := by decide +kernel
theorem dL_law_694 : decode cL_law 694 = .ok (.iadd, 1) := by decide +kernel
theorem dL_law_695 : decode cL_law 695 = .ok (.iaload, 1) := by decide +kernel
theorem dL_law_696 : decode cL_law 696 = .ok (.invokevirtual 92, 3) := by decide +kernel
theorem dL_law_699 : decode cL_law 699 = .ok (.aload_n 2, 1) := by decide +kernel
theorem dL_law_700 : decode cL_law 700 = .ok (.aload_n 0, 1) := by decide +kernel
theorem dL_law_701 : decode cL_law 701 = .ok (.iload_n 3, 1) := by decide +kernel
theorem dL_law_702 : decode cL_law 702 = .ok (.iconst 1, 1) := by decide +kernel
theorem dL_law_703 : decode cL_law 703 = .ok (.iadd, 1) := by decide +kernel
theorem dL_law_704 : decode cL_law 704 = .ok (.iaload, 1) := by decide +kernel
theorem dL_law_705 : decode cL_law 705 = .ok (.aload_n 0, 1) := by decide +kernel
theorem dL_law_706 : decode cL_law 706 = .ok (.iload_n 3, 1) := by decide +kernel
theorem dL_law_707 : decode cL_law 707 = .ok (.iconst 2, 1) := by decide +kernel
theorem dL_law_708 : decode cL_law 708 = .ok (.iadd, 1) := by decide +kernel
theorem dL_law_709 : decode cL_law 709 = .ok (.iaload, 1) := by decide +kernel
theorem dL_law_710 : decode cL_law 710 = .ok (.invokevirtual 95, 3) := by decide +kernel
theorem dL_law_713 : decode cL_law 713 = .ok (.if_icmp .eq 236, 3) := by decide +kernel
theorem dL_law_716 : decode cL_law 716 = .ok (.iconst 0, 1) := by decide +kernel
theorem dL_law_717 : decode cL_law 717 = .ok (.ireturn, 1) := by decide +kernel
theorem dL_law_718 : decode cL_law 718 = .ok (.aload_n 1, 1) := by decide +kernel
theorem dL_law_719 : decode cL_law 719 = .ok (.invokevirtual 96, 3) := by decide +kernel
theorem dL_law_722 : decode cL_law 722 = .ok (.aload_n 2, 1) := by decide +kernel
theorem dL_law_723 : decode cL_law 723 = .ok (.invokevirtual 99, 3) := by decide +kernel
theorem dL_law_726 : decode cL_law 726 = .ok (.if_icmp .eq 223, 3) := by decide +kernel
theorem dL_law_729 : decode cL_law 729 = .ok (.iconst 0, 1) := by decide +kernel
theorem dL_law_730 : decode cL_law 730 = .ok (.ireturn, 1) := by decide +kernel
theorem dL_law_731 : decode cL_law 731 = .ok (.aload_n 1, 1) := by decide +kernel
theorem dL_law_732 : decode cL_law 732 = .ok (.aload_n 0, 1) := by decide +kernel
theorem dL_law_733 : decode cL_law 733 = .ok (.iload_n 3, 1) := by decide +kernel
theorem dL_law_734 : decode cL_law 734 = .ok (.iconst 1, 1) := by decide +kernel
theorem dL_law_735 : decode cL_law 735 = .ok (.iadd, 1) := by decide +kernel
theorem dL_law_736 : decode cL_law 736 = .ok (.iaload, 1) := by decide +kernel
theorem dL_law_737 : decode cL_law 737 = .ok (.invokevirtual 100, 3) := by decide +kernel
theorem dL_law_740 : decode cL_law 740 = .ok (.aload_n 2, 1) := by decide +kernel
theorem dL_law_741 : decode cL_law 741 = .ok (.aload_n 0, 1) := by decide +kernel
theorem dL_law_742 : decode cL_law 742 = .ok (.iload_n 3, 1) := by decide +kernel
theorem dL_law_743 : decode cL_law 743 = .ok (.iconst 1, 1) := by decide +kernel
theorem dL_law_744 : decode cL_law 744 = .ok (.iadd, 1) := by decide +kernel
theorem dL_law_745 : decode cL_law 745 = .ok (.iaload, 1) := by decide +kernel
theorem dL_law_746 : decode cL_law 746 = .ok (.invokevirtual 104, 3) := by decide +kernel
theorem dL_law_749 : decode cL_law 749 = .ok (.lcmp, 1) := by decide +kernel
theorem dL_law_750 : decode cL_law 750 = .ok (.ifCond .eq 199, 3) := by decide +kernel
theorem dL_law_753 : decode cL_law 753 = .ok (.iconst 0, 1) := by decide +kernel
theorem dL_law_754 : decode cL_law 754 = .ok (.ireturn, 1) := by decide +kernel
theorem dL_law_755 : decode cL_law 755 = .ok (.aload_n 1, 1) := by decide +kernel
theorem dL_law_756 : decode cL_law 756 = .ok (.aload_n 0, 1) := by decide +kernel
theorem dL_law_757 : decode cL_law 757 = .ok (.iload_n 3, 1) := by decide +kernel
theorem dL_law_758 : decode cL_law 758 = .ok (.iconst 1, 1) := by decide +kernel
theorem dL_law_759 : decode cL_law 759 = .ok (.iadd, 1) := by decide +kernel
theorem dL_law_760 : decode cL_law 760 = .ok (.iaload, 1) := by decide +kernel
theorem dL_law_761 : decode cL_law 761 = .ok (.invokevirtual 105, 3) := by decide +kernel
theorem dL_law_764 : decode cL_law 764 = .ok (.aload_n 2, 1) := by decide +kernel
theorem dL_law_765 : decode cL_law 765 = .ok (.aload_n 0, 1) := by decide +kernel
theorem dL_law_766 : decode cL_law 766 = .ok (.iload_n 3, 1) := by decide +kernel
theorem dL_law_767 : decode cL_law 767 = .ok (.iconst 1, 1) := by decide +kernel
theorem dL_law_768 : decode cL_law 768 = .ok (.iadd, 1) := by decide +kernel
theorem dL_law_769 : decode cL_law 769 = .ok (.iaload, 1) := by decide +kernel
theorem dL_law_770 : decode cL_law 770 = .ok (.invokevirtual 108, 3) := by decide +kernel
theorem dL_law_773 : decode cL_law 773 = .ok (.if_icmp .eq 176, 3) := by decide +kernel
theorem dL_law_776 : decode cL_law 776 = .ok (.iconst 0, 1) := by decide +kernel
theorem dL_law_777 : decode cL_law 777 = .ok (.ireturn, 1) := by decide +kernel
theorem dL_law_778 : decode cL_law 778 = .ok (.aload_n 1, 1) := by decide +kernel
theorem dL_law_779 : decode cL_law 779 = .ok (.aload_n 0, 1) := by decide +kernel
theorem dL_law_780 : decode cL_law 780 = .ok (.iload_n 3, 1) := by decide +kernel
theorem dL_law_781 : decode cL_law 781 = .ok (.iconst 1, 1) := by decide +kernel
theorem dL_law_782 : decode cL_law 782 = .ok (.iadd, 1) := by decide +kernel
theorem dL_law_783 : decode cL_law 783 = .ok (.iaload, 1) := by decide +kernel
theorem dL_law_784 : decode cL_law 784 = .ok (.aload_n 0, 1) := by decide +kernel
theorem dL_law_785 : decode cL_law 785 = .ok (.iload_n 3, 1) := by decide +kernel
theorem dL_law_786 : decode cL_law 786 = .ok (.iconst 2, 1) := by decide +kernel
theorem dL_law_787 : decode cL_law 787 = .ok (.iadd, 1) := by decide +kernel
theorem dL_law_788 : decode cL_law 788 = .ok (.iaload, 1) := by decide +kernel
theorem dL_law_789 : decode cL_law 789 = .ok (.invokevirtual 109, 3) := by decide +kernel
theorem dL_law_792 : decode cL_law 792 = .ok (.aload_n 2, 1) := by decide +kernel
theorem dL_law_793 : decode cL_law 793 = .ok (.aload_n 0, 1) := by decide +kernel
theorem dL_law_794 : decode cL_law 794 = .ok (.iload_n 3, 1) := by decide +kernel
theorem dL_law_795 : decode cL_law 795 = .ok (.iconst 1, 1) := by decide +kernel
theorem dL_law_796 : decode cL_law 796 = .ok (.iadd, 1) := by decide +kernel
theorem dL_law_797 : decode cL_law 797 = .ok (.iaload, 1) := by decide +kernel
theorem dL_law_798 : decode cL_law 798 = .ok (.aload_n 0, 1) := by decide +kernel
theorem dL_law_799 : decode cL_law 799 = .ok (.iload_n 3, 1) := by decide +kernel
theorem dL_law_800 : decode cL_law 800 = .ok (.iconst 2, 1) := by decide +kernel
theorem dL_law_801 : decode cL_law 801 = .ok (.iadd, 1) := by decide +kernel
theorem dL_law_802 : decode cL_law 802 = .ok (.iaload, 1) := by decide +kernel
theorem dL_law_803 : decode cL_law 803 = .ok (.invokevirtual 112, 3) := by decide +kernel
theorem dL_law_806 : decode cL_law 806 = .ok (.if_icmp .eq 143, 3) := by decide +kernel
theorem dL_law_809 : decode cL_law 809 = .ok (.iconst 0, 1) := by decide +kernel
theorem dL_law_810 : decode cL_law 810 = .ok (.ireturn, 1) := by decide +kernel
theorem dL_law_811 : decode cL_law 811 = .ok (.aload_n 1, 1) := by decide +kernel
theorem dL_law_812 : decode cL_law 812 = .ok (.aload_n 0, 1) := by decide +kernel
theorem dL_law_813 : decode cL_law 813 = .ok (.iload_n 3, 1) := by decide +kernel
theorem dL_law_814 : decode cL_law 814 = .ok (.iconst 1, 1) := by decide +kernel
theorem dL_law_815 : decode cL_law 815 = .ok (.iadd, 1) := by decide +kernel
theorem dL_law_816 : decode cL_law 816 = .ok (.iaload, 1) := by decide +kernel
theorem dL_law_817 : decode cL_law 817 = .ok (.aload_n 0, 1) := by decide +kernel
theorem dL_law_818 : decode cL_law 818 = .ok (.iload_n 3, 1) := by decide +kernel
theorem dL_law_819 : decode cL_law 819 = .ok (.iconst 2, 1) := by decide +kernel
theorem dL_law_820 : decode cL_law 820 = .ok (.iadd, 1) := by decide +kernel
theorem dL_law_821 : decode cL_law 821 = .ok (.iaload, 1) := by decide +kernel
theorem dL_law_822 : decode cL_law 822 = .ok (.aload_n 0, 1) := by decide +kernel
theorem dL_law_823 : decode cL_law 823 = .ok (.iload_n 3, 1) := by decide +kernel
theorem dL_law_824 : decode cL_law 824 = .ok (.iconst 3, 1) := by decide +kernel
theorem dL_law_825 : decode cL_law 825 = .ok (.iadd, 1) := by decide +kernel
theorem dL_law_826 : decode cL_law 826 = .ok (.iaload, 1) := by decide +kernel
theorem dL_law_827 : decode cL_law 827 = .ok (.invokevirtual 113, 3) := by decide +kernel
theorem dL_law_830 : decode cL_law 830 = .ok (.aload_n 2, 1) := by decide +kernel
theorem dL_law_831 : decode cL_law 831 = .ok (.aload_n 0, 1) := by decide +kernel
theorem dL_law_832 : decode cL_law 832 = .ok (.iload_n 3, 1) := by decide +kernel
theorem dL_law_833 : decode cL_law 833 = .ok (.iconst 1, 1) := by decide +kernel
theorem dL_law_834 : decode cL_law 834 = .ok (.iadd, 1) := by decide +kernel
theorem dL_law_835 : decode cL_law 835 = .ok (.iaload, 1) := by decide +kernel
theorem dL_law_836 : decode cL_law 836 = .ok (.aload_n 0, 1) := by decide +kernel
theorem dL_law_837 : decode cL_law 837 = .ok (.iload_n 3, 1) := by decide +kernel
theorem dL_law_838 : decode cL_law 838 = .ok (.iconst 2, 1) := by decide +kernel
theorem dL_law_839 : decode cL_law 839 = .ok (.iadd, 1) := by decide +kernel
theorem dL_law_840 : decode cL_law 840 = .ok (.iaload, 1) := by decide +kernel
theorem dL_law_841 : decode cL_law 841 = .ok (.aload_n 0, 1) := by decide +kernel
theorem dL_law_842 : decode cL_law 842 = .ok (.iload_n 3, 1) := by decide +kernel
theorem dL_law_843 : decode cL_law 843 = .ok (.iconst 3, 1) := by decide +kernel
theorem dL_law_844 : decode cL_law 844 = .ok (.iadd, 1) := by decide +kernel
theorem dL_law_845 : decode cL_law 845 = .ok (.iaload, 1) := by decide +kernel
theorem dL_law_846 : decode cL_law 846 = .ok (.invokevirtual 117, 3) := by decide +kernel
theorem dL_law_849 : decode cL_law 849 = .ok (.if_icmp .eq 100, 3) := by decide +kernel
theorem dL_law_852 : decode cL_law 852 = .ok (.iconst 0, 1) := by decide +kernel
theorem dL_law_853 : decode cL_law 853 = .ok (.ireturn, 1) := by decide +kernel
theorem dL_law_854 : decode cL_law 854 = .ok (.aload_n 1, 1) := by decide +kernel
theorem dL_law_855 : decode cL_law 855 = .ok (.invokevirtual 118, 3) := by decide +kernel
theorem dL_law_858 : decode cL_law 858 = .ok (.aload_n 2, 1) := by decide +kernel
theorem dL_law_859 : decode cL_law 859 = .ok (.invokevirtual 121, 3) := by decide +kernel
theorem dL_law_862 : decode cL_law 862 = .ok (.if_icmp .eq 87, 3) := by decide +kernel
theorem dL_law_865 : decode cL_law 865 = .ok (.iconst 0, 1) := by decide +kernel
theorem dL_law_866 : decode cL_law 866 = .ok (.ireturn, 1) := by decide +kernel
theorem dL_law_867 : decode cL_law 867 = .ok (.aload_n 1, 1) := by decide +kernel
theorem dL_law_868 : decode cL_law 868 = .ok (.aload_n 0, 1) := by decide +kernel
theorem dL_law_869 : decode cL_law 869 = .ok (.iload_n 3, 1) := by decide +kernel
theorem dL_law_870 : decode cL_law 870 = .ok (.iconst 1, 1) := by decide +kernel
theorem dL_law_871 : decode cL_law 871 = .ok (.iadd, 1) := by decide +kernel
theorem dL_law_872 : decode cL_law 872 = .ok (.iaload, 1) := by decide +kernel
theorem dL_law_873 : decode cL_law 873 = .ok (.aload_n 0, 1) := by decide +kernel
theorem dL_law_874 : decode cL_law 874 = .ok (.iload_n 3, 1) := by decide +kernel
theorem dL_law_875 : decode cL_law 875 = .ok (.iconst 2, 1) := by decide +kernel
theorem dL_law_876 : decode cL_law 876 = .ok (.iadd, 1) := by decide +kernel
theorem dL_law_877 : decode cL_law 877 = .ok (.iaload, 1) := by decide +kernel
theorem dL_law_878 : decode cL_law 878 = .ok (.invokevirtual 122, 3) := by decide +kernel
theorem dL_law_881 : decode cL_law 881 = .ok (.aload_n 2, 1) := by decide +kernel
theorem dL_law_882 : decode cL_law 882 = .ok (.aload_n 0, 1) := by decide +kernel
theorem dL_law_883 : decode cL_law 883 = .ok (.iload_n 3, 1) := by decide +kernel
theorem dL_law_884 : decode cL_law 884 = .ok (.iconst 1, 1) := by decide +kernel
theorem dL_law_885 : decode cL_law 885 = .ok (.iadd, 1) := by decide +kernel
theorem dL_law_886 : decode cL_law 886 = .ok (.iaload, 1) := by decide +kernel
theorem dL_law_887 : decode cL_law 887 = .ok (.aload_n 0, 1) := by decide +kernel
theorem dL_law_888 : decode cL_law 888 = .ok (.iload_n 3, 1) := by decide +kernel
theorem dL_law_889 : decode cL_law 889 = .ok (.iconst 2, 1) := by decide +kernel
theorem dL_law_890 : decode cL_law 890 = .ok (.iadd, 1) := by decide +kernel
theorem dL_law_891 : decode cL_law 891 = .ok (.iaload, 1) := by decide +kernel
theorem dL_law_892 : decode cL_law 892 = .ok (.invokevirtual 125, 3) := by decide +kernel
theorem dL_law_895 : decode cL_law 895 = .ok (.if_icmp .eq 54, 3) := by decide +kernel
theorem dL_law_898 : decode cL_law 898 = .ok (.iconst 0, 1) := by decide +kernel
theorem dL_law_899 : decode cL_law 899 = .ok (.ireturn, 1) := by decide +kernel
theorem dL_law_900 : decode cL_law 900 = .ok (.aload_n 1, 1) := by decide +kernel
theorem dL_law_901 : decode cL_law 901 = .ok (.invokevirtual 126, 3) := by decide +kernel
theorem dL_law_904 : decode cL_law 904 = .ok (.aload_n 2, 1) := by decide +kernel
theorem dL_law_905 : decode cL_law 905 = .ok (.invokevirtual 129, 3) := by decide +kernel
theorem dL_law_908 : decode cL_law 908 = .ok (.if_icmp .eq 41, 3) := by decide +kernel
theorem dL_law_911 : decode cL_law 911 = .ok (.iconst 0, 1) := by decide +kernel
theorem dL_law_912 : decode cL_law 912 = .ok (.ireturn, 1) := by decide +kernel
theorem dL_law_913 : decode cL_law 913 = .ok (.aload_n 1, 1) := by decide +kernel
theorem dL_law_914 : decode cL_law 914 = .ok (.invokevirtual 130, 3) := by decide +kernel
theorem dL_law_917 : decode cL_law 917 = .ok (.aload_n 2, 1) := by decide +kernel
theorem dL_law_918 : decode cL_law 918 = .ok (.invokevirtual 133, 3) := by decide +kernel
theorem dL_law_921 : decode cL_law 921 = .ok (.if_icmp .eq 28, 3) := by decide +kernel
theorem dL_law_924 : decode cL_law 924 = .ok (.iconst 0, 1) := by decide +kernel
theorem dL_law_925 : decode cL_law 925 = .ok (.ireturn, 1) := by decide +kernel
theorem dL_law_926 : decode cL_law 926 = .ok (.aload_n 1, 1) := by decide +kernel
theorem dL_law_927 : decode cL_law 927 = .ok (.aload_n 0, 1) := by decide +kernel
theorem dL_law_928 : decode cL_law 928 = .ok (.iload_n 3, 1) := by decide +kernel
theorem dL_law_929 : decode cL_law 929 = .ok (.iconst 1, 1) := by decide +kernel
theorem dL_law_930 : decode cL_law 930 = .ok (.iadd, 1) := by decide +kernel
theorem dL_law_931 : decode cL_law 931 = .ok (.iaload, 1) := by decide +kernel
theorem dL_law_932 : decode cL_law 932 = .ok (.invokevirtual 134, 3) := by decide +kernel
theorem dL_law_935 : decode cL_law 935 = .ok (.aload_n 2, 1) := by decide +kernel
theorem dL_law_936 : decode cL_law 936 = .ok (.aload_n 0, 1) := by decide +kernel
theorem dL_law_937 : decode cL_law 937 = .ok (.iload_n 3, 1) := by decide +kernel
theorem dL_law_938 : decode cL_law 938 = .ok (.iconst 1, 1) := by decide +kernel
theorem dL_law_939 : decode cL_law 939 = .ok (.iadd, 1) := by decide +kernel
theorem dL_law_940 : decode cL_law 940 = .ok (.iaload, 1) := by decide +kernel
theorem dL_law_941 : decode cL_law 941 = .ok (.invokevirtual 137, 3) := by decide +kernel
theorem dL_law_944 : decode cL_law 944 = .ok (.if_icmp .eq 5, 3) := by decide +kernel
theorem dL_law_947 : decode cL_law 947 = .ok (.iconst 0, 1) := by decide +kernel
theorem dL_law_948 : decode cL_law 948 = .ok (.ireturn, 1) := by decide +kernel
theorem dL_law_949 : decode cL_law 949 = .ok (.iinc 3 6, 3) := by decide +kernel
theorem dL_law_952 : decode cL_law 952 = .ok (.goto (-934), 3) := by decide +kernel
theorem dL_law_955 : decode cL_law 955 = .ok (.iconst 1, 1) := by decide +kernel
theorem dL_law_956 : decode cL_law 956 = .ok (.ireturn, 1) := by decide +kernel
end
section
/-! numbers: an int is z of an Int, a long is zl of one -/
def z (x : Int) : Int32 := Int32.ofInt x
def zl (x : Int) : Int64 := Int64.ofInt x
/-- what an int of that Int shows -/
def w32 (x : Int) : Int := (x + 2147483648) % 4294967296 - 2147483648
def w64 (x : Int) : Int := (x + 9223372036854775808) % 18446744073709551616 - 9223372036854775808
theorem bmod32 (x : Int) : x.bmod 4294967296 = w32 x := by unfold w32; rw [Int.bmod_def]; split <;> omega
theorem bmod64 (x : Int) : x.bmod 18446744073709551616 = w64 x := by unfold w64; rw [Int.bmod_def]; split <;> omega
theorem z_toInt (x : Int) : (z x).toInt = w32 x := by rw [← bmod32]; exact Int32.toInt_ofInt
theorem zl_toInt (x : Int) : (zl x).toInt = w64 x := by rw [← bmod64]; exact Int64.toInt_ofInt
theorem z_self (v : Int32) : z v.toInt = v := Int32.ofInt_toInt v
theorem zl_self (v : Int64) : zl v.toInt = v := Int64.ofInt_toInt v
theorem w32_id {x : Int} (h1 : -2147483648 ≤ x) (h2 : x < 2147483648) : w32 x = x := by unfold w32; omega
theorem w64_id {x : Int} (h1 : -9223372036854775808 ≤ x) (h2 : x < 9223372036854775808) : w64 x = x := by unfold w64; omega
theorem w32_lo (x : Int) : -2147483648 ≤ w32 x := by unfold w32; omega
theorem w32_hi (x : Int) : w32 x < 2147483648 := by unfold w32; omega
theorem z_eq_iff {x y : Int} : z x = z y ↔ w32 x = w32 y := by rw [← Int32.toInt_inj, z_toInt, z_toInt]
theorem zl_eq_iff {x y : Int} : zl x = zl y ↔ w64 x = w64 y := by rw [← Int64.toInt_inj, zl_toInt, zl_toInt]
theorem z_lt_iff {x y : Int} : z x < z y ↔ w32 x < w32 y := by rw [Int32.lt_iff_toInt_lt, z_toInt, z_toInt]
theorem z_le_iff {x y : Int} : z x ≤ z y ↔ w32 x ≤ w32 y := by rw [Int32.le_iff_toInt_le, z_toInt, z_toInt]
theorem zl_lt_iff {x y : Int} : zl x < zl y ↔ w64 x < w64 y := by rw [Int64.lt_iff_toInt_lt, zl_toInt, zl_toInt]
theorem z_w (x : Int) : z (w32 x) = z x := by rw [z_eq_iff]; unfold w32; omega
theorem zl_w (x : Int) : zl (w64 x) = zl x := by rw [zl_eq_iff]; unfold w64; omega
theorem z_add (x y : Int) : z x + z y = z (x + y) := (Int32.ofInt_add x y).symm
theorem z_sub (x y : Int) : z x - z y = z (x - y) := (Int32.ofInt_sub x y).symm
theorem z_mul (x y : Int) : z x * z y = z (x * y) := (Int32.ofInt_mul x y).symm
theorem z_neg (x : Int) : - z x = z (-x) := (Int32.ofInt_neg x).symm
theorem zl_add (x y : Int) : zl x + zl y = zl (x + y) := (Int64.ofInt_add x y).symm
theorem zl_sub (x y : Int) : zl x - zl y = zl (x - y) := (Int64.ofInt_sub x y).symm
theorem zl_mul (x y : Int) : zl x * zl y = zl (x * y) := (Int64.ofInt_mul x y).symm
theorem zl_neg (x : Int) : - zl x = zl (-x) := (Int64.ofInt_neg x).symm
theorem z_of (v : Int32) : ∃ x : Int, v = z x ∧ -2147483648 ≤ x ∧ x < 2147483648 := ⟨v.toInt, (z_self v).symm, by have := v.le_toInt; simpa using this, by have := v.toInt_lt; simpa using this⟩
def band (x y : Int) : Int := (z x &&& z y).toInt
def bor (x y : Int) : Int := (z x ||| z y).toInt
def bxor (x y : Int) : Int := (z x ^^^ z y).toInt
def bshl (x y : Int) : Int := (z x <<< z y).toInt
def bshr (x y : Int) : Int := (z x >>> z y).toInt
def bushr (x y : Int) : Int := ((z x).toUInt32 >>> ((z y).toUInt32 &&& Int32.toUInt32 31)).toInt32.toInt
def bdiv (x y : Int) : Int := (z x / z y).toInt
def brem (x y : Int) : Int := (z x - z x / z y * z y).toInt
def bi2b (x : Int) : Int := (z x).toInt8.toInt32.toInt
def bi2c (x : Int) : Int := ((z x).toUInt32 % 65536).toInt32.toInt
def bland (x y : Int) : Int := (zl x &&& zl y).toInt
def blor (x y : Int) : Int := (zl x ||| zl y).toInt
def blshl (x y : Int) : Int := (zl x <<< ((z y).toInt64 &&& 63)).toInt
def bldiv (x y : Int) : Int := (zl x / zl y).toInt
def blrem (x y : Int) : Int := (zl x - zl x / zl y * zl y).toInt
theorem z_band (x y : Int) : z x &&& z y = z (band x y) := (z_self _).symm
theorem z_bor (x y : Int) : z x ||| z y = z (bor x y) := (z_self _).symm
theorem z_bxor (x y : Int) : z x ^^^ z y = z (bxor x y) := (z_self _).symm
theorem z_bshl (x y : Int) : z x <<< z y = z (bshl x y) := (z_self _).symm
theorem z_bshr (x y : Int) : z x >>> z y = z (bshr x y) := (z_self _).symm
theorem z_i2l (x : Int) : (z x).toInt64 = zl (w32 x) := by rw [← Int64.toInt_inj, Int32.toInt_toInt64, z_toInt, zl_toInt]; unfold w64 w32; omega
theorem zl_l2i (x : Int) : (zl x).toInt32 = z x := Int64.toInt32_ofInt
def up {α : Type} (f : Nat → α) (k : Nat) (v : α) : Nat → α := fun j => if j = k then v else f j
theorem up_same {α : Type} (f : Nat → α) (k : Nat) (v : α) : up f k v k = v := if_pos rfl
theorem up_ne {α : Type} (f : Nat → α) {k j : Nat} (v : α) (h : j ≠ k) : up f k v j = f j := if_neg h
theorem up_up {α : Type} (f : Nat → α) (k : Nat) (v w : α) : up (up f k v) k w = up f k w := by funext j; unfold up; split <;> rfl
theorem up_self {α : Type} (f : Nat → α) (k : Nat) : up f k (f k) = f := by funext j; unfold up; split <;> simp_all
end
section
/-! the small machine: ids instead of addresses, Ints instead of ints -/
abbrev MT : Type := Nat → Nat → Int
abbrev ST : Type := (Nat → Nat × Nat) × Nat × Nat
abbrev ET : Type := Nat × List (Nat × Nat) × List (List Nat)
abbrev GT : Type := Nat × (Nat → Nat) × (Nat → ClassId) × va_G × Heap
def ad (G : GT) (a : Nat) : Nat := bif Nat.blt a 16 then G.2.1 a else G.1 + (a - 16)
def tr (G : GT) : Value → Value
  | .ref a => bif Nat.beq a 0 then .null else .ref (ad G a)
  | v => v
def shp (E : ET) (S : ST) (a : Nat) : Nat × Nat := bif Nat.blt a E.1 then E.2.1.getD a (0, 0) else S.1 a
/-- a reference that never changes: the id it holds (0: none such) -/
def fin (E : ET) (a j : Nat) : Nat := (E.2.2.getD a []).getD j 0
def ek : Nat → FieldType
  | 2 => .int
  | 3 => .byte
  | 4 => .boolean
  | 5 => .long
  | _ => .object RX10
def tyC : Nat → Nat → FieldType
  | 0 => tyX0
  | 1 => tyX1
  | 2 => tyX2
  | 3 => tyX3
  | 4 => tyX4
  | 5 => tyX5
  | 6 => tyX6
  | 7 => tyX7
  | 8 => tyX8
  | 9 => tyX9
  | 10 => tyX10
  | 11 => tyX11
  | _ => tyX12
def fval (G : GT) (ty : FieldType) (x : Int) : Value := match ty with
  | .long => .long (zl x)
  | .object _ => tr G (.ref x.toNat)
  | .array _ => tr G (.ref x.toNat)
  | _ => .int (z x)
def celA (G : GT) (sh : Nat × Nat) (f : Nat → Int) (H : Heap) (q : Nat) : Prop := match sh.1 with
  | 0 => False
  | 1 => ∃ r : vw_C, vwCl[sh.2]? = some r ∧ t_OB q (G.2.2.2.1.1 sh.2) r.2.2 (G.2.2.2.1.2 sh.2) H (fun j => fval G (tyC sh.2 j) (f j))
  | k + 2 => H[q]? = some (arrV (G.2.2.1 (k + 2)) sh.2 (fun j => fval G (ek (k + 2)) (f j)))
def Rel (E : ET) (G : GT) (S : ST) (M : MT) (H : Heap) : Prop :=
  16 ≤ S.2.1 ∧ E.1 ≤ S.2.1 ∧ H.size = G.1 + (S.2.1 - 16) ∧ (∀ a, 16 ≤ a → a < S.2.1 → celA G (shp E S a) (M a) H (ad G a)) ∧ (∀ q : Nat, q < G.1 → H[q]? = G.2.2.2.2[q]?) ∧ ∀ a j, fin E a j ≠ 0 → M a j = (fin E a j : Int)
abbrev ctys (G : GT) : List (ClassId × FieldType) := [(G.2.2.1 2, .int), (G.2.2.1 3, .byte), (G.2.2.1 4, .boolean), (G.2.2.1 5, .long), (G.2.2.1 6, .object RX10)]
/-- what is known of the tables and of what was there before -/
def KF (G : GT) (U : State) : Prop := va_K G.2.2.2.1 vwCl (ctys G) U ∧ G.1 = G.2.2.2.2.size ∧ va_Z "WalledIn" "NO_CODE" "[I" (.ref (G.2.1 1)) (fun q => G.1 ≤ q) U G.2.2.2.2 ∧ va_T .int (G.2.1 1) 0 (fun _ => .null) (fun q => G.1 ≤ q) U G.2.2.2.2
abbrev mkV : Value := .retAddr 0
def lvs (G : GT) (n : Nat) (ls : Array Slot) (L : List Value) : Prop := ls.size = n ∧ lv_wf ls ∧ ∀ (i : Nat) (v : Value), L[i]? = some v → v ≠ mkV → ls[i]? = some (.val (tr G v))
abbrev XT := Program × Launch × Env × Room × State × MethodId × Array Value × List Frame × Method × Code × (State → Prop) × GT × Nat × Nat
def Wp (E : ET) (X : XT) (pc : Nat) (L st : List Value) (S : ST) (M : MT) : Prop := match X with
  | (p, l, e, R, s, m, args, below, meth, c, Q, G, z0, l0) => ∀ (ls : Array Slot) (H : Heap) (locs : List Loc), lvs G c.maxLocals ls L → Rel E G S M H → (∀ q ∈ locs, G.1 ≤ q.base) → z0 ≤ S.2.1 ∧ l0 ≤ S.2.2 →
    W p l e R s m args below meth c H locs (S.2.1 - z0) (S.2.2 - l0) Q (F0 m pc ls (st.map (tr G)))
def Qp (E : ET) (G : GT) (P : Option Value → ST → MT → Prop) : Array Value → State → Outcome → State → Prop := fun _ _ o t => ∃ r S' M', o = .returned (r.map (tr G)) ∧ P r S' M' ∧ Rel E G S' M' t.heap
def Ok (E : ET) (X : XT) (y : MethodName) (cc : ByteArray) (nL : Nat) (ret : Option FieldType) (rm : Room) (P : Option Value → ST → MT → Prop) (S0 : ST) : Prop := match X with
  | (p, l, e, R, s, m, args, below, meth, c, Q, G, z0, l0) => p.tables.exec = Jvm.exec ∧ c.code = cc ∧ c.maxLocals = nL ∧ s.vm.findClass y.cls = some m.cls ∧ (∀ w ∈ lw_tbl, w.before args s = true) ∧ KF G s ∧ R = rm ∧ meth.sig.returnType = ret ∧ meth.locks = false ∧ meth.name = y.name ∧ Q = MQ below (Qp E G P) args s rm.cells rm.slots (fun q => G.1 ≤ q) ∧ z0 = S0.2.1 ∧ l0 = S0.2.2
def Pc0 (E : ET) (G : GT) (A : List Value) (S : ST) (M : MT) : Array Value → State → Prop := fun a U => a = (A.map (tr G)).toArray ∧ Rel E G S M U.heap ∧ KF G U
def Ct (E : ET) (y : MethodName) (cc : ByteArray) (nL : Nat) (ret : Option FieldType) (rm : Room) (A : List Value) (S : ST) (M : MT) (P : Option Value → ST → MT → Prop) : Prop :=
  ∀ (l : Launch) (G : GT), Met l y (.code y cc nL ret :: lw_tbl) rm (Pc0 E G A S M) (Qp E G P) rm.cells rm.slots (fun q => G.1 ≤ q)
def lent : List Value → List Value
  | [] => []
  | v :: A => bif v.category == 2 then v :: mkV :: lent A else v :: lent A
theorem tr_cat (G : GT) (v : Value) : (tr G v).category = v.category := by
  cases v <;> simp only [tr, Value.category]
  rename_i a
  cases h : Nat.beq a 0 <;> rfl
theorem KF.moved {G : GT} {u U : State} (hvm : u.vm.Alike U.vm) (h : KF G u) : KF G U := by
  obtain ⟨h1, h2, h3, h4⟩ := h
  exact ⟨h1.moved hvm, h2, h3.moved hvm, h4.moved hvm⟩
end
