theorem dX0_init_0 : decode cX0_init 0 = .ok (.aload_n 0, 1) := by decide +kernel
theorem dX0_init_1 : decode cX0_init 1 = .ok (.invokespecial 3, 3) := by decide +kernel
theorem dX0_init_4 : decode cX0_init 4 = .ok (.aload_n 0, 1) := by decide +kernel
theorem dX0_init_5 : decode cX0_init 5 = .ok (.sipush 1024, 3) := by decide +kernel
theorem dX0_init_8 : decode cX0_init 8 = .ok (.newarray .int, 2) := by decide +kernel
theorem dX0_init_10 : decode cX0_init 10 = .ok (.putfield 9, 3) := by decide +kernel
theorem dX0_init_13 : decode cX0_init 13 = .ok (.aload_n 0, 1) := by decide +kernel
theorem dX0_init_14 : decode cX0_init 14 = .ok (.sipush 1024, 3) := by decide +kernel
theorem dX0_init_17 : decode cX0_init 17 = .ok (.newarray .int, 2) := by decide +kernel
theorem dX0_init_19 : decode cX0_init 19 = .ok (.putfield 15, 3) := by decide +kernel
theorem dX0_init_22 : decode cX0_init 22 = .ok (.return_, 1) := by decide +kernel
theorem dX0_fewestReturns_0 : decode cX0_fewestReturns 0 = .ok (.iconst 1, 1) := by decide +kernel
theorem dX0_fewestReturns_1 : decode cX0_fewestReturns 1 = .ok (.aload_n 1, 1) := by decide +kernel
theorem dX0_fewestReturns_2 : decode cX0_fewestReturns 2 = .ok (.getfield 18, 3) := by decide +kernel
theorem dX0_fewestReturns_5 : decode cX0_fewestReturns 5 = .ok (.ishl, 1) := by decide +kernel
theorem dX0_fewestReturns_6 : decode cX0_fewestReturns 6 = .ok (.iconst 1, 1) := by decide +kernel
theorem dX0_fewestReturns_7 : decode cX0_fewestReturns 7 = .ok (.isub, 1) := by decide +kernel
theorem dX0_fewestReturns_8 : decode cX0_fewestReturns 8 = .ok (.istore_n 2, 1) := by decide +kernel
theorem dX0_fewestReturns_9 : decode cX0_fewestReturns 9 = .ok (.aload_n 0, 1) := by decide +kernel
theorem dX0_fewestReturns_10 : decode cX0_fewestReturns 10 = .ok (.getfield 9, 3) := by decide +kernel
theorem dX0_fewestReturns_13 : decode cX0_fewestReturns 13 = .ok (.iconst 0, 1) := by decide +kernel
theorem dX0_fewestReturns_14 : decode cX0_fewestReturns 14 = .ok (.iconst 0, 1) := by decide +kernel
theorem dX0_fewestReturns_15 : decode cX0_fewestReturns 15 = .ok (.iastore, 1) := by decide +kernel
theorem dX0_fewestReturns_16 : decode cX0_fewestReturns 16 = .ok (.aload_n 0, 1) := by decide +kernel
theorem dX0_fewestReturns_17 : decode cX0_fewestReturns 17 = .ok (.getfield 15, 3) := by decide +kernel
theorem dX0_fewestReturns_20 : decode cX0_fewestReturns 20 = .ok (.iconst 0, 1) := by decide +kernel
theorem dX0_fewestReturns_21 : decode cX0_fewestReturns 21 = .ok (.iconst 0, 1) := by decide +kernel
theorem dX0_fewestReturns_22 : decode cX0_fewestReturns 22 = .ok (.iastore, 1) := by decide +kernel
theorem dX0_fewestReturns_23 : decode cX0_fewestReturns 23 = .ok (.iconst 1, 1) := by decide +kernel
theorem dX0_fewestReturns_24 : decode cX0_fewestReturns 24 = .ok (.istore_n 3, 1) := by decide +kernel
theorem dX0_fewestReturns_25 : decode cX0_fewestReturns 25 = .ok (.iload_n 3, 1) := by decide +kernel
theorem dX0_fewestReturns_26 : decode cX0_fewestReturns 26 = .ok (.iload_n 2, 1) := by decide +kernel
theorem dX0_fewestReturns_27 : decode cX0_fewestReturns 27 = .ok (.if_icmp .gt 69, 3) := by decide +kernel
theorem dX0_fewestReturns_30 : decode cX0_fewestReturns 30 = .ok (.iload_n 3, 1) := by decide +kernel
theorem dX0_fewestReturns_31 : decode cX0_fewestReturns 31 = .ok (.invokestatic 24, 3) := by decide +kernel
theorem dX0_fewestReturns_34 : decode cX0_fewestReturns 34 = .ok (.istore 4, 2) := by decide +kernel
theorem dX0_fewestReturns_36 : decode cX0_fewestReturns 36 = .ok (.aload_n 0, 1) := by decide +kernel
theorem dX0_fewestReturns_37 : decode cX0_fewestReturns 37 = .ok (.getfield 9, 3) := by decide +kernel
theorem dX0_fewestReturns_40 : decode cX0_fewestReturns 40 = .ok (.iload_n 3, 1) := by decide +kernel
theorem dX0_fewestReturns_41 : decode cX0_fewestReturns 41 = .ok (.aload_n 0, 1) := by decide +kernel
theorem dX0_fewestReturns_42 : decode cX0_fewestReturns 42 = .ok (.getfield 9, 3) := by decide +kernel
theorem dX0_fewestReturns_45 : decode cX0_fewestReturns 45 = .ok (.iload_n 3, 1) := by decide +kernel
theorem dX0_fewestReturns_46 : decode cX0_fewestReturns 46 = .ok (.iload_n 3, 1) := by decide +kernel
theorem dX0_fewestReturns_47 : decode cX0_fewestReturns 47 = .ok (.iconst 1, 1) := by decide +kernel
theorem dX0_fewestReturns_48 : decode cX0_fewestReturns 48 = .ok (.isub, 1) := by decide +kernel
theorem dX0_fewestReturns_49 : decode cX0_fewestReturns 49 = .ok (.iand, 1) := by decide +kernel
theorem dX0_fewestReturns_50 : decode cX0_fewestReturns 50 = .ok (.iaload, 1) := by decide +kernel
theorem dX0_fewestReturns_51 : decode cX0_fewestReturns 51 = .ok (.aload_n 1, 1) := by decide +kernel
theorem dX0_fewestReturns_52 : decode cX0_fewestReturns 52 = .ok (.getfield 30, 3) := by decide +kernel
theorem dX0_fewestReturns_55 : decode cX0_fewestReturns 55 = .ok (.iload 4, 2) := by decide +kernel
theorem dX0_fewestReturns_57 : decode cX0_fewestReturns 57 = .ok (.iaload, 1) := by decide +kernel
theorem dX0_fewestReturns_58 : decode cX0_fewestReturns 58 = .ok (.iadd, 1) := by decide +kernel
theorem dX0_fewestReturns_59 : decode cX0_fewestReturns 59 = .ok (.iastore, 1) := by decide +kernel
theorem dX0_fewestReturns_60 : decode cX0_fewestReturns 60 = .ok (.aload_n 0, 1) := by decide +kernel
theorem dX0_fewestReturns_61 : decode cX0_fewestReturns 61 = .ok (.getfield 15, 3) := by decide +kernel
theorem dX0_fewestReturns_64 : decode cX0_fewestReturns 64 = .ok (.iload_n 3, 1) := by decide +kernel
theorem dX0_fewestReturns_65 : decode cX0_fewestReturns 65 = .ok (.aload_n 0, 1) := by decide +kernel
theorem dX0_fewestReturns_66 : decode cX0_fewestReturns 66 = .ok (.iload_n 3, 1) := by decide +kernel
theorem dX0_fewestReturns_67 : decode cX0_fewestReturns 67 = .ok (.aload_n 1, 1) := by decide +kernel
theorem dX0_fewestReturns_68 : decode cX0_fewestReturns 68 = .ok (.getfield 18, 3) := by decide +kernel
theorem dX0_fewestReturns_71 : decode cX0_fewestReturns 71 = .ok (.invokevirtual 33, 3) := by decide +kernel
theorem dX0_fewestReturns_74 : decode cX0_fewestReturns 74 = .ok (.aload_n 0, 1) := by decide +kernel
theorem dX0_fewestReturns_75 : decode cX0_fewestReturns 75 = .ok (.getfield 9, 3) := by decide +kernel
theorem dX0_fewestReturns_78 : decode cX0_fewestReturns 78 = .ok (.iload_n 3, 1) := by decide +kernel
theorem dX0_fewestReturns_79 : decode cX0_fewestReturns 79 = .ok (.iaload, 1) := by decide +kernel
theorem dX0_fewestReturns_80 : decode cX0_fewestReturns 80 = .ok (.ifCond .ne 7, 3) := by decide +kernel
theorem dX0_fewestReturns_83 : decode cX0_fewestReturns 83 = .ok (.iconst 1, 1) := by decide +kernel
theorem dX0_fewestReturns_84 : decode cX0_fewestReturns 84 = .ok (.goto 4, 3) := by decide +kernel
theorem dX0_fewestReturns_87 : decode cX0_fewestReturns 87 = .ok (.iconst 0, 1) := by decide +kernel
theorem dX0_fewestReturns_88 : decode cX0_fewestReturns 88 = .ok (.iadd, 1) := by decide +kernel
theorem dX0_fewestReturns_89 : decode cX0_fewestReturns 89 = .ok (.iastore, 1) := by decide +kernel
theorem dX0_fewestReturns_90 : decode cX0_fewestReturns 90 = .ok (.iinc 3 1, 3) := by decide +kernel
theorem dX0_fewestReturns_93 : decode cX0_fewestReturns 93 = .ok (.goto (-68), 3) := by decide +kernel
theorem dX0_fewestReturns_96 : decode cX0_fewestReturns 96 = .ok (.aload_n 1, 1) := by decide +kernel
theorem dX0_fewestReturns_97 : decode cX0_fewestReturns 97 = .ok (.getfield 18, 3) := by decide +kernel
theorem dX0_fewestReturns_100 : decode cX0_fewestReturns 100 = .ok (.aload_n 0, 1) := by decide +kernel
theorem dX0_fewestReturns_101 : decode cX0_fewestReturns 101 = .ok (.getfield 15, 3) := by decide +kernel
theorem dX0_fewestReturns_104 : decode cX0_fewestReturns 104 = .ok (.iload_n 2, 1) := by decide +kernel
theorem dX0_fewestReturns_105 : decode cX0_fewestReturns 105 = .ok (.iaload, 1) := by decide +kernel
theorem dX0_fewestReturns_106 : decode cX0_fewestReturns 106 = .ok (.isub, 1) := by decide +kernel
theorem dX0_fewestReturns_107 : decode cX0_fewestReturns 107 = .ok (.ireturn, 1) := by decide +kernel
theorem dX0_mostWithoutOne_0 : decode cX0_mostWithoutOne 0 = .ok (.iconst 0, 1) := by decide +kernel
theorem dX0_mostWithoutOne_1 : decode cX0_mostWithoutOne 1 = .ok (.istore_n 3, 1) := by decide +kernel
theorem dX0_mostWithoutOne_2 : decode cX0_mostWithoutOne 2 = .ok (.iconst 0, 1) := by decide +kernel
theorem dX0_mostWithoutOne_3 : decode cX0_mostWithoutOne 3 = .ok (.istore 4, 2) := by decide +kernel
theorem dX0_mostWithoutOne_5 : decode cX0_mostWithoutOne 5 = .ok (.iload 4, 2) := by decide +kernel
theorem dX0_mostWithoutOne_7 : decode cX0_mostWithoutOne 7 = .ok (.iload_n 2, 1) := by decide +kernel
theorem dX0_mostWithoutOne_8 : decode cX0_mostWithoutOne 8 = .ok (.if_icmp .ge 37, 3) := by decide +kernel
theorem dX0_mostWithoutOne_11 : decode cX0_mostWithoutOne 11 = .ok (.iload_n 1, 1) := by decide +kernel
theorem dX0_mostWithoutOne_12 : decode cX0_mostWithoutOne 12 = .ok (.iload 4, 2) := by decide +kernel
theorem dX0_mostWithoutOne_14 : decode cX0_mostWithoutOne 14 = .ok (.ishr, 1) := by decide +kernel
theorem dX0_mostWithoutOne_15 : decode cX0_mostWithoutOne 15 = .ok (.iconst 1, 1) := by decide +kernel
theorem dX0_mostWithoutOne_16 : decode cX0_mostWithoutOne 16 = .ok (.iand, 1) := by decide +kernel
theorem dX0_mostWithoutOne_17 : decode cX0_mostWithoutOne 17 = .ok (.iconst 1, 1) := by decide +kernel
theorem dX0_mostWithoutOne_18 : decode cX0_mostWithoutOne 18 = .ok (.if_icmp .ne 21, 3) := by decide +kernel
theorem dX0_mostWithoutOne_21 : decode cX0_mostWithoutOne 21 = .ok (.iload_n 3, 1) := by decide +kernel
theorem dX0_mostWithoutOne_22 : decode cX0_mostWithoutOne 22 = .ok (.aload_n 0, 1) := by decide +kernel
theorem dX0_mostWithoutOne_23 : decode cX0_mostWithoutOne 23 = .ok (.getfield 15, 3) := by decide +kernel
theorem dX0_mostWithoutOne_26 : decode cX0_mostWithoutOne 26 = .ok (.iload_n 1, 1) := by decide +kernel
theorem dX0_mostWithoutOne_27 : decode cX0_mostWithoutOne 27 = .ok (.iconst 1, 1) := by decide +kernel
theorem dX0_mostWithoutOne_28 : decode cX0_mostWithoutOne 28 = .ok (.iload 4, 2) := by decide +kernel
theorem dX0_mostWithoutOne_30 : decode cX0_mostWithoutOne 30 = .ok (.ishl, 1) := by decide +kernel
theorem dX0_mostWithoutOne_31 : decode cX0_mostWithoutOne 31 = .ok (.iconst (-1), 1) := by decide +kernel
theorem dX0_mostWithoutOne_32 : decode cX0_mostWithoutOne 32 = .ok (.ixor, 1) := by decide +kernel
theorem dX0_mostWithoutOne_33 : decode cX0_mostWithoutOne 33 = .ok (.iand, 1) := by decide +kernel
theorem dX0_mostWithoutOne_34 : decode cX0_mostWithoutOne 34 = .ok (.iaload, 1) := by decide +kernel
theorem dX0_mostWithoutOne_35 : decode cX0_mostWithoutOne 35 = .ok (.invokestatic 37, 3) := by decide +kernel
theorem dX0_mostWithoutOne_38 : decode cX0_mostWithoutOne 38 = .ok (.istore_n 3, 1) := by decide +kernel
theorem dX0_mostWithoutOne_39 : decode cX0_mostWithoutOne 39 = .ok (.iinc 4 1, 3) := by decide +kernel
theorem dX0_mostWithoutOne_42 : decode cX0_mostWithoutOne 42 = .ok (.goto (-37), 3) := by decide +kernel
theorem dX0_mostWithoutOne_45 : decode cX0_mostWithoutOne 45 = .ok (.iload_n 3, 1) := by decide +kernel
theorem dX0_mostWithoutOne_46 : decode cX0_mostWithoutOne 46 = .ok (.ireturn, 1) := by decide +kernel
theorem dX1_init_0 : decode cX1_init 0 = .ok (.aload_n 0, 1) := by decide +kernel
theorem dX1_init_1 : decode cX1_init 1 = .ok (.invokespecial 3, 3) := by decide +kernel
theorem dX1_init_4 : decode cX1_init 4 = .ok (.aload_n 0, 1) := by decide +kernel
theorem dX1_init_5 : decode cX1_init 5 = .ok (.bipush 10, 2) := by decide +kernel
theorem dX1_init_7 : decode cX1_init 7 = .ok (.newarray .int, 2) := by decide +kernel
theorem dX1_init_9 : decode cX1_init 9 = .ok (.putfield 9, 3) := by decide +kernel
theorem dX1_init_12 : decode cX1_init 12 = .ok (.aload_n 0, 1) := by decide +kernel
theorem dX1_init_13 : decode cX1_init 13 = .ok (.bipush 10, 2) := by decide +kernel
theorem dX1_init_15 : decode cX1_init 15 = .ok (.newarray .int, 2) := by decide +kernel
theorem dX1_init_17 : decode cX1_init 17 = .ok (.putfield 15, 3) := by decide +kernel
theorem dX1_init_20 : decode cX1_init 20 = .ok (.aload_n 0, 1) := by decide +kernel
theorem dX1_init_21 : decode cX1_init 21 = .ok (.bipush 10, 2) := by decide +kernel
theorem dX1_init_23 : decode cX1_init 23 = .ok (.newarray .int, 2) := by decide +kernel
theorem dX1_init_25 : decode cX1_init 25 = .ok (.putfield 18, 3) := by decide +kernel
theorem dX1_init_28 : decode cX1_init 28 = .ok (.aload_n 0, 1) := by decide +kernel
theorem dX1_init_29 : decode cX1_init 29 = .ok (.bipush 10, 2) := by decide +kernel
theorem dX1_init_31 : decode cX1_init 31 = .ok (.newarray .int, 2) := by decide +kernel
theorem dX1_init_33 : decode cX1_init 33 = .ok (.putfield 21, 3) := by decide +kernel
theorem dX1_init_36 : decode cX1_init 36 = .ok (.aload_n 0, 1) := by decide +kernel
theorem dX1_init_37 : decode cX1_init 37 = .ok (.iconst 0, 1) := by decide +kernel
theorem dX1_init_38 : decode cX1_init 38 = .ok (.putfield 24, 3) := by decide +kernel
theorem dX1_init_41 : decode cX1_init 41 = .ok (.return_, 1) := by decide +kernel
theorem dX1_has_0 : decode cX1_has 0 = .ok (.iload_n 1, 1) := by decide +kernel
theorem dX1_has_1 : decode cX1_has 1 = .ok (.ifCond .lt 21, 3) := by decide +kernel
theorem dX1_has_4 : decode cX1_has 4 = .ok (.iload_n 1, 1) := by decide +kernel
theorem dX1_has_5 : decode cX1_has 5 = .ok (.aload_n 0, 1) := by decide +kernel
theorem dX1_has_6 : decode cX1_has 6 = .ok (.getfield 24, 3) := by decide +kernel
theorem dX1_has_9 : decode cX1_has 9 = .ok (.if_icmp .ge 13, 3) := by decide +kernel
theorem dX1_has_12 : decode cX1_has 12 = .ok (.iload_n 1, 1) := by decide +kernel
theorem dX1_has_13 : decode cX1_has 13 = .ok (.bipush 10, 2) := by decide +kernel
theorem dX1_has_15 : decode cX1_has 15 = .ok (.if_icmp .ge 7, 3) := by decide +kernel
theorem dX1_has_18 : decode cX1_has 18 = .ok (.iconst 1, 1) := by decide +kernel
theorem dX1_has_19 : decode cX1_has 19 = .ok (.goto 4, 3) := by decide +kernel
theorem dX1_has_22 : decode cX1_has 22 = .ok (.iconst 0, 1) := by decide +kernel
theorem dX1_has_23 : decode cX1_has 23 = .ok (.ireturn, 1) := by decide +kernel
theorem dX1_setNear_0 : decode cX1_setNear 0 = .ok (.iload_n 3, 1) := by decide +kernel
theorem dX1_setNear_1 : decode cX1_setNear 1 = .ok (.ifCond .eq 18, 3) := by decide +kernel
theorem dX1_setNear_4 : decode cX1_setNear 4 = .ok (.aload_n 0, 1) := by decide +kernel
theorem dX1_setNear_5 : decode cX1_setNear 5 = .ok (.getfield 18, 3) := by decide +kernel
theorem dX1_setNear_8 : decode cX1_setNear 8 = .ok (.iload_n 1, 1) := by decide +kernel
theorem dX1_setNear_9 : decode cX1_setNear 9 = .ok (.dup2, 1) := by decide +kernel
theorem dX1_setNear_10 : decode cX1_setNear 10 = .ok (.iaload, 1) := by decide +kernel
theorem dX1_setNear_11 : decode cX1_setNear 11 = .ok (.iconst 1, 1) := by decide +kernel
theorem dX1_setNear_12 : decode cX1_setNear 12 = .ok (.iload_n 2, 1) := by decide +kernel
theorem dX1_setNear_13 : decode cX1_setNear 13 = .ok (.ishl, 1) := by decide +kernel
theorem dX1_setNear_14 : decode cX1_setNear 14 = .ok (.ior, 1) := by decide +kernel
theorem dX1_setNear_15 : decode cX1_setNear 15 = .ok (.iastore, 1) := by decide +kernel
theorem dX1_setNear_16 : decode cX1_setNear 16 = .ok (.goto 17, 3) := by decide +kernel
theorem dX1_setNear_19 : decode cX1_setNear 19 = .ok (.aload_n 0, 1) := by decide +kernel
theorem dX1_setNear_20 : decode cX1_setNear 20 = .ok (.getfield 18, 3) := by decide +kernel
theorem dX1_setNear_23 : decode cX1_setNear 23 = .ok (.iload_n 1, 1) := by decide +kernel
theorem dX1_setNear_24 : decode cX1_setNear 24 = .ok (.dup2, 1) := by decide +kernel
theorem dX1_setNear_25 : decode cX1_setNear 25 = .ok (.iaload, 1) := by decide +kernel
theorem dX1_setNear_26 : decode cX1_setNear 26 = .ok (.iconst 1, 1) := by decide +kernel
theorem dX1_setNear_27 : decode cX1_setNear 27 = .ok (.iload_n 2, 1) := by decide +kernel
theorem dX1_setNear_28 : decode cX1_setNear 28 = .ok (.ishl, 1) := by decide +kernel
theorem dX1_setNear_29 : decode cX1_setNear 29 = .ok (.iconst (-1), 1) := by decide +kernel
theorem dX1_setNear_30 : decode cX1_setNear 30 = .ok (.ixor, 1) := by decide +kernel
theorem dX1_setNear_31 : decode cX1_setNear 31 = .ok (.iand, 1) := by decide +kernel
theorem dX1_setNear_32 : decode cX1_setNear 32 = .ok (.iastore, 1) := by decide +kernel
theorem dX1_setNear_33 : decode cX1_setNear 33 = .ok (.return_, 1) := by decide +kernel
theorem dX1_canLend_0 : decode cX1_canLend 0 = .ok (.aload_n 0, 1) := by decide +kernel
theorem dX1_canLend_1 : decode cX1_canLend 1 = .ok (.iload_n 1, 1) := by decide +kernel
theorem dX1_canLend_2 : decode cX1_canLend 2 = .ok (.invokevirtual 28, 3) := by decide +kernel
theorem dX1_canLend_5 : decode cX1_canLend 5 = .ok (.ifCond .eq 39, 3) := by decide +kernel
theorem dX1_canLend_8 : decode cX1_canLend 8 = .ok (.aload_n 0, 1) := by decide +kernel
theorem dX1_canLend_9 : decode cX1_canLend 9 = .ok (.iload_n 2, 1) := by decide +kernel
theorem dX1_canLend_10 : decode cX1_canLend 10 = .ok (.invokevirtual 28, 3) := by decide +kernel
theorem dX1_canLend_13 : decode cX1_canLend 13 = .ok (.ifCond .eq 31, 3) := by decide +kernel
theorem dX1_canLend_16 : decode cX1_canLend 16 = .ok (.aload_n 0, 1) := by decide +kernel
theorem dX1_canLend_17 : decode cX1_canLend 17 = .ok (.getfield 18, 3) := by decide +kernel
theorem dX1_canLend_20 : decode cX1_canLend 20 = .ok (.iload_n 1, 1) := by decide +kernel
theorem dX1_canLend_21 : decode cX1_canLend 21 = .ok (.iaload, 1) := by decide +kernel
theorem dX1_canLend_22 : decode cX1_canLend 22 = .ok (.iload_n 2, 1) := by decide +kernel
theorem dX1_canLend_23 : decode cX1_canLend 23 = .ok (.ishr, 1) := by decide +kernel
theorem dX1_canLend_24 : decode cX1_canLend 24 = .ok (.iconst 1, 1) := by decide +kernel
theorem dX1_canLend_25 : decode cX1_canLend 25 = .ok (.iand, 1) := by decide +kernel
theorem dX1_canLend_26 : decode cX1_canLend 26 = .ok (.iconst 1, 1) := by decide +kernel
theorem dX1_canLend_27 : decode cX1_canLend 27 = .ok (.if_icmp .ne 17, 3) := by decide +kernel
theorem dX1_canLend_30 : decode cX1_canLend 30 = .ok (.aload_n 0, 1) := by decide +kernel
theorem dX1_canLend_31 : decode cX1_canLend 31 = .ok (.getfield 9, 3) := by decide +kernel
theorem dX1_canLend_34 : decode cX1_canLend 34 = .ok (.iload_n 1, 1) := by decide +kernel
theorem dX1_canLend_35 : decode cX1_canLend 35 = .ok (.iaload, 1) := by decide +kernel
theorem dX1_canLend_36 : decode cX1_canLend 36 = .ok (.iconst 1, 1) := by decide +kernel
theorem dX1_canLend_37 : decode cX1_canLend 37 = .ok (.if_icmp .lt 7, 3) := by decide +kernel
theorem dX1_canLend_40 : decode cX1_canLend 40 = .ok (.iconst 1, 1) := by decide +kernel
theorem dX1_canLend_41 : decode cX1_canLend 41 = .ok (.goto 4, 3) := by decide +kernel
theorem dX1_canLend_44 : decode cX1_canLend 44 = .ok (.iconst 0, 1) := by decide +kernel
theorem dX1_canLend_45 : decode cX1_canLend 45 = .ok (.ireturn, 1) := by decide +kernel
theorem dX1_moveOne_0 : decode cX1_moveOne 0 = .ok (.aload_n 0, 1) := by decide +kernel
theorem dX1_moveOne_1 : decode cX1_moveOne 1 = .ok (.getfield 9, 3) := by decide +kernel
theorem dX1_moveOne_4 : decode cX1_moveOne 4 = .ok (.iload_n 1, 1) := by decide +kernel
theorem dX1_moveOne_5 : decode cX1_moveOne 5 = .ok (.dup2, 1) := by decide +kernel
theorem dX1_moveOne_6 : decode cX1_moveOne 6 = .ok (.iaload, 1) := by decide +kernel
theorem dX1_moveOne_7 : decode cX1_moveOne 7 = .ok (.iconst 1, 1) := by decide +kernel
theorem dX1_moveOne_8 : decode cX1_moveOne 8 = .ok (.isub, 1) := by decide +kernel
theorem dX1_moveOne_9 : decode cX1_moveOne 9 = .ok (.iastore, 1) := by decide +kernel
theorem dX1_moveOne_10 : decode cX1_moveOne 10 = .ok (.aload_n 0, 1) := by decide +kernel
theorem dX1_moveOne_11 : decode cX1_moveOne 11 = .ok (.getfield 15, 3) := by decide +kernel
theorem dX1_moveOne_14 : decode cX1_moveOne 14 = .ok (.iload_n 1, 1) := by decide +kernel
theorem dX1_moveOne_15 : decode cX1_moveOne 15 = .ok (.dup2, 1) := by decide +kernel
theorem dX1_moveOne_16 : decode cX1_moveOne 16 = .ok (.iaload, 1) := by decide +kernel
theorem dX1_moveOne_17 : decode cX1_moveOne 17 = .ok (.iconst 1, 1) := by decide +kernel
theorem dX1_moveOne_18 : decode cX1_moveOne 18 = .ok (.isub, 1) := by decide +kernel
theorem dX1_moveOne_19 : decode cX1_moveOne 19 = .ok (.iastore, 1) := by decide +kernel
theorem dX1_moveOne_20 : decode cX1_moveOne 20 = .ok (.aload_n 0, 1) := by decide +kernel
theorem dX1_moveOne_21 : decode cX1_moveOne 21 = .ok (.getfield 9, 3) := by decide +kernel
theorem dX1_moveOne_24 : decode cX1_moveOne 24 = .ok (.iload_n 2, 1) := by decide +kernel
theorem dX1_moveOne_25 : decode cX1_moveOne 25 = .ok (.dup2, 1) := by decide +kernel
theorem dX1_moveOne_26 : decode cX1_moveOne 26 = .ok (.iaload, 1) := by decide +kernel
theorem dX1_moveOne_27 : decode cX1_moveOne 27 = .ok (.iconst 1, 1) := by decide +kernel
theorem dX1_moveOne_28 : decode cX1_moveOne 28 = .ok (.iadd, 1) := by decide +kernel
theorem dX1_moveOne_29 : decode cX1_moveOne 29 = .ok (.iastore, 1) := by decide +kernel
theorem dX1_moveOne_30 : decode cX1_moveOne 30 = .ok (.aload_n 0, 1) := by decide +kernel
theorem dX1_moveOne_31 : decode cX1_moveOne 31 = .ok (.getfield 15, 3) := by decide +kernel
theorem dX1_moveOne_34 : decode cX1_moveOne 34 = .ok (.iload_n 2, 1) := by decide +kernel
theorem dX1_moveOne_35 : decode cX1_moveOne 35 = .ok (.dup2, 1) := by decide +kernel
theorem dX1_moveOne_36 : decode cX1_moveOne 36 = .ok (.iaload, 1) := by decide +kernel
theorem dX1_moveOne_37 : decode cX1_moveOne 37 = .ok (.iconst 1, 1) := by decide +kernel
theorem dX1_moveOne_38 : decode cX1_moveOne 38 = .ok (.iadd, 1) := by decide +kernel
theorem dX1_moveOne_39 : decode cX1_moveOne 39 = .ok (.iastore, 1) := by decide +kernel
theorem dX1_moveOne_40 : decode cX1_moveOne 40 = .ok (.return_, 1) := by decide +kernel
theorem dX1_rowLength_0 : decode cX1_rowLength 0 = .ok (.iconst 1, 1) := by decide +kernel
theorem dX1_rowLength_1 : decode cX1_rowLength 1 = .ok (.iload_n 2, 1) := by decide +kernel
theorem dX1_rowLength_2 : decode cX1_rowLength 2 = .ok (.ishl, 1) := by decide +kernel
theorem dX1_rowLength_3 : decode cX1_rowLength 3 = .ok (.istore_n 3, 1) := by decide +kernel
theorem dX1_rowLength_4 : decode cX1_rowLength 4 = .ok (.iload_n 3, 1) := by decide +kernel
theorem dX1_rowLength_5 : decode cX1_rowLength 5 = .ok (.istore 4, 2) := by decide +kernel
theorem dX1_rowLength_7 : decode cX1_rowLength 7 = .ok (.iconst 1, 1) := by decide +kernel
theorem dX1_rowLength_8 : decode cX1_rowLength 8 = .ok (.istore 5, 2) := by decide +kernel
theorem dX1_rowLength_10 : decode cX1_rowLength 10 = .ok (.aload_n 0, 1) := by decide +kernel
theorem dX1_rowLength_11 : decode cX1_rowLength 11 = .ok (.getfield 21, 3) := by decide +kernel
theorem dX1_rowLength_14 : decode cX1_rowLength 14 = .ok (.iconst 0, 1) := by decide +kernel
theorem dX1_rowLength_15 : decode cX1_rowLength 15 = .ok (.iload_n 3, 1) := by decide +kernel
theorem dX1_rowLength_16 : decode cX1_rowLength 16 = .ok (.iastore, 1) := by decide +kernel
theorem dX1_rowLength_17 : decode cX1_rowLength 17 = .ok (.iload 5, 2) := by decide +kernel
theorem dX1_rowLength_19 : decode cX1_rowLength 19 = .ok (.bipush 10, 2) := by decide +kernel
theorem dX1_rowLength_21 : decode cX1_rowLength 21 = .ok (.if_icmp .ge 42, 3) := by decide +kernel
theorem dX1_rowLength_24 : decode cX1_rowLength 24 = .ok (.iload_n 3, 1) := by decide +kernel
theorem dX1_rowLength_25 : decode cX1_rowLength 25 = .ok (.iload_n 1, 1) := by decide +kernel
theorem dX1_rowLength_26 : decode cX1_rowLength 26 = .ok (.ishr, 1) := by decide +kernel
theorem dX1_rowLength_27 : decode cX1_rowLength 27 = .ok (.iconst 1, 1) := by decide +kernel
theorem dX1_rowLength_28 : decode cX1_rowLength 28 = .ok (.iand, 1) := by decide +kernel
theorem dX1_rowLength_29 : decode cX1_rowLength 29 = .ok (.ifCond .ne 34, 3) := by decide +kernel
theorem dX1_rowLength_32 : decode cX1_rowLength 32 = .ok (.aload_n 0, 1) := by decide +kernel
theorem dX1_rowLength_33 : decode cX1_rowLength 33 = .ok (.iload_n 3, 1) := by decide +kernel
theorem dX1_rowLength_34 : decode cX1_rowLength 34 = .ok (.invokevirtual 32, 3) := by decide +kernel
theorem dX1_rowLength_37 : decode cX1_rowLength 37 = .ok (.iload 4, 2) := by decide +kernel
theorem dX1_rowLength_39 : decode cX1_rowLength 39 = .ok (.iconst (-1), 1) := by decide +kernel
theorem dX1_rowLength_40 : decode cX1_rowLength 40 = .ok (.ixor, 1) := by decide +kernel
theorem dX1_rowLength_41 : decode cX1_rowLength 41 = .ok (.iand, 1) := by decide +kernel
theorem dX1_rowLength_42 : decode cX1_rowLength 42 = .ok (.istore_n 3, 1) := by decide +kernel
theorem dX1_rowLength_43 : decode cX1_rowLength 43 = .ok (.iload 4, 2) := by decide +kernel
theorem dX1_rowLength_45 : decode cX1_rowLength 45 = .ok (.iload_n 3, 1) := by decide +kernel
theorem dX1_rowLength_46 : decode cX1_rowLength 46 = .ok (.ior, 1) := by decide +kernel
theorem dX1_rowLength_47 : decode cX1_rowLength 47 = .ok (.istore 4, 2) := by decide +kernel
theorem dX1_rowLength_49 : decode cX1_rowLength 49 = .ok (.aload_n 0, 1) := by decide +kernel
theorem dX1_rowLength_50 : decode cX1_rowLength 50 = .ok (.getfield 21, 3) := by decide +kernel
theorem dX1_rowLength_53 : decode cX1_rowLength 53 = .ok (.iload 5, 2) := by decide +kernel
theorem dX1_rowLength_55 : decode cX1_rowLength 55 = .ok (.iload_n 3, 1) := by decide +kernel
theorem dX1_rowLength_56 : decode cX1_rowLength 56 = .ok (.iastore, 1) := by decide +kernel
theorem dX1_rowLength_57 : decode cX1_rowLength 57 = .ok (.iinc 5 1, 3) := by decide +kernel
theorem dX1_rowLength_60 : decode cX1_rowLength 60 = .ok (.goto (-43), 3) := by decide +kernel
theorem dX1_rowLength_63 : decode cX1_rowLength 63 = .ok (.iload_n 3, 1) := by decide +kernel
theorem dX1_rowLength_64 : decode cX1_rowLength 64 = .ok (.iload_n 1, 1) := by decide +kernel
theorem dX1_rowLength_65 : decode cX1_rowLength 65 = .ok (.ishr, 1) := by decide +kernel
theorem dX1_rowLength_66 : decode cX1_rowLength 66 = .ok (.iconst 1, 1) := by decide +kernel
theorem dX1_rowLength_67 : decode cX1_rowLength 67 = .ok (.iand, 1) := by decide +kernel
theorem dX1_rowLength_68 : decode cX1_rowLength 68 = .ok (.iconst 1, 1) := by decide +kernel
theorem dX1_rowLength_69 : decode cX1_rowLength 69 = .ok (.if_icmp .ne 8, 3) := by decide +kernel
theorem dX1_rowLength_72 : decode cX1_rowLength 72 = .ok (.iload 5, 2) := by decide +kernel
theorem dX1_rowLength_74 : decode cX1_rowLength 74 = .ok (.goto 4, 3) := by decide +kernel
theorem dX1_rowLength_77 : decode cX1_rowLength 77 = .ok (.iconst 0, 1) := by decide +kernel
theorem dX1_rowLength_78 : decode cX1_rowLength 78 = .ok (.ireturn, 1) := by decide +kernel
theorem dX1_lendersTo_0 : decode cX1_lendersTo 0 = .ok (.iconst 0, 1) := by decide +kernel
theorem dX1_lendersTo_1 : decode cX1_lendersTo 1 = .ok (.istore_n 2, 1) := by decide +kernel
theorem dX1_lendersTo_2 : decode cX1_lendersTo 2 = .ok (.iconst 0, 1) := by decide +kernel
theorem dX1_lendersTo_3 : decode cX1_lendersTo 3 = .ok (.istore_n 3, 1) := by decide +kernel
theorem dX1_lendersTo_4 : decode cX1_lendersTo 4 = .ok (.iload_n 3, 1) := by decide +kernel
theorem dX1_lendersTo_5 : decode cX1_lendersTo 5 = .ok (.aload_n 0, 1) := by decide +kernel
theorem dX1_lendersTo_6 : decode cX1_lendersTo 6 = .ok (.getfield 24, 3) := by decide +kernel
theorem dX1_lendersTo_9 : decode cX1_lendersTo 9 = .ok (.if_icmp .ge 36, 3) := by decide +kernel
theorem dX1_lendersTo_12 : decode cX1_lendersTo 12 = .ok (.aload_n 0, 1) := by decide +kernel
theorem dX1_lendersTo_13 : decode cX1_lendersTo 13 = .ok (.getfield 9, 3) := by decide +kernel
theorem dX1_lendersTo_16 : decode cX1_lendersTo 16 = .ok (.iload_n 3, 1) := by decide +kernel
theorem dX1_lendersTo_17 : decode cX1_lendersTo 17 = .ok (.iaload, 1) := by decide +kernel
theorem dX1_lendersTo_18 : decode cX1_lendersTo 18 = .ok (.iconst 1, 1) := by decide +kernel
theorem dX1_lendersTo_19 : decode cX1_lendersTo 19 = .ok (.if_icmp .lt 20, 3) := by decide +kernel
theorem dX1_lendersTo_22 : decode cX1_lendersTo 22 = .ok (.aload_n 0, 1) := by decide +kernel
theorem dX1_lendersTo_23 : decode cX1_lendersTo 23 = .ok (.getfield 18, 3) := by decide +kernel
theorem dX1_lendersTo_26 : decode cX1_lendersTo 26 = .ok (.iload_n 3, 1) := by decide +kernel
theorem dX1_lendersTo_27 : decode cX1_lendersTo 27 = .ok (.iaload, 1) := by decide +kernel
theorem dX1_lendersTo_28 : decode cX1_lendersTo 28 = .ok (.iload_n 1, 1) := by decide +kernel
theorem dX1_lendersTo_29 : decode cX1_lendersTo 29 = .ok (.iand, 1) := by decide +kernel
theorem dX1_lendersTo_30 : decode cX1_lendersTo 30 = .ok (.ifCond .eq 9, 3) := by decide +kernel
theorem dX1_lendersTo_33 : decode cX1_lendersTo 33 = .ok (.iload_n 2, 1) := by decide +kernel
theorem dX1_lendersTo_34 : decode cX1_lendersTo 34 = .ok (.iconst 1, 1) := by decide +kernel
theorem dX1_lendersTo_35 : decode cX1_lendersTo 35 = .ok (.iload_n 3, 1) := by decide +kernel
theorem dX1_lendersTo_36 : decode cX1_lendersTo 36 = .ok (.ishl, 1) := by decide +kernel
theorem dX1_lendersTo_37 : decode cX1_lendersTo 37 = .ok (.ior, 1) := by decide +kernel
theorem dX1_lendersTo_38 : decode cX1_lendersTo 38 = .ok (.istore_n 2, 1) := by decide +kernel
theorem dX1_lendersTo_39 : decode cX1_lendersTo 39 = .ok (.iinc 3 1, 3) := by decide +kernel
theorem dX1_lendersTo_42 : decode cX1_lendersTo 42 = .ok (.goto (-38), 3) := by decide +kernel
theorem dX1_lendersTo_45 : decode cX1_lendersTo 45 = .ok (.iload_n 2, 1) := by decide +kernel
theorem dX1_lendersTo_46 : decode cX1_lendersTo 46 = .ok (.ireturn, 1) := by decide +kernel
theorem dX1_rowAt_0 : decode cX1_rowAt 0 = .ok (.iload_n 1, 1) := by decide +kernel
theorem dX1_rowAt_1 : decode cX1_rowAt 1 = .ok (.istore 4, 2) := by decide +kernel
theorem dX1_rowAt_3 : decode cX1_rowAt 3 = .ok (.iload_n 2, 1) := by decide +kernel
theorem dX1_rowAt_4 : decode cX1_rowAt 4 = .ok (.iconst 2, 1) := by decide +kernel
theorem dX1_rowAt_5 : decode cX1_rowAt 5 = .ok (.isub, 1) := by decide +kernel
theorem dX1_rowAt_6 : decode cX1_rowAt 6 = .ok (.istore 5, 2) := by decide +kernel
theorem dX1_rowAt_8 : decode cX1_rowAt 8 = .ok (.iload 5, 2) := by decide +kernel
theorem dX1_rowAt_10 : decode cX1_rowAt 10 = .ok (.iload_n 2, 1) := by decide +kernel
theorem dX1_rowAt_11 : decode cX1_rowAt 11 = .ok (.iconst 1, 1) := by decide +kernel
theorem dX1_rowAt_12 : decode cX1_rowAt 12 = .ok (.isub, 1) := by decide +kernel
theorem dX1_rowAt_13 : decode cX1_rowAt 13 = .ok (.iload_n 3, 1) := by decide +kernel
theorem dX1_rowAt_14 : decode cX1_rowAt 14 = .ok (.isub, 1) := by decide +kernel
theorem dX1_rowAt_15 : decode cX1_rowAt 15 = .ok (.if_icmp .lt 52, 3) := by decide +kernel
theorem dX1_rowAt_18 : decode cX1_rowAt 18 = .ok (.aload_n 0, 1) := by decide +kernel
theorem dX1_rowAt_19 : decode cX1_rowAt 19 = .ok (.iload 4, 2) := by decide +kernel
theorem dX1_rowAt_21 : decode cX1_rowAt 21 = .ok (.invokevirtual 28, 3) := by decide +kernel
theorem dX1_rowAt_24 : decode cX1_rowAt 24 = .ok (.ifCond .eq 15, 3) := by decide +kernel
theorem dX1_rowAt_27 : decode cX1_rowAt 27 = .ok (.iload 5, 2) := by decide +kernel
theorem dX1_rowAt_29 : decode cX1_rowAt 29 = .ok (.ifCond .lt 10, 3) := by decide +kernel
theorem dX1_rowAt_32 : decode cX1_rowAt 32 = .ok (.iload 5, 2) := by decide +kernel
theorem dX1_rowAt_34 : decode cX1_rowAt 34 = .ok (.bipush 10, 2) := by decide +kernel
theorem dX1_rowAt_36 : decode cX1_rowAt 36 = .ok (.if_icmp .lt 5, 3) := by decide +kernel
theorem dX1_rowAt_39 : decode cX1_rowAt 39 = .ok (.iconst (-1), 1) := by decide +kernel
theorem dX1_rowAt_40 : decode cX1_rowAt 40 = .ok (.ireturn, 1) := by decide +kernel
theorem dX1_rowAt_41 : decode cX1_rowAt 41 = .ok (.aload_n 0, 1) := by decide +kernel
theorem dX1_rowAt_42 : decode cX1_rowAt 42 = .ok (.getfield 18, 3) := by decide +kernel
theorem dX1_rowAt_45 : decode cX1_rowAt 45 = .ok (.iload 4, 2) := by decide +kernel
theorem dX1_rowAt_47 : decode cX1_rowAt 47 = .ok (.iaload, 1) := by decide +kernel
theorem dX1_rowAt_48 : decode cX1_rowAt 48 = .ok (.aload_n 0, 1) := by decide +kernel
theorem dX1_rowAt_49 : decode cX1_rowAt 49 = .ok (.getfield 21, 3) := by decide +kernel
theorem dX1_rowAt_52 : decode cX1_rowAt 52 = .ok (.iload 5, 2) := by decide +kernel
theorem dX1_rowAt_54 : decode cX1_rowAt 54 = .ok (.iaload, 1) := by decide +kernel
theorem dX1_rowAt_55 : decode cX1_rowAt 55 = .ok (.iand, 1) := by decide +kernel
theorem dX1_rowAt_56 : decode cX1_rowAt 56 = .ok (.invokestatic 36, 3) := by decide +kernel
theorem dX1_rowAt_59 : decode cX1_rowAt 59 = .ok (.istore 4, 2) := by decide +kernel
theorem dX1_rowAt_61 : decode cX1_rowAt 61 = .ok (.iinc 5 (-1), 3) := by decide +kernel
theorem dX1_rowAt_64 : decode cX1_rowAt 64 = .ok (.goto (-56), 3) := by decide +kernel
theorem dX1_rowAt_67 : decode cX1_rowAt 67 = .ok (.aload_n 0, 1) := by decide +kernel
theorem dX1_rowAt_68 : decode cX1_rowAt 68 = .ok (.iload 4, 2) := by decide +kernel
theorem dX1_rowAt_70 : decode cX1_rowAt 70 = .ok (.invokevirtual 28, 3) := by decide +kernel
theorem dX1_rowAt_73 : decode cX1_rowAt 73 = .ok (.ifCond .eq 8, 3) := by decide +kernel
theorem dX1_rowAt_76 : decode cX1_rowAt 76 = .ok (.iload 4, 2) := by decide +kernel
theorem dX1_rowAt_78 : decode cX1_rowAt 78 = .ok (.goto 4, 3) := by decide +kernel
theorem dX1_rowAt_81 : decode cX1_rowAt 81 = .ok (.iconst (-1), 1) := by decide +kernel
theorem dX1_rowAt_82 : decode cX1_rowAt 82 = .ok (.ireturn, 1) := by decide +kernel
theorem dX1_lendByDraws_0 : decode cX1_lendByDraws 0 = .ok (.iload_n 1, 1) := by decide +kernel
theorem dX1_lendByDraws_1 : decode cX1_lendByDraws 1 = .ok (.bipush 9, 2) := by decide +kernel
theorem dX1_lendByDraws_3 : decode cX1_lendByDraws 3 = .ok (.imul, 1) := by decide +kernel
theorem dX1_lendByDraws_4 : decode cX1_lendByDraws 4 = .ok (.iconst 4, 1) := by decide +kernel
theorem dX1_lendByDraws_5 : decode cX1_lendByDraws 5 = .ok (.iadd, 1) := by decide +kernel
theorem dX1_lendByDraws_6 : decode cX1_lendByDraws 6 = .ok (.istore_n 3, 1) := by decide +kernel
theorem dX1_lendByDraws_7 : decode cX1_lendByDraws 7 = .ok (.iconst 0, 1) := by decide +kernel
theorem dX1_lendByDraws_8 : decode cX1_lendByDraws 8 = .ok (.istore 4, 2) := by decide +kernel
theorem dX1_lendByDraws_10 : decode cX1_lendByDraws 10 = .ok (.iconst 0, 1) := by decide +kernel
theorem dX1_lendByDraws_11 : decode cX1_lendByDraws 11 = .ok (.istore 5, 2) := by decide +kernel
theorem dX1_lendByDraws_13 : decode cX1_lendByDraws 13 = .ok (.iload 5, 2) := by decide +kernel
theorem dX1_lendByDraws_15 : decode cX1_lendByDraws 15 = .ok (.iload_n 2, 1) := by decide +kernel
theorem dX1_lendByDraws_16 : decode cX1_lendByDraws 16 = .ok (.if_icmp .ge 87, 3) := by decide +kernel
theorem dX1_lendByDraws_19 : decode cX1_lendByDraws 19 = .ok (.aload_n 0, 1) := by decide +kernel
theorem dX1_lendByDraws_20 : decode cX1_lendByDraws 20 = .ok (.getfield 24, 3) := by decide +kernel
theorem dX1_lendByDraws_23 : decode cX1_lendByDraws 23 = .ok (.ifCond .le 80, 3) := by decide +kernel
theorem dX1_lendByDraws_26 : decode cX1_lendByDraws 26 = .ok (.iload_n 3, 1) := by decide +kernel
theorem dX1_lendByDraws_27 : decode cX1_lendByDraws 27 = .ok (.aload_n 0, 1) := by decide +kernel
theorem dX1_lendByDraws_28 : decode cX1_lendByDraws 28 = .ok (.getfield 24, 3) := by decide +kernel
theorem dX1_lendByDraws_31 : decode cX1_lendByDraws 31 = .ok (.irem, 1) := by decide +kernel
theorem dX1_lendByDraws_32 : decode cX1_lendByDraws 32 = .ok (.istore 6, 2) := by decide +kernel
theorem dX1_lendByDraws_34 : decode cX1_lendByDraws 34 = .ok (.aload_n 0, 1) := by decide +kernel
theorem dX1_lendByDraws_35 : decode cX1_lendByDraws 35 = .ok (.iload_n 3, 1) := by decide +kernel
theorem dX1_lendByDraws_36 : decode cX1_lendByDraws 36 = .ok (.invokevirtual 41, 3) := by decide +kernel
theorem dX1_lendByDraws_39 : decode cX1_lendByDraws 39 = .ok (.istore_n 3, 1) := by decide +kernel
theorem dX1_lendByDraws_40 : decode cX1_lendByDraws 40 = .ok (.aload_n 0, 1) := by decide +kernel
theorem dX1_lendByDraws_41 : decode cX1_lendByDraws 41 = .ok (.getfield 18, 3) := by decide +kernel
theorem dX1_lendByDraws_44 : decode cX1_lendByDraws 44 = .ok (.iload 6, 2) := by decide +kernel
theorem dX1_lendByDraws_46 : decode cX1_lendByDraws 46 = .ok (.iaload, 1) := by decide +kernel
theorem dX1_lendByDraws_47 : decode cX1_lendByDraws 47 = .ok (.invokestatic 44, 3) := by decide +kernel
theorem dX1_lendByDraws_50 : decode cX1_lendByDraws 50 = .ok (.istore 7, 2) := by decide +kernel
theorem dX1_lendByDraws_52 : decode cX1_lendByDraws 52 = .ok (.iload 7, 2) := by decide +kernel
theorem dX1_lendByDraws_54 : decode cX1_lendByDraws 54 = .ok (.ifCond .le 43, 3) := by decide +kernel
theorem dX1_lendByDraws_57 : decode cX1_lendByDraws 57 = .ok (.aload_n 0, 1) := by decide +kernel
theorem dX1_lendByDraws_58 : decode cX1_lendByDraws 58 = .ok (.iload 6, 2) := by decide +kernel
theorem dX1_lendByDraws_60 : decode cX1_lendByDraws 60 = .ok (.iload_n 3, 1) := by decide +kernel
theorem dX1_lendByDraws_61 : decode cX1_lendByDraws 61 = .ok (.iload 7, 2) := by decide +kernel
theorem dX1_lendByDraws_63 : decode cX1_lendByDraws 63 = .ok (.irem, 1) := by decide +kernel
theorem dX1_lendByDraws_64 : decode cX1_lendByDraws 64 = .ok (.invokevirtual 47, 3) := by decide +kernel
theorem dX1_lendByDraws_67 : decode cX1_lendByDraws 67 = .ok (.istore 8, 2) := by decide +kernel
theorem dX1_lendByDraws_69 : decode cX1_lendByDraws 69 = .ok (.aload_n 0, 1) := by decide +kernel
theorem dX1_lendByDraws_70 : decode cX1_lendByDraws 70 = .ok (.iload_n 3, 1) := by decide +kernel
theorem dX1_lendByDraws_71 : decode cX1_lendByDraws 71 = .ok (.invokevirtual 41, 3) := by decide +kernel
theorem dX1_lendByDraws_74 : decode cX1_lendByDraws 74 = .ok (.istore_n 3, 1) := by decide +kernel
theorem dX1_lendByDraws_75 : decode cX1_lendByDraws 75 = .ok (.aload_n 0, 1) := by decide +kernel
theorem dX1_lendByDraws_76 : decode cX1_lendByDraws 76 = .ok (.iload 6, 2) := by decide +kernel
theorem dX1_lendByDraws_78 : decode cX1_lendByDraws 78 = .ok (.iload 8, 2) := by decide +kernel
theorem dX1_lendByDraws_80 : decode cX1_lendByDraws 80 = .ok (.invokevirtual 51, 3) := by decide +kernel
theorem dX1_lendByDraws_83 : decode cX1_lendByDraws 83 = .ok (.ifCond .eq 14, 3) := by decide +kernel
theorem dX1_lendByDraws_86 : decode cX1_lendByDraws 86 = .ok (.aload_n 0, 1) := by decide +kernel
theorem dX1_lendByDraws_87 : decode cX1_lendByDraws 87 = .ok (.iload 6, 2) := by decide +kernel
theorem dX1_lendByDraws_89 : decode cX1_lendByDraws 89 = .ok (.iload 8, 2) := by decide +kernel
theorem dX1_lendByDraws_91 : decode cX1_lendByDraws 91 = .ok (.invokevirtual 55, 3) := by decide +kernel
theorem dX1_lendByDraws_94 : decode cX1_lendByDraws 94 = .ok (.iinc 4 1, 3) := by decide +kernel
theorem dX1_lendByDraws_97 : decode cX1_lendByDraws 97 = .ok (.iinc 5 1, 3) := by decide +kernel
theorem dX1_lendByDraws_100 : decode cX1_lendByDraws 100 = .ok (.goto (-87), 3) := by decide +kernel
theorem dX1_lendByDraws_103 : decode cX1_lendByDraws 103 = .ok (.iload 4, 2) := by decide +kernel
theorem dX1_lendByDraws_105 : decode cX1_lendByDraws 105 = .ok (.ireturn, 1) := by decide +kernel
theorem dX1_nextDraw_0 : decode cX1_nextDraw 0 = .ok (.iload_n 1, 1) := by decide +kernel
theorem dX1_nextDraw_1 : decode cX1_nextDraw 1 = .ok (.sipush 181, 3) := by decide +kernel
theorem dX1_nextDraw_4 : decode cX1_nextDraw 4 = .ok (.imul, 1) := by decide +kernel
theorem dX1_nextDraw_5 : decode cX1_nextDraw 5 = .ok (.bipush 37, 2) := by decide +kernel
theorem dX1_nextDraw_7 : decode cX1_nextDraw 7 = .ok (.iadd, 1) := by decide +kernel
theorem dX1_nextDraw_8 : decode cX1_nextDraw 8 = .ok (.sipush 30091, 3) := by decide +kernel
theorem dX1_nextDraw_11 : decode cX1_nextDraw 11 = .ok (.irem, 1) := by decide +kernel
theorem dX1_nextDraw_12 : decode cX1_nextDraw 12 = .ok (.ireturn, 1) := by decide +kernel
theorem dX1_nearAt_0 : decode cX1_nearAt 0 = .ok (.aload_n 0, 1) := by decide +kernel
theorem dX1_nearAt_1 : decode cX1_nearAt 1 = .ok (.getfield 18, 3) := by decide +kernel
theorem dX1_nearAt_4 : decode cX1_nearAt 4 = .ok (.iload_n 1, 1) := by decide +kernel
theorem dX1_nearAt_5 : decode cX1_nearAt 5 = .ok (.iaload, 1) := by decide +kernel
theorem dX1_nearAt_6 : decode cX1_nearAt 6 = .ok (.istore_n 3, 1) := by decide +kernel
theorem dX1_nearAt_7 : decode cX1_nearAt 7 = .ok (.iconst 0, 1) := by decide +kernel
theorem dX1_nearAt_8 : decode cX1_nearAt 8 = .ok (.istore 4, 2) := by decide +kernel
theorem dX1_nearAt_10 : decode cX1_nearAt 10 = .ok (.iload 4, 2) := by decide +kernel
theorem dX1_nearAt_12 : decode cX1_nearAt 12 = .ok (.iload_n 2, 1) := by decide +kernel
theorem dX1_nearAt_13 : decode cX1_nearAt 13 = .ok (.if_icmp .ge 15, 3) := by decide +kernel
theorem dX1_nearAt_16 : decode cX1_nearAt 16 = .ok (.iload_n 3, 1) := by decide +kernel
theorem dX1_nearAt_17 : decode cX1_nearAt 17 = .ok (.iload_n 3, 1) := by decide +kernel
theorem dX1_nearAt_18 : decode cX1_nearAt 18 = .ok (.iconst 1, 1) := by decide +kernel
theorem dX1_nearAt_19 : decode cX1_nearAt 19 = .ok (.isub, 1) := by decide +kernel
theorem dX1_nearAt_20 : decode cX1_nearAt 20 = .ok (.iand, 1) := by decide +kernel
theorem dX1_nearAt_21 : decode cX1_nearAt 21 = .ok (.istore_n 3, 1) := by decide +kernel
theorem dX1_nearAt_22 : decode cX1_nearAt 22 = .ok (.iinc 4 1, 3) := by decide +kernel
theorem dX1_nearAt_25 : decode cX1_nearAt 25 = .ok (.goto (-15), 3) := by decide +kernel
theorem dX1_nearAt_28 : decode cX1_nearAt 28 = .ok (.iload_n 3, 1) := by decide +kernel
theorem dX1_nearAt_29 : decode cX1_nearAt 29 = .ok (.invokestatic 36, 3) := by decide +kernel
theorem dX1_nearAt_32 : decode cX1_nearAt 32 = .ok (.ireturn, 1) := by decide +kernel
theorem dX1_takeAll_0 : decode cX1_takeAll 0 = .ok (.aload_n 1, 1) := by decide +kernel
theorem dX1_takeAll_1 : decode cX1_takeAll 1 = .ok (.getfield 9, 3) := by decide +kernel
theorem dX1_takeAll_4 : decode cX1_takeAll 4 = .ok (.iconst 0, 1) := by decide +kernel
theorem dX1_takeAll_5 : decode cX1_takeAll 5 = .ok (.aload_n 0, 1) := by decide +kernel
theorem dX1_takeAll_6 : decode cX1_takeAll 6 = .ok (.getfield 9, 3) := by decide +kernel
theorem dX1_takeAll_9 : decode cX1_takeAll 9 = .ok (.iconst 0, 1) := by decide +kernel
theorem dX1_takeAll_10 : decode cX1_takeAll 10 = .ok (.bipush 10, 2) := by decide +kernel
theorem dX1_takeAll_12 : decode cX1_takeAll 12 = .ok (.invokestatic 59, 3) := by decide +kernel
theorem dX1_takeAll_15 : decode cX1_takeAll 15 = .ok (.aload_n 1, 1) := by decide +kernel
theorem dX1_takeAll_16 : decode cX1_takeAll 16 = .ok (.getfield 15, 3) := by decide +kernel
theorem dX1_takeAll_19 : decode cX1_takeAll 19 = .ok (.iconst 0, 1) := by decide +kernel
theorem dX1_takeAll_20 : decode cX1_takeAll 20 = .ok (.aload_n 0, 1) := by decide +kernel
theorem dX1_takeAll_21 : decode cX1_takeAll 21 = .ok (.getfield 15, 3) := by decide +kernel
theorem dX1_takeAll_24 : decode cX1_takeAll 24 = .ok (.iconst 0, 1) := by decide +kernel
theorem dX1_takeAll_25 : decode cX1_takeAll 25 = .ok (.bipush 10, 2) := by decide +kernel
theorem dX1_takeAll_27 : decode cX1_takeAll 27 = .ok (.invokestatic 59, 3) := by decide +kernel
theorem dX1_takeAll_30 : decode cX1_takeAll 30 = .ok (.aload_n 1, 1) := by decide +kernel
theorem dX1_takeAll_31 : decode cX1_takeAll 31 = .ok (.getfield 18, 3) := by decide +kernel
theorem dX1_takeAll_34 : decode cX1_takeAll 34 = .ok (.iconst 0, 1) := by decide +kernel
theorem dX1_takeAll_35 : decode cX1_takeAll 35 = .ok (.aload_n 0, 1) := by decide +kernel
theorem dX1_takeAll_36 : decode cX1_takeAll 36 = .ok (.getfield 18, 3) := by decide +kernel
theorem dX1_takeAll_39 : decode cX1_takeAll 39 = .ok (.iconst 0, 1) := by decide +kernel
theorem dX1_takeAll_40 : decode cX1_takeAll 40 = .ok (.bipush 10, 2) := by decide +kernel
theorem dX1_takeAll_42 : decode cX1_takeAll 42 = .ok (.invokestatic 59, 3) := by decide +kernel
theorem dX1_takeAll_45 : decode cX1_takeAll 45 = .ok (.aload_n 0, 1) := by decide +kernel
theorem dX1_takeAll_46 : decode cX1_takeAll 46 = .ok (.aload_n 1, 1) := by decide +kernel
theorem dX1_takeAll_47 : decode cX1_takeAll 47 = .ok (.getfield 24, 3) := by decide +kernel
theorem dX1_takeAll_50 : decode cX1_takeAll 50 = .ok (.putfield 24, 3) := by decide +kernel
theorem dX1_takeAll_53 : decode cX1_takeAll 53 = .ok (.return_, 1) := by decide +kernel
theorem dX2_init_0 : decode cX2_init 0 = .ok (.aload_n 0, 1) := by decide +kernel
theorem dX2_init_1 : decode cX2_init 1 = .ok (.invokespecial 3, 3) := by decide +kernel
theorem dX2_init_4 : decode cX2_init 4 = .ok (.aload_n 0, 1) := by decide +kernel
theorem dX2_init_5 : decode cX2_init 5 = .ok (.bipush 8, 2) := by decide +kernel
theorem dX2_init_7 : decode cX2_init 7 = .ok (.newarray .int, 2) := by decide +kernel
theorem dX2_init_9 : decode cX2_init 9 = .ok (.putfield 9, 3) := by decide +kernel
theorem dX2_init_12 : decode cX2_init 12 = .ok (.aload_n 0, 1) := by decide +kernel
theorem dX2_init_13 : decode cX2_init 13 = .ok (.bipush 40, 2) := by decide +kernel
theorem dX2_init_15 : decode cX2_init 15 = .ok (.newarray .int, 2) := by decide +kernel
theorem dX2_init_17 : decode cX2_init 17 = .ok (.putfield 15, 3) := by decide +kernel
theorem dX2_init_20 : decode cX2_init 20 = .ok (.return_, 1) := by decide +kernel
theorem dX2_liftOf_0 : decode cX2_liftOf 0 = .ok (.aload_n 1, 1) := by decide +kernel
theorem dX2_liftOf_1 : decode cX2_liftOf 1 = .ok (.invokevirtual 18, 3) := by decide +kernel
theorem dX2_liftOf_4 : decode cX2_liftOf 4 = .ok (.getfield 24, 3) := by decide +kernel
theorem dX2_liftOf_7 : decode cX2_liftOf 7 = .ok (.astore 5, 2) := by decide +kernel
theorem dX2_liftOf_9 : decode cX2_liftOf 9 = .ok (.aload 5, 2) := by decide +kernel
theorem dX2_liftOf_11 : decode cX2_liftOf 11 = .ok (.arraylength, 1) := by decide +kernel
theorem dX2_liftOf_12 : decode cX2_liftOf 12 = .ok (.ifCond .ne 23, 3) := by decide +kernel
theorem dX2_liftOf_15 : decode cX2_liftOf 15 = .ok (.aload_n 1, 1) := by decide +kernel
theorem dX2_liftOf_16 : decode cX2_liftOf 16 = .ok (.getfield 29, 3) := by decide +kernel
theorem dX2_liftOf_19 : decode cX2_liftOf 19 = .ok (.getfield 33, 3) := by decide +kernel
theorem dX2_liftOf_22 : decode cX2_liftOf 22 = .ok (.iload_n 2, 1) := by decide +kernel
theorem dX2_liftOf_23 : decode cX2_liftOf 23 = .ok (.iaload, 1) := by decide +kernel
theorem dX2_liftOf_24 : decode cX2_liftOf 24 = .ok (.aload_n 1, 1) := by decide +kernel
theorem dX2_liftOf_25 : decode cX2_liftOf 25 = .ok (.getfield 29, 3) := by decide +kernel
theorem dX2_liftOf_28 : decode cX2_liftOf 28 = .ok (.getfield 38, 3) := by decide +kernel
theorem dX2_liftOf_31 : decode cX2_liftOf 31 = .ok (.iload_n 2, 1) := by decide +kernel
theorem dX2_liftOf_32 : decode cX2_liftOf 32 = .ok (.iaload, 1) := by decide +kernel
theorem dX2_liftOf_33 : decode cX2_liftOf 33 = .ok (.imul, 1) := by decide +kernel
theorem dX2_liftOf_34 : decode cX2_liftOf 34 = .ok (.ireturn, 1) := by decide +kernel
theorem dX2_liftOf_35 : decode cX2_liftOf 35 = .ok (.aload_n 0, 1) := by decide +kernel
theorem dX2_liftOf_36 : decode cX2_liftOf 36 = .ok (.aload_n 1, 1) := by decide +kernel
theorem dX2_liftOf_37 : decode cX2_liftOf 37 = .ok (.getfield 29, 3) := by decide +kernel
theorem dX2_liftOf_40 : decode cX2_liftOf 40 = .ok (.iload_n 2, 1) := by decide +kernel
theorem dX2_liftOf_41 : decode cX2_liftOf 41 = .ok (.invokevirtual 41, 3) := by decide +kernel
theorem dX2_liftOf_44 : decode cX2_liftOf 44 = .ok (.aload_n 0, 1) := by decide +kernel
theorem dX2_liftOf_45 : decode cX2_liftOf 45 = .ok (.aload_n 1, 1) := by decide +kernel
theorem dX2_liftOf_46 : decode cX2_liftOf 46 = .ok (.getfield 45, 3) := by decide +kernel
theorem dX2_liftOf_49 : decode cX2_liftOf 49 = .ok (.iload_n 3, 1) := by decide +kernel
theorem dX2_liftOf_50 : decode cX2_liftOf 50 = .ok (.iload 4, 2) := by decide +kernel
theorem dX2_liftOf_52 : decode cX2_liftOf 52 = .ok (.invokevirtual 49, 3) := by decide +kernel
theorem dX2_liftOf_55 : decode cX2_liftOf 55 = .ok (.iconst 0, 1) := by decide +kernel
theorem dX2_liftOf_56 : decode cX2_liftOf 56 = .ok (.sipush 9999, 3) := by decide +kernel
theorem dX2_liftOf_59 : decode cX2_liftOf 59 = .ok (.aload_n 0, 1) := by decide +kernel
theorem dX2_liftOf_60 : decode cX2_liftOf 60 = .ok (.aload 5, 2) := by decide +kernel
theorem dX2_liftOf_62 : decode cX2_liftOf 62 = .ok (.invokevirtual 53, 3) := by decide +kernel
theorem dX2_liftOf_65 : decode cX2_liftOf 65 = .ok (.invokestatic 57, 3) := by decide +kernel
theorem dX2_liftOf_68 : decode cX2_liftOf 68 = .ok (.invokestatic 63, 3) := by decide +kernel
theorem dX2_liftOf_71 : decode cX2_liftOf 71 = .ok (.ireturn, 1) := by decide +kernel
theorem dX2_isLet_0 : decode cX2_isLet 0 = .ok (.aload_n 1, 1) := by decide +kernel
theorem dX2_isLet_1 : decode cX2_isLet 1 = .ok (.invokevirtual 18, 3) := by decide +kernel
theorem dX2_isLet_4 : decode cX2_isLet 4 = .ok (.getfield 66, 3) := by decide +kernel
theorem dX2_isLet_7 : decode cX2_isLet 7 = .ok (.astore 5, 2) := by decide +kernel
theorem dX2_isLet_9 : decode cX2_isLet 9 = .ok (.aload 5, 2) := by decide +kernel
theorem dX2_isLet_11 : decode cX2_isLet 11 = .ok (.arraylength, 1) := by decide +kernel
theorem dX2_isLet_12 : decode cX2_isLet 12 = .ok (.ifCond .ne 5, 3) := by decide +kernel
theorem dX2_isLet_15 : decode cX2_isLet 15 = .ok (.iconst 1, 1) := by decide +kernel
theorem dX2_isLet_16 : decode cX2_isLet 16 = .ok (.ireturn, 1) := by decide +kernel
theorem dX2_isLet_17 : decode cX2_isLet 17 = .ok (.aload_n 0, 1) := by decide +kernel
theorem dX2_isLet_18 : decode cX2_isLet 18 = .ok (.aload_n 1, 1) := by decide +kernel
theorem dX2_isLet_19 : decode cX2_isLet 19 = .ok (.getfield 29, 3) := by decide +kernel
theorem dX2_isLet_22 : decode cX2_isLet 22 = .ok (.iload_n 2, 1) := by decide +kernel
theorem dX2_isLet_23 : decode cX2_isLet 23 = .ok (.invokevirtual 41, 3) := by decide +kernel
theorem dX2_isLet_26 : decode cX2_isLet 26 = .ok (.aload_n 0, 1) := by decide +kernel
theorem dX2_isLet_27 : decode cX2_isLet 27 = .ok (.aload_n 1, 1) := by decide +kernel
theorem dX2_isLet_28 : decode cX2_isLet 28 = .ok (.getfield 45, 3) := by decide +kernel
theorem dX2_isLet_31 : decode cX2_isLet 31 = .ok (.iload_n 3, 1) := by decide +kernel
theorem dX2_isLet_32 : decode cX2_isLet 32 = .ok (.iload 4, 2) := by decide +kernel
theorem dX2_isLet_34 : decode cX2_isLet 34 = .ok (.invokevirtual 49, 3) := by decide +kernel
theorem dX2_isLet_37 : decode cX2_isLet 37 = .ok (.aload_n 0, 1) := by decide +kernel
theorem dX2_isLet_38 : decode cX2_isLet 38 = .ok (.aload 5, 2) := by decide +kernel
theorem dX2_isLet_40 : decode cX2_isLet 40 = .ok (.invokevirtual 53, 3) := by decide +kernel
theorem dX2_isLet_43 : decode cX2_isLet 43 = .ok (.ifCond .eq 7, 3) := by decide +kernel
theorem dX2_isLet_46 : decode cX2_isLet 46 = .ok (.iconst 1, 1) := by decide +kernel
theorem dX2_isLet_47 : decode cX2_isLet 47 = .ok (.goto 4, 3) := by decide +kernel
theorem dX2_isLet_50 : decode cX2_isLet 50 = .ok (.iconst 0, 1) := by decide +kernel
theorem dX2_isLet_51 : decode cX2_isLet 51 = .ok (.ireturn, 1) := by decide +kernel
theorem dX2_quarriesOf_0 : decode cX2_quarriesOf 0 = .ok (.aload_n 1, 1) := by decide +kernel
theorem dX2_quarriesOf_1 : decode cX2_quarriesOf 1 = .ok (.invokevirtual 18, 3) := by decide +kernel
theorem dX2_quarriesOf_4 : decode cX2_quarriesOf 4 = .ok (.getfield 69, 3) := by decide +kernel
theorem dX2_quarriesOf_7 : decode cX2_quarriesOf 7 = .ok (.astore_n 3, 1) := by decide +kernel
theorem dX2_quarriesOf_8 : decode cX2_quarriesOf 8 = .ok (.aload_n 3, 1) := by decide +kernel
theorem dX2_quarriesOf_9 : decode cX2_quarriesOf 9 = .ok (.arraylength, 1) := by decide +kernel
theorem dX2_quarriesOf_10 : decode cX2_quarriesOf 10 = .ok (.ifCond .ne 6, 3) := by decide +kernel
theorem dX2_quarriesOf_13 : decode cX2_quarriesOf 13 = .ok (.bipush 63, 2) := by decide +kernel
theorem dX2_quarriesOf_15 : decode cX2_quarriesOf 15 = .ok (.ireturn, 1) := by decide +kernel
theorem dX2_quarriesOf_16 : decode cX2_quarriesOf 16 = .ok (.aload_n 0, 1) := by decide +kernel
theorem dX2_quarriesOf_17 : decode cX2_quarriesOf 17 = .ok (.aload_n 1, 1) := by decide +kernel
theorem dX2_quarriesOf_18 : decode cX2_quarriesOf 18 = .ok (.getfield 29, 3) := by decide +kernel
theorem dX2_quarriesOf_21 : decode cX2_quarriesOf 21 = .ok (.iload_n 2, 1) := by decide +kernel
theorem dX2_quarriesOf_22 : decode cX2_quarriesOf 22 = .ok (.invokevirtual 41, 3) := by decide +kernel
theorem dX2_quarriesOf_25 : decode cX2_quarriesOf 25 = .ok (.iconst 0, 1) := by decide +kernel
theorem dX2_quarriesOf_26 : decode cX2_quarriesOf 26 = .ok (.istore 4, 2) := by decide +kernel
theorem dX2_quarriesOf_28 : decode cX2_quarriesOf 28 = .ok (.iconst 0, 1) := by decide +kernel
theorem dX2_quarriesOf_29 : decode cX2_quarriesOf 29 = .ok (.istore 5, 2) := by decide +kernel
theorem dX2_quarriesOf_31 : decode cX2_quarriesOf 31 = .ok (.iload 5, 2) := by decide +kernel
theorem dX2_quarriesOf_33 : decode cX2_quarriesOf 33 = .ok (.bipush 6, 2) := by decide +kernel
theorem dX2_quarriesOf_35 : decode cX2_quarriesOf 35 = .ok (.if_icmp .ge 35, 3) := by decide +kernel
theorem dX2_quarriesOf_38 : decode cX2_quarriesOf 38 = .ok (.aload_n 0, 1) := by decide +kernel
theorem dX2_quarriesOf_39 : decode cX2_quarriesOf 39 = .ok (.getfield 9, 3) := by decide +kernel
theorem dX2_quarriesOf_42 : decode cX2_quarriesOf 42 = .ok (.bipush 7, 2) := by decide +kernel
theorem dX2_quarriesOf_44 : decode cX2_quarriesOf 44 = .ok (.iload 5, 2) := by decide +kernel
theorem dX2_quarriesOf_46 : decode cX2_quarriesOf 46 = .ok (.iastore, 1) := by decide +kernel
theorem dX2_quarriesOf_47 : decode cX2_quarriesOf 47 = .ok (.aload_n 0, 1) := by decide +kernel
theorem dX2_quarriesOf_48 : decode cX2_quarriesOf 48 = .ok (.aload_n 3, 1) := by decide +kernel
theorem dX2_quarriesOf_49 : decode cX2_quarriesOf 49 = .ok (.invokevirtual 53, 3) := by decide +kernel
theorem dX2_quarriesOf_52 : decode cX2_quarriesOf 52 = .ok (.ifCond .eq 12, 3) := by decide +kernel
theorem dX2_quarriesOf_55 : decode cX2_quarriesOf 55 = .ok (.iload 4, 2) := by decide +kernel
theorem dX2_quarriesOf_57 : decode cX2_quarriesOf 57 = .ok (.iconst 1, 1) := by decide +kernel
theorem dX2_quarriesOf_58 : decode cX2_quarriesOf 58 = .ok (.iload 5, 2) := by decide +kernel
theorem dX2_quarriesOf_60 : decode cX2_quarriesOf 60 = .ok (.ishl, 1) := by decide +kernel
theorem dX2_quarriesOf_61 : decode cX2_quarriesOf 61 = .ok (.ior, 1) := by decide +kernel
theorem dX2_quarriesOf_62 : decode cX2_quarriesOf 62 = .ok (.istore 4, 2) := by decide +kernel
theorem dX2_quarriesOf_64 : decode cX2_quarriesOf 64 = .ok (.iinc 5 1, 3) := by decide +kernel
theorem dX2_quarriesOf_67 : decode cX2_quarriesOf 67 = .ok (.goto (-36), 3) := by decide +kernel
theorem dX2_quarriesOf_70 : decode cX2_quarriesOf 70 = .ok (.iload 4, 2) := by decide +kernel
theorem dX2_quarriesOf_72 : decode cX2_quarriesOf 72 = .ok (.ireturn, 1) := by decide +kernel
theorem dX2_setStone_0 : decode cX2_setStone 0 = .ok (.aload_n 0, 1) := by decide +kernel
theorem dX2_setStone_1 : decode cX2_setStone 1 = .ok (.getfield 9, 3) := by decide +kernel
theorem dX2_setStone_4 : decode cX2_setStone 4 = .ok (.iconst 0, 1) := by decide +kernel
theorem dX2_setStone_5 : decode cX2_setStone 5 = .ok (.iload_n 2, 1) := by decide +kernel
theorem dX2_setStone_6 : decode cX2_setStone 6 = .ok (.iastore, 1) := by decide +kernel
theorem dX2_setStone_7 : decode cX2_setStone 7 = .ok (.aload_n 0, 1) := by decide +kernel
theorem dX2_setStone_8 : decode cX2_setStone 8 = .ok (.getfield 9, 3) := by decide +kernel
theorem dX2_setStone_11 : decode cX2_setStone 11 = .ok (.iconst 1, 1) := by decide +kernel
theorem dX2_setStone_12 : decode cX2_setStone 12 = .ok (.aload_n 1, 1) := by decide +kernel
theorem dX2_setStone_13 : decode cX2_setStone 13 = .ok (.getfield 33, 3) := by decide +kernel
theorem dX2_setStone_16 : decode cX2_setStone 16 = .ok (.iload_n 2, 1) := by decide +kernel
theorem dX2_setStone_17 : decode cX2_setStone 17 = .ok (.iaload, 1) := by decide +kernel
theorem dX2_setStone_18 : decode cX2_setStone 18 = .ok (.iastore, 1) := by decide +kernel
theorem dX2_setStone_19 : decode cX2_setStone 19 = .ok (.aload_n 0, 1) := by decide +kernel
theorem dX2_setStone_20 : decode cX2_setStone 20 = .ok (.getfield 9, 3) := by decide +kernel
theorem dX2_setStone_23 : decode cX2_setStone 23 = .ok (.iconst 2, 1) := by decide +kernel
theorem dX2_setStone_24 : decode cX2_setStone 24 = .ok (.aload_n 1, 1) := by decide +kernel
theorem dX2_setStone_25 : decode cX2_setStone 25 = .ok (.getfield 38, 3) := by decide +kernel
theorem dX2_setStone_28 : decode cX2_setStone 28 = .ok (.iload_n 2, 1) := by decide +kernel
theorem dX2_setStone_29 : decode cX2_setStone 29 = .ok (.iaload, 1) := by decide +kernel
theorem dX2_setStone_30 : decode cX2_setStone 30 = .ok (.iastore, 1) := by decide +kernel
theorem dX2_setStone_31 : decode cX2_setStone 31 = .ok (.aload_n 0, 1) := by decide +kernel
theorem dX2_setStone_32 : decode cX2_setStone 32 = .ok (.getfield 9, 3) := by decide +kernel
theorem dX2_setStone_35 : decode cX2_setStone 35 = .ok (.iconst 3, 1) := by decide +kernel
theorem dX2_setStone_36 : decode cX2_setStone 36 = .ok (.aload_n 1, 1) := by decide +kernel
theorem dX2_setStone_37 : decode cX2_setStone 37 = .ok (.getfield 72, 3) := by decide +kernel
theorem dX2_setStone_40 : decode cX2_setStone 40 = .ok (.iload_n 2, 1) := by decide +kernel
theorem dX2_setStone_41 : decode cX2_setStone 41 = .ok (.iaload, 1) := by decide +kernel
theorem dX2_setStone_42 : decode cX2_setStone 42 = .ok (.iastore, 1) := by decide +kernel
theorem dX2_setStone_43 : decode cX2_setStone 43 = .ok (.return_, 1) := by decide +kernel
theorem dX2_setPlace_0 : decode cX2_setPlace 0 = .ok (.aload_n 0, 1) := by decide +kernel
theorem dX2_setPlace_1 : decode cX2_setPlace 1 = .ok (.getfield 9, 3) := by decide +kernel
theorem dX2_setPlace_4 : decode cX2_setPlace 4 = .ok (.iconst 4, 1) := by decide +kernel
theorem dX2_setPlace_5 : decode cX2_setPlace 5 = .ok (.iload_n 2, 1) := by decide +kernel
theorem dX2_setPlace_6 : decode cX2_setPlace 6 = .ok (.iastore, 1) := by decide +kernel
theorem dX2_setPlace_7 : decode cX2_setPlace 7 = .ok (.aload_n 0, 1) := by decide +kernel
theorem dX2_setPlace_8 : decode cX2_setPlace 8 = .ok (.getfield 9, 3) := by decide +kernel
theorem dX2_setPlace_11 : decode cX2_setPlace 11 = .ok (.iconst 5, 1) := by decide +kernel
theorem dX2_setPlace_12 : decode cX2_setPlace 12 = .ok (.iload_n 3, 1) := by decide +kernel
theorem dX2_setPlace_13 : decode cX2_setPlace 13 = .ok (.iastore, 1) := by decide +kernel
theorem dX2_setPlace_14 : decode cX2_setPlace 14 = .ok (.aload_n 0, 1) := by decide +kernel
theorem dX2_setPlace_15 : decode cX2_setPlace 15 = .ok (.getfield 9, 3) := by decide +kernel
theorem dX2_setPlace_18 : decode cX2_setPlace 18 = .ok (.bipush 6, 2) := by decide +kernel
theorem dX2_setPlace_20 : decode cX2_setPlace 20 = .ok (.iload_n 1, 1) := by decide +kernel
theorem dX2_setPlace_21 : decode cX2_setPlace 21 = .ok (.iload_n 2, 1) := by decide +kernel
theorem dX2_setPlace_22 : decode cX2_setPlace 22 = .ok (.iadd, 1) := by decide +kernel
theorem dX2_setPlace_23 : decode cX2_setPlace 23 = .ok (.bipush 24, 2) := by decide +kernel
theorem dX2_setPlace_25 : decode cX2_setPlace 25 = .ok (.irem, 1) := by decide +kernel
theorem dX2_setPlace_26 : decode cX2_setPlace 26 = .ok (.iastore, 1) := by decide +kernel
theorem dX2_setPlace_27 : decode cX2_setPlace 27 = .ok (.return_, 1) := by decide +kernel
theorem dX2_run_0 : decode cX2_run 0 = .ok (.iconst 0, 1) := by decide +kernel
theorem dX2_run_1 : decode cX2_run 1 = .ok (.istore_n 2, 1) := by decide +kernel
theorem dX2_run_2 : decode cX2_run 2 = .ok (.iconst 0, 1) := by decide +kernel
theorem dX2_run_3 : decode cX2_run 3 = .ok (.istore_n 3, 1) := by decide +kernel
theorem dX2_run_4 : decode cX2_run 4 = .ok (.iload_n 3, 1) := by decide +kernel
theorem dX2_run_5 : decode cX2_run 5 = .ok (.aload_n 1, 1) := by decide +kernel
theorem dX2_run_6 : decode cX2_run 6 = .ok (.arraylength, 1) := by decide +kernel
theorem dX2_run_7 : decode cX2_run 7 = .ok (.if_icmp .ge 173, 3) := by decide +kernel
theorem dX2_run_10 : decode cX2_run 10 = .ok (.aload_n 1, 1) := by decide +kernel
theorem dX2_run_11 : decode cX2_run 11 = .ok (.iload_n 3, 1) := by decide +kernel
theorem dX2_run_12 : decode cX2_run 12 = .ok (.iaload, 1) := by decide +kernel
theorem dX2_run_13 : decode cX2_run 13 = .ok (.sipush 10000, 3) := by decide +kernel
theorem dX2_run_16 : decode cX2_run 16 = .ok (.isub, 1) := by decide +kernel
theorem dX2_run_17 : decode cX2_run 17 = .ok (.istore 4, 2) := by decide +kernel
theorem dX2_run_19 : decode cX2_run 19 = .ok (.iload 4, 2) := by decide +kernel
theorem dX2_run_21 : decode cX2_run 21 = .ok (.bipush 8, 2) := by decide +kernel
theorem dX2_run_23 : decode cX2_run 23 = .ok (.if_icmp .ge 39, 3) := by decide +kernel
theorem dX2_run_26 : decode cX2_run 26 = .ok (.iload_n 2, 1) := by decide +kernel
theorem dX2_run_27 : decode cX2_run 27 = .ok (.bipush 40, 2) := by decide +kernel
theorem dX2_run_29 : decode cX2_run 29 = .ok (.if_icmp .ge 145, 3) := by decide +kernel
theorem dX2_run_32 : decode cX2_run 32 = .ok (.aload_n 0, 1) := by decide +kernel
theorem dX2_run_33 : decode cX2_run 33 = .ok (.getfield 15, 3) := by decide +kernel
theorem dX2_run_36 : decode cX2_run 36 = .ok (.iload_n 2, 1) := by decide +kernel
theorem dX2_run_37 : decode cX2_run 37 = .ok (.iload 4, 2) := by decide +kernel
theorem dX2_run_39 : decode cX2_run 39 = .ok (.ifCond .ge 9, 3) := by decide +kernel
theorem dX2_run_42 : decode cX2_run 42 = .ok (.aload_n 1, 1) := by decide +kernel
theorem dX2_run_43 : decode cX2_run 43 = .ok (.iload_n 3, 1) := by decide +kernel
theorem dX2_run_44 : decode cX2_run 44 = .ok (.iaload, 1) := by decide +kernel
theorem dX2_run_45 : decode cX2_run 45 = .ok (.goto 10, 3) := by decide +kernel
theorem dX2_run_48 : decode cX2_run 48 = .ok (.aload_n 0, 1) := by decide +kernel
theorem dX2_run_49 : decode cX2_run 49 = .ok (.getfield 9, 3) := by decide +kernel
theorem dX2_run_52 : decode cX2_run 52 = .ok (.iload 4, 2) := by decide +kernel
theorem dX2_run_54 : decode cX2_run 54 = .ok (.iaload, 1) := by decide +kernel
theorem dX2_run_55 : decode cX2_run 55 = .ok (.iastore, 1) := by decide +kernel
theorem dX2_run_56 : decode cX2_run 56 = .ok (.iinc 2 1, 3) := by decide +kernel
theorem dX2_run_59 : decode cX2_run 59 = .ok (.goto 115, 3) := by decide +kernel
theorem dX2_run_62 : decode cX2_run 62 = .ok (.iload 4, 2) := by decide +kernel
theorem dX2_run_64 : decode cX2_run 64 = .ok (.bipush 17, 2) := by decide +kernel
theorem dX2_run_66 : decode cX2_run 66 = .ok (.if_icmp .eq 10, 3) := by decide +kernel
theorem dX2_run_69 : decode cX2_run 69 = .ok (.iload 4, 2) := by decide +kernel
theorem dX2_run_71 : decode cX2_run 71 = .ok (.bipush 33, 2) := by decide +kernel
theorem dX2_run_73 : decode cX2_run 73 = .ok (.if_icmp .ne 46, 3) := by decide +kernel
theorem dX2_run_76 : decode cX2_run 76 = .ok (.iload_n 2, 1) := by decide +kernel
theorem dX2_run_77 : decode cX2_run 77 = .ok (.iconst 1, 1) := by decide +kernel
theorem dX2_run_78 : decode cX2_run 78 = .ok (.if_icmp .lt 96, 3) := by decide +kernel
theorem dX2_run_81 : decode cX2_run 81 = .ok (.aload_n 0, 1) := by decide +kernel
theorem dX2_run_82 : decode cX2_run 82 = .ok (.getfield 15, 3) := by decide +kernel
theorem dX2_run_85 : decode cX2_run 85 = .ok (.iload_n 2, 1) := by decide +kernel
theorem dX2_run_86 : decode cX2_run 86 = .ok (.iconst 1, 1) := by decide +kernel
theorem dX2_run_87 : decode cX2_run 87 = .ok (.isub, 1) := by decide +kernel
theorem dX2_run_88 : decode cX2_run 88 = .ok (.iaload, 1) := by decide +kernel
theorem dX2_run_89 : decode cX2_run 89 = .ok (.istore 5, 2) := by decide +kernel
theorem dX2_run_91 : decode cX2_run 91 = .ok (.aload_n 0, 1) := by decide +kernel
theorem dX2_run_92 : decode cX2_run 92 = .ok (.getfield 15, 3) := by decide +kernel
theorem dX2_run_95 : decode cX2_run 95 = .ok (.iload_n 2, 1) := by decide +kernel
theorem dX2_run_96 : decode cX2_run 96 = .ok (.iconst 1, 1) := by decide +kernel
theorem dX2_run_97 : decode cX2_run 97 = .ok (.isub, 1) := by decide +kernel
theorem dX2_run_98 : decode cX2_run 98 = .ok (.iload 4, 2) := by decide +kernel
theorem dX2_run_100 : decode cX2_run 100 = .ok (.bipush 17, 2) := by decide +kernel
theorem dX2_run_102 : decode cX2_run 102 = .ok (.if_icmp .ne 10, 3) := by decide +kernel
theorem dX2_run_105 : decode cX2_run 105 = .ok (.iconst 1, 1) := by decide +kernel
theorem dX2_run_106 : decode cX2_run 106 = .ok (.iload 5, 2) := by decide +kernel
theorem dX2_run_108 : decode cX2_run 108 = .ok (.isub, 1) := by decide +kernel
theorem dX2_run_109 : decode cX2_run 109 = .ok (.goto 6, 3) := by decide +kernel
theorem dX2_run_112 : decode cX2_run 112 = .ok (.iload 5, 2) := by decide +kernel
theorem dX2_run_114 : decode cX2_run 114 = .ok (.ineg, 1) := by decide +kernel
theorem dX2_run_115 : decode cX2_run 115 = .ok (.iastore, 1) := by decide +kernel
theorem dX2_run_116 : decode cX2_run 116 = .ok (.goto 58, 3) := by decide +kernel
theorem dX2_run_119 : decode cX2_run 119 = .ok (.iload_n 2, 1) := by decide +kernel
theorem dX2_run_120 : decode cX2_run 120 = .ok (.iconst 2, 1) := by decide +kernel
theorem dX2_run_121 : decode cX2_run 121 = .ok (.if_icmp .lt 53, 3) := by decide +kernel
theorem dX2_run_124 : decode cX2_run 124 = .ok (.iinc 2 (-1), 3) := by decide +kernel
theorem dX2_run_127 : decode cX2_run 127 = .ok (.aload_n 0, 1) := by decide +kernel
theorem dX2_run_128 : decode cX2_run 128 = .ok (.iload 4, 2) := by decide +kernel
theorem dX2_run_130 : decode cX2_run 130 = .ok (.aload_n 0, 1) := by decide +kernel
theorem dX2_run_131 : decode cX2_run 131 = .ok (.getfield 15, 3) := by decide +kernel
theorem dX2_run_134 : decode cX2_run 134 = .ok (.iload_n 2, 1) := by decide +kernel
theorem dX2_run_135 : decode cX2_run 135 = .ok (.iconst 1, 1) := by decide +kernel
theorem dX2_run_136 : decode cX2_run 136 = .ok (.isub, 1) := by decide +kernel
theorem dX2_run_137 : decode cX2_run 137 = .ok (.iaload, 1) := by decide +kernel
theorem dX2_run_138 : decode cX2_run 138 = .ok (.i2l, 1) := by decide +kernel
theorem dX2_run_139 : decode cX2_run 139 = .ok (.aload_n 0, 1) := by decide +kernel
theorem dX2_run_140 : decode cX2_run 140 = .ok (.getfield 15, 3) := by decide +kernel
theorem dX2_run_143 : decode cX2_run 143 = .ok (.iload_n 2, 1) := by decide +kernel
theorem dX2_run_144 : decode cX2_run 144 = .ok (.iaload, 1) := by decide +kernel
theorem dX2_run_145 : decode cX2_run 145 = .ok (.i2l, 1) := by decide +kernel
theorem dX2_run_146 : decode cX2_run 146 = .ok (.invokevirtual 75, 3) := by decide +kernel
theorem dX2_run_149 : decode cX2_run 149 = .ok (.lstore 5, 2) := by decide +kernel
theorem dX2_run_151 : decode cX2_run 151 = .ok (.aload_n 0, 1) := by decide +kernel
theorem dX2_run_152 : decode cX2_run 152 = .ok (.getfield 15, 3) := by decide +kernel
theorem dX2_run_155 : decode cX2_run 155 = .ok (.iload_n 2, 1) := by decide +kernel
theorem dX2_run_156 : decode cX2_run 156 = .ok (.iconst 1, 1) := by decide +kernel
theorem dX2_run_157 : decode cX2_run 157 = .ok (.isub, 1) := by decide +kernel
theorem dX2_run_158 : decode cX2_run 158 = .ok (.ldc2_w 79, 3) := by decide +kernel
theorem dX2_run_161 : decode cX2_run 161 = .ok (.ldc2_w 81, 3) := by decide +kernel
theorem dX2_run_164 : decode cX2_run 164 = .ok (.lload 5, 2) := by decide +kernel
theorem dX2_run_166 : decode cX2_run 166 = .ok (.invokestatic 83, 3) := by decide +kernel
theorem dX2_run_169 : decode cX2_run 169 = .ok (.invokestatic 86, 3) := by decide +kernel
theorem dX2_run_172 : decode cX2_run 172 = .ok (.l2i, 1) := by decide +kernel
theorem dX2_run_173 : decode cX2_run 173 = .ok (.iastore, 1) := by decide +kernel
theorem dX2_run_174 : decode cX2_run 174 = .ok (.iinc 3 1, 3) := by decide +kernel
theorem dX2_run_177 : decode cX2_run 177 = .ok (.goto (-173), 3) := by decide +kernel
theorem dX2_run_180 : decode cX2_run 180 = .ok (.iload_n 2, 1) := by decide +kernel
theorem dX2_run_181 : decode cX2_run 181 = .ok (.iconst 1, 1) := by decide +kernel
theorem dX2_run_182 : decode cX2_run 182 = .ok (.if_icmp .lt 14, 3) := by decide +kernel
theorem dX2_run_185 : decode cX2_run 185 = .ok (.aload_n 0, 1) := by decide +kernel
theorem dX2_run_186 : decode cX2_run 186 = .ok (.getfield 15, 3) := by decide +kernel
theorem dX2_run_189 : decode cX2_run 189 = .ok (.iload_n 2, 1) := by decide +kernel
theorem dX2_run_190 : decode cX2_run 190 = .ok (.iconst 1, 1) := by decide +kernel
theorem dX2_run_191 : decode cX2_run 191 = .ok (.isub, 1) := by decide +kernel
theorem dX2_run_192 : decode cX2_run 192 = .ok (.iaload, 1) := by decide +kernel
theorem dX2_run_193 : decode cX2_run 193 = .ok (.goto 4, 3) := by decide +kernel
theorem dX2_run_196 : decode cX2_run 196 = .ok (.iconst 0, 1) := by decide +kernel
theorem dX2_run_197 : decode cX2_run 197 = .ok (.ireturn, 1) := by decide +kernel
theorem dX2_outcome_0 : decode cX2_outcome 0 = .ok (.iload_n 1, 1) := by decide +kernel
theorem dX2_outcome_1 : decode cX2_outcome 1 = .ok (.tableswitch 206 15 32 #[201, 196, 206, 206, 206, 118, 144, 170, 183, 87, 92, 97, 102, 206, 206, 206, 131, 157], 87) := by decide +kernel
theorem dX2_outcome_88 : decode cX2_outcome 88 = .ok (.lload_n 2, 1) := by decide +kernel
theorem dX2_outcome_89 : decode cX2_outcome 89 = .ok (.lload 4, 2) := by decide +kernel
theorem dX2_outcome_91 : decode cX2_outcome 91 = .ok (.ladd, 1) := by decide +kernel
theorem dX2_outcome_92 : decode cX2_outcome 92 = .ok (.lreturn, 1) := by decide +kernel
theorem dX2_outcome_93 : decode cX2_outcome 93 = .ok (.lload_n 2, 1) := by decide +kernel
theorem dX2_outcome_94 : decode cX2_outcome 94 = .ok (.lload 4, 2) := by decide +kernel
theorem dX2_outcome_96 : decode cX2_outcome 96 = .ok (.lsub, 1) := by decide +kernel
theorem dX2_outcome_97 : decode cX2_outcome 97 = .ok (.lreturn, 1) := by decide +kernel
theorem dX2_outcome_98 : decode cX2_outcome 98 = .ok (.lload_n 2, 1) := by decide +kernel
theorem dX2_outcome_99 : decode cX2_outcome 99 = .ok (.lload 4, 2) := by decide +kernel
theorem dX2_outcome_101 : decode cX2_outcome 101 = .ok (.lmul, 1) := by decide +kernel
theorem dX2_outcome_102 : decode cX2_outcome 102 = .ok (.lreturn, 1) := by decide +kernel
theorem dX2_outcome_103 : decode cX2_outcome 103 = .ok (.lload 4, 2) := by decide +kernel
theorem dX2_outcome_105 : decode cX2_outcome 105 = .ok (.lconst 0, 1) := by decide +kernel
theorem dX2_outcome_106 : decode cX2_outcome 106 = .ok (.lcmp, 1) := by decide +kernel
theorem dX2_outcome_107 : decode cX2_outcome 107 = .ok (.ifCond .ne 7, 3) := by decide +kernel
theorem dX2_outcome_110 : decode cX2_outcome 110 = .ok (.lconst 0, 1) := by decide +kernel
theorem dX2_outcome_111 : decode cX2_outcome 111 = .ok (.goto 7, 3) := by decide +kernel
theorem dX2_outcome_114 : decode cX2_outcome 114 = .ok (.lload_n 2, 1) := by decide +kernel
theorem dX2_outcome_115 : decode cX2_outcome 115 = .ok (.lload 4, 2) := by decide +kernel
theorem dX2_outcome_117 : decode cX2_outcome 117 = .ok (.ldiv, 1) := by decide +kernel
theorem dX2_outcome_118 : decode cX2_outcome 118 = .ok (.lreturn, 1) := by decide +kernel
theorem dX2_outcome_119 : decode cX2_outcome 119 = .ok (.lload_n 2, 1) := by decide +kernel
theorem dX2_outcome_120 : decode cX2_outcome 120 = .ok (.lload 4, 2) := by decide +kernel
theorem dX2_outcome_122 : decode cX2_outcome 122 = .ok (.lcmp, 1) := by decide +kernel
theorem dX2_outcome_123 : decode cX2_outcome 123 = .ok (.ifCond .ge 7, 3) := by decide +kernel
theorem dX2_outcome_126 : decode cX2_outcome 126 = .ok (.lconst 1, 1) := by decide +kernel
theorem dX2_outcome_127 : decode cX2_outcome 127 = .ok (.goto 4, 3) := by decide +kernel
theorem dX2_outcome_130 : decode cX2_outcome 130 = .ok (.lconst 0, 1) := by decide +kernel
theorem dX2_outcome_131 : decode cX2_outcome 131 = .ok (.lreturn, 1) := by decide +kernel
theorem dX2_outcome_132 : decode cX2_outcome 132 = .ok (.lload_n 2, 1) := by decide +kernel
theorem dX2_outcome_133 : decode cX2_outcome 133 = .ok (.lload 4, 2) := by decide +kernel
theorem dX2_outcome_135 : decode cX2_outcome 135 = .ok (.lcmp, 1) := by decide +kernel
theorem dX2_outcome_136 : decode cX2_outcome 136 = .ok (.ifCond .gt 7, 3) := by decide +kernel
theorem dX2_outcome_139 : decode cX2_outcome 139 = .ok (.lconst 1, 1) := by decide +kernel
theorem dX2_outcome_140 : decode cX2_outcome 140 = .ok (.goto 4, 3) := by decide +kernel
theorem dX2_outcome_143 : decode cX2_outcome 143 = .ok (.lconst 0, 1) := by decide +kernel
theorem dX2_outcome_144 : decode cX2_outcome 144 = .ok (.lreturn, 1) := by decide +kernel
theorem dX2_outcome_145 : decode cX2_outcome 145 = .ok (.lload_n 2, 1) := by decide +kernel
theorem dX2_outcome_146 : decode cX2_outcome 146 = .ok (.lload 4, 2) := by decide +kernel
theorem dX2_outcome_148 : decode cX2_outcome 148 = .ok (.lcmp, 1) := by decide +kernel
theorem dX2_outcome_149 : decode cX2_outcome 149 = .ok (.ifCond .le 7, 3) := by decide +kernel
theorem dX2_outcome_152 : decode cX2_outcome 152 = .ok (.lconst 1, 1) := by decide +kernel
theorem dX2_outcome_153 : decode cX2_outcome 153 = .ok (.goto 4, 3) := by decide +kernel
theorem dX2_outcome_156 : decode cX2_outcome 156 = .ok (.lconst 0, 1) := by decide +kernel
theorem dX2_outcome_157 : decode cX2_outcome 157 = .ok (.lreturn, 1) := by decide +kernel
theorem dX2_outcome_158 : decode cX2_outcome 158 = .ok (.lload_n 2, 1) := by decide +kernel
theorem dX2_outcome_159 : decode cX2_outcome 159 = .ok (.lload 4, 2) := by decide +kernel
theorem dX2_outcome_161 : decode cX2_outcome 161 = .ok (.lcmp, 1) := by decide +kernel
theorem dX2_outcome_162 : decode cX2_outcome 162 = .ok (.ifCond .lt 7, 3) := by decide +kernel
theorem dX2_outcome_165 : decode cX2_outcome 165 = .ok (.lconst 1, 1) := by decide +kernel
theorem dX2_outcome_166 : decode cX2_outcome 166 = .ok (.goto 4, 3) := by decide +kernel
theorem dX2_outcome_169 : decode cX2_outcome 169 = .ok (.lconst 0, 1) := by decide +kernel
theorem dX2_outcome_170 : decode cX2_outcome 170 = .ok (.lreturn, 1) := by decide +kernel
theorem dX2_outcome_171 : decode cX2_outcome 171 = .ok (.lload_n 2, 1) := by decide +kernel
theorem dX2_outcome_172 : decode cX2_outcome 172 = .ok (.lload 4, 2) := by decide +kernel
theorem dX2_outcome_174 : decode cX2_outcome 174 = .ok (.lcmp, 1) := by decide +kernel
theorem dX2_outcome_175 : decode cX2_outcome 175 = .ok (.ifCond .ne 7, 3) := by decide +kernel
theorem dX2_outcome_178 : decode cX2_outcome 178 = .ok (.lconst 1, 1) := by decide +kernel
theorem dX2_outcome_179 : decode cX2_outcome 179 = .ok (.goto 4, 3) := by decide +kernel
theorem dX2_outcome_182 : decode cX2_outcome 182 = .ok (.lconst 0, 1) := by decide +kernel
theorem dX2_outcome_183 : decode cX2_outcome 183 = .ok (.lreturn, 1) := by decide +kernel
theorem dX2_outcome_184 : decode cX2_outcome 184 = .ok (.lload_n 2, 1) := by decide +kernel
theorem dX2_outcome_185 : decode cX2_outcome 185 = .ok (.lload 4, 2) := by decide +kernel
theorem dX2_outcome_187 : decode cX2_outcome 187 = .ok (.lcmp, 1) := by decide +kernel
theorem dX2_outcome_188 : decode cX2_outcome 188 = .ok (.ifCond .eq 7, 3) := by decide +kernel
theorem dX2_outcome_191 : decode cX2_outcome 191 = .ok (.lconst 1, 1) := by decide +kernel
theorem dX2_outcome_192 : decode cX2_outcome 192 = .ok (.goto 4, 3) := by decide +kernel
theorem dX2_outcome_195 : decode cX2_outcome 195 = .ok (.lconst 0, 1) := by decide +kernel
theorem dX2_outcome_196 : decode cX2_outcome 196 = .ok (.lreturn, 1) := by decide +kernel
theorem dX2_outcome_197 : decode cX2_outcome 197 = .ok (.lload_n 2, 1) := by decide +kernel
theorem dX2_outcome_198 : decode cX2_outcome 198 = .ok (.lload 4, 2) := by decide +kernel
theorem dX2_outcome_200 : decode cX2_outcome 200 = .ok (.land, 1) := by decide +kernel
theorem dX2_outcome_201 : decode cX2_outcome 201 = .ok (.lreturn, 1) := by decide +kernel
theorem dX2_outcome_202 : decode cX2_outcome 202 = .ok (.lload_n 2, 1) := by decide +kernel
theorem dX2_outcome_203 : decode cX2_outcome 203 = .ok (.lload 4, 2) := by decide +kernel
theorem dX2_outcome_205 : decode cX2_outcome 205 = .ok (.lor, 1) := by decide +kernel
theorem dX2_outcome_206 : decode cX2_outcome 206 = .ok (.lreturn, 1) := by decide +kernel
theorem dX2_outcome_207 : decode cX2_outcome 207 = .ok (.lconst 0, 1) := by decide +kernel
theorem dX2_outcome_208 : decode cX2_outcome 208 = .ok (.lreturn, 1) := by decide +kernel
theorem dX3_init_0 : decode cX3_init 0 = .ok (.aload_n 0, 1) := by decide +kernel
theorem dX3_init_1 : decode cX3_init 1 = .ok (.invokespecial 3, 3) := by decide +kernel
theorem dX3_init_4 : decode cX3_init 4 = .ok (.aload_n 0, 1) := by decide +kernel
theorem dX3_init_5 : decode cX3_init 5 = .ok (.sipush 3168, 3) := by decide +kernel
theorem dX3_init_8 : decode cX3_init 8 = .ok (.newarray .int, 2) := by decide +kernel
theorem dX3_init_10 : decode cX3_init 10 = .ok (.putfield 11, 3) := by decide +kernel
theorem dX3_init_13 : decode cX3_init 13 = .ok (.aload_n 0, 1) := by decide +kernel
theorem dX3_init_14 : decode cX3_init 14 = .ok (.sipush 4096, 3) := by decide +kernel
theorem dX3_init_17 : decode cX3_init 17 = .ok (.newarray .int, 2) := by decide +kernel
theorem dX3_init_19 : decode cX3_init 19 = .ok (.putfield 15, 3) := by decide +kernel
theorem dX3_init_22 : decode cX3_init 22 = .ok (.aload_n 0, 1) := by decide +kernel
theorem dX3_init_23 : decode cX3_init 23 = .ok (.bipush 12, 2) := by decide +kernel
theorem dX3_init_25 : decode cX3_init 25 = .ok (.newarray .int, 2) := by decide +kernel
theorem dX3_init_27 : decode cX3_init 27 = .ok (.putfield 18, 3) := by decide +kernel
theorem dX3_init_30 : decode cX3_init 30 = .ok (.aload_n 0, 1) := by decide +kernel
theorem dX3_init_31 : decode cX3_init 31 = .ok (.new 21, 3) := by decide +kernel
theorem dX3_init_34 : decode cX3_init 34 = .ok (.dup, 1) := by decide +kernel
theorem dX3_init_35 : decode cX3_init 35 = .ok (.invokespecial 23, 3) := by decide +kernel
theorem dX3_init_38 : decode cX3_init 38 = .ok (.putfield 24, 3) := by decide +kernel
theorem dX3_init_41 : decode cX3_init 41 = .ok (.aload_n 0, 1) := by decide +kernel
theorem dX3_init_42 : decode cX3_init 42 = .ok (.iconst 0, 1) := by decide +kernel
theorem dX3_init_43 : decode cX3_init 43 = .ok (.putfield 28, 3) := by decide +kernel
theorem dX3_init_46 : decode cX3_init 46 = .ok (.aload_n 0, 1) := by decide +kernel
theorem dX3_init_47 : decode cX3_init 47 = .ok (.iconst 0, 1) := by decide +kernel
theorem dX3_init_48 : decode cX3_init 48 = .ok (.putfield 32, 3) := by decide +kernel
theorem dX3_init_51 : decode cX3_init 51 = .ok (.aload_n 0, 1) := by decide +kernel
theorem dX3_init_52 : decode cX3_init 52 = .ok (.iconst 0, 1) := by decide +kernel
theorem dX3_init_53 : decode cX3_init 53 = .ok (.putfield 36, 3) := by decide +kernel
theorem dX3_init_56 : decode cX3_init 56 = .ok (.aload_n 0, 1) := by decide +kernel
theorem dX3_init_57 : decode cX3_init 57 = .ok (.lconst 0, 1) := by decide +kernel
theorem dX3_init_58 : decode cX3_init 58 = .ok (.putfield 39, 3) := by decide +kernel
theorem dX3_init_61 : decode cX3_init 61 = .ok (.aload_n 0, 1) := by decide +kernel
theorem dX3_init_62 : decode cX3_init 62 = .ok (.lconst 0, 1) := by decide +kernel
theorem dX3_init_63 : decode cX3_init 63 = .ok (.putfield 43, 3) := by decide +kernel
theorem dX3_init_66 : decode cX3_init 66 = .ok (.aload_n 0, 1) := by decide +kernel
theorem dX3_init_67 : decode cX3_init 67 = .ok (.iconst 0, 1) := by decide +kernel
theorem dX3_init_68 : decode cX3_init 68 = .ok (.putfield 46, 3) := by decide +kernel
theorem dX3_init_71 : decode cX3_init 71 = .ok (.aload_n 0, 1) := by decide +kernel
theorem dX3_init_72 : decode cX3_init 72 = .ok (.iconst 0, 1) := by decide +kernel
theorem dX3_init_73 : decode cX3_init 73 = .ok (.putfield 49, 3) := by decide +kernel
theorem dX3_init_76 : decode cX3_init 76 = .ok (.return_, 1) := by decide +kernel
theorem dX3_forget_0 : decode cX3_forget 0 = .ok (.aload_n 0, 1) := by decide +kernel
theorem dX3_forget_1 : decode cX3_forget 1 = .ok (.iconst 0, 1) := by decide +kernel
theorem dX3_forget_2 : decode cX3_forget 2 = .ok (.putfield 28, 3) := by decide +kernel
theorem dX3_forget_5 : decode cX3_forget 5 = .ok (.return_, 1) := by decide +kernel
theorem dX3_prepare_0 : decode cX3_prepare 0 = .ok (.aload_n 0, 1) := by decide +kernel
theorem dX3_prepare_1 : decode cX3_prepare 1 = .ok (.getfield 28, 3) := by decide +kernel
theorem dX3_prepare_4 : decode cX3_prepare 4 = .ok (.ifCond .eq 4, 3) := by decide +kernel
theorem dX3_prepare_7 : decode cX3_prepare 7 = .ok (.return_, 1) := by decide +kernel
theorem dX3_prepare_8 : decode cX3_prepare 8 = .ok (.aload_n 0, 1) := by decide +kernel
theorem dX3_prepare_9 : decode cX3_prepare 9 = .ok (.getfield 11, 3) := by decide +kernel
theorem dX3_prepare_12 : decode cX3_prepare 12 = .ok (.bipush (-2), 2) := by decide +kernel
theorem dX3_prepare_14 : decode cX3_prepare 14 = .ok (.invokestatic 52, 3) := by decide +kernel
theorem dX3_prepare_17 : decode cX3_prepare 17 = .ok (.aload_n 0, 1) := by decide +kernel
theorem dX3_prepare_18 : decode cX3_prepare 18 = .ok (.aload_n 1, 1) := by decide +kernel
theorem dX3_prepare_19 : decode cX3_prepare 19 = .ok (.aload_n 1, 1) := by decide +kernel
theorem dX3_prepare_20 : decode cX3_prepare 20 = .ok (.getfield 58, 3) := by decide +kernel
theorem dX3_prepare_23 : decode cX3_prepare 23 = .ok (.getfield 64, 3) := by decide +kernel
theorem dX3_prepare_26 : decode cX3_prepare 26 = .ok (.iconst 0, 1) := by decide +kernel
theorem dX3_prepare_27 : decode cX3_prepare 27 = .ok (.invokevirtual 69, 3) := by decide +kernel
theorem dX3_prepare_30 : decode cX3_prepare 30 = .ok (.aload_n 0, 1) := by decide +kernel
theorem dX3_prepare_31 : decode cX3_prepare 31 = .ok (.aload_n 0, 1) := by decide +kernel
theorem dX3_prepare_32 : decode cX3_prepare 32 = .ok (.getfield 15, 3) := by decide +kernel
theorem dX3_prepare_35 : decode cX3_prepare 35 = .ok (.aload_n 1, 1) := by decide +kernel
theorem dX3_prepare_36 : decode cX3_prepare 36 = .ok (.getfield 58, 3) := by decide +kernel
theorem dX3_prepare_39 : decode cX3_prepare 39 = .ok (.invokevirtual 73, 3) := by decide +kernel
theorem dX3_prepare_42 : decode cX3_prepare 42 = .ok (.iaload, 1) := by decide +kernel
theorem dX3_prepare_43 : decode cX3_prepare 43 = .ok (.i2l, 1) := by decide +kernel
theorem dX3_prepare_44 : decode cX3_prepare 44 = .ok (.putfield 39, 3) := by decide +kernel
theorem dX3_prepare_47 : decode cX3_prepare 47 = .ok (.aload_n 0, 1) := by decide +kernel
theorem dX3_prepare_48 : decode cX3_prepare 48 = .ok (.aload_n 1, 1) := by decide +kernel
theorem dX3_prepare_49 : decode cX3_prepare 49 = .ok (.getfield 58, 3) := by decide +kernel
theorem dX3_prepare_52 : decode cX3_prepare 52 = .ok (.invokevirtual 73, 3) := by decide +kernel
theorem dX3_prepare_55 : decode cX3_prepare 55 = .ok (.invokevirtual 77, 3) := by decide +kernel
theorem dX3_prepare_58 : decode cX3_prepare 58 = .ok (.istore_n 2, 1) := by decide +kernel
theorem dX3_prepare_59 : decode cX3_prepare 59 = .ok (.aload_n 0, 1) := by decide +kernel
theorem dX3_prepare_60 : decode cX3_prepare 60 = .ok (.aload_n 1, 1) := by decide +kernel
theorem dX3_prepare_61 : decode cX3_prepare 61 = .ok (.iload_n 2, 1) := by decide +kernel
theorem dX3_prepare_62 : decode cX3_prepare 62 = .ok (.invokevirtual 81, 3) := by decide +kernel
theorem dX3_prepare_65 : decode cX3_prepare 65 = .ok (.aload_n 0, 1) := by decide +kernel
theorem dX3_prepare_66 : decode cX3_prepare 66 = .ok (.aload_n 1, 1) := by decide +kernel
theorem dX3_prepare_67 : decode cX3_prepare 67 = .ok (.iload_n 2, 1) := by decide +kernel
theorem dX3_prepare_68 : decode cX3_prepare 68 = .ok (.invokevirtual 85, 3) := by decide +kernel
theorem dX3_prepare_71 : decode cX3_prepare 71 = .ok (.aload_n 0, 1) := by decide +kernel
theorem dX3_prepare_72 : decode cX3_prepare 72 = .ok (.iconst 1, 1) := by decide +kernel
theorem dX3_prepare_73 : decode cX3_prepare 73 = .ok (.putfield 28, 3) := by decide +kernel
theorem dX3_prepare_76 : decode cX3_prepare 76 = .ok (.return_, 1) := by decide +kernel
theorem dX3_countWays_0 : decode cX3_countWays 0 = .ok (.aload_n 0, 1) := by decide +kernel
theorem dX3_countWays_1 : decode cX3_countWays 1 = .ok (.getfield 15, 3) := by decide +kernel
theorem dX3_countWays_4 : decode cX3_countWays 4 = .ok (.iconst 0, 1) := by decide +kernel
theorem dX3_countWays_5 : decode cX3_countWays 5 = .ok (.invokestatic 52, 3) := by decide +kernel
theorem dX3_countWays_8 : decode cX3_countWays 8 = .ok (.aload_n 0, 1) := by decide +kernel
theorem dX3_countWays_9 : decode cX3_countWays 9 = .ok (.getfield 15, 3) := by decide +kernel
theorem dX3_countWays_12 : decode cX3_countWays 12 = .ok (.iconst 0, 1) := by decide +kernel
theorem dX3_countWays_13 : decode cX3_countWays 13 = .ok (.iconst 1, 1) := by decide +kernel
theorem dX3_countWays_14 : decode cX3_countWays 14 = .ok (.iastore, 1) := by decide +kernel
theorem dX3_countWays_15 : decode cX3_countWays 15 = .ok (.aload_n 1, 1) := by decide +kernel
theorem dX3_countWays_16 : decode cX3_countWays 16 = .ok (.getfield 58, 3) := by decide +kernel
theorem dX3_countWays_19 : decode cX3_countWays 19 = .ok (.invokevirtual 73, 3) := by decide +kernel
theorem dX3_countWays_22 : decode cX3_countWays 22 = .ok (.istore 4, 2) := by decide +kernel
theorem dX3_countWays_24 : decode cX3_countWays 24 = .ok (.iconst 0, 1) := by decide +kernel
theorem dX3_countWays_25 : decode cX3_countWays 25 = .ok (.istore 5, 2) := by decide +kernel
theorem dX3_countWays_27 : decode cX3_countWays 27 = .ok (.iload 5, 2) := by decide +kernel
theorem dX3_countWays_29 : decode cX3_countWays 29 = .ok (.sipush 4096, 3) := by decide +kernel
theorem dX3_countWays_32 : decode cX3_countWays 32 = .ok (.if_icmp .ge 43, 3) := by decide +kernel
theorem dX3_countWays_35 : decode cX3_countWays 35 = .ok (.iload 5, 2) := by decide +kernel
theorem dX3_countWays_37 : decode cX3_countWays 37 = .ok (.iload 4, 2) := by decide +kernel
theorem dX3_countWays_39 : decode cX3_countWays 39 = .ok (.if_icmp .gt 36, 3) := by decide +kernel
theorem dX3_countWays_42 : decode cX3_countWays 42 = .ok (.aload_n 0, 1) := by decide +kernel
theorem dX3_countWays_43 : decode cX3_countWays 43 = .ok (.getfield 15, 3) := by decide +kernel
theorem dX3_countWays_46 : decode cX3_countWays 46 = .ok (.iload 5, 2) := by decide +kernel
theorem dX3_countWays_48 : decode cX3_countWays 48 = .ok (.iaload, 1) := by decide +kernel
theorem dX3_countWays_49 : decode cX3_countWays 49 = .ok (.ifCond .eq 20, 3) := by decide +kernel
theorem dX3_countWays_52 : decode cX3_countWays 52 = .ok (.iload 5, 2) := by decide +kernel
theorem dX3_countWays_54 : decode cX3_countWays 54 = .ok (.invokestatic 88, 3) := by decide +kernel
theorem dX3_countWays_57 : decode cX3_countWays 57 = .ok (.iload_n 2, 1) := by decide +kernel
theorem dX3_countWays_58 : decode cX3_countWays 58 = .ok (.if_icmp .ge 11, 3) := by decide +kernel
theorem dX3_countWays_61 : decode cX3_countWays 61 = .ok (.aload_n 0, 1) := by decide +kernel
theorem dX3_countWays_62 : decode cX3_countWays 62 = .ok (.aload_n 1, 1) := by decide +kernel
theorem dX3_countWays_63 : decode cX3_countWays 63 = .ok (.iload 5, 2) := by decide +kernel
theorem dX3_countWays_65 : decode cX3_countWays 65 = .ok (.iload_n 3, 1) := by decide +kernel
theorem dX3_countWays_66 : decode cX3_countWays 66 = .ok (.invokevirtual 93, 3) := by decide +kernel
theorem dX3_countWays_69 : decode cX3_countWays 69 = .ok (.iinc 5 1, 3) := by decide +kernel
theorem dX3_countWays_72 : decode cX3_countWays 72 = .ok (.goto (-45), 3) := by decide +kernel
theorem dX3_countWays_75 : decode cX3_countWays 75 = .ok (.return_, 1) := by decide +kernel
theorem dX3_spread_0 : decode cX3_spread 0 = .ok (.aload_n 1, 1) := by decide +kernel
theorem dX3_spread_1 : decode cX3_spread 1 = .ok (.getfield 58, 3) := by decide +kernel
theorem dX3_spread_4 : decode cX3_spread 4 = .ok (.astore 4, 2) := by decide +kernel
theorem dX3_spread_6 : decode cX3_spread 6 = .ok (.iload_n 2, 1) := by decide +kernel
theorem dX3_spread_7 : decode cX3_spread 7 = .ok (.invokestatic 88, 3) := by decide +kernel
theorem dX3_spread_10 : decode cX3_spread 10 = .ok (.istore 5, 2) := by decide +kernel
theorem dX3_spread_12 : decode cX3_spread 12 = .ok (.aload 4, 2) := by decide +kernel
theorem dX3_spread_14 : decode cX3_spread 14 = .ok (.iload_n 2, 1) := by decide +kernel
theorem dX3_spread_15 : decode cX3_spread 15 = .ok (.invokevirtual 96, 3) := by decide +kernel
theorem dX3_spread_18 : decode cX3_spread 18 = .ok (.istore 6, 2) := by decide +kernel
theorem dX3_spread_20 : decode cX3_spread 20 = .ok (.iconst 0, 1) := by decide +kernel
theorem dX3_spread_21 : decode cX3_spread 21 = .ok (.istore 7, 2) := by decide +kernel
theorem dX3_spread_23 : decode cX3_spread 23 = .ok (.iload 7, 2) := by decide +kernel
theorem dX3_spread_25 : decode cX3_spread 25 = .ok (.aload 4, 2) := by decide +kernel
theorem dX3_spread_27 : decode cX3_spread 27 = .ok (.getfield 64, 3) := by decide +kernel
theorem dX3_spread_30 : decode cX3_spread 30 = .ok (.if_icmp .ge 88, 3) := by decide +kernel
theorem dX3_spread_33 : decode cX3_spread 33 = .ok (.iload_n 2, 1) := by decide +kernel
theorem dX3_spread_34 : decode cX3_spread 34 = .ok (.iload 7, 2) := by decide +kernel
theorem dX3_spread_36 : decode cX3_spread 36 = .ok (.ishr, 1) := by decide +kernel
theorem dX3_spread_37 : decode cX3_spread 37 = .ok (.iconst 1, 1) := by decide +kernel
theorem dX3_spread_38 : decode cX3_spread 38 = .ok (.iand, 1) := by decide +kernel
theorem dX3_spread_39 : decode cX3_spread 39 = .ok (.ifCond .ne 31, 3) := by decide +kernel
theorem dX3_spread_42 : decode cX3_spread 42 = .ok (.iload_n 3, 1) := by decide +kernel
theorem dX3_spread_43 : decode cX3_spread 43 = .ok (.ifCond .eq 23, 3) := by decide +kernel
theorem dX3_spread_46 : decode cX3_spread 46 = .ok (.aload_n 1, 1) := by decide +kernel
theorem dX3_spread_47 : decode cX3_spread 47 = .ok (.getfield 99, 3) := by decide +kernel
theorem dX3_spread_50 : decode cX3_spread 50 = .ok (.iload 5, 2) := by decide +kernel
theorem dX3_spread_52 : decode cX3_spread 52 = .ok (.aload 4, 2) := by decide +kernel
theorem dX3_spread_54 : decode cX3_spread 54 = .ok (.getfield 103, 3) := by decide +kernel
theorem dX3_spread_57 : decode cX3_spread 57 = .ok (.iload 7, 2) := by decide +kernel
theorem dX3_spread_59 : decode cX3_spread 59 = .ok (.iaload, 1) := by decide +kernel
theorem dX3_spread_60 : decode cX3_spread 60 = .ok (.invokevirtual 106, 3) := by decide +kernel
theorem dX3_spread_63 : decode cX3_spread 63 = .ok (.ifCond .eq 7, 3) := by decide +kernel
theorem dX3_spread_66 : decode cX3_spread 66 = .ok (.iconst 1, 1) := by decide +kernel
theorem dX3_spread_67 : decode cX3_spread 67 = .ok (.goto 4, 3) := by decide +kernel
theorem dX3_spread_70 : decode cX3_spread 70 = .ok (.iconst 0, 1) := by decide +kernel
theorem dX3_spread_71 : decode cX3_spread 71 = .ok (.istore 8, 2) := by decide +kernel
theorem dX3_spread_73 : decode cX3_spread 73 = .ok (.iload 8, 2) := by decide +kernel
theorem dX3_spread_75 : decode cX3_spread 75 = .ok (.ifCond .eq 37, 3) := by decide +kernel
theorem dX3_spread_78 : decode cX3_spread 78 = .ok (.aload_n 0, 1) := by decide +kernel
theorem dX3_spread_79 : decode cX3_spread 79 = .ok (.aload_n 1, 1) := by decide +kernel
theorem dX3_spread_80 : decode cX3_spread 80 = .ok (.iload 7, 2) := by decide +kernel
theorem dX3_spread_82 : decode cX3_spread 82 = .ok (.iload_n 2, 1) := by decide +kernel
theorem dX3_spread_83 : decode cX3_spread 83 = .ok (.iload 6, 2) := by decide +kernel
theorem dX3_spread_85 : decode cX3_spread 85 = .ok (.invokevirtual 112, 3) := by decide +kernel
theorem dX3_spread_88 : decode cX3_spread 88 = .ok (.iconst (-1), 1) := by decide +kernel
theorem dX3_spread_89 : decode cX3_spread 89 = .ok (.if_icmp .eq 23, 3) := by decide +kernel
theorem dX3_spread_92 : decode cX3_spread 92 = .ok (.aload_n 0, 1) := by decide +kernel
theorem dX3_spread_93 : decode cX3_spread 93 = .ok (.getfield 15, 3) := by decide +kernel
theorem dX3_spread_96 : decode cX3_spread 96 = .ok (.iload_n 2, 1) := by decide +kernel
theorem dX3_spread_97 : decode cX3_spread 97 = .ok (.iconst 1, 1) := by decide +kernel
theorem dX3_spread_98 : decode cX3_spread 98 = .ok (.iload 7, 2) := by decide +kernel
theorem dX3_spread_100 : decode cX3_spread 100 = .ok (.ishl, 1) := by decide +kernel
theorem dX3_spread_101 : decode cX3_spread 101 = .ok (.ior, 1) := by decide +kernel
theorem dX3_spread_102 : decode cX3_spread 102 = .ok (.dup2, 1) := by decide +kernel
theorem dX3_spread_103 : decode cX3_spread 103 = .ok (.iaload, 1) := by decide +kernel
theorem dX3_spread_104 : decode cX3_spread 104 = .ok (.aload_n 0, 1) := by decide +kernel
theorem dX3_spread_105 : decode cX3_spread 105 = .ok (.getfield 15, 3) := by decide +kernel
theorem dX3_spread_108 : decode cX3_spread 108 = .ok (.iload_n 2, 1) := by decide +kernel
theorem dX3_spread_109 : decode cX3_spread 109 = .ok (.iaload, 1) := by decide +kernel
theorem dX3_spread_110 : decode cX3_spread 110 = .ok (.iadd, 1) := by decide +kernel
theorem dX3_spread_111 : decode cX3_spread 111 = .ok (.iastore, 1) := by decide +kernel
theorem dX3_spread_112 : decode cX3_spread 112 = .ok (.iinc 7 1, 3) := by decide +kernel
theorem dX3_spread_115 : decode cX3_spread 115 = .ok (.goto (-92), 3) := by decide +kernel
theorem dX3_spread_118 : decode cX3_spread 118 = .ok (.return_, 1) := by decide +kernel
theorem dX3_liftUpon_0 : decode cX3_liftUpon 0 = .ok (.aload_n 1, 1) := by decide +kernel
theorem dX3_liftUpon_1 : decode cX3_liftUpon 1 = .ok (.getfield 58, 3) := by decide +kernel
theorem dX3_liftUpon_4 : decode cX3_liftUpon 4 = .ok (.iload_n 2, 1) := by decide +kernel
theorem dX3_liftUpon_5 : decode cX3_liftUpon 5 = .ok (.iload_n 3, 1) := by decide +kernel
theorem dX3_liftUpon_6 : decode cX3_liftUpon 6 = .ok (.invokevirtual 116, 3) := by decide +kernel
theorem dX3_liftUpon_9 : decode cX3_liftUpon 9 = .ok (.ifCond .ne 5, 3) := by decide +kernel
theorem dX3_liftUpon_12 : decode cX3_liftUpon 12 = .ok (.iconst (-1), 1) := by decide +kernel
theorem dX3_liftUpon_13 : decode cX3_liftUpon 13 = .ok (.ireturn, 1) := by decide +kernel
theorem dX3_liftUpon_14 : decode cX3_liftUpon 14 = .ok (.iload_n 3, 1) := by decide +kernel
theorem dX3_liftUpon_15 : decode cX3_liftUpon 15 = .ok (.invokestatic 88, 3) := by decide +kernel
theorem dX3_liftUpon_18 : decode cX3_liftUpon 18 = .ok (.istore 5, 2) := by decide +kernel
theorem dX3_liftUpon_20 : decode cX3_liftUpon 20 = .ok (.iload_n 2, 1) := by decide +kernel
theorem dX3_liftUpon_21 : decode cX3_liftUpon 21 = .ok (.bipush 12, 2) := by decide +kernel
theorem dX3_liftUpon_23 : decode cX3_liftUpon 23 = .ok (.imul, 1) := by decide +kernel
theorem dX3_liftUpon_24 : decode cX3_liftUpon 24 = .ok (.iload 5, 2) := by decide +kernel
theorem dX3_liftUpon_26 : decode cX3_liftUpon 26 = .ok (.iadd, 1) := by decide +kernel
theorem dX3_liftUpon_27 : decode cX3_liftUpon 27 = .ok (.bipush 22, 2) := by decide +kernel
theorem dX3_liftUpon_29 : decode cX3_liftUpon 29 = .ok (.imul, 1) := by decide +kernel
theorem dX3_liftUpon_30 : decode cX3_liftUpon 30 = .ok (.iload 4, 2) := by decide +kernel
theorem dX3_liftUpon_32 : decode cX3_liftUpon 32 = .ok (.iadd, 1) := by decide +kernel
theorem dX3_liftUpon_33 : decode cX3_liftUpon 33 = .ok (.iconst 1, 1) := by decide +kernel
theorem dX3_liftUpon_34 : decode cX3_liftUpon 34 = .ok (.iadd, 1) := by decide +kernel
theorem dX3_liftUpon_35 : decode cX3_liftUpon 35 = .ok (.istore 6, 2) := by decide +kernel
theorem dX3_liftUpon_37 : decode cX3_liftUpon 37 = .ok (.iload 6, 2) := by decide +kernel
theorem dX3_liftUpon_39 : decode cX3_liftUpon 39 = .ok (.ifCond .lt 13, 3) := by decide +kernel
theorem dX3_liftUpon_42 : decode cX3_liftUpon 42 = .ok (.iload 6, 2) := by decide +kernel
theorem dX3_liftUpon_44 : decode cX3_liftUpon 44 = .ok (.aload_n 0, 1) := by decide +kernel
theorem dX3_liftUpon_45 : decode cX3_liftUpon 45 = .ok (.getfield 11, 3) := by decide +kernel
theorem dX3_liftUpon_48 : decode cX3_liftUpon 48 = .ok (.arraylength, 1) := by decide +kernel
theorem dX3_liftUpon_49 : decode cX3_liftUpon 49 = .ok (.if_icmp .lt 5, 3) := by decide +kernel
theorem dX3_liftUpon_52 : decode cX3_liftUpon 52 = .ok (.iconst (-1), 1) := by decide +kernel
theorem dX3_liftUpon_53 : decode cX3_liftUpon 53 = .ok (.ireturn, 1) := by decide +kernel
theorem dX3_liftUpon_54 : decode cX3_liftUpon 54 = .ok (.aload_n 0, 1) := by decide +kernel
theorem dX3_liftUpon_55 : decode cX3_liftUpon 55 = .ok (.getfield 11, 3) := by decide +kernel
theorem dX3_liftUpon_58 : decode cX3_liftUpon 58 = .ok (.iload 6, 2) := by decide +kernel
theorem dX3_liftUpon_60 : decode cX3_liftUpon 60 = .ok (.iaload, 1) := by decide +kernel
theorem dX3_liftUpon_61 : decode cX3_liftUpon 61 = .ok (.bipush (-2), 2) := by decide +kernel
theorem dX3_liftUpon_63 : decode cX3_liftUpon 63 = .ok (.if_icmp .ne 47, 3) := by decide +kernel
theorem dX3_liftUpon_66 : decode cX3_liftUpon 66 = .ok (.aload_n 0, 1) := by decide +kernel
theorem dX3_liftUpon_67 : decode cX3_liftUpon 67 = .ok (.getfield 24, 3) := by decide +kernel
theorem dX3_liftUpon_70 : decode cX3_liftUpon 70 = .ok (.aload_n 1, 1) := by decide +kernel
theorem dX3_liftUpon_71 : decode cX3_liftUpon 71 = .ok (.iload_n 2, 1) := by decide +kernel
theorem dX3_liftUpon_72 : decode cX3_liftUpon 72 = .ok (.iload 5, 2) := by decide +kernel
theorem dX3_liftUpon_74 : decode cX3_liftUpon 74 = .ok (.iload 4, 2) := by decide +kernel
theorem dX3_liftUpon_76 : decode cX3_liftUpon 76 = .ok (.invokevirtual 119, 3) := by decide +kernel
theorem dX3_liftUpon_79 : decode cX3_liftUpon 79 = .ok (.istore 7, 2) := by decide +kernel
theorem dX3_liftUpon_81 : decode cX3_liftUpon 81 = .ok (.aload_n 0, 1) := by decide +kernel
theorem dX3_liftUpon_82 : decode cX3_liftUpon 82 = .ok (.getfield 11, 3) := by decide +kernel
theorem dX3_liftUpon_85 : decode cX3_liftUpon 85 = .ok (.iload 6, 2) := by decide +kernel
theorem dX3_liftUpon_87 : decode cX3_liftUpon 87 = .ok (.iload 7, 2) := by decide +kernel
theorem dX3_liftUpon_89 : decode cX3_liftUpon 89 = .ok (.ifCond .eq 19, 3) := by decide +kernel
theorem dX3_liftUpon_92 : decode cX3_liftUpon 92 = .ok (.aload_n 0, 1) := by decide +kernel
theorem dX3_liftUpon_93 : decode cX3_liftUpon 93 = .ok (.getfield 24, 3) := by decide +kernel
theorem dX3_liftUpon_96 : decode cX3_liftUpon 96 = .ok (.aload_n 1, 1) := by decide +kernel
theorem dX3_liftUpon_97 : decode cX3_liftUpon 97 = .ok (.iload_n 2, 1) := by decide +kernel
theorem dX3_liftUpon_98 : decode cX3_liftUpon 98 = .ok (.iload 5, 2) := by decide +kernel
theorem dX3_liftUpon_100 : decode cX3_liftUpon 100 = .ok (.iload 4, 2) := by decide +kernel
theorem dX3_liftUpon_102 : decode cX3_liftUpon 102 = .ok (.invokevirtual 123, 3) := by decide +kernel
theorem dX3_liftUpon_105 : decode cX3_liftUpon 105 = .ok (.goto 4, 3) := by decide +kernel
theorem dX3_liftUpon_108 : decode cX3_liftUpon 108 = .ok (.iconst (-1), 1) := by decide +kernel
theorem dX3_liftUpon_109 : decode cX3_liftUpon 109 = .ok (.iastore, 1) := by decide +kernel
theorem dX3_liftUpon_110 : decode cX3_liftUpon 110 = .ok (.aload_n 0, 1) := by decide +kernel
theorem dX3_liftUpon_111 : decode cX3_liftUpon 111 = .ok (.getfield 11, 3) := by decide +kernel
theorem dX3_liftUpon_114 : decode cX3_liftUpon 114 = .ok (.iload 6, 2) := by decide +kernel
theorem dX3_liftUpon_116 : decode cX3_liftUpon 116 = .ok (.iaload, 1) := by decide +kernel
theorem dX3_liftUpon_117 : decode cX3_liftUpon 117 = .ok (.ireturn, 1) := by decide +kernel
theorem dX3_lowestOfMost_0 : decode cX3_lowestOfMost 0 = .ok (.iconst 0, 1) := by decide +kernel
theorem dX3_lowestOfMost_1 : decode cX3_lowestOfMost 1 = .ok (.istore_n 2, 1) := by decide +kernel
theorem dX3_lowestOfMost_2 : decode cX3_lowestOfMost 2 = .ok (.iconst 1, 1) := by decide +kernel
theorem dX3_lowestOfMost_3 : decode cX3_lowestOfMost 3 = .ok (.istore_n 3, 1) := by decide +kernel
theorem dX3_lowestOfMost_4 : decode cX3_lowestOfMost 4 = .ok (.iload_n 3, 1) := by decide +kernel
theorem dX3_lowestOfMost_5 : decode cX3_lowestOfMost 5 = .ok (.sipush 4096, 3) := by decide +kernel
theorem dX3_lowestOfMost_8 : decode cX3_lowestOfMost 8 = .ok (.if_icmp .ge 36, 3) := by decide +kernel
theorem dX3_lowestOfMost_11 : decode cX3_lowestOfMost 11 = .ok (.iload_n 3, 1) := by decide +kernel
theorem dX3_lowestOfMost_12 : decode cX3_lowestOfMost 12 = .ok (.iload_n 1, 1) := by decide +kernel
theorem dX3_lowestOfMost_13 : decode cX3_lowestOfMost 13 = .ok (.if_icmp .gt 31, 3) := by decide +kernel
theorem dX3_lowestOfMost_16 : decode cX3_lowestOfMost 16 = .ok (.aload_n 0, 1) := by decide +kernel
theorem dX3_lowestOfMost_17 : decode cX3_lowestOfMost 17 = .ok (.getfield 15, 3) := by decide +kernel
theorem dX3_lowestOfMost_20 : decode cX3_lowestOfMost 20 = .ok (.iload_n 3, 1) := by decide +kernel
theorem dX3_lowestOfMost_21 : decode cX3_lowestOfMost 21 = .ok (.iaload, 1) := by decide +kernel
theorem dX3_lowestOfMost_22 : decode cX3_lowestOfMost 22 = .ok (.ifCond .eq 16, 3) := by decide +kernel
theorem dX3_lowestOfMost_25 : decode cX3_lowestOfMost 25 = .ok (.iload_n 3, 1) := by decide +kernel
theorem dX3_lowestOfMost_26 : decode cX3_lowestOfMost 26 = .ok (.invokestatic 88, 3) := by decide +kernel
theorem dX3_lowestOfMost_29 : decode cX3_lowestOfMost 29 = .ok (.iload_n 2, 1) := by decide +kernel
theorem dX3_lowestOfMost_30 : decode cX3_lowestOfMost 30 = .ok (.invokestatic 88, 3) := by decide +kernel
theorem dX3_lowestOfMost_33 : decode cX3_lowestOfMost 33 = .ok (.if_icmp .le 5, 3) := by decide +kernel
theorem dX3_lowestOfMost_36 : decode cX3_lowestOfMost 36 = .ok (.iload_n 3, 1) := by decide +kernel
theorem dX3_lowestOfMost_37 : decode cX3_lowestOfMost 37 = .ok (.istore_n 2, 1) := by decide +kernel
theorem dX3_lowestOfMost_38 : decode cX3_lowestOfMost 38 = .ok (.iinc 3 1, 3) := by decide +kernel
theorem dX3_lowestOfMost_41 : decode cX3_lowestOfMost 41 = .ok (.goto (-37), 3) := by decide +kernel
theorem dX3_lowestOfMost_44 : decode cX3_lowestOfMost 44 = .ok (.iload_n 2, 1) := by decide +kernel
theorem dX3_lowestOfMost_45 : decode cX3_lowestOfMost 45 = .ok (.ireturn, 1) := by decide +kernel
theorem dX3_measure_0 : decode cX3_measure 0 = .ok (.aload_n 0, 1) := by decide +kernel
theorem dX3_measure_1 : decode cX3_measure 1 = .ok (.getfield 15, 3) := by decide +kernel
theorem dX3_measure_4 : decode cX3_measure 4 = .ok (.iload_n 2, 1) := by decide +kernel
theorem dX3_measure_5 : decode cX3_measure 5 = .ok (.iconst 0, 1) := by decide +kernel
theorem dX3_measure_6 : decode cX3_measure 6 = .ok (.iastore, 1) := by decide +kernel
theorem dX3_measure_7 : decode cX3_measure 7 = .ok (.iload_n 2, 1) := by decide +kernel
theorem dX3_measure_8 : decode cX3_measure 8 = .ok (.iconst 1, 1) := by decide +kernel
theorem dX3_measure_9 : decode cX3_measure 9 = .ok (.isub, 1) := by decide +kernel
theorem dX3_measure_10 : decode cX3_measure 10 = .ok (.istore_n 3, 1) := by decide +kernel
theorem dX3_measure_11 : decode cX3_measure 11 = .ok (.iload_n 3, 1) := by decide +kernel
theorem dX3_measure_12 : decode cX3_measure 12 = .ok (.ifCond .lt 56, 3) := by decide +kernel
theorem dX3_measure_15 : decode cX3_measure 15 = .ok (.iload_n 3, 1) := by decide +kernel
theorem dX3_measure_16 : decode cX3_measure 16 = .ok (.iload_n 2, 1) := by decide +kernel
theorem dX3_measure_17 : decode cX3_measure 17 = .ok (.iconst (-1), 1) := by decide +kernel
theorem dX3_measure_18 : decode cX3_measure 18 = .ok (.ixor, 1) := by decide +kernel
theorem dX3_measure_19 : decode cX3_measure 19 = .ok (.iand, 1) := by decide +kernel
theorem dX3_measure_20 : decode cX3_measure 20 = .ok (.ifCond .ne 16, 3) := by decide +kernel
theorem dX3_measure_23 : decode cX3_measure 23 = .ok (.aload_n 0, 1) := by decide +kernel
theorem dX3_measure_24 : decode cX3_measure 24 = .ok (.getfield 15, 3) := by decide +kernel
theorem dX3_measure_27 : decode cX3_measure 27 = .ok (.iload_n 3, 1) := by decide +kernel
theorem dX3_measure_28 : decode cX3_measure 28 = .ok (.iaload, 1) := by decide +kernel
theorem dX3_measure_29 : decode cX3_measure 29 = .ok (.ifCond .eq 7, 3) := by decide +kernel
theorem dX3_measure_32 : decode cX3_measure 32 = .ok (.iconst 1, 1) := by decide +kernel
theorem dX3_measure_33 : decode cX3_measure 33 = .ok (.goto 4, 3) := by decide +kernel
theorem dX3_measure_36 : decode cX3_measure 36 = .ok (.iconst 0, 1) := by decide +kernel
theorem dX3_measure_37 : decode cX3_measure 37 = .ok (.istore 4, 2) := by decide +kernel
theorem dX3_measure_39 : decode cX3_measure 39 = .ok (.aload_n 0, 1) := by decide +kernel
theorem dX3_measure_40 : decode cX3_measure 40 = .ok (.getfield 15, 3) := by decide +kernel
theorem dX3_measure_43 : decode cX3_measure 43 = .ok (.iload_n 3, 1) := by decide +kernel
theorem dX3_measure_44 : decode cX3_measure 44 = .ok (.iload 4, 2) := by decide +kernel
theorem dX3_measure_46 : decode cX3_measure 46 = .ok (.ifCond .eq 13, 3) := by decide +kernel
theorem dX3_measure_49 : decode cX3_measure 49 = .ok (.aload_n 0, 1) := by decide +kernel
theorem dX3_measure_50 : decode cX3_measure 50 = .ok (.aload_n 1, 1) := by decide +kernel
theorem dX3_measure_51 : decode cX3_measure 51 = .ok (.iload_n 3, 1) := by decide +kernel
theorem dX3_measure_52 : decode cX3_measure 52 = .ok (.iload_n 2, 1) := by decide +kernel
theorem dX3_measure_53 : decode cX3_measure 53 = .ok (.invokevirtual 126, 3) := by decide +kernel
theorem dX3_measure_56 : decode cX3_measure 56 = .ok (.goto 5, 3) := by decide +kernel
theorem dX3_measure_59 : decode cX3_measure 59 = .ok (.ldc 130, 2) := by decide +kernel
theorem dX3_measure_61 : decode cX3_measure 61 = .ok (.iastore, 1) := by decide +kernel
theorem dX3_measure_62 : decode cX3_measure 62 = .ok (.iinc 3 (-1), 3) := by decide +kernel
theorem dX3_measure_65 : decode cX3_measure 65 = .ok (.goto (-54), 3) := by decide +kernel
theorem dX3_measure_68 : decode cX3_measure 68 = .ok (.return_, 1) := by decide +kernel
theorem dX3_leastAhead_0 : decode cX3_leastAhead 0 = .ok (.aload_n 1, 1) := by decide +kernel
theorem dX3_leastAhead_1 : decode cX3_leastAhead 1 = .ok (.getfield 58, 3) := by decide +kernel
theorem dX3_leastAhead_4 : decode cX3_leastAhead 4 = .ok (.iload_n 2, 1) := by decide +kernel
theorem dX3_leastAhead_5 : decode cX3_leastAhead 5 = .ok (.invokevirtual 96, 3) := by decide +kernel
theorem dX3_leastAhead_8 : decode cX3_leastAhead 8 = .ok (.istore 4, 2) := by decide +kernel
theorem dX3_leastAhead_10 : decode cX3_leastAhead 10 = .ok (.ldc 130, 2) := by decide +kernel
theorem dX3_leastAhead_12 : decode cX3_leastAhead 12 = .ok (.istore 5, 2) := by decide +kernel
theorem dX3_leastAhead_14 : decode cX3_leastAhead 14 = .ok (.iconst 0, 1) := by decide +kernel
theorem dX3_leastAhead_15 : decode cX3_leastAhead 15 = .ok (.istore 6, 2) := by decide +kernel
theorem dX3_leastAhead_17 : decode cX3_leastAhead 17 = .ok (.iload 6, 2) := by decide +kernel
theorem dX3_leastAhead_19 : decode cX3_leastAhead 19 = .ok (.aload_n 1, 1) := by decide +kernel
theorem dX3_leastAhead_20 : decode cX3_leastAhead 20 = .ok (.getfield 58, 3) := by decide +kernel
theorem dX3_leastAhead_23 : decode cX3_leastAhead 23 = .ok (.getfield 64, 3) := by decide +kernel
theorem dX3_leastAhead_26 : decode cX3_leastAhead 26 = .ok (.if_icmp .ge 62, 3) := by decide +kernel
theorem dX3_leastAhead_29 : decode cX3_leastAhead 29 = .ok (.iload_n 3, 1) := by decide +kernel
theorem dX3_leastAhead_30 : decode cX3_leastAhead 30 = .ok (.iload_n 2, 1) := by decide +kernel
theorem dX3_leastAhead_31 : decode cX3_leastAhead 31 = .ok (.iconst (-1), 1) := by decide +kernel
theorem dX3_leastAhead_32 : decode cX3_leastAhead 32 = .ok (.ixor, 1) := by decide +kernel
theorem dX3_leastAhead_33 : decode cX3_leastAhead 33 = .ok (.iand, 1) := by decide +kernel
theorem dX3_leastAhead_34 : decode cX3_leastAhead 34 = .ok (.iload 6, 2) := by decide +kernel
theorem dX3_leastAhead_36 : decode cX3_leastAhead 36 = .ok (.ishr, 1) := by decide +kernel
theorem dX3_leastAhead_37 : decode cX3_leastAhead 37 = .ok (.iconst 1, 1) := by decide +kernel
theorem dX3_leastAhead_38 : decode cX3_leastAhead 38 = .ok (.iand, 1) := by decide +kernel
theorem dX3_leastAhead_39 : decode cX3_leastAhead 39 = .ok (.iconst 1, 1) := by decide +kernel
theorem dX3_leastAhead_40 : decode cX3_leastAhead 40 = .ok (.if_icmp .ne 42, 3) := by decide +kernel
theorem dX3_leastAhead_43 : decode cX3_leastAhead 43 = .ok (.aload_n 0, 1) := by decide +kernel
theorem dX3_leastAhead_44 : decode cX3_leastAhead 44 = .ok (.aload_n 1, 1) := by decide +kernel
theorem dX3_leastAhead_45 : decode cX3_leastAhead 45 = .ok (.iload 6, 2) := by decide +kernel
theorem dX3_leastAhead_47 : decode cX3_leastAhead 47 = .ok (.iload_n 2, 1) := by decide +kernel
theorem dX3_leastAhead_48 : decode cX3_leastAhead 48 = .ok (.iload 4, 2) := by decide +kernel
theorem dX3_leastAhead_50 : decode cX3_leastAhead 50 = .ok (.invokevirtual 112, 3) := by decide +kernel
theorem dX3_leastAhead_53 : decode cX3_leastAhead 53 = .ok (.istore 7, 2) := by decide +kernel
theorem dX3_leastAhead_55 : decode cX3_leastAhead 55 = .ok (.iload 7, 2) := by decide +kernel
theorem dX3_leastAhead_57 : decode cX3_leastAhead 57 = .ok (.iconst (-1), 1) := by decide +kernel
theorem dX3_leastAhead_58 : decode cX3_leastAhead 58 = .ok (.if_icmp .eq 24, 3) := by decide +kernel
