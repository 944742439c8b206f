theorem dX7_init_0 : decode cX7_init 0 = .ok (.aload_n 0, 1) := by decide +kernel
theorem dX7_init_1 : decode cX7_init 1 = .ok (.invokespecial 5, 3) := by decide +kernel
theorem dX7_init_4 : decode cX7_init 4 = .ok (.aload_n 0, 1) := by decide +kernel
theorem dX7_init_5 : decode cX7_init 5 = .ok (.sipush 660, 3) := by decide +kernel
theorem dX7_init_8 : decode cX7_init 8 = .ok (.newarray .int, 2) := by decide +kernel
theorem dX7_init_10 : decode cX7_init 10 = .ok (.putfield 11, 3) := by decide +kernel
theorem dX7_init_13 : decode cX7_init 13 = .ok (.aload_n 0, 1) := by decide +kernel
theorem dX7_init_14 : decode cX7_init 14 = .ok (.iconst 0, 1) := by decide +kernel
theorem dX7_init_15 : decode cX7_init 15 = .ok (.putfield 15, 3) := by decide +kernel
theorem dX7_init_18 : decode cX7_init 18 = .ok (.aload_n 0, 1) := by decide +kernel
theorem dX7_init_19 : decode cX7_init 19 = .ok (.iconst 0, 1) := by decide +kernel
theorem dX7_init_20 : decode cX7_init 20 = .ok (.putfield 19, 3) := by decide +kernel
theorem dX7_init_23 : decode cX7_init 23 = .ok (.return_, 1) := by decide +kernel
theorem dX7_keep_0 : decode cX7_keep 0 = .ok (.aload_n 0, 1) := by decide +kernel
theorem dX7_keep_1 : decode cX7_keep 1 = .ok (.getfield 19, 3) := by decide +kernel
theorem dX7_keep_4 : decode cX7_keep 4 = .ok (.bipush 30, 2) := by decide +kernel
theorem dX7_keep_6 : decode cX7_keep 6 = .ok (.if_icmp .lt 22, 3) := by decide +kernel
theorem dX7_keep_9 : decode cX7_keep 9 = .ok (.aload_n 0, 1) := by decide +kernel
theorem dX7_keep_10 : decode cX7_keep 10 = .ok (.aload_n 0, 1) := by decide +kernel
theorem dX7_keep_11 : decode cX7_keep 11 = .ok (.getfield 15, 3) := by decide +kernel
theorem dX7_keep_14 : decode cX7_keep 14 = .ok (.iconst 1, 1) := by decide +kernel
theorem dX7_keep_15 : decode cX7_keep 15 = .ok (.iadd, 1) := by decide +kernel
theorem dX7_keep_16 : decode cX7_keep 16 = .ok (.bipush 30, 2) := by decide +kernel
theorem dX7_keep_18 : decode cX7_keep 18 = .ok (.irem, 1) := by decide +kernel
theorem dX7_keep_19 : decode cX7_keep 19 = .ok (.putfield 15, 3) := by decide +kernel
theorem dX7_keep_22 : decode cX7_keep 22 = .ok (.aload_n 0, 1) := by decide +kernel
theorem dX7_keep_23 : decode cX7_keep 23 = .ok (.bipush 29, 2) := by decide +kernel
theorem dX7_keep_25 : decode cX7_keep 25 = .ok (.putfield 19, 3) := by decide +kernel
theorem dX7_keep_28 : decode cX7_keep 28 = .ok (.aload_n 0, 1) := by decide +kernel
theorem dX7_keep_29 : decode cX7_keep 29 = .ok (.getfield 15, 3) := by decide +kernel
theorem dX7_keep_32 : decode cX7_keep 32 = .ok (.aload_n 0, 1) := by decide +kernel
theorem dX7_keep_33 : decode cX7_keep 33 = .ok (.getfield 19, 3) := by decide +kernel
theorem dX7_keep_36 : decode cX7_keep 36 = .ok (.iadd, 1) := by decide +kernel
theorem dX7_keep_37 : decode cX7_keep 37 = .ok (.bipush 30, 2) := by decide +kernel
theorem dX7_keep_39 : decode cX7_keep 39 = .ok (.irem, 1) := by decide +kernel
theorem dX7_keep_40 : decode cX7_keep 40 = .ok (.bipush 22, 2) := by decide +kernel
theorem dX7_keep_42 : decode cX7_keep 42 = .ok (.imul, 1) := by decide +kernel
theorem dX7_keep_43 : decode cX7_keep 43 = .ok (.istore_n 3, 1) := by decide +kernel
theorem dX7_keep_44 : decode cX7_keep 44 = .ok (.aload_n 0, 1) := by decide +kernel
theorem dX7_keep_45 : decode cX7_keep 45 = .ok (.getfield 11, 3) := by decide +kernel
theorem dX7_keep_48 : decode cX7_keep 48 = .ok (.iload_n 3, 1) := by decide +kernel
theorem dX7_keep_49 : decode cX7_keep 49 = .ok (.iload_n 1, 1) := by decide +kernel
theorem dX7_keep_50 : decode cX7_keep 50 = .ok (.iastore, 1) := by decide +kernel
theorem dX7_keep_51 : decode cX7_keep 51 = .ok (.aload_n 0, 1) := by decide +kernel
theorem dX7_keep_52 : decode cX7_keep 52 = .ok (.getfield 11, 3) := by decide +kernel
theorem dX7_keep_55 : decode cX7_keep 55 = .ok (.iload_n 3, 1) := by decide +kernel
theorem dX7_keep_56 : decode cX7_keep 56 = .ok (.iconst 1, 1) := by decide +kernel
theorem dX7_keep_57 : decode cX7_keep 57 = .ok (.iadd, 1) := by decide +kernel
theorem dX7_keep_58 : decode cX7_keep 58 = .ok (.aload_n 2, 1) := by decide +kernel
theorem dX7_keep_59 : decode cX7_keep 59 = .ok (.getfield 22, 3) := by decide +kernel
theorem dX7_keep_62 : decode cX7_keep 62 = .ok (.iastore, 1) := by decide +kernel
theorem dX7_keep_63 : decode cX7_keep 63 = .ok (.aload_n 2, 1) := by decide +kernel
theorem dX7_keep_64 : decode cX7_keep 64 = .ok (.getfield 25, 3) := by decide +kernel
theorem dX7_keep_67 : decode cX7_keep 67 = .ok (.iconst 0, 1) := by decide +kernel
theorem dX7_keep_68 : decode cX7_keep 68 = .ok (.aload_n 0, 1) := by decide +kernel
theorem dX7_keep_69 : decode cX7_keep 69 = .ok (.getfield 11, 3) := by decide +kernel
theorem dX7_keep_72 : decode cX7_keep 72 = .ok (.iload_n 3, 1) := by decide +kernel
theorem dX7_keep_73 : decode cX7_keep 73 = .ok (.iconst 2, 1) := by decide +kernel
theorem dX7_keep_74 : decode cX7_keep 74 = .ok (.iadd, 1) := by decide +kernel
theorem dX7_keep_75 : decode cX7_keep 75 = .ok (.bipush 10, 2) := by decide +kernel
theorem dX7_keep_77 : decode cX7_keep 77 = .ok (.invokestatic 28, 3) := by decide +kernel
theorem dX7_keep_80 : decode cX7_keep 80 = .ok (.aload_n 2, 1) := by decide +kernel
theorem dX7_keep_81 : decode cX7_keep 81 = .ok (.getfield 34, 3) := by decide +kernel
theorem dX7_keep_84 : decode cX7_keep 84 = .ok (.iconst 0, 1) := by decide +kernel
theorem dX7_keep_85 : decode cX7_keep 85 = .ok (.aload_n 0, 1) := by decide +kernel
theorem dX7_keep_86 : decode cX7_keep 86 = .ok (.getfield 11, 3) := by decide +kernel
theorem dX7_keep_89 : decode cX7_keep 89 = .ok (.iload_n 3, 1) := by decide +kernel
theorem dX7_keep_90 : decode cX7_keep 90 = .ok (.bipush 12, 2) := by decide +kernel
theorem dX7_keep_92 : decode cX7_keep 92 = .ok (.iadd, 1) := by decide +kernel
theorem dX7_keep_93 : decode cX7_keep 93 = .ok (.bipush 10, 2) := by decide +kernel
theorem dX7_keep_95 : decode cX7_keep 95 = .ok (.invokestatic 28, 3) := by decide +kernel
theorem dX7_keep_98 : decode cX7_keep 98 = .ok (.aload_n 0, 1) := by decide +kernel
theorem dX7_keep_99 : decode cX7_keep 99 = .ok (.dup, 1) := by decide +kernel
theorem dX7_keep_100 : decode cX7_keep 100 = .ok (.getfield 19, 3) := by decide +kernel
theorem dX7_keep_103 : decode cX7_keep 103 = .ok (.iconst 1, 1) := by decide +kernel
theorem dX7_keep_104 : decode cX7_keep 104 = .ok (.iadd, 1) := by decide +kernel
theorem dX7_keep_105 : decode cX7_keep 105 = .ok (.putfield 19, 3) := by decide +kernel
theorem dX7_keep_108 : decode cX7_keep 108 = .ok (.return_, 1) := by decide +kernel
theorem dX7_takeLatest_0 : decode cX7_takeLatest 0 = .ok (.aload_n 0, 1) := by decide +kernel
theorem dX7_takeLatest_1 : decode cX7_takeLatest 1 = .ok (.dup, 1) := by decide +kernel
theorem dX7_takeLatest_2 : decode cX7_takeLatest 2 = .ok (.getfield 19, 3) := by decide +kernel
theorem dX7_takeLatest_5 : decode cX7_takeLatest 5 = .ok (.iconst 1, 1) := by decide +kernel
theorem dX7_takeLatest_6 : decode cX7_takeLatest 6 = .ok (.isub, 1) := by decide +kernel
theorem dX7_takeLatest_7 : decode cX7_takeLatest 7 = .ok (.putfield 19, 3) := by decide +kernel
theorem dX7_takeLatest_10 : decode cX7_takeLatest 10 = .ok (.aload_n 0, 1) := by decide +kernel
theorem dX7_takeLatest_11 : decode cX7_takeLatest 11 = .ok (.getfield 15, 3) := by decide +kernel
theorem dX7_takeLatest_14 : decode cX7_takeLatest 14 = .ok (.aload_n 0, 1) := by decide +kernel
theorem dX7_takeLatest_15 : decode cX7_takeLatest 15 = .ok (.getfield 19, 3) := by decide +kernel
theorem dX7_takeLatest_18 : decode cX7_takeLatest 18 = .ok (.iadd, 1) := by decide +kernel
theorem dX7_takeLatest_19 : decode cX7_takeLatest 19 = .ok (.bipush 30, 2) := by decide +kernel
theorem dX7_takeLatest_21 : decode cX7_takeLatest 21 = .ok (.irem, 1) := by decide +kernel
theorem dX7_takeLatest_22 : decode cX7_takeLatest 22 = .ok (.bipush 22, 2) := by decide +kernel
theorem dX7_takeLatest_24 : decode cX7_takeLatest 24 = .ok (.imul, 1) := by decide +kernel
theorem dX7_takeLatest_25 : decode cX7_takeLatest 25 = .ok (.istore_n 2, 1) := by decide +kernel
theorem dX7_takeLatest_26 : decode cX7_takeLatest 26 = .ok (.aload_n 0, 1) := by decide +kernel
theorem dX7_takeLatest_27 : decode cX7_takeLatest 27 = .ok (.getfield 11, 3) := by decide +kernel
theorem dX7_takeLatest_30 : decode cX7_takeLatest 30 = .ok (.iload_n 2, 1) := by decide +kernel
theorem dX7_takeLatest_31 : decode cX7_takeLatest 31 = .ok (.iconst 1, 1) := by decide +kernel
theorem dX7_takeLatest_32 : decode cX7_takeLatest 32 = .ok (.iadd, 1) := by decide +kernel
theorem dX7_takeLatest_33 : decode cX7_takeLatest 33 = .ok (.iaload, 1) := by decide +kernel
theorem dX7_takeLatest_34 : decode cX7_takeLatest 34 = .ok (.bipush 10, 2) := by decide +kernel
theorem dX7_takeLatest_36 : decode cX7_takeLatest 36 = .ok (.invokestatic 37, 3) := by decide +kernel
theorem dX7_takeLatest_39 : decode cX7_takeLatest 39 = .ok (.istore_n 3, 1) := by decide +kernel
theorem dX7_takeLatest_40 : decode cX7_takeLatest 40 = .ok (.aload_n 0, 1) := by decide +kernel
theorem dX7_takeLatest_41 : decode cX7_takeLatest 41 = .ok (.getfield 11, 3) := by decide +kernel
theorem dX7_takeLatest_44 : decode cX7_takeLatest 44 = .ok (.iload_n 2, 1) := by decide +kernel
theorem dX7_takeLatest_45 : decode cX7_takeLatest 45 = .ok (.iconst 2, 1) := by decide +kernel
theorem dX7_takeLatest_46 : decode cX7_takeLatest 46 = .ok (.iadd, 1) := by decide +kernel
theorem dX7_takeLatest_47 : decode cX7_takeLatest 47 = .ok (.aload_n 1, 1) := by decide +kernel
theorem dX7_takeLatest_48 : decode cX7_takeLatest 48 = .ok (.getfield 25, 3) := by decide +kernel
theorem dX7_takeLatest_51 : decode cX7_takeLatest 51 = .ok (.iconst 0, 1) := by decide +kernel
theorem dX7_takeLatest_52 : decode cX7_takeLatest 52 = .ok (.iload_n 3, 1) := by decide +kernel
theorem dX7_takeLatest_53 : decode cX7_takeLatest 53 = .ok (.invokestatic 28, 3) := by decide +kernel
theorem dX7_takeLatest_56 : decode cX7_takeLatest 56 = .ok (.aload_n 0, 1) := by decide +kernel
theorem dX7_takeLatest_57 : decode cX7_takeLatest 57 = .ok (.getfield 11, 3) := by decide +kernel
theorem dX7_takeLatest_60 : decode cX7_takeLatest 60 = .ok (.iload_n 2, 1) := by decide +kernel
theorem dX7_takeLatest_61 : decode cX7_takeLatest 61 = .ok (.bipush 12, 2) := by decide +kernel
theorem dX7_takeLatest_63 : decode cX7_takeLatest 63 = .ok (.iadd, 1) := by decide +kernel
theorem dX7_takeLatest_64 : decode cX7_takeLatest 64 = .ok (.aload_n 1, 1) := by decide +kernel
theorem dX7_takeLatest_65 : decode cX7_takeLatest 65 = .ok (.getfield 34, 3) := by decide +kernel
theorem dX7_takeLatest_68 : decode cX7_takeLatest 68 = .ok (.iconst 0, 1) := by decide +kernel
theorem dX7_takeLatest_69 : decode cX7_takeLatest 69 = .ok (.iload_n 3, 1) := by decide +kernel
theorem dX7_takeLatest_70 : decode cX7_takeLatest 70 = .ok (.invokestatic 28, 3) := by decide +kernel
theorem dX7_takeLatest_73 : decode cX7_takeLatest 73 = .ok (.aload_n 0, 1) := by decide +kernel
theorem dX7_takeLatest_74 : decode cX7_takeLatest 74 = .ok (.getfield 11, 3) := by decide +kernel
theorem dX7_takeLatest_77 : decode cX7_takeLatest 77 = .ok (.iload_n 2, 1) := by decide +kernel
theorem dX7_takeLatest_78 : decode cX7_takeLatest 78 = .ok (.iaload, 1) := by decide +kernel
theorem dX7_takeLatest_79 : decode cX7_takeLatest 79 = .ok (.ireturn, 1) := by decide +kernel
theorem dX7_takeAll_0 : decode cX7_takeAll 0 = .ok (.aload_n 1, 1) := by decide +kernel
theorem dX7_takeAll_1 : decode cX7_takeAll 1 = .ok (.getfield 11, 3) := by decide +kernel
theorem dX7_takeAll_4 : decode cX7_takeAll 4 = .ok (.iconst 0, 1) := by decide +kernel
theorem dX7_takeAll_5 : decode cX7_takeAll 5 = .ok (.aload_n 0, 1) := by decide +kernel
theorem dX7_takeAll_6 : decode cX7_takeAll 6 = .ok (.getfield 11, 3) := by decide +kernel
theorem dX7_takeAll_9 : decode cX7_takeAll 9 = .ok (.iconst 0, 1) := by decide +kernel
theorem dX7_takeAll_10 : decode cX7_takeAll 10 = .ok (.aload_n 0, 1) := by decide +kernel
theorem dX7_takeAll_11 : decode cX7_takeAll 11 = .ok (.getfield 11, 3) := by decide +kernel
theorem dX7_takeAll_14 : decode cX7_takeAll 14 = .ok (.arraylength, 1) := by decide +kernel
theorem dX7_takeAll_15 : decode cX7_takeAll 15 = .ok (.invokestatic 28, 3) := by decide +kernel
theorem dX7_takeAll_18 : decode cX7_takeAll 18 = .ok (.aload_n 0, 1) := by decide +kernel
theorem dX7_takeAll_19 : decode cX7_takeAll 19 = .ok (.aload_n 1, 1) := by decide +kernel
theorem dX7_takeAll_20 : decode cX7_takeAll 20 = .ok (.getfield 15, 3) := by decide +kernel
theorem dX7_takeAll_23 : decode cX7_takeAll 23 = .ok (.putfield 15, 3) := by decide +kernel
theorem dX7_takeAll_26 : decode cX7_takeAll 26 = .ok (.aload_n 0, 1) := by decide +kernel
theorem dX7_takeAll_27 : decode cX7_takeAll 27 = .ok (.aload_n 1, 1) := by decide +kernel
theorem dX7_takeAll_28 : decode cX7_takeAll 28 = .ok (.getfield 19, 3) := by decide +kernel
theorem dX7_takeAll_31 : decode cX7_takeAll 31 = .ok (.putfield 19, 3) := by decide +kernel
theorem dX7_takeAll_34 : decode cX7_takeAll 34 = .ok (.return_, 1) := by decide +kernel
theorem dX8_init_0 : decode cX8_init 0 = .ok (.aload_n 0, 1) := by decide +kernel
theorem dX8_init_1 : decode cX8_init 1 = .ok (.invokespecial 3, 3) := by decide +kernel
theorem dX8_init_4 : decode cX8_init 4 = .ok (.aload_n 0, 1) := by decide +kernel
theorem dX8_init_5 : decode cX8_init 5 = .ok (.bipush 12, 2) := by decide +kernel
theorem dX8_init_7 : decode cX8_init 7 = .ok (.newarray .int, 2) := by decide +kernel
theorem dX8_init_9 : decode cX8_init 9 = .ok (.putfield 9, 3) := by decide +kernel
theorem dX8_init_12 : decode cX8_init 12 = .ok (.aload_n 0, 1) := by decide +kernel
theorem dX8_init_13 : decode cX8_init 13 = .ok (.bipush 12, 2) := by decide +kernel
theorem dX8_init_15 : decode cX8_init 15 = .ok (.newarray .int, 2) := by decide +kernel
theorem dX8_init_17 : decode cX8_init 17 = .ok (.putfield 15, 3) := by decide +kernel
theorem dX8_init_20 : decode cX8_init 20 = .ok (.aload_n 0, 1) := by decide +kernel
theorem dX8_init_21 : decode cX8_init 21 = .ok (.bipush 12, 2) := by decide +kernel
theorem dX8_init_23 : decode cX8_init 23 = .ok (.newarray .int, 2) := by decide +kernel
theorem dX8_init_25 : decode cX8_init 25 = .ok (.putfield 18, 3) := by decide +kernel
theorem dX8_init_28 : decode cX8_init 28 = .ok (.aload_n 0, 1) := by decide +kernel
theorem dX8_init_29 : decode cX8_init 29 = .ok (.bipush 12, 2) := by decide +kernel
theorem dX8_init_31 : decode cX8_init 31 = .ok (.newarray .int, 2) := by decide +kernel
theorem dX8_init_33 : decode cX8_init 33 = .ok (.putfield 21, 3) := by decide +kernel
theorem dX8_init_36 : decode cX8_init 36 = .ok (.aload_n 0, 1) := by decide +kernel
theorem dX8_init_37 : decode cX8_init 37 = .ok (.bipush 12, 2) := by decide +kernel
theorem dX8_init_39 : decode cX8_init 39 = .ok (.newarray .int, 2) := by decide +kernel
theorem dX8_init_41 : decode cX8_init 41 = .ok (.putfield 24, 3) := by decide +kernel
theorem dX8_init_44 : decode cX8_init 44 = .ok (.aload_n 0, 1) := by decide +kernel
theorem dX8_init_45 : decode cX8_init 45 = .ok (.iconst 0, 1) := by decide +kernel
theorem dX8_init_46 : decode cX8_init 46 = .ok (.putfield 27, 3) := by decide +kernel
theorem dX8_init_49 : decode cX8_init 49 = .ok (.return_, 1) := by decide +kernel
theorem dX8_has_0 : decode cX8_has 0 = .ok (.iload_n 1, 1) := by decide +kernel
theorem dX8_has_1 : decode cX8_has 1 = .ok (.ifCond .lt 21, 3) := by decide +kernel
theorem dX8_has_4 : decode cX8_has 4 = .ok (.iload_n 1, 1) := by decide +kernel
theorem dX8_has_5 : decode cX8_has 5 = .ok (.aload_n 0, 1) := by decide +kernel
theorem dX8_has_6 : decode cX8_has 6 = .ok (.getfield 27, 3) := by decide +kernel
theorem dX8_has_9 : decode cX8_has 9 = .ok (.if_icmp .ge 13, 3) := by decide +kernel
theorem dX8_has_12 : decode cX8_has 12 = .ok (.iload_n 1, 1) := by decide +kernel
theorem dX8_has_13 : decode cX8_has 13 = .ok (.bipush 12, 2) := by decide +kernel
theorem dX8_has_15 : decode cX8_has 15 = .ok (.if_icmp .ge 7, 3) := by decide +kernel
theorem dX8_has_18 : decode cX8_has 18 = .ok (.iconst 1, 1) := by decide +kernel
theorem dX8_has_19 : decode cX8_has 19 = .ok (.goto 4, 3) := by decide +kernel
theorem dX8_has_22 : decode cX8_has 22 = .ok (.iconst 0, 1) := by decide +kernel
theorem dX8_has_23 : decode cX8_has 23 = .ok (.ireturn, 1) := by decide +kernel
theorem dX8_all_0 : decode cX8_all 0 = .ok (.iconst 1, 1) := by decide +kernel
theorem dX8_all_1 : decode cX8_all 1 = .ok (.aload_n 0, 1) := by decide +kernel
theorem dX8_all_2 : decode cX8_all 2 = .ok (.getfield 27, 3) := by decide +kernel
theorem dX8_all_5 : decode cX8_all 5 = .ok (.ishl, 1) := by decide +kernel
theorem dX8_all_6 : decode cX8_all 6 = .ok (.iconst 1, 1) := by decide +kernel
theorem dX8_all_7 : decode cX8_all 7 = .ok (.isub, 1) := by decide +kernel
theorem dX8_all_8 : decode cX8_all 8 = .ok (.ireturn, 1) := by decide +kernel
theorem dX8_areTold_0 : decode cX8_areTold 0 = .ok (.iload_n 1, 1) := by decide +kernel
theorem dX8_areTold_1 : decode cX8_areTold 1 = .ok (.ifCond .lt 15, 3) := by decide +kernel
theorem dX8_areTold_4 : decode cX8_areTold 4 = .ok (.iload_n 1, 1) := by decide +kernel
theorem dX8_areTold_5 : decode cX8_areTold 5 = .ok (.aload_n 0, 1) := by decide +kernel
theorem dX8_areTold_6 : decode cX8_areTold 6 = .ok (.invokevirtual 31, 3) := by decide +kernel
theorem dX8_areTold_9 : decode cX8_areTold 9 = .ok (.if_icmp .gt 7, 3) := by decide +kernel
theorem dX8_areTold_12 : decode cX8_areTold 12 = .ok (.iconst 1, 1) := by decide +kernel
theorem dX8_areTold_13 : decode cX8_areTold 13 = .ok (.goto 4, 3) := by decide +kernel
theorem dX8_areTold_16 : decode cX8_areTold 16 = .ok (.iconst 0, 1) := by decide +kernel
theorem dX8_areTold_17 : decode cX8_areTold 17 = .ok (.ireturn, 1) := by decide +kernel
theorem dX8_isBorne_0 : decode cX8_isBorne 0 = .ok (.aload_n 0, 1) := by decide +kernel
theorem dX8_isBorne_1 : decode cX8_isBorne 1 = .ok (.getfield 21, 3) := by decide +kernel
theorem dX8_isBorne_4 : decode cX8_isBorne 4 = .ok (.iload_n 1, 1) := by decide +kernel
theorem dX8_isBorne_5 : decode cX8_isBorne 5 = .ok (.iaload, 1) := by decide +kernel
theorem dX8_isBorne_6 : decode cX8_isBorne 6 = .ok (.iload_n 2, 1) := by decide +kernel
theorem dX8_isBorne_7 : decode cX8_isBorne 7 = .ok (.iand, 1) := by decide +kernel
theorem dX8_isBorne_8 : decode cX8_isBorne 8 = .ok (.invokestatic 35, 3) := by decide +kernel
theorem dX8_isBorne_11 : decode cX8_isBorne 11 = .ok (.aload_n 0, 1) := by decide +kernel
theorem dX8_isBorne_12 : decode cX8_isBorne 12 = .ok (.getfield 24, 3) := by decide +kernel
theorem dX8_isBorne_15 : decode cX8_isBorne 15 = .ok (.iload_n 1, 1) := by decide +kernel
theorem dX8_isBorne_16 : decode cX8_isBorne 16 = .ok (.iaload, 1) := by decide +kernel
theorem dX8_isBorne_17 : decode cX8_isBorne 17 = .ok (.if_icmp .lt 7, 3) := by decide +kernel
theorem dX8_isBorne_20 : decode cX8_isBorne 20 = .ok (.iconst 1, 1) := by decide +kernel
theorem dX8_isBorne_21 : decode cX8_isBorne 21 = .ok (.goto 4, 3) := by decide +kernel
theorem dX8_isBorne_24 : decode cX8_isBorne 24 = .ok (.iconst 0, 1) := by decide +kernel
theorem dX8_isBorne_25 : decode cX8_isBorne 25 = .ok (.ireturn, 1) := by decide +kernel
theorem dX8_isStanding_0 : decode cX8_isStanding 0 = .ok (.iconst 0, 1) := by decide +kernel
theorem dX8_isStanding_1 : decode cX8_isStanding 1 = .ok (.istore_n 2, 1) := by decide +kernel
theorem dX8_isStanding_2 : decode cX8_isStanding 2 = .ok (.iload_n 2, 1) := by decide +kernel
theorem dX8_isStanding_3 : decode cX8_isStanding 3 = .ok (.aload_n 0, 1) := by decide +kernel
theorem dX8_isStanding_4 : decode cX8_isStanding 4 = .ok (.getfield 27, 3) := by decide +kernel
theorem dX8_isStanding_7 : decode cX8_isStanding 7 = .ok (.if_icmp .ge 29, 3) := by decide +kernel
theorem dX8_isStanding_10 : decode cX8_isStanding 10 = .ok (.iload_n 1, 1) := by decide +kernel
theorem dX8_isStanding_11 : decode cX8_isStanding 11 = .ok (.iload_n 2, 1) := by decide +kernel
theorem dX8_isStanding_12 : decode cX8_isStanding 12 = .ok (.ishr, 1) := by decide +kernel
theorem dX8_isStanding_13 : decode cX8_isStanding 13 = .ok (.iconst 1, 1) := by decide +kernel
theorem dX8_isStanding_14 : decode cX8_isStanding 14 = .ok (.iand, 1) := by decide +kernel
theorem dX8_isStanding_15 : decode cX8_isStanding 15 = .ok (.iconst 1, 1) := by decide +kernel
theorem dX8_isStanding_16 : decode cX8_isStanding 16 = .ok (.if_icmp .ne 14, 3) := by decide +kernel
theorem dX8_isStanding_19 : decode cX8_isStanding 19 = .ok (.aload_n 0, 1) := by decide +kernel
theorem dX8_isStanding_20 : decode cX8_isStanding 20 = .ok (.iload_n 2, 1) := by decide +kernel
theorem dX8_isStanding_21 : decode cX8_isStanding 21 = .ok (.iload_n 1, 1) := by decide +kernel
theorem dX8_isStanding_22 : decode cX8_isStanding 22 = .ok (.invokevirtual 41, 3) := by decide +kernel
theorem dX8_isStanding_25 : decode cX8_isStanding 25 = .ok (.ifCond .ne 5, 3) := by decide +kernel
theorem dX8_isStanding_28 : decode cX8_isStanding 28 = .ok (.iconst 0, 1) := by decide +kernel
theorem dX8_isStanding_29 : decode cX8_isStanding 29 = .ok (.ireturn, 1) := by decide +kernel
theorem dX8_isStanding_30 : decode cX8_isStanding 30 = .ok (.iinc 2 1, 3) := by decide +kernel
theorem dX8_isStanding_33 : decode cX8_isStanding 33 = .ok (.goto (-31), 3) := by decide +kernel
theorem dX8_isStanding_36 : decode cX8_isStanding 36 = .ok (.iconst 1, 1) := by decide +kernel
theorem dX8_isStanding_37 : decode cX8_isStanding 37 = .ok (.ireturn, 1) := by decide +kernel
theorem dX8_topOf_0 : decode cX8_topOf 0 = .ok (.iconst (-1), 1) := by decide +kernel
theorem dX8_topOf_1 : decode cX8_topOf 1 = .ok (.istore_n 2, 1) := by decide +kernel
theorem dX8_topOf_2 : decode cX8_topOf 2 = .ok (.iconst 0, 1) := by decide +kernel
theorem dX8_topOf_3 : decode cX8_topOf 3 = .ok (.istore_n 3, 1) := by decide +kernel
theorem dX8_topOf_4 : decode cX8_topOf 4 = .ok (.iload_n 3, 1) := by decide +kernel
theorem dX8_topOf_5 : decode cX8_topOf 5 = .ok (.aload_n 0, 1) := by decide +kernel
theorem dX8_topOf_6 : decode cX8_topOf 6 = .ok (.getfield 27, 3) := by decide +kernel
theorem dX8_topOf_9 : decode cX8_topOf 9 = .ok (.if_icmp .ge 29, 3) := by decide +kernel
theorem dX8_topOf_12 : decode cX8_topOf 12 = .ok (.iload_n 1, 1) := by decide +kernel
theorem dX8_topOf_13 : decode cX8_topOf 13 = .ok (.iload_n 3, 1) := by decide +kernel
theorem dX8_topOf_14 : decode cX8_topOf 14 = .ok (.ishr, 1) := by decide +kernel
theorem dX8_topOf_15 : decode cX8_topOf 15 = .ok (.iconst 1, 1) := by decide +kernel
theorem dX8_topOf_16 : decode cX8_topOf 16 = .ok (.iand, 1) := by decide +kernel
theorem dX8_topOf_17 : decode cX8_topOf 17 = .ok (.iconst 1, 1) := by decide +kernel
theorem dX8_topOf_18 : decode cX8_topOf 18 = .ok (.if_icmp .ne 14, 3) := by decide +kernel
theorem dX8_topOf_21 : decode cX8_topOf 21 = .ok (.iload_n 2, 1) := by decide +kernel
theorem dX8_topOf_22 : decode cX8_topOf 22 = .ok (.aload_n 0, 1) := by decide +kernel
theorem dX8_topOf_23 : decode cX8_topOf 23 = .ok (.getfield 15, 3) := by decide +kernel
theorem dX8_topOf_26 : decode cX8_topOf 26 = .ok (.iload_n 3, 1) := by decide +kernel
theorem dX8_topOf_27 : decode cX8_topOf 27 = .ok (.iaload, 1) := by decide +kernel
theorem dX8_topOf_28 : decode cX8_topOf 28 = .ok (.invokestatic 45, 3) := by decide +kernel
theorem dX8_topOf_31 : decode cX8_topOf 31 = .ok (.istore_n 2, 1) := by decide +kernel
theorem dX8_topOf_32 : decode cX8_topOf 32 = .ok (.iinc 3 1, 3) := by decide +kernel
theorem dX8_topOf_35 : decode cX8_topOf 35 = .ok (.goto (-31), 3) := by decide +kernel
theorem dX8_topOf_38 : decode cX8_topOf 38 = .ok (.iload_n 2, 1) := by decide +kernel
theorem dX8_topOf_39 : decode cX8_topOf 39 = .ok (.ireturn, 1) := by decide +kernel
theorem dX8_takeAll_0 : decode cX8_takeAll 0 = .ok (.aload_n 1, 1) := by decide +kernel
theorem dX8_takeAll_1 : decode cX8_takeAll 1 = .ok (.getfield 9, 3) := by decide +kernel
theorem dX8_takeAll_4 : decode cX8_takeAll 4 = .ok (.iconst 0, 1) := by decide +kernel
theorem dX8_takeAll_5 : decode cX8_takeAll 5 = .ok (.aload_n 0, 1) := by decide +kernel
theorem dX8_takeAll_6 : decode cX8_takeAll 6 = .ok (.getfield 9, 3) := by decide +kernel
theorem dX8_takeAll_9 : decode cX8_takeAll 9 = .ok (.iconst 0, 1) := by decide +kernel
theorem dX8_takeAll_10 : decode cX8_takeAll 10 = .ok (.bipush 12, 2) := by decide +kernel
theorem dX8_takeAll_12 : decode cX8_takeAll 12 = .ok (.invokestatic 51, 3) := by decide +kernel
theorem dX8_takeAll_15 : decode cX8_takeAll 15 = .ok (.aload_n 1, 1) := by decide +kernel
theorem dX8_takeAll_16 : decode cX8_takeAll 16 = .ok (.getfield 15, 3) := by decide +kernel
theorem dX8_takeAll_19 : decode cX8_takeAll 19 = .ok (.iconst 0, 1) := by decide +kernel
theorem dX8_takeAll_20 : decode cX8_takeAll 20 = .ok (.aload_n 0, 1) := by decide +kernel
theorem dX8_takeAll_21 : decode cX8_takeAll 21 = .ok (.getfield 15, 3) := by decide +kernel
theorem dX8_takeAll_24 : decode cX8_takeAll 24 = .ok (.iconst 0, 1) := by decide +kernel
theorem dX8_takeAll_25 : decode cX8_takeAll 25 = .ok (.bipush 12, 2) := by decide +kernel
theorem dX8_takeAll_27 : decode cX8_takeAll 27 = .ok (.invokestatic 51, 3) := by decide +kernel
theorem dX8_takeAll_30 : decode cX8_takeAll 30 = .ok (.aload_n 1, 1) := by decide +kernel
theorem dX8_takeAll_31 : decode cX8_takeAll 31 = .ok (.getfield 18, 3) := by decide +kernel
theorem dX8_takeAll_34 : decode cX8_takeAll 34 = .ok (.iconst 0, 1) := by decide +kernel
theorem dX8_takeAll_35 : decode cX8_takeAll 35 = .ok (.aload_n 0, 1) := by decide +kernel
theorem dX8_takeAll_36 : decode cX8_takeAll 36 = .ok (.getfield 18, 3) := by decide +kernel
theorem dX8_takeAll_39 : decode cX8_takeAll 39 = .ok (.iconst 0, 1) := by decide +kernel
theorem dX8_takeAll_40 : decode cX8_takeAll 40 = .ok (.bipush 12, 2) := by decide +kernel
theorem dX8_takeAll_42 : decode cX8_takeAll 42 = .ok (.invokestatic 51, 3) := by decide +kernel
theorem dX8_takeAll_45 : decode cX8_takeAll 45 = .ok (.aload_n 1, 1) := by decide +kernel
theorem dX8_takeAll_46 : decode cX8_takeAll 46 = .ok (.getfield 21, 3) := by decide +kernel
theorem dX8_takeAll_49 : decode cX8_takeAll 49 = .ok (.iconst 0, 1) := by decide +kernel
theorem dX8_takeAll_50 : decode cX8_takeAll 50 = .ok (.aload_n 0, 1) := by decide +kernel
theorem dX8_takeAll_51 : decode cX8_takeAll 51 = .ok (.getfield 21, 3) := by decide +kernel
theorem dX8_takeAll_54 : decode cX8_takeAll 54 = .ok (.iconst 0, 1) := by decide +kernel
theorem dX8_takeAll_55 : decode cX8_takeAll 55 = .ok (.bipush 12, 2) := by decide +kernel
theorem dX8_takeAll_57 : decode cX8_takeAll 57 = .ok (.invokestatic 51, 3) := by decide +kernel
theorem dX8_takeAll_60 : decode cX8_takeAll 60 = .ok (.aload_n 1, 1) := by decide +kernel
theorem dX8_takeAll_61 : decode cX8_takeAll 61 = .ok (.getfield 24, 3) := by decide +kernel
theorem dX8_takeAll_64 : decode cX8_takeAll 64 = .ok (.iconst 0, 1) := by decide +kernel
theorem dX8_takeAll_65 : decode cX8_takeAll 65 = .ok (.aload_n 0, 1) := by decide +kernel
theorem dX8_takeAll_66 : decode cX8_takeAll 66 = .ok (.getfield 24, 3) := by decide +kernel
theorem dX8_takeAll_69 : decode cX8_takeAll 69 = .ok (.iconst 0, 1) := by decide +kernel
theorem dX8_takeAll_70 : decode cX8_takeAll 70 = .ok (.bipush 12, 2) := by decide +kernel
theorem dX8_takeAll_72 : decode cX8_takeAll 72 = .ok (.invokestatic 51, 3) := by decide +kernel
theorem dX8_takeAll_75 : decode cX8_takeAll 75 = .ok (.aload_n 0, 1) := by decide +kernel
theorem dX8_takeAll_76 : decode cX8_takeAll 76 = .ok (.aload_n 1, 1) := by decide +kernel
theorem dX8_takeAll_77 : decode cX8_takeAll 77 = .ok (.getfield 27, 3) := by decide +kernel
theorem dX8_takeAll_80 : decode cX8_takeAll 80 = .ok (.putfield 27, 3) := by decide +kernel
theorem dX8_takeAll_83 : decode cX8_takeAll 83 = .ok (.return_, 1) := by decide +kernel
theorem dX9_init_0 : decode cX9_init 0 = .ok (.aload_n 0, 1) := by decide +kernel
theorem dX9_init_1 : decode cX9_init 1 = .ok (.invokespecial 3, 3) := by decide +kernel
theorem dX9_init_4 : decode cX9_init 4 = .ok (.aload_n 0, 1) := by decide +kernel
theorem dX9_init_5 : decode cX9_init 5 = .ok (.sipush 300, 3) := by decide +kernel
theorem dX9_init_8 : decode cX9_init 8 = .ok (.newarray .byte, 2) := by decide +kernel
theorem dX9_init_10 : decode cX9_init 10 = .ok (.putfield 9, 3) := by decide +kernel
theorem dX9_init_13 : decode cX9_init 13 = .ok (.aload_n 0, 1) := by decide +kernel
theorem dX9_init_14 : decode cX9_init 14 = .ok (.sipush 301, 3) := by decide +kernel
theorem dX9_init_17 : decode cX9_init 17 = .ok (.newarray .int, 2) := by decide +kernel
theorem dX9_init_19 : decode cX9_init 19 = .ok (.putfield 15, 3) := by decide +kernel
theorem dX9_init_22 : decode cX9_init 22 = .ok (.aload_n 0, 1) := by decide +kernel
theorem dX9_init_23 : decode cX9_init 23 = .ok (.sipush 301, 3) := by decide +kernel
theorem dX9_init_26 : decode cX9_init 26 = .ok (.newarray .int, 2) := by decide +kernel
theorem dX9_init_28 : decode cX9_init 28 = .ok (.putfield 19, 3) := by decide +kernel
theorem dX9_init_31 : decode cX9_init 31 = .ok (.aload_n 0, 1) := by decide +kernel
theorem dX9_init_32 : decode cX9_init 32 = .ok (.sipush 301, 3) := by decide +kernel
theorem dX9_init_35 : decode cX9_init 35 = .ok (.newarray .int, 2) := by decide +kernel
theorem dX9_init_37 : decode cX9_init 37 = .ok (.putfield 22, 3) := by decide +kernel
theorem dX9_init_40 : decode cX9_init 40 = .ok (.aload_n 0, 1) := by decide +kernel
theorem dX9_init_41 : decode cX9_init 41 = .ok (.iconst 0, 1) := by decide +kernel
theorem dX9_init_42 : decode cX9_init 42 = .ok (.putfield 25, 3) := by decide +kernel
theorem dX9_init_45 : decode cX9_init 45 = .ok (.aload_n 0, 1) := by decide +kernel
theorem dX9_init_46 : decode cX9_init 46 = .ok (.iconst 0, 1) := by decide +kernel
theorem dX9_init_47 : decode cX9_init 47 = .ok (.putfield 29, 3) := by decide +kernel
theorem dX9_init_50 : decode cX9_init 50 = .ok (.aload_n 0, 1) := by decide +kernel
theorem dX9_init_51 : decode cX9_init 51 = .ok (.iconst 0, 1) := by decide +kernel
theorem dX9_init_52 : decode cX9_init 52 = .ok (.putfield 32, 3) := by decide +kernel
theorem dX9_init_55 : decode cX9_init 55 = .ok (.aload_n 0, 1) := by decide +kernel
theorem dX9_init_56 : decode cX9_init 56 = .ok (.iconst 0, 1) := by decide +kernel
theorem dX9_init_57 : decode cX9_init 57 = .ok (.putfield 35, 3) := by decide +kernel
theorem dX9_init_60 : decode cX9_init 60 = .ok (.return_, 1) := by decide +kernel
theorem dX9_addFour_0 : decode cX9_addFour 0 = .ok (.bipush 24, 2) := by decide +kernel
theorem dX9_addFour_2 : decode cX9_addFour 2 = .ok (.istore_n 2, 1) := by decide +kernel
theorem dX9_addFour_3 : decode cX9_addFour 3 = .ok (.iload_n 2, 1) := by decide +kernel
theorem dX9_addFour_4 : decode cX9_addFour 4 = .ok (.ifCond .lt 42, 3) := by decide +kernel
theorem dX9_addFour_7 : decode cX9_addFour 7 = .ok (.aload_n 0, 1) := by decide +kernel
theorem dX9_addFour_8 : decode cX9_addFour 8 = .ok (.getfield 25, 3) := by decide +kernel
theorem dX9_addFour_11 : decode cX9_addFour 11 = .ok (.sipush 300, 3) := by decide +kernel
theorem dX9_addFour_14 : decode cX9_addFour 14 = .ok (.if_icmp .ge 32, 3) := by decide +kernel
theorem dX9_addFour_17 : decode cX9_addFour 17 = .ok (.aload_n 0, 1) := by decide +kernel
theorem dX9_addFour_18 : decode cX9_addFour 18 = .ok (.getfield 9, 3) := by decide +kernel
theorem dX9_addFour_21 : decode cX9_addFour 21 = .ok (.aload_n 0, 1) := by decide +kernel
theorem dX9_addFour_22 : decode cX9_addFour 22 = .ok (.getfield 25, 3) := by decide +kernel
theorem dX9_addFour_25 : decode cX9_addFour 25 = .ok (.iload_n 1, 1) := by decide +kernel
theorem dX9_addFour_26 : decode cX9_addFour 26 = .ok (.iload_n 2, 1) := by decide +kernel
theorem dX9_addFour_27 : decode cX9_addFour 27 = .ok (.iushr, 1) := by decide +kernel
theorem dX9_addFour_28 : decode cX9_addFour 28 = .ok (.i2b, 1) := by decide +kernel
theorem dX9_addFour_29 : decode cX9_addFour 29 = .ok (.bastore, 1) := by decide +kernel
theorem dX9_addFour_30 : decode cX9_addFour 30 = .ok (.aload_n 0, 1) := by decide +kernel
theorem dX9_addFour_31 : decode cX9_addFour 31 = .ok (.dup, 1) := by decide +kernel
theorem dX9_addFour_32 : decode cX9_addFour 32 = .ok (.getfield 25, 3) := by decide +kernel
theorem dX9_addFour_35 : decode cX9_addFour 35 = .ok (.iconst 1, 1) := by decide +kernel
theorem dX9_addFour_36 : decode cX9_addFour 36 = .ok (.iadd, 1) := by decide +kernel
theorem dX9_addFour_37 : decode cX9_addFour 37 = .ok (.putfield 25, 3) := by decide +kernel
theorem dX9_addFour_40 : decode cX9_addFour 40 = .ok (.iinc 2 (-8), 3) := by decide +kernel
theorem dX9_addFour_43 : decode cX9_addFour 43 = .ok (.goto (-40), 3) := by decide +kernel
theorem dX9_addFour_46 : decode cX9_addFour 46 = .ok (.return_, 1) := by decide +kernel
theorem dX9_kind_0 : decode cX9_kind 0 = .ok (.aload_n 0, 1) := by decide +kernel
theorem dX9_kind_1 : decode cX9_kind 1 = .ok (.getfield 15, 3) := by decide +kernel
theorem dX9_kind_4 : decode cX9_kind 4 = .ok (.aload_n 0, 1) := by decide +kernel
theorem dX9_kind_5 : decode cX9_kind 5 = .ok (.getfield 35, 3) := by decide +kernel
theorem dX9_kind_8 : decode cX9_kind 8 = .ok (.iaload, 1) := by decide +kernel
theorem dX9_kind_9 : decode cX9_kind 9 = .ok (.ireturn, 1) := by decide +kernel
theorem dX9_start_0 : decode cX9_start 0 = .ok (.aload_n 0, 1) := by decide +kernel
theorem dX9_start_1 : decode cX9_start 1 = .ok (.getfield 19, 3) := by decide +kernel
theorem dX9_start_4 : decode cX9_start 4 = .ok (.aload_n 0, 1) := by decide +kernel
theorem dX9_start_5 : decode cX9_start 5 = .ok (.getfield 35, 3) := by decide +kernel
theorem dX9_start_8 : decode cX9_start 8 = .ok (.iaload, 1) := by decide +kernel
theorem dX9_start_9 : decode cX9_start 9 = .ok (.ireturn, 1) := by decide +kernel
theorem dX9_number_0 : decode cX9_number 0 = .ok (.aload_n 0, 1) := by decide +kernel
theorem dX9_number_1 : decode cX9_number 1 = .ok (.getfield 22, 3) := by decide +kernel
theorem dX9_number_4 : decode cX9_number 4 = .ok (.aload_n 0, 1) := by decide +kernel
theorem dX9_number_5 : decode cX9_number 5 = .ok (.getfield 35, 3) := by decide +kernel
theorem dX9_number_8 : decode cX9_number 8 = .ok (.iaload, 1) := by decide +kernel
theorem dX9_number_9 : decode cX9_number 9 = .ok (.ireturn, 1) := by decide +kernel
theorem dX9_advance_0 : decode cX9_advance 0 = .ok (.aload_n 0, 1) := by decide +kernel
theorem dX9_advance_1 : decode cX9_advance 1 = .ok (.getfield 35, 3) := by decide +kernel
theorem dX9_advance_4 : decode cX9_advance 4 = .ok (.aload_n 0, 1) := by decide +kernel
theorem dX9_advance_5 : decode cX9_advance 5 = .ok (.getfield 32, 3) := by decide +kernel
theorem dX9_advance_8 : decode cX9_advance 8 = .ok (.iconst 1, 1) := by decide +kernel
theorem dX9_advance_9 : decode cX9_advance 9 = .ok (.isub, 1) := by decide +kernel
theorem dX9_advance_10 : decode cX9_advance 10 = .ok (.if_icmp .ge 13, 3) := by decide +kernel
theorem dX9_advance_13 : decode cX9_advance 13 = .ok (.aload_n 0, 1) := by decide +kernel
theorem dX9_advance_14 : decode cX9_advance 14 = .ok (.dup, 1) := by decide +kernel
theorem dX9_advance_15 : decode cX9_advance 15 = .ok (.getfield 35, 3) := by decide +kernel
theorem dX9_advance_18 : decode cX9_advance 18 = .ok (.iconst 1, 1) := by decide +kernel
theorem dX9_advance_19 : decode cX9_advance 19 = .ok (.iadd, 1) := by decide +kernel
theorem dX9_advance_20 : decode cX9_advance 20 = .ok (.putfield 35, 3) := by decide +kernel
theorem dX9_advance_23 : decode cX9_advance 23 = .ok (.return_, 1) := by decide +kernel
theorem dX9_split_0 : decode cX9_split 0 = .ok (.aload_n 0, 1) := by decide +kernel
theorem dX9_split_1 : decode cX9_split 1 = .ok (.iconst 0, 1) := by decide +kernel
theorem dX9_split_2 : decode cX9_split 2 = .ok (.putfield 29, 3) := by decide +kernel
theorem dX9_split_5 : decode cX9_split 5 = .ok (.aload_n 0, 1) := by decide +kernel
theorem dX9_split_6 : decode cX9_split 6 = .ok (.iconst 0, 1) := by decide +kernel
theorem dX9_split_7 : decode cX9_split 7 = .ok (.putfield 32, 3) := by decide +kernel
theorem dX9_split_10 : decode cX9_split 10 = .ok (.aload_n 0, 1) := by decide +kernel
theorem dX9_split_11 : decode cX9_split 11 = .ok (.iconst 0, 1) := by decide +kernel
theorem dX9_split_12 : decode cX9_split 12 = .ok (.putfield 35, 3) := by decide +kernel
theorem dX9_split_15 : decode cX9_split 15 = .ok (.aload_n 0, 1) := by decide +kernel
theorem dX9_split_16 : decode cX9_split 16 = .ok (.invokevirtual 38, 3) := by decide +kernel
theorem dX9_split_19 : decode cX9_split 19 = .ok (.aload_n 0, 1) := by decide +kernel
theorem dX9_split_20 : decode cX9_split 20 = .ok (.getfield 29, 3) := by decide +kernel
theorem dX9_split_23 : decode cX9_split 23 = .ok (.aload_n 0, 1) := by decide +kernel
theorem dX9_split_24 : decode cX9_split 24 = .ok (.getfield 25, 3) := by decide +kernel
theorem dX9_split_27 : decode cX9_split 27 = .ok (.if_icmp .ge 73, 3) := by decide +kernel
theorem dX9_split_30 : decode cX9_split 30 = .ok (.aload_n 0, 1) := by decide +kernel
theorem dX9_split_31 : decode cX9_split 31 = .ok (.getfield 32, 3) := by decide +kernel
theorem dX9_split_34 : decode cX9_split 34 = .ok (.sipush 300, 3) := by decide +kernel
theorem dX9_split_37 : decode cX9_split 37 = .ok (.if_icmp .ge 63, 3) := by decide +kernel
theorem dX9_split_40 : decode cX9_split 40 = .ok (.aload_n 0, 1) := by decide +kernel
theorem dX9_split_41 : decode cX9_split 41 = .ok (.getfield 29, 3) := by decide +kernel
theorem dX9_split_44 : decode cX9_split 44 = .ok (.istore_n 1, 1) := by decide +kernel
theorem dX9_split_45 : decode cX9_split 45 = .ok (.aload_n 0, 1) := by decide +kernel
theorem dX9_split_46 : decode cX9_split 46 = .ok (.getfield 22, 3) := by decide +kernel
theorem dX9_split_49 : decode cX9_split 49 = .ok (.aload_n 0, 1) := by decide +kernel
theorem dX9_split_50 : decode cX9_split 50 = .ok (.getfield 32, 3) := by decide +kernel
theorem dX9_split_53 : decode cX9_split 53 = .ok (.iconst 0, 1) := by decide +kernel
theorem dX9_split_54 : decode cX9_split 54 = .ok (.iastore, 1) := by decide +kernel
theorem dX9_split_55 : decode cX9_split 55 = .ok (.aload_n 0, 1) := by decide +kernel
theorem dX9_split_56 : decode cX9_split 56 = .ok (.getfield 15, 3) := by decide +kernel
theorem dX9_split_59 : decode cX9_split 59 = .ok (.aload_n 0, 1) := by decide +kernel
theorem dX9_split_60 : decode cX9_split 60 = .ok (.getfield 32, 3) := by decide +kernel
theorem dX9_split_63 : decode cX9_split 63 = .ok (.aload_n 0, 1) := by decide +kernel
theorem dX9_split_64 : decode cX9_split 64 = .ok (.aload_n 0, 1) := by decide +kernel
theorem dX9_split_65 : decode cX9_split 65 = .ok (.iload_n 1, 1) := by decide +kernel
theorem dX9_split_66 : decode cX9_split 66 = .ok (.invokevirtual 41, 3) := by decide +kernel
theorem dX9_split_69 : decode cX9_split 69 = .ok (.invokevirtual 45, 3) := by decide +kernel
theorem dX9_split_72 : decode cX9_split 72 = .ok (.iastore, 1) := by decide +kernel
theorem dX9_split_73 : decode cX9_split 73 = .ok (.aload_n 0, 1) := by decide +kernel
theorem dX9_split_74 : decode cX9_split 74 = .ok (.getfield 19, 3) := by decide +kernel
theorem dX9_split_77 : decode cX9_split 77 = .ok (.aload_n 0, 1) := by decide +kernel
theorem dX9_split_78 : decode cX9_split 78 = .ok (.getfield 32, 3) := by decide +kernel
theorem dX9_split_81 : decode cX9_split 81 = .ok (.iload_n 1, 1) := by decide +kernel
theorem dX9_split_82 : decode cX9_split 82 = .ok (.iastore, 1) := by decide +kernel
theorem dX9_split_83 : decode cX9_split 83 = .ok (.aload_n 0, 1) := by decide +kernel
theorem dX9_split_84 : decode cX9_split 84 = .ok (.dup, 1) := by decide +kernel
theorem dX9_split_85 : decode cX9_split 85 = .ok (.getfield 32, 3) := by decide +kernel
theorem dX9_split_88 : decode cX9_split 88 = .ok (.iconst 1, 1) := by decide +kernel
theorem dX9_split_89 : decode cX9_split 89 = .ok (.iadd, 1) := by decide +kernel
theorem dX9_split_90 : decode cX9_split 90 = .ok (.putfield 32, 3) := by decide +kernel
theorem dX9_split_93 : decode cX9_split 93 = .ok (.aload_n 0, 1) := by decide +kernel
theorem dX9_split_94 : decode cX9_split 94 = .ok (.invokevirtual 38, 3) := by decide +kernel
theorem dX9_split_97 : decode cX9_split 97 = .ok (.goto (-78), 3) := by decide +kernel
theorem dX9_split_100 : decode cX9_split 100 = .ok (.aload_n 0, 1) := by decide +kernel
theorem dX9_split_101 : decode cX9_split 101 = .ok (.getfield 15, 3) := by decide +kernel
theorem dX9_split_104 : decode cX9_split 104 = .ok (.aload_n 0, 1) := by decide +kernel
theorem dX9_split_105 : decode cX9_split 105 = .ok (.getfield 32, 3) := by decide +kernel
theorem dX9_split_108 : decode cX9_split 108 = .ok (.bipush 41, 2) := by decide +kernel
theorem dX9_split_110 : decode cX9_split 110 = .ok (.iastore, 1) := by decide +kernel
theorem dX9_split_111 : decode cX9_split 111 = .ok (.aload_n 0, 1) := by decide +kernel
theorem dX9_split_112 : decode cX9_split 112 = .ok (.getfield 19, 3) := by decide +kernel
theorem dX9_split_115 : decode cX9_split 115 = .ok (.aload_n 0, 1) := by decide +kernel
theorem dX9_split_116 : decode cX9_split 116 = .ok (.getfield 32, 3) := by decide +kernel
theorem dX9_split_119 : decode cX9_split 119 = .ok (.aload_n 0, 1) := by decide +kernel
theorem dX9_split_120 : decode cX9_split 120 = .ok (.getfield 25, 3) := by decide +kernel
theorem dX9_split_123 : decode cX9_split 123 = .ok (.iastore, 1) := by decide +kernel
theorem dX9_split_124 : decode cX9_split 124 = .ok (.aload_n 0, 1) := by decide +kernel
theorem dX9_split_125 : decode cX9_split 125 = .ok (.getfield 22, 3) := by decide +kernel
theorem dX9_split_128 : decode cX9_split 128 = .ok (.aload_n 0, 1) := by decide +kernel
theorem dX9_split_129 : decode cX9_split 129 = .ok (.getfield 32, 3) := by decide +kernel
theorem dX9_split_132 : decode cX9_split 132 = .ok (.iconst 0, 1) := by decide +kernel
theorem dX9_split_133 : decode cX9_split 133 = .ok (.iastore, 1) := by decide +kernel
theorem dX9_split_134 : decode cX9_split 134 = .ok (.aload_n 0, 1) := by decide +kernel
theorem dX9_split_135 : decode cX9_split 135 = .ok (.dup, 1) := by decide +kernel
theorem dX9_split_136 : decode cX9_split 136 = .ok (.getfield 32, 3) := by decide +kernel
theorem dX9_split_139 : decode cX9_split 139 = .ok (.iconst 1, 1) := by decide +kernel
theorem dX9_split_140 : decode cX9_split 140 = .ok (.iadd, 1) := by decide +kernel
theorem dX9_split_141 : decode cX9_split 141 = .ok (.putfield 32, 3) := by decide +kernel
theorem dX9_split_144 : decode cX9_split 144 = .ok (.return_, 1) := by decide +kernel
theorem dX9_skipBlanks_0 : decode cX9_skipBlanks 0 = .ok (.aload_n 0, 1) := by decide +kernel
theorem dX9_skipBlanks_1 : decode cX9_skipBlanks 1 = .ok (.getfield 29, 3) := by decide +kernel
theorem dX9_skipBlanks_4 : decode cX9_skipBlanks 4 = .ok (.aload_n 0, 1) := by decide +kernel
theorem dX9_skipBlanks_5 : decode cX9_skipBlanks 5 = .ok (.getfield 25, 3) := by decide +kernel
theorem dX9_skipBlanks_8 : decode cX9_skipBlanks 8 = .ok (.if_icmp .ge 42, 3) := by decide +kernel
theorem dX9_skipBlanks_11 : decode cX9_skipBlanks 11 = .ok (.aload_n 0, 1) := by decide +kernel
theorem dX9_skipBlanks_12 : decode cX9_skipBlanks 12 = .ok (.aload_n 0, 1) := by decide +kernel
theorem dX9_skipBlanks_13 : decode cX9_skipBlanks 13 = .ok (.getfield 29, 3) := by decide +kernel
theorem dX9_skipBlanks_16 : decode cX9_skipBlanks 16 = .ok (.invokevirtual 41, 3) := by decide +kernel
theorem dX9_skipBlanks_19 : decode cX9_skipBlanks 19 = .ok (.bipush 32, 2) := by decide +kernel
theorem dX9_skipBlanks_21 : decode cX9_skipBlanks 21 = .ok (.if_icmp .eq 16, 3) := by decide +kernel
theorem dX9_skipBlanks_24 : decode cX9_skipBlanks 24 = .ok (.aload_n 0, 1) := by decide +kernel
theorem dX9_skipBlanks_25 : decode cX9_skipBlanks 25 = .ok (.aload_n 0, 1) := by decide +kernel
theorem dX9_skipBlanks_26 : decode cX9_skipBlanks 26 = .ok (.getfield 29, 3) := by decide +kernel
theorem dX9_skipBlanks_29 : decode cX9_skipBlanks 29 = .ok (.invokevirtual 41, 3) := by decide +kernel
theorem dX9_skipBlanks_32 : decode cX9_skipBlanks 32 = .ok (.bipush 10, 2) := by decide +kernel
theorem dX9_skipBlanks_34 : decode cX9_skipBlanks 34 = .ok (.if_icmp .ne 16, 3) := by decide +kernel
theorem dX9_skipBlanks_37 : decode cX9_skipBlanks 37 = .ok (.aload_n 0, 1) := by decide +kernel
theorem dX9_skipBlanks_38 : decode cX9_skipBlanks 38 = .ok (.dup, 1) := by decide +kernel
theorem dX9_skipBlanks_39 : decode cX9_skipBlanks 39 = .ok (.getfield 29, 3) := by decide +kernel
theorem dX9_skipBlanks_42 : decode cX9_skipBlanks 42 = .ok (.iconst 1, 1) := by decide +kernel
theorem dX9_skipBlanks_43 : decode cX9_skipBlanks 43 = .ok (.iadd, 1) := by decide +kernel
theorem dX9_skipBlanks_44 : decode cX9_skipBlanks 44 = .ok (.putfield 29, 3) := by decide +kernel
theorem dX9_skipBlanks_47 : decode cX9_skipBlanks 47 = .ok (.goto (-47), 3) := by decide +kernel
theorem dX9_skipBlanks_50 : decode cX9_skipBlanks 50 = .ok (.return_, 1) := by decide +kernel
theorem dX9_byteAt_0 : decode cX9_byteAt 0 = .ok (.iload_n 1, 1) := by decide +kernel
theorem dX9_byteAt_1 : decode cX9_byteAt 1 = .ok (.ifCond .lt 31, 3) := by decide +kernel
theorem dX9_byteAt_4 : decode cX9_byteAt 4 = .ok (.iload_n 1, 1) := by decide +kernel
theorem dX9_byteAt_5 : decode cX9_byteAt 5 = .ok (.aload_n 0, 1) := by decide +kernel
theorem dX9_byteAt_6 : decode cX9_byteAt 6 = .ok (.getfield 25, 3) := by decide +kernel
theorem dX9_byteAt_9 : decode cX9_byteAt 9 = .ok (.if_icmp .ge 23, 3) := by decide +kernel
theorem dX9_byteAt_12 : decode cX9_byteAt 12 = .ok (.iload_n 1, 1) := by decide +kernel
theorem dX9_byteAt_13 : decode cX9_byteAt 13 = .ok (.sipush 300, 3) := by decide +kernel
theorem dX9_byteAt_16 : decode cX9_byteAt 16 = .ok (.if_icmp .ge 16, 3) := by decide +kernel
theorem dX9_byteAt_19 : decode cX9_byteAt 19 = .ok (.aload_n 0, 1) := by decide +kernel
theorem dX9_byteAt_20 : decode cX9_byteAt 20 = .ok (.getfield 9, 3) := by decide +kernel
theorem dX9_byteAt_23 : decode cX9_byteAt 23 = .ok (.iload_n 1, 1) := by decide +kernel
theorem dX9_byteAt_24 : decode cX9_byteAt 24 = .ok (.baload, 1) := by decide +kernel
theorem dX9_byteAt_25 : decode cX9_byteAt 25 = .ok (.sipush 255, 3) := by decide +kernel
theorem dX9_byteAt_28 : decode cX9_byteAt 28 = .ok (.iand, 1) := by decide +kernel
theorem dX9_byteAt_29 : decode cX9_byteAt 29 = .ok (.goto 4, 3) := by decide +kernel
theorem dX9_byteAt_32 : decode cX9_byteAt 32 = .ok (.iconst (-1), 1) := by decide +kernel
theorem dX9_byteAt_33 : decode cX9_byteAt 33 = .ok (.ireturn, 1) := by decide +kernel
theorem dX9_isLetter_0 : decode cX9_isLetter 0 = .ok (.iload_n 1, 1) := by decide +kernel
theorem dX9_isLetter_1 : decode cX9_isLetter 1 = .ok (.bipush 97, 2) := by decide +kernel
theorem dX9_isLetter_3 : decode cX9_isLetter 3 = .ok (.if_icmp .lt 9, 3) := by decide +kernel
theorem dX9_isLetter_6 : decode cX9_isLetter 6 = .ok (.iload_n 1, 1) := by decide +kernel
theorem dX9_isLetter_7 : decode cX9_isLetter 7 = .ok (.bipush 122, 2) := by decide +kernel
theorem dX9_isLetter_9 : decode cX9_isLetter 9 = .ok (.if_icmp .le 15, 3) := by decide +kernel
theorem dX9_isLetter_12 : decode cX9_isLetter 12 = .ok (.iload_n 1, 1) := by decide +kernel
theorem dX9_isLetter_13 : decode cX9_isLetter 13 = .ok (.bipush 65, 2) := by decide +kernel
theorem dX9_isLetter_15 : decode cX9_isLetter 15 = .ok (.if_icmp .lt 13, 3) := by decide +kernel
theorem dX9_isLetter_18 : decode cX9_isLetter 18 = .ok (.iload_n 1, 1) := by decide +kernel
theorem dX9_isLetter_19 : decode cX9_isLetter 19 = .ok (.bipush 90, 2) := by decide +kernel
theorem dX9_isLetter_21 : decode cX9_isLetter 21 = .ok (.if_icmp .gt 7, 3) := by decide +kernel
theorem dX9_isLetter_24 : decode cX9_isLetter 24 = .ok (.iconst 1, 1) := by decide +kernel
theorem dX9_isLetter_25 : decode cX9_isLetter 25 = .ok (.goto 4, 3) := by decide +kernel
theorem dX9_isLetter_28 : decode cX9_isLetter 28 = .ok (.iconst 0, 1) := by decide +kernel
theorem dX9_isLetter_29 : decode cX9_isLetter 29 = .ok (.ireturn, 1) := by decide +kernel
theorem dX9_isDigit_0 : decode cX9_isDigit 0 = .ok (.iload_n 1, 1) := by decide +kernel
theorem dX9_isDigit_1 : decode cX9_isDigit 1 = .ok (.bipush 48, 2) := by decide +kernel
theorem dX9_isDigit_3 : decode cX9_isDigit 3 = .ok (.if_icmp .lt 13, 3) := by decide +kernel
theorem dX9_isDigit_6 : decode cX9_isDigit 6 = .ok (.iload_n 1, 1) := by decide +kernel
theorem dX9_isDigit_7 : decode cX9_isDigit 7 = .ok (.bipush 57, 2) := by decide +kernel
theorem dX9_isDigit_9 : decode cX9_isDigit 9 = .ok (.if_icmp .gt 7, 3) := by decide +kernel
theorem dX9_isDigit_12 : decode cX9_isDigit 12 = .ok (.iconst 1, 1) := by decide +kernel
theorem dX9_isDigit_13 : decode cX9_isDigit 13 = .ok (.goto 4, 3) := by decide +kernel
theorem dX9_isDigit_16 : decode cX9_isDigit 16 = .ok (.iconst 0, 1) := by decide +kernel
theorem dX9_isDigit_17 : decode cX9_isDigit 17 = .ok (.ireturn, 1) := by decide +kernel
theorem dX9_takeToken_0 : decode cX9_takeToken 0 = .ok (.aload_n 0, 1) := by decide +kernel
theorem dX9_takeToken_1 : decode cX9_takeToken 1 = .ok (.iload_n 1, 1) := by decide +kernel
theorem dX9_takeToken_2 : decode cX9_takeToken 2 = .ok (.invokevirtual 48, 3) := by decide +kernel
theorem dX9_takeToken_5 : decode cX9_takeToken 5 = .ok (.ifCond .eq 8, 3) := by decide +kernel
theorem dX9_takeToken_8 : decode cX9_takeToken 8 = .ok (.aload_n 0, 1) := by decide +kernel
theorem dX9_takeToken_9 : decode cX9_takeToken 9 = .ok (.invokevirtual 52, 3) := by decide +kernel
theorem dX9_takeToken_12 : decode cX9_takeToken 12 = .ok (.ireturn, 1) := by decide +kernel
theorem dX9_takeToken_13 : decode cX9_takeToken 13 = .ok (.aload_n 0, 1) := by decide +kernel
theorem dX9_takeToken_14 : decode cX9_takeToken 14 = .ok (.iload_n 1, 1) := by decide +kernel
theorem dX9_takeToken_15 : decode cX9_takeToken 15 = .ok (.invokevirtual 56, 3) := by decide +kernel
theorem dX9_takeToken_18 : decode cX9_takeToken 18 = .ok (.ifCond .eq 19, 3) := by decide +kernel
theorem dX9_takeToken_21 : decode cX9_takeToken 21 = .ok (.aload_n 0, 1) := by decide +kernel
theorem dX9_takeToken_22 : decode cX9_takeToken 22 = .ok (.getfield 22, 3) := by decide +kernel
theorem dX9_takeToken_25 : decode cX9_takeToken 25 = .ok (.aload_n 0, 1) := by decide +kernel
theorem dX9_takeToken_26 : decode cX9_takeToken 26 = .ok (.getfield 32, 3) := by decide +kernel
theorem dX9_takeToken_29 : decode cX9_takeToken 29 = .ok (.aload_n 0, 1) := by decide +kernel
theorem dX9_takeToken_30 : decode cX9_takeToken 30 = .ok (.invokevirtual 59, 3) := by decide +kernel
theorem dX9_takeToken_33 : decode cX9_takeToken 33 = .ok (.iastore, 1) := by decide +kernel
theorem dX9_takeToken_34 : decode cX9_takeToken 34 = .ok (.bipush 40, 2) := by decide +kernel
theorem dX9_takeToken_36 : decode cX9_takeToken 36 = .ok (.ireturn, 1) := by decide +kernel
theorem dX9_takeToken_37 : decode cX9_takeToken 37 = .ok (.aload_n 0, 1) := by decide +kernel
theorem dX9_takeToken_38 : decode cX9_takeToken 38 = .ok (.iload_n 1, 1) := by decide +kernel
theorem dX9_takeToken_39 : decode cX9_takeToken 39 = .ok (.invokevirtual 62, 3) := by decide +kernel
theorem dX9_takeToken_42 : decode cX9_takeToken 42 = .ok (.ireturn, 1) := by decide +kernel
theorem dX9_takeWord_0 : decode cX9_takeWord 0 = .ok (.aload_n 0, 1) := by decide +kernel
theorem dX9_takeWord_1 : decode cX9_takeWord 1 = .ok (.getfield 29, 3) := by decide +kernel
theorem dX9_takeWord_4 : decode cX9_takeWord 4 = .ok (.istore_n 1, 1) := by decide +kernel
theorem dX9_takeWord_5 : decode cX9_takeWord 5 = .ok (.aload_n 0, 1) := by decide +kernel
theorem dX9_takeWord_6 : decode cX9_takeWord 6 = .ok (.getfield 29, 3) := by decide +kernel
theorem dX9_takeWord_9 : decode cX9_takeWord 9 = .ok (.aload_n 0, 1) := by decide +kernel
theorem dX9_takeWord_10 : decode cX9_takeWord 10 = .ok (.getfield 25, 3) := by decide +kernel
theorem dX9_takeWord_13 : decode cX9_takeWord 13 = .ok (.if_icmp .ge 31, 3) := by decide +kernel
theorem dX9_takeWord_16 : decode cX9_takeWord 16 = .ok (.aload_n 0, 1) := by decide +kernel
theorem dX9_takeWord_17 : decode cX9_takeWord 17 = .ok (.aload_n 0, 1) := by decide +kernel
theorem dX9_takeWord_18 : decode cX9_takeWord 18 = .ok (.aload_n 0, 1) := by decide +kernel
theorem dX9_takeWord_19 : decode cX9_takeWord 19 = .ok (.getfield 29, 3) := by decide +kernel
theorem dX9_takeWord_22 : decode cX9_takeWord 22 = .ok (.invokevirtual 41, 3) := by decide +kernel
theorem dX9_takeWord_25 : decode cX9_takeWord 25 = .ok (.invokevirtual 48, 3) := by decide +kernel
theorem dX9_takeWord_28 : decode cX9_takeWord 28 = .ok (.ifCond .eq 16, 3) := by decide +kernel
theorem dX9_takeWord_31 : decode cX9_takeWord 31 = .ok (.aload_n 0, 1) := by decide +kernel
theorem dX9_takeWord_32 : decode cX9_takeWord 32 = .ok (.dup, 1) := by decide +kernel
theorem dX9_takeWord_33 : decode cX9_takeWord 33 = .ok (.getfield 29, 3) := by decide +kernel
theorem dX9_takeWord_36 : decode cX9_takeWord 36 = .ok (.iconst 1, 1) := by decide +kernel
theorem dX9_takeWord_37 : decode cX9_takeWord 37 = .ok (.iadd, 1) := by decide +kernel
theorem dX9_takeWord_38 : decode cX9_takeWord 38 = .ok (.putfield 29, 3) := by decide +kernel
theorem dX9_takeWord_41 : decode cX9_takeWord 41 = .ok (.goto (-36), 3) := by decide +kernel
theorem dX9_takeWord_44 : decode cX9_takeWord 44 = .ok (.aload_n 0, 1) := by decide +kernel
theorem dX9_takeWord_45 : decode cX9_takeWord 45 = .ok (.iload_n 1, 1) := by decide +kernel
theorem dX9_takeWord_46 : decode cX9_takeWord 46 = .ok (.aload_n 0, 1) := by decide +kernel
theorem dX9_takeWord_47 : decode cX9_takeWord 47 = .ok (.getfield 29, 3) := by decide +kernel
theorem dX9_takeWord_50 : decode cX9_takeWord 50 = .ok (.invokevirtual 65, 3) := by decide +kernel
theorem dX9_takeWord_53 : decode cX9_takeWord 53 = .ok (.ireturn, 1) := by decide +kernel
theorem dX9_wordFrom_0 : decode cX9_wordFrom 0 = .ok (.iconst 0, 1) := by decide +kernel
theorem dX9_wordFrom_1 : decode cX9_wordFrom 1 = .ok (.istore_n 3, 1) := by decide +kernel
theorem dX9_wordFrom_2 : decode cX9_wordFrom 2 = .ok (.iload_n 1, 1) := by decide +kernel
theorem dX9_wordFrom_3 : decode cX9_wordFrom 3 = .ok (.istore 4, 2) := by decide +kernel
theorem dX9_wordFrom_5 : decode cX9_wordFrom 5 = .ok (.iconst 1, 1) := by decide +kernel
theorem dX9_wordFrom_6 : decode cX9_wordFrom 6 = .ok (.istore 5, 2) := by decide +kernel
theorem dX9_wordFrom_8 : decode cX9_wordFrom 8 = .ok (.iconst 0, 1) := by decide +kernel
theorem dX9_wordFrom_9 : decode cX9_wordFrom 9 = .ok (.istore 6, 2) := by decide +kernel
theorem dX9_wordFrom_11 : decode cX9_wordFrom 11 = .ok (.iload 6, 2) := by decide +kernel
theorem dX9_wordFrom_13 : decode cX9_wordFrom 13 = .ok (.ldc 69, 2) := by decide +kernel
theorem dX9_wordFrom_15 : decode cX9_wordFrom 15 = .ok (.invokevirtual 71, 3) := by decide +kernel
theorem dX9_wordFrom_18 : decode cX9_wordFrom 18 = .ok (.if_icmp .ge 82, 3) := by decide +kernel
theorem dX9_wordFrom_21 : decode cX9_wordFrom 21 = .ok (.ldc 69, 2) := by decide +kernel
theorem dX9_wordFrom_23 : decode cX9_wordFrom 23 = .ok (.iload 6, 2) := by decide +kernel
theorem dX9_wordFrom_25 : decode cX9_wordFrom 25 = .ok (.invokevirtual 75, 3) := by decide +kernel
theorem dX9_wordFrom_28 : decode cX9_wordFrom 28 = .ok (.istore 7, 2) := by decide +kernel
theorem dX9_wordFrom_30 : decode cX9_wordFrom 30 = .ok (.iload 7, 2) := by decide +kernel
theorem dX9_wordFrom_32 : decode cX9_wordFrom 32 = .ok (.bipush 32, 2) := by decide +kernel
theorem dX9_wordFrom_34 : decode cX9_wordFrom 34 = .ok (.if_icmp .eq 38, 3) := by decide +kernel
theorem dX9_wordFrom_37 : decode cX9_wordFrom 37 = .ok (.iload 5, 2) := by decide +kernel
theorem dX9_wordFrom_39 : decode cX9_wordFrom 39 = .ok (.ifCond .eq 24, 3) := by decide +kernel
theorem dX9_wordFrom_42 : decode cX9_wordFrom 42 = .ok (.iload 4, 2) := by decide +kernel
theorem dX9_wordFrom_44 : decode cX9_wordFrom 44 = .ok (.iload_n 2, 1) := by decide +kernel
theorem dX9_wordFrom_45 : decode cX9_wordFrom 45 = .ok (.if_icmp .ge 18, 3) := by decide +kernel
theorem dX9_wordFrom_48 : decode cX9_wordFrom 48 = .ok (.aload_n 0, 1) := by decide +kernel
theorem dX9_wordFrom_49 : decode cX9_wordFrom 49 = .ok (.iload 4, 2) := by decide +kernel
theorem dX9_wordFrom_51 : decode cX9_wordFrom 51 = .ok (.invokevirtual 41, 3) := by decide +kernel
theorem dX9_wordFrom_54 : decode cX9_wordFrom 54 = .ok (.iload 7, 2) := by decide +kernel
theorem dX9_wordFrom_56 : decode cX9_wordFrom 56 = .ok (.if_icmp .ne 7, 3) := by decide +kernel
theorem dX9_wordFrom_59 : decode cX9_wordFrom 59 = .ok (.iconst 1, 1) := by decide +kernel
theorem dX9_wordFrom_60 : decode cX9_wordFrom 60 = .ok (.goto 4, 3) := by decide +kernel
theorem dX9_wordFrom_63 : decode cX9_wordFrom 63 = .ok (.iconst 0, 1) := by decide +kernel
theorem dX9_wordFrom_64 : decode cX9_wordFrom 64 = .ok (.istore 5, 2) := by decide +kernel
theorem dX9_wordFrom_66 : decode cX9_wordFrom 66 = .ok (.iinc 4 1, 3) := by decide +kernel
theorem dX9_wordFrom_69 : decode cX9_wordFrom 69 = .ok (.goto 25, 3) := by decide +kernel
theorem dX9_wordFrom_72 : decode cX9_wordFrom 72 = .ok (.iload 5, 2) := by decide +kernel
theorem dX9_wordFrom_74 : decode cX9_wordFrom 74 = .ok (.ifCond .eq 11, 3) := by decide +kernel
theorem dX9_wordFrom_77 : decode cX9_wordFrom 77 = .ok (.iload 4, 2) := by decide +kernel
theorem dX9_wordFrom_79 : decode cX9_wordFrom 79 = .ok (.iload_n 2, 1) := by decide +kernel
theorem dX9_wordFrom_80 : decode cX9_wordFrom 80 = .ok (.if_icmp .ne 5, 3) := by decide +kernel
theorem dX9_wordFrom_83 : decode cX9_wordFrom 83 = .ok (.iload_n 3, 1) := by decide +kernel
theorem dX9_wordFrom_84 : decode cX9_wordFrom 84 = .ok (.ireturn, 1) := by decide +kernel
theorem dX9_wordFrom_85 : decode cX9_wordFrom 85 = .ok (.iinc 3 1, 3) := by decide +kernel
theorem dX9_wordFrom_88 : decode cX9_wordFrom 88 = .ok (.iload_n 1, 1) := by decide +kernel
theorem dX9_wordFrom_89 : decode cX9_wordFrom 89 = .ok (.istore 4, 2) := by decide +kernel
theorem dX9_wordFrom_91 : decode cX9_wordFrom 91 = .ok (.iconst 1, 1) := by decide +kernel
theorem dX9_wordFrom_92 : decode cX9_wordFrom 92 = .ok (.istore 5, 2) := by decide +kernel
theorem dX9_wordFrom_94 : decode cX9_wordFrom 94 = .ok (.iinc 6 1, 3) := by decide +kernel
theorem dX9_wordFrom_97 : decode cX9_wordFrom 97 = .ok (.goto (-86), 3) := by decide +kernel
theorem dX9_wordFrom_100 : decode cX9_wordFrom 100 = .ok (.bipush 42, 2) := by decide +kernel
theorem dX9_wordFrom_102 : decode cX9_wordFrom 102 = .ok (.ireturn, 1) := by decide +kernel
theorem dX9_takeDigits_0 : decode cX9_takeDigits 0 = .ok (.iconst 0, 1) := by decide +kernel
theorem dX9_takeDigits_1 : decode cX9_takeDigits 1 = .ok (.istore_n 1, 1) := by decide +kernel
theorem dX9_takeDigits_2 : decode cX9_takeDigits 2 = .ok (.aload_n 0, 1) := by decide +kernel
theorem dX9_takeDigits_3 : decode cX9_takeDigits 3 = .ok (.getfield 29, 3) := by decide +kernel
theorem dX9_takeDigits_6 : decode cX9_takeDigits 6 = .ok (.aload_n 0, 1) := by decide +kernel
theorem dX9_takeDigits_7 : decode cX9_takeDigits 7 = .ok (.getfield 25, 3) := by decide +kernel
theorem dX9_takeDigits_10 : decode cX9_takeDigits 10 = .ok (.if_icmp .ge 54, 3) := by decide +kernel
theorem dX9_takeDigits_13 : decode cX9_takeDigits 13 = .ok (.aload_n 0, 1) := by decide +kernel
theorem dX9_takeDigits_14 : decode cX9_takeDigits 14 = .ok (.aload_n 0, 1) := by decide +kernel
theorem dX9_takeDigits_15 : decode cX9_takeDigits 15 = .ok (.aload_n 0, 1) := by decide +kernel
theorem dX9_takeDigits_16 : decode cX9_takeDigits 16 = .ok (.getfield 29, 3) := by decide +kernel
theorem dX9_takeDigits_19 : decode cX9_takeDigits 19 = .ok (.invokevirtual 41, 3) := by decide +kernel
theorem dX9_takeDigits_22 : decode cX9_takeDigits 22 = .ok (.invokevirtual 56, 3) := by decide +kernel
theorem dX9_takeDigits_25 : decode cX9_takeDigits 25 = .ok (.ifCond .eq 39, 3) := by decide +kernel
theorem dX9_takeDigits_28 : decode cX9_takeDigits 28 = .ok (.iload_n 1, 1) := by decide +kernel
theorem dX9_takeDigits_29 : decode cX9_takeDigits 29 = .ok (.bipush 10, 2) := by decide +kernel
theorem dX9_takeDigits_31 : decode cX9_takeDigits 31 = .ok (.imul, 1) := by decide +kernel
theorem dX9_takeDigits_32 : decode cX9_takeDigits 32 = .ok (.aload_n 0, 1) := by decide +kernel
theorem dX9_takeDigits_33 : decode cX9_takeDigits 33 = .ok (.aload_n 0, 1) := by decide +kernel
theorem dX9_takeDigits_34 : decode cX9_takeDigits 34 = .ok (.getfield 29, 3) := by decide +kernel
theorem dX9_takeDigits_37 : decode cX9_takeDigits 37 = .ok (.invokevirtual 41, 3) := by decide +kernel
theorem dX9_takeDigits_40 : decode cX9_takeDigits 40 = .ok (.iadd, 1) := by decide +kernel
theorem dX9_takeDigits_41 : decode cX9_takeDigits 41 = .ok (.bipush 48, 2) := by decide +kernel
theorem dX9_takeDigits_43 : decode cX9_takeDigits 43 = .ok (.isub, 1) := by decide +kernel
theorem dX9_takeDigits_44 : decode cX9_takeDigits 44 = .ok (.sipush 10000, 3) := by decide +kernel
theorem dX9_takeDigits_47 : decode cX9_takeDigits 47 = .ok (.invokestatic 79, 3) := by decide +kernel
theorem dX9_takeDigits_50 : decode cX9_takeDigits 50 = .ok (.istore_n 1, 1) := by decide +kernel
theorem dX9_takeDigits_51 : decode cX9_takeDigits 51 = .ok (.aload_n 0, 1) := by decide +kernel
theorem dX9_takeDigits_52 : decode cX9_takeDigits 52 = .ok (.dup, 1) := by decide +kernel
theorem dX9_takeDigits_53 : decode cX9_takeDigits 53 = .ok (.getfield 29, 3) := by decide +kernel
theorem dX9_takeDigits_56 : decode cX9_takeDigits 56 = .ok (.iconst 1, 1) := by decide +kernel
theorem dX9_takeDigits_57 : decode cX9_takeDigits 57 = .ok (.iadd, 1) := by decide +kernel
theorem dX9_takeDigits_58 : decode cX9_takeDigits 58 = .ok (.putfield 29, 3) := by decide +kernel
theorem dX9_takeDigits_61 : decode cX9_takeDigits 61 = .ok (.goto (-59), 3) := by decide +kernel
theorem dX9_takeDigits_64 : decode cX9_takeDigits 64 = .ok (.iload_n 1, 1) := by decide +kernel
theorem dX9_takeDigits_65 : decode cX9_takeDigits 65 = .ok (.ireturn, 1) := by decide +kernel
theorem dX9_takeMark_0 : decode cX9_takeMark 0 = .ok (.ldc 84, 2) := by decide +kernel
theorem dX9_takeMark_2 : decode cX9_takeMark 2 = .ok (.iload_n 1, 1) := by decide +kernel
theorem dX9_takeMark_3 : decode cX9_takeMark 3 = .ok (.i2c, 1) := by decide +kernel
theorem dX9_takeMark_4 : decode cX9_takeMark 4 = .ok (.invokevirtual 86, 3) := by decide +kernel
theorem dX9_takeMark_7 : decode cX9_takeMark 7 = .ok (.istore_n 2, 1) := by decide +kernel
theorem dX9_takeMark_8 : decode cX9_takeMark 8 = .ok (.aload_n 0, 1) := by decide +kernel
theorem dX9_takeMark_9 : decode cX9_takeMark 9 = .ok (.dup, 1) := by decide +kernel
theorem dX9_takeMark_10 : decode cX9_takeMark 10 = .ok (.getfield 29, 3) := by decide +kernel
theorem dX9_takeMark_13 : decode cX9_takeMark 13 = .ok (.iconst 1, 1) := by decide +kernel
theorem dX9_takeMark_14 : decode cX9_takeMark 14 = .ok (.iadd, 1) := by decide +kernel
theorem dX9_takeMark_15 : decode cX9_takeMark 15 = .ok (.putfield 29, 3) := by decide +kernel
theorem dX9_takeMark_18 : decode cX9_takeMark 18 = .ok (.iload_n 2, 1) := by decide +kernel
theorem dX9_takeMark_19 : decode cX9_takeMark 19 = .ok (.ifCond .ge 6, 3) := by decide +kernel
theorem dX9_takeMark_22 : decode cX9_takeMark 22 = .ok (.bipush 42, 2) := by decide +kernel
theorem dX9_takeMark_24 : decode cX9_takeMark 24 = .ok (.ireturn, 1) := by decide +kernel
theorem dX9_takeMark_25 : decode cX9_takeMark 25 = .ok (.bipush 20, 2) := by decide +kernel
theorem dX9_takeMark_27 : decode cX9_takeMark 27 = .ok (.iload_n 2, 1) := by decide +kernel
theorem dX9_takeMark_28 : decode cX9_takeMark 28 = .ok (.iadd, 1) := by decide +kernel
theorem dX9_takeMark_29 : decode cX9_takeMark 29 = .ok (.istore_n 3, 1) := by decide +kernel
theorem dX9_takeMark_30 : decode cX9_takeMark 30 = .ok (.iload_n 3, 1) := by decide +kernel
theorem dX9_takeMark_31 : decode cX9_takeMark 31 = .ok (.bipush 20, 2) := by decide +kernel
theorem dX9_takeMark_33 : decode cX9_takeMark 33 = .ok (.if_icmp .eq 9, 3) := by decide +kernel
theorem dX9_takeMark_36 : decode cX9_takeMark 36 = .ok (.iload_n 3, 1) := by decide +kernel
theorem dX9_takeMark_37 : decode cX9_takeMark 37 = .ok (.bipush 21, 2) := by decide +kernel
theorem dX9_takeMark_39 : decode cX9_takeMark 39 = .ok (.if_icmp .ne 40, 3) := by decide +kernel
theorem dX9_takeMark_42 : decode cX9_takeMark 42 = .ok (.aload_n 0, 1) := by decide +kernel
theorem dX9_takeMark_43 : decode cX9_takeMark 43 = .ok (.aload_n 0, 1) := by decide +kernel
theorem dX9_takeMark_44 : decode cX9_takeMark 44 = .ok (.getfield 29, 3) := by decide +kernel
theorem dX9_takeMark_47 : decode cX9_takeMark 47 = .ok (.invokevirtual 41, 3) := by decide +kernel
theorem dX9_takeMark_50 : decode cX9_takeMark 50 = .ok (.bipush 61, 2) := by decide +kernel
theorem dX9_takeMark_52 : decode cX9_takeMark 52 = .ok (.if_icmp .ne 27, 3) := by decide +kernel
theorem dX9_takeMark_55 : decode cX9_takeMark 55 = .ok (.aload_n 0, 1) := by decide +kernel
theorem dX9_takeMark_56 : decode cX9_takeMark 56 = .ok (.dup, 1) := by decide +kernel
theorem dX9_takeMark_57 : decode cX9_takeMark 57 = .ok (.getfield 29, 3) := by decide +kernel
theorem dX9_takeMark_60 : decode cX9_takeMark 60 = .ok (.iconst 1, 1) := by decide +kernel
theorem dX9_takeMark_61 : decode cX9_takeMark 61 = .ok (.iadd, 1) := by decide +kernel
theorem dX9_takeMark_62 : decode cX9_takeMark 62 = .ok (.putfield 29, 3) := by decide +kernel
theorem dX9_takeMark_65 : decode cX9_takeMark 65 = .ok (.iload_n 3, 1) := by decide +kernel
theorem dX9_takeMark_66 : decode cX9_takeMark 66 = .ok (.bipush 20, 2) := by decide +kernel
theorem dX9_takeMark_68 : decode cX9_takeMark 68 = .ok (.if_icmp .ne 8, 3) := by decide +kernel
theorem dX9_takeMark_71 : decode cX9_takeMark 71 = .ok (.bipush 31, 2) := by decide +kernel
theorem dX9_takeMark_73 : decode cX9_takeMark 73 = .ok (.goto 5, 3) := by decide +kernel
theorem dX9_takeMark_76 : decode cX9_takeMark 76 = .ok (.bipush 32, 2) := by decide +kernel
theorem dX9_takeMark_78 : decode cX9_takeMark 78 = .ok (.ireturn, 1) := by decide +kernel
theorem dX9_takeMark_79 : decode cX9_takeMark 79 = .ok (.iload_n 3, 1) := by decide +kernel
theorem dX9_takeMark_80 : decode cX9_takeMark 80 = .ok (.ireturn, 1) := by decide +kernel
theorem dX10_init_0 : decode cX10_init 0 = .ok (.aload_n 0, 1) := by decide +kernel
theorem dX10_init_1 : decode cX10_init 1 = .ok (.invokespecial 3, 3) := by decide +kernel
theorem dX10_init_4 : decode cX10_init 4 = .ok (.aload_n 0, 1) := by decide +kernel
theorem dX10_init_5 : decode cX10_init 5 = .ok (.aload_n 1, 1) := by decide +kernel
theorem dX10_init_6 : decode cX10_init 6 = .ok (.putfield 9, 3) := by decide +kernel
theorem dX10_init_9 : decode cX10_init 9 = .ok (.aload_n 0, 1) := by decide +kernel
theorem dX10_init_10 : decode cX10_init 10 = .ok (.aload_n 2, 1) := by decide +kernel
theorem dX10_init_11 : decode cX10_init 11 = .ok (.putfield 15, 3) := by decide +kernel
theorem dX10_init_14 : decode cX10_init 14 = .ok (.aload_n 0, 1) := by decide +kernel
theorem dX10_init_15 : decode cX10_init 15 = .ok (.aload_n 3, 1) := by decide +kernel
theorem dX10_init_16 : decode cX10_init 16 = .ok (.putfield 18, 3) := by decide +kernel
theorem dX10_init_19 : decode cX10_init 19 = .ok (.aload_n 0, 1) := by decide +kernel
theorem dX10_init_20 : decode cX10_init 20 = .ok (.aload 4, 2) := by decide +kernel
theorem dX10_init_22 : decode cX10_init 22 = .ok (.putfield 21, 3) := by decide +kernel
theorem dX10_init_25 : decode cX10_init 25 = .ok (.aload_n 0, 1) := by decide +kernel
theorem dX10_init_26 : decode cX10_init 26 = .ok (.aload 4, 2) := by decide +kernel
theorem dX10_init_28 : decode cX10_init 28 = .ok (.arraylength, 1) := by decide +kernel
theorem dX10_init_29 : decode cX10_init 29 = .ok (.iconst 3, 1) := by decide +kernel
theorem dX10_init_30 : decode cX10_init 30 = .ok (.idiv, 1) := by decide +kernel
theorem dX10_init_31 : decode cX10_init 31 = .ok (.putfield 24, 3) := by decide +kernel
theorem dX10_init_34 : decode cX10_init 34 = .ok (.return_, 1) := by decide +kernel
theorem dX10_deedOf_0 : decode cX10_deedOf 0 = .ok (.aload_n 0, 1) := by decide +kernel
theorem dX10_deedOf_1 : decode cX10_deedOf 1 = .ok (.iload_n 1, 1) := by decide +kernel
theorem dX10_deedOf_2 : decode cX10_deedOf 2 = .ok (.iconst 0, 1) := by decide +kernel
theorem dX10_deedOf_3 : decode cX10_deedOf 3 = .ok (.invokevirtual 28, 3) := by decide +kernel
theorem dX10_deedOf_6 : decode cX10_deedOf 6 = .ok (.ireturn, 1) := by decide +kernel
theorem dX10_firstOf_0 : decode cX10_firstOf 0 = .ok (.aload_n 0, 1) := by decide +kernel
theorem dX10_firstOf_1 : decode cX10_firstOf 1 = .ok (.iload_n 1, 1) := by decide +kernel
theorem dX10_firstOf_2 : decode cX10_firstOf 2 = .ok (.iconst 1, 1) := by decide +kernel
theorem dX10_firstOf_3 : decode cX10_firstOf 3 = .ok (.invokevirtual 28, 3) := by decide +kernel
theorem dX10_firstOf_6 : decode cX10_firstOf 6 = .ok (.ireturn, 1) := by decide +kernel
theorem dX10_secondOf_0 : decode cX10_secondOf 0 = .ok (.aload_n 0, 1) := by decide +kernel
theorem dX10_secondOf_1 : decode cX10_secondOf 1 = .ok (.iload_n 1, 1) := by decide +kernel
theorem dX10_secondOf_2 : decode cX10_secondOf 2 = .ok (.iconst 2, 1) := by decide +kernel
theorem dX10_secondOf_3 : decode cX10_secondOf 3 = .ok (.invokevirtual 28, 3) := by decide +kernel
theorem dX10_secondOf_6 : decode cX10_secondOf 6 = .ok (.ireturn, 1) := by decide +kernel
theorem dX10_partOf_0 : decode cX10_partOf 0 = .ok (.iload_n 1, 1) := by decide +kernel
theorem dX10_partOf_1 : decode cX10_partOf 1 = .ok (.ifCond .lt 24, 3) := by decide +kernel
theorem dX10_partOf_4 : decode cX10_partOf 4 = .ok (.iload_n 1, 1) := by decide +kernel
theorem dX10_partOf_5 : decode cX10_partOf 5 = .ok (.aload_n 0, 1) := by decide +kernel
theorem dX10_partOf_6 : decode cX10_partOf 6 = .ok (.getfield 24, 3) := by decide +kernel
theorem dX10_partOf_9 : decode cX10_partOf 9 = .ok (.if_icmp .ge 16, 3) := by decide +kernel
theorem dX10_partOf_12 : decode cX10_partOf 12 = .ok (.aload_n 0, 1) := by decide +kernel
theorem dX10_partOf_13 : decode cX10_partOf 13 = .ok (.getfield 21, 3) := by decide +kernel
theorem dX10_partOf_16 : decode cX10_partOf 16 = .ok (.iload_n 1, 1) := by decide +kernel
theorem dX10_partOf_17 : decode cX10_partOf 17 = .ok (.iconst 3, 1) := by decide +kernel
theorem dX10_partOf_18 : decode cX10_partOf 18 = .ok (.imul, 1) := by decide +kernel
theorem dX10_partOf_19 : decode cX10_partOf 19 = .ok (.iload_n 2, 1) := by decide +kernel
theorem dX10_partOf_20 : decode cX10_partOf 20 = .ok (.iadd, 1) := by decide +kernel
theorem dX10_partOf_21 : decode cX10_partOf 21 = .ok (.iaload, 1) := by decide +kernel
theorem dX10_partOf_22 : decode cX10_partOf 22 = .ok (.goto 4, 3) := by decide +kernel
theorem dX10_partOf_25 : decode cX10_partOf 25 = .ok (.iconst (-1), 1) := by decide +kernel
theorem dX10_partOf_26 : decode cX10_partOf 26 = .ok (.ireturn, 1) := by decide +kernel
theorem dX11_init_0 : decode cX11_init 0 = .ok (.aload_n 0, 1) := by decide +kernel
theorem dX11_init_1 : decode cX11_init 1 = .ok (.invokespecial 3, 3) := by decide +kernel
theorem dX11_init_4 : decode cX11_init 4 = .ok (.aload_n 0, 1) := by decide +kernel
theorem dX11_init_5 : decode cX11_init 5 = .ok (.new 9, 3) := by decide +kernel
theorem dX11_init_8 : decode cX11_init 8 = .ok (.dup, 1) := by decide +kernel
theorem dX11_init_9 : decode cX11_init 9 = .ok (.invokespecial 11, 3) := by decide +kernel
theorem dX11_init_12 : decode cX11_init 12 = .ok (.putfield 12, 3) := by decide +kernel
theorem dX11_init_15 : decode cX11_init 15 = .ok (.aload_n 0, 1) := by decide +kernel
theorem dX11_init_16 : decode cX11_init 16 = .ok (.new 9, 3) := by decide +kernel
theorem dX11_init_19 : decode cX11_init 19 = .ok (.dup, 1) := by decide +kernel
theorem dX11_init_20 : decode cX11_init 20 = .ok (.invokespecial 11, 3) := by decide +kernel
theorem dX11_init_23 : decode cX11_init 23 = .ok (.putfield 16, 3) := by decide +kernel
theorem dX11_init_26 : decode cX11_init 26 = .ok (.aload_n 0, 1) := by decide +kernel
theorem dX11_init_27 : decode cX11_init 27 = .ok (.new 19, 3) := by decide +kernel
theorem dX11_init_30 : decode cX11_init 30 = .ok (.dup, 1) := by decide +kernel
theorem dX11_init_31 : decode cX11_init 31 = .ok (.invokespecial 21, 3) := by decide +kernel
theorem dX11_init_34 : decode cX11_init 34 = .ok (.putfield 22, 3) := by decide +kernel
theorem dX11_init_37 : decode cX11_init 37 = .ok (.aload_n 0, 1) := by decide +kernel
theorem dX11_init_38 : decode cX11_init 38 = .ok (.new 26, 3) := by decide +kernel
theorem dX11_init_41 : decode cX11_init 41 = .ok (.dup, 1) := by decide +kernel
theorem dX11_init_42 : decode cX11_init 42 = .ok (.invokespecial 28, 3) := by decide +kernel
theorem dX11_init_45 : decode cX11_init 45 = .ok (.putfield 29, 3) := by decide +kernel
theorem dX11_init_48 : decode cX11_init 48 = .ok (.aload_n 0, 1) := by decide +kernel
theorem dX11_init_49 : decode cX11_init 49 = .ok (.new 33, 3) := by decide +kernel
theorem dX11_init_52 : decode cX11_init 52 = .ok (.dup, 1) := by decide +kernel
theorem dX11_init_53 : decode cX11_init 53 = .ok (.invokespecial 35, 3) := by decide +kernel
theorem dX11_init_56 : decode cX11_init 56 = .ok (.putfield 36, 3) := by decide +kernel
theorem dX11_init_59 : decode cX11_init 59 = .ok (.aload_n 0, 1) := by decide +kernel
theorem dX11_init_60 : decode cX11_init 60 = .ok (.new 40, 3) := by decide +kernel
theorem dX11_init_63 : decode cX11_init 63 = .ok (.dup, 1) := by decide +kernel
theorem dX11_init_64 : decode cX11_init 64 = .ok (.invokespecial 42, 3) := by decide +kernel
theorem dX11_init_67 : decode cX11_init 67 = .ok (.putfield 43, 3) := by decide +kernel
theorem dX11_init_70 : decode cX11_init 70 = .ok (.aload_n 0, 1) := by decide +kernel
theorem dX11_init_71 : decode cX11_init 71 = .ok (.new 47, 3) := by decide +kernel
theorem dX11_init_74 : decode cX11_init 74 = .ok (.dup, 1) := by decide +kernel
theorem dX11_init_75 : decode cX11_init 75 = .ok (.invokespecial 49, 3) := by decide +kernel
theorem dX11_init_78 : decode cX11_init 78 = .ok (.putfield 50, 3) := by decide +kernel
theorem dX11_init_81 : decode cX11_init 81 = .ok (.aload_n 0, 1) := by decide +kernel
theorem dX11_init_82 : decode cX11_init 82 = .ok (.iconst 0, 1) := by decide +kernel
theorem dX11_init_83 : decode cX11_init 83 = .ok (.putfield 54, 3) := by decide +kernel
theorem dX11_init_86 : decode cX11_init 86 = .ok (.aload_n 0, 1) := by decide +kernel
theorem dX11_init_87 : decode cX11_init 87 = .ok (.iconst 0, 1) := by decide +kernel
theorem dX11_init_88 : decode cX11_init 88 = .ok (.putfield 58, 3) := by decide +kernel
theorem dX11_init_91 : decode cX11_init 91 = .ok (.aload_n 0, 1) := by decide +kernel
theorem dX11_init_92 : decode cX11_init 92 = .ok (.iconst (-1), 1) := by decide +kernel
theorem dX11_init_93 : decode cX11_init 93 = .ok (.putfield 62, 3) := by decide +kernel
theorem dX11_init_96 : decode cX11_init 96 = .ok (.return_, 1) := by decide +kernel
theorem dX11_stone_0 : decode cX11_stone 0 = .ok (.aload_n 0, 1) := by decide +kernel
theorem dX11_stone_1 : decode cX11_stone 1 = .ok (.getfield 12, 3) := by decide +kernel
theorem dX11_stone_4 : decode cX11_stone 4 = .ok (.getfield 65, 3) := by decide +kernel
theorem dX11_stone_7 : decode cX11_stone 7 = .ok (.astore 6, 2) := by decide +kernel
theorem dX11_stone_9 : decode cX11_stone 9 = .ok (.iload_n 1, 1) := by decide +kernel
theorem dX11_stone_10 : decode cX11_stone 10 = .ok (.iconst 1, 1) := by decide +kernel
theorem dX11_stone_11 : decode cX11_stone 11 = .ok (.if_icmp .lt 58, 3) := by decide +kernel
theorem dX11_stone_14 : decode cX11_stone 14 = .ok (.iload_n 1, 1) := by decide +kernel
theorem dX11_stone_15 : decode cX11_stone 15 = .ok (.bipush 99, 2) := by decide +kernel
theorem dX11_stone_17 : decode cX11_stone 17 = .ok (.if_icmp .gt 52, 3) := by decide +kernel
theorem dX11_stone_20 : decode cX11_stone 20 = .ok (.iload_n 2, 1) := by decide +kernel
theorem dX11_stone_21 : decode cX11_stone 21 = .ok (.ifCond .lt 48, 3) := by decide +kernel
theorem dX11_stone_24 : decode cX11_stone 24 = .ok (.iload_n 2, 1) := by decide +kernel
theorem dX11_stone_25 : decode cX11_stone 25 = .ok (.bipush 20, 2) := by decide +kernel
theorem dX11_stone_27 : decode cX11_stone 27 = .ok (.if_icmp .gt 42, 3) := by decide +kernel
theorem dX11_stone_30 : decode cX11_stone 30 = .ok (.iload_n 3, 1) := by decide +kernel
theorem dX11_stone_31 : decode cX11_stone 31 = .ok (.ifCond .lt 38, 3) := by decide +kernel
theorem dX11_stone_34 : decode cX11_stone 34 = .ok (.iload_n 3, 1) := by decide +kernel
theorem dX11_stone_35 : decode cX11_stone 35 = .ok (.bipush 99, 2) := by decide +kernel
theorem dX11_stone_37 : decode cX11_stone 37 = .ok (.if_icmp .gt 32, 3) := by decide +kernel
theorem dX11_stone_40 : decode cX11_stone 40 = .ok (.aload 6, 2) := by decide +kernel
theorem dX11_stone_42 : decode cX11_stone 42 = .ok (.iload 4, 2) := by decide +kernel
theorem dX11_stone_44 : decode cX11_stone 44 = .ok (.invokevirtual 69, 3) := by decide +kernel
theorem dX11_stone_47 : decode cX11_stone 47 = .ok (.ifCond .eq 22, 3) := by decide +kernel
theorem dX11_stone_50 : decode cX11_stone 50 = .ok (.iload 5, 2) := by decide +kernel
theorem dX11_stone_52 : decode cX11_stone 52 = .ok (.ifCond .lt 17, 3) := by decide +kernel
theorem dX11_stone_55 : decode cX11_stone 55 = .ok (.iload 5, 2) := by decide +kernel
theorem dX11_stone_57 : decode cX11_stone 57 = .ok (.iload 4, 2) := by decide +kernel
theorem dX11_stone_59 : decode cX11_stone 59 = .ok (.invokestatic 75, 3) := by decide +kernel
theorem dX11_stone_62 : decode cX11_stone 62 = .ok (.if_icmp .gt 7, 3) := by decide +kernel
theorem dX11_stone_65 : decode cX11_stone 65 = .ok (.iconst 1, 1) := by decide +kernel
theorem dX11_stone_66 : decode cX11_stone 66 = .ok (.goto 4, 3) := by decide +kernel
theorem dX11_stone_69 : decode cX11_stone 69 = .ok (.iconst 0, 1) := by decide +kernel
theorem dX11_stone_70 : decode cX11_stone 70 = .ok (.istore 7, 2) := by decide +kernel
theorem dX11_stone_72 : decode cX11_stone 72 = .ok (.iload 7, 2) := by decide +kernel
theorem dX11_stone_74 : decode cX11_stone 74 = .ok (.ifCond .eq 13, 3) := by decide +kernel
theorem dX11_stone_77 : decode cX11_stone 77 = .ok (.aload 6, 2) := by decide +kernel
theorem dX11_stone_79 : decode cX11_stone 79 = .ok (.getfield 81, 3) := by decide +kernel
theorem dX11_stone_82 : decode cX11_stone 82 = .ok (.bipush 12, 2) := by decide +kernel
theorem dX11_stone_84 : decode cX11_stone 84 = .ok (.if_icmp .lt 5, 3) := by decide +kernel
theorem dX11_stone_87 : decode cX11_stone 87 = .ok (.iconst (-1), 1) := by decide +kernel
theorem dX11_stone_88 : decode cX11_stone 88 = .ok (.ireturn, 1) := by decide +kernel
theorem dX11_stone_89 : decode cX11_stone 89 = .ok (.aload_n 0, 1) := by decide +kernel
theorem dX11_stone_90 : decode cX11_stone 90 = .ok (.getfield 43, 3) := by decide +kernel
theorem dX11_stone_93 : decode cX11_stone 93 = .ok (.invokevirtual 84, 3) := by decide +kernel
theorem dX11_stone_96 : decode cX11_stone 96 = .ok (.aload 6, 2) := by decide +kernel
theorem dX11_stone_98 : decode cX11_stone 98 = .ok (.getfield 81, 3) := by decide +kernel
theorem dX11_stone_101 : decode cX11_stone 101 = .ok (.istore 8, 2) := by decide +kernel
theorem dX11_stone_103 : decode cX11_stone 103 = .ok (.aload 6, 2) := by decide +kernel
theorem dX11_stone_105 : decode cX11_stone 105 = .ok (.getfield 87, 3) := by decide +kernel
theorem dX11_stone_108 : decode cX11_stone 108 = .ok (.iload 8, 2) := by decide +kernel
theorem dX11_stone_110 : decode cX11_stone 110 = .ok (.iload_n 1, 1) := by decide +kernel
theorem dX11_stone_111 : decode cX11_stone 111 = .ok (.iastore, 1) := by decide +kernel
theorem dX11_stone_112 : decode cX11_stone 112 = .ok (.aload 6, 2) := by decide +kernel
theorem dX11_stone_114 : decode cX11_stone 114 = .ok (.getfield 91, 3) := by decide +kernel
theorem dX11_stone_117 : decode cX11_stone 117 = .ok (.iload 8, 2) := by decide +kernel
theorem dX11_stone_119 : decode cX11_stone 119 = .ok (.iload_n 2, 1) := by decide +kernel
theorem dX11_stone_120 : decode cX11_stone 120 = .ok (.iastore, 1) := by decide +kernel
theorem dX11_stone_121 : decode cX11_stone 121 = .ok (.aload 6, 2) := by decide +kernel
theorem dX11_stone_123 : decode cX11_stone 123 = .ok (.getfield 94, 3) := by decide +kernel
theorem dX11_stone_126 : decode cX11_stone 126 = .ok (.iload 8, 2) := by decide +kernel
theorem dX11_stone_128 : decode cX11_stone 128 = .ok (.iload_n 3, 1) := by decide +kernel
theorem dX11_stone_129 : decode cX11_stone 129 = .ok (.iastore, 1) := by decide +kernel
theorem dX11_stone_130 : decode cX11_stone 130 = .ok (.aload 6, 2) := by decide +kernel
theorem dX11_stone_132 : decode cX11_stone 132 = .ok (.getfield 97, 3) := by decide +kernel
theorem dX11_stone_135 : decode cX11_stone 135 = .ok (.iload 8, 2) := by decide +kernel
theorem dX11_stone_137 : decode cX11_stone 137 = .ok (.iload 4, 2) := by decide +kernel
theorem dX11_stone_139 : decode cX11_stone 139 = .ok (.iastore, 1) := by decide +kernel
theorem dX11_stone_140 : decode cX11_stone 140 = .ok (.aload 6, 2) := by decide +kernel
theorem dX11_stone_142 : decode cX11_stone 142 = .ok (.getfield 100, 3) := by decide +kernel
theorem dX11_stone_145 : decode cX11_stone 145 = .ok (.iload 8, 2) := by decide +kernel
theorem dX11_stone_147 : decode cX11_stone 147 = .ok (.iload 5, 2) := by decide +kernel
theorem dX11_stone_149 : decode cX11_stone 149 = .ok (.iastore, 1) := by decide +kernel
theorem dX11_stone_150 : decode cX11_stone 150 = .ok (.aload 6, 2) := by decide +kernel
theorem dX11_stone_152 : decode cX11_stone 152 = .ok (.iload 8, 2) := by decide +kernel
theorem dX11_stone_154 : decode cX11_stone 154 = .ok (.iconst 1, 1) := by decide +kernel
theorem dX11_stone_155 : decode cX11_stone 155 = .ok (.iadd, 1) := by decide +kernel
theorem dX11_stone_156 : decode cX11_stone 156 = .ok (.putfield 81, 3) := by decide +kernel
theorem dX11_stone_159 : decode cX11_stone 159 = .ok (.iload 8, 2) := by decide +kernel
theorem dX11_stone_161 : decode cX11_stone 161 = .ok (.ireturn, 1) := by decide +kernel
theorem dX11_hour_0 : decode cX11_hour 0 = .ok (.iload_n 1, 1) := by decide +kernel
theorem dX11_hour_1 : decode cX11_hour 1 = .ok (.ifCond .lt 9, 3) := by decide +kernel
theorem dX11_hour_4 : decode cX11_hour 4 = .ok (.iload_n 1, 1) := by decide +kernel
theorem dX11_hour_5 : decode cX11_hour 5 = .ok (.bipush 24, 2) := by decide +kernel
theorem dX11_hour_7 : decode cX11_hour 7 = .ok (.if_icmp .lt 5, 3) := by decide +kernel
theorem dX11_hour_10 : decode cX11_hour 10 = .ok (.iconst 0, 1) := by decide +kernel
theorem dX11_hour_11 : decode cX11_hour 11 = .ok (.ireturn, 1) := by decide +kernel
theorem dX11_hour_12 : decode cX11_hour 12 = .ok (.aload_n 0, 1) := by decide +kernel
theorem dX11_hour_13 : decode cX11_hour 13 = .ok (.getfield 43, 3) := by decide +kernel
theorem dX11_hour_16 : decode cX11_hour 16 = .ok (.invokevirtual 84, 3) := by decide +kernel
theorem dX11_hour_19 : decode cX11_hour 19 = .ok (.aload_n 0, 1) := by decide +kernel
theorem dX11_hour_20 : decode cX11_hour 20 = .ok (.getfield 12, 3) := by decide +kernel
theorem dX11_hour_23 : decode cX11_hour 23 = .ok (.iload_n 1, 1) := by decide +kernel
theorem dX11_hour_24 : decode cX11_hour 24 = .ok (.putfield 103, 3) := by decide +kernel
theorem dX11_hour_27 : decode cX11_hour 27 = .ok (.iconst 1, 1) := by decide +kernel
theorem dX11_hour_28 : decode cX11_hour 28 = .ok (.ireturn, 1) := by decide +kernel
theorem dX11_house_0 : decode cX11_house 0 = .ok (.aload_n 0, 1) := by decide +kernel
theorem dX11_house_1 : decode cX11_house 1 = .ok (.getfield 12, 3) := by decide +kernel
theorem dX11_house_4 : decode cX11_house 4 = .ok (.getfield 106, 3) := by decide +kernel
theorem dX11_house_7 : decode cX11_house 7 = .ok (.astore_n 2, 1) := by decide +kernel
theorem dX11_house_8 : decode cX11_house 8 = .ok (.iload_n 1, 1) := by decide +kernel
theorem dX11_house_9 : decode cX11_house 9 = .ok (.ifCond .lt 18, 3) := by decide +kernel
theorem dX11_house_12 : decode cX11_house 12 = .ok (.iload_n 1, 1) := by decide +kernel
theorem dX11_house_13 : decode cX11_house 13 = .ok (.bipush 99, 2) := by decide +kernel
theorem dX11_house_15 : decode cX11_house 15 = .ok (.if_icmp .gt 12, 3) := by decide +kernel
theorem dX11_house_18 : decode cX11_house 18 = .ok (.aload_n 2, 1) := by decide +kernel
theorem dX11_house_19 : decode cX11_house 19 = .ok (.getfield 110, 3) := by decide +kernel
theorem dX11_house_22 : decode cX11_house 22 = .ok (.bipush 10, 2) := by decide +kernel
theorem dX11_house_24 : decode cX11_house 24 = .ok (.if_icmp .lt 5, 3) := by decide +kernel
theorem dX11_house_27 : decode cX11_house 27 = .ok (.iconst (-1), 1) := by decide +kernel
theorem dX11_house_28 : decode cX11_house 28 = .ok (.ireturn, 1) := by decide +kernel
theorem dX11_house_29 : decode cX11_house 29 = .ok (.aload_n 2, 1) := by decide +kernel
theorem dX11_house_30 : decode cX11_house 30 = .ok (.getfield 110, 3) := by decide +kernel
theorem dX11_house_33 : decode cX11_house 33 = .ok (.istore_n 3, 1) := by decide +kernel
theorem dX11_house_34 : decode cX11_house 34 = .ok (.aload_n 2, 1) := by decide +kernel
theorem dX11_house_35 : decode cX11_house 35 = .ok (.getfield 113, 3) := by decide +kernel
theorem dX11_house_38 : decode cX11_house 38 = .ok (.iload_n 3, 1) := by decide +kernel
theorem dX11_house_39 : decode cX11_house 39 = .ok (.iload_n 1, 1) := by decide +kernel
theorem dX11_house_40 : decode cX11_house 40 = .ok (.iastore, 1) := by decide +kernel
theorem dX11_house_41 : decode cX11_house 41 = .ok (.aload_n 2, 1) := by decide +kernel
theorem dX11_house_42 : decode cX11_house 42 = .ok (.getfield 116, 3) := by decide +kernel
theorem dX11_house_45 : decode cX11_house 45 = .ok (.iload_n 3, 1) := by decide +kernel
theorem dX11_house_46 : decode cX11_house 46 = .ok (.iconst 0, 1) := by decide +kernel
theorem dX11_house_47 : decode cX11_house 47 = .ok (.iastore, 1) := by decide +kernel
theorem dX11_house_48 : decode cX11_house 48 = .ok (.aload_n 2, 1) := by decide +kernel
theorem dX11_house_49 : decode cX11_house 49 = .ok (.getfield 119, 3) := by decide +kernel
theorem dX11_house_52 : decode cX11_house 52 = .ok (.iload_n 3, 1) := by decide +kernel
theorem dX11_house_53 : decode cX11_house 53 = .ok (.iconst 0, 1) := by decide +kernel
theorem dX11_house_54 : decode cX11_house 54 = .ok (.iastore, 1) := by decide +kernel
theorem dX11_house_55 : decode cX11_house 55 = .ok (.aload_n 2, 1) := by decide +kernel
theorem dX11_house_56 : decode cX11_house 56 = .ok (.iload_n 3, 1) := by decide +kernel
theorem dX11_house_57 : decode cX11_house 57 = .ok (.iconst 1, 1) := by decide +kernel
theorem dX11_house_58 : decode cX11_house 58 = .ok (.iadd, 1) := by decide +kernel
theorem dX11_house_59 : decode cX11_house 59 = .ok (.putfield 110, 3) := by decide +kernel
theorem dX11_house_62 : decode cX11_house 62 = .ok (.iload_n 3, 1) := by decide +kernel
theorem dX11_house_63 : decode cX11_house 63 = .ok (.ireturn, 1) := by decide +kernel
theorem dX11_touch_0 : decode cX11_touch 0 = .ok (.aload_n 0, 1) := by decide +kernel
theorem dX11_touch_1 : decode cX11_touch 1 = .ok (.getfield 12, 3) := by decide +kernel
theorem dX11_touch_4 : decode cX11_touch 4 = .ok (.getfield 106, 3) := by decide +kernel
theorem dX11_touch_7 : decode cX11_touch 7 = .ok (.iload_n 1, 1) := by decide +kernel
theorem dX11_touch_8 : decode cX11_touch 8 = .ok (.invokevirtual 122, 3) := by decide +kernel
theorem dX11_touch_11 : decode cX11_touch 11 = .ok (.ifCond .eq 22, 3) := by decide +kernel
theorem dX11_touch_14 : decode cX11_touch 14 = .ok (.aload_n 0, 1) := by decide +kernel
theorem dX11_touch_15 : decode cX11_touch 15 = .ok (.getfield 12, 3) := by decide +kernel
theorem dX11_touch_18 : decode cX11_touch 18 = .ok (.getfield 106, 3) := by decide +kernel
theorem dX11_touch_21 : decode cX11_touch 21 = .ok (.iload_n 2, 1) := by decide +kernel
theorem dX11_touch_22 : decode cX11_touch 22 = .ok (.invokevirtual 122, 3) := by decide +kernel
theorem dX11_touch_25 : decode cX11_touch 25 = .ok (.ifCond .eq 8, 3) := by decide +kernel
theorem dX11_touch_28 : decode cX11_touch 28 = .ok (.iload_n 1, 1) := by decide +kernel
theorem dX11_touch_29 : decode cX11_touch 29 = .ok (.iload_n 2, 1) := by decide +kernel
theorem dX11_touch_30 : decode cX11_touch 30 = .ok (.if_icmp .ne 5, 3) := by decide +kernel
theorem dX11_touch_33 : decode cX11_touch 33 = .ok (.iconst 0, 1) := by decide +kernel
theorem dX11_touch_34 : decode cX11_touch 34 = .ok (.ireturn, 1) := by decide +kernel
theorem dX11_touch_35 : decode cX11_touch 35 = .ok (.aload_n 0, 1) := by decide +kernel
theorem dX11_touch_36 : decode cX11_touch 36 = .ok (.getfield 12, 3) := by decide +kernel
theorem dX11_touch_39 : decode cX11_touch 39 = .ok (.getfield 106, 3) := by decide +kernel
theorem dX11_touch_42 : decode cX11_touch 42 = .ok (.iload_n 1, 1) := by decide +kernel
theorem dX11_touch_43 : decode cX11_touch 43 = .ok (.iload_n 2, 1) := by decide +kernel
theorem dX11_touch_44 : decode cX11_touch 44 = .ok (.iload_n 3, 1) := by decide +kernel
theorem dX11_touch_45 : decode cX11_touch 45 = .ok (.invokevirtual 125, 3) := by decide +kernel
theorem dX11_touch_48 : decode cX11_touch 48 = .ok (.aload_n 0, 1) := by decide +kernel
theorem dX11_touch_49 : decode cX11_touch 49 = .ok (.getfield 12, 3) := by decide +kernel
theorem dX11_touch_52 : decode cX11_touch 52 = .ok (.getfield 106, 3) := by decide +kernel
theorem dX11_touch_55 : decode cX11_touch 55 = .ok (.iload_n 2, 1) := by decide +kernel
theorem dX11_touch_56 : decode cX11_touch 56 = .ok (.iload_n 1, 1) := by decide +kernel
theorem dX11_touch_57 : decode cX11_touch 57 = .ok (.iload_n 3, 1) := by decide +kernel
theorem dX11_touch_58 : decode cX11_touch 58 = .ok (.invokevirtual 125, 3) := by decide +kernel
theorem dX11_touch_61 : decode cX11_touch 61 = .ok (.iconst 1, 1) := by decide +kernel
theorem dX11_touch_62 : decode cX11_touch 62 = .ok (.ireturn, 1) := by decide +kernel
theorem dX11_feed_0 : decode cX11_feed 0 = .ok (.aload_n 0, 1) := by decide +kernel
theorem dX11_feed_1 : decode cX11_feed 1 = .ok (.getfield 22, 3) := by decide +kernel
theorem dX11_feed_4 : decode cX11_feed 4 = .ok (.getfield 129, 3) := by decide +kernel
theorem dX11_feed_7 : decode cX11_feed 7 = .ok (.sipush 280, 3) := by decide +kernel
theorem dX11_feed_10 : decode cX11_feed 10 = .ok (.if_icmp .le 5, 3) := by decide +kernel
theorem dX11_feed_13 : decode cX11_feed 13 = .ok (.iconst (-1), 1) := by decide +kernel
theorem dX11_feed_14 : decode cX11_feed 14 = .ok (.ireturn, 1) := by decide +kernel
theorem dX11_feed_15 : decode cX11_feed 15 = .ok (.aload_n 0, 1) := by decide +kernel
theorem dX11_feed_16 : decode cX11_feed 16 = .ok (.getfield 22, 3) := by decide +kernel
theorem dX11_feed_19 : decode cX11_feed 19 = .ok (.iload_n 1, 1) := by decide +kernel
theorem dX11_feed_20 : decode cX11_feed 20 = .ok (.invokevirtual 132, 3) := by decide +kernel
theorem dX11_feed_23 : decode cX11_feed 23 = .ok (.aload_n 0, 1) := by decide +kernel
theorem dX11_feed_24 : decode cX11_feed 24 = .ok (.getfield 22, 3) := by decide +kernel
theorem dX11_feed_27 : decode cX11_feed 27 = .ok (.iload_n 2, 1) := by decide +kernel
theorem dX11_feed_28 : decode cX11_feed 28 = .ok (.invokevirtual 132, 3) := by decide +kernel
theorem dX11_feed_31 : decode cX11_feed 31 = .ok (.aload_n 0, 1) := by decide +kernel
theorem dX11_feed_32 : decode cX11_feed 32 = .ok (.getfield 22, 3) := by decide +kernel
theorem dX11_feed_35 : decode cX11_feed 35 = .ok (.iload_n 3, 1) := by decide +kernel
theorem dX11_feed_36 : decode cX11_feed 36 = .ok (.invokevirtual 132, 3) := by decide +kernel
theorem dX11_feed_39 : decode cX11_feed 39 = .ok (.aload_n 0, 1) := by decide +kernel
theorem dX11_feed_40 : decode cX11_feed 40 = .ok (.getfield 22, 3) := by decide +kernel
theorem dX11_feed_43 : decode cX11_feed 43 = .ok (.iload 4, 2) := by decide +kernel
theorem dX11_feed_45 : decode cX11_feed 45 = .ok (.invokevirtual 132, 3) := by decide +kernel
theorem dX11_feed_48 : decode cX11_feed 48 = .ok (.aload_n 0, 1) := by decide +kernel
theorem dX11_feed_49 : decode cX11_feed 49 = .ok (.getfield 22, 3) := by decide +kernel
theorem dX11_feed_52 : decode cX11_feed 52 = .ok (.iload 5, 2) := by decide +kernel
theorem dX11_feed_54 : decode cX11_feed 54 = .ok (.invokevirtual 132, 3) := by decide +kernel
theorem dX11_feed_57 : decode cX11_feed 57 = .ok (.aload_n 0, 1) := by decide +kernel
theorem dX11_feed_58 : decode cX11_feed 58 = .ok (.getfield 22, 3) := by decide +kernel
theorem dX11_feed_61 : decode cX11_feed 61 = .ok (.getfield 129, 3) := by decide +kernel
theorem dX11_feed_64 : decode cX11_feed 64 = .ok (.ireturn, 1) := by decide +kernel
theorem dX11_end_0 : decode cX11_end 0 = .ok (.iload_n 1, 1) := by decide +kernel
theorem dX11_end_1 : decode cX11_end 1 = .ok (.ifCond .lt 14, 3) := by decide +kernel
theorem dX11_end_4 : decode cX11_end 4 = .ok (.iload_n 1, 1) := by decide +kernel
theorem dX11_end_5 : decode cX11_end 5 = .ok (.aload_n 0, 1) := by decide +kernel
theorem dX11_end_6 : decode cX11_end 6 = .ok (.getfield 22, 3) := by decide +kernel
theorem dX11_end_9 : decode cX11_end 9 = .ok (.getfield 129, 3) := by decide +kernel
theorem dX11_end_12 : decode cX11_end 12 = .ok (.if_icmp .le 5, 3) := by decide +kernel
theorem dX11_end_15 : decode cX11_end 15 = .ok (.iconst (-1), 1) := by decide +kernel
theorem dX11_end_16 : decode cX11_end 16 = .ok (.ireturn, 1) := by decide +kernel
theorem dX11_end_17 : decode cX11_end 17 = .ok (.aload_n 0, 1) := by decide +kernel
theorem dX11_end_18 : decode cX11_end 18 = .ok (.getfield 22, 3) := by decide +kernel
theorem dX11_end_21 : decode cX11_end 21 = .ok (.iload_n 1, 1) := by decide +kernel
theorem dX11_end_22 : decode cX11_end 22 = .ok (.putfield 129, 3) := by decide +kernel
theorem dX11_end_25 : decode cX11_end 25 = .ok (.iload_n 1, 1) := by decide +kernel
theorem dX11_end_26 : decode cX11_end 26 = .ok (.ireturn, 1) := by decide +kernel
theorem dX11_text_0 : decode cX11_text 0 = .ok (.aload_n 0, 1) := by decide +kernel
theorem dX11_text_1 : decode cX11_text 1 = .ok (.getfield 12, 3) := by decide +kernel
theorem dX11_text_4 : decode cX11_text 4 = .ok (.getfield 136, 3) := by decide +kernel
theorem dX11_text_7 : decode cX11_text 7 = .ok (.iconst 4, 1) := by decide +kernel
theorem dX11_text_8 : decode cX11_text 8 = .ok (.if_icmp .lt 5, 3) := by decide +kernel
theorem dX11_text_11 : decode cX11_text 11 = .ok (.iconst (-1), 1) := by decide +kernel
theorem dX11_text_12 : decode cX11_text 12 = .ok (.ireturn, 1) := by decide +kernel
theorem dX11_text_13 : decode cX11_text 13 = .ok (.aload_n 0, 1) := by decide +kernel
theorem dX11_text_14 : decode cX11_text 14 = .ok (.getfield 29, 3) := by decide +kernel
theorem dX11_text_17 : decode cX11_text 17 = .ok (.aload_n 0, 1) := by decide +kernel
theorem dX11_text_18 : decode cX11_text 18 = .ok (.getfield 22, 3) := by decide +kernel
theorem dX11_text_21 : decode cX11_text 21 = .ok (.invokevirtual 139, 3) := by decide +kernel
theorem dX11_text_24 : decode cX11_text 24 = .ok (.aload_n 0, 1) := by decide +kernel
theorem dX11_text_25 : decode cX11_text 25 = .ok (.iconst 1, 1) := by decide +kernel
theorem dX11_text_26 : decode cX11_text 26 = .ok (.putfield 54, 3) := by decide +kernel
theorem dX11_text_29 : decode cX11_text 29 = .ok (.aload_n 0, 1) := by decide +kernel
theorem dX11_text_30 : decode cX11_text 30 = .ok (.aload_n 0, 1) := by decide +kernel
theorem dX11_text_31 : decode cX11_text 31 = .ok (.getfield 29, 3) := by decide +kernel
theorem dX11_text_34 : decode cX11_text 34 = .ok (.getfield 143, 3) := by decide +kernel
theorem dX11_text_37 : decode cX11_text 37 = .ok (.putfield 58, 3) := by decide +kernel
theorem dX11_text_40 : decode cX11_text 40 = .ok (.aload_n 0, 1) := by decide +kernel
theorem dX11_text_41 : decode cX11_text 41 = .ok (.aload_n 0, 1) := by decide +kernel
theorem dX11_text_42 : decode cX11_text 42 = .ok (.getfield 29, 3) := by decide +kernel
theorem dX11_text_45 : decode cX11_text 45 = .ok (.getfield 146, 3) := by decide +kernel
theorem dX11_text_48 : decode cX11_text 48 = .ok (.putfield 62, 3) := by decide +kernel
theorem dX11_text_51 : decode cX11_text 51 = .ok (.aload_n 0, 1) := by decide +kernel
theorem dX11_text_52 : decode cX11_text 52 = .ok (.getfield 22, 3) := by decide +kernel
theorem dX11_text_55 : decode cX11_text 55 = .ok (.iconst 0, 1) := by decide +kernel
theorem dX11_text_56 : decode cX11_text 56 = .ok (.putfield 129, 3) := by decide +kernel
theorem dX11_text_59 : decode cX11_text 59 = .ok (.aload_n 0, 1) := by decide +kernel
theorem dX11_text_60 : decode cX11_text 60 = .ok (.getfield 58, 3) := by decide +kernel
theorem dX11_text_63 : decode cX11_text 63 = .ok (.ifCond .eq 5, 3) := by decide +kernel
theorem dX11_text_66 : decode cX11_text 66 = .ok (.iconst (-1), 1) := by decide +kernel
theorem dX11_text_67 : decode cX11_text 67 = .ok (.ireturn, 1) := by decide +kernel
theorem dX11_text_68 : decode cX11_text 68 = .ok (.aload_n 0, 1) := by decide +kernel
theorem dX11_text_69 : decode cX11_text 69 = .ok (.getfield 12, 3) := by decide +kernel
theorem dX11_text_72 : decode cX11_text 72 = .ok (.getfield 136, 3) := by decide +kernel
theorem dX11_text_75 : decode cX11_text 75 = .ok (.istore_n 1, 1) := by decide +kernel
theorem dX11_text_76 : decode cX11_text 76 = .ok (.aload_n 0, 1) := by decide +kernel
theorem dX11_text_77 : decode cX11_text 77 = .ok (.getfield 12, 3) := by decide +kernel
theorem dX11_text_80 : decode cX11_text 80 = .ok (.getfield 149, 3) := by decide +kernel
theorem dX11_text_83 : decode cX11_text 83 = .ok (.iload_n 1, 1) := by decide +kernel
theorem dX11_text_84 : decode cX11_text 84 = .ok (.aload_n 0, 1) := by decide +kernel
theorem dX11_text_85 : decode cX11_text 85 = .ok (.getfield 29, 3) := by decide +kernel
theorem dX11_text_88 : decode cX11_text 88 = .ok (.invokevirtual 153, 3) := by decide +kernel
theorem dX11_text_91 : decode cX11_text 91 = .ok (.aastore, 1) := by decide +kernel
theorem dX11_text_92 : decode cX11_text 92 = .ok (.aload_n 0, 1) := by decide +kernel
theorem dX11_text_93 : decode cX11_text 93 = .ok (.getfield 12, 3) := by decide +kernel
theorem dX11_text_96 : decode cX11_text 96 = .ok (.iload_n 1, 1) := by decide +kernel
theorem dX11_text_97 : decode cX11_text 97 = .ok (.iconst 1, 1) := by decide +kernel
theorem dX11_text_98 : decode cX11_text 98 = .ok (.iadd, 1) := by decide +kernel
theorem dX11_text_99 : decode cX11_text 99 = .ok (.putfield 136, 3) := by decide +kernel
theorem dX11_text_102 : decode cX11_text 102 = .ok (.iload_n 1, 1) := by decide +kernel
theorem dX11_text_103 : decode cX11_text 103 = .ok (.ireturn, 1) := by decide +kernel
theorem dX11_fault_0 : decode cX11_fault 0 = .ok (.aload_n 0, 1) := by decide +kernel
theorem dX11_fault_1 : decode cX11_fault 1 = .ok (.getfield 54, 3) := by decide +kernel
theorem dX11_fault_4 : decode cX11_fault 4 = .ok (.ifCond .ne 5, 3) := by decide +kernel
theorem dX11_fault_7 : decode cX11_fault 7 = .ok (.iconst (-1), 1) := by decide +kernel
theorem dX11_fault_8 : decode cX11_fault 8 = .ok (.ireturn, 1) := by decide +kernel
theorem dX11_fault_9 : decode cX11_fault 9 = .ok (.iload_n 1, 1) := by decide +kernel
theorem dX11_fault_10 : decode cX11_fault 10 = .ok (.ifCond .ne 8, 3) := by decide +kernel
theorem dX11_fault_13 : decode cX11_fault 13 = .ok (.aload_n 0, 1) := by decide +kernel
theorem dX11_fault_14 : decode cX11_fault 14 = .ok (.getfield 58, 3) := by decide +kernel
theorem dX11_fault_17 : decode cX11_fault 17 = .ok (.ireturn, 1) := by decide +kernel
theorem dX11_fault_18 : decode cX11_fault 18 = .ok (.iload_n 1, 1) := by decide +kernel
theorem dX11_fault_19 : decode cX11_fault 19 = .ok (.iconst 1, 1) := by decide +kernel
theorem dX11_fault_20 : decode cX11_fault 20 = .ok (.if_icmp .ne 10, 3) := by decide +kernel
theorem dX11_fault_23 : decode cX11_fault 23 = .ok (.aload_n 0, 1) := by decide +kernel
theorem dX11_fault_24 : decode cX11_fault 24 = .ok (.getfield 62, 3) := by decide +kernel
theorem dX11_fault_27 : decode cX11_fault 27 = .ok (.goto 4, 3) := by decide +kernel
theorem dX11_fault_30 : decode cX11_fault 30 = .ok (.iconst (-1), 1) := by decide +kernel
theorem dX11_fault_31 : decode cX11_fault 31 = .ok (.ireturn, 1) := by decide +kernel
theorem dX11_by_0 : decode cX11_by 0 = .ok (.iload_n 1, 1) := by decide +kernel
theorem dX11_by_1 : decode cX11_by 1 = .ok (.iconst (-1), 1) := by decide +kernel
theorem dX11_by_2 : decode cX11_by 2 = .ok (.if_icmp .eq 16, 3) := by decide +kernel
theorem dX11_by_5 : decode cX11_by 5 = .ok (.aload_n 0, 1) := by decide +kernel
theorem dX11_by_6 : decode cX11_by 6 = .ok (.getfield 12, 3) := by decide +kernel
theorem dX11_by_9 : decode cX11_by 9 = .ok (.iload_n 1, 1) := by decide +kernel
theorem dX11_by_10 : decode cX11_by 10 = .ok (.invokevirtual 157, 3) := by decide +kernel
theorem dX11_by_13 : decode cX11_by 13 = .ok (.ifCond .ne 5, 3) := by decide +kernel
theorem dX11_by_16 : decode cX11_by 16 = .ok (.iconst 0, 1) := by decide +kernel
theorem dX11_by_17 : decode cX11_by 17 = .ok (.ireturn, 1) := by decide +kernel
theorem dX11_by_18 : decode cX11_by 18 = .ok (.aload_n 0, 1) := by decide +kernel
theorem dX11_by_19 : decode cX11_by 19 = .ok (.getfield 43, 3) := by decide +kernel
theorem dX11_by_22 : decode cX11_by 22 = .ok (.invokevirtual 84, 3) := by decide +kernel
theorem dX11_by_25 : decode cX11_by 25 = .ok (.aload_n 0, 1) := by decide +kernel
theorem dX11_by_26 : decode cX11_by 26 = .ok (.getfield 12, 3) := by decide +kernel
theorem dX11_by_29 : decode cX11_by 29 = .ok (.iload_n 1, 1) := by decide +kernel
theorem dX11_by_30 : decode cX11_by 30 = .ok (.putfield 160, 3) := by decide +kernel
theorem dX11_by_33 : decode cX11_by 33 = .ok (.iconst 1, 1) := by decide +kernel
theorem dX11_by_34 : decode cX11_by 34 = .ok (.ireturn, 1) := by decide +kernel
theorem dX11_of_0 : decode cX11_of 0 = .ok (.aload_n 0, 1) := by decide +kernel
theorem dX11_of_1 : decode cX11_of 1 = .ok (.getfield 12, 3) := by decide +kernel
theorem dX11_of_4 : decode cX11_of 4 = .ok (.getfield 65, 3) := by decide +kernel
theorem dX11_of_7 : decode cX11_of 7 = .ok (.iload_n 1, 1) := by decide +kernel
theorem dX11_of_8 : decode cX11_of 8 = .ok (.invokevirtual 163, 3) := by decide +kernel
theorem dX11_of_11 : decode cX11_of 11 = .ok (.ifCond .ne 5, 3) := by decide +kernel
theorem dX11_of_14 : decode cX11_of 14 = .ok (.iconst (-1), 1) := by decide +kernel
theorem dX11_of_15 : decode cX11_of 15 = .ok (.ireturn, 1) := by decide +kernel
theorem dX11_of_16 : decode cX11_of 16 = .ok (.iload_n 2, 1) := by decide +kernel
theorem dX11_of_17 : decode cX11_of 17 = .ok (.tableswitch 112 0 4 #[35, 52, 66, 72, 85], 35) := by decide +kernel
theorem dX11_of_52 : decode cX11_of 52 = .ok (.aload_n 0, 1) := by decide +kernel
theorem dX11_of_53 : decode cX11_of 53 = .ok (.getfield 12, 3) := by decide +kernel
theorem dX11_of_56 : decode cX11_of 56 = .ok (.iload_n 1, 1) := by decide +kernel
theorem dX11_of_57 : decode cX11_of 57 = .ok (.invokevirtual 164, 3) := by decide +kernel
theorem dX11_of_60 : decode cX11_of 60 = .ok (.ifCond .eq 7, 3) := by decide +kernel
theorem dX11_of_63 : decode cX11_of 63 = .ok (.iconst 1, 1) := by decide +kernel
theorem dX11_of_64 : decode cX11_of 64 = .ok (.goto 4, 3) := by decide +kernel
theorem dX11_of_67 : decode cX11_of 67 = .ok (.iconst 0, 1) := by decide +kernel
theorem dX11_of_68 : decode cX11_of 68 = .ok (.ireturn, 1) := by decide +kernel
theorem dX11_of_69 : decode cX11_of 69 = .ok (.aload_n 0, 1) := by decide +kernel
theorem dX11_of_70 : decode cX11_of 70 = .ok (.iload_n 1, 1) := by decide +kernel
theorem dX11_of_71 : decode cX11_of 71 = .ok (.invokevirtual 167, 3) := by decide +kernel
theorem dX11_of_74 : decode cX11_of 74 = .ok (.ifCond .eq 7, 3) := by decide +kernel
theorem dX11_of_77 : decode cX11_of 77 = .ok (.iconst 1, 1) := by decide +kernel
theorem dX11_of_78 : decode cX11_of 78 = .ok (.goto 4, 3) := by decide +kernel
theorem dX11_of_81 : decode cX11_of 81 = .ok (.iconst 0, 1) := by decide +kernel
theorem dX11_of_82 : decode cX11_of 82 = .ok (.ireturn, 1) := by decide +kernel
theorem dX11_of_83 : decode cX11_of 83 = .ok (.aload_n 0, 1) := by decide +kernel
theorem dX11_of_84 : decode cX11_of 84 = .ok (.iload_n 1, 1) := by decide +kernel
theorem dX11_of_85 : decode cX11_of 85 = .ok (.invokevirtual 170, 3) := by decide +kernel
theorem dX11_of_88 : decode cX11_of 88 = .ok (.ireturn, 1) := by decide +kernel
theorem dX11_of_89 : decode cX11_of 89 = .ok (.aload_n 0, 1) := by decide +kernel
theorem dX11_of_90 : decode cX11_of 90 = .ok (.getfield 36, 3) := by decide +kernel
theorem dX11_of_93 : decode cX11_of 93 = .ok (.aload_n 0, 1) := by decide +kernel
theorem dX11_of_94 : decode cX11_of 94 = .ok (.getfield 12, 3) := by decide +kernel
theorem dX11_of_97 : decode cX11_of 97 = .ok (.iload_n 1, 1) := by decide +kernel
theorem dX11_of_98 : decode cX11_of 98 = .ok (.invokevirtual 173, 3) := by decide +kernel
theorem dX11_of_101 : decode cX11_of 101 = .ok (.ireturn, 1) := by decide +kernel
theorem dX11_of_102 : decode cX11_of 102 = .ok (.aload_n 0, 1) := by decide +kernel
theorem dX11_of_103 : decode cX11_of 103 = .ok (.getfield 12, 3) := by decide +kernel
theorem dX11_of_106 : decode cX11_of 106 = .ok (.getfield 65, 3) := by decide +kernel
theorem dX11_of_109 : decode cX11_of 109 = .ok (.iload_n 1, 1) := by decide +kernel
theorem dX11_of_110 : decode cX11_of 110 = .ok (.aload_n 0, 1) := by decide +kernel
theorem dX11_of_111 : decode cX11_of 111 = .ok (.getfield 12, 3) := by decide +kernel
theorem dX11_of_114 : decode cX11_of 114 = .ok (.getfield 177, 3) := by decide +kernel
theorem dX11_of_117 : decode cX11_of 117 = .ok (.invokevirtual 180, 3) := by decide +kernel
theorem dX11_of_120 : decode cX11_of 120 = .ok (.ifCond .eq 7, 3) := by decide +kernel
theorem dX11_of_123 : decode cX11_of 123 = .ok (.iconst 1, 1) := by decide +kernel
theorem dX11_of_124 : decode cX11_of 124 = .ok (.goto 4, 3) := by decide +kernel
theorem dX11_of_127 : decode cX11_of 127 = .ok (.iconst 0, 1) := by decide +kernel
theorem dX11_of_128 : decode cX11_of 128 = .ok (.ireturn, 1) := by decide +kernel
theorem dX11_of_129 : decode cX11_of 129 = .ok (.iconst (-1), 1) := by decide +kernel
theorem dX11_of_130 : decode cX11_of 130 = .ok (.ireturn, 1) := by decide +kernel
theorem dX11_stands_0 : decode cX11_stands 0 = .ok (.aload_n 0, 1) := by decide +kernel
theorem dX11_stands_1 : decode cX11_stands 1 = .ok (.getfield 12, 3) := by decide +kernel
theorem dX11_stands_4 : decode cX11_stands 4 = .ok (.getfield 65, 3) := by decide +kernel
theorem dX11_stands_7 : decode cX11_stands 7 = .ok (.iload_n 1, 1) := by decide +kernel
