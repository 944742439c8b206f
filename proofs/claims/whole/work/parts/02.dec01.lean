theorem dX3_leastAhead_61 : decode cX3_leastAhead 61 = .ok (.iload 5, 2) := by decide +kernel
theorem dX3_leastAhead_63 : decode cX3_leastAhead 63 = .ok (.iload 7, 2) := by decide +kernel
theorem dX3_leastAhead_65 : decode cX3_leastAhead 65 = .ok (.aload_n 0, 1) := by decide +kernel
theorem dX3_leastAhead_66 : decode cX3_leastAhead 66 = .ok (.getfield 15, 3) := by decide +kernel
theorem dX3_leastAhead_69 : decode cX3_leastAhead 69 = .ok (.iload_n 2, 1) := by decide +kernel
theorem dX3_leastAhead_70 : decode cX3_leastAhead 70 = .ok (.iconst 1, 1) := by decide +kernel
theorem dX3_leastAhead_71 : decode cX3_leastAhead 71 = .ok (.iload 6, 2) := by decide +kernel
theorem dX3_leastAhead_73 : decode cX3_leastAhead 73 = .ok (.ishl, 1) := by decide +kernel
theorem dX3_leastAhead_74 : decode cX3_leastAhead 74 = .ok (.ior, 1) := by decide +kernel
theorem dX3_leastAhead_75 : decode cX3_leastAhead 75 = .ok (.iaload, 1) := by decide +kernel
theorem dX3_leastAhead_76 : decode cX3_leastAhead 76 = .ok (.iadd, 1) := by decide +kernel
theorem dX3_leastAhead_77 : decode cX3_leastAhead 77 = .ok (.invokestatic 131, 3) := by decide +kernel
theorem dX3_leastAhead_80 : decode cX3_leastAhead 80 = .ok (.istore 5, 2) := by decide +kernel
theorem dX3_leastAhead_82 : decode cX3_leastAhead 82 = .ok (.iinc 6 1, 3) := by decide +kernel
theorem dX3_leastAhead_85 : decode cX3_leastAhead 85 = .ok (.goto (-68), 3) := by decide +kernel
theorem dX3_leastAhead_88 : decode cX3_leastAhead 88 = .ok (.iload 5, 2) := by decide +kernel
theorem dX3_leastAhead_90 : decode cX3_leastAhead 90 = .ok (.ireturn, 1) := by decide +kernel
theorem dX3_choose_0 : decode cX3_choose 0 = .ok (.aload_n 0, 1) := by decide +kernel
theorem dX3_choose_1 : decode cX3_choose 1 = .ok (.aload_n 0, 1) := by decide +kernel
theorem dX3_choose_2 : decode cX3_choose 2 = .ok (.getfield 15, 3) := by decide +kernel
theorem dX3_choose_5 : decode cX3_choose 5 = .ok (.iconst 0, 1) := by decide +kernel
theorem dX3_choose_6 : decode cX3_choose 6 = .ok (.iaload, 1) := by decide +kernel
theorem dX3_choose_7 : decode cX3_choose 7 = .ok (.putfield 36, 3) := by decide +kernel
theorem dX3_choose_10 : decode cX3_choose 10 = .ok (.aload_n 0, 1) := by decide +kernel
theorem dX3_choose_11 : decode cX3_choose 11 = .ok (.iload_n 2, 1) := by decide +kernel
theorem dX3_choose_12 : decode cX3_choose 12 = .ok (.invokestatic 88, 3) := by decide +kernel
theorem dX3_choose_15 : decode cX3_choose 15 = .ok (.putfield 32, 3) := by decide +kernel
theorem dX3_choose_18 : decode cX3_choose 18 = .ok (.iconst 0, 1) := by decide +kernel
theorem dX3_choose_19 : decode cX3_choose 19 = .ok (.istore_n 3, 1) := by decide +kernel
theorem dX3_choose_20 : decode cX3_choose 20 = .ok (.iconst 0, 1) := by decide +kernel
theorem dX3_choose_21 : decode cX3_choose 21 = .ok (.istore 4, 2) := by decide +kernel
theorem dX3_choose_23 : decode cX3_choose 23 = .ok (.iload 4, 2) := by decide +kernel
theorem dX3_choose_25 : decode cX3_choose 25 = .ok (.aload_n 0, 1) := by decide +kernel
theorem dX3_choose_26 : decode cX3_choose 26 = .ok (.getfield 32, 3) := by decide +kernel
theorem dX3_choose_29 : decode cX3_choose 29 = .ok (.if_icmp .ge 41, 3) := by decide +kernel
theorem dX3_choose_32 : decode cX3_choose 32 = .ok (.iload 4, 2) := by decide +kernel
theorem dX3_choose_34 : decode cX3_choose 34 = .ok (.bipush 12, 2) := by decide +kernel
theorem dX3_choose_36 : decode cX3_choose 36 = .ok (.if_icmp .ge 34, 3) := by decide +kernel
theorem dX3_choose_39 : decode cX3_choose 39 = .ok (.aload_n 0, 1) := by decide +kernel
theorem dX3_choose_40 : decode cX3_choose 40 = .ok (.aload_n 1, 1) := by decide +kernel
theorem dX3_choose_41 : decode cX3_choose 41 = .ok (.iload_n 3, 1) := by decide +kernel
theorem dX3_choose_42 : decode cX3_choose 42 = .ok (.iload_n 2, 1) := by decide +kernel
theorem dX3_choose_43 : decode cX3_choose 43 = .ok (.invokevirtual 137, 3) := by decide +kernel
theorem dX3_choose_46 : decode cX3_choose 46 = .ok (.istore 5, 2) := by decide +kernel
theorem dX3_choose_48 : decode cX3_choose 48 = .ok (.aload_n 0, 1) := by decide +kernel
theorem dX3_choose_49 : decode cX3_choose 49 = .ok (.getfield 18, 3) := by decide +kernel
theorem dX3_choose_52 : decode cX3_choose 52 = .ok (.iload 4, 2) := by decide +kernel
theorem dX3_choose_54 : decode cX3_choose 54 = .ok (.iload 5, 2) := by decide +kernel
theorem dX3_choose_56 : decode cX3_choose 56 = .ok (.iastore, 1) := by decide +kernel
theorem dX3_choose_57 : decode cX3_choose 57 = .ok (.iload_n 3, 1) := by decide +kernel
theorem dX3_choose_58 : decode cX3_choose 58 = .ok (.iconst 1, 1) := by decide +kernel
theorem dX3_choose_59 : decode cX3_choose 59 = .ok (.iload 5, 2) := by decide +kernel
theorem dX3_choose_61 : decode cX3_choose 61 = .ok (.ishl, 1) := by decide +kernel
theorem dX3_choose_62 : decode cX3_choose 62 = .ok (.ior, 1) := by decide +kernel
theorem dX3_choose_63 : decode cX3_choose 63 = .ok (.istore_n 3, 1) := by decide +kernel
theorem dX3_choose_64 : decode cX3_choose 64 = .ok (.iinc 4 1, 3) := by decide +kernel
theorem dX3_choose_67 : decode cX3_choose 67 = .ok (.goto (-44), 3) := by decide +kernel
theorem dX3_choose_70 : decode cX3_choose 70 = .ok (.return_, 1) := by decide +kernel
theorem dX3_firstOfLeast_0 : decode cX3_firstOfLeast 0 = .ok (.aload_n 1, 1) := by decide +kernel
theorem dX3_firstOfLeast_1 : decode cX3_firstOfLeast 1 = .ok (.getfield 58, 3) := by decide +kernel
theorem dX3_firstOfLeast_4 : decode cX3_firstOfLeast 4 = .ok (.iload_n 2, 1) := by decide +kernel
theorem dX3_firstOfLeast_5 : decode cX3_firstOfLeast 5 = .ok (.invokevirtual 96, 3) := by decide +kernel
theorem dX3_firstOfLeast_8 : decode cX3_firstOfLeast 8 = .ok (.istore 4, 2) := by decide +kernel
theorem dX3_firstOfLeast_10 : decode cX3_firstOfLeast 10 = .ok (.iconst 0, 1) := by decide +kernel
theorem dX3_firstOfLeast_11 : decode cX3_firstOfLeast 11 = .ok (.istore 5, 2) := by decide +kernel
theorem dX3_firstOfLeast_13 : decode cX3_firstOfLeast 13 = .ok (.iload 5, 2) := by decide +kernel
theorem dX3_firstOfLeast_15 : decode cX3_firstOfLeast 15 = .ok (.aload_n 1, 1) := by decide +kernel
theorem dX3_firstOfLeast_16 : decode cX3_firstOfLeast 16 = .ok (.getfield 58, 3) := by decide +kernel
theorem dX3_firstOfLeast_19 : decode cX3_firstOfLeast 19 = .ok (.getfield 64, 3) := by decide +kernel
theorem dX3_firstOfLeast_22 : decode cX3_firstOfLeast 22 = .ok (.if_icmp .ge 67, 3) := by decide +kernel
theorem dX3_firstOfLeast_25 : decode cX3_firstOfLeast 25 = .ok (.iload_n 3, 1) := by decide +kernel
theorem dX3_firstOfLeast_26 : decode cX3_firstOfLeast 26 = .ok (.iload_n 2, 1) := by decide +kernel
theorem dX3_firstOfLeast_27 : decode cX3_firstOfLeast 27 = .ok (.iconst (-1), 1) := by decide +kernel
theorem dX3_firstOfLeast_28 : decode cX3_firstOfLeast 28 = .ok (.ixor, 1) := by decide +kernel
theorem dX3_firstOfLeast_29 : decode cX3_firstOfLeast 29 = .ok (.iand, 1) := by decide +kernel
theorem dX3_firstOfLeast_30 : decode cX3_firstOfLeast 30 = .ok (.iload 5, 2) := by decide +kernel
theorem dX3_firstOfLeast_32 : decode cX3_firstOfLeast 32 = .ok (.ishr, 1) := by decide +kernel
theorem dX3_firstOfLeast_33 : decode cX3_firstOfLeast 33 = .ok (.iconst 1, 1) := by decide +kernel
theorem dX3_firstOfLeast_34 : decode cX3_firstOfLeast 34 = .ok (.iand, 1) := by decide +kernel
theorem dX3_firstOfLeast_35 : decode cX3_firstOfLeast 35 = .ok (.iconst 1, 1) := by decide +kernel
theorem dX3_firstOfLeast_36 : decode cX3_firstOfLeast 36 = .ok (.if_icmp .ne 47, 3) := by decide +kernel
theorem dX3_firstOfLeast_39 : decode cX3_firstOfLeast 39 = .ok (.aload_n 0, 1) := by decide +kernel
theorem dX3_firstOfLeast_40 : decode cX3_firstOfLeast 40 = .ok (.aload_n 1, 1) := by decide +kernel
theorem dX3_firstOfLeast_41 : decode cX3_firstOfLeast 41 = .ok (.iload 5, 2) := by decide +kernel
theorem dX3_firstOfLeast_43 : decode cX3_firstOfLeast 43 = .ok (.iload_n 2, 1) := by decide +kernel
theorem dX3_firstOfLeast_44 : decode cX3_firstOfLeast 44 = .ok (.iload 4, 2) := by decide +kernel
theorem dX3_firstOfLeast_46 : decode cX3_firstOfLeast 46 = .ok (.invokevirtual 112, 3) := by decide +kernel
theorem dX3_firstOfLeast_49 : decode cX3_firstOfLeast 49 = .ok (.istore 6, 2) := by decide +kernel
theorem dX3_firstOfLeast_51 : decode cX3_firstOfLeast 51 = .ok (.iload 6, 2) := by decide +kernel
theorem dX3_firstOfLeast_53 : decode cX3_firstOfLeast 53 = .ok (.iconst (-1), 1) := by decide +kernel
theorem dX3_firstOfLeast_54 : decode cX3_firstOfLeast 54 = .ok (.if_icmp .eq 29, 3) := by decide +kernel
theorem dX3_firstOfLeast_57 : decode cX3_firstOfLeast 57 = .ok (.iload 6, 2) := by decide +kernel
theorem dX3_firstOfLeast_59 : decode cX3_firstOfLeast 59 = .ok (.aload_n 0, 1) := by decide +kernel
theorem dX3_firstOfLeast_60 : decode cX3_firstOfLeast 60 = .ok (.getfield 15, 3) := by decide +kernel
theorem dX3_firstOfLeast_63 : decode cX3_firstOfLeast 63 = .ok (.iload_n 2, 1) := by decide +kernel
theorem dX3_firstOfLeast_64 : decode cX3_firstOfLeast 64 = .ok (.iconst 1, 1) := by decide +kernel
theorem dX3_firstOfLeast_65 : decode cX3_firstOfLeast 65 = .ok (.iload 5, 2) := by decide +kernel
theorem dX3_firstOfLeast_67 : decode cX3_firstOfLeast 67 = .ok (.ishl, 1) := by decide +kernel
theorem dX3_firstOfLeast_68 : decode cX3_firstOfLeast 68 = .ok (.ior, 1) := by decide +kernel
theorem dX3_firstOfLeast_69 : decode cX3_firstOfLeast 69 = .ok (.iaload, 1) := by decide +kernel
theorem dX3_firstOfLeast_70 : decode cX3_firstOfLeast 70 = .ok (.iadd, 1) := by decide +kernel
theorem dX3_firstOfLeast_71 : decode cX3_firstOfLeast 71 = .ok (.aload_n 0, 1) := by decide +kernel
theorem dX3_firstOfLeast_72 : decode cX3_firstOfLeast 72 = .ok (.getfield 15, 3) := by decide +kernel
theorem dX3_firstOfLeast_75 : decode cX3_firstOfLeast 75 = .ok (.iload_n 2, 1) := by decide +kernel
theorem dX3_firstOfLeast_76 : decode cX3_firstOfLeast 76 = .ok (.iaload, 1) := by decide +kernel
theorem dX3_firstOfLeast_77 : decode cX3_firstOfLeast 77 = .ok (.if_icmp .ne 6, 3) := by decide +kernel
theorem dX3_firstOfLeast_80 : decode cX3_firstOfLeast 80 = .ok (.iload 5, 2) := by decide +kernel
theorem dX3_firstOfLeast_82 : decode cX3_firstOfLeast 82 = .ok (.ireturn, 1) := by decide +kernel
theorem dX3_firstOfLeast_83 : decode cX3_firstOfLeast 83 = .ok (.iinc 5 1, 3) := by decide +kernel
theorem dX3_firstOfLeast_86 : decode cX3_firstOfLeast 86 = .ok (.goto (-73), 3) := by decide +kernel
theorem dX3_firstOfLeast_89 : decode cX3_firstOfLeast 89 = .ok (.iconst 0, 1) := by decide +kernel
theorem dX3_firstOfLeast_90 : decode cX3_firstOfLeast 90 = .ok (.ireturn, 1) := by decide +kernel
theorem dX3_listen_0 : decode cX3_listen 0 = .ok (.aload_n 1, 1) := by decide +kernel
theorem dX3_listen_1 : decode cX3_listen 1 = .ok (.getfield 99, 3) := by decide +kernel
theorem dX3_listen_4 : decode cX3_listen 4 = .ok (.getfield 140, 3) := by decide +kernel
theorem dX3_listen_7 : decode cX3_listen 7 = .ok (.istore_n 2, 1) := by decide +kernel
theorem dX3_listen_8 : decode cX3_listen 8 = .ok (.aload_n 1, 1) := by decide +kernel
theorem dX3_listen_9 : decode cX3_listen 9 = .ok (.getfield 58, 3) := by decide +kernel
theorem dX3_listen_12 : decode cX3_listen 12 = .ok (.invokevirtual 73, 3) := by decide +kernel
theorem dX3_listen_15 : decode cX3_listen 15 = .ok (.istore_n 3, 1) := by decide +kernel
theorem dX3_listen_16 : decode cX3_listen 16 = .ok (.aload_n 0, 1) := by decide +kernel
theorem dX3_listen_17 : decode cX3_listen 17 = .ok (.aload_n 1, 1) := by decide +kernel
theorem dX3_listen_18 : decode cX3_listen 18 = .ok (.iload_n 2, 1) := by decide +kernel
theorem dX3_listen_19 : decode cX3_listen 19 = .ok (.iconst 1, 1) := by decide +kernel
theorem dX3_listen_20 : decode cX3_listen 20 = .ok (.invokevirtual 69, 3) := by decide +kernel
theorem dX3_listen_23 : decode cX3_listen 23 = .ok (.aload_n 0, 1) := by decide +kernel
theorem dX3_listen_24 : decode cX3_listen 24 = .ok (.lconst 0, 1) := by decide +kernel
theorem dX3_listen_25 : decode cX3_listen 25 = .ok (.putfield 43, 3) := by decide +kernel
theorem dX3_listen_28 : decode cX3_listen 28 = .ok (.aload_n 0, 1) := by decide +kernel
theorem dX3_listen_29 : decode cX3_listen 29 = .ok (.iload_n 3, 1) := by decide +kernel
theorem dX3_listen_30 : decode cX3_listen 30 = .ok (.putfield 46, 3) := by decide +kernel
theorem dX3_listen_33 : decode cX3_listen 33 = .ok (.aload_n 0, 1) := by decide +kernel
theorem dX3_listen_34 : decode cX3_listen 34 = .ok (.iconst 0, 1) := by decide +kernel
theorem dX3_listen_35 : decode cX3_listen 35 = .ok (.putfield 49, 3) := by decide +kernel
theorem dX3_listen_38 : decode cX3_listen 38 = .ok (.iconst 0, 1) := by decide +kernel
theorem dX3_listen_39 : decode cX3_listen 39 = .ok (.istore 4, 2) := by decide +kernel
theorem dX3_listen_41 : decode cX3_listen 41 = .ok (.iload 4, 2) := by decide +kernel
theorem dX3_listen_43 : decode cX3_listen 43 = .ok (.sipush 4096, 3) := by decide +kernel
theorem dX3_listen_46 : decode cX3_listen 46 = .ok (.if_icmp .ge 73, 3) := by decide +kernel
theorem dX3_listen_49 : decode cX3_listen 49 = .ok (.iload 4, 2) := by decide +kernel
theorem dX3_listen_51 : decode cX3_listen 51 = .ok (.iload_n 3, 1) := by decide +kernel
theorem dX3_listen_52 : decode cX3_listen 52 = .ok (.if_icmp .gt 67, 3) := by decide +kernel
theorem dX3_listen_55 : decode cX3_listen 55 = .ok (.aload_n 0, 1) := by decide +kernel
theorem dX3_listen_56 : decode cX3_listen 56 = .ok (.getfield 15, 3) := by decide +kernel
theorem dX3_listen_59 : decode cX3_listen 59 = .ok (.iload 4, 2) := by decide +kernel
theorem dX3_listen_61 : decode cX3_listen 61 = .ok (.iaload, 1) := by decide +kernel
theorem dX3_listen_62 : decode cX3_listen 62 = .ok (.ifCond .eq 51, 3) := by decide +kernel
theorem dX3_listen_65 : decode cX3_listen 65 = .ok (.iload 4, 2) := by decide +kernel
theorem dX3_listen_67 : decode cX3_listen 67 = .ok (.invokestatic 88, 3) := by decide +kernel
theorem dX3_listen_70 : decode cX3_listen 70 = .ok (.iload_n 2, 1) := by decide +kernel
theorem dX3_listen_71 : decode cX3_listen 71 = .ok (.if_icmp .ne 42, 3) := by decide +kernel
theorem dX3_listen_74 : decode cX3_listen 74 = .ok (.aload_n 0, 1) := by decide +kernel
theorem dX3_listen_75 : decode cX3_listen 75 = .ok (.dup, 1) := by decide +kernel
theorem dX3_listen_76 : decode cX3_listen 76 = .ok (.getfield 43, 3) := by decide +kernel
theorem dX3_listen_79 : decode cX3_listen 79 = .ok (.aload_n 0, 1) := by decide +kernel
theorem dX3_listen_80 : decode cX3_listen 80 = .ok (.getfield 15, 3) := by decide +kernel
theorem dX3_listen_83 : decode cX3_listen 83 = .ok (.iload 4, 2) := by decide +kernel
theorem dX3_listen_85 : decode cX3_listen 85 = .ok (.iaload, 1) := by decide +kernel
theorem dX3_listen_86 : decode cX3_listen 86 = .ok (.i2l, 1) := by decide +kernel
theorem dX3_listen_87 : decode cX3_listen 87 = .ok (.ladd, 1) := by decide +kernel
theorem dX3_listen_88 : decode cX3_listen 88 = .ok (.putfield 43, 3) := by decide +kernel
theorem dX3_listen_91 : decode cX3_listen 91 = .ok (.aload_n 0, 1) := by decide +kernel
theorem dX3_listen_92 : decode cX3_listen 92 = .ok (.dup, 1) := by decide +kernel
theorem dX3_listen_93 : decode cX3_listen 93 = .ok (.getfield 46, 3) := by decide +kernel
theorem dX3_listen_96 : decode cX3_listen 96 = .ok (.iload 4, 2) := by decide +kernel
theorem dX3_listen_98 : decode cX3_listen 98 = .ok (.iand, 1) := by decide +kernel
theorem dX3_listen_99 : decode cX3_listen 99 = .ok (.putfield 46, 3) := by decide +kernel
theorem dX3_listen_102 : decode cX3_listen 102 = .ok (.aload_n 0, 1) := by decide +kernel
theorem dX3_listen_103 : decode cX3_listen 103 = .ok (.dup, 1) := by decide +kernel
theorem dX3_listen_104 : decode cX3_listen 104 = .ok (.getfield 49, 3) := by decide +kernel
theorem dX3_listen_107 : decode cX3_listen 107 = .ok (.iload 4, 2) := by decide +kernel
theorem dX3_listen_109 : decode cX3_listen 109 = .ok (.ior, 1) := by decide +kernel
theorem dX3_listen_110 : decode cX3_listen 110 = .ok (.putfield 49, 3) := by decide +kernel
theorem dX3_listen_113 : decode cX3_listen 113 = .ok (.iinc 4 1, 3) := by decide +kernel
theorem dX3_listen_116 : decode cX3_listen 116 = .ok (.goto (-75), 3) := by decide +kernel
theorem dX3_listen_119 : decode cX3_listen 119 = .ok (.aload_n 0, 1) := by decide +kernel
theorem dX3_listen_120 : decode cX3_listen 120 = .ok (.getfield 43, 3) := by decide +kernel
theorem dX3_listen_123 : decode cX3_listen 123 = .ok (.lconst 0, 1) := by decide +kernel
theorem dX3_listen_124 : decode cX3_listen 124 = .ok (.lcmp, 1) := by decide +kernel
theorem dX3_listen_125 : decode cX3_listen 125 = .ok (.ifCond .ne 8, 3) := by decide +kernel
theorem dX3_listen_128 : decode cX3_listen 128 = .ok (.aload_n 0, 1) := by decide +kernel
theorem dX3_listen_129 : decode cX3_listen 129 = .ok (.iconst 0, 1) := by decide +kernel
theorem dX3_listen_130 : decode cX3_listen 130 = .ok (.putfield 46, 3) := by decide +kernel
theorem dX3_listen_133 : decode cX3_listen 133 = .ok (.return_, 1) := by decide +kernel
theorem dX4_init_0 : decode cX4_init 0 = .ok (.aload_n 0, 1) := by decide +kernel
theorem dX4_init_1 : decode cX4_init 1 = .ok (.invokespecial 3, 3) := by decide +kernel
theorem dX4_init_4 : decode cX4_init 4 = .ok (.aload_n 0, 1) := by decide +kernel
theorem dX4_init_5 : decode cX4_init 5 = .ok (.bipush 72, 2) := by decide +kernel
theorem dX4_init_7 : decode cX4_init 7 = .ok (.newarray .int, 2) := by decide +kernel
theorem dX4_init_9 : decode cX4_init 9 = .ok (.putfield 11, 3) := by decide +kernel
theorem dX4_init_12 : decode cX4_init 12 = .ok (.aload_n 0, 1) := by decide +kernel
theorem dX4_init_13 : decode cX4_init 13 = .ok (.sipush 300, 3) := by decide +kernel
theorem dX4_init_16 : decode cX4_init 16 = .ok (.newarray .int, 2) := by decide +kernel
theorem dX4_init_18 : decode cX4_init 18 = .ok (.putfield 17, 3) := by decide +kernel
theorem dX4_init_21 : decode cX4_init 21 = .ok (.aload_n 0, 1) := by decide +kernel
theorem dX4_init_22 : decode cX4_init 22 = .ok (.bipush 40, 2) := by decide +kernel
theorem dX4_init_24 : decode cX4_init 24 = .ok (.newarray .int, 2) := by decide +kernel
theorem dX4_init_26 : decode cX4_init 26 = .ok (.putfield 20, 3) := by decide +kernel
theorem dX4_init_29 : decode cX4_init 29 = .ok (.aload_n 0, 1) := by decide +kernel
theorem dX4_init_30 : decode cX4_init 30 = .ok (.getstatic 23, 3) := by decide +kernel
theorem dX4_init_33 : decode cX4_init 33 = .ok (.putfield 26, 3) := by decide +kernel
theorem dX4_init_36 : decode cX4_init 36 = .ok (.aload_n 0, 1) := by decide +kernel
theorem dX4_init_37 : decode cX4_init 37 = .ok (.getstatic 23, 3) := by decide +kernel
theorem dX4_init_40 : decode cX4_init 40 = .ok (.putfield 29, 3) := by decide +kernel
theorem dX4_init_43 : decode cX4_init 43 = .ok (.aload_n 0, 1) := by decide +kernel
theorem dX4_init_44 : decode cX4_init 44 = .ok (.getstatic 23, 3) := by decide +kernel
theorem dX4_init_47 : decode cX4_init 47 = .ok (.putfield 32, 3) := by decide +kernel
theorem dX4_init_50 : decode cX4_init 50 = .ok (.aload_n 0, 1) := by decide +kernel
theorem dX4_init_51 : decode cX4_init 51 = .ok (.iconst 0, 1) := by decide +kernel
theorem dX4_init_52 : decode cX4_init 52 = .ok (.putfield 35, 3) := by decide +kernel
theorem dX4_init_55 : decode cX4_init 55 = .ok (.aload_n 0, 1) := by decide +kernel
theorem dX4_init_56 : decode cX4_init 56 = .ok (.iconst 0, 1) := by decide +kernel
theorem dX4_init_57 : decode cX4_init 57 = .ok (.putfield 39, 3) := by decide +kernel
theorem dX4_init_60 : decode cX4_init 60 = .ok (.aload_n 0, 1) := by decide +kernel
theorem dX4_init_61 : decode cX4_init 61 = .ok (.iconst 0, 1) := by decide +kernel
theorem dX4_init_62 : decode cX4_init 62 = .ok (.putfield 42, 3) := by decide +kernel
theorem dX4_init_65 : decode cX4_init 65 = .ok (.aload_n 0, 1) := by decide +kernel
theorem dX4_init_66 : decode cX4_init 66 = .ok (.iconst 0, 1) := by decide +kernel
theorem dX4_init_67 : decode cX4_init 67 = .ok (.putfield 45, 3) := by decide +kernel
theorem dX4_init_70 : decode cX4_init 70 = .ok (.aload_n 0, 1) := by decide +kernel
theorem dX4_init_71 : decode cX4_init 71 = .ok (.iconst (-1), 1) := by decide +kernel
theorem dX4_init_72 : decode cX4_init 72 = .ok (.putfield 48, 3) := by decide +kernel
theorem dX4_init_75 : decode cX4_init 75 = .ok (.aload_n 0, 1) := by decide +kernel
theorem dX4_init_76 : decode cX4_init 76 = .ok (.iconst 0, 1) := by decide +kernel
theorem dX4_init_77 : decode cX4_init 77 = .ok (.putfield 51, 3) := by decide +kernel
theorem dX4_init_80 : decode cX4_init 80 = .ok (.aload_n 0, 1) := by decide +kernel
theorem dX4_init_81 : decode cX4_init 81 = .ok (.iconst 0, 1) := by decide +kernel
theorem dX4_init_82 : decode cX4_init 82 = .ok (.putfield 54, 3) := by decide +kernel
theorem dX4_init_85 : decode cX4_init 85 = .ok (.aload_n 0, 1) := by decide +kernel
theorem dX4_init_86 : decode cX4_init 86 = .ok (.iconst 0, 1) := by decide +kernel
theorem dX4_init_87 : decode cX4_init 87 = .ok (.putfield 57, 3) := by decide +kernel
theorem dX4_init_90 : decode cX4_init 90 = .ok (.aload_n 0, 1) := by decide +kernel
theorem dX4_init_91 : decode cX4_init 91 = .ok (.iconst 1, 1) := by decide +kernel
theorem dX4_init_92 : decode cX4_init 92 = .ok (.putfield 60, 3) := by decide +kernel
theorem dX4_init_95 : decode cX4_init 95 = .ok (.aload_n 0, 1) := by decide +kernel
theorem dX4_init_96 : decode cX4_init 96 = .ok (.iconst 0, 1) := by decide +kernel
theorem dX4_init_97 : decode cX4_init 97 = .ok (.putfield 64, 3) := by decide +kernel
theorem dX4_init_100 : decode cX4_init 100 = .ok (.aload_n 0, 1) := by decide +kernel
theorem dX4_init_101 : decode cX4_init 101 = .ok (.iconst 0, 1) := by decide +kernel
theorem dX4_init_102 : decode cX4_init 102 = .ok (.putfield 67, 3) := by decide +kernel
theorem dX4_init_105 : decode cX4_init 105 = .ok (.return_, 1) := by decide +kernel
theorem dX4_read_0 : decode cX4_read 0 = .ok (.aload_n 0, 1) := by decide +kernel
theorem dX4_read_1 : decode cX4_read 1 = .ok (.getstatic 23, 3) := by decide +kernel
theorem dX4_read_4 : decode cX4_read 4 = .ok (.putfield 26, 3) := by decide +kernel
theorem dX4_read_7 : decode cX4_read 7 = .ok (.aload_n 0, 1) := by decide +kernel
theorem dX4_read_8 : decode cX4_read 8 = .ok (.getstatic 23, 3) := by decide +kernel
theorem dX4_read_11 : decode cX4_read 11 = .ok (.putfield 29, 3) := by decide +kernel
theorem dX4_read_14 : decode cX4_read 14 = .ok (.aload_n 0, 1) := by decide +kernel
theorem dX4_read_15 : decode cX4_read 15 = .ok (.getstatic 23, 3) := by decide +kernel
theorem dX4_read_18 : decode cX4_read 18 = .ok (.putfield 32, 3) := by decide +kernel
theorem dX4_read_21 : decode cX4_read 21 = .ok (.aload_n 0, 1) := by decide +kernel
theorem dX4_read_22 : decode cX4_read 22 = .ok (.iconst 0, 1) := by decide +kernel
theorem dX4_read_23 : decode cX4_read 23 = .ok (.putfield 35, 3) := by decide +kernel
theorem dX4_read_26 : decode cX4_read 26 = .ok (.aload_n 0, 1) := by decide +kernel
theorem dX4_read_27 : decode cX4_read 27 = .ok (.iconst 0, 1) := by decide +kernel
theorem dX4_read_28 : decode cX4_read 28 = .ok (.putfield 45, 3) := by decide +kernel
theorem dX4_read_31 : decode cX4_read 31 = .ok (.aload_n 0, 1) := by decide +kernel
theorem dX4_read_32 : decode cX4_read 32 = .ok (.iconst (-1), 1) := by decide +kernel
theorem dX4_read_33 : decode cX4_read 33 = .ok (.putfield 48, 3) := by decide +kernel
theorem dX4_read_36 : decode cX4_read 36 = .ok (.aload_n 1, 1) := by decide +kernel
theorem dX4_read_37 : decode cX4_read 37 = .ok (.invokevirtual 70, 3) := by decide +kernel
theorem dX4_read_40 : decode cX4_read 40 = .ok (.iconst 0, 1) := by decide +kernel
theorem dX4_read_41 : decode cX4_read 41 = .ok (.istore_n 2, 1) := by decide +kernel
theorem dX4_read_42 : decode cX4_read 42 = .ok (.iload_n 2, 1) := by decide +kernel
theorem dX4_read_43 : decode cX4_read 43 = .ok (.bipush 24, 2) := by decide +kernel
theorem dX4_read_45 : decode cX4_read 45 = .ok (.if_icmp .gt 30, 3) := by decide +kernel
theorem dX4_read_48 : decode cX4_read 48 = .ok (.aload_n 0, 1) := by decide +kernel
theorem dX4_read_49 : decode cX4_read 49 = .ok (.getfield 45, 3) := by decide +kernel
theorem dX4_read_52 : decode cX4_read 52 = .ok (.ifCond .ne 23, 3) := by decide +kernel
theorem dX4_read_55 : decode cX4_read 55 = .ok (.aload_n 1, 1) := by decide +kernel
theorem dX4_read_56 : decode cX4_read 56 = .ok (.invokevirtual 75, 3) := by decide +kernel
theorem dX4_read_59 : decode cX4_read 59 = .ok (.bipush 41, 2) := by decide +kernel
theorem dX4_read_61 : decode cX4_read 61 = .ok (.if_icmp .eq 14, 3) := by decide +kernel
theorem dX4_read_64 : decode cX4_read 64 = .ok (.aload_n 0, 1) := by decide +kernel
theorem dX4_read_65 : decode cX4_read 65 = .ok (.aload_n 1, 1) := by decide +kernel
theorem dX4_read_66 : decode cX4_read 66 = .ok (.invokevirtual 79, 3) := by decide +kernel
theorem dX4_read_69 : decode cX4_read 69 = .ok (.iinc 2 1, 3) := by decide +kernel
theorem dX4_read_72 : decode cX4_read 72 = .ok (.goto (-30), 3) := by decide +kernel
theorem dX4_read_75 : decode cX4_read 75 = .ok (.return_, 1) := by decide +kernel
theorem dX4_newText_0 : decode cX4_newText 0 = .ok (.new 9, 3) := by decide +kernel
theorem dX4_newText_3 : decode cX4_newText 3 = .ok (.dup, 1) := by decide +kernel
theorem dX4_newText_4 : decode cX4_newText 4 = .ok (.aload_n 0, 1) := by decide +kernel
theorem dX4_newText_5 : decode cX4_newText 5 = .ok (.getfield 26, 3) := by decide +kernel
theorem dX4_newText_8 : decode cX4_newText 8 = .ok (.aload_n 0, 1) := by decide +kernel
theorem dX4_newText_9 : decode cX4_newText 9 = .ok (.getfield 29, 3) := by decide +kernel
theorem dX4_newText_12 : decode cX4_newText 12 = .ok (.aload_n 0, 1) := by decide +kernel
theorem dX4_newText_13 : decode cX4_newText 13 = .ok (.getfield 32, 3) := by decide +kernel
theorem dX4_newText_16 : decode cX4_newText 16 = .ok (.aload_n 0, 1) := by decide +kernel
theorem dX4_newText_17 : decode cX4_newText 17 = .ok (.getfield 11, 3) := by decide +kernel
theorem dX4_newText_20 : decode cX4_newText 20 = .ok (.aload_n 0, 1) := by decide +kernel
theorem dX4_newText_21 : decode cX4_newText 21 = .ok (.getfield 35, 3) := by decide +kernel
theorem dX4_newText_24 : decode cX4_newText 24 = .ok (.iconst 3, 1) := by decide +kernel
theorem dX4_newText_25 : decode cX4_newText 25 = .ok (.imul, 1) := by decide +kernel
theorem dX4_newText_26 : decode cX4_newText 26 = .ok (.invokestatic 83, 3) := by decide +kernel
theorem dX4_newText_29 : decode cX4_newText 29 = .ok (.invokespecial 89, 3) := by decide +kernel
theorem dX4_newText_32 : decode cX4_newText 32 = .ok (.areturn, 1) := by decide +kernel
theorem dX4_fail_0 : decode cX4_fail 0 = .ok (.aload_n 0, 1) := by decide +kernel
theorem dX4_fail_1 : decode cX4_fail 1 = .ok (.iload_n 2, 1) := by decide +kernel
theorem dX4_fail_2 : decode cX4_fail 2 = .ok (.putfield 45, 3) := by decide +kernel
theorem dX4_fail_5 : decode cX4_fail 5 = .ok (.aload_n 0, 1) := by decide +kernel
theorem dX4_fail_6 : decode cX4_fail 6 = .ok (.aload_n 1, 1) := by decide +kernel
theorem dX4_fail_7 : decode cX4_fail 7 = .ok (.invokevirtual 92, 3) := by decide +kernel
theorem dX4_fail_10 : decode cX4_fail 10 = .ok (.putfield 48, 3) := by decide +kernel
theorem dX4_fail_13 : decode cX4_fail 13 = .ok (.return_, 1) := by decide +kernel
theorem dX4_readClause_0 : decode cX4_readClause 0 = .ok (.aload_n 0, 1) := by decide +kernel
theorem dX4_readClause_1 : decode cX4_readClause 1 = .ok (.aload_n 1, 1) := by decide +kernel
theorem dX4_readClause_2 : decode cX4_readClause 2 = .ok (.invokevirtual 75, 3) := by decide +kernel
theorem dX4_readClause_5 : decode cX4_readClause 5 = .ok (.putfield 51, 3) := by decide +kernel
theorem dX4_readClause_8 : decode cX4_readClause 8 = .ok (.aload_n 0, 1) := by decide +kernel
theorem dX4_readClause_9 : decode cX4_readClause 9 = .ok (.getfield 51, 3) := by decide +kernel
theorem dX4_readClause_12 : decode cX4_readClause 12 = .ok (.bipush 8, 2) := by decide +kernel
theorem dX4_readClause_14 : decode cX4_readClause 14 = .ok (.if_icmp .lt 12, 3) := by decide +kernel
theorem dX4_readClause_17 : decode cX4_readClause 17 = .ok (.aload_n 0, 1) := by decide +kernel
theorem dX4_readClause_18 : decode cX4_readClause 18 = .ok (.getfield 51, 3) := by decide +kernel
theorem dX4_readClause_21 : decode cX4_readClause 21 = .ok (.bipush 13, 2) := by decide +kernel
theorem dX4_readClause_23 : decode cX4_readClause 23 = .ok (.if_icmp .le 12, 3) := by decide +kernel
theorem dX4_readClause_26 : decode cX4_readClause 26 = .ok (.aload_n 0, 1) := by decide +kernel
theorem dX4_readClause_27 : decode cX4_readClause 27 = .ok (.aload_n 1, 1) := by decide +kernel
theorem dX4_readClause_28 : decode cX4_readClause 28 = .ok (.iconst 1, 1) := by decide +kernel
theorem dX4_readClause_29 : decode cX4_readClause 29 = .ok (.invokevirtual 95, 3) := by decide +kernel
theorem dX4_readClause_32 : decode cX4_readClause 32 = .ok (.goto 68, 3) := by decide +kernel
theorem dX4_readClause_35 : decode cX4_readClause 35 = .ok (.aload_n 0, 1) := by decide +kernel
theorem dX4_readClause_36 : decode cX4_readClause 36 = .ok (.aload_n 0, 1) := by decide +kernel
theorem dX4_readClause_37 : decode cX4_readClause 37 = .ok (.getfield 51, 3) := by decide +kernel
theorem dX4_readClause_40 : decode cX4_readClause 40 = .ok (.invokevirtual 99, 3) := by decide +kernel
theorem dX4_readClause_43 : decode cX4_readClause 43 = .ok (.ifCond .eq 12, 3) := by decide +kernel
theorem dX4_readClause_46 : decode cX4_readClause 46 = .ok (.aload_n 0, 1) := by decide +kernel
theorem dX4_readClause_47 : decode cX4_readClause 47 = .ok (.aload_n 1, 1) := by decide +kernel
theorem dX4_readClause_48 : decode cX4_readClause 48 = .ok (.iconst 4, 1) := by decide +kernel
theorem dX4_readClause_49 : decode cX4_readClause 49 = .ok (.invokevirtual 95, 3) := by decide +kernel
theorem dX4_readClause_52 : decode cX4_readClause 52 = .ok (.goto 48, 3) := by decide +kernel
theorem dX4_readClause_55 : decode cX4_readClause 55 = .ok (.aload_n 0, 1) := by decide +kernel
theorem dX4_readClause_56 : decode cX4_readClause 56 = .ok (.getfield 35, 3) := by decide +kernel
theorem dX4_readClause_59 : decode cX4_readClause 59 = .ok (.bipush 24, 2) := by decide +kernel
theorem dX4_readClause_61 : decode cX4_readClause 61 = .ok (.if_icmp .lt 13, 3) := by decide +kernel
theorem dX4_readClause_64 : decode cX4_readClause 64 = .ok (.aload_n 0, 1) := by decide +kernel
theorem dX4_readClause_65 : decode cX4_readClause 65 = .ok (.aload_n 1, 1) := by decide +kernel
theorem dX4_readClause_66 : decode cX4_readClause 66 = .ok (.bipush 6, 2) := by decide +kernel
theorem dX4_readClause_68 : decode cX4_readClause 68 = .ok (.invokevirtual 95, 3) := by decide +kernel
theorem dX4_readClause_71 : decode cX4_readClause 71 = .ok (.goto 29, 3) := by decide +kernel
theorem dX4_readClause_74 : decode cX4_readClause 74 = .ok (.aload_n 1, 1) := by decide +kernel
theorem dX4_readClause_75 : decode cX4_readClause 75 = .ok (.invokevirtual 103, 3) := by decide +kernel
theorem dX4_readClause_78 : decode cX4_readClause 78 = .ok (.aload_n 0, 1) := by decide +kernel
theorem dX4_readClause_79 : decode cX4_readClause 79 = .ok (.getfield 51, 3) := by decide +kernel
theorem dX4_readClause_82 : decode cX4_readClause 82 = .ok (.bipush 10, 2) := by decide +kernel
theorem dX4_readClause_84 : decode cX4_readClause 84 = .ok (.if_icmp .gt 11, 3) := by decide +kernel
theorem dX4_readClause_87 : decode cX4_readClause 87 = .ok (.aload_n 0, 1) := by decide +kernel
theorem dX4_readClause_88 : decode cX4_readClause 88 = .ok (.aload_n 1, 1) := by decide +kernel
theorem dX4_readClause_89 : decode cX4_readClause 89 = .ok (.invokevirtual 106, 3) := by decide +kernel
theorem dX4_readClause_92 : decode cX4_readClause 92 = .ok (.goto 8, 3) := by decide +kernel
theorem dX4_readClause_95 : decode cX4_readClause 95 = .ok (.aload_n 0, 1) := by decide +kernel
theorem dX4_readClause_96 : decode cX4_readClause 96 = .ok (.aload_n 1, 1) := by decide +kernel
theorem dX4_readClause_97 : decode cX4_readClause 97 = .ok (.invokevirtual 109, 3) := by decide +kernel
theorem dX4_readClause_100 : decode cX4_readClause 100 = .ok (.return_, 1) := by decide +kernel
theorem dX4_isTold_0 : decode cX4_isTold 0 = .ok (.iload_n 1, 1) := by decide +kernel
theorem dX4_isTold_1 : decode cX4_isTold 1 = .ok (.bipush 8, 2) := by decide +kernel
theorem dX4_isTold_3 : decode cX4_isTold 3 = .ok (.if_icmp .ne 11, 3) := by decide +kernel
theorem dX4_isTold_6 : decode cX4_isTold 6 = .ok (.aload_n 0, 1) := by decide +kernel
theorem dX4_isTold_7 : decode cX4_isTold 7 = .ok (.getfield 26, 3) := by decide +kernel
theorem dX4_isTold_10 : decode cX4_isTold 10 = .ok (.arraylength, 1) := by decide +kernel
theorem dX4_isTold_11 : decode cX4_isTold 11 = .ok (.ifCond .gt 31, 3) := by decide +kernel
theorem dX4_isTold_14 : decode cX4_isTold 14 = .ok (.iload_n 1, 1) := by decide +kernel
theorem dX4_isTold_15 : decode cX4_isTold 15 = .ok (.bipush 9, 2) := by decide +kernel
theorem dX4_isTold_17 : decode cX4_isTold 17 = .ok (.if_icmp .ne 11, 3) := by decide +kernel
theorem dX4_isTold_20 : decode cX4_isTold 20 = .ok (.aload_n 0, 1) := by decide +kernel
theorem dX4_isTold_21 : decode cX4_isTold 21 = .ok (.getfield 29, 3) := by decide +kernel
theorem dX4_isTold_24 : decode cX4_isTold 24 = .ok (.arraylength, 1) := by decide +kernel
theorem dX4_isTold_25 : decode cX4_isTold 25 = .ok (.ifCond .gt 17, 3) := by decide +kernel
theorem dX4_isTold_28 : decode cX4_isTold 28 = .ok (.iload_n 1, 1) := by decide +kernel
theorem dX4_isTold_29 : decode cX4_isTold 29 = .ok (.bipush 10, 2) := by decide +kernel
theorem dX4_isTold_31 : decode cX4_isTold 31 = .ok (.if_icmp .ne 15, 3) := by decide +kernel
theorem dX4_isTold_34 : decode cX4_isTold 34 = .ok (.aload_n 0, 1) := by decide +kernel
theorem dX4_isTold_35 : decode cX4_isTold 35 = .ok (.getfield 32, 3) := by decide +kernel
theorem dX4_isTold_38 : decode cX4_isTold 38 = .ok (.arraylength, 1) := by decide +kernel
theorem dX4_isTold_39 : decode cX4_isTold 39 = .ok (.ifCond .le 7, 3) := by decide +kernel
theorem dX4_isTold_42 : decode cX4_isTold 42 = .ok (.iconst 1, 1) := by decide +kernel
theorem dX4_isTold_43 : decode cX4_isTold 43 = .ok (.goto 4, 3) := by decide +kernel
theorem dX4_isTold_46 : decode cX4_isTold 46 = .ok (.iconst 0, 1) := by decide +kernel
theorem dX4_isTold_47 : decode cX4_isTold 47 = .ok (.ireturn, 1) := by decide +kernel
theorem dX4_addClause_0 : decode cX4_addClause 0 = .ok (.aload_n 0, 1) := by decide +kernel
theorem dX4_addClause_1 : decode cX4_addClause 1 = .ok (.getfield 35, 3) := by decide +kernel
theorem dX4_addClause_4 : decode cX4_addClause 4 = .ok (.bipush 24, 2) := by decide +kernel
theorem dX4_addClause_6 : decode cX4_addClause 6 = .ok (.if_icmp .ge 56, 3) := by decide +kernel
theorem dX4_addClause_9 : decode cX4_addClause 9 = .ok (.aload_n 0, 1) := by decide +kernel
theorem dX4_addClause_10 : decode cX4_addClause 10 = .ok (.getfield 11, 3) := by decide +kernel
theorem dX4_addClause_13 : decode cX4_addClause 13 = .ok (.aload_n 0, 1) := by decide +kernel
theorem dX4_addClause_14 : decode cX4_addClause 14 = .ok (.getfield 35, 3) := by decide +kernel
theorem dX4_addClause_17 : decode cX4_addClause 17 = .ok (.iconst 3, 1) := by decide +kernel
theorem dX4_addClause_18 : decode cX4_addClause 18 = .ok (.imul, 1) := by decide +kernel
theorem dX4_addClause_19 : decode cX4_addClause 19 = .ok (.aload_n 0, 1) := by decide +kernel
theorem dX4_addClause_20 : decode cX4_addClause 20 = .ok (.getfield 51, 3) := by decide +kernel
theorem dX4_addClause_23 : decode cX4_addClause 23 = .ok (.iastore, 1) := by decide +kernel
theorem dX4_addClause_24 : decode cX4_addClause 24 = .ok (.aload_n 0, 1) := by decide +kernel
theorem dX4_addClause_25 : decode cX4_addClause 25 = .ok (.getfield 11, 3) := by decide +kernel
theorem dX4_addClause_28 : decode cX4_addClause 28 = .ok (.aload_n 0, 1) := by decide +kernel
theorem dX4_addClause_29 : decode cX4_addClause 29 = .ok (.getfield 35, 3) := by decide +kernel
theorem dX4_addClause_32 : decode cX4_addClause 32 = .ok (.iconst 3, 1) := by decide +kernel
theorem dX4_addClause_33 : decode cX4_addClause 33 = .ok (.imul, 1) := by decide +kernel
theorem dX4_addClause_34 : decode cX4_addClause 34 = .ok (.iconst 1, 1) := by decide +kernel
theorem dX4_addClause_35 : decode cX4_addClause 35 = .ok (.iadd, 1) := by decide +kernel
theorem dX4_addClause_36 : decode cX4_addClause 36 = .ok (.iload_n 1, 1) := by decide +kernel
theorem dX4_addClause_37 : decode cX4_addClause 37 = .ok (.iastore, 1) := by decide +kernel
theorem dX4_addClause_38 : decode cX4_addClause 38 = .ok (.aload_n 0, 1) := by decide +kernel
theorem dX4_addClause_39 : decode cX4_addClause 39 = .ok (.getfield 11, 3) := by decide +kernel
theorem dX4_addClause_42 : decode cX4_addClause 42 = .ok (.aload_n 0, 1) := by decide +kernel
theorem dX4_addClause_43 : decode cX4_addClause 43 = .ok (.getfield 35, 3) := by decide +kernel
theorem dX4_addClause_46 : decode cX4_addClause 46 = .ok (.iconst 3, 1) := by decide +kernel
theorem dX4_addClause_47 : decode cX4_addClause 47 = .ok (.imul, 1) := by decide +kernel
theorem dX4_addClause_48 : decode cX4_addClause 48 = .ok (.iconst 2, 1) := by decide +kernel
theorem dX4_addClause_49 : decode cX4_addClause 49 = .ok (.iadd, 1) := by decide +kernel
theorem dX4_addClause_50 : decode cX4_addClause 50 = .ok (.iload_n 2, 1) := by decide +kernel
theorem dX4_addClause_51 : decode cX4_addClause 51 = .ok (.iastore, 1) := by decide +kernel
theorem dX4_addClause_52 : decode cX4_addClause 52 = .ok (.aload_n 0, 1) := by decide +kernel
theorem dX4_addClause_53 : decode cX4_addClause 53 = .ok (.dup, 1) := by decide +kernel
theorem dX4_addClause_54 : decode cX4_addClause 54 = .ok (.getfield 35, 3) := by decide +kernel
theorem dX4_addClause_57 : decode cX4_addClause 57 = .ok (.iconst 1, 1) := by decide +kernel
theorem dX4_addClause_58 : decode cX4_addClause 58 = .ok (.iadd, 1) := by decide +kernel
theorem dX4_addClause_59 : decode cX4_addClause 59 = .ok (.putfield 35, 3) := by decide +kernel
theorem dX4_addClause_62 : decode cX4_addClause 62 = .ok (.return_, 1) := by decide +kernel
theorem dX4_readDeed_0 : decode cX4_readDeed 0 = .ok (.aload_n 0, 1) := by decide +kernel
theorem dX4_readDeed_1 : decode cX4_readDeed 1 = .ok (.getfield 51, 3) := by decide +kernel
theorem dX4_readDeed_4 : decode cX4_readDeed 4 = .ok (.bipush 13, 2) := by decide +kernel
theorem dX4_readDeed_6 : decode cX4_readDeed 6 = .ok (.if_icmp .ne 8, 3) := by decide +kernel
theorem dX4_readDeed_9 : decode cX4_readDeed 9 = .ok (.bipush 9, 2) := by decide +kernel
theorem dX4_readDeed_11 : decode cX4_readDeed 11 = .ok (.goto 5, 3) := by decide +kernel
theorem dX4_readDeed_14 : decode cX4_readDeed 14 = .ok (.bipush 11, 2) := by decide +kernel
theorem dX4_readDeed_16 : decode cX4_readDeed 16 = .ok (.istore_n 2, 1) := by decide +kernel
theorem dX4_readDeed_17 : decode cX4_readDeed 17 = .ok (.aload_n 0, 1) := by decide +kernel
theorem dX4_readDeed_18 : decode cX4_readDeed 18 = .ok (.aload_n 1, 1) := by decide +kernel
theorem dX4_readDeed_19 : decode cX4_readDeed 19 = .ok (.iload_n 2, 1) := by decide +kernel
theorem dX4_readDeed_20 : decode cX4_readDeed 20 = .ok (.invokevirtual 112, 3) := by decide +kernel
theorem dX4_readDeed_23 : decode cX4_readDeed 23 = .ok (.istore_n 3, 1) := by decide +kernel
theorem dX4_readDeed_24 : decode cX4_readDeed 24 = .ok (.iconst (-1), 1) := by decide +kernel
theorem dX4_readDeed_25 : decode cX4_readDeed 25 = .ok (.istore 4, 2) := by decide +kernel
theorem dX4_readDeed_27 : decode cX4_readDeed 27 = .ok (.aload_n 0, 1) := by decide +kernel
theorem dX4_readDeed_28 : decode cX4_readDeed 28 = .ok (.getfield 51, 3) := by decide +kernel
theorem dX4_readDeed_31 : decode cX4_readDeed 31 = .ok (.bipush 13, 2) := by decide +kernel
theorem dX4_readDeed_33 : decode cX4_readDeed 33 = .ok (.if_icmp .ne 18, 3) := by decide +kernel
theorem dX4_readDeed_36 : decode cX4_readDeed 36 = .ok (.aload_n 0, 1) := by decide +kernel
theorem dX4_readDeed_37 : decode cX4_readDeed 37 = .ok (.aload_n 1, 1) := by decide +kernel
theorem dX4_readDeed_38 : decode cX4_readDeed 38 = .ok (.bipush 14, 2) := by decide +kernel
theorem dX4_readDeed_40 : decode cX4_readDeed 40 = .ok (.invokevirtual 116, 3) := by decide +kernel
theorem dX4_readDeed_43 : decode cX4_readDeed 43 = .ok (.aload_n 0, 1) := by decide +kernel
theorem dX4_readDeed_44 : decode cX4_readDeed 44 = .ok (.aload_n 1, 1) := by decide +kernel
theorem dX4_readDeed_45 : decode cX4_readDeed 45 = .ok (.iload_n 2, 1) := by decide +kernel
theorem dX4_readDeed_46 : decode cX4_readDeed 46 = .ok (.invokevirtual 112, 3) := by decide +kernel
theorem dX4_readDeed_49 : decode cX4_readDeed 49 = .ok (.istore 4, 2) := by decide +kernel
theorem dX4_readDeed_51 : decode cX4_readDeed 51 = .ok (.aload_n 0, 1) := by decide +kernel
theorem dX4_readDeed_52 : decode cX4_readDeed 52 = .ok (.aload_n 1, 1) := by decide +kernel
theorem dX4_readDeed_53 : decode cX4_readDeed 53 = .ok (.bipush 30, 2) := by decide +kernel
theorem dX4_readDeed_55 : decode cX4_readDeed 55 = .ok (.invokevirtual 116, 3) := by decide +kernel
theorem dX4_readDeed_58 : decode cX4_readDeed 58 = .ok (.aload_n 0, 1) := by decide +kernel
theorem dX4_readDeed_59 : decode cX4_readDeed 59 = .ok (.getfield 45, 3) := by decide +kernel
theorem dX4_readDeed_62 : decode cX4_readDeed 62 = .ok (.ifCond .ne 10, 3) := by decide +kernel
theorem dX4_readDeed_65 : decode cX4_readDeed 65 = .ok (.aload_n 0, 1) := by decide +kernel
theorem dX4_readDeed_66 : decode cX4_readDeed 66 = .ok (.iload_n 3, 1) := by decide +kernel
theorem dX4_readDeed_67 : decode cX4_readDeed 67 = .ok (.iload 4, 2) := by decide +kernel
theorem dX4_readDeed_69 : decode cX4_readDeed 69 = .ok (.invokevirtual 119, 3) := by decide +kernel
theorem dX4_readDeed_72 : decode cX4_readDeed 72 = .ok (.return_, 1) := by decide +kernel
theorem dX4_readNumber_0 : decode cX4_readNumber 0 = .ok (.aload_n 1, 1) := by decide +kernel
theorem dX4_readNumber_1 : decode cX4_readNumber 1 = .ok (.invokevirtual 123, 3) := by decide +kernel
theorem dX4_readNumber_4 : decode cX4_readNumber 4 = .ok (.istore_n 3, 1) := by decide +kernel
theorem dX4_readNumber_5 : decode cX4_readNumber 5 = .ok (.aload_n 0, 1) := by decide +kernel
theorem dX4_readNumber_6 : decode cX4_readNumber 6 = .ok (.getfield 45, 3) := by decide +kernel
theorem dX4_readNumber_9 : decode cX4_readNumber 9 = .ok (.ifCond .ne 23, 3) := by decide +kernel
theorem dX4_readNumber_12 : decode cX4_readNumber 12 = .ok (.aload_n 1, 1) := by decide +kernel
theorem dX4_readNumber_13 : decode cX4_readNumber 13 = .ok (.invokevirtual 75, 3) := by decide +kernel
theorem dX4_readNumber_16 : decode cX4_readNumber 16 = .ok (.bipush 40, 2) := by decide +kernel
theorem dX4_readNumber_18 : decode cX4_readNumber 18 = .ok (.if_icmp .ne 14, 3) := by decide +kernel
theorem dX4_readNumber_21 : decode cX4_readNumber 21 = .ok (.iload_n 3, 1) := by decide +kernel
theorem dX4_readNumber_22 : decode cX4_readNumber 22 = .ok (.iload_n 2, 1) := by decide +kernel
theorem dX4_readNumber_23 : decode cX4_readNumber 23 = .ok (.if_icmp .le 9, 3) := by decide +kernel
theorem dX4_readNumber_26 : decode cX4_readNumber 26 = .ok (.aload_n 0, 1) := by decide +kernel
theorem dX4_readNumber_27 : decode cX4_readNumber 27 = .ok (.aload_n 1, 1) := by decide +kernel
theorem dX4_readNumber_28 : decode cX4_readNumber 28 = .ok (.iconst 2, 1) := by decide +kernel
theorem dX4_readNumber_29 : decode cX4_readNumber 29 = .ok (.invokevirtual 95, 3) := by decide +kernel
theorem dX4_readNumber_32 : decode cX4_readNumber 32 = .ok (.aload_n 0, 1) := by decide +kernel
theorem dX4_readNumber_33 : decode cX4_readNumber 33 = .ok (.aload_n 1, 1) := by decide +kernel
theorem dX4_readNumber_34 : decode cX4_readNumber 34 = .ok (.bipush 40, 2) := by decide +kernel
theorem dX4_readNumber_36 : decode cX4_readNumber 36 = .ok (.invokevirtual 116, 3) := by decide +kernel
theorem dX4_readNumber_39 : decode cX4_readNumber 39 = .ok (.iload_n 3, 1) := by decide +kernel
theorem dX4_readNumber_40 : decode cX4_readNumber 40 = .ok (.ireturn, 1) := by decide +kernel
theorem dX4_pass_0 : decode cX4_pass 0 = .ok (.aload_n 0, 1) := by decide +kernel
theorem dX4_pass_1 : decode cX4_pass 1 = .ok (.getfield 45, 3) := by decide +kernel
theorem dX4_pass_4 : decode cX4_pass 4 = .ok (.ifCond .ne 20, 3) := by decide +kernel
theorem dX4_pass_7 : decode cX4_pass 7 = .ok (.aload_n 1, 1) := by decide +kernel
theorem dX4_pass_8 : decode cX4_pass 8 = .ok (.invokevirtual 75, 3) := by decide +kernel
theorem dX4_pass_11 : decode cX4_pass 11 = .ok (.iload_n 2, 1) := by decide +kernel
theorem dX4_pass_12 : decode cX4_pass 12 = .ok (.if_icmp .eq 12, 3) := by decide +kernel
theorem dX4_pass_15 : decode cX4_pass 15 = .ok (.aload_n 0, 1) := by decide +kernel
theorem dX4_pass_16 : decode cX4_pass 16 = .ok (.aload_n 1, 1) := by decide +kernel
theorem dX4_pass_17 : decode cX4_pass 17 = .ok (.iconst 1, 1) := by decide +kernel
theorem dX4_pass_18 : decode cX4_pass 18 = .ok (.invokevirtual 95, 3) := by decide +kernel
theorem dX4_pass_21 : decode cX4_pass 21 = .ok (.goto 14, 3) := by decide +kernel
theorem dX4_pass_24 : decode cX4_pass 24 = .ok (.aload_n 0, 1) := by decide +kernel
theorem dX4_pass_25 : decode cX4_pass 25 = .ok (.getfield 45, 3) := by decide +kernel
theorem dX4_pass_28 : decode cX4_pass 28 = .ok (.ifCond .ne 7, 3) := by decide +kernel
theorem dX4_pass_31 : decode cX4_pass 31 = .ok (.aload_n 1, 1) := by decide +kernel
theorem dX4_pass_32 : decode cX4_pass 32 = .ok (.invokevirtual 103, 3) := by decide +kernel
theorem dX4_pass_35 : decode cX4_pass 35 = .ok (.return_, 1) := by decide +kernel
theorem dX4_readLaw_0 : decode cX4_readLaw 0 = .ok (.aload_n 0, 1) := by decide +kernel
theorem dX4_readLaw_1 : decode cX4_readLaw 1 = .ok (.iconst 0, 1) := by decide +kernel
theorem dX4_readLaw_2 : decode cX4_readLaw 2 = .ok (.putfield 39, 3) := by decide +kernel
theorem dX4_readLaw_5 : decode cX4_readLaw 5 = .ok (.aload_n 0, 1) := by decide +kernel
theorem dX4_readLaw_6 : decode cX4_readLaw 6 = .ok (.iconst 0, 1) := by decide +kernel
theorem dX4_readLaw_7 : decode cX4_readLaw 7 = .ok (.putfield 42, 3) := by decide +kernel
theorem dX4_readLaw_10 : decode cX4_readLaw 10 = .ok (.aload_n 0, 1) := by decide +kernel
theorem dX4_readLaw_11 : decode cX4_readLaw 11 = .ok (.iconst 0, 1) := by decide +kernel
theorem dX4_readLaw_12 : decode cX4_readLaw 12 = .ok (.putfield 54, 3) := by decide +kernel
theorem dX4_readLaw_15 : decode cX4_readLaw 15 = .ok (.aload_n 0, 1) := by decide +kernel
theorem dX4_readLaw_16 : decode cX4_readLaw 16 = .ok (.iconst 0, 1) := by decide +kernel
theorem dX4_readLaw_17 : decode cX4_readLaw 17 = .ok (.putfield 57, 3) := by decide +kernel
theorem dX4_readLaw_20 : decode cX4_readLaw 20 = .ok (.aload_n 0, 1) := by decide +kernel
theorem dX4_readLaw_21 : decode cX4_readLaw 21 = .ok (.iconst 1, 1) := by decide +kernel
theorem dX4_readLaw_22 : decode cX4_readLaw 22 = .ok (.putfield 60, 3) := by decide +kernel
theorem dX4_readLaw_25 : decode cX4_readLaw 25 = .ok (.aload_n 0, 1) := by decide +kernel
theorem dX4_readLaw_26 : decode cX4_readLaw 26 = .ok (.aload_n 0, 1) := by decide +kernel
theorem dX4_readLaw_27 : decode cX4_readLaw 27 = .ok (.getfield 51, 3) := by decide +kernel
theorem dX4_readLaw_30 : decode cX4_readLaw 30 = .ok (.bipush 8, 2) := by decide +kernel
theorem dX4_readLaw_32 : decode cX4_readLaw 32 = .ok (.if_icmp .eq 7, 3) := by decide +kernel
theorem dX4_readLaw_35 : decode cX4_readLaw 35 = .ok (.iconst 1, 1) := by decide +kernel
theorem dX4_readLaw_36 : decode cX4_readLaw 36 = .ok (.goto 4, 3) := by decide +kernel
theorem dX4_readLaw_39 : decode cX4_readLaw 39 = .ok (.iconst 0, 1) := by decide +kernel
theorem dX4_readLaw_40 : decode cX4_readLaw 40 = .ok (.putfield 64, 3) := by decide +kernel
theorem dX4_readLaw_43 : decode cX4_readLaw 43 = .ok (.aload_n 0, 1) := by decide +kernel
theorem dX4_readLaw_44 : decode cX4_readLaw 44 = .ok (.iconst 0, 1) := by decide +kernel
theorem dX4_readLaw_45 : decode cX4_readLaw 45 = .ok (.putfield 67, 3) := by decide +kernel
theorem dX4_readLaw_48 : decode cX4_readLaw 48 = .ok (.iconst 0, 1) := by decide +kernel
theorem dX4_readLaw_49 : decode cX4_readLaw 49 = .ok (.istore_n 2, 1) := by decide +kernel
theorem dX4_readLaw_50 : decode cX4_readLaw 50 = .ok (.iload_n 2, 1) := by decide +kernel
theorem dX4_readLaw_51 : decode cX4_readLaw 51 = .ok (.sipush 300, 3) := by decide +kernel
theorem dX4_readLaw_54 : decode cX4_readLaw 54 = .ok (.if_icmp .gt 68, 3) := by decide +kernel
theorem dX4_readLaw_57 : decode cX4_readLaw 57 = .ok (.aload_n 0, 1) := by decide +kernel
theorem dX4_readLaw_58 : decode cX4_readLaw 58 = .ok (.getfield 45, 3) := by decide +kernel
theorem dX4_readLaw_61 : decode cX4_readLaw 61 = .ok (.ifCond .ne 61, 3) := by decide +kernel
theorem dX4_readLaw_64 : decode cX4_readLaw 64 = .ok (.aload_n 0, 1) := by decide +kernel
theorem dX4_readLaw_65 : decode cX4_readLaw 65 = .ok (.aload_n 1, 1) := by decide +kernel
theorem dX4_readLaw_66 : decode cX4_readLaw 66 = .ok (.invokevirtual 75, 3) := by decide +kernel
theorem dX4_readLaw_69 : decode cX4_readLaw 69 = .ok (.invokevirtual 126, 3) := by decide +kernel
theorem dX4_readLaw_72 : decode cX4_readLaw 72 = .ok (.ifCond .ne 50, 3) := by decide +kernel
theorem dX4_readLaw_75 : decode cX4_readLaw 75 = .ok (.aload_n 0, 1) := by decide +kernel
theorem dX4_readLaw_76 : decode cX4_readLaw 76 = .ok (.getfield 60, 3) := by decide +kernel
theorem dX4_readLaw_79 : decode cX4_readLaw 79 = .ok (.ifCond .eq 11, 3) := by decide +kernel
theorem dX4_readLaw_82 : decode cX4_readLaw 82 = .ok (.aload_n 0, 1) := by decide +kernel
theorem dX4_readLaw_83 : decode cX4_readLaw 83 = .ok (.aload_n 1, 1) := by decide +kernel
theorem dX4_readLaw_84 : decode cX4_readLaw 84 = .ok (.invokevirtual 129, 3) := by decide +kernel
theorem dX4_readLaw_87 : decode cX4_readLaw 87 = .ok (.goto 11, 3) := by decide +kernel
theorem dX4_readLaw_90 : decode cX4_readLaw 90 = .ok (.aload_n 0, 1) := by decide +kernel
theorem dX4_readLaw_91 : decode cX4_readLaw 91 = .ok (.aload_n 1, 1) := by decide +kernel
theorem dX4_readLaw_92 : decode cX4_readLaw 92 = .ok (.invokevirtual 75, 3) := by decide +kernel
theorem dX4_readLaw_95 : decode cX4_readLaw 95 = .ok (.invokevirtual 133, 3) := by decide +kernel
theorem dX4_readLaw_98 : decode cX4_readLaw 98 = .ok (.istore_n 3, 1) := by decide +kernel
theorem dX4_readLaw_99 : decode cX4_readLaw 99 = .ok (.iload_n 3, 1) := by decide +kernel
theorem dX4_readLaw_100 : decode cX4_readLaw 100 = .ok (.ifCond .eq 12, 3) := by decide +kernel
theorem dX4_readLaw_103 : decode cX4_readLaw 103 = .ok (.aload_n 0, 1) := by decide +kernel
theorem dX4_readLaw_104 : decode cX4_readLaw 104 = .ok (.aload_n 1, 1) := by decide +kernel
theorem dX4_readLaw_105 : decode cX4_readLaw 105 = .ok (.iload_n 3, 1) := by decide +kernel
theorem dX4_readLaw_106 : decode cX4_readLaw 106 = .ok (.invokevirtual 95, 3) := by decide +kernel
theorem dX4_readLaw_109 : decode cX4_readLaw 109 = .ok (.goto 7, 3) := by decide +kernel
theorem dX4_readLaw_112 : decode cX4_readLaw 112 = .ok (.aload_n 1, 1) := by decide +kernel
theorem dX4_readLaw_113 : decode cX4_readLaw 113 = .ok (.invokevirtual 103, 3) := by decide +kernel
theorem dX4_readLaw_116 : decode cX4_readLaw 116 = .ok (.iinc 2 1, 3) := by decide +kernel
theorem dX4_readLaw_119 : decode cX4_readLaw 119 = .ok (.goto (-69), 3) := by decide +kernel
theorem dX4_readLaw_122 : decode cX4_readLaw 122 = .ok (.aload_n 0, 1) := by decide +kernel
theorem dX4_readLaw_123 : decode cX4_readLaw 123 = .ok (.getfield 45, 3) := by decide +kernel
theorem dX4_readLaw_126 : decode cX4_readLaw 126 = .ok (.ifCond .ne 23, 3) := by decide +kernel
theorem dX4_readLaw_129 : decode cX4_readLaw 129 = .ok (.aload_n 0, 1) := by decide +kernel
theorem dX4_readLaw_130 : decode cX4_readLaw 130 = .ok (.bipush 15, 2) := by decide +kernel
theorem dX4_readLaw_132 : decode cX4_readLaw 132 = .ok (.invokevirtual 137, 3) := by decide +kernel
theorem dX4_readLaw_135 : decode cX4_readLaw 135 = .ok (.aload_n 0, 1) := by decide +kernel
theorem dX4_readLaw_136 : decode cX4_readLaw 136 = .ok (.invokevirtual 141, 3) := by decide +kernel
theorem dX4_readLaw_139 : decode cX4_readLaw 139 = .ok (.aload_n 0, 1) := by decide +kernel
theorem dX4_readLaw_140 : decode cX4_readLaw 140 = .ok (.iconst (-1), 1) := by decide +kernel
theorem dX4_readLaw_141 : decode cX4_readLaw 141 = .ok (.iconst (-1), 1) := by decide +kernel
theorem dX4_readLaw_142 : decode cX4_readLaw 142 = .ok (.invokevirtual 119, 3) := by decide +kernel
theorem dX4_readLaw_145 : decode cX4_readLaw 145 = .ok (.aload_n 1, 1) := by decide +kernel
theorem dX4_readLaw_146 : decode cX4_readLaw 146 = .ok (.invokevirtual 103, 3) := by decide +kernel
theorem dX4_readLaw_149 : decode cX4_readLaw 149 = .ok (.return_, 1) := by decide +kernel
theorem dX4_isAtEnd_0 : decode cX4_isAtEnd 0 = .ok (.iload_n 1, 1) := by decide +kernel
theorem dX4_isAtEnd_1 : decode cX4_isAtEnd 1 = .ok (.bipush 30, 2) := by decide +kernel
theorem dX4_isAtEnd_3 : decode cX4_isAtEnd 3 = .ok (.if_icmp .ne 37, 3) := by decide +kernel
theorem dX4_isAtEnd_6 : decode cX4_isAtEnd 6 = .ok (.aload_n 0, 1) := by decide +kernel
theorem dX4_isAtEnd_7 : decode cX4_isAtEnd 7 = .ok (.getfield 60, 3) := by decide +kernel
theorem dX4_isAtEnd_10 : decode cX4_isAtEnd 10 = .ok (.ifCond .ne 30, 3) := by decide +kernel
theorem dX4_isAtEnd_13 : decode cX4_isAtEnd 13 = .ok (.aload_n 0, 1) := by decide +kernel
theorem dX4_isAtEnd_14 : decode cX4_isAtEnd 14 = .ok (.getfield 57, 3) := by decide +kernel
theorem dX4_isAtEnd_17 : decode cX4_isAtEnd 17 = .ok (.ifCond .ne 23, 3) := by decide +kernel
theorem dX4_isAtEnd_20 : decode cX4_isAtEnd 20 = .ok (.aload_n 0, 1) := by decide +kernel
theorem dX4_isAtEnd_21 : decode cX4_isAtEnd 21 = .ok (.getfield 67, 3) := by decide +kernel
theorem dX4_isAtEnd_24 : decode cX4_isAtEnd 24 = .ok (.ifCond .ne 12, 3) := by decide +kernel
theorem dX4_isAtEnd_27 : decode cX4_isAtEnd 27 = .ok (.aload_n 0, 1) := by decide +kernel
theorem dX4_isAtEnd_28 : decode cX4_isAtEnd 28 = .ok (.getfield 51, 3) := by decide +kernel
theorem dX4_isAtEnd_31 : decode cX4_isAtEnd 31 = .ok (.bipush 8, 2) := by decide +kernel
theorem dX4_isAtEnd_33 : decode cX4_isAtEnd 33 = .ok (.if_icmp .ne 7, 3) := by decide +kernel
theorem dX4_isAtEnd_36 : decode cX4_isAtEnd 36 = .ok (.iconst 1, 1) := by decide +kernel
theorem dX4_isAtEnd_37 : decode cX4_isAtEnd 37 = .ok (.goto 4, 3) := by decide +kernel
theorem dX4_isAtEnd_40 : decode cX4_isAtEnd 40 = .ok (.iconst 0, 1) := by decide +kernel
theorem dX4_isAtEnd_41 : decode cX4_isAtEnd 41 = .ok (.ireturn, 1) := by decide +kernel
theorem dX4_keepLaw_0 : decode cX4_keepLaw 0 = .ok (.aload_n 0, 1) := by decide +kernel
theorem dX4_keepLaw_1 : decode cX4_keepLaw 1 = .ok (.getfield 17, 3) := by decide +kernel
theorem dX4_keepLaw_4 : decode cX4_keepLaw 4 = .ok (.aload_n 0, 1) := by decide +kernel
theorem dX4_keepLaw_5 : decode cX4_keepLaw 5 = .ok (.getfield 39, 3) := by decide +kernel
theorem dX4_keepLaw_8 : decode cX4_keepLaw 8 = .ok (.invokestatic 83, 3) := by decide +kernel
theorem dX4_keepLaw_11 : decode cX4_keepLaw 11 = .ok (.astore_n 1, 1) := by decide +kernel
theorem dX4_keepLaw_12 : decode cX4_keepLaw 12 = .ok (.aload_n 0, 1) := by decide +kernel
theorem dX4_keepLaw_13 : decode cX4_keepLaw 13 = .ok (.getfield 51, 3) := by decide +kernel
theorem dX4_keepLaw_16 : decode cX4_keepLaw 16 = .ok (.bipush 8, 2) := by decide +kernel
theorem dX4_keepLaw_18 : decode cX4_keepLaw 18 = .ok (.if_icmp .ne 11, 3) := by decide +kernel
theorem dX4_keepLaw_21 : decode cX4_keepLaw 21 = .ok (.aload_n 0, 1) := by decide +kernel
theorem dX4_keepLaw_22 : decode cX4_keepLaw 22 = .ok (.aload_n 1, 1) := by decide +kernel
theorem dX4_keepLaw_23 : decode cX4_keepLaw 23 = .ok (.putfield 26, 3) := by decide +kernel
theorem dX4_keepLaw_26 : decode cX4_keepLaw 26 = .ok (.goto 25, 3) := by decide +kernel
theorem dX4_keepLaw_29 : decode cX4_keepLaw 29 = .ok (.aload_n 0, 1) := by decide +kernel
theorem dX4_keepLaw_30 : decode cX4_keepLaw 30 = .ok (.getfield 51, 3) := by decide +kernel
theorem dX4_keepLaw_33 : decode cX4_keepLaw 33 = .ok (.bipush 9, 2) := by decide +kernel
theorem dX4_keepLaw_35 : decode cX4_keepLaw 35 = .ok (.if_icmp .ne 11, 3) := by decide +kernel
theorem dX4_keepLaw_38 : decode cX4_keepLaw 38 = .ok (.aload_n 0, 1) := by decide +kernel
theorem dX4_keepLaw_39 : decode cX4_keepLaw 39 = .ok (.aload_n 1, 1) := by decide +kernel
theorem dX4_keepLaw_40 : decode cX4_keepLaw 40 = .ok (.putfield 29, 3) := by decide +kernel
theorem dX4_keepLaw_43 : decode cX4_keepLaw 43 = .ok (.goto 8, 3) := by decide +kernel
theorem dX4_keepLaw_46 : decode cX4_keepLaw 46 = .ok (.aload_n 0, 1) := by decide +kernel
theorem dX4_keepLaw_47 : decode cX4_keepLaw 47 = .ok (.aload_n 1, 1) := by decide +kernel
theorem dX4_keepLaw_48 : decode cX4_keepLaw 48 = .ok (.putfield 32, 3) := by decide +kernel
theorem dX4_keepLaw_51 : decode cX4_keepLaw 51 = .ok (.return_, 1) := by decide +kernel
theorem dX4_takeOne_0 : decode cX4_takeOne 0 = .ok (.aload_n 1, 1) := by decide +kernel
theorem dX4_takeOne_1 : decode cX4_takeOne 1 = .ok (.invokevirtual 75, 3) := by decide +kernel
theorem dX4_takeOne_4 : decode cX4_takeOne 4 = .ok (.istore_n 2, 1) := by decide +kernel
theorem dX4_takeOne_5 : decode cX4_takeOne 5 = .ok (.iload_n 2, 1) := by decide +kernel
theorem dX4_takeOne_6 : decode cX4_takeOne 6 = .ok (.bipush 17, 2) := by decide +kernel
theorem dX4_takeOne_8 : decode cX4_takeOne 8 = .ok (.if_icmp .ne 17, 3) := by decide +kernel
theorem dX4_takeOne_11 : decode cX4_takeOne 11 = .ok (.aload_n 0, 1) := by decide +kernel
theorem dX4_takeOne_12 : decode cX4_takeOne 12 = .ok (.getfield 64, 3) := by decide +kernel
theorem dX4_takeOne_15 : decode cX4_takeOne 15 = .ok (.ifCond .eq 10, 3) := by decide +kernel
theorem dX4_takeOne_18 : decode cX4_takeOne 18 = .ok (.aload_n 0, 1) := by decide +kernel
theorem dX4_takeOne_19 : decode cX4_takeOne 19 = .ok (.bipush 17, 2) := by decide +kernel
theorem dX4_takeOne_21 : decode cX4_takeOne 21 = .ok (.invokevirtual 144, 3) := by decide +kernel
theorem dX4_takeOne_24 : decode cX4_takeOne 24 = .ok (.ireturn, 1) := by decide +kernel
theorem dX4_takeOne_25 : decode cX4_takeOne 25 = .ok (.aload_n 0, 1) := by decide +kernel
theorem dX4_takeOne_26 : decode cX4_takeOne 26 = .ok (.iconst 0, 1) := by decide +kernel
theorem dX4_takeOne_27 : decode cX4_takeOne 27 = .ok (.putfield 64, 3) := by decide +kernel
theorem dX4_takeOne_30 : decode cX4_takeOne 30 = .ok (.iload_n 2, 1) := by decide +kernel
theorem dX4_takeOne_31 : decode cX4_takeOne 31 = .ok (.bipush 40, 2) := by decide +kernel
theorem dX4_takeOne_33 : decode cX4_takeOne 33 = .ok (.if_icmp .ne 32, 3) := by decide +kernel
theorem dX4_takeOne_36 : decode cX4_takeOne 36 = .ok (.aload_n 0, 1) := by decide +kernel
theorem dX4_takeOne_37 : decode cX4_takeOne 37 = .ok (.iconst 0, 1) := by decide +kernel
theorem dX4_takeOne_38 : decode cX4_takeOne 38 = .ok (.putfield 60, 3) := by decide +kernel
theorem dX4_takeOne_41 : decode cX4_takeOne 41 = .ok (.aload_n 0, 1) := by decide +kernel
theorem dX4_takeOne_42 : decode cX4_takeOne 42 = .ok (.aload_n 1, 1) := by decide +kernel
theorem dX4_takeOne_43 : decode cX4_takeOne 43 = .ok (.invokevirtual 123, 3) := by decide +kernel
theorem dX4_takeOne_46 : decode cX4_takeOne 46 = .ok (.invokevirtual 147, 3) := by decide +kernel
theorem dX4_takeOne_49 : decode cX4_takeOne 49 = .ok (.aload_n 1, 1) := by decide +kernel
theorem dX4_takeOne_50 : decode cX4_takeOne 50 = .ok (.invokevirtual 123, 3) := by decide +kernel
theorem dX4_takeOne_53 : decode cX4_takeOne 53 = .ok (.sipush 9999, 3) := by decide +kernel
theorem dX4_takeOne_56 : decode cX4_takeOne 56 = .ok (.if_icmp .le 7, 3) := by decide +kernel
theorem dX4_takeOne_59 : decode cX4_takeOne 59 = .ok (.iconst 2, 1) := by decide +kernel
theorem dX4_takeOne_60 : decode cX4_takeOne 60 = .ok (.goto 4, 3) := by decide +kernel
theorem dX4_takeOne_63 : decode cX4_takeOne 63 = .ok (.iconst 0, 1) := by decide +kernel
theorem dX4_takeOne_64 : decode cX4_takeOne 64 = .ok (.ireturn, 1) := by decide +kernel
theorem dX4_takeOne_65 : decode cX4_takeOne 65 = .ok (.iload_n 2, 1) := by decide +kernel
theorem dX4_takeOne_66 : decode cX4_takeOne 66 = .ok (.bipush 8, 2) := by decide +kernel
theorem dX4_takeOne_68 : decode cX4_takeOne 68 = .ok (.if_icmp .ge 31, 3) := by decide +kernel
theorem dX4_takeOne_71 : decode cX4_takeOne 71 = .ok (.aload_n 0, 1) := by decide +kernel
theorem dX4_takeOne_72 : decode cX4_takeOne 72 = .ok (.iconst 0, 1) := by decide +kernel
theorem dX4_takeOne_73 : decode cX4_takeOne 73 = .ok (.putfield 60, 3) := by decide +kernel
theorem dX4_takeOne_76 : decode cX4_takeOne 76 = .ok (.aload_n 0, 1) := by decide +kernel
theorem dX4_takeOne_77 : decode cX4_takeOne 77 = .ok (.sipush 10000, 3) := by decide +kernel
theorem dX4_takeOne_80 : decode cX4_takeOne 80 = .ok (.iload_n 2, 1) := by decide +kernel
theorem dX4_takeOne_81 : decode cX4_takeOne 81 = .ok (.iadd, 1) := by decide +kernel
theorem dX4_takeOne_82 : decode cX4_takeOne 82 = .ok (.invokevirtual 147, 3) := by decide +kernel
theorem dX4_takeOne_85 : decode cX4_takeOne 85 = .ok (.aload_n 0, 1) := by decide +kernel
theorem dX4_takeOne_86 : decode cX4_takeOne 86 = .ok (.iload_n 2, 1) := by decide +kernel
theorem dX4_takeOne_87 : decode cX4_takeOne 87 = .ok (.invokevirtual 150, 3) := by decide +kernel
theorem dX4_takeOne_90 : decode cX4_takeOne 90 = .ok (.ifCond .eq 7, 3) := by decide +kernel
theorem dX4_takeOne_93 : decode cX4_takeOne 93 = .ok (.iconst 0, 1) := by decide +kernel
theorem dX4_takeOne_94 : decode cX4_takeOne 94 = .ok (.goto 4, 3) := by decide +kernel
theorem dX4_takeOne_97 : decode cX4_takeOne 97 = .ok (.iconst 5, 1) := by decide +kernel
theorem dX4_takeOne_98 : decode cX4_takeOne 98 = .ok (.ireturn, 1) := by decide +kernel
theorem dX4_takeOne_99 : decode cX4_takeOne 99 = .ok (.iload_n 2, 1) := by decide +kernel
theorem dX4_takeOne_100 : decode cX4_takeOne 100 = .ok (.bipush 28, 2) := by decide +kernel
theorem dX4_takeOne_102 : decode cX4_takeOne 102 = .ok (.if_icmp .ne 20, 3) := by decide +kernel
theorem dX4_takeOne_105 : decode cX4_takeOne 105 = .ok (.aload_n 0, 1) := by decide +kernel
theorem dX4_takeOne_106 : decode cX4_takeOne 106 = .ok (.dup, 1) := by decide +kernel
theorem dX4_takeOne_107 : decode cX4_takeOne 107 = .ok (.getfield 57, 3) := by decide +kernel
theorem dX4_takeOne_110 : decode cX4_takeOne 110 = .ok (.iconst 1, 1) := by decide +kernel
theorem dX4_takeOne_111 : decode cX4_takeOne 111 = .ok (.iadd, 1) := by decide +kernel
theorem dX4_takeOne_112 : decode cX4_takeOne 112 = .ok (.putfield 57, 3) := by decide +kernel
theorem dX4_takeOne_115 : decode cX4_takeOne 115 = .ok (.aload_n 0, 1) := by decide +kernel
theorem dX4_takeOne_116 : decode cX4_takeOne 116 = .ok (.bipush 28, 2) := by decide +kernel
theorem dX4_takeOne_118 : decode cX4_takeOne 118 = .ok (.invokevirtual 144, 3) := by decide +kernel
theorem dX4_takeOne_121 : decode cX4_takeOne 121 = .ok (.ireturn, 1) := by decide +kernel
theorem dX4_takeOne_122 : decode cX4_takeOne 122 = .ok (.iload_n 2, 1) := by decide +kernel
theorem dX4_takeOne_123 : decode cX4_takeOne 123 = .ok (.bipush 25, 2) := by decide +kernel
theorem dX4_takeOne_125 : decode cX4_takeOne 125 = .ok (.if_icmp .ne 12, 3) := by decide +kernel
theorem dX4_takeOne_128 : decode cX4_takeOne 128 = .ok (.aload_n 0, 1) := by decide +kernel
theorem dX4_takeOne_129 : decode cX4_takeOne 129 = .ok (.bipush 33, 2) := by decide +kernel
theorem dX4_takeOne_131 : decode cX4_takeOne 131 = .ok (.invokevirtual 144, 3) := by decide +kernel
theorem dX4_takeOne_134 : decode cX4_takeOne 134 = .ok (.goto 4, 3) := by decide +kernel
theorem dX4_takeOne_137 : decode cX4_takeOne 137 = .ok (.iconst 1, 1) := by decide +kernel
theorem dX4_takeOne_138 : decode cX4_takeOne 138 = .ok (.ireturn, 1) := by decide +kernel
theorem dX4_isOfClause_0 : decode cX4_isOfClause 0 = .ok (.iload_n 1, 1) := by decide +kernel
theorem dX4_isOfClause_1 : decode cX4_isOfClause 1 = .ok (.bipush 7, 2) := by decide +kernel
theorem dX4_isOfClause_3 : decode cX4_isOfClause 3 = .ok (.if_icmp .ne 18, 3) := by decide +kernel
theorem dX4_isOfClause_6 : decode cX4_isOfClause 6 = .ok (.aload_n 0, 1) := by decide +kernel
theorem dX4_isOfClause_7 : decode cX4_isOfClause 7 = .ok (.getfield 51, 3) := by decide +kernel
theorem dX4_isOfClause_10 : decode cX4_isOfClause 10 = .ok (.bipush 10, 2) := by decide +kernel
theorem dX4_isOfClause_12 : decode cX4_isOfClause 12 = .ok (.if_icmp .ne 7, 3) := by decide +kernel
theorem dX4_isOfClause_15 : decode cX4_isOfClause 15 = .ok (.iconst 1, 1) := by decide +kernel
theorem dX4_isOfClause_16 : decode cX4_isOfClause 16 = .ok (.goto 4, 3) := by decide +kernel
theorem dX4_isOfClause_19 : decode cX4_isOfClause 19 = .ok (.iconst 0, 1) := by decide +kernel
theorem dX4_isOfClause_20 : decode cX4_isOfClause 20 = .ok (.ireturn, 1) := by decide +kernel
theorem dX4_isOfClause_21 : decode cX4_isOfClause 21 = .ok (.iload_n 1, 1) := by decide +kernel
theorem dX4_isOfClause_22 : decode cX4_isOfClause 22 = .ok (.iconst 3, 1) := by decide +kernel
theorem dX4_isOfClause_23 : decode cX4_isOfClause 23 = .ok (.if_icmp .le 12, 3) := by decide +kernel
theorem dX4_isOfClause_26 : decode cX4_isOfClause 26 = .ok (.aload_n 0, 1) := by decide +kernel
theorem dX4_isOfClause_27 : decode cX4_isOfClause 27 = .ok (.getfield 51, 3) := by decide +kernel
theorem dX4_isOfClause_30 : decode cX4_isOfClause 30 = .ok (.bipush 10, 2) := by decide +kernel
theorem dX4_isOfClause_32 : decode cX4_isOfClause 32 = .ok (.if_icmp .eq 7, 3) := by decide +kernel
theorem dX4_isOfClause_35 : decode cX4_isOfClause 35 = .ok (.iconst 1, 1) := by decide +kernel
theorem dX4_isOfClause_36 : decode cX4_isOfClause 36 = .ok (.goto 4, 3) := by decide +kernel
theorem dX4_isOfClause_39 : decode cX4_isOfClause 39 = .ok (.iconst 0, 1) := by decide +kernel
theorem dX4_isOfClause_40 : decode cX4_isOfClause 40 = .ok (.ireturn, 1) := by decide +kernel
theorem dX4_openOne_0 : decode cX4_openOne 0 = .ok (.aload_n 0, 1) := by decide +kernel
theorem dX4_openOne_1 : decode cX4_openOne 1 = .ok (.getfield 54, 3) := by decide +kernel
theorem dX4_openOne_4 : decode cX4_openOne 4 = .ok (.bipush 8, 2) := by decide +kernel
theorem dX4_openOne_6 : decode cX4_openOne 6 = .ok (.if_icmp .lt 5, 3) := by decide +kernel
theorem dX4_openOne_9 : decode cX4_openOne 9 = .ok (.iconst 3, 1) := by decide +kernel
theorem dX4_openOne_10 : decode cX4_openOne 10 = .ok (.ireturn, 1) := by decide +kernel
theorem dX4_openOne_11 : decode cX4_openOne 11 = .ok (.aload_n 0, 1) := by decide +kernel
theorem dX4_openOne_12 : decode cX4_openOne 12 = .ok (.dup, 1) := by decide +kernel
theorem dX4_openOne_13 : decode cX4_openOne 13 = .ok (.getfield 54, 3) := by decide +kernel
theorem dX4_openOne_16 : decode cX4_openOne 16 = .ok (.iconst 1, 1) := by decide +kernel
theorem dX4_openOne_17 : decode cX4_openOne 17 = .ok (.iadd, 1) := by decide +kernel
theorem dX4_openOne_18 : decode cX4_openOne 18 = .ok (.putfield 54, 3) := by decide +kernel
theorem dX4_openOne_21 : decode cX4_openOne 21 = .ok (.aload_n 0, 1) := by decide +kernel
theorem dX4_openOne_22 : decode cX4_openOne 22 = .ok (.iload_n 1, 1) := by decide +kernel
theorem dX4_openOne_23 : decode cX4_openOne 23 = .ok (.invokevirtual 153, 3) := by decide +kernel
theorem dX4_openOne_26 : decode cX4_openOne 26 = .ok (.iconst 0, 1) := by decide +kernel
theorem dX4_openOne_27 : decode cX4_openOne 27 = .ok (.ireturn, 1) := by decide +kernel
theorem dX4_takeSign_0 : decode cX4_takeSign 0 = .ok (.aload_n 0, 1) := by decide +kernel
theorem dX4_takeSign_1 : decode cX4_takeSign 1 = .ok (.getfield 57, 3) := by decide +kernel
theorem dX4_takeSign_4 : decode cX4_takeSign 4 = .ok (.ifCond .ne 16, 3) := by decide +kernel
theorem dX4_takeSign_7 : decode cX4_takeSign 7 = .ok (.aload_n 0, 1) := by decide +kernel
theorem dX4_takeSign_8 : decode cX4_takeSign 8 = .ok (.getfield 51, 3) := by decide +kernel
theorem dX4_takeSign_11 : decode cX4_takeSign 11 = .ok (.bipush 8, 2) := by decide +kernel
theorem dX4_takeSign_13 : decode cX4_takeSign 13 = .ok (.if_icmp .eq 7, 3) := by decide +kernel
theorem dX4_takeSign_16 : decode cX4_takeSign 16 = .ok (.iconst 1, 1) := by decide +kernel
theorem dX4_takeSign_17 : decode cX4_takeSign 17 = .ok (.goto 4, 3) := by decide +kernel
theorem dX4_takeSign_20 : decode cX4_takeSign 20 = .ok (.iconst 0, 1) := by decide +kernel
theorem dX4_takeSign_21 : decode cX4_takeSign 21 = .ok (.istore_n 2, 1) := by decide +kernel
theorem dX4_takeSign_22 : decode cX4_takeSign 22 = .ok (.iload_n 1, 1) := by decide +kernel
theorem dX4_takeSign_23 : decode cX4_takeSign 23 = .ok (.bipush 24, 2) := by decide +kernel
theorem dX4_takeSign_25 : decode cX4_takeSign 25 = .ok (.if_icmp .lt 16, 3) := by decide +kernel
theorem dX4_takeSign_28 : decode cX4_takeSign 28 = .ok (.iload_n 1, 1) := by decide +kernel
theorem dX4_takeSign_29 : decode cX4_takeSign 29 = .ok (.bipush 27, 2) := by decide +kernel
theorem dX4_takeSign_31 : decode cX4_takeSign 31 = .ok (.if_icmp .gt 10, 3) := by decide +kernel
theorem dX4_takeSign_34 : decode cX4_takeSign 34 = .ok (.aload_n 0, 1) := by decide +kernel
theorem dX4_takeSign_35 : decode cX4_takeSign 35 = .ok (.iload_n 1, 1) := by decide +kernel
theorem dX4_takeSign_36 : decode cX4_takeSign 36 = .ok (.invokevirtual 156, 3) := by decide +kernel
theorem dX4_takeSign_39 : decode cX4_takeSign 39 = .ok (.iconst 0, 1) := by decide +kernel
theorem dX4_takeSign_40 : decode cX4_takeSign 40 = .ok (.ireturn, 1) := by decide +kernel
theorem dX4_takeSign_41 : decode cX4_takeSign 41 = .ok (.iload_n 1, 1) := by decide +kernel
theorem dX4_takeSign_42 : decode cX4_takeSign 42 = .ok (.bipush 29, 2) := by decide +kernel
theorem dX4_takeSign_44 : decode cX4_takeSign 44 = .ok (.if_icmp .ne 32, 3) := by decide +kernel
theorem dX4_takeSign_47 : decode cX4_takeSign 47 = .ok (.aload_n 0, 1) := by decide +kernel
theorem dX4_takeSign_48 : decode cX4_takeSign 48 = .ok (.getfield 57, 3) := by decide +kernel
theorem dX4_takeSign_51 : decode cX4_takeSign 51 = .ok (.ifCond .le 25, 3) := by decide +kernel
theorem dX4_takeSign_54 : decode cX4_takeSign 54 = .ok (.aload_n 0, 1) := by decide +kernel
theorem dX4_takeSign_55 : decode cX4_takeSign 55 = .ok (.dup, 1) := by decide +kernel
theorem dX4_takeSign_56 : decode cX4_takeSign 56 = .ok (.getfield 57, 3) := by decide +kernel
theorem dX4_takeSign_59 : decode cX4_takeSign 59 = .ok (.iconst 1, 1) := by decide +kernel
theorem dX4_takeSign_60 : decode cX4_takeSign 60 = .ok (.isub, 1) := by decide +kernel
theorem dX4_takeSign_61 : decode cX4_takeSign 61 = .ok (.putfield 57, 3) := by decide +kernel
theorem dX4_takeSign_64 : decode cX4_takeSign 64 = .ok (.aload_n 0, 1) := by decide +kernel
theorem dX4_takeSign_65 : decode cX4_takeSign 65 = .ok (.bipush 15, 2) := by decide +kernel
theorem dX4_takeSign_67 : decode cX4_takeSign 67 = .ok (.invokevirtual 137, 3) := by decide +kernel
theorem dX4_takeSign_70 : decode cX4_takeSign 70 = .ok (.aload_n 0, 1) := by decide +kernel
theorem dX4_takeSign_71 : decode cX4_takeSign 71 = .ok (.invokevirtual 159, 3) := by decide +kernel
theorem dX4_takeSign_74 : decode cX4_takeSign 74 = .ok (.iconst 0, 1) := by decide +kernel
theorem dX4_takeSign_75 : decode cX4_takeSign 75 = .ok (.ireturn, 1) := by decide +kernel
theorem dX4_takeSign_76 : decode cX4_takeSign 76 = .ok (.aload_n 0, 1) := by decide +kernel
theorem dX4_takeSign_77 : decode cX4_takeSign 77 = .ok (.iload_n 1, 1) := by decide +kernel
theorem dX4_takeSign_78 : decode cX4_takeSign 78 = .ok (.invokevirtual 162, 3) := by decide +kernel
theorem dX4_takeSign_81 : decode cX4_takeSign 81 = .ok (.ifCond .eq 26, 3) := by decide +kernel
theorem dX4_takeSign_84 : decode cX4_takeSign 84 = .ok (.iload_n 2, 1) := by decide +kernel
theorem dX4_takeSign_85 : decode cX4_takeSign 85 = .ok (.ifCond .eq 22, 3) := by decide +kernel
theorem dX4_takeSign_88 : decode cX4_takeSign 88 = .ok (.aload_n 0, 1) := by decide +kernel
theorem dX4_takeSign_89 : decode cX4_takeSign 89 = .ok (.getfield 67, 3) := by decide +kernel
theorem dX4_takeSign_92 : decode cX4_takeSign 92 = .ok (.ifCond .ne 15, 3) := by decide +kernel
theorem dX4_takeSign_95 : decode cX4_takeSign 95 = .ok (.aload_n 0, 1) := by decide +kernel
theorem dX4_takeSign_96 : decode cX4_takeSign 96 = .ok (.iconst 1, 1) := by decide +kernel
theorem dX4_takeSign_97 : decode cX4_takeSign 97 = .ok (.putfield 67, 3) := by decide +kernel
theorem dX4_takeSign_100 : decode cX4_takeSign 100 = .ok (.aload_n 0, 1) := by decide +kernel
theorem dX4_takeSign_101 : decode cX4_takeSign 101 = .ok (.iload_n 1, 1) := by decide +kernel
theorem dX4_takeSign_102 : decode cX4_takeSign 102 = .ok (.invokevirtual 156, 3) := by decide +kernel
theorem dX4_takeSign_105 : decode cX4_takeSign 105 = .ok (.iconst 0, 1) := by decide +kernel
theorem dX4_takeSign_106 : decode cX4_takeSign 106 = .ok (.ireturn, 1) := by decide +kernel
theorem dX4_takeSign_107 : decode cX4_takeSign 107 = .ok (.iload_n 1, 1) := by decide +kernel
theorem dX4_takeSign_108 : decode cX4_takeSign 108 = .ok (.bipush 16, 2) := by decide +kernel
theorem dX4_takeSign_110 : decode cX4_takeSign 110 = .ok (.if_icmp .eq 9, 3) := by decide +kernel
theorem dX4_takeSign_113 : decode cX4_takeSign 113 = .ok (.iload_n 1, 1) := by decide +kernel
theorem dX4_takeSign_114 : decode cX4_takeSign 114 = .ok (.bipush 15, 2) := by decide +kernel
theorem dX4_takeSign_116 : decode cX4_takeSign 116 = .ok (.if_icmp .ne 31, 3) := by decide +kernel
theorem dX4_takeSign_119 : decode cX4_takeSign 119 = .ok (.iload_n 2, 1) := by decide +kernel
theorem dX4_takeSign_120 : decode cX4_takeSign 120 = .ok (.ifCond .eq 27, 3) := by decide +kernel
theorem dX4_takeSign_123 : decode cX4_takeSign 123 = .ok (.aload_n 0, 1) := by decide +kernel
theorem dX4_takeSign_124 : decode cX4_takeSign 124 = .ok (.getfield 67, 3) := by decide +kernel
theorem dX4_takeSign_127 : decode cX4_takeSign 127 = .ok (.ifCond .eq 20, 3) := by decide +kernel
theorem dX4_takeSign_130 : decode cX4_takeSign 130 = .ok (.aload_n 0, 1) := by decide +kernel
theorem dX4_takeSign_131 : decode cX4_takeSign 131 = .ok (.iconst 0, 1) := by decide +kernel
theorem dX4_takeSign_132 : decode cX4_takeSign 132 = .ok (.putfield 67, 3) := by decide +kernel
theorem dX4_takeSign_135 : decode cX4_takeSign 135 = .ok (.aload_n 0, 1) := by decide +kernel
theorem dX4_takeSign_136 : decode cX4_takeSign 136 = .ok (.iconst 1, 1) := by decide +kernel
theorem dX4_takeSign_137 : decode cX4_takeSign 137 = .ok (.putfield 64, 3) := by decide +kernel
theorem dX4_takeSign_140 : decode cX4_takeSign 140 = .ok (.aload_n 0, 1) := by decide +kernel
theorem dX4_takeSign_141 : decode cX4_takeSign 141 = .ok (.iload_n 1, 1) := by decide +kernel
theorem dX4_takeSign_142 : decode cX4_takeSign 142 = .ok (.invokevirtual 156, 3) := by decide +kernel
theorem dX4_takeSign_145 : decode cX4_takeSign 145 = .ok (.iconst 0, 1) := by decide +kernel
theorem dX4_takeSign_146 : decode cX4_takeSign 146 = .ok (.ireturn, 1) := by decide +kernel
theorem dX4_takeSign_147 : decode cX4_takeSign 147 = .ok (.iconst 1, 1) := by decide +kernel
theorem dX4_takeSign_148 : decode cX4_takeSign 148 = .ok (.ireturn, 1) := by decide +kernel
theorem dX4_isComparison_0 : decode cX4_isComparison 0 = .ok (.iload_n 1, 1) := by decide +kernel
theorem dX4_isComparison_1 : decode cX4_isComparison 1 = .ok (.bipush 20, 2) := by decide +kernel
theorem dX4_isComparison_3 : decode cX4_isComparison 3 = .ok (.if_icmp .lt 9, 3) := by decide +kernel
theorem dX4_isComparison_6 : decode cX4_isComparison 6 = .ok (.iload_n 1, 1) := by decide +kernel
theorem dX4_isComparison_7 : decode cX4_isComparison 7 = .ok (.bipush 23, 2) := by decide +kernel
theorem dX4_isComparison_9 : decode cX4_isComparison 9 = .ok (.if_icmp .le 15, 3) := by decide +kernel
theorem dX4_isComparison_12 : decode cX4_isComparison 12 = .ok (.iload_n 1, 1) := by decide +kernel
theorem dX4_isComparison_13 : decode cX4_isComparison 13 = .ok (.bipush 31, 2) := by decide +kernel
theorem dX4_isComparison_15 : decode cX4_isComparison 15 = .ok (.if_icmp .eq 9, 3) := by decide +kernel
theorem dX4_isComparison_18 : decode cX4_isComparison 18 = .ok (.iload_n 1, 1) := by decide +kernel
theorem dX4_isComparison_19 : decode cX4_isComparison 19 = .ok (.bipush 32, 2) := by decide +kernel
theorem dX4_isComparison_21 : decode cX4_isComparison 21 = .ok (.if_icmp .ne 7, 3) := by decide +kernel
theorem dX4_isComparison_24 : decode cX4_isComparison 24 = .ok (.iconst 1, 1) := by decide +kernel
theorem dX4_isComparison_25 : decode cX4_isComparison 25 = .ok (.goto 4, 3) := by decide +kernel
theorem dX4_isComparison_28 : decode cX4_isComparison 28 = .ok (.iconst 0, 1) := by decide +kernel
theorem dX4_isComparison_29 : decode cX4_isComparison 29 = .ok (.ireturn, 1) := by decide +kernel
theorem dX4_join_0 : decode cX4_join 0 = .ok (.aload_n 0, 1) := by decide +kernel
theorem dX4_join_1 : decode cX4_join 1 = .ok (.iload_n 1, 1) := by decide +kernel
theorem dX4_join_2 : decode cX4_join 2 = .ok (.invokevirtual 137, 3) := by decide +kernel
theorem dX4_join_5 : decode cX4_join 5 = .ok (.aload_n 0, 1) := by decide +kernel
theorem dX4_join_6 : decode cX4_join 6 = .ok (.iload_n 1, 1) := by decide +kernel
theorem dX4_join_7 : decode cX4_join 7 = .ok (.invokevirtual 153, 3) := by decide +kernel
theorem dX4_join_10 : decode cX4_join 10 = .ok (.aload_n 0, 1) := by decide +kernel
theorem dX4_join_11 : decode cX4_join 11 = .ok (.iconst 1, 1) := by decide +kernel
theorem dX4_join_12 : decode cX4_join 12 = .ok (.putfield 60, 3) := by decide +kernel
theorem dX4_join_15 : decode cX4_join 15 = .ok (.return_, 1) := by decide +kernel
theorem dX4_settle_0 : decode cX4_settle 0 = .ok (.aload_n 0, 1) := by decide +kernel
theorem dX4_settle_1 : decode cX4_settle 1 = .ok (.iload_n 1, 1) := by decide +kernel
theorem dX4_settle_2 : decode cX4_settle 2 = .ok (.invokevirtual 165, 3) := by decide +kernel
theorem dX4_settle_5 : decode cX4_settle 5 = .ok (.istore_n 2, 1) := by decide +kernel
theorem dX4_settle_6 : decode cX4_settle 6 = .ok (.aload_n 0, 1) := by decide +kernel
theorem dX4_settle_7 : decode cX4_settle 7 = .ok (.getfield 42, 3) := by decide +kernel
theorem dX4_settle_10 : decode cX4_settle 10 = .ok (.iconst 1, 1) := by decide +kernel
theorem dX4_settle_11 : decode cX4_settle 11 = .ok (.isub, 1) := by decide +kernel
theorem dX4_settle_12 : decode cX4_settle 12 = .ok (.istore_n 3, 1) := by decide +kernel
theorem dX4_settle_13 : decode cX4_settle 13 = .ok (.iload_n 3, 1) := by decide +kernel
theorem dX4_settle_14 : decode cX4_settle 14 = .ok (.ifCond .lt 41, 3) := by decide +kernel
theorem dX4_settle_17 : decode cX4_settle 17 = .ok (.aload_n 0, 1) := by decide +kernel
theorem dX4_settle_18 : decode cX4_settle 18 = .ok (.aload_n 0, 1) := by decide +kernel
theorem dX4_settle_19 : decode cX4_settle 19 = .ok (.getfield 20, 3) := by decide +kernel
theorem dX4_settle_22 : decode cX4_settle 22 = .ok (.iload_n 3, 1) := by decide +kernel
theorem dX4_settle_23 : decode cX4_settle 23 = .ok (.iaload, 1) := by decide +kernel
theorem dX4_settle_24 : decode cX4_settle 24 = .ok (.invokevirtual 165, 3) := by decide +kernel
theorem dX4_settle_27 : decode cX4_settle 27 = .ok (.iload_n 2, 1) := by decide +kernel
theorem dX4_settle_28 : decode cX4_settle 28 = .ok (.if_icmp .lt 27, 3) := by decide +kernel
theorem dX4_settle_31 : decode cX4_settle 31 = .ok (.aload_n 0, 1) := by decide +kernel
theorem dX4_settle_32 : decode cX4_settle 32 = .ok (.sipush 10000, 3) := by decide +kernel
theorem dX4_settle_35 : decode cX4_settle 35 = .ok (.aload_n 0, 1) := by decide +kernel
theorem dX4_settle_36 : decode cX4_settle 36 = .ok (.getfield 20, 3) := by decide +kernel
theorem dX4_settle_39 : decode cX4_settle 39 = .ok (.iload_n 3, 1) := by decide +kernel
theorem dX4_settle_40 : decode cX4_settle 40 = .ok (.iaload, 1) := by decide +kernel
theorem dX4_settle_41 : decode cX4_settle 41 = .ok (.iadd, 1) := by decide +kernel
theorem dX4_settle_42 : decode cX4_settle 42 = .ok (.invokevirtual 147, 3) := by decide +kernel
theorem dX4_settle_45 : decode cX4_settle 45 = .ok (.aload_n 0, 1) := by decide +kernel
theorem dX4_settle_46 : decode cX4_settle 46 = .ok (.invokevirtual 159, 3) := by decide +kernel
theorem dX4_settle_49 : decode cX4_settle 49 = .ok (.iinc 3 (-1), 3) := by decide +kernel
theorem dX4_settle_52 : decode cX4_settle 52 = .ok (.goto (-39), 3) := by decide +kernel
theorem dX4_settle_55 : decode cX4_settle 55 = .ok (.return_, 1) := by decide +kernel
theorem dX4_closeness_0 : decode cX4_closeness 0 = .ok (.iload_n 1, 1) := by decide +kernel
theorem dX4_closeness_1 : decode cX4_closeness 1 = .ok (.tableswitch 107 15 33 #[93, 95, 97, 107, 107, 107, 107, 107, 107, 99, 99, 101, 101, 91, 107, 107, 107, 107, 104], 91) := by decide +kernel
theorem dX4_closeness_92 : decode cX4_closeness 92 = .ok (.iconst 0, 1) := by decide +kernel
theorem dX4_closeness_93 : decode cX4_closeness 93 = .ok (.ireturn, 1) := by decide +kernel
theorem dX4_closeness_94 : decode cX4_closeness 94 = .ok (.iconst 1, 1) := by decide +kernel
theorem dX4_closeness_95 : decode cX4_closeness 95 = .ok (.ireturn, 1) := by decide +kernel
theorem dX4_closeness_96 : decode cX4_closeness 96 = .ok (.iconst 2, 1) := by decide +kernel
theorem dX4_closeness_97 : decode cX4_closeness 97 = .ok (.ireturn, 1) := by decide +kernel
theorem dX4_closeness_98 : decode cX4_closeness 98 = .ok (.iconst 3, 1) := by decide +kernel
theorem dX4_closeness_99 : decode cX4_closeness 99 = .ok (.ireturn, 1) := by decide +kernel
theorem dX4_closeness_100 : decode cX4_closeness 100 = .ok (.iconst 5, 1) := by decide +kernel
theorem dX4_closeness_101 : decode cX4_closeness 101 = .ok (.ireturn, 1) := by decide +kernel
theorem dX4_closeness_102 : decode cX4_closeness 102 = .ok (.bipush 6, 2) := by decide +kernel
theorem dX4_closeness_104 : decode cX4_closeness 104 = .ok (.ireturn, 1) := by decide +kernel
theorem dX4_closeness_105 : decode cX4_closeness 105 = .ok (.bipush 7, 2) := by decide +kernel
theorem dX4_closeness_107 : decode cX4_closeness 107 = .ok (.ireturn, 1) := by decide +kernel
theorem dX4_closeness_108 : decode cX4_closeness 108 = .ok (.iconst 4, 1) := by decide +kernel
theorem dX4_closeness_109 : decode cX4_closeness 109 = .ok (.ireturn, 1) := by decide +kernel
theorem dX4_putOff_0 : decode cX4_putOff 0 = .ok (.aload_n 0, 1) := by decide +kernel
theorem dX4_putOff_1 : decode cX4_putOff 1 = .ok (.getfield 42, 3) := by decide +kernel
theorem dX4_putOff_4 : decode cX4_putOff 4 = .ok (.bipush 40, 2) := by decide +kernel
theorem dX4_putOff_6 : decode cX4_putOff 6 = .ok (.if_icmp .ge 23, 3) := by decide +kernel
theorem dX4_putOff_9 : decode cX4_putOff 9 = .ok (.aload_n 0, 1) := by decide +kernel
theorem dX4_putOff_10 : decode cX4_putOff 10 = .ok (.getfield 20, 3) := by decide +kernel
theorem dX4_putOff_13 : decode cX4_putOff 13 = .ok (.aload_n 0, 1) := by decide +kernel
theorem dX4_putOff_14 : decode cX4_putOff 14 = .ok (.getfield 42, 3) := by decide +kernel
theorem dX4_putOff_17 : decode cX4_putOff 17 = .ok (.iload_n 1, 1) := by decide +kernel
theorem dX4_putOff_18 : decode cX4_putOff 18 = .ok (.iastore, 1) := by decide +kernel
theorem dX4_putOff_19 : decode cX4_putOff 19 = .ok (.aload_n 0, 1) := by decide +kernel
theorem dX4_putOff_20 : decode cX4_putOff 20 = .ok (.dup, 1) := by decide +kernel
theorem dX4_putOff_21 : decode cX4_putOff 21 = .ok (.getfield 42, 3) := by decide +kernel
theorem dX4_putOff_24 : decode cX4_putOff 24 = .ok (.iconst 1, 1) := by decide +kernel
theorem dX4_putOff_25 : decode cX4_putOff 25 = .ok (.iadd, 1) := by decide +kernel
theorem dX4_putOff_26 : decode cX4_putOff 26 = .ok (.putfield 42, 3) := by decide +kernel
theorem dX4_putOff_29 : decode cX4_putOff 29 = .ok (.return_, 1) := by decide +kernel
theorem dX4_endWait_0 : decode cX4_endWait 0 = .ok (.aload_n 0, 1) := by decide +kernel
theorem dX4_endWait_1 : decode cX4_endWait 1 = .ok (.getfield 42, 3) := by decide +kernel
theorem dX4_endWait_4 : decode cX4_endWait 4 = .ok (.ifCond .le 51, 3) := by decide +kernel
theorem dX4_endWait_7 : decode cX4_endWait 7 = .ok (.aload_n 0, 1) := by decide +kernel
theorem dX4_endWait_8 : decode cX4_endWait 8 = .ok (.dup, 1) := by decide +kernel
theorem dX4_endWait_9 : decode cX4_endWait 9 = .ok (.getfield 42, 3) := by decide +kernel
theorem dX4_endWait_12 : decode cX4_endWait 12 = .ok (.iconst 1, 1) := by decide +kernel
theorem dX4_endWait_13 : decode cX4_endWait 13 = .ok (.isub, 1) := by decide +kernel
theorem dX4_endWait_14 : decode cX4_endWait 14 = .ok (.putfield 42, 3) := by decide +kernel
theorem dX4_endWait_17 : decode cX4_endWait 17 = .ok (.aload_n 0, 1) := by decide +kernel
theorem dX4_endWait_18 : decode cX4_endWait 18 = .ok (.getfield 20, 3) := by decide +kernel
theorem dX4_endWait_21 : decode cX4_endWait 21 = .ok (.aload_n 0, 1) := by decide +kernel
theorem dX4_endWait_22 : decode cX4_endWait 22 = .ok (.getfield 42, 3) := by decide +kernel
theorem dX4_endWait_25 : decode cX4_endWait 25 = .ok (.iaload, 1) := by decide +kernel
theorem dX4_endWait_26 : decode cX4_endWait 26 = .ok (.istore_n 1, 1) := by decide +kernel
theorem dX4_endWait_27 : decode cX4_endWait 27 = .ok (.iload_n 1, 1) := by decide +kernel
theorem dX4_endWait_28 : decode cX4_endWait 28 = .ok (.bipush 28, 2) := by decide +kernel
theorem dX4_endWait_30 : decode cX4_endWait 30 = .ok (.if_icmp .eq 15, 3) := by decide +kernel
theorem dX4_endWait_33 : decode cX4_endWait 33 = .ok (.iload_n 1, 1) := by decide +kernel
theorem dX4_endWait_34 : decode cX4_endWait 34 = .ok (.bipush 17, 2) := by decide +kernel
theorem dX4_endWait_36 : decode cX4_endWait 36 = .ok (.if_icmp .eq 9, 3) := by decide +kernel
theorem dX4_endWait_39 : decode cX4_endWait 39 = .ok (.iload_n 1, 1) := by decide +kernel
theorem dX4_endWait_40 : decode cX4_endWait 40 = .ok (.bipush 33, 2) := by decide +kernel
theorem dX4_endWait_42 : decode cX4_endWait 42 = .ok (.if_icmp .ne 13, 3) := by decide +kernel
theorem dX4_endWait_45 : decode cX4_endWait 45 = .ok (.aload_n 0, 1) := by decide +kernel
theorem dX4_endWait_46 : decode cX4_endWait 46 = .ok (.dup, 1) := by decide +kernel
theorem dX4_endWait_47 : decode cX4_endWait 47 = .ok (.getfield 54, 3) := by decide +kernel
theorem dX4_endWait_50 : decode cX4_endWait 50 = .ok (.iconst 1, 1) := by decide +kernel
theorem dX4_endWait_51 : decode cX4_endWait 51 = .ok (.isub, 1) := by decide +kernel
theorem dX4_endWait_52 : decode cX4_endWait 52 = .ok (.putfield 54, 3) := by decide +kernel
theorem dX4_endWait_55 : decode cX4_endWait 55 = .ok (.return_, 1) := by decide +kernel
theorem dX4_addCode_0 : decode cX4_addCode 0 = .ok (.aload_n 0, 1) := by decide +kernel
theorem dX4_addCode_1 : decode cX4_addCode 1 = .ok (.getfield 39, 3) := by decide +kernel
theorem dX4_addCode_4 : decode cX4_addCode 4 = .ok (.sipush 300, 3) := by decide +kernel
theorem dX4_addCode_7 : decode cX4_addCode 7 = .ok (.if_icmp .ge 23, 3) := by decide +kernel
theorem dX4_addCode_10 : decode cX4_addCode 10 = .ok (.aload_n 0, 1) := by decide +kernel
theorem dX4_addCode_11 : decode cX4_addCode 11 = .ok (.getfield 17, 3) := by decide +kernel
theorem dX4_addCode_14 : decode cX4_addCode 14 = .ok (.aload_n 0, 1) := by decide +kernel
theorem dX4_addCode_15 : decode cX4_addCode 15 = .ok (.getfield 39, 3) := by decide +kernel
theorem dX4_addCode_18 : decode cX4_addCode 18 = .ok (.iload_n 1, 1) := by decide +kernel
theorem dX4_addCode_19 : decode cX4_addCode 19 = .ok (.iastore, 1) := by decide +kernel
theorem dX4_addCode_20 : decode cX4_addCode 20 = .ok (.aload_n 0, 1) := by decide +kernel
theorem dX4_addCode_21 : decode cX4_addCode 21 = .ok (.dup, 1) := by decide +kernel
theorem dX4_addCode_22 : decode cX4_addCode 22 = .ok (.getfield 39, 3) := by decide +kernel
theorem dX4_addCode_25 : decode cX4_addCode 25 = .ok (.iconst 1, 1) := by decide +kernel
theorem dX4_addCode_26 : decode cX4_addCode 26 = .ok (.iadd, 1) := by decide +kernel
theorem dX4_addCode_27 : decode cX4_addCode 27 = .ok (.putfield 39, 3) := by decide +kernel
theorem dX4_addCode_30 : decode cX4_addCode 30 = .ok (.return_, 1) := by decide +kernel
theorem dX5_init_0 : decode cX5_init 0 = .ok (.aload_n 0, 1) := by decide +kernel
theorem dX5_init_1 : decode cX5_init 1 = .ok (.invokespecial 3, 3) := by decide +kernel
theorem dX5_init_4 : decode cX5_init 4 = .ok (.aload_n 0, 1) := by decide +kernel
theorem dX5_init_5 : decode cX5_init 5 = .ok (.bipush 8, 2) := by decide +kernel
theorem dX5_init_7 : decode cX5_init 7 = .ok (.newarray .int, 2) := by decide +kernel
theorem dX5_init_9 : decode cX5_init 9 = .ok (.putfield 9, 3) := by decide +kernel
theorem dX5_init_12 : decode cX5_init 12 = .ok (.aload_n 0, 1) := by decide +kernel
theorem dX5_init_13 : decode cX5_init 13 = .ok (.bipush 8, 2) := by decide +kernel
theorem dX5_init_15 : decode cX5_init 15 = .ok (.newarray .int, 2) := by decide +kernel
theorem dX5_init_17 : decode cX5_init 17 = .ok (.putfield 15, 3) := by decide +kernel
theorem dX5_init_20 : decode cX5_init 20 = .ok (.aload_n 0, 1) := by decide +kernel
theorem dX5_init_21 : decode cX5_init 21 = .ok (.iconst 0, 1) := by decide +kernel
theorem dX5_init_22 : decode cX5_init 22 = .ok (.putfield 18, 3) := by decide +kernel
theorem dX5_init_25 : decode cX5_init 25 = .ok (.return_, 1) := by decide +kernel
theorem dX5_add_0 : decode cX5_add 0 = .ok (.aload_n 0, 1) := by decide +kernel
theorem dX5_add_1 : decode cX5_add 1 = .ok (.getfield 18, 3) := by decide +kernel
theorem dX5_add_4 : decode cX5_add 4 = .ok (.bipush 8, 2) := by decide +kernel
theorem dX5_add_6 : decode cX5_add 6 = .ok (.if_icmp .ge 33, 3) := by decide +kernel
theorem dX5_add_9 : decode cX5_add 9 = .ok (.aload_n 0, 1) := by decide +kernel
theorem dX5_add_10 : decode cX5_add 10 = .ok (.getfield 9, 3) := by decide +kernel
theorem dX5_add_13 : decode cX5_add 13 = .ok (.aload_n 0, 1) := by decide +kernel
theorem dX5_add_14 : decode cX5_add 14 = .ok (.getfield 18, 3) := by decide +kernel
theorem dX5_add_17 : decode cX5_add 17 = .ok (.iload_n 1, 1) := by decide +kernel
theorem dX5_add_18 : decode cX5_add 18 = .ok (.iastore, 1) := by decide +kernel
theorem dX5_add_19 : decode cX5_add 19 = .ok (.aload_n 0, 1) := by decide +kernel
theorem dX5_add_20 : decode cX5_add 20 = .ok (.getfield 15, 3) := by decide +kernel
theorem dX5_add_23 : decode cX5_add 23 = .ok (.aload_n 0, 1) := by decide +kernel
theorem dX5_add_24 : decode cX5_add 24 = .ok (.getfield 18, 3) := by decide +kernel
theorem dX5_add_27 : decode cX5_add 27 = .ok (.iload_n 2, 1) := by decide +kernel
theorem dX5_add_28 : decode cX5_add 28 = .ok (.iastore, 1) := by decide +kernel
theorem dX5_add_29 : decode cX5_add 29 = .ok (.aload_n 0, 1) := by decide +kernel
theorem dX5_add_30 : decode cX5_add 30 = .ok (.dup, 1) := by decide +kernel
theorem dX5_add_31 : decode cX5_add 31 = .ok (.getfield 18, 3) := by decide +kernel
theorem dX5_add_34 : decode cX5_add 34 = .ok (.iconst 1, 1) := by decide +kernel
theorem dX5_add_35 : decode cX5_add 35 = .ok (.iadd, 1) := by decide +kernel
theorem dX5_add_36 : decode cX5_add 36 = .ok (.putfield 18, 3) := by decide +kernel
theorem dX5_add_39 : decode cX5_add 39 = .ok (.return_, 1) := by decide +kernel
theorem dX5_isFit_0 : decode cX5_isFit 0 = .ok (.iload_n 1, 1) := by decide +kernel
theorem dX5_isFit_1 : decode cX5_isFit 1 = .ok (.ifCond .lt 35, 3) := by decide +kernel
theorem dX5_isFit_4 : decode cX5_isFit 4 = .ok (.iload_n 1, 1) := by decide +kernel
theorem dX5_isFit_5 : decode cX5_isFit 5 = .ok (.aload_n 0, 1) := by decide +kernel
theorem dX5_isFit_6 : decode cX5_isFit 6 = .ok (.getfield 18, 3) := by decide +kernel
theorem dX5_isFit_9 : decode cX5_isFit 9 = .ok (.if_icmp .ge 27, 3) := by decide +kernel
theorem dX5_isFit_12 : decode cX5_isFit 12 = .ok (.iload_n 2, 1) := by decide +kernel
theorem dX5_isFit_13 : decode cX5_isFit 13 = .ok (.aload_n 0, 1) := by decide +kernel
theorem dX5_isFit_14 : decode cX5_isFit 14 = .ok (.getfield 9, 3) := by decide +kernel
theorem dX5_isFit_17 : decode cX5_isFit 17 = .ok (.iload_n 1, 1) := by decide +kernel
theorem dX5_isFit_18 : decode cX5_isFit 18 = .ok (.iaload, 1) := by decide +kernel
theorem dX5_isFit_19 : decode cX5_isFit 19 = .ok (.if_icmp .lt 17, 3) := by decide +kernel
theorem dX5_isFit_22 : decode cX5_isFit 22 = .ok (.iload_n 2, 1) := by decide +kernel
theorem dX5_isFit_23 : decode cX5_isFit 23 = .ok (.aload_n 0, 1) := by decide +kernel
theorem dX5_isFit_24 : decode cX5_isFit 24 = .ok (.getfield 15, 3) := by decide +kernel
theorem dX5_isFit_27 : decode cX5_isFit 27 = .ok (.iload_n 1, 1) := by decide +kernel
theorem dX5_isFit_28 : decode cX5_isFit 28 = .ok (.iaload, 1) := by decide +kernel
theorem dX5_isFit_29 : decode cX5_isFit 29 = .ok (.if_icmp .gt 7, 3) := by decide +kernel
theorem dX5_isFit_32 : decode cX5_isFit 32 = .ok (.iconst 1, 1) := by decide +kernel
theorem dX5_isFit_33 : decode cX5_isFit 33 = .ok (.goto 4, 3) := by decide +kernel
theorem dX5_isFit_36 : decode cX5_isFit 36 = .ok (.iconst 0, 1) := by decide +kernel
theorem dX5_isFit_37 : decode cX5_isFit 37 = .ok (.ireturn, 1) := by decide +kernel
theorem dX5_takeAll_0 : decode cX5_takeAll 0 = .ok (.aload_n 1, 1) := by decide +kernel
theorem dX5_takeAll_1 : decode cX5_takeAll 1 = .ok (.getfield 9, 3) := by decide +kernel
theorem dX5_takeAll_4 : decode cX5_takeAll 4 = .ok (.iconst 0, 1) := by decide +kernel
theorem dX5_takeAll_5 : decode cX5_takeAll 5 = .ok (.aload_n 0, 1) := by decide +kernel
theorem dX5_takeAll_6 : decode cX5_takeAll 6 = .ok (.getfield 9, 3) := by decide +kernel
theorem dX5_takeAll_9 : decode cX5_takeAll 9 = .ok (.iconst 0, 1) := by decide +kernel
theorem dX5_takeAll_10 : decode cX5_takeAll 10 = .ok (.bipush 8, 2) := by decide +kernel
theorem dX5_takeAll_12 : decode cX5_takeAll 12 = .ok (.invokestatic 22, 3) := by decide +kernel
theorem dX5_takeAll_15 : decode cX5_takeAll 15 = .ok (.aload_n 1, 1) := by decide +kernel
theorem dX5_takeAll_16 : decode cX5_takeAll 16 = .ok (.getfield 15, 3) := by decide +kernel
theorem dX5_takeAll_19 : decode cX5_takeAll 19 = .ok (.iconst 0, 1) := by decide +kernel
theorem dX5_takeAll_20 : decode cX5_takeAll 20 = .ok (.aload_n 0, 1) := by decide +kernel
theorem dX5_takeAll_21 : decode cX5_takeAll 21 = .ok (.getfield 15, 3) := by decide +kernel
theorem dX5_takeAll_24 : decode cX5_takeAll 24 = .ok (.iconst 0, 1) := by decide +kernel
theorem dX5_takeAll_25 : decode cX5_takeAll 25 = .ok (.bipush 8, 2) := by decide +kernel
theorem dX5_takeAll_27 : decode cX5_takeAll 27 = .ok (.invokestatic 22, 3) := by decide +kernel
theorem dX5_takeAll_30 : decode cX5_takeAll 30 = .ok (.aload_n 0, 1) := by decide +kernel
theorem dX5_takeAll_31 : decode cX5_takeAll 31 = .ok (.aload_n 1, 1) := by decide +kernel
theorem dX5_takeAll_32 : decode cX5_takeAll 32 = .ok (.getfield 18, 3) := by decide +kernel
theorem dX5_takeAll_35 : decode cX5_takeAll 35 = .ok (.putfield 18, 3) := by decide +kernel
theorem dX5_takeAll_38 : decode cX5_takeAll 38 = .ok (.return_, 1) := by decide +kernel
theorem dX6_init_0 : decode cX6_init 0 = .ok (.aload_n 0, 1) := by decide +kernel
theorem dX6_init_1 : decode cX6_init 1 = .ok (.invokespecial 3, 3) := by decide +kernel
theorem dX6_init_4 : decode cX6_init 4 = .ok (.aload_n 0, 1) := by decide +kernel
theorem dX6_init_5 : decode cX6_init 5 = .ok (.new 9, 3) := by decide +kernel
theorem dX6_init_8 : decode cX6_init 8 = .ok (.dup, 1) := by decide +kernel
theorem dX6_init_9 : decode cX6_init 9 = .ok (.invokespecial 11, 3) := by decide +kernel
theorem dX6_init_12 : decode cX6_init 12 = .ok (.putfield 12, 3) := by decide +kernel
theorem dX6_init_15 : decode cX6_init 15 = .ok (.aload_n 0, 1) := by decide +kernel
theorem dX6_init_16 : decode cX6_init 16 = .ok (.new 18, 3) := by decide +kernel
theorem dX6_init_19 : decode cX6_init 19 = .ok (.dup, 1) := by decide +kernel
theorem dX6_init_20 : decode cX6_init 20 = .ok (.invokespecial 20, 3) := by decide +kernel
theorem dX6_init_23 : decode cX6_init 23 = .ok (.putfield 21, 3) := by decide +kernel
theorem dX6_init_26 : decode cX6_init 26 = .ok (.aload_n 0, 1) := by decide +kernel
theorem dX6_init_27 : decode cX6_init 27 = .ok (.new 25, 3) := by decide +kernel
theorem dX6_init_30 : decode cX6_init 30 = .ok (.dup, 1) := by decide +kernel
theorem dX6_init_31 : decode cX6_init 31 = .ok (.invokespecial 27, 3) := by decide +kernel
theorem dX6_init_34 : decode cX6_init 34 = .ok (.putfield 28, 3) := by decide +kernel
theorem dX6_init_37 : decode cX6_init 37 = .ok (.aload_n 0, 1) := by decide +kernel
theorem dX6_init_38 : decode cX6_init 38 = .ok (.new 32, 3) := by decide +kernel
theorem dX6_init_41 : decode cX6_init 41 = .ok (.dup, 1) := by decide +kernel
theorem dX6_init_42 : decode cX6_init 42 = .ok (.invokespecial 34, 3) := by decide +kernel
theorem dX6_init_45 : decode cX6_init 45 = .ok (.putfield 35, 3) := by decide +kernel
theorem dX6_init_48 : decode cX6_init 48 = .ok (.aload_n 0, 1) := by decide +kernel
theorem dX6_init_49 : decode cX6_init 49 = .ok (.new 39, 3) := by decide +kernel
theorem dX6_init_52 : decode cX6_init 52 = .ok (.dup, 1) := by decide +kernel
theorem dX6_init_53 : decode cX6_init 53 = .ok (.getstatic 41, 3) := by decide +kernel
theorem dX6_init_56 : decode cX6_init 56 = .ok (.getstatic 41, 3) := by decide +kernel
theorem dX6_init_59 : decode cX6_init 59 = .ok (.getstatic 41, 3) := by decide +kernel
theorem dX6_init_62 : decode cX6_init 62 = .ok (.getstatic 41, 3) := by decide +kernel
theorem dX6_init_65 : decode cX6_init 65 = .ok (.invokespecial 45, 3) := by decide +kernel
theorem dX6_init_68 : decode cX6_init 68 = .ok (.putfield 48, 3) := by decide +kernel
theorem dX6_init_71 : decode cX6_init 71 = .ok (.aload_n 0, 1) := by decide +kernel
theorem dX6_init_72 : decode cX6_init 72 = .ok (.iconst 4, 1) := by decide +kernel
theorem dX6_init_73 : decode cX6_init 73 = .ok (.anewarray 39, 3) := by decide +kernel
theorem dX6_init_76 : decode cX6_init 76 = .ok (.dup, 1) := by decide +kernel
theorem dX6_init_77 : decode cX6_init 77 = .ok (.iconst 0, 1) := by decide +kernel
theorem dX6_init_78 : decode cX6_init 78 = .ok (.aload_n 0, 1) := by decide +kernel
theorem dX6_init_79 : decode cX6_init 79 = .ok (.getfield 48, 3) := by decide +kernel
theorem dX6_init_82 : decode cX6_init 82 = .ok (.aastore, 1) := by decide +kernel
theorem dX6_init_83 : decode cX6_init 83 = .ok (.dup, 1) := by decide +kernel
theorem dX6_init_84 : decode cX6_init 84 = .ok (.iconst 1, 1) := by decide +kernel
theorem dX6_init_85 : decode cX6_init 85 = .ok (.aload_n 0, 1) := by decide +kernel
theorem dX6_init_86 : decode cX6_init 86 = .ok (.getfield 48, 3) := by decide +kernel
theorem dX6_init_89 : decode cX6_init 89 = .ok (.aastore, 1) := by decide +kernel
theorem dX6_init_90 : decode cX6_init 90 = .ok (.dup, 1) := by decide +kernel
theorem dX6_init_91 : decode cX6_init 91 = .ok (.iconst 2, 1) := by decide +kernel
theorem dX6_init_92 : decode cX6_init 92 = .ok (.aload_n 0, 1) := by decide +kernel
theorem dX6_init_93 : decode cX6_init 93 = .ok (.getfield 48, 3) := by decide +kernel
theorem dX6_init_96 : decode cX6_init 96 = .ok (.aastore, 1) := by decide +kernel
theorem dX6_init_97 : decode cX6_init 97 = .ok (.dup, 1) := by decide +kernel
theorem dX6_init_98 : decode cX6_init 98 = .ok (.iconst 3, 1) := by decide +kernel
theorem dX6_init_99 : decode cX6_init 99 = .ok (.aload_n 0, 1) := by decide +kernel
theorem dX6_init_100 : decode cX6_init 100 = .ok (.getfield 48, 3) := by decide +kernel
theorem dX6_init_103 : decode cX6_init 103 = .ok (.aastore, 1) := by decide +kernel
theorem dX6_init_104 : decode cX6_init 104 = .ok (.putfield 52, 3) := by decide +kernel
theorem dX6_init_107 : decode cX6_init 107 = .ok (.aload_n 0, 1) := by decide +kernel
theorem dX6_init_108 : decode cX6_init 108 = .ok (.iconst 0, 1) := by decide +kernel
theorem dX6_init_109 : decode cX6_init 109 = .ok (.putfield 56, 3) := by decide +kernel
theorem dX6_init_112 : decode cX6_init 112 = .ok (.aload_n 0, 1) := by decide +kernel
theorem dX6_init_113 : decode cX6_init 113 = .ok (.iconst (-1), 1) := by decide +kernel
theorem dX6_init_114 : decode cX6_init 114 = .ok (.putfield 60, 3) := by decide +kernel
theorem dX6_init_117 : decode cX6_init 117 = .ok (.aload_n 0, 1) := by decide +kernel
theorem dX6_init_118 : decode cX6_init 118 = .ok (.iconst 0, 1) := by decide +kernel
theorem dX6_init_119 : decode cX6_init 119 = .ok (.putfield 63, 3) := by decide +kernel
theorem dX6_init_122 : decode cX6_init 122 = .ok (.aload_n 0, 1) := by decide +kernel
theorem dX6_init_123 : decode cX6_init 123 = .ok (.iconst 0, 1) := by decide +kernel
theorem dX6_init_124 : decode cX6_init 124 = .ok (.putfield 66, 3) := by decide +kernel
theorem dX6_init_127 : decode cX6_init 127 = .ok (.return_, 1) := by decide +kernel
theorem dX6_isLaid_0 : decode cX6_isLaid 0 = .ok (.aload_n 0, 1) := by decide +kernel
theorem dX6_isLaid_1 : decode cX6_isLaid 1 = .ok (.getfield 66, 3) := by decide +kernel
theorem dX6_isLaid_4 : decode cX6_isLaid 4 = .ok (.iload_n 1, 1) := by decide +kernel
theorem dX6_isLaid_5 : decode cX6_isLaid 5 = .ok (.ishr, 1) := by decide +kernel
theorem dX6_isLaid_6 : decode cX6_isLaid 6 = .ok (.iconst 1, 1) := by decide +kernel
theorem dX6_isLaid_7 : decode cX6_isLaid 7 = .ok (.iand, 1) := by decide +kernel
theorem dX6_isLaid_8 : decode cX6_isLaid 8 = .ok (.iconst 1, 1) := by decide +kernel
theorem dX6_isLaid_9 : decode cX6_isLaid 9 = .ok (.if_icmp .ne 7, 3) := by decide +kernel
theorem dX6_isLaid_12 : decode cX6_isLaid 12 = .ok (.iconst 1, 1) := by decide +kernel
theorem dX6_isLaid_13 : decode cX6_isLaid 13 = .ok (.goto 4, 3) := by decide +kernel
theorem dX6_isLaid_16 : decode cX6_isLaid 16 = .ok (.iconst 0, 1) := by decide +kernel
theorem dX6_isLaid_17 : decode cX6_isLaid 17 = .ok (.ireturn, 1) := by decide +kernel
theorem dX6_hasText_0 : decode cX6_hasText 0 = .ok (.iload_n 1, 1) := by decide +kernel
theorem dX6_hasText_1 : decode cX6_hasText 1 = .ok (.ifCond .lt 20, 3) := by decide +kernel
theorem dX6_hasText_4 : decode cX6_hasText 4 = .ok (.iload_n 1, 1) := by decide +kernel
theorem dX6_hasText_5 : decode cX6_hasText 5 = .ok (.aload_n 0, 1) := by decide +kernel
theorem dX6_hasText_6 : decode cX6_hasText 6 = .ok (.getfield 56, 3) := by decide +kernel
theorem dX6_hasText_9 : decode cX6_hasText 9 = .ok (.if_icmp .ge 12, 3) := by decide +kernel
theorem dX6_hasText_12 : decode cX6_hasText 12 = .ok (.iload_n 1, 1) := by decide +kernel
theorem dX6_hasText_13 : decode cX6_hasText 13 = .ok (.iconst 4, 1) := by decide +kernel
theorem dX6_hasText_14 : decode cX6_hasText 14 = .ok (.if_icmp .ge 7, 3) := by decide +kernel
theorem dX6_hasText_17 : decode cX6_hasText 17 = .ok (.iconst 1, 1) := by decide +kernel
theorem dX6_hasText_18 : decode cX6_hasText 18 = .ok (.goto 4, 3) := by decide +kernel
theorem dX6_hasText_21 : decode cX6_hasText 21 = .ok (.iconst 0, 1) := by decide +kernel
theorem dX6_hasText_22 : decode cX6_hasText 22 = .ok (.ireturn, 1) := by decide +kernel
theorem dX6_rule_0 : decode cX6_rule 0 = .ok (.aload_n 0, 1) := by decide +kernel
theorem dX6_rule_1 : decode cX6_rule 1 = .ok (.aload_n 0, 1) := by decide +kernel
theorem dX6_rule_2 : decode cX6_rule 2 = .ok (.getfield 60, 3) := by decide +kernel
theorem dX6_rule_5 : decode cX6_rule 5 = .ok (.invokevirtual 69, 3) := by decide +kernel
theorem dX6_rule_8 : decode cX6_rule 8 = .ok (.ifCond .eq 15, 3) := by decide +kernel
theorem dX6_rule_11 : decode cX6_rule 11 = .ok (.aload_n 0, 1) := by decide +kernel
theorem dX6_rule_12 : decode cX6_rule 12 = .ok (.getfield 52, 3) := by decide +kernel
theorem dX6_rule_15 : decode cX6_rule 15 = .ok (.aload_n 0, 1) := by decide +kernel
theorem dX6_rule_16 : decode cX6_rule 16 = .ok (.getfield 60, 3) := by decide +kernel
theorem dX6_rule_19 : decode cX6_rule 19 = .ok (.aaload, 1) := by decide +kernel
theorem dX6_rule_20 : decode cX6_rule 20 = .ok (.goto 7, 3) := by decide +kernel
theorem dX6_rule_23 : decode cX6_rule 23 = .ok (.aload_n 0, 1) := by decide +kernel
theorem dX6_rule_24 : decode cX6_rule 24 = .ok (.getfield 48, 3) := by decide +kernel
theorem dX6_rule_27 : decode cX6_rule 27 = .ok (.areturn, 1) := by decide +kernel
theorem dX6_become_0 : decode cX6_become 0 = .ok (.aload_n 0, 1) := by decide +kernel
theorem dX6_become_1 : decode cX6_become 1 = .ok (.getfield 12, 3) := by decide +kernel
theorem dX6_become_4 : decode cX6_become 4 = .ok (.aload_n 1, 1) := by decide +kernel
theorem dX6_become_5 : decode cX6_become 5 = .ok (.getfield 12, 3) := by decide +kernel
theorem dX6_become_8 : decode cX6_become 8 = .ok (.invokevirtual 73, 3) := by decide +kernel
theorem dX6_become_11 : decode cX6_become 11 = .ok (.aload_n 0, 1) := by decide +kernel
theorem dX6_become_12 : decode cX6_become 12 = .ok (.getfield 21, 3) := by decide +kernel
theorem dX6_become_15 : decode cX6_become 15 = .ok (.aload_n 1, 1) := by decide +kernel
theorem dX6_become_16 : decode cX6_become 16 = .ok (.getfield 21, 3) := by decide +kernel
theorem dX6_become_19 : decode cX6_become 19 = .ok (.invokevirtual 77, 3) := by decide +kernel
theorem dX6_become_22 : decode cX6_become 22 = .ok (.aload_n 0, 1) := by decide +kernel
theorem dX6_become_23 : decode cX6_become 23 = .ok (.getfield 28, 3) := by decide +kernel
theorem dX6_become_26 : decode cX6_become 26 = .ok (.aload_n 1, 1) := by decide +kernel
theorem dX6_become_27 : decode cX6_become 27 = .ok (.getfield 28, 3) := by decide +kernel
theorem dX6_become_30 : decode cX6_become 30 = .ok (.invokevirtual 80, 3) := by decide +kernel
theorem dX6_become_33 : decode cX6_become 33 = .ok (.aload_n 0, 1) := by decide +kernel
theorem dX6_become_34 : decode cX6_become 34 = .ok (.getfield 35, 3) := by decide +kernel
theorem dX6_become_37 : decode cX6_become 37 = .ok (.aload_n 1, 1) := by decide +kernel
theorem dX6_become_38 : decode cX6_become 38 = .ok (.getfield 35, 3) := by decide +kernel
theorem dX6_become_41 : decode cX6_become 41 = .ok (.invokevirtual 83, 3) := by decide +kernel
theorem dX6_become_44 : decode cX6_become 44 = .ok (.iconst 0, 1) := by decide +kernel
theorem dX6_become_45 : decode cX6_become 45 = .ok (.istore_n 2, 1) := by decide +kernel
theorem dX6_become_46 : decode cX6_become 46 = .ok (.iload_n 2, 1) := by decide +kernel
theorem dX6_become_47 : decode cX6_become 47 = .ok (.iconst 4, 1) := by decide +kernel
theorem dX6_become_48 : decode cX6_become 48 = .ok (.if_icmp .ge 21, 3) := by decide +kernel
theorem dX6_become_51 : decode cX6_become 51 = .ok (.aload_n 0, 1) := by decide +kernel
theorem dX6_become_52 : decode cX6_become 52 = .ok (.getfield 52, 3) := by decide +kernel
theorem dX6_become_55 : decode cX6_become 55 = .ok (.iload_n 2, 1) := by decide +kernel
theorem dX6_become_56 : decode cX6_become 56 = .ok (.aload_n 1, 1) := by decide +kernel
theorem dX6_become_57 : decode cX6_become 57 = .ok (.getfield 52, 3) := by decide +kernel
theorem dX6_become_60 : decode cX6_become 60 = .ok (.iload_n 2, 1) := by decide +kernel
theorem dX6_become_61 : decode cX6_become 61 = .ok (.aaload, 1) := by decide +kernel
theorem dX6_become_62 : decode cX6_become 62 = .ok (.aastore, 1) := by decide +kernel
theorem dX6_become_63 : decode cX6_become 63 = .ok (.iinc 2 1, 3) := by decide +kernel
theorem dX6_become_66 : decode cX6_become 66 = .ok (.goto (-20), 3) := by decide +kernel
theorem dX6_become_69 : decode cX6_become 69 = .ok (.aload_n 0, 1) := by decide +kernel
theorem dX6_become_70 : decode cX6_become 70 = .ok (.aload_n 1, 1) := by decide +kernel
theorem dX6_become_71 : decode cX6_become 71 = .ok (.getfield 56, 3) := by decide +kernel
theorem dX6_become_74 : decode cX6_become 74 = .ok (.putfield 56, 3) := by decide +kernel
theorem dX6_become_77 : decode cX6_become 77 = .ok (.aload_n 0, 1) := by decide +kernel
theorem dX6_become_78 : decode cX6_become 78 = .ok (.aload_n 1, 1) := by decide +kernel
theorem dX6_become_79 : decode cX6_become 79 = .ok (.getfield 60, 3) := by decide +kernel
theorem dX6_become_82 : decode cX6_become 82 = .ok (.putfield 60, 3) := by decide +kernel
theorem dX6_become_85 : decode cX6_become 85 = .ok (.aload_n 0, 1) := by decide +kernel
theorem dX6_become_86 : decode cX6_become 86 = .ok (.aload_n 1, 1) := by decide +kernel
theorem dX6_become_87 : decode cX6_become 87 = .ok (.getfield 63, 3) := by decide +kernel
theorem dX6_become_90 : decode cX6_become 90 = .ok (.putfield 63, 3) := by decide +kernel
theorem dX6_become_93 : decode cX6_become 93 = .ok (.aload_n 0, 1) := by decide +kernel
theorem dX6_become_94 : decode cX6_become 94 = .ok (.aload_n 1, 1) := by decide +kernel
theorem dX6_become_95 : decode cX6_become 95 = .ok (.getfield 66, 3) := by decide +kernel
theorem dX6_become_98 : decode cX6_become 98 = .ok (.putfield 66, 3) := by decide +kernel
theorem dX6_become_101 : decode cX6_become 101 = .ok (.return_, 1) := by decide +kernel
