theorem dX12_findSought_24 : decode cX12_findSought 24 = .ok (.bastore, 1) := by decide +kernel
theorem dX12_findSought_25 : decode cX12_findSought 25 = .ok (.iinc 1 1, 3) := by decide +kernel
theorem dX12_findSought_28 : decode cX12_findSought 28 = .ok (.goto (-26), 3) := by decide +kernel
theorem dX12_findSought_31 : decode cX12_findSought 31 = .ok (.aload_n 0, 1) := by decide +kernel
theorem dX12_findSought_32 : decode cX12_findSought 32 = .ok (.iconst 0, 1) := by decide +kernel
theorem dX12_findSought_33 : decode cX12_findSought 33 = .ok (.putfield 305, 3) := by decide +kernel
theorem dX12_findSought_36 : decode cX12_findSought 36 = .ok (.iconst 0, 1) := by decide +kernel
theorem dX12_findSought_37 : decode cX12_findSought 37 = .ok (.istore_n 1, 1) := by decide +kernel
theorem dX12_findSought_38 : decode cX12_findSought 38 = .ok (.iload_n 1, 1) := by decide +kernel
theorem dX12_findSought_39 : decode cX12_findSought 39 = .ok (.aload_n 0, 1) := by decide +kernel
theorem dX12_findSought_40 : decode cX12_findSought 40 = .ok (.invokevirtual 66, 3) := by decide +kernel
theorem dX12_findSought_43 : decode cX12_findSought 43 = .ok (.if_icmp .gt 78, 3) := by decide +kernel
theorem dX12_findSought_46 : decode cX12_findSought 46 = .ok (.aload_n 0, 1) := by decide +kernel
theorem dX12_findSought_47 : decode cX12_findSought 47 = .ok (.getfield 43, 3) := by decide +kernel
theorem dX12_findSought_50 : decode cX12_findSought 50 = .ok (.iload_n 1, 1) := by decide +kernel
theorem dX12_findSought_51 : decode cX12_findSought 51 = .ok (.baload, 1) := by decide +kernel
theorem dX12_findSought_52 : decode cX12_findSought 52 = .ok (.ifCond .ne 6, 3) := by decide +kernel
theorem dX12_findSought_55 : decode cX12_findSought 55 = .ok (.goto 60, 3) := by decide +kernel
theorem dX12_findSought_58 : decode cX12_findSought 58 = .ok (.iload_n 1, 1) := by decide +kernel
theorem dX12_findSought_59 : decode cX12_findSought 59 = .ok (.invokestatic 70, 3) := by decide +kernel
theorem dX12_findSought_62 : decode cX12_findSought 62 = .ok (.aload_n 0, 1) := by decide +kernel
theorem dX12_findSought_63 : decode cX12_findSought 63 = .ok (.getfield 305, 3) := by decide +kernel
theorem dX12_findSought_66 : decode cX12_findSought 66 = .ok (.invokestatic 70, 3) := by decide +kernel
theorem dX12_findSought_69 : decode cX12_findSought 69 = .ok (.if_icmp .le 8, 3) := by decide +kernel
theorem dX12_findSought_72 : decode cX12_findSought 72 = .ok (.aload_n 0, 1) := by decide +kernel
theorem dX12_findSought_73 : decode cX12_findSought 73 = .ok (.iload_n 1, 1) := by decide +kernel
theorem dX12_findSought_74 : decode cX12_findSought 74 = .ok (.putfield 305, 3) := by decide +kernel
theorem dX12_findSought_77 : decode cX12_findSought 77 = .ok (.iconst 0, 1) := by decide +kernel
theorem dX12_findSought_78 : decode cX12_findSought 78 = .ok (.istore_n 2, 1) := by decide +kernel
theorem dX12_findSought_79 : decode cX12_findSought 79 = .ok (.iload_n 2, 1) := by decide +kernel
theorem dX12_findSought_80 : decode cX12_findSought 80 = .ok (.aload_n 0, 1) := by decide +kernel
theorem dX12_findSought_81 : decode cX12_findSought 81 = .ok (.getfield 7, 3) := by decide +kernel
theorem dX12_findSought_84 : decode cX12_findSought 84 = .ok (.iconst 0, 1) := by decide +kernel
theorem dX12_findSought_85 : decode cX12_findSought 85 = .ok (.iaload, 1) := by decide +kernel
theorem dX12_findSought_86 : decode cX12_findSought 86 = .ok (.if_icmp .ge 29, 3) := by decide +kernel
theorem dX12_findSought_89 : decode cX12_findSought 89 = .ok (.aload_n 0, 1) := by decide +kernel
theorem dX12_findSought_90 : decode cX12_findSought 90 = .ok (.iload_n 2, 1) := by decide +kernel
theorem dX12_findSought_91 : decode cX12_findSought 91 = .ok (.iload_n 1, 1) := by decide +kernel
theorem dX12_findSought_92 : decode cX12_findSought 92 = .ok (.invokevirtual 275, 3) := by decide +kernel
theorem dX12_findSought_95 : decode cX12_findSought 95 = .ok (.ifCond .eq 14, 3) := by decide +kernel
theorem dX12_findSought_98 : decode cX12_findSought 98 = .ok (.aload_n 0, 1) := by decide +kernel
theorem dX12_findSought_99 : decode cX12_findSought 99 = .ok (.getfield 43, 3) := by decide +kernel
theorem dX12_findSought_102 : decode cX12_findSought 102 = .ok (.iload_n 1, 1) := by decide +kernel
theorem dX12_findSought_103 : decode cX12_findSought 103 = .ok (.iconst 1, 1) := by decide +kernel
theorem dX12_findSought_104 : decode cX12_findSought 104 = .ok (.iload_n 2, 1) := by decide +kernel
theorem dX12_findSought_105 : decode cX12_findSought 105 = .ok (.ishl, 1) := by decide +kernel
theorem dX12_findSought_106 : decode cX12_findSought 106 = .ok (.ior, 1) := by decide +kernel
theorem dX12_findSought_107 : decode cX12_findSought 107 = .ok (.iconst 1, 1) := by decide +kernel
theorem dX12_findSought_108 : decode cX12_findSought 108 = .ok (.bastore, 1) := by decide +kernel
theorem dX12_findSought_109 : decode cX12_findSought 109 = .ok (.iinc 2 1, 3) := by decide +kernel
theorem dX12_findSought_112 : decode cX12_findSought 112 = .ok (.goto (-33), 3) := by decide +kernel
theorem dX12_findSought_115 : decode cX12_findSought 115 = .ok (.iinc 1 1, 3) := by decide +kernel
theorem dX12_findSought_118 : decode cX12_findSought 118 = .ok (.goto (-80), 3) := by decide +kernel
theorem dX12_findSought_121 : decode cX12_findSought 121 = .ok (.return_, 1) := by decide +kernel
theorem dX12_findLeft_0 : decode cX12_findLeft 0 = .ok (.aload_n 0, 1) := by decide +kernel
theorem dX12_findLeft_1 : decode cX12_findLeft 1 = .ok (.invokevirtual 308, 3) := by decide +kernel
theorem dX12_findLeft_4 : decode cX12_findLeft 4 = .ok (.aload_n 0, 1) := by decide +kernel
theorem dX12_findLeft_5 : decode cX12_findLeft 5 = .ok (.getfield 305, 3) := by decide +kernel
theorem dX12_findLeft_8 : decode cX12_findLeft 8 = .ok (.istore_n 1, 1) := by decide +kernel
theorem dX12_findLeft_9 : decode cX12_findLeft 9 = .ok (.iload_n 1, 1) := by decide +kernel
theorem dX12_findLeft_10 : decode cX12_findLeft 10 = .ok (.ifCond .lt 129, 3) := by decide +kernel
theorem dX12_findLeft_13 : decode cX12_findLeft 13 = .ok (.aload_n 0, 1) := by decide +kernel
theorem dX12_findLeft_14 : decode cX12_findLeft 14 = .ok (.getfield 46, 3) := by decide +kernel
theorem dX12_findLeft_17 : decode cX12_findLeft 17 = .ok (.iload_n 1, 1) := by decide +kernel
theorem dX12_findLeft_18 : decode cX12_findLeft 18 = .ok (.iload_n 1, 1) := by decide +kernel
theorem dX12_findLeft_19 : decode cX12_findLeft 19 = .ok (.aload_n 0, 1) := by decide +kernel
theorem dX12_findLeft_20 : decode cX12_findLeft 20 = .ok (.getfield 305, 3) := by decide +kernel
theorem dX12_findLeft_23 : decode cX12_findLeft 23 = .ok (.if_icmp .ne 7, 3) := by decide +kernel
theorem dX12_findLeft_26 : decode cX12_findLeft 26 = .ok (.iconst 0, 1) := by decide +kernel
theorem dX12_findLeft_27 : decode cX12_findLeft 27 = .ok (.goto 6, 3) := by decide +kernel
theorem dX12_findLeft_30 : decode cX12_findLeft 30 = .ok (.ldc_w 311, 3) := by decide +kernel
theorem dX12_findLeft_33 : decode cX12_findLeft 33 = .ok (.iastore, 1) := by decide +kernel
theorem dX12_findLeft_34 : decode cX12_findLeft 34 = .ok (.iload_n 1, 1) := by decide +kernel
theorem dX12_findLeft_35 : decode cX12_findLeft 35 = .ok (.aload_n 0, 1) := by decide +kernel
theorem dX12_findLeft_36 : decode cX12_findLeft 36 = .ok (.getfield 305, 3) := by decide +kernel
theorem dX12_findLeft_39 : decode cX12_findLeft 39 = .ok (.iconst (-1), 1) := by decide +kernel
theorem dX12_findLeft_40 : decode cX12_findLeft 40 = .ok (.ixor, 1) := by decide +kernel
theorem dX12_findLeft_41 : decode cX12_findLeft 41 = .ok (.iand, 1) := by decide +kernel
theorem dX12_findLeft_42 : decode cX12_findLeft 42 = .ok (.ifCond .eq 6, 3) := by decide +kernel
theorem dX12_findLeft_45 : decode cX12_findLeft 45 = .ok (.goto 88, 3) := by decide +kernel
theorem dX12_findLeft_48 : decode cX12_findLeft 48 = .ok (.iconst 0, 1) := by decide +kernel
theorem dX12_findLeft_49 : decode cX12_findLeft 49 = .ok (.istore_n 2, 1) := by decide +kernel
theorem dX12_findLeft_50 : decode cX12_findLeft 50 = .ok (.iload_n 2, 1) := by decide +kernel
theorem dX12_findLeft_51 : decode cX12_findLeft 51 = .ok (.aload_n 0, 1) := by decide +kernel
theorem dX12_findLeft_52 : decode cX12_findLeft 52 = .ok (.getfield 7, 3) := by decide +kernel
theorem dX12_findLeft_55 : decode cX12_findLeft 55 = .ok (.iconst 0, 1) := by decide +kernel
theorem dX12_findLeft_56 : decode cX12_findLeft 56 = .ok (.iaload, 1) := by decide +kernel
theorem dX12_findLeft_57 : decode cX12_findLeft 57 = .ok (.if_icmp .ge 76, 3) := by decide +kernel
theorem dX12_findLeft_60 : decode cX12_findLeft 60 = .ok (.aload_n 0, 1) := by decide +kernel
theorem dX12_findLeft_61 : decode cX12_findLeft 61 = .ok (.getfield 305, 3) := by decide +kernel
theorem dX12_findLeft_64 : decode cX12_findLeft 64 = .ok (.iload_n 2, 1) := by decide +kernel
theorem dX12_findLeft_65 : decode cX12_findLeft 65 = .ok (.invokestatic 249, 3) := by decide +kernel
theorem dX12_findLeft_68 : decode cX12_findLeft 68 = .ok (.ifCond .eq 59, 3) := by decide +kernel
theorem dX12_findLeft_71 : decode cX12_findLeft 71 = .ok (.aload_n 0, 1) := by decide +kernel
theorem dX12_findLeft_72 : decode cX12_findLeft 72 = .ok (.getfield 43, 3) := by decide +kernel
theorem dX12_findLeft_75 : decode cX12_findLeft 75 = .ok (.iload_n 1, 1) := by decide +kernel
theorem dX12_findLeft_76 : decode cX12_findLeft 76 = .ok (.baload, 1) := by decide +kernel
theorem dX12_findLeft_77 : decode cX12_findLeft 77 = .ok (.ifCond .eq 50, 3) := by decide +kernel
theorem dX12_findLeft_80 : decode cX12_findLeft 80 = .ok (.aload_n 0, 1) := by decide +kernel
theorem dX12_findLeft_81 : decode cX12_findLeft 81 = .ok (.iload_n 2, 1) := by decide +kernel
theorem dX12_findLeft_82 : decode cX12_findLeft 82 = .ok (.iload_n 1, 1) := by decide +kernel
theorem dX12_findLeft_83 : decode cX12_findLeft 83 = .ok (.invokevirtual 275, 3) := by decide +kernel
theorem dX12_findLeft_86 : decode cX12_findLeft 86 = .ok (.ifCond .ne 6, 3) := by decide +kernel
theorem dX12_findLeft_89 : decode cX12_findLeft 89 = .ok (.goto 38, 3) := by decide +kernel
theorem dX12_findLeft_92 : decode cX12_findLeft 92 = .ok (.aload_n 0, 1) := by decide +kernel
theorem dX12_findLeft_93 : decode cX12_findLeft 93 = .ok (.iload_n 2, 1) := by decide +kernel
theorem dX12_findLeft_94 : decode cX12_findLeft 94 = .ok (.iload_n 1, 1) := by decide +kernel
theorem dX12_findLeft_95 : decode cX12_findLeft 95 = .ok (.invokevirtual 278, 3) := by decide +kernel
theorem dX12_findLeft_98 : decode cX12_findLeft 98 = .ok (.aload_n 0, 1) := by decide +kernel
theorem dX12_findLeft_99 : decode cX12_findLeft 99 = .ok (.getfield 46, 3) := by decide +kernel
theorem dX12_findLeft_102 : decode cX12_findLeft 102 = .ok (.iload_n 1, 1) := by decide +kernel
theorem dX12_findLeft_103 : decode cX12_findLeft 103 = .ok (.iconst 1, 1) := by decide +kernel
theorem dX12_findLeft_104 : decode cX12_findLeft 104 = .ok (.iload_n 2, 1) := by decide +kernel
theorem dX12_findLeft_105 : decode cX12_findLeft 105 = .ok (.ishl, 1) := by decide +kernel
theorem dX12_findLeft_106 : decode cX12_findLeft 106 = .ok (.ior, 1) := by decide +kernel
theorem dX12_findLeft_107 : decode cX12_findLeft 107 = .ok (.iaload, 1) := by decide +kernel
theorem dX12_findLeft_108 : decode cX12_findLeft 108 = .ok (.iadd, 1) := by decide +kernel
theorem dX12_findLeft_109 : decode cX12_findLeft 109 = .ok (.istore_n 3, 1) := by decide +kernel
theorem dX12_findLeft_110 : decode cX12_findLeft 110 = .ok (.iload_n 3, 1) := by decide +kernel
theorem dX12_findLeft_111 : decode cX12_findLeft 111 = .ok (.aload_n 0, 1) := by decide +kernel
theorem dX12_findLeft_112 : decode cX12_findLeft 112 = .ok (.getfield 46, 3) := by decide +kernel
theorem dX12_findLeft_115 : decode cX12_findLeft 115 = .ok (.iload_n 1, 1) := by decide +kernel
theorem dX12_findLeft_116 : decode cX12_findLeft 116 = .ok (.iaload, 1) := by decide +kernel
theorem dX12_findLeft_117 : decode cX12_findLeft 117 = .ok (.if_icmp .ge 10, 3) := by decide +kernel
theorem dX12_findLeft_120 : decode cX12_findLeft 120 = .ok (.aload_n 0, 1) := by decide +kernel
theorem dX12_findLeft_121 : decode cX12_findLeft 121 = .ok (.getfield 46, 3) := by decide +kernel
theorem dX12_findLeft_124 : decode cX12_findLeft 124 = .ok (.iload_n 1, 1) := by decide +kernel
theorem dX12_findLeft_125 : decode cX12_findLeft 125 = .ok (.iload_n 3, 1) := by decide +kernel
theorem dX12_findLeft_126 : decode cX12_findLeft 126 = .ok (.iastore, 1) := by decide +kernel
theorem dX12_findLeft_127 : decode cX12_findLeft 127 = .ok (.iinc 2 1, 3) := by decide +kernel
theorem dX12_findLeft_130 : decode cX12_findLeft 130 = .ok (.goto (-80), 3) := by decide +kernel
theorem dX12_findLeft_133 : decode cX12_findLeft 133 = .ok (.iinc 1 (-1), 3) := by decide +kernel
theorem dX12_findLeft_136 : decode cX12_findLeft 136 = .ok (.goto (-127), 3) := by decide +kernel
theorem dX12_findLeft_139 : decode cX12_findLeft 139 = .ok (.return_, 1) := by decide +kernel
theorem dX12_least_0 : decode cX12_least 0 = .ok (.iload_n 1, 1) := by decide +kernel
theorem dX12_least_1 : decode cX12_least 1 = .ok (.bipush (-2), 2) := by decide +kernel
theorem dX12_least_3 : decode cX12_least 3 = .ok (.if_icmp .ge 6, 3) := by decide +kernel
theorem dX12_least_6 : decode cX12_least 6 = .ok (.bipush (-3), 2) := by decide +kernel
theorem dX12_least_8 : decode cX12_least 8 = .ok (.ireturn, 1) := by decide +kernel
theorem dX12_least_9 : decode cX12_least 9 = .ok (.aload_n 0, 1) := by decide +kernel
theorem dX12_least_10 : decode cX12_least 10 = .ok (.invokevirtual 312, 3) := by decide +kernel
theorem dX12_least_13 : decode cX12_least 13 = .ok (.iload_n 1, 1) := by decide +kernel
theorem dX12_least_14 : decode cX12_least 14 = .ok (.iconst (-1), 1) := by decide +kernel
theorem dX12_least_15 : decode cX12_least 15 = .ok (.if_icmp .ne 11, 3) := by decide +kernel
theorem dX12_least_18 : decode cX12_least 18 = .ok (.aload_n 0, 1) := by decide +kernel
theorem dX12_least_19 : decode cX12_least 19 = .ok (.getfield 305, 3) := by decide +kernel
theorem dX12_least_22 : decode cX12_least 22 = .ok (.invokestatic 70, 3) := by decide +kernel
theorem dX12_least_25 : decode cX12_least 25 = .ok (.ireturn, 1) := by decide +kernel
theorem dX12_least_26 : decode cX12_least 26 = .ok (.iload_n 1, 1) := by decide +kernel
theorem dX12_least_27 : decode cX12_least 27 = .ok (.bipush (-2), 2) := by decide +kernel
theorem dX12_least_29 : decode cX12_least 29 = .ok (.if_icmp .ne 10, 3) := by decide +kernel
theorem dX12_least_32 : decode cX12_least 32 = .ok (.aload_n 0, 1) := by decide +kernel
theorem dX12_least_33 : decode cX12_least 33 = .ok (.getfield 46, 3) := by decide +kernel
theorem dX12_least_36 : decode cX12_least 36 = .ok (.iconst 0, 1) := by decide +kernel
theorem dX12_least_37 : decode cX12_least 37 = .ok (.iaload, 1) := by decide +kernel
theorem dX12_least_38 : decode cX12_least 38 = .ok (.ireturn, 1) := by decide +kernel
theorem dX12_least_39 : decode cX12_least 39 = .ok (.iload_n 1, 1) := by decide +kernel
theorem dX12_least_40 : decode cX12_least 40 = .ok (.aload_n 0, 1) := by decide +kernel
theorem dX12_least_41 : decode cX12_least 41 = .ok (.getfield 305, 3) := by decide +kernel
theorem dX12_least_44 : decode cX12_least 44 = .ok (.invokestatic 70, 3) := by decide +kernel
theorem dX12_least_47 : decode cX12_least 47 = .ok (.if_icmp .lt 6, 3) := by decide +kernel
theorem dX12_least_50 : decode cX12_least 50 = .ok (.bipush (-3), 2) := by decide +kernel
theorem dX12_least_52 : decode cX12_least 52 = .ok (.ireturn, 1) := by decide +kernel
theorem dX12_least_53 : decode cX12_least 53 = .ok (.iconst 0, 1) := by decide +kernel
theorem dX12_least_54 : decode cX12_least 54 = .ok (.istore_n 2, 1) := by decide +kernel
theorem dX12_least_55 : decode cX12_least 55 = .ok (.iconst (-1), 1) := by decide +kernel
theorem dX12_least_56 : decode cX12_least 56 = .ok (.istore_n 3, 1) := by decide +kernel
theorem dX12_least_57 : decode cX12_least 57 = .ok (.iconst 0, 1) := by decide +kernel
theorem dX12_least_58 : decode cX12_least 58 = .ok (.istore 4, 2) := by decide +kernel
theorem dX12_least_60 : decode cX12_least 60 = .ok (.iload 4, 2) := by decide +kernel
theorem dX12_least_62 : decode cX12_least 62 = .ok (.iload_n 1, 1) := by decide +kernel
theorem dX12_least_63 : decode cX12_least 63 = .ok (.if_icmp .gt 69, 3) := by decide +kernel
theorem dX12_least_66 : decode cX12_least 66 = .ok (.iconst 0, 1) := by decide +kernel
theorem dX12_least_67 : decode cX12_least 67 = .ok (.istore_n 3, 1) := by decide +kernel
theorem dX12_least_68 : decode cX12_least 68 = .ok (.aload_n 0, 1) := by decide +kernel
theorem dX12_least_69 : decode cX12_least 69 = .ok (.getfield 305, 3) := by decide +kernel
theorem dX12_least_72 : decode cX12_least 72 = .ok (.iload_n 3, 1) := by decide +kernel
theorem dX12_least_73 : decode cX12_least 73 = .ok (.invokestatic 249, 3) := by decide +kernel
theorem dX12_least_76 : decode cX12_least 76 = .ok (.ifCond .eq 38, 3) := by decide +kernel
theorem dX12_least_79 : decode cX12_least 79 = .ok (.aload_n 0, 1) := by decide +kernel
theorem dX12_least_80 : decode cX12_least 80 = .ok (.iload_n 3, 1) := by decide +kernel
theorem dX12_least_81 : decode cX12_least 81 = .ok (.iload_n 2, 1) := by decide +kernel
theorem dX12_least_82 : decode cX12_least 82 = .ok (.invokevirtual 275, 3) := by decide +kernel
theorem dX12_least_85 : decode cX12_least 85 = .ok (.ifCond .eq 29, 3) := by decide +kernel
theorem dX12_least_88 : decode cX12_least 88 = .ok (.aload_n 0, 1) := by decide +kernel
theorem dX12_least_89 : decode cX12_least 89 = .ok (.iload_n 3, 1) := by decide +kernel
theorem dX12_least_90 : decode cX12_least 90 = .ok (.iload_n 2, 1) := by decide +kernel
theorem dX12_least_91 : decode cX12_least 91 = .ok (.invokevirtual 278, 3) := by decide +kernel
theorem dX12_least_94 : decode cX12_least 94 = .ok (.aload_n 0, 1) := by decide +kernel
theorem dX12_least_95 : decode cX12_least 95 = .ok (.getfield 46, 3) := by decide +kernel
theorem dX12_least_98 : decode cX12_least 98 = .ok (.iload_n 2, 1) := by decide +kernel
theorem dX12_least_99 : decode cX12_least 99 = .ok (.iconst 1, 1) := by decide +kernel
theorem dX12_least_100 : decode cX12_least 100 = .ok (.iload_n 3, 1) := by decide +kernel
theorem dX12_least_101 : decode cX12_least 101 = .ok (.ishl, 1) := by decide +kernel
theorem dX12_least_102 : decode cX12_least 102 = .ok (.ior, 1) := by decide +kernel
theorem dX12_least_103 : decode cX12_least 103 = .ok (.iaload, 1) := by decide +kernel
theorem dX12_least_104 : decode cX12_least 104 = .ok (.iadd, 1) := by decide +kernel
theorem dX12_least_105 : decode cX12_least 105 = .ok (.aload_n 0, 1) := by decide +kernel
theorem dX12_least_106 : decode cX12_least 106 = .ok (.getfield 46, 3) := by decide +kernel
theorem dX12_least_109 : decode cX12_least 109 = .ok (.iload_n 2, 1) := by decide +kernel
theorem dX12_least_110 : decode cX12_least 110 = .ok (.iaload, 1) := by decide +kernel
theorem dX12_least_111 : decode cX12_least 111 = .ok (.if_icmp .eq 9, 3) := by decide +kernel
theorem dX12_least_114 : decode cX12_least 114 = .ok (.iinc 3 1, 3) := by decide +kernel
theorem dX12_least_117 : decode cX12_least 117 = .ok (.goto (-49), 3) := by decide +kernel
theorem dX12_least_120 : decode cX12_least 120 = .ok (.iload_n 2, 1) := by decide +kernel
theorem dX12_least_121 : decode cX12_least 121 = .ok (.iconst 1, 1) := by decide +kernel
theorem dX12_least_122 : decode cX12_least 122 = .ok (.iload_n 3, 1) := by decide +kernel
theorem dX12_least_123 : decode cX12_least 123 = .ok (.ishl, 1) := by decide +kernel
theorem dX12_least_124 : decode cX12_least 124 = .ok (.ior, 1) := by decide +kernel
theorem dX12_least_125 : decode cX12_least 125 = .ok (.istore_n 2, 1) := by decide +kernel
theorem dX12_least_126 : decode cX12_least 126 = .ok (.iinc 4 1, 3) := by decide +kernel
theorem dX12_least_129 : decode cX12_least 129 = .ok (.goto (-69), 3) := by decide +kernel
theorem dX12_least_132 : decode cX12_least 132 = .ok (.iload_n 3, 1) := by decide +kernel
theorem dX12_least_133 : decode cX12_least 133 = .ok (.ireturn, 1) := by decide +kernel
theorem dX12_count_0 : decode cX12_count 0 = .ok (.iconst 0, 1) := by decide +kernel
theorem dX12_count_1 : decode cX12_count 1 = .ok (.istore_n 3, 1) := by decide +kernel
theorem dX12_count_2 : decode cX12_count 2 = .ok (.iload_n 3, 1) := by decide +kernel
theorem dX12_count_3 : decode cX12_count 3 = .ok (.aload_n 0, 1) := by decide +kernel
theorem dX12_count_4 : decode cX12_count 4 = .ok (.invokevirtual 66, 3) := by decide +kernel
theorem dX12_count_7 : decode cX12_count 7 = .ok (.if_icmp .gt 24, 3) := by decide +kernel
theorem dX12_count_10 : decode cX12_count 10 = .ok (.aload_n 0, 1) := by decide +kernel
theorem dX12_count_11 : decode cX12_count 11 = .ok (.getfield 49, 3) := by decide +kernel
theorem dX12_count_14 : decode cX12_count 14 = .ok (.iload_n 3, 1) := by decide +kernel
theorem dX12_count_15 : decode cX12_count 15 = .ok (.iload_n 3, 1) := by decide +kernel
theorem dX12_count_16 : decode cX12_count 16 = .ok (.ifCond .ne 7, 3) := by decide +kernel
theorem dX12_count_19 : decode cX12_count 19 = .ok (.lconst 1, 1) := by decide +kernel
theorem dX12_count_20 : decode cX12_count 20 = .ok (.goto 4, 3) := by decide +kernel
theorem dX12_count_23 : decode cX12_count 23 = .ok (.lconst 0, 1) := by decide +kernel
theorem dX12_count_24 : decode cX12_count 24 = .ok (.lastore, 1) := by decide +kernel
theorem dX12_count_25 : decode cX12_count 25 = .ok (.iinc 3 1, 3) := by decide +kernel
theorem dX12_count_28 : decode cX12_count 28 = .ok (.goto (-26), 3) := by decide +kernel
theorem dX12_count_31 : decode cX12_count 31 = .ok (.iconst 0, 1) := by decide +kernel
theorem dX12_count_32 : decode cX12_count 32 = .ok (.istore_n 3, 1) := by decide +kernel
theorem dX12_count_33 : decode cX12_count 33 = .ok (.iload_n 3, 1) := by decide +kernel
theorem dX12_count_34 : decode cX12_count 34 = .ok (.aload_n 0, 1) := by decide +kernel
theorem dX12_count_35 : decode cX12_count 35 = .ok (.invokevirtual 66, 3) := by decide +kernel
theorem dX12_count_38 : decode cX12_count 38 = .ok (.if_icmp .gt 140, 3) := by decide +kernel
theorem dX12_count_41 : decode cX12_count 41 = .ok (.iload_n 3, 1) := by decide +kernel
theorem dX12_count_42 : decode cX12_count 42 = .ok (.invokestatic 70, 3) := by decide +kernel
theorem dX12_count_45 : decode cX12_count 45 = .ok (.istore 4, 2) := by decide +kernel
theorem dX12_count_47 : decode cX12_count 47 = .ok (.aload_n 0, 1) := by decide +kernel
theorem dX12_count_48 : decode cX12_count 48 = .ok (.getfield 49, 3) := by decide +kernel
theorem dX12_count_51 : decode cX12_count 51 = .ok (.iload_n 3, 1) := by decide +kernel
theorem dX12_count_52 : decode cX12_count 52 = .ok (.laload, 1) := by decide +kernel
theorem dX12_count_53 : decode cX12_count 53 = .ok (.lconst 0, 1) := by decide +kernel
theorem dX12_count_54 : decode cX12_count 54 = .ok (.lcmp, 1) := by decide +kernel
theorem dX12_count_55 : decode cX12_count 55 = .ok (.ifCond .eq 117, 3) := by decide +kernel
theorem dX12_count_58 : decode cX12_count 58 = .ok (.iload 4, 2) := by decide +kernel
theorem dX12_count_60 : decode cX12_count 60 = .ok (.iload_n 1, 1) := by decide +kernel
theorem dX12_count_61 : decode cX12_count 61 = .ok (.if_icmp .lt 6, 3) := by decide +kernel
theorem dX12_count_64 : decode cX12_count 64 = .ok (.goto 108, 3) := by decide +kernel
theorem dX12_count_67 : decode cX12_count 67 = .ok (.iconst 0, 1) := by decide +kernel
theorem dX12_count_68 : decode cX12_count 68 = .ok (.istore 5, 2) := by decide +kernel
theorem dX12_count_70 : decode cX12_count 70 = .ok (.iload 5, 2) := by decide +kernel
theorem dX12_count_72 : decode cX12_count 72 = .ok (.aload_n 0, 1) := by decide +kernel
theorem dX12_count_73 : decode cX12_count 73 = .ok (.getfield 7, 3) := by decide +kernel
theorem dX12_count_76 : decode cX12_count 76 = .ok (.iconst 0, 1) := by decide +kernel
theorem dX12_count_77 : decode cX12_count 77 = .ok (.iaload, 1) := by decide +kernel
theorem dX12_count_78 : decode cX12_count 78 = .ok (.if_icmp .ge 94, 3) := by decide +kernel
theorem dX12_count_81 : decode cX12_count 81 = .ok (.aload_n 0, 1) := by decide +kernel
theorem dX12_count_82 : decode cX12_count 82 = .ok (.getfield 7, 3) := by decide +kernel
theorem dX12_count_85 : decode cX12_count 85 = .ok (.iload 5, 2) := by decide +kernel
theorem dX12_count_87 : decode cX12_count 87 = .ok (.invokestatic 74, 3) := by decide +kernel
theorem dX12_count_90 : decode cX12_count 90 = .ok (.iconst 1, 1) := by decide +kernel
theorem dX12_count_91 : decode cX12_count 91 = .ok (.iadd, 1) := by decide +kernel
theorem dX12_count_92 : decode cX12_count 92 = .ok (.iaload, 1) := by decide +kernel
theorem dX12_count_93 : decode cX12_count 93 = .ok (.istore 6, 2) := by decide +kernel
theorem dX12_count_95 : decode cX12_count 95 = .ok (.iload_n 2, 1) := by decide +kernel
theorem dX12_count_96 : decode cX12_count 96 = .ok (.ifCond .eq 37, 3) := by decide +kernel
theorem dX12_count_99 : decode cX12_count 99 = .ok (.iload 6, 2) := by decide +kernel
theorem dX12_count_101 : decode cX12_count 101 = .ok (.aload_n 0, 1) := by decide +kernel
theorem dX12_count_102 : decode cX12_count 102 = .ok (.getfield 7, 3) := by decide +kernel
theorem dX12_count_105 : decode cX12_count 105 = .ok (.bipush 100, 2) := by decide +kernel
theorem dX12_count_107 : decode cX12_count 107 = .ok (.iconst 2, 1) := by decide +kernel
theorem dX12_count_108 : decode cX12_count 108 = .ok (.iload 4, 2) := by decide +kernel
theorem dX12_count_110 : decode cX12_count 110 = .ok (.imul, 1) := by decide +kernel
theorem dX12_count_111 : decode cX12_count 111 = .ok (.iadd, 1) := by decide +kernel
theorem dX12_count_112 : decode cX12_count 112 = .ok (.iaload, 1) := by decide +kernel
theorem dX12_count_113 : decode cX12_count 113 = .ok (.aload_n 0, 1) := by decide +kernel
theorem dX12_count_114 : decode cX12_count 114 = .ok (.getfield 7, 3) := by decide +kernel
theorem dX12_count_117 : decode cX12_count 117 = .ok (.bipush 100, 2) := by decide +kernel
theorem dX12_count_119 : decode cX12_count 119 = .ok (.iconst 2, 1) := by decide +kernel
theorem dX12_count_120 : decode cX12_count 120 = .ok (.iload 4, 2) := by decide +kernel
theorem dX12_count_122 : decode cX12_count 122 = .ok (.imul, 1) := by decide +kernel
theorem dX12_count_123 : decode cX12_count 123 = .ok (.iadd, 1) := by decide +kernel
theorem dX12_count_124 : decode cX12_count 124 = .ok (.iconst 1, 1) := by decide +kernel
theorem dX12_count_125 : decode cX12_count 125 = .ok (.iadd, 1) := by decide +kernel
theorem dX12_count_126 : decode cX12_count 126 = .ok (.iaload, 1) := by decide +kernel
theorem dX12_count_127 : decode cX12_count 127 = .ok (.invokestatic 62, 3) := by decide +kernel
theorem dX12_count_130 : decode cX12_count 130 = .ok (.ifCond .eq 36, 3) := by decide +kernel
theorem dX12_count_133 : decode cX12_count 133 = .ok (.aload_n 0, 1) := by decide +kernel
theorem dX12_count_134 : decode cX12_count 134 = .ok (.iload 5, 2) := by decide +kernel
theorem dX12_count_136 : decode cX12_count 136 = .ok (.iload_n 3, 1) := by decide +kernel
theorem dX12_count_137 : decode cX12_count 137 = .ok (.invokevirtual 275, 3) := by decide +kernel
theorem dX12_count_140 : decode cX12_count 140 = .ok (.ifCond .ne 6, 3) := by decide +kernel
theorem dX12_count_143 : decode cX12_count 143 = .ok (.goto 23, 3) := by decide +kernel
theorem dX12_count_146 : decode cX12_count 146 = .ok (.aload_n 0, 1) := by decide +kernel
theorem dX12_count_147 : decode cX12_count 147 = .ok (.getfield 49, 3) := by decide +kernel
theorem dX12_count_150 : decode cX12_count 150 = .ok (.iload_n 3, 1) := by decide +kernel
theorem dX12_count_151 : decode cX12_count 151 = .ok (.iconst 1, 1) := by decide +kernel
theorem dX12_count_152 : decode cX12_count 152 = .ok (.iload 5, 2) := by decide +kernel
theorem dX12_count_154 : decode cX12_count 154 = .ok (.ishl, 1) := by decide +kernel
theorem dX12_count_155 : decode cX12_count 155 = .ok (.ior, 1) := by decide +kernel
theorem dX12_count_156 : decode cX12_count 156 = .ok (.dup2, 1) := by decide +kernel
theorem dX12_count_157 : decode cX12_count 157 = .ok (.laload, 1) := by decide +kernel
theorem dX12_count_158 : decode cX12_count 158 = .ok (.aload_n 0, 1) := by decide +kernel
theorem dX12_count_159 : decode cX12_count 159 = .ok (.getfield 49, 3) := by decide +kernel
theorem dX12_count_162 : decode cX12_count 162 = .ok (.iload_n 3, 1) := by decide +kernel
theorem dX12_count_163 : decode cX12_count 163 = .ok (.laload, 1) := by decide +kernel
theorem dX12_count_164 : decode cX12_count 164 = .ok (.ladd, 1) := by decide +kernel
theorem dX12_count_165 : decode cX12_count 165 = .ok (.lastore, 1) := by decide +kernel
theorem dX12_count_166 : decode cX12_count 166 = .ok (.iinc 5 1, 3) := by decide +kernel
theorem dX12_count_169 : decode cX12_count 169 = .ok (.goto (-99), 3) := by decide +kernel
theorem dX12_count_172 : decode cX12_count 172 = .ok (.iinc 3 1, 3) := by decide +kernel
theorem dX12_count_175 : decode cX12_count 175 = .ok (.goto (-142), 3) := by decide +kernel
theorem dX12_count_178 : decode cX12_count 178 = .ok (.return_, 1) := by decide +kernel
theorem dX12_orders_0 : decode cX12_orders 0 = .ok (.aload_n 0, 1) := by decide +kernel
theorem dX12_orders_1 : decode cX12_orders 1 = .ok (.aload_n 0, 1) := by decide +kernel
theorem dX12_orders_2 : decode cX12_orders 2 = .ok (.getfield 7, 3) := by decide +kernel
theorem dX12_orders_5 : decode cX12_orders 5 = .ok (.iconst 0, 1) := by decide +kernel
theorem dX12_orders_6 : decode cX12_orders 6 = .ok (.iaload, 1) := by decide +kernel
theorem dX12_orders_7 : decode cX12_orders 7 = .ok (.iconst 0, 1) := by decide +kernel
theorem dX12_orders_8 : decode cX12_orders 8 = .ok (.invokevirtual 315, 3) := by decide +kernel
theorem dX12_orders_11 : decode cX12_orders 11 = .ok (.aload_n 0, 1) := by decide +kernel
theorem dX12_orders_12 : decode cX12_orders 12 = .ok (.getfield 49, 3) := by decide +kernel
theorem dX12_orders_15 : decode cX12_orders 15 = .ok (.aload_n 0, 1) := by decide +kernel
theorem dX12_orders_16 : decode cX12_orders 16 = .ok (.invokevirtual 66, 3) := by decide +kernel
theorem dX12_orders_19 : decode cX12_orders 19 = .ok (.laload, 1) := by decide +kernel
theorem dX12_orders_20 : decode cX12_orders 20 = .ok (.lreturn, 1) := by decide +kernel
theorem dX12_sound_0 : decode cX12_sound 0 = .ok (.iload_n 1, 1) := by decide +kernel
theorem dX12_sound_1 : decode cX12_sound 1 = .ok (.iconst 0, 1) := by decide +kernel
theorem dX12_sound_2 : decode cX12_sound 2 = .ok (.bipush 20, 2) := by decide +kernel
theorem dX12_sound_4 : decode cX12_sound 4 = .ok (.invokestatic 62, 3) := by decide +kernel
theorem dX12_sound_7 : decode cX12_sound 7 = .ok (.ifCond .eq 25, 3) := by decide +kernel
theorem dX12_sound_10 : decode cX12_sound 10 = .ok (.iload_n 2, 1) := by decide +kernel
theorem dX12_sound_11 : decode cX12_sound 11 = .ok (.iload_n 1, 1) := by decide +kernel
theorem dX12_sound_12 : decode cX12_sound 12 = .ok (.bipush 20, 2) := by decide +kernel
theorem dX12_sound_14 : decode cX12_sound 14 = .ok (.invokestatic 62, 3) := by decide +kernel
theorem dX12_sound_17 : decode cX12_sound 17 = .ok (.ifCond .eq 15, 3) := by decide +kernel
theorem dX12_sound_20 : decode cX12_sound 20 = .ok (.aload_n 0, 1) := by decide +kernel
theorem dX12_sound_21 : decode cX12_sound 21 = .ok (.getfield 7, 3) := by decide +kernel
theorem dX12_sound_24 : decode cX12_sound 24 = .ok (.bipush 7, 2) := by decide +kernel
theorem dX12_sound_26 : decode cX12_sound 26 = .ok (.iaload, 1) := by decide +kernel
theorem dX12_sound_27 : decode cX12_sound 27 = .ok (.bipush 8, 2) := by decide +kernel
theorem dX12_sound_29 : decode cX12_sound 29 = .ok (.if_icmp .ne 5, 3) := by decide +kernel
theorem dX12_sound_32 : decode cX12_sound 32 = .ok (.iconst (-1), 1) := by decide +kernel
theorem dX12_sound_33 : decode cX12_sound 33 = .ok (.ireturn, 1) := by decide +kernel
theorem dX12_sound_34 : decode cX12_sound 34 = .ok (.aload_n 0, 1) := by decide +kernel
theorem dX12_sound_35 : decode cX12_sound 35 = .ok (.getfield 7, 3) := by decide +kernel
theorem dX12_sound_38 : decode cX12_sound 38 = .ok (.bipush 100, 2) := by decide +kernel
theorem dX12_sound_40 : decode cX12_sound 40 = .ok (.iconst 2, 1) := by decide +kernel
theorem dX12_sound_41 : decode cX12_sound 41 = .ok (.aload_n 0, 1) := by decide +kernel
theorem dX12_sound_42 : decode cX12_sound 42 = .ok (.getfield 7, 3) := by decide +kernel
theorem dX12_sound_45 : decode cX12_sound 45 = .ok (.bipush 7, 2) := by decide +kernel
theorem dX12_sound_47 : decode cX12_sound 47 = .ok (.iaload, 1) := by decide +kernel
theorem dX12_sound_48 : decode cX12_sound 48 = .ok (.imul, 1) := by decide +kernel
theorem dX12_sound_49 : decode cX12_sound 49 = .ok (.iadd, 1) := by decide +kernel
theorem dX12_sound_50 : decode cX12_sound 50 = .ok (.iload_n 1, 1) := by decide +kernel
theorem dX12_sound_51 : decode cX12_sound 51 = .ok (.iastore, 1) := by decide +kernel
theorem dX12_sound_52 : decode cX12_sound 52 = .ok (.aload_n 0, 1) := by decide +kernel
theorem dX12_sound_53 : decode cX12_sound 53 = .ok (.getfield 7, 3) := by decide +kernel
theorem dX12_sound_56 : decode cX12_sound 56 = .ok (.bipush 100, 2) := by decide +kernel
theorem dX12_sound_58 : decode cX12_sound 58 = .ok (.iconst 2, 1) := by decide +kernel
theorem dX12_sound_59 : decode cX12_sound 59 = .ok (.aload_n 0, 1) := by decide +kernel
theorem dX12_sound_60 : decode cX12_sound 60 = .ok (.getfield 7, 3) := by decide +kernel
theorem dX12_sound_63 : decode cX12_sound 63 = .ok (.bipush 7, 2) := by decide +kernel
theorem dX12_sound_65 : decode cX12_sound 65 = .ok (.iaload, 1) := by decide +kernel
theorem dX12_sound_66 : decode cX12_sound 66 = .ok (.imul, 1) := by decide +kernel
theorem dX12_sound_67 : decode cX12_sound 67 = .ok (.iadd, 1) := by decide +kernel
theorem dX12_sound_68 : decode cX12_sound 68 = .ok (.iconst 1, 1) := by decide +kernel
theorem dX12_sound_69 : decode cX12_sound 69 = .ok (.iadd, 1) := by decide +kernel
theorem dX12_sound_70 : decode cX12_sound 70 = .ok (.iload_n 2, 1) := by decide +kernel
theorem dX12_sound_71 : decode cX12_sound 71 = .ok (.iastore, 1) := by decide +kernel
theorem dX12_sound_72 : decode cX12_sound 72 = .ok (.aload_n 0, 1) := by decide +kernel
theorem dX12_sound_73 : decode cX12_sound 73 = .ok (.getfield 7, 3) := by decide +kernel
theorem dX12_sound_76 : decode cX12_sound 76 = .ok (.bipush 7, 2) := by decide +kernel
theorem dX12_sound_78 : decode cX12_sound 78 = .ok (.dup2, 1) := by decide +kernel
theorem dX12_sound_79 : decode cX12_sound 79 = .ok (.iaload, 1) := by decide +kernel
theorem dX12_sound_80 : decode cX12_sound 80 = .ok (.iconst 1, 1) := by decide +kernel
theorem dX12_sound_81 : decode cX12_sound 81 = .ok (.iadd, 1) := by decide +kernel
theorem dX12_sound_82 : decode cX12_sound 82 = .ok (.iastore, 1) := by decide +kernel
theorem dX12_sound_83 : decode cX12_sound 83 = .ok (.aload_n 0, 1) := by decide +kernel
theorem dX12_sound_84 : decode cX12_sound 84 = .ok (.getfield 7, 3) := by decide +kernel
theorem dX12_sound_87 : decode cX12_sound 87 = .ok (.bipush 7, 2) := by decide +kernel
theorem dX12_sound_89 : decode cX12_sound 89 = .ok (.iaload, 1) := by decide +kernel
theorem dX12_sound_90 : decode cX12_sound 90 = .ok (.ireturn, 1) := by decide +kernel
theorem dX12_hush_0 : decode cX12_hush 0 = .ok (.aload_n 0, 1) := by decide +kernel
theorem dX12_hush_1 : decode cX12_hush 1 = .ok (.getfield 7, 3) := by decide +kernel
theorem dX12_hush_4 : decode cX12_hush 4 = .ok (.bipush 7, 2) := by decide +kernel
theorem dX12_hush_6 : decode cX12_hush 6 = .ok (.iaload, 1) := by decide +kernel
theorem dX12_hush_7 : decode cX12_hush 7 = .ok (.istore_n 1, 1) := by decide +kernel
theorem dX12_hush_8 : decode cX12_hush 8 = .ok (.aload_n 0, 1) := by decide +kernel
theorem dX12_hush_9 : decode cX12_hush 9 = .ok (.getfield 7, 3) := by decide +kernel
theorem dX12_hush_12 : decode cX12_hush 12 = .ok (.bipush 7, 2) := by decide +kernel
theorem dX12_hush_14 : decode cX12_hush 14 = .ok (.iconst 0, 1) := by decide +kernel
theorem dX12_hush_15 : decode cX12_hush 15 = .ok (.iastore, 1) := by decide +kernel
theorem dX12_hush_16 : decode cX12_hush 16 = .ok (.iload_n 1, 1) := by decide +kernel
theorem dX12_hush_17 : decode cX12_hush 17 = .ok (.ireturn, 1) := by decide +kernel
theorem dX12_heard_0 : decode cX12_heard 0 = .ok (.iload_n 1, 1) := by decide +kernel
theorem dX12_heard_1 : decode cX12_heard 1 = .ok (.iconst 0, 1) := by decide +kernel
theorem dX12_heard_2 : decode cX12_heard 2 = .ok (.iconst 2, 1) := by decide +kernel
theorem dX12_heard_3 : decode cX12_heard 3 = .ok (.invokestatic 62, 3) := by decide +kernel
theorem dX12_heard_6 : decode cX12_heard 6 = .ok (.ifCond .ne 7, 3) := by decide +kernel
theorem dX12_heard_9 : decode cX12_heard 9 = .ok (.ldc2_w 319, 3) := by decide +kernel
theorem dX12_heard_12 : decode cX12_heard 12 = .ok (.lreturn, 1) := by decide +kernel
theorem dX12_heard_13 : decode cX12_heard 13 = .ok (.aload_n 0, 1) := by decide +kernel
theorem dX12_heard_14 : decode cX12_heard 14 = .ok (.aload_n 0, 1) := by decide +kernel
theorem dX12_heard_15 : decode cX12_heard 15 = .ok (.getfield 7, 3) := by decide +kernel
theorem dX12_heard_18 : decode cX12_heard 18 = .ok (.bipush 7, 2) := by decide +kernel
theorem dX12_heard_20 : decode cX12_heard 20 = .ok (.iaload, 1) := by decide +kernel
theorem dX12_heard_21 : decode cX12_heard 21 = .ok (.iconst 1, 1) := by decide +kernel
theorem dX12_heard_22 : decode cX12_heard 22 = .ok (.invokevirtual 315, 3) := by decide +kernel
theorem dX12_heard_25 : decode cX12_heard 25 = .ok (.lconst 0, 1) := by decide +kernel
theorem dX12_heard_26 : decode cX12_heard 26 = .ok (.lstore_n 2, 1) := by decide +kernel
theorem dX12_heard_27 : decode cX12_heard 27 = .ok (.aload_n 0, 1) := by decide +kernel
theorem dX12_heard_28 : decode cX12_heard 28 = .ok (.invokevirtual 66, 3) := by decide +kernel
theorem dX12_heard_31 : decode cX12_heard 31 = .ok (.istore 4, 2) := by decide +kernel
theorem dX12_heard_33 : decode cX12_heard 33 = .ok (.iconst 0, 1) := by decide +kernel
theorem dX12_heard_34 : decode cX12_heard 34 = .ok (.istore 5, 2) := by decide +kernel
theorem dX12_heard_36 : decode cX12_heard 36 = .ok (.iconst 0, 1) := by decide +kernel
theorem dX12_heard_37 : decode cX12_heard 37 = .ok (.istore 6, 2) := by decide +kernel
theorem dX12_heard_39 : decode cX12_heard 39 = .ok (.iload 6, 2) := by decide +kernel
theorem dX12_heard_41 : decode cX12_heard 41 = .ok (.aload_n 0, 1) := by decide +kernel
theorem dX12_heard_42 : decode cX12_heard 42 = .ok (.invokevirtual 66, 3) := by decide +kernel
theorem dX12_heard_45 : decode cX12_heard 45 = .ok (.if_icmp .gt 63, 3) := by decide +kernel
theorem dX12_heard_48 : decode cX12_heard 48 = .ok (.iload 6, 2) := by decide +kernel
theorem dX12_heard_50 : decode cX12_heard 50 = .ok (.invokestatic 70, 3) := by decide +kernel
theorem dX12_heard_53 : decode cX12_heard 53 = .ok (.aload_n 0, 1) := by decide +kernel
theorem dX12_heard_54 : decode cX12_heard 54 = .ok (.getfield 7, 3) := by decide +kernel
theorem dX12_heard_57 : decode cX12_heard 57 = .ok (.bipush 7, 2) := by decide +kernel
theorem dX12_heard_59 : decode cX12_heard 59 = .ok (.iaload, 1) := by decide +kernel
theorem dX12_heard_60 : decode cX12_heard 60 = .ok (.if_icmp .ne 42, 3) := by decide +kernel
theorem dX12_heard_63 : decode cX12_heard 63 = .ok (.aload_n 0, 1) := by decide +kernel
theorem dX12_heard_64 : decode cX12_heard 64 = .ok (.getfield 49, 3) := by decide +kernel
theorem dX12_heard_67 : decode cX12_heard 67 = .ok (.iload 6, 2) := by decide +kernel
theorem dX12_heard_69 : decode cX12_heard 69 = .ok (.laload, 1) := by decide +kernel
theorem dX12_heard_70 : decode cX12_heard 70 = .ok (.lconst 0, 1) := by decide +kernel
theorem dX12_heard_71 : decode cX12_heard 71 = .ok (.lcmp, 1) := by decide +kernel
theorem dX12_heard_72 : decode cX12_heard 72 = .ok (.ifCond .ne 6, 3) := by decide +kernel
theorem dX12_heard_75 : decode cX12_heard 75 = .ok (.goto 27, 3) := by decide +kernel
theorem dX12_heard_78 : decode cX12_heard 78 = .ok (.lload_n 2, 1) := by decide +kernel
theorem dX12_heard_79 : decode cX12_heard 79 = .ok (.aload_n 0, 1) := by decide +kernel
theorem dX12_heard_80 : decode cX12_heard 80 = .ok (.getfield 49, 3) := by decide +kernel
theorem dX12_heard_83 : decode cX12_heard 83 = .ok (.iload 6, 2) := by decide +kernel
theorem dX12_heard_85 : decode cX12_heard 85 = .ok (.laload, 1) := by decide +kernel
theorem dX12_heard_86 : decode cX12_heard 86 = .ok (.ladd, 1) := by decide +kernel
theorem dX12_heard_87 : decode cX12_heard 87 = .ok (.lstore_n 2, 1) := by decide +kernel
theorem dX12_heard_88 : decode cX12_heard 88 = .ok (.iload 4, 2) := by decide +kernel
theorem dX12_heard_90 : decode cX12_heard 90 = .ok (.iload 6, 2) := by decide +kernel
theorem dX12_heard_92 : decode cX12_heard 92 = .ok (.iand, 1) := by decide +kernel
theorem dX12_heard_93 : decode cX12_heard 93 = .ok (.istore 4, 2) := by decide +kernel
theorem dX12_heard_95 : decode cX12_heard 95 = .ok (.iload 5, 2) := by decide +kernel
theorem dX12_heard_97 : decode cX12_heard 97 = .ok (.iload 6, 2) := by decide +kernel
theorem dX12_heard_99 : decode cX12_heard 99 = .ok (.ior, 1) := by decide +kernel
theorem dX12_heard_100 : decode cX12_heard 100 = .ok (.istore 5, 2) := by decide +kernel
theorem dX12_heard_102 : decode cX12_heard 102 = .ok (.iinc 6 1, 3) := by decide +kernel
theorem dX12_heard_105 : decode cX12_heard 105 = .ok (.goto (-66), 3) := by decide +kernel
theorem dX12_heard_108 : decode cX12_heard 108 = .ok (.iload_n 1, 1) := by decide +kernel
theorem dX12_heard_109 : decode cX12_heard 109 = .ok (.ifCond .ne 7, 3) := by decide +kernel
theorem dX12_heard_112 : decode cX12_heard 112 = .ok (.lload_n 2, 1) := by decide +kernel
theorem dX12_heard_113 : decode cX12_heard 113 = .ok (.goto 27, 3) := by decide +kernel
theorem dX12_heard_116 : decode cX12_heard 116 = .ok (.iload_n 1, 1) := by decide +kernel
theorem dX12_heard_117 : decode cX12_heard 117 = .ok (.iconst 2, 1) := by decide +kernel
theorem dX12_heard_118 : decode cX12_heard 118 = .ok (.if_icmp .ne 9, 3) := by decide +kernel
theorem dX12_heard_121 : decode cX12_heard 121 = .ok (.iload 5, 2) := by decide +kernel
theorem dX12_heard_123 : decode cX12_heard 123 = .ok (.i2l, 1) := by decide +kernel
theorem dX12_heard_124 : decode cX12_heard 124 = .ok (.goto 16, 3) := by decide +kernel
theorem dX12_heard_127 : decode cX12_heard 127 = .ok (.lload_n 2, 1) := by decide +kernel
theorem dX12_heard_128 : decode cX12_heard 128 = .ok (.lconst 0, 1) := by decide +kernel
theorem dX12_heard_129 : decode cX12_heard 129 = .ok (.lcmp, 1) := by decide +kernel
theorem dX12_heard_130 : decode cX12_heard 130 = .ok (.ifCond .ne 7, 3) := by decide +kernel
theorem dX12_heard_133 : decode cX12_heard 133 = .ok (.lconst 0, 1) := by decide +kernel
theorem dX12_heard_134 : decode cX12_heard 134 = .ok (.goto 6, 3) := by decide +kernel
theorem dX12_heard_137 : decode cX12_heard 137 = .ok (.iload 4, 2) := by decide +kernel
theorem dX12_heard_139 : decode cX12_heard 139 = .ok (.i2l, 1) := by decide +kernel
theorem dX12_heard_140 : decode cX12_heard 140 = .ok (.lreturn, 1) := by decide +kernel
theorem dX12_with_0 : decode cX12_with 0 = .ok (.aload_n 0, 1) := by decide +kernel
theorem dX12_with_1 : decode cX12_with 1 = .ok (.iload_n 1, 1) := by decide +kernel
theorem dX12_with_2 : decode cX12_with 2 = .ok (.invokevirtual 272, 3) := by decide +kernel
theorem dX12_with_5 : decode cX12_with 5 = .ok (.ifCond .eq 16, 3) := by decide +kernel
theorem dX12_with_8 : decode cX12_with 8 = .ok (.aload_n 0, 1) := by decide +kernel
theorem dX12_with_9 : decode cX12_with 9 = .ok (.getfield 7, 3) := by decide +kernel
theorem dX12_with_12 : decode cX12_with 12 = .ok (.iconst 1, 1) := by decide +kernel
theorem dX12_with_13 : decode cX12_with 13 = .ok (.iaload, 1) := by decide +kernel
theorem dX12_with_14 : decode cX12_with 14 = .ok (.iload_n 1, 1) := by decide +kernel
theorem dX12_with_15 : decode cX12_with 15 = .ok (.invokestatic 249, 3) := by decide +kernel
theorem dX12_with_18 : decode cX12_with 18 = .ok (.ifCond .ne 5, 3) := by decide +kernel
theorem dX12_with_21 : decode cX12_with 21 = .ok (.iconst (-1), 1) := by decide +kernel
theorem dX12_with_22 : decode cX12_with 22 = .ok (.ireturn, 1) := by decide +kernel
theorem dX12_with_23 : decode cX12_with 23 = .ok (.iconst (-1), 1) := by decide +kernel
theorem dX12_with_24 : decode cX12_with 24 = .ok (.istore_n 2, 1) := by decide +kernel
theorem dX12_with_25 : decode cX12_with 25 = .ok (.iconst 0, 1) := by decide +kernel
theorem dX12_with_26 : decode cX12_with 26 = .ok (.istore_n 3, 1) := by decide +kernel
theorem dX12_with_27 : decode cX12_with 27 = .ok (.iload_n 3, 1) := by decide +kernel
theorem dX12_with_28 : decode cX12_with 28 = .ok (.aload_n 0, 1) := by decide +kernel
theorem dX12_with_29 : decode cX12_with 29 = .ok (.invokevirtual 66, 3) := by decide +kernel
theorem dX12_with_32 : decode cX12_with 32 = .ok (.if_icmp .gt 67, 3) := by decide +kernel
theorem dX12_with_35 : decode cX12_with 35 = .ok (.iload_n 3, 1) := by decide +kernel
theorem dX12_with_36 : decode cX12_with 36 = .ok (.iload_n 1, 1) := by decide +kernel
theorem dX12_with_37 : decode cX12_with 37 = .ok (.invokestatic 249, 3) := by decide +kernel
theorem dX12_with_40 : decode cX12_with 40 = .ok (.ifCond .eq 53, 3) := by decide +kernel
theorem dX12_with_43 : decode cX12_with 43 = .ok (.iload_n 3, 1) := by decide +kernel
theorem dX12_with_44 : decode cX12_with 44 = .ok (.aload_n 0, 1) := by decide +kernel
theorem dX12_with_45 : decode cX12_with 45 = .ok (.getfield 7, 3) := by decide +kernel
theorem dX12_with_48 : decode cX12_with 48 = .ok (.iconst 1, 1) := by decide +kernel
theorem dX12_with_49 : decode cX12_with 49 = .ok (.iaload, 1) := by decide +kernel
theorem dX12_with_50 : decode cX12_with 50 = .ok (.iconst (-1), 1) := by decide +kernel
theorem dX12_with_51 : decode cX12_with 51 = .ok (.ixor, 1) := by decide +kernel
theorem dX12_with_52 : decode cX12_with 52 = .ok (.iand, 1) := by decide +kernel
theorem dX12_with_53 : decode cX12_with 53 = .ok (.ifCond .ne 40, 3) := by decide +kernel
theorem dX12_with_56 : decode cX12_with 56 = .ok (.iload_n 2, 1) := by decide +kernel
theorem dX12_with_57 : decode cX12_with 57 = .ok (.ifCond .lt 17, 3) := by decide +kernel
theorem dX12_with_60 : decode cX12_with 60 = .ok (.iload_n 3, 1) := by decide +kernel
theorem dX12_with_61 : decode cX12_with 61 = .ok (.invokestatic 70, 3) := by decide +kernel
theorem dX12_with_64 : decode cX12_with 64 = .ok (.iload_n 2, 1) := by decide +kernel
theorem dX12_with_65 : decode cX12_with 65 = .ok (.invokestatic 70, 3) := by decide +kernel
theorem dX12_with_68 : decode cX12_with 68 = .ok (.if_icmp .lt 6, 3) := by decide +kernel
theorem dX12_with_71 : decode cX12_with 71 = .ok (.goto 22, 3) := by decide +kernel
theorem dX12_with_74 : decode cX12_with 74 = .ok (.aload_n 0, 1) := by decide +kernel
theorem dX12_with_75 : decode cX12_with 75 = .ok (.aload_n 0, 1) := by decide +kernel
theorem dX12_with_76 : decode cX12_with 76 = .ok (.getfield 7, 3) := by decide +kernel
theorem dX12_with_79 : decode cX12_with 79 = .ok (.iconst 1, 1) := by decide +kernel
theorem dX12_with_80 : decode cX12_with 80 = .ok (.iaload, 1) := by decide +kernel
theorem dX12_with_81 : decode cX12_with 81 = .ok (.iload_n 3, 1) := by decide +kernel
theorem dX12_with_82 : decode cX12_with 82 = .ok (.iconst (-1), 1) := by decide +kernel
theorem dX12_with_83 : decode cX12_with 83 = .ok (.ixor, 1) := by decide +kernel
theorem dX12_with_84 : decode cX12_with 84 = .ok (.iand, 1) := by decide +kernel
theorem dX12_with_85 : decode cX12_with 85 = .ok (.invokevirtual 256, 3) := by decide +kernel
theorem dX12_with_88 : decode cX12_with 88 = .ok (.ifCond .eq 5, 3) := by decide +kernel
theorem dX12_with_91 : decode cX12_with 91 = .ok (.iload_n 3, 1) := by decide +kernel
theorem dX12_with_92 : decode cX12_with 92 = .ok (.istore_n 2, 1) := by decide +kernel
theorem dX12_with_93 : decode cX12_with 93 = .ok (.iinc 3 1, 3) := by decide +kernel
theorem dX12_with_96 : decode cX12_with 96 = .ok (.goto (-69), 3) := by decide +kernel
theorem dX12_with_99 : decode cX12_with 99 = .ok (.iload_n 2, 1) := by decide +kernel
theorem dX12_with_100 : decode cX12_with 100 = .ok (.ireturn, 1) := by decide +kernel
theorem dX12_houseOf_0 : decode cX12_houseOf 0 = .ok (.aload_n 0, 1) := by decide +kernel
theorem dX12_houseOf_1 : decode cX12_houseOf 1 = .ok (.iload_n 1, 1) := by decide +kernel
theorem dX12_houseOf_2 : decode cX12_houseOf 2 = .ok (.invokevirtual 80, 3) := by decide +kernel
theorem dX12_houseOf_5 : decode cX12_houseOf 5 = .ok (.ifCond .eq 12, 3) := by decide +kernel
theorem dX12_houseOf_8 : decode cX12_houseOf 8 = .ok (.iload_n 2, 1) := by decide +kernel
theorem dX12_houseOf_9 : decode cX12_houseOf 9 = .ok (.iconst 0, 1) := by decide +kernel
theorem dX12_houseOf_10 : decode cX12_houseOf 10 = .ok (.iconst 2, 1) := by decide +kernel
theorem dX12_houseOf_11 : decode cX12_houseOf 11 = .ok (.invokestatic 62, 3) := by decide +kernel
theorem dX12_houseOf_14 : decode cX12_houseOf 14 = .ok (.ifCond .ne 7, 3) := by decide +kernel
theorem dX12_houseOf_17 : decode cX12_houseOf 17 = .ok (.sipush (-1000), 3) := by decide +kernel
theorem dX12_houseOf_20 : decode cX12_houseOf 20 = .ok (.ireturn, 1) := by decide +kernel
theorem dX12_houseOf_21 : decode cX12_houseOf 21 = .ok (.iload_n 2, 1) := by decide +kernel
theorem dX12_houseOf_22 : decode cX12_houseOf 22 = .ok (.iconst 2, 1) := by decide +kernel
theorem dX12_houseOf_23 : decode cX12_houseOf 23 = .ok (.if_icmp .ne 20, 3) := by decide +kernel
theorem dX12_houseOf_26 : decode cX12_houseOf 26 = .ok (.aload_n 0, 1) := by decide +kernel
theorem dX12_houseOf_27 : decode cX12_houseOf 27 = .ok (.getfield 7, 3) := by decide +kernel
theorem dX12_houseOf_30 : decode cX12_houseOf 30 = .ok (.iload_n 1, 1) := by decide +kernel
theorem dX12_houseOf_31 : decode cX12_houseOf 31 = .ok (.invokestatic 77, 3) := by decide +kernel
theorem dX12_houseOf_34 : decode cX12_houseOf 34 = .ok (.iconst 2, 1) := by decide +kernel
theorem dX12_houseOf_35 : decode cX12_houseOf 35 = .ok (.iadd, 1) := by decide +kernel
theorem dX12_houseOf_36 : decode cX12_houseOf 36 = .ok (.iaload, 1) := by decide +kernel
theorem dX12_houseOf_37 : decode cX12_houseOf 37 = .ok (.invokestatic 70, 3) := by decide +kernel
theorem dX12_houseOf_40 : decode cX12_houseOf 40 = .ok (.goto 14, 3) := by decide +kernel
theorem dX12_houseOf_43 : decode cX12_houseOf 43 = .ok (.aload_n 0, 1) := by decide +kernel
theorem dX12_houseOf_44 : decode cX12_houseOf 44 = .ok (.getfield 7, 3) := by decide +kernel
theorem dX12_houseOf_47 : decode cX12_houseOf 47 = .ok (.iload_n 1, 1) := by decide +kernel
theorem dX12_houseOf_48 : decode cX12_houseOf 48 = .ok (.invokestatic 77, 3) := by decide +kernel
theorem dX12_houseOf_51 : decode cX12_houseOf 51 = .ok (.iload_n 2, 1) := by decide +kernel
theorem dX12_houseOf_52 : decode cX12_houseOf 52 = .ok (.iadd, 1) := by decide +kernel
theorem dX12_houseOf_53 : decode cX12_houseOf 53 = .ok (.iaload, 1) := by decide +kernel
theorem dX12_houseOf_54 : decode cX12_houseOf 54 = .ok (.ireturn, 1) := by decide +kernel
theorem dX12_findFar_0 : decode cX12_findFar 0 = .ok (.iconst 0, 1) := by decide +kernel
theorem dX12_findFar_1 : decode cX12_findFar 1 = .ok (.istore_n 2, 1) := by decide +kernel
theorem dX12_findFar_2 : decode cX12_findFar 2 = .ok (.iload_n 2, 1) := by decide +kernel
theorem dX12_findFar_3 : decode cX12_findFar 3 = .ok (.bipush 10, 2) := by decide +kernel
theorem dX12_findFar_5 : decode cX12_findFar 5 = .ok (.if_icmp .ge 27, 3) := by decide +kernel
theorem dX12_findFar_8 : decode cX12_findFar 8 = .ok (.aload_n 0, 1) := by decide +kernel
theorem dX12_findFar_9 : decode cX12_findFar 9 = .ok (.getfield 52, 3) := by decide +kernel
theorem dX12_findFar_12 : decode cX12_findFar 12 = .ok (.iload_n 2, 1) := by decide +kernel
theorem dX12_findFar_13 : decode cX12_findFar 13 = .ok (.iload_n 2, 1) := by decide +kernel
theorem dX12_findFar_14 : decode cX12_findFar 14 = .ok (.iload_n 1, 1) := by decide +kernel
theorem dX12_findFar_15 : decode cX12_findFar 15 = .ok (.if_icmp .ne 7, 3) := by decide +kernel
theorem dX12_findFar_18 : decode cX12_findFar 18 = .ok (.iconst 1, 1) := by decide +kernel
theorem dX12_findFar_19 : decode cX12_findFar 19 = .ok (.goto 6, 3) := by decide +kernel
theorem dX12_findFar_22 : decode cX12_findFar 22 = .ok (.ldc_w 311, 3) := by decide +kernel
theorem dX12_findFar_25 : decode cX12_findFar 25 = .ok (.iastore, 1) := by decide +kernel
theorem dX12_findFar_26 : decode cX12_findFar 26 = .ok (.iinc 2 1, 3) := by decide +kernel
theorem dX12_findFar_29 : decode cX12_findFar 29 = .ok (.goto (-27), 3) := by decide +kernel
theorem dX12_findFar_32 : decode cX12_findFar 32 = .ok (.iconst 0, 1) := by decide +kernel
theorem dX12_findFar_33 : decode cX12_findFar 33 = .ok (.istore_n 2, 1) := by decide +kernel
theorem dX12_findFar_34 : decode cX12_findFar 34 = .ok (.iload_n 2, 1) := by decide +kernel
theorem dX12_findFar_35 : decode cX12_findFar 35 = .ok (.aload_n 0, 1) := by decide +kernel
theorem dX12_findFar_36 : decode cX12_findFar 36 = .ok (.getfield 7, 3) := by decide +kernel
theorem dX12_findFar_39 : decode cX12_findFar 39 = .ok (.iconst 3, 1) := by decide +kernel
theorem dX12_findFar_40 : decode cX12_findFar 40 = .ok (.iaload, 1) := by decide +kernel
theorem dX12_findFar_41 : decode cX12_findFar 41 = .ok (.if_icmp .ge 116, 3) := by decide +kernel
theorem dX12_findFar_44 : decode cX12_findFar 44 = .ok (.iconst 0, 1) := by decide +kernel
theorem dX12_findFar_45 : decode cX12_findFar 45 = .ok (.istore_n 3, 1) := by decide +kernel
theorem dX12_findFar_46 : decode cX12_findFar 46 = .ok (.iload_n 3, 1) := by decide +kernel
theorem dX12_findFar_47 : decode cX12_findFar 47 = .ok (.aload_n 0, 1) := by decide +kernel
theorem dX12_findFar_48 : decode cX12_findFar 48 = .ok (.getfield 7, 3) := by decide +kernel
theorem dX12_findFar_51 : decode cX12_findFar 51 = .ok (.iconst 3, 1) := by decide +kernel
theorem dX12_findFar_52 : decode cX12_findFar 52 = .ok (.iaload, 1) := by decide +kernel
theorem dX12_findFar_53 : decode cX12_findFar 53 = .ok (.if_icmp .ge 98, 3) := by decide +kernel
theorem dX12_findFar_56 : decode cX12_findFar 56 = .ok (.iconst 0, 1) := by decide +kernel
theorem dX12_findFar_57 : decode cX12_findFar 57 = .ok (.istore 4, 2) := by decide +kernel
theorem dX12_findFar_59 : decode cX12_findFar 59 = .ok (.iload 4, 2) := by decide +kernel
theorem dX12_findFar_61 : decode cX12_findFar 61 = .ok (.aload_n 0, 1) := by decide +kernel
theorem dX12_findFar_62 : decode cX12_findFar 62 = .ok (.getfield 7, 3) := by decide +kernel
theorem dX12_findFar_65 : decode cX12_findFar 65 = .ok (.iconst 3, 1) := by decide +kernel
theorem dX12_findFar_66 : decode cX12_findFar 66 = .ok (.iaload, 1) := by decide +kernel
theorem dX12_findFar_67 : decode cX12_findFar 67 = .ok (.if_icmp .ge 78, 3) := by decide +kernel
theorem dX12_findFar_70 : decode cX12_findFar 70 = .ok (.iload_n 3, 1) := by decide +kernel
theorem dX12_findFar_71 : decode cX12_findFar 71 = .ok (.iload_n 1, 1) := by decide +kernel
theorem dX12_findFar_72 : decode cX12_findFar 72 = .ok (.if_icmp .eq 67, 3) := by decide +kernel
theorem dX12_findFar_75 : decode cX12_findFar 75 = .ok (.aload_n 0, 1) := by decide +kernel
theorem dX12_findFar_76 : decode cX12_findFar 76 = .ok (.getfield 7, 3) := by decide +kernel
theorem dX12_findFar_79 : decode cX12_findFar 79 = .ok (.iload_n 3, 1) := by decide +kernel
theorem dX12_findFar_80 : decode cX12_findFar 80 = .ok (.invokestatic 77, 3) := by decide +kernel
theorem dX12_findFar_83 : decode cX12_findFar 83 = .ok (.iaload, 1) := by decide +kernel
theorem dX12_findFar_84 : decode cX12_findFar 84 = .ok (.ifCond .le 55, 3) := by decide +kernel
theorem dX12_findFar_87 : decode cX12_findFar 87 = .ok (.aload_n 0, 1) := by decide +kernel
theorem dX12_findFar_88 : decode cX12_findFar 88 = .ok (.getfield 7, 3) := by decide +kernel
theorem dX12_findFar_91 : decode cX12_findFar 91 = .ok (.iload_n 3, 1) := by decide +kernel
theorem dX12_findFar_92 : decode cX12_findFar 92 = .ok (.invokestatic 77, 3) := by decide +kernel
theorem dX12_findFar_95 : decode cX12_findFar 95 = .ok (.iconst 2, 1) := by decide +kernel
theorem dX12_findFar_96 : decode cX12_findFar 96 = .ok (.iadd, 1) := by decide +kernel
theorem dX12_findFar_97 : decode cX12_findFar 97 = .ok (.iaload, 1) := by decide +kernel
theorem dX12_findFar_98 : decode cX12_findFar 98 = .ok (.iload 4, 2) := by decide +kernel
theorem dX12_findFar_100 : decode cX12_findFar 100 = .ok (.invokestatic 249, 3) := by decide +kernel
theorem dX12_findFar_103 : decode cX12_findFar 103 = .ok (.ifCond .eq 36, 3) := by decide +kernel
theorem dX12_findFar_106 : decode cX12_findFar 106 = .ok (.aload_n 0, 1) := by decide +kernel
theorem dX12_findFar_107 : decode cX12_findFar 107 = .ok (.getfield 52, 3) := by decide +kernel
theorem dX12_findFar_110 : decode cX12_findFar 110 = .ok (.iload 4, 2) := by decide +kernel
theorem dX12_findFar_112 : decode cX12_findFar 112 = .ok (.iaload, 1) := by decide +kernel
theorem dX12_findFar_113 : decode cX12_findFar 113 = .ok (.iconst 1, 1) := by decide +kernel
theorem dX12_findFar_114 : decode cX12_findFar 114 = .ok (.iadd, 1) := by decide +kernel
theorem dX12_findFar_115 : decode cX12_findFar 115 = .ok (.aload_n 0, 1) := by decide +kernel
theorem dX12_findFar_116 : decode cX12_findFar 116 = .ok (.getfield 52, 3) := by decide +kernel
theorem dX12_findFar_119 : decode cX12_findFar 119 = .ok (.iload_n 3, 1) := by decide +kernel
theorem dX12_findFar_120 : decode cX12_findFar 120 = .ok (.iaload, 1) := by decide +kernel
theorem dX12_findFar_121 : decode cX12_findFar 121 = .ok (.if_icmp .ge 18, 3) := by decide +kernel
theorem dX12_findFar_124 : decode cX12_findFar 124 = .ok (.aload_n 0, 1) := by decide +kernel
theorem dX12_findFar_125 : decode cX12_findFar 125 = .ok (.getfield 52, 3) := by decide +kernel
theorem dX12_findFar_128 : decode cX12_findFar 128 = .ok (.iload_n 3, 1) := by decide +kernel
theorem dX12_findFar_129 : decode cX12_findFar 129 = .ok (.aload_n 0, 1) := by decide +kernel
theorem dX12_findFar_130 : decode cX12_findFar 130 = .ok (.getfield 52, 3) := by decide +kernel
theorem dX12_findFar_133 : decode cX12_findFar 133 = .ok (.iload 4, 2) := by decide +kernel
theorem dX12_findFar_135 : decode cX12_findFar 135 = .ok (.iaload, 1) := by decide +kernel
theorem dX12_findFar_136 : decode cX12_findFar 136 = .ok (.iconst 1, 1) := by decide +kernel
theorem dX12_findFar_137 : decode cX12_findFar 137 = .ok (.iadd, 1) := by decide +kernel
theorem dX12_findFar_138 : decode cX12_findFar 138 = .ok (.iastore, 1) := by decide +kernel
theorem dX12_findFar_139 : decode cX12_findFar 139 = .ok (.iinc 4 1, 3) := by decide +kernel
theorem dX12_findFar_142 : decode cX12_findFar 142 = .ok (.goto (-83), 3) := by decide +kernel
theorem dX12_findFar_145 : decode cX12_findFar 145 = .ok (.iinc 3 1, 3) := by decide +kernel
theorem dX12_findFar_148 : decode cX12_findFar 148 = .ok (.goto (-102), 3) := by decide +kernel
theorem dX12_findFar_151 : decode cX12_findFar 151 = .ok (.iinc 2 1, 3) := by decide +kernel
theorem dX12_findFar_154 : decode cX12_findFar 154 = .ok (.goto (-120), 3) := by decide +kernel
theorem dX12_findFar_157 : decode cX12_findFar 157 = .ok (.return_, 1) := by decide +kernel
theorem dX12_row_0 : decode cX12_row 0 = .ok (.aload_n 0, 1) := by decide +kernel
theorem dX12_row_1 : decode cX12_row 1 = .ok (.iload_n 1, 1) := by decide +kernel
theorem dX12_row_2 : decode cX12_row 2 = .ok (.invokevirtual 80, 3) := by decide +kernel
theorem dX12_row_5 : decode cX12_row 5 = .ok (.ifCond .eq 16, 3) := by decide +kernel
theorem dX12_row_8 : decode cX12_row 8 = .ok (.aload_n 0, 1) := by decide +kernel
theorem dX12_row_9 : decode cX12_row 9 = .ok (.iload_n 2, 1) := by decide +kernel
theorem dX12_row_10 : decode cX12_row 10 = .ok (.invokevirtual 80, 3) := by decide +kernel
theorem dX12_row_13 : decode cX12_row 13 = .ok (.ifCond .eq 8, 3) := by decide +kernel
theorem dX12_row_16 : decode cX12_row 16 = .ok (.iload_n 3, 1) := by decide +kernel
theorem dX12_row_17 : decode cX12_row 17 = .ok (.iconst (-1), 1) := by decide +kernel
theorem dX12_row_18 : decode cX12_row 18 = .ok (.if_icmp .ge 5, 3) := by decide +kernel
theorem dX12_row_21 : decode cX12_row 21 = .ok (.iconst (-1), 1) := by decide +kernel
theorem dX12_row_22 : decode cX12_row 22 = .ok (.ireturn, 1) := by decide +kernel
theorem dX12_row_23 : decode cX12_row 23 = .ok (.aload_n 0, 1) := by decide +kernel
theorem dX12_row_24 : decode cX12_row 24 = .ok (.iload_n 2, 1) := by decide +kernel
theorem dX12_row_25 : decode cX12_row 25 = .ok (.invokevirtual 321, 3) := by decide +kernel
theorem dX12_row_28 : decode cX12_row 28 = .ok (.aload_n 0, 1) := by decide +kernel
theorem dX12_row_29 : decode cX12_row 29 = .ok (.getfield 52, 3) := by decide +kernel
theorem dX12_row_32 : decode cX12_row 32 = .ok (.iload_n 1, 1) := by decide +kernel
theorem dX12_row_33 : decode cX12_row 33 = .ok (.iaload, 1) := by decide +kernel
theorem dX12_row_34 : decode cX12_row 34 = .ok (.ldc_w 311, 3) := by decide +kernel
theorem dX12_row_37 : decode cX12_row 37 = .ok (.if_icmp .ge 13, 3) := by decide +kernel
theorem dX12_row_40 : decode cX12_row 40 = .ok (.iload_n 3, 1) := by decide +kernel
theorem dX12_row_41 : decode cX12_row 41 = .ok (.aload_n 0, 1) := by decide +kernel
theorem dX12_row_42 : decode cX12_row 42 = .ok (.getfield 52, 3) := by decide +kernel
theorem dX12_row_45 : decode cX12_row 45 = .ok (.iload_n 1, 1) := by decide +kernel
theorem dX12_row_46 : decode cX12_row 46 = .ok (.iaload, 1) := by decide +kernel
theorem dX12_row_47 : decode cX12_row 47 = .ok (.if_icmp .lt 5, 3) := by decide +kernel
theorem dX12_row_50 : decode cX12_row 50 = .ok (.iconst (-1), 1) := by decide +kernel
theorem dX12_row_51 : decode cX12_row 51 = .ok (.ireturn, 1) := by decide +kernel
theorem dX12_row_52 : decode cX12_row 52 = .ok (.iload_n 3, 1) := by decide +kernel
theorem dX12_row_53 : decode cX12_row 53 = .ok (.iconst (-1), 1) := by decide +kernel
theorem dX12_row_54 : decode cX12_row 54 = .ok (.if_icmp .ne 10, 3) := by decide +kernel
theorem dX12_row_57 : decode cX12_row 57 = .ok (.aload_n 0, 1) := by decide +kernel
theorem dX12_row_58 : decode cX12_row 58 = .ok (.getfield 52, 3) := by decide +kernel
theorem dX12_row_61 : decode cX12_row 61 = .ok (.iload_n 1, 1) := by decide +kernel
theorem dX12_row_62 : decode cX12_row 62 = .ok (.iaload, 1) := by decide +kernel
theorem dX12_row_63 : decode cX12_row 63 = .ok (.ireturn, 1) := by decide +kernel
theorem dX12_row_64 : decode cX12_row 64 = .ok (.iload_n 1, 1) := by decide +kernel
theorem dX12_row_65 : decode cX12_row 65 = .ok (.istore 4, 2) := by decide +kernel
theorem dX12_row_67 : decode cX12_row 67 = .ok (.iconst 0, 1) := by decide +kernel
theorem dX12_row_68 : decode cX12_row 68 = .ok (.istore 5, 2) := by decide +kernel
theorem dX12_row_70 : decode cX12_row 70 = .ok (.iload 5, 2) := by decide +kernel
theorem dX12_row_72 : decode cX12_row 72 = .ok (.iload_n 3, 1) := by decide +kernel
theorem dX12_row_73 : decode cX12_row 73 = .ok (.if_icmp .ge 61, 3) := by decide +kernel
theorem dX12_row_76 : decode cX12_row 76 = .ok (.iconst 0, 1) := by decide +kernel
theorem dX12_row_77 : decode cX12_row 77 = .ok (.istore 6, 2) := by decide +kernel
theorem dX12_row_79 : decode cX12_row 79 = .ok (.aload_n 0, 1) := by decide +kernel
theorem dX12_row_80 : decode cX12_row 80 = .ok (.getfield 7, 3) := by decide +kernel
theorem dX12_row_83 : decode cX12_row 83 = .ok (.iload 4, 2) := by decide +kernel
theorem dX12_row_85 : decode cX12_row 85 = .ok (.invokestatic 77, 3) := by decide +kernel
theorem dX12_row_88 : decode cX12_row 88 = .ok (.iconst 2, 1) := by decide +kernel
theorem dX12_row_89 : decode cX12_row 89 = .ok (.iadd, 1) := by decide +kernel
theorem dX12_row_90 : decode cX12_row 90 = .ok (.iaload, 1) := by decide +kernel
theorem dX12_row_91 : decode cX12_row 91 = .ok (.iload 6, 2) := by decide +kernel
theorem dX12_row_93 : decode cX12_row 93 = .ok (.invokestatic 249, 3) := by decide +kernel
theorem dX12_row_96 : decode cX12_row 96 = .ok (.ifCond .eq 22, 3) := by decide +kernel
theorem dX12_row_99 : decode cX12_row 99 = .ok (.aload_n 0, 1) := by decide +kernel
theorem dX12_row_100 : decode cX12_row 100 = .ok (.getfield 52, 3) := by decide +kernel
theorem dX12_row_103 : decode cX12_row 103 = .ok (.iload 6, 2) := by decide +kernel
theorem dX12_row_105 : decode cX12_row 105 = .ok (.iaload, 1) := by decide +kernel
theorem dX12_row_106 : decode cX12_row 106 = .ok (.aload_n 0, 1) := by decide +kernel
theorem dX12_row_107 : decode cX12_row 107 = .ok (.getfield 52, 3) := by decide +kernel
theorem dX12_row_110 : decode cX12_row 110 = .ok (.iload 4, 2) := by decide +kernel
theorem dX12_row_112 : decode cX12_row 112 = .ok (.iaload, 1) := by decide +kernel
theorem dX12_row_113 : decode cX12_row 113 = .ok (.iconst 1, 1) := by decide +kernel
theorem dX12_row_114 : decode cX12_row 114 = .ok (.isub, 1) := by decide +kernel
theorem dX12_row_115 : decode cX12_row 115 = .ok (.if_icmp .eq 9, 3) := by decide +kernel
theorem dX12_row_118 : decode cX12_row 118 = .ok (.iinc 6 1, 3) := by decide +kernel
theorem dX12_row_121 : decode cX12_row 121 = .ok (.goto (-42), 3) := by decide +kernel
theorem dX12_row_124 : decode cX12_row 124 = .ok (.iload 6, 2) := by decide +kernel
theorem dX12_row_126 : decode cX12_row 126 = .ok (.istore 4, 2) := by decide +kernel
theorem dX12_row_128 : decode cX12_row 128 = .ok (.iinc 5 1, 3) := by decide +kernel
theorem dX12_row_131 : decode cX12_row 131 = .ok (.goto (-61), 3) := by decide +kernel
theorem dX12_row_134 : decode cX12_row 134 = .ok (.iload 4, 2) := by decide +kernel
theorem dX12_row_136 : decode cX12_row 136 = .ok (.ireturn, 1) := by decide +kernel
theorem dX12_winter_0 : decode cX12_winter 0 = .ok (.iconst 0, 1) := by decide +kernel
theorem dX12_winter_1 : decode cX12_winter 1 = .ok (.istore_n 1, 1) := by decide +kernel
theorem dX12_winter_2 : decode cX12_winter 2 = .ok (.iconst 0, 1) := by decide +kernel
theorem dX12_winter_3 : decode cX12_winter 3 = .ok (.istore_n 2, 1) := by decide +kernel
theorem dX12_winter_4 : decode cX12_winter 4 = .ok (.iload_n 2, 1) := by decide +kernel
theorem dX12_winter_5 : decode cX12_winter 5 = .ok (.aload_n 0, 1) := by decide +kernel
theorem dX12_winter_6 : decode cX12_winter 6 = .ok (.getfield 7, 3) := by decide +kernel
theorem dX12_winter_9 : decode cX12_winter 9 = .ok (.iconst 3, 1) := by decide +kernel
theorem dX12_winter_10 : decode cX12_winter 10 = .ok (.iaload, 1) := by decide +kernel
theorem dX12_winter_11 : decode cX12_winter 11 = .ok (.if_icmp .ge 33, 3) := by decide +kernel
theorem dX12_winter_14 : decode cX12_winter 14 = .ok (.iload_n 1, 1) := by decide +kernel
theorem dX12_winter_15 : decode cX12_winter 15 = .ok (.aload_n 0, 1) := by decide +kernel
theorem dX12_winter_16 : decode cX12_winter 16 = .ok (.getfield 7, 3) := by decide +kernel
theorem dX12_winter_19 : decode cX12_winter 19 = .ok (.iload_n 2, 1) := by decide +kernel
theorem dX12_winter_20 : decode cX12_winter 20 = .ok (.invokestatic 77, 3) := by decide +kernel
theorem dX12_winter_23 : decode cX12_winter 23 = .ok (.iconst 1, 1) := by decide +kernel
theorem dX12_winter_24 : decode cX12_winter 24 = .ok (.iadd, 1) := by decide +kernel
theorem dX12_winter_25 : decode cX12_winter 25 = .ok (.iaload, 1) := by decide +kernel
theorem dX12_winter_26 : decode cX12_winter 26 = .ok (.ifCond .eq 9, 3) := by decide +kernel
theorem dX12_winter_29 : decode cX12_winter 29 = .ok (.iconst 1, 1) := by decide +kernel
theorem dX12_winter_30 : decode cX12_winter 30 = .ok (.iload_n 2, 1) := by decide +kernel
theorem dX12_winter_31 : decode cX12_winter 31 = .ok (.ishl, 1) := by decide +kernel
theorem dX12_winter_32 : decode cX12_winter 32 = .ok (.goto 4, 3) := by decide +kernel
theorem dX12_winter_35 : decode cX12_winter 35 = .ok (.iconst 0, 1) := by decide +kernel
theorem dX12_winter_36 : decode cX12_winter 36 = .ok (.iadd, 1) := by decide +kernel
theorem dX12_winter_37 : decode cX12_winter 37 = .ok (.istore_n 1, 1) := by decide +kernel
theorem dX12_winter_38 : decode cX12_winter 38 = .ok (.iinc 2 1, 3) := by decide +kernel
theorem dX12_winter_41 : decode cX12_winter 41 = .ok (.goto (-37), 3) := by decide +kernel
theorem dX12_winter_44 : decode cX12_winter 44 = .ok (.iconst 0, 1) := by decide +kernel
theorem dX12_winter_45 : decode cX12_winter 45 = .ok (.istore_n 2, 1) := by decide +kernel
theorem dX12_winter_46 : decode cX12_winter 46 = .ok (.iconst 0, 1) := by decide +kernel
theorem dX12_winter_47 : decode cX12_winter 47 = .ok (.istore_n 3, 1) := by decide +kernel
theorem dX12_winter_48 : decode cX12_winter 48 = .ok (.iload_n 3, 1) := by decide +kernel
theorem dX12_winter_49 : decode cX12_winter 49 = .ok (.iconst 1, 1) := by decide +kernel
theorem dX12_winter_50 : decode cX12_winter 50 = .ok (.aload_n 0, 1) := by decide +kernel
theorem dX12_winter_51 : decode cX12_winter 51 = .ok (.getfield 7, 3) := by decide +kernel
theorem dX12_winter_54 : decode cX12_winter 54 = .ok (.iconst 3, 1) := by decide +kernel
theorem dX12_winter_55 : decode cX12_winter 55 = .ok (.iaload, 1) := by decide +kernel
theorem dX12_winter_56 : decode cX12_winter 56 = .ok (.ishl, 1) := by decide +kernel
theorem dX12_winter_57 : decode cX12_winter 57 = .ok (.if_icmp .ge 149, 3) := by decide +kernel
theorem dX12_winter_60 : decode cX12_winter 60 = .ok (.iconst 0, 1) := by decide +kernel
theorem dX12_winter_61 : decode cX12_winter 61 = .ok (.istore 4, 2) := by decide +kernel
theorem dX12_winter_63 : decode cX12_winter 63 = .ok (.aload_n 0, 1) := by decide +kernel
theorem dX12_winter_64 : decode cX12_winter 64 = .ok (.getfield 55, 3) := by decide +kernel
theorem dX12_winter_67 : decode cX12_winter 67 = .ok (.iload_n 3, 1) := by decide +kernel
theorem dX12_winter_68 : decode cX12_winter 68 = .ok (.iconst 0, 1) := by decide +kernel
theorem dX12_winter_69 : decode cX12_winter 69 = .ok (.iastore, 1) := by decide +kernel
theorem dX12_winter_70 : decode cX12_winter 70 = .ok (.iconst 0, 1) := by decide +kernel
theorem dX12_winter_71 : decode cX12_winter 71 = .ok (.istore 5, 2) := by decide +kernel
theorem dX12_winter_73 : decode cX12_winter 73 = .ok (.iload 5, 2) := by decide +kernel
theorem dX12_winter_75 : decode cX12_winter 75 = .ok (.aload_n 0, 1) := by decide +kernel
theorem dX12_winter_76 : decode cX12_winter 76 = .ok (.getfield 7, 3) := by decide +kernel
theorem dX12_winter_79 : decode cX12_winter 79 = .ok (.iconst 3, 1) := by decide +kernel
theorem dX12_winter_80 : decode cX12_winter 80 = .ok (.iaload, 1) := by decide +kernel
theorem dX12_winter_81 : decode cX12_winter 81 = .ok (.if_icmp .ge 79, 3) := by decide +kernel
theorem dX12_winter_84 : decode cX12_winter 84 = .ok (.iload_n 3, 1) := by decide +kernel
theorem dX12_winter_85 : decode cX12_winter 85 = .ok (.iload 5, 2) := by decide +kernel
theorem dX12_winter_87 : decode cX12_winter 87 = .ok (.invokestatic 249, 3) := by decide +kernel
theorem dX12_winter_90 : decode cX12_winter 90 = .ok (.ifCond .ne 6, 3) := by decide +kernel
theorem dX12_winter_93 : decode cX12_winter 93 = .ok (.goto 61, 3) := by decide +kernel
theorem dX12_winter_96 : decode cX12_winter 96 = .ok (.iload 4, 2) := by decide +kernel
theorem dX12_winter_98 : decode cX12_winter 98 = .ok (.aload_n 0, 1) := by decide +kernel
theorem dX12_winter_99 : decode cX12_winter 99 = .ok (.getfield 7, 3) := by decide +kernel
theorem dX12_winter_102 : decode cX12_winter 102 = .ok (.iload 5, 2) := by decide +kernel
theorem dX12_winter_104 : decode cX12_winter 104 = .ok (.invokestatic 77, 3) := by decide +kernel
theorem dX12_winter_107 : decode cX12_winter 107 = .ok (.iconst 1, 1) := by decide +kernel
theorem dX12_winter_108 : decode cX12_winter 108 = .ok (.iadd, 1) := by decide +kernel
theorem dX12_winter_109 : decode cX12_winter 109 = .ok (.iaload, 1) := by decide +kernel
theorem dX12_winter_110 : decode cX12_winter 110 = .ok (.iadd, 1) := by decide +kernel
theorem dX12_winter_111 : decode cX12_winter 111 = .ok (.istore 4, 2) := by decide +kernel
theorem dX12_winter_113 : decode cX12_winter 113 = .ok (.aload_n 0, 1) := by decide +kernel
theorem dX12_winter_114 : decode cX12_winter 114 = .ok (.getfield 55, 3) := by decide +kernel
theorem dX12_winter_117 : decode cX12_winter 117 = .ok (.iload_n 3, 1) := by decide +kernel
theorem dX12_winter_118 : decode cX12_winter 118 = .ok (.iconst 1, 1) := by decide +kernel
theorem dX12_winter_119 : decode cX12_winter 119 = .ok (.iload 5, 2) := by decide +kernel
theorem dX12_winter_121 : decode cX12_winter 121 = .ok (.ishl, 1) := by decide +kernel
theorem dX12_winter_122 : decode cX12_winter 122 = .ok (.iconst (-1), 1) := by decide +kernel
theorem dX12_winter_123 : decode cX12_winter 123 = .ok (.ixor, 1) := by decide +kernel
theorem dX12_winter_124 : decode cX12_winter 124 = .ok (.iand, 1) := by decide +kernel
theorem dX12_winter_125 : decode cX12_winter 125 = .ok (.iaload, 1) := by decide +kernel
theorem dX12_winter_126 : decode cX12_winter 126 = .ok (.aload_n 0, 1) := by decide +kernel
theorem dX12_winter_127 : decode cX12_winter 127 = .ok (.getfield 55, 3) := by decide +kernel
theorem dX12_winter_130 : decode cX12_winter 130 = .ok (.iload_n 3, 1) := by decide +kernel
theorem dX12_winter_131 : decode cX12_winter 131 = .ok (.iaload, 1) := by decide +kernel
theorem dX12_winter_132 : decode cX12_winter 132 = .ok (.if_icmp .le 22, 3) := by decide +kernel
theorem dX12_winter_135 : decode cX12_winter 135 = .ok (.aload_n 0, 1) := by decide +kernel
theorem dX12_winter_136 : decode cX12_winter 136 = .ok (.getfield 55, 3) := by decide +kernel
theorem dX12_winter_139 : decode cX12_winter 139 = .ok (.iload_n 3, 1) := by decide +kernel
theorem dX12_winter_140 : decode cX12_winter 140 = .ok (.aload_n 0, 1) := by decide +kernel
theorem dX12_winter_141 : decode cX12_winter 141 = .ok (.getfield 55, 3) := by decide +kernel
theorem dX12_winter_144 : decode cX12_winter 144 = .ok (.iload_n 3, 1) := by decide +kernel
theorem dX12_winter_145 : decode cX12_winter 145 = .ok (.iconst 1, 1) := by decide +kernel
theorem dX12_winter_146 : decode cX12_winter 146 = .ok (.iload 5, 2) := by decide +kernel
theorem dX12_winter_148 : decode cX12_winter 148 = .ok (.ishl, 1) := by decide +kernel
theorem dX12_winter_149 : decode cX12_winter 149 = .ok (.iconst (-1), 1) := by decide +kernel
theorem dX12_winter_150 : decode cX12_winter 150 = .ok (.ixor, 1) := by decide +kernel
theorem dX12_winter_151 : decode cX12_winter 151 = .ok (.iand, 1) := by decide +kernel
theorem dX12_winter_152 : decode cX12_winter 152 = .ok (.iaload, 1) := by decide +kernel
theorem dX12_winter_153 : decode cX12_winter 153 = .ok (.iastore, 1) := by decide +kernel
theorem dX12_winter_154 : decode cX12_winter 154 = .ok (.iinc 5 1, 3) := by decide +kernel
theorem dX12_winter_157 : decode cX12_winter 157 = .ok (.goto (-84), 3) := by decide +kernel
theorem dX12_winter_160 : decode cX12_winter 160 = .ok (.aload_n 0, 1) := by decide +kernel
theorem dX12_winter_161 : decode cX12_winter 161 = .ok (.getfield 55, 3) := by decide +kernel
theorem dX12_winter_164 : decode cX12_winter 164 = .ok (.iload_n 3, 1) := by decide +kernel
theorem dX12_winter_165 : decode cX12_winter 165 = .ok (.dup2, 1) := by decide +kernel
theorem dX12_winter_166 : decode cX12_winter 166 = .ok (.iaload, 1) := by decide +kernel
theorem dX12_winter_167 : decode cX12_winter 167 = .ok (.iload 4, 2) := by decide +kernel
theorem dX12_winter_169 : decode cX12_winter 169 = .ok (.ifCond .ne 11, 3) := by decide +kernel
theorem dX12_winter_172 : decode cX12_winter 172 = .ok (.iload_n 3, 1) := by decide +kernel
theorem dX12_winter_173 : decode cX12_winter 173 = .ok (.ifCond .eq 7, 3) := by decide +kernel
theorem dX12_winter_176 : decode cX12_winter 176 = .ok (.iconst 1, 1) := by decide +kernel
theorem dX12_winter_177 : decode cX12_winter 177 = .ok (.goto 4, 3) := by decide +kernel
theorem dX12_winter_180 : decode cX12_winter 180 = .ok (.iconst 0, 1) := by decide +kernel
theorem dX12_winter_181 : decode cX12_winter 181 = .ok (.iadd, 1) := by decide +kernel
theorem dX12_winter_182 : decode cX12_winter 182 = .ok (.iastore, 1) := by decide +kernel
theorem dX12_winter_183 : decode cX12_winter 183 = .ok (.iload_n 3, 1) := by decide +kernel
theorem dX12_winter_184 : decode cX12_winter 184 = .ok (.iload_n 1, 1) := by decide +kernel
theorem dX12_winter_185 : decode cX12_winter 185 = .ok (.if_icmp .ne 15, 3) := by decide +kernel
theorem dX12_winter_188 : decode cX12_winter 188 = .ok (.iload_n 3, 1) := by decide +kernel
theorem dX12_winter_189 : decode cX12_winter 189 = .ok (.invokestatic 70, 3) := by decide +kernel
theorem dX12_winter_192 : decode cX12_winter 192 = .ok (.aload_n 0, 1) := by decide +kernel
theorem dX12_winter_193 : decode cX12_winter 193 = .ok (.getfield 55, 3) := by decide +kernel
theorem dX12_winter_196 : decode cX12_winter 196 = .ok (.iload_n 3, 1) := by decide +kernel
theorem dX12_winter_197 : decode cX12_winter 197 = .ok (.iaload, 1) := by decide +kernel
theorem dX12_winter_198 : decode cX12_winter 198 = .ok (.isub, 1) := by decide +kernel
theorem dX12_winter_199 : decode cX12_winter 199 = .ok (.istore_n 2, 1) := by decide +kernel
theorem dX12_winter_200 : decode cX12_winter 200 = .ok (.iinc 3 1, 3) := by decide +kernel
theorem dX12_winter_203 : decode cX12_winter 203 = .ok (.goto (-155), 3) := by decide +kernel
theorem dX12_winter_206 : decode cX12_winter 206 = .ok (.iload_n 2, 1) := by decide +kernel
theorem dX12_winter_207 : decode cX12_winter 207 = .ok (.ireturn, 1) := by decide +kernel
theorem dX12_draw_0 : decode cX12_draw 0 = .ok (.aload_n 0, 1) := by decide +kernel
theorem dX12_draw_1 : decode cX12_draw 1 = .ok (.getfield 324, 3) := by decide +kernel
theorem dX12_draw_4 : decode cX12_draw 4 = .ok (.iload_n 1, 1) := by decide +kernel
theorem dX12_draw_5 : decode cX12_draw 5 = .ok (.irem, 1) := by decide +kernel
theorem dX12_draw_6 : decode cX12_draw 6 = .ok (.istore_n 2, 1) := by decide +kernel
theorem dX12_draw_7 : decode cX12_draw 7 = .ok (.aload_n 0, 1) := by decide +kernel
theorem dX12_draw_8 : decode cX12_draw 8 = .ok (.aload_n 0, 1) := by decide +kernel
theorem dX12_draw_9 : decode cX12_draw 9 = .ok (.getfield 324, 3) := by decide +kernel
theorem dX12_draw_12 : decode cX12_draw 12 = .ok (.i2l, 1) := by decide +kernel
theorem dX12_draw_13 : decode cX12_draw 13 = .ok (.ldc2_w 327, 3) := by decide +kernel
theorem dX12_draw_16 : decode cX12_draw 16 = .ok (.lmul, 1) := by decide +kernel
theorem dX12_draw_17 : decode cX12_draw 17 = .ok (.ldc2_w 329, 3) := by decide +kernel
theorem dX12_draw_20 : decode cX12_draw 20 = .ok (.ladd, 1) := by decide +kernel
theorem dX12_draw_21 : decode cX12_draw 21 = .ok (.ldc2_w 331, 3) := by decide +kernel
theorem dX12_draw_24 : decode cX12_draw 24 = .ok (.lrem, 1) := by decide +kernel
theorem dX12_draw_25 : decode cX12_draw 25 = .ok (.l2i, 1) := by decide +kernel
theorem dX12_draw_26 : decode cX12_draw 26 = .ok (.putfield 324, 3) := by decide +kernel
theorem dX12_draw_29 : decode cX12_draw 29 = .ok (.iload_n 2, 1) := by decide +kernel
theorem dX12_draw_30 : decode cX12_draw 30 = .ok (.ireturn, 1) := by decide +kernel
theorem dX12_town_0 : decode cX12_town 0 = .ok (.iload_n 1, 1) := by decide +kernel
theorem dX12_town_1 : decode cX12_town 1 = .ok (.iconst 0, 1) := by decide +kernel
theorem dX12_town_2 : decode cX12_town 2 = .ok (.sipush 9999, 3) := by decide +kernel
theorem dX12_town_5 : decode cX12_town 5 = .ok (.invokestatic 62, 3) := by decide +kernel
theorem dX12_town_8 : decode cX12_town 8 = .ok (.ifCond .eq 22, 3) := by decide +kernel
theorem dX12_town_11 : decode cX12_town 11 = .ok (.iload_n 2, 1) := by decide +kernel
theorem dX12_town_12 : decode cX12_town 12 = .ok (.iconst 1, 1) := by decide +kernel
theorem dX12_town_13 : decode cX12_town 13 = .ok (.bipush 99, 2) := by decide +kernel
theorem dX12_town_15 : decode cX12_town 15 = .ok (.invokestatic 62, 3) := by decide +kernel
theorem dX12_town_18 : decode cX12_town 18 = .ok (.ifCond .eq 12, 3) := by decide +kernel
theorem dX12_town_21 : decode cX12_town 21 = .ok (.aload_n 0, 1) := by decide +kernel
theorem dX12_town_22 : decode cX12_town 22 = .ok (.getfield 7, 3) := by decide +kernel
theorem dX12_town_25 : decode cX12_town 25 = .ok (.iconst 3, 1) := by decide +kernel
theorem dX12_town_26 : decode cX12_town 26 = .ok (.iaload, 1) := by decide +kernel
theorem dX12_town_27 : decode cX12_town 27 = .ok (.ifCond .ne 5, 3) := by decide +kernel
theorem dX12_town_30 : decode cX12_town 30 = .ok (.iconst (-1), 1) := by decide +kernel
theorem dX12_town_31 : decode cX12_town 31 = .ok (.ireturn, 1) := by decide +kernel
theorem dX12_town_32 : decode cX12_town 32 = .ok (.aload_n 0, 1) := by decide +kernel
theorem dX12_town_33 : decode cX12_town 33 = .ok (.invokevirtual 284, 3) := by decide +kernel
theorem dX12_town_36 : decode cX12_town 36 = .ok (.aload_n 0, 1) := by decide +kernel
theorem dX12_town_37 : decode cX12_town 37 = .ok (.iload_n 1, 1) := by decide +kernel
theorem dX12_town_38 : decode cX12_town 38 = .ok (.bipush 9, 2) := by decide +kernel
theorem dX12_town_40 : decode cX12_town 40 = .ok (.imul, 1) := by decide +kernel
theorem dX12_town_41 : decode cX12_town 41 = .ok (.iconst 4, 1) := by decide +kernel
theorem dX12_town_42 : decode cX12_town 42 = .ok (.iadd, 1) := by decide +kernel
theorem dX12_town_43 : decode cX12_town 43 = .ok (.putfield 324, 3) := by decide +kernel
theorem dX12_town_46 : decode cX12_town 46 = .ok (.iconst 0, 1) := by decide +kernel
theorem dX12_town_47 : decode cX12_town 47 = .ok (.istore_n 3, 1) := by decide +kernel
theorem dX12_town_48 : decode cX12_town 48 = .ok (.iconst 0, 1) := by decide +kernel
theorem dX12_town_49 : decode cX12_town 49 = .ok (.istore 4, 2) := by decide +kernel
theorem dX12_town_51 : decode cX12_town 51 = .ok (.iload 4, 2) := by decide +kernel
theorem dX12_town_53 : decode cX12_town 53 = .ok (.iload_n 2, 1) := by decide +kernel
theorem dX12_town_54 : decode cX12_town 54 = .ok (.if_icmp .ge 143, 3) := by decide +kernel
theorem dX12_town_57 : decode cX12_town 57 = .ok (.aload_n 0, 1) := by decide +kernel
theorem dX12_town_58 : decode cX12_town 58 = .ok (.aload_n 0, 1) := by decide +kernel
theorem dX12_town_59 : decode cX12_town 59 = .ok (.getfield 7, 3) := by decide +kernel
theorem dX12_town_62 : decode cX12_town 62 = .ok (.iconst 3, 1) := by decide +kernel
theorem dX12_town_63 : decode cX12_town 63 = .ok (.iaload, 1) := by decide +kernel
theorem dX12_town_64 : decode cX12_town 64 = .ok (.invokevirtual 333, 3) := by decide +kernel
theorem dX12_town_67 : decode cX12_town 67 = .ok (.istore 5, 2) := by decide +kernel
theorem dX12_town_69 : decode cX12_town 69 = .ok (.aload_n 0, 1) := by decide +kernel
theorem dX12_town_70 : decode cX12_town 70 = .ok (.getfield 7, 3) := by decide +kernel
theorem dX12_town_73 : decode cX12_town 73 = .ok (.iload 5, 2) := by decide +kernel
theorem dX12_town_75 : decode cX12_town 75 = .ok (.invokestatic 77, 3) := by decide +kernel
theorem dX12_town_78 : decode cX12_town 78 = .ok (.iconst 2, 1) := by decide +kernel
theorem dX12_town_79 : decode cX12_town 79 = .ok (.iadd, 1) := by decide +kernel
theorem dX12_town_80 : decode cX12_town 80 = .ok (.iaload, 1) := by decide +kernel
theorem dX12_town_81 : decode cX12_town 81 = .ok (.invokestatic 70, 3) := by decide +kernel
theorem dX12_town_84 : decode cX12_town 84 = .ok (.istore 6, 2) := by decide +kernel
theorem dX12_town_86 : decode cX12_town 86 = .ok (.iload 6, 2) := by decide +kernel
theorem dX12_town_88 : decode cX12_town 88 = .ok (.ifCond .ne 6, 3) := by decide +kernel
theorem dX12_town_91 : decode cX12_town 91 = .ok (.goto 100, 3) := by decide +kernel
theorem dX12_town_94 : decode cX12_town 94 = .ok (.aload_n 0, 1) := by decide +kernel
theorem dX12_town_95 : decode cX12_town 95 = .ok (.iload 6, 2) := by decide +kernel
theorem dX12_town_97 : decode cX12_town 97 = .ok (.invokevirtual 333, 3) := by decide +kernel
theorem dX12_town_100 : decode cX12_town 100 = .ok (.istore 7, 2) := by decide +kernel
theorem dX12_town_102 : decode cX12_town 102 = .ok (.iconst 0, 1) := by decide +kernel
theorem dX12_town_103 : decode cX12_town 103 = .ok (.istore 8, 2) := by decide +kernel
theorem dX12_town_105 : decode cX12_town 105 = .ok (.aload_n 0, 1) := by decide +kernel
theorem dX12_town_106 : decode cX12_town 106 = .ok (.getfield 7, 3) := by decide +kernel
theorem dX12_town_109 : decode cX12_town 109 = .ok (.iload 5, 2) := by decide +kernel
theorem dX12_town_111 : decode cX12_town 111 = .ok (.invokestatic 77, 3) := by decide +kernel
theorem dX12_town_114 : decode cX12_town 114 = .ok (.iconst 2, 1) := by decide +kernel
theorem dX12_town_115 : decode cX12_town 115 = .ok (.iadd, 1) := by decide +kernel
theorem dX12_town_116 : decode cX12_town 116 = .ok (.iaload, 1) := by decide +kernel
theorem dX12_town_117 : decode cX12_town 117 = .ok (.iload 8, 2) := by decide +kernel
theorem dX12_town_119 : decode cX12_town 119 = .ok (.invokestatic 249, 3) := by decide +kernel
theorem dX12_town_122 : decode cX12_town 122 = .ok (.ifCond .eq 8, 3) := by decide +kernel
theorem dX12_town_125 : decode cX12_town 125 = .ok (.iload 7, 2) := by decide +kernel
theorem dX12_town_127 : decode cX12_town 127 = .ok (.ifCond .le 39, 3) := by decide +kernel
theorem dX12_town_130 : decode cX12_town 130 = .ok (.iload 7, 2) := by decide +kernel
theorem dX12_town_132 : decode cX12_town 132 = .ok (.aload_n 0, 1) := by decide +kernel
theorem dX12_town_133 : decode cX12_town 133 = .ok (.getfield 7, 3) := by decide +kernel
theorem dX12_town_136 : decode cX12_town 136 = .ok (.iload 5, 2) := by decide +kernel
theorem dX12_town_138 : decode cX12_town 138 = .ok (.invokestatic 77, 3) := by decide +kernel
theorem dX12_town_141 : decode cX12_town 141 = .ok (.iconst 2, 1) := by decide +kernel
theorem dX12_town_142 : decode cX12_town 142 = .ok (.iadd, 1) := by decide +kernel
theorem dX12_town_143 : decode cX12_town 143 = .ok (.iaload, 1) := by decide +kernel
theorem dX12_town_144 : decode cX12_town 144 = .ok (.iload 8, 2) := by decide +kernel
theorem dX12_town_146 : decode cX12_town 146 = .ok (.invokestatic 249, 3) := by decide +kernel
theorem dX12_town_149 : decode cX12_town 149 = .ok (.ifCond .eq 7, 3) := by decide +kernel
theorem dX12_town_152 : decode cX12_town 152 = .ok (.iconst 1, 1) := by decide +kernel
theorem dX12_town_153 : decode cX12_town 153 = .ok (.goto 4, 3) := by decide +kernel
theorem dX12_town_156 : decode cX12_town 156 = .ok (.iconst 0, 1) := by decide +kernel
theorem dX12_town_157 : decode cX12_town 157 = .ok (.isub, 1) := by decide +kernel
theorem dX12_town_158 : decode cX12_town 158 = .ok (.istore 7, 2) := by decide +kernel
theorem dX12_town_160 : decode cX12_town 160 = .ok (.iinc 8 1, 3) := by decide +kernel
theorem dX12_town_163 : decode cX12_town 163 = .ok (.goto (-58), 3) := by decide +kernel
theorem dX12_town_166 : decode cX12_town 166 = .ok (.aload_n 0, 1) := by decide +kernel
theorem dX12_town_167 : decode cX12_town 167 = .ok (.iload 5, 2) := by decide +kernel
theorem dX12_town_169 : decode cX12_town 169 = .ok (.iload 8, 2) := by decide +kernel
theorem dX12_town_171 : decode cX12_town 171 = .ok (.invokevirtual 287, 3) := by decide +kernel
theorem dX12_town_174 : decode cX12_town 174 = .ok (.ifCond .ne 6, 3) := by decide +kernel
theorem dX12_town_177 : decode cX12_town 177 = .ok (.goto 14, 3) := by decide +kernel
theorem dX12_town_180 : decode cX12_town 180 = .ok (.aload_n 0, 1) := by decide +kernel
theorem dX12_town_181 : decode cX12_town 181 = .ok (.iload 5, 2) := by decide +kernel
theorem dX12_town_183 : decode cX12_town 183 = .ok (.iload 8, 2) := by decide +kernel
theorem dX12_town_185 : decode cX12_town 185 = .ok (.invokevirtual 290, 3) := by decide +kernel
theorem dX12_town_188 : decode cX12_town 188 = .ok (.iinc 3 1, 3) := by decide +kernel
theorem dX12_town_191 : decode cX12_town 191 = .ok (.iinc 4 1, 3) := by decide +kernel
theorem dX12_town_194 : decode cX12_town 194 = .ok (.goto (-143), 3) := by decide +kernel
theorem dX12_town_197 : decode cX12_town 197 = .ok (.iload_n 3, 1) := by decide +kernel
theorem dX12_town_198 : decode cX12_town 198 = .ok (.ireturn, 1) := by decide +kernel
theorem dX12_image_0 : decode cX12_image 0 = .ok (.aload_n 0, 1) := by decide +kernel
theorem dX12_image_1 : decode cX12_image 1 = .ok (.getfield 7, 3) := by decide +kernel
theorem dX12_image_4 : decode cX12_image 4 = .ok (.aload_n 0, 1) := by decide +kernel
theorem dX12_image_5 : decode cX12_image 5 = .ok (.getfield 13, 3) := by decide +kernel
theorem dX12_image_8 : decode cX12_image 8 = .ok (.invokestatic 58, 3) := by decide +kernel
theorem dX12_image_11 : decode cX12_image 11 = .ok (.aload_n 0, 1) := by decide +kernel
theorem dX12_image_12 : decode cX12_image 12 = .ok (.getfield 7, 3) := by decide +kernel
theorem dX12_image_15 : decode cX12_image 15 = .ok (.iconst 1, 1) := by decide +kernel
theorem dX12_image_16 : decode cX12_image 16 = .ok (.iaload, 1) := by decide +kernel
theorem dX12_image_17 : decode cX12_image 17 = .ok (.invokestatic 70, 3) := by decide +kernel
theorem dX12_image_20 : decode cX12_image 20 = .ok (.ireturn, 1) := by decide +kernel
theorem dX12_back_0 : decode cX12_back 0 = .ok (.aload_n 0, 1) := by decide +kernel
theorem dX12_back_1 : decode cX12_back 1 = .ok (.getfield 13, 3) := by decide +kernel
theorem dX12_back_4 : decode cX12_back 4 = .ok (.aload_n 0, 1) := by decide +kernel
theorem dX12_back_5 : decode cX12_back 5 = .ok (.getfield 7, 3) := by decide +kernel
theorem dX12_back_8 : decode cX12_back 8 = .ok (.invokestatic 58, 3) := by decide +kernel
theorem dX12_back_11 : decode cX12_back 11 = .ok (.aload_n 0, 1) := by decide +kernel
theorem dX12_back_12 : decode cX12_back 12 = .ok (.getfield 7, 3) := by decide +kernel
theorem dX12_back_15 : decode cX12_back 15 = .ok (.iconst 1, 1) := by decide +kernel
theorem dX12_back_16 : decode cX12_back 16 = .ok (.iaload, 1) := by decide +kernel
theorem dX12_back_17 : decode cX12_back 17 = .ok (.invokestatic 70, 3) := by decide +kernel
theorem dX12_back_20 : decode cX12_back 20 = .ok (.ireturn, 1) := by decide +kernel
theorem dX12_about_0 : decode cX12_about 0 = .ok (.iload_n 1, 1) := by decide +kernel
theorem dX12_about_1 : decode cX12_about 1 = .ok (.bipush 10, 2) := by decide +kernel
theorem dX12_about_3 : decode cX12_about 3 = .ok (.bipush 9, 2) := by decide +kernel
theorem dX12_about_5 : decode cX12_about 5 = .ok (.aload_n 0, 1) := by decide +kernel
theorem dX12_about_6 : decode cX12_about 6 = .ok (.getfield 7, 3) := by decide +kernel
theorem dX12_about_9 : decode cX12_about 9 = .ok (.iconst 0, 1) := by decide +kernel
theorem dX12_about_10 : decode cX12_about 10 = .ok (.iaload, 1) := by decide +kernel
theorem dX12_about_11 : decode cX12_about 11 = .ok (.iadd, 1) := by decide +kernel
theorem dX12_about_12 : decode cX12_about 12 = .ok (.invokestatic 62, 3) := by decide +kernel
theorem dX12_about_15 : decode cX12_about 15 = .ok (.ifCond .eq 18, 3) := by decide +kernel
theorem dX12_about_18 : decode cX12_about 18 = .ok (.aload_n 0, 1) := by decide +kernel
theorem dX12_about_19 : decode cX12_about 19 = .ok (.getfield 7, 3) := by decide +kernel
theorem dX12_about_22 : decode cX12_about 22 = .ok (.iload_n 1, 1) := by decide +kernel
theorem dX12_about_23 : decode cX12_about 23 = .ok (.bipush 10, 2) := by decide +kernel
theorem dX12_about_25 : decode cX12_about 25 = .ok (.isub, 1) := by decide +kernel
theorem dX12_about_26 : decode cX12_about 26 = .ok (.invokestatic 74, 3) := by decide +kernel
theorem dX12_about_29 : decode cX12_about 29 = .ok (.iconst 3, 1) := by decide +kernel
theorem dX12_about_30 : decode cX12_about 30 = .ok (.iadd, 1) := by decide +kernel
theorem dX12_about_31 : decode cX12_about 31 = .ok (.iaload, 1) := by decide +kernel
theorem dX12_about_32 : decode cX12_about 32 = .ok (.ireturn, 1) := by decide +kernel
theorem dX12_about_33 : decode cX12_about 33 = .ok (.iload_n 1, 1) := by decide +kernel
theorem dX12_about_34 : decode cX12_about 34 = .ok (.bipush 30, 2) := by decide +kernel
theorem dX12_about_36 : decode cX12_about 36 = .ok (.bipush 29, 2) := by decide +kernel
theorem dX12_about_38 : decode cX12_about 38 = .ok (.aload_n 0, 1) := by decide +kernel
theorem dX12_about_39 : decode cX12_about 39 = .ok (.getfield 7, 3) := by decide +kernel
theorem dX12_about_42 : decode cX12_about 42 = .ok (.iconst 0, 1) := by decide +kernel
theorem dX12_about_43 : decode cX12_about 43 = .ok (.iaload, 1) := by decide +kernel
theorem dX12_about_44 : decode cX12_about 44 = .ok (.iadd, 1) := by decide +kernel
theorem dX12_about_45 : decode cX12_about 45 = .ok (.invokestatic 62, 3) := by decide +kernel
theorem dX12_about_48 : decode cX12_about 48 = .ok (.ifCond .eq 18, 3) := by decide +kernel
theorem dX12_about_51 : decode cX12_about 51 = .ok (.aload_n 0, 1) := by decide +kernel
theorem dX12_about_52 : decode cX12_about 52 = .ok (.getfield 7, 3) := by decide +kernel
theorem dX12_about_55 : decode cX12_about 55 = .ok (.iload_n 1, 1) := by decide +kernel
theorem dX12_about_56 : decode cX12_about 56 = .ok (.bipush 30, 2) := by decide +kernel
theorem dX12_about_58 : decode cX12_about 58 = .ok (.isub, 1) := by decide +kernel
theorem dX12_about_59 : decode cX12_about 59 = .ok (.invokestatic 74, 3) := by decide +kernel
theorem dX12_about_62 : decode cX12_about 62 = .ok (.iconst 4, 1) := by decide +kernel
theorem dX12_about_63 : decode cX12_about 63 = .ok (.iadd, 1) := by decide +kernel
theorem dX12_about_64 : decode cX12_about 64 = .ok (.iaload, 1) := by decide +kernel
theorem dX12_about_65 : decode cX12_about 65 = .ok (.ireturn, 1) := by decide +kernel
theorem dX12_about_66 : decode cX12_about 66 = .ok (.iload_n 1, 1) := by decide +kernel
theorem dX12_about_67 : decode cX12_about 67 = .ok (.tableswitch 61 0 8 #[49, 49, 49, 49, 49, 49, 49, 49, 56], 49) := by decide +kernel
theorem dX12_about_116 : decode cX12_about 116 = .ok (.aload_n 0, 1) := by decide +kernel
theorem dX12_about_117 : decode cX12_about 117 = .ok (.getfield 7, 3) := by decide +kernel
theorem dX12_about_120 : decode cX12_about 120 = .ok (.iload_n 1, 1) := by decide +kernel
theorem dX12_about_121 : decode cX12_about 121 = .ok (.iaload, 1) := by decide +kernel
theorem dX12_about_122 : decode cX12_about 122 = .ok (.ireturn, 1) := by decide +kernel
theorem dX12_about_123 : decode cX12_about 123 = .ok (.aload_n 0, 1) := by decide +kernel
theorem dX12_about_124 : decode cX12_about 124 = .ok (.getfield 88, 3) := by decide +kernel
theorem dX12_about_127 : decode cX12_about 127 = .ok (.ireturn, 1) := by decide +kernel
theorem dX12_about_128 : decode cX12_about 128 = .ok (.bipush (-2), 2) := by decide +kernel
theorem dX12_about_130 : decode cX12_about 130 = .ok (.ireturn, 1) := by decide +kernel
theorem dJ11_isValidCodePoint_9a6ad_0 : decode cJ11_isValidCodePoint_9a6ad 0 = .ok (.iload_n 0, 1) := by decide +kernel
theorem dJ11_isValidCodePoint_9a6ad_1 : decode cJ11_isValidCodePoint_9a6ad 1 = .ok (.bipush 16, 2) := by decide +kernel
theorem dJ11_isValidCodePoint_9a6ad_3 : decode cJ11_isValidCodePoint_9a6ad 3 = .ok (.iushr, 1) := by decide +kernel
theorem dJ11_isValidCodePoint_9a6ad_4 : decode cJ11_isValidCodePoint_9a6ad 4 = .ok (.istore_n 1, 1) := by decide +kernel
theorem dJ11_isValidCodePoint_9a6ad_5 : decode cJ11_isValidCodePoint_9a6ad 5 = .ok (.iload_n 1, 1) := by decide +kernel
theorem dJ11_isValidCodePoint_9a6ad_6 : decode cJ11_isValidCodePoint_9a6ad 6 = .ok (.bipush 17, 2) := by decide +kernel
theorem dJ11_isValidCodePoint_9a6ad_8 : decode cJ11_isValidCodePoint_9a6ad 8 = .ok (.if_icmp .ge 7, 3) := by decide +kernel
theorem dJ11_isValidCodePoint_9a6ad_11 : decode cJ11_isValidCodePoint_9a6ad 11 = .ok (.iconst 1, 1) := by decide +kernel
theorem dJ11_isValidCodePoint_9a6ad_12 : decode cJ11_isValidCodePoint_9a6ad 12 = .ok (.goto 4, 3) := by decide +kernel
theorem dJ11_isValidCodePoint_9a6ad_15 : decode cJ11_isValidCodePoint_9a6ad 15 = .ok (.iconst 0, 1) := by decide +kernel
theorem dJ11_isValidCodePoint_9a6ad_16 : decode cJ11_isValidCodePoint_9a6ad 16 = .ok (.ireturn, 1) := by decide +kernel
theorem dJ11_highSurrogate_5068e_0 : decode cJ11_highSurrogate_5068e 0 = .ok (.iload_n 0, 1) := by decide +kernel
theorem dJ11_highSurrogate_5068e_1 : decode cJ11_highSurrogate_5068e 1 = .ok (.bipush 10, 2) := by decide +kernel
theorem dJ11_highSurrogate_5068e_3 : decode cJ11_highSurrogate_5068e 3 = .ok (.iushr, 1) := by decide +kernel
theorem dJ11_highSurrogate_5068e_4 : decode cJ11_highSurrogate_5068e 4 = .ok (.ldc 110, 2) := by decide +kernel
theorem dJ11_highSurrogate_5068e_6 : decode cJ11_highSurrogate_5068e 6 = .ok (.iadd, 1) := by decide +kernel
theorem dJ11_highSurrogate_5068e_7 : decode cJ11_highSurrogate_5068e 7 = .ok (.i2c, 1) := by decide +kernel
theorem dJ11_highSurrogate_5068e_8 : decode cJ11_highSurrogate_5068e 8 = .ok (.ireturn, 1) := by decide +kernel
theorem dJ11_lowSurrogate_5068e_0 : decode cJ11_lowSurrogate_5068e 0 = .ok (.iload_n 0, 1) := by decide +kernel
theorem dJ11_lowSurrogate_5068e_1 : decode cJ11_lowSurrogate_5068e 1 = .ok (.sipush 1023, 3) := by decide +kernel
theorem dJ11_lowSurrogate_5068e_4 : decode cJ11_lowSurrogate_5068e 4 = .ok (.iand, 1) := by decide +kernel
theorem dJ11_lowSurrogate_5068e_5 : decode cJ11_lowSurrogate_5068e 5 = .ok (.ldc 76, 2) := by decide +kernel
theorem dJ11_lowSurrogate_5068e_7 : decode cJ11_lowSurrogate_5068e 7 = .ok (.iadd, 1) := by decide +kernel
theorem dJ11_lowSurrogate_5068e_8 : decode cJ11_lowSurrogate_5068e 8 = .ok (.i2c, 1) := by decide +kernel
theorem dJ11_lowSurrogate_5068e_9 : decode cJ11_lowSurrogate_5068e 9 = .ok (.ireturn, 1) := by decide +kernel
theorem dJ6_numberOfTrailingZeros_0f7a4_0 : decode cJ6_numberOfTrailingZeros_0f7a4 0 = .ok (.iload_n 0, 1) := by decide +kernel
theorem dJ6_numberOfTrailingZeros_0f7a4_1 : decode cJ6_numberOfTrailingZeros_0f7a4 1 = .ok (.iconst (-1), 1) := by decide +kernel
theorem dJ6_numberOfTrailingZeros_0f7a4_2 : decode cJ6_numberOfTrailingZeros_0f7a4 2 = .ok (.ixor, 1) := by decide +kernel
theorem dJ6_numberOfTrailingZeros_0f7a4_3 : decode cJ6_numberOfTrailingZeros_0f7a4 3 = .ok (.iload_n 0, 1) := by decide +kernel
theorem dJ6_numberOfTrailingZeros_0f7a4_4 : decode cJ6_numberOfTrailingZeros_0f7a4 4 = .ok (.iconst 1, 1) := by decide +kernel
theorem dJ6_numberOfTrailingZeros_0f7a4_5 : decode cJ6_numberOfTrailingZeros_0f7a4 5 = .ok (.isub, 1) := by decide +kernel
theorem dJ6_numberOfTrailingZeros_0f7a4_6 : decode cJ6_numberOfTrailingZeros_0f7a4 6 = .ok (.iand, 1) := by decide +kernel
theorem dJ6_numberOfTrailingZeros_0f7a4_7 : decode cJ6_numberOfTrailingZeros_0f7a4 7 = .ok (.istore_n 0, 1) := by decide +kernel
theorem dJ6_numberOfTrailingZeros_0f7a4_8 : decode cJ6_numberOfTrailingZeros_0f7a4 8 = .ok (.iload_n 0, 1) := by decide +kernel
theorem dJ6_numberOfTrailingZeros_0f7a4_9 : decode cJ6_numberOfTrailingZeros_0f7a4 9 = .ok (.ifCond .gt 8, 3) := by decide +kernel
theorem dJ6_numberOfTrailingZeros_0f7a4_12 : decode cJ6_numberOfTrailingZeros_0f7a4 12 = .ok (.iload_n 0, 1) := by decide +kernel
theorem dJ6_numberOfTrailingZeros_0f7a4_13 : decode cJ6_numberOfTrailingZeros_0f7a4 13 = .ok (.bipush 32, 2) := by decide +kernel
theorem dJ6_numberOfTrailingZeros_0f7a4_15 : decode cJ6_numberOfTrailingZeros_0f7a4 15 = .ok (.iand, 1) := by decide +kernel
theorem dJ6_numberOfTrailingZeros_0f7a4_16 : decode cJ6_numberOfTrailingZeros_0f7a4 16 = .ok (.ireturn, 1) := by decide +kernel
theorem dJ6_numberOfTrailingZeros_0f7a4_17 : decode cJ6_numberOfTrailingZeros_0f7a4 17 = .ok (.iconst 1, 1) := by decide +kernel
theorem dJ6_numberOfTrailingZeros_0f7a4_18 : decode cJ6_numberOfTrailingZeros_0f7a4 18 = .ok (.istore_n 1, 1) := by decide +kernel
theorem dJ6_numberOfTrailingZeros_0f7a4_19 : decode cJ6_numberOfTrailingZeros_0f7a4 19 = .ok (.iload_n 0, 1) := by decide +kernel
theorem dJ6_numberOfTrailingZeros_0f7a4_20 : decode cJ6_numberOfTrailingZeros_0f7a4 20 = .ok (.ldc_w 264, 3) := by decide +kernel
theorem dJ6_numberOfTrailingZeros_0f7a4_23 : decode cJ6_numberOfTrailingZeros_0f7a4 23 = .ok (.if_icmp .le 11, 3) := by decide +kernel
theorem dJ6_numberOfTrailingZeros_0f7a4_26 : decode cJ6_numberOfTrailingZeros_0f7a4 26 = .ok (.iinc 1 16, 3) := by decide +kernel
theorem dJ6_numberOfTrailingZeros_0f7a4_29 : decode cJ6_numberOfTrailingZeros_0f7a4 29 = .ok (.iload_n 0, 1) := by decide +kernel
theorem dJ6_numberOfTrailingZeros_0f7a4_30 : decode cJ6_numberOfTrailingZeros_0f7a4 30 = .ok (.bipush 16, 2) := by decide +kernel
theorem dJ6_numberOfTrailingZeros_0f7a4_32 : decode cJ6_numberOfTrailingZeros_0f7a4 32 = .ok (.iushr, 1) := by decide +kernel
theorem dJ6_numberOfTrailingZeros_0f7a4_33 : decode cJ6_numberOfTrailingZeros_0f7a4 33 = .ok (.istore_n 0, 1) := by decide +kernel
theorem dJ6_numberOfTrailingZeros_0f7a4_34 : decode cJ6_numberOfTrailingZeros_0f7a4 34 = .ok (.iload_n 0, 1) := by decide +kernel
theorem dJ6_numberOfTrailingZeros_0f7a4_35 : decode cJ6_numberOfTrailingZeros_0f7a4 35 = .ok (.sipush 256, 3) := by decide +kernel
theorem dJ6_numberOfTrailingZeros_0f7a4_38 : decode cJ6_numberOfTrailingZeros_0f7a4 38 = .ok (.if_icmp .le 11, 3) := by decide +kernel
theorem dJ6_numberOfTrailingZeros_0f7a4_41 : decode cJ6_numberOfTrailingZeros_0f7a4 41 = .ok (.iinc 1 8, 3) := by decide +kernel
theorem dJ6_numberOfTrailingZeros_0f7a4_44 : decode cJ6_numberOfTrailingZeros_0f7a4 44 = .ok (.iload_n 0, 1) := by decide +kernel
theorem dJ6_numberOfTrailingZeros_0f7a4_45 : decode cJ6_numberOfTrailingZeros_0f7a4 45 = .ok (.bipush 8, 2) := by decide +kernel
theorem dJ6_numberOfTrailingZeros_0f7a4_47 : decode cJ6_numberOfTrailingZeros_0f7a4 47 = .ok (.iushr, 1) := by decide +kernel
theorem dJ6_numberOfTrailingZeros_0f7a4_48 : decode cJ6_numberOfTrailingZeros_0f7a4 48 = .ok (.istore_n 0, 1) := by decide +kernel
theorem dJ6_numberOfTrailingZeros_0f7a4_49 : decode cJ6_numberOfTrailingZeros_0f7a4 49 = .ok (.iload_n 0, 1) := by decide +kernel
theorem dJ6_numberOfTrailingZeros_0f7a4_50 : decode cJ6_numberOfTrailingZeros_0f7a4 50 = .ok (.bipush 16, 2) := by decide +kernel
theorem dJ6_numberOfTrailingZeros_0f7a4_52 : decode cJ6_numberOfTrailingZeros_0f7a4 52 = .ok (.if_icmp .le 10, 3) := by decide +kernel
theorem dJ6_numberOfTrailingZeros_0f7a4_55 : decode cJ6_numberOfTrailingZeros_0f7a4 55 = .ok (.iinc 1 4, 3) := by decide +kernel
theorem dJ6_numberOfTrailingZeros_0f7a4_58 : decode cJ6_numberOfTrailingZeros_0f7a4 58 = .ok (.iload_n 0, 1) := by decide +kernel
theorem dJ6_numberOfTrailingZeros_0f7a4_59 : decode cJ6_numberOfTrailingZeros_0f7a4 59 = .ok (.iconst 4, 1) := by decide +kernel
theorem dJ6_numberOfTrailingZeros_0f7a4_60 : decode cJ6_numberOfTrailingZeros_0f7a4 60 = .ok (.iushr, 1) := by decide +kernel
theorem dJ6_numberOfTrailingZeros_0f7a4_61 : decode cJ6_numberOfTrailingZeros_0f7a4 61 = .ok (.istore_n 0, 1) := by decide +kernel
theorem dJ6_numberOfTrailingZeros_0f7a4_62 : decode cJ6_numberOfTrailingZeros_0f7a4 62 = .ok (.iload_n 0, 1) := by decide +kernel
theorem dJ6_numberOfTrailingZeros_0f7a4_63 : decode cJ6_numberOfTrailingZeros_0f7a4 63 = .ok (.iconst 4, 1) := by decide +kernel
theorem dJ6_numberOfTrailingZeros_0f7a4_64 : decode cJ6_numberOfTrailingZeros_0f7a4 64 = .ok (.if_icmp .le 10, 3) := by decide +kernel
theorem dJ6_numberOfTrailingZeros_0f7a4_67 : decode cJ6_numberOfTrailingZeros_0f7a4 67 = .ok (.iinc 1 2, 3) := by decide +kernel
theorem dJ6_numberOfTrailingZeros_0f7a4_70 : decode cJ6_numberOfTrailingZeros_0f7a4 70 = .ok (.iload_n 0, 1) := by decide +kernel
theorem dJ6_numberOfTrailingZeros_0f7a4_71 : decode cJ6_numberOfTrailingZeros_0f7a4 71 = .ok (.iconst 2, 1) := by decide +kernel
theorem dJ6_numberOfTrailingZeros_0f7a4_72 : decode cJ6_numberOfTrailingZeros_0f7a4 72 = .ok (.iushr, 1) := by decide +kernel
theorem dJ6_numberOfTrailingZeros_0f7a4_73 : decode cJ6_numberOfTrailingZeros_0f7a4 73 = .ok (.istore_n 0, 1) := by decide +kernel
theorem dJ6_numberOfTrailingZeros_0f7a4_74 : decode cJ6_numberOfTrailingZeros_0f7a4 74 = .ok (.iload_n 1, 1) := by decide +kernel
theorem dJ6_numberOfTrailingZeros_0f7a4_75 : decode cJ6_numberOfTrailingZeros_0f7a4 75 = .ok (.iload_n 0, 1) := by decide +kernel
theorem dJ6_numberOfTrailingZeros_0f7a4_76 : decode cJ6_numberOfTrailingZeros_0f7a4 76 = .ok (.iconst 1, 1) := by decide +kernel
theorem dJ6_numberOfTrailingZeros_0f7a4_77 : decode cJ6_numberOfTrailingZeros_0f7a4 77 = .ok (.iushr, 1) := by decide +kernel
theorem dJ6_numberOfTrailingZeros_0f7a4_78 : decode cJ6_numberOfTrailingZeros_0f7a4 78 = .ok (.iadd, 1) := by decide +kernel
theorem dJ6_numberOfTrailingZeros_0f7a4_79 : decode cJ6_numberOfTrailingZeros_0f7a4 79 = .ok (.ireturn, 1) := by decide +kernel
theorem dJ6_bitCount_0f7a4_0 : decode cJ6_bitCount_0f7a4 0 = .ok (.iload_n 0, 1) := by decide +kernel
theorem dJ6_bitCount_0f7a4_1 : decode cJ6_bitCount_0f7a4 1 = .ok (.iload_n 0, 1) := by decide +kernel
theorem dJ6_bitCount_0f7a4_2 : decode cJ6_bitCount_0f7a4 2 = .ok (.iconst 1, 1) := by decide +kernel
theorem dJ6_bitCount_0f7a4_3 : decode cJ6_bitCount_0f7a4 3 = .ok (.iushr, 1) := by decide +kernel
theorem dJ6_bitCount_0f7a4_4 : decode cJ6_bitCount_0f7a4 4 = .ok (.ldc_w 265, 3) := by decide +kernel
theorem dJ6_bitCount_0f7a4_7 : decode cJ6_bitCount_0f7a4 7 = .ok (.iand, 1) := by decide +kernel
theorem dJ6_bitCount_0f7a4_8 : decode cJ6_bitCount_0f7a4 8 = .ok (.isub, 1) := by decide +kernel
theorem dJ6_bitCount_0f7a4_9 : decode cJ6_bitCount_0f7a4 9 = .ok (.istore_n 0, 1) := by decide +kernel
theorem dJ6_bitCount_0f7a4_10 : decode cJ6_bitCount_0f7a4 10 = .ok (.iload_n 0, 1) := by decide +kernel
theorem dJ6_bitCount_0f7a4_11 : decode cJ6_bitCount_0f7a4 11 = .ok (.ldc_w 266, 3) := by decide +kernel
theorem dJ6_bitCount_0f7a4_14 : decode cJ6_bitCount_0f7a4 14 = .ok (.iand, 1) := by decide +kernel
theorem dJ6_bitCount_0f7a4_15 : decode cJ6_bitCount_0f7a4 15 = .ok (.iload_n 0, 1) := by decide +kernel
theorem dJ6_bitCount_0f7a4_16 : decode cJ6_bitCount_0f7a4 16 = .ok (.iconst 2, 1) := by decide +kernel
theorem dJ6_bitCount_0f7a4_17 : decode cJ6_bitCount_0f7a4 17 = .ok (.iushr, 1) := by decide +kernel
theorem dJ6_bitCount_0f7a4_18 : decode cJ6_bitCount_0f7a4 18 = .ok (.ldc_w 266, 3) := by decide +kernel
theorem dJ6_bitCount_0f7a4_21 : decode cJ6_bitCount_0f7a4 21 = .ok (.iand, 1) := by decide +kernel
theorem dJ6_bitCount_0f7a4_22 : decode cJ6_bitCount_0f7a4 22 = .ok (.iadd, 1) := by decide +kernel
theorem dJ6_bitCount_0f7a4_23 : decode cJ6_bitCount_0f7a4 23 = .ok (.istore_n 0, 1) := by decide +kernel
theorem dJ6_bitCount_0f7a4_24 : decode cJ6_bitCount_0f7a4 24 = .ok (.iload_n 0, 1) := by decide +kernel
theorem dJ6_bitCount_0f7a4_25 : decode cJ6_bitCount_0f7a4 25 = .ok (.iload_n 0, 1) := by decide +kernel
theorem dJ6_bitCount_0f7a4_26 : decode cJ6_bitCount_0f7a4 26 = .ok (.iconst 4, 1) := by decide +kernel
theorem dJ6_bitCount_0f7a4_27 : decode cJ6_bitCount_0f7a4 27 = .ok (.iushr, 1) := by decide +kernel
theorem dJ6_bitCount_0f7a4_28 : decode cJ6_bitCount_0f7a4 28 = .ok (.iadd, 1) := by decide +kernel
theorem dJ6_bitCount_0f7a4_29 : decode cJ6_bitCount_0f7a4 29 = .ok (.ldc_w 267, 3) := by decide +kernel
theorem dJ6_bitCount_0f7a4_32 : decode cJ6_bitCount_0f7a4 32 = .ok (.iand, 1) := by decide +kernel
theorem dJ6_bitCount_0f7a4_33 : decode cJ6_bitCount_0f7a4 33 = .ok (.istore_n 0, 1) := by decide +kernel
theorem dJ6_bitCount_0f7a4_34 : decode cJ6_bitCount_0f7a4 34 = .ok (.iload_n 0, 1) := by decide +kernel
theorem dJ6_bitCount_0f7a4_35 : decode cJ6_bitCount_0f7a4 35 = .ok (.iload_n 0, 1) := by decide +kernel
theorem dJ6_bitCount_0f7a4_36 : decode cJ6_bitCount_0f7a4 36 = .ok (.bipush 8, 2) := by decide +kernel
theorem dJ6_bitCount_0f7a4_38 : decode cJ6_bitCount_0f7a4 38 = .ok (.iushr, 1) := by decide +kernel
theorem dJ6_bitCount_0f7a4_39 : decode cJ6_bitCount_0f7a4 39 = .ok (.iadd, 1) := by decide +kernel
theorem dJ6_bitCount_0f7a4_40 : decode cJ6_bitCount_0f7a4 40 = .ok (.istore_n 0, 1) := by decide +kernel
theorem dJ6_bitCount_0f7a4_41 : decode cJ6_bitCount_0f7a4 41 = .ok (.iload_n 0, 1) := by decide +kernel
theorem dJ6_bitCount_0f7a4_42 : decode cJ6_bitCount_0f7a4 42 = .ok (.iload_n 0, 1) := by decide +kernel
theorem dJ6_bitCount_0f7a4_43 : decode cJ6_bitCount_0f7a4 43 = .ok (.bipush 16, 2) := by decide +kernel
theorem dJ6_bitCount_0f7a4_45 : decode cJ6_bitCount_0f7a4 45 = .ok (.iushr, 1) := by decide +kernel
theorem dJ6_bitCount_0f7a4_46 : decode cJ6_bitCount_0f7a4 46 = .ok (.iadd, 1) := by decide +kernel
theorem dJ6_bitCount_0f7a4_47 : decode cJ6_bitCount_0f7a4 47 = .ok (.istore_n 0, 1) := by decide +kernel
theorem dJ6_bitCount_0f7a4_48 : decode cJ6_bitCount_0f7a4 48 = .ok (.iload_n 0, 1) := by decide +kernel
theorem dJ6_bitCount_0f7a4_49 : decode cJ6_bitCount_0f7a4 49 = .ok (.bipush 63, 2) := by decide +kernel
theorem dJ6_bitCount_0f7a4_51 : decode cJ6_bitCount_0f7a4 51 = .ok (.iand, 1) := by decide +kernel
theorem dJ6_bitCount_0f7a4_52 : decode cJ6_bitCount_0f7a4 52 = .ok (.ireturn, 1) := by decide +kernel
theorem dJ9_max_7cf53_0 : decode cJ9_max_7cf53 0 = .ok (.iload_n 0, 1) := by decide +kernel
theorem dJ9_max_7cf53_1 : decode cJ9_max_7cf53 1 = .ok (.iload_n 1, 1) := by decide +kernel
theorem dJ9_max_7cf53_2 : decode cJ9_max_7cf53 2 = .ok (.if_icmp .lt 7, 3) := by decide +kernel
theorem dJ9_max_7cf53_5 : decode cJ9_max_7cf53 5 = .ok (.iload_n 0, 1) := by decide +kernel
theorem dJ9_max_7cf53_6 : decode cJ9_max_7cf53 6 = .ok (.goto 4, 3) := by decide +kernel
theorem dJ9_max_7cf53_9 : decode cJ9_max_7cf53 9 = .ok (.iload_n 1, 1) := by decide +kernel
theorem dJ9_max_7cf53_10 : decode cJ9_max_7cf53 10 = .ok (.ireturn, 1) := by decide +kernel
theorem dJ9_max_f86c9_0 : decode cJ9_max_f86c9 0 = .ok (.lload_n 0, 1) := by decide +kernel
theorem dJ9_max_f86c9_1 : decode cJ9_max_f86c9 1 = .ok (.lload_n 2, 1) := by decide +kernel
theorem dJ9_max_f86c9_2 : decode cJ9_max_f86c9 2 = .ok (.lcmp, 1) := by decide +kernel
theorem dJ9_max_f86c9_3 : decode cJ9_max_f86c9 3 = .ok (.ifCond .lt 7, 3) := by decide +kernel
theorem dJ9_max_f86c9_6 : decode cJ9_max_f86c9 6 = .ok (.lload_n 0, 1) := by decide +kernel
theorem dJ9_max_f86c9_7 : decode cJ9_max_f86c9 7 = .ok (.goto 4, 3) := by decide +kernel
theorem dJ9_max_f86c9_10 : decode cJ9_max_f86c9 10 = .ok (.lload_n 2, 1) := by decide +kernel
theorem dJ9_max_f86c9_11 : decode cJ9_max_f86c9 11 = .ok (.lreturn, 1) := by decide +kernel
theorem dJ9_min_7cf53_0 : decode cJ9_min_7cf53 0 = .ok (.iload_n 0, 1) := by decide +kernel
theorem dJ9_min_7cf53_1 : decode cJ9_min_7cf53 1 = .ok (.iload_n 1, 1) := by decide +kernel
theorem dJ9_min_7cf53_2 : decode cJ9_min_7cf53 2 = .ok (.if_icmp .gt 7, 3) := by decide +kernel
theorem dJ9_min_7cf53_5 : decode cJ9_min_7cf53 5 = .ok (.iload_n 0, 1) := by decide +kernel
theorem dJ9_min_7cf53_6 : decode cJ9_min_7cf53 6 = .ok (.goto 4, 3) := by decide +kernel
theorem dJ9_min_7cf53_9 : decode cJ9_min_7cf53 9 = .ok (.iload_n 1, 1) := by decide +kernel
theorem dJ9_min_7cf53_10 : decode cJ9_min_7cf53 10 = .ok (.ireturn, 1) := by decide +kernel
theorem dJ9_min_f86c9_0 : decode cJ9_min_f86c9 0 = .ok (.lload_n 0, 1) := by decide +kernel
