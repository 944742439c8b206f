theorem dX12_text_32 : decode cX12_text 32 = .ok (.aload_n 0, 1) := by decide +kernel
theorem dX12_text_33 : decode cX12_text 33 = .ok (.getfield 101, 3) := by decide +kernel
theorem dX12_text_36 : decode cX12_text 36 = .ok (.putfield 26, 3) := by decide +kernel
theorem dX12_text_39 : decode cX12_text 39 = .ok (.aload_n 0, 1) := by decide +kernel
theorem dX12_text_40 : decode cX12_text 40 = .ok (.iconst 0, 1) := by decide +kernel
theorem dX12_text_41 : decode cX12_text 41 = .ok (.putfield 88, 3) := by decide +kernel
theorem dX12_text_44 : decode cX12_text 44 = .ok (.aload_n 0, 1) := by decide +kernel
theorem dX12_text_45 : decode cX12_text 45 = .ok (.getfield 22, 3) := by decide +kernel
theorem dX12_text_48 : decode cX12_text 48 = .ok (.ifCond .eq 5, 3) := by decide +kernel
theorem dX12_text_51 : decode cX12_text 51 = .ok (.iconst (-1), 1) := by decide +kernel
theorem dX12_text_52 : decode cX12_text 52 = .ok (.ireturn, 1) := by decide +kernel
theorem dX12_text_53 : decode cX12_text 53 = .ok (.aload_n 0, 1) := by decide +kernel
theorem dX12_text_54 : decode cX12_text 54 = .ok (.getfield 7, 3) := by decide +kernel
theorem dX12_text_57 : decode cX12_text 57 = .ok (.iconst 4, 1) := by decide +kernel
theorem dX12_text_58 : decode cX12_text 58 = .ok (.dup2, 1) := by decide +kernel
theorem dX12_text_59 : decode cX12_text 59 = .ok (.iaload, 1) := by decide +kernel
theorem dX12_text_60 : decode cX12_text 60 = .ok (.iconst 1, 1) := by decide +kernel
theorem dX12_text_61 : decode cX12_text 61 = .ok (.iadd, 1) := by decide +kernel
theorem dX12_text_62 : decode cX12_text 62 = .ok (.iastore, 1) := by decide +kernel
theorem dX12_text_63 : decode cX12_text 63 = .ok (.aload_n 0, 1) := by decide +kernel
theorem dX12_text_64 : decode cX12_text 64 = .ok (.getfield 7, 3) := by decide +kernel
theorem dX12_text_67 : decode cX12_text 67 = .ok (.iconst 4, 1) := by decide +kernel
theorem dX12_text_68 : decode cX12_text 68 = .ok (.iaload, 1) := by decide +kernel
theorem dX12_text_69 : decode cX12_text 69 = .ok (.iconst 1, 1) := by decide +kernel
theorem dX12_text_70 : decode cX12_text 70 = .ok (.isub, 1) := by decide +kernel
theorem dX12_text_71 : decode cX12_text 71 = .ok (.ireturn, 1) := by decide +kernel
theorem dX12_fault_0 : decode cX12_fault 0 = .ok (.iload_n 1, 1) := by decide +kernel
theorem dX12_fault_1 : decode cX12_fault 1 = .ok (.ifCond .ne 10, 3) := by decide +kernel
theorem dX12_fault_4 : decode cX12_fault 4 = .ok (.aload_n 0, 1) := by decide +kernel
theorem dX12_fault_5 : decode cX12_fault 5 = .ok (.getfield 22, 3) := by decide +kernel
theorem dX12_fault_8 : decode cX12_fault 8 = .ok (.goto 16, 3) := by decide +kernel
theorem dX12_fault_11 : decode cX12_fault 11 = .ok (.iload_n 1, 1) := by decide +kernel
theorem dX12_fault_12 : decode cX12_fault 12 = .ok (.iconst 1, 1) := by decide +kernel
theorem dX12_fault_13 : decode cX12_fault 13 = .ok (.if_icmp .ne 10, 3) := by decide +kernel
theorem dX12_fault_16 : decode cX12_fault 16 = .ok (.aload_n 0, 1) := by decide +kernel
theorem dX12_fault_17 : decode cX12_fault 17 = .ok (.getfield 26, 3) := by decide +kernel
theorem dX12_fault_20 : decode cX12_fault 20 = .ok (.goto 4, 3) := by decide +kernel
theorem dX12_fault_23 : decode cX12_fault 23 = .ok (.iconst (-1), 1) := by decide +kernel
theorem dX12_fault_24 : decode cX12_fault 24 = .ok (.ireturn, 1) := by decide +kernel
theorem dX12_by_0 : decode cX12_by 0 = .ok (.iload_n 1, 1) := by decide +kernel
theorem dX12_by_1 : decode cX12_by 1 = .ok (.iconst (-1), 1) := by decide +kernel
theorem dX12_by_2 : decode cX12_by 2 = .ok (.aload_n 0, 1) := by decide +kernel
theorem dX12_by_3 : decode cX12_by 3 = .ok (.getfield 7, 3) := by decide +kernel
theorem dX12_by_6 : decode cX12_by 6 = .ok (.iconst 4, 1) := by decide +kernel
theorem dX12_by_7 : decode cX12_by 7 = .ok (.iaload, 1) := by decide +kernel
theorem dX12_by_8 : decode cX12_by 8 = .ok (.iconst 1, 1) := by decide +kernel
theorem dX12_by_9 : decode cX12_by 9 = .ok (.isub, 1) := by decide +kernel
theorem dX12_by_10 : decode cX12_by 10 = .ok (.invokestatic 62, 3) := by decide +kernel
theorem dX12_by_13 : decode cX12_by 13 = .ok (.ifCond .ne 5, 3) := by decide +kernel
theorem dX12_by_16 : decode cX12_by 16 = .ok (.iconst 0, 1) := by decide +kernel
theorem dX12_by_17 : decode cX12_by 17 = .ok (.ireturn, 1) := by decide +kernel
theorem dX12_by_18 : decode cX12_by 18 = .ok (.aload_n 0, 1) := by decide +kernel
theorem dX12_by_19 : decode cX12_by 19 = .ok (.getfield 7, 3) := by decide +kernel
theorem dX12_by_22 : decode cX12_by 22 = .ok (.iconst 5, 1) := by decide +kernel
theorem dX12_by_23 : decode cX12_by 23 = .ok (.iload_n 1, 1) := by decide +kernel
theorem dX12_by_24 : decode cX12_by 24 = .ok (.iastore, 1) := by decide +kernel
theorem dX12_by_25 : decode cX12_by 25 = .ok (.iconst 1, 1) := by decide +kernel
theorem dX12_by_26 : decode cX12_by 26 = .ok (.ireturn, 1) := by decide +kernel
theorem dX12_clip_0 : decode cX12_clip 0 = .ok (.lload_n 0, 1) := by decide +kernel
theorem dX12_clip_1 : decode cX12_clip 1 = .ok (.ldc2_w 230, 3) := by decide +kernel
theorem dX12_clip_4 : decode cX12_clip 4 = .ok (.lcmp, 1) := by decide +kernel
theorem dX12_clip_5 : decode cX12_clip 5 = .ok (.ifCond .le 9, 3) := by decide +kernel
theorem dX12_clip_8 : decode cX12_clip 8 = .ok (.ldc2_w 230, 3) := by decide +kernel
theorem dX12_clip_11 : decode cX12_clip 11 = .ok (.goto 18, 3) := by decide +kernel
theorem dX12_clip_14 : decode cX12_clip 14 = .ok (.lload_n 0, 1) := by decide +kernel
theorem dX12_clip_15 : decode cX12_clip 15 = .ok (.ldc2_w 232, 3) := by decide +kernel
theorem dX12_clip_18 : decode cX12_clip 18 = .ok (.lcmp, 1) := by decide +kernel
theorem dX12_clip_19 : decode cX12_clip 19 = .ok (.ifCond .ge 9, 3) := by decide +kernel
theorem dX12_clip_22 : decode cX12_clip 22 = .ok (.ldc2_w 232, 3) := by decide +kernel
theorem dX12_clip_25 : decode cX12_clip 25 = .ok (.goto 4, 3) := by decide +kernel
theorem dX12_clip_28 : decode cX12_clip 28 = .ok (.lload_n 0, 1) := by decide +kernel
theorem dX12_clip_29 : decode cX12_clip 29 = .ok (.lreturn, 1) := by decide +kernel
theorem dX12_two_0 : decode cX12_two 0 = .ok (.iload_n 0, 1) := by decide +kernel
theorem dX12_two_1 : decode cX12_two 1 = .ok (.tableswitch 48 3 5 #[27, 34, 41], 27) := by decide +kernel
theorem dX12_two_28 : decode cX12_two 28 = .ok (.lload_n 1, 1) := by decide +kernel
theorem dX12_two_29 : decode cX12_two 29 = .ok (.lload_n 3, 1) := by decide +kernel
theorem dX12_two_30 : decode cX12_two 30 = .ok (.ladd, 1) := by decide +kernel
theorem dX12_two_31 : decode cX12_two 31 = .ok (.invokestatic 234, 3) := by decide +kernel
theorem dX12_two_34 : decode cX12_two 34 = .ok (.lreturn, 1) := by decide +kernel
theorem dX12_two_35 : decode cX12_two 35 = .ok (.lload_n 1, 1) := by decide +kernel
theorem dX12_two_36 : decode cX12_two 36 = .ok (.lload_n 3, 1) := by decide +kernel
theorem dX12_two_37 : decode cX12_two 37 = .ok (.lsub, 1) := by decide +kernel
theorem dX12_two_38 : decode cX12_two 38 = .ok (.invokestatic 234, 3) := by decide +kernel
theorem dX12_two_41 : decode cX12_two 41 = .ok (.lreturn, 1) := by decide +kernel
theorem dX12_two_42 : decode cX12_two 42 = .ok (.lload_n 1, 1) := by decide +kernel
theorem dX12_two_43 : decode cX12_two 43 = .ok (.lload_n 3, 1) := by decide +kernel
theorem dX12_two_44 : decode cX12_two 44 = .ok (.lmul, 1) := by decide +kernel
theorem dX12_two_45 : decode cX12_two 45 = .ok (.invokestatic 234, 3) := by decide +kernel
theorem dX12_two_48 : decode cX12_two 48 = .ok (.lreturn, 1) := by decide +kernel
theorem dX12_two_49 : decode cX12_two 49 = .ok (.lload_n 3, 1) := by decide +kernel
theorem dX12_two_50 : decode cX12_two 50 = .ok (.lconst 0, 1) := by decide +kernel
theorem dX12_two_51 : decode cX12_two 51 = .ok (.lcmp, 1) := by decide +kernel
theorem dX12_two_52 : decode cX12_two 52 = .ok (.ifCond .ne 7, 3) := by decide +kernel
theorem dX12_two_55 : decode cX12_two 55 = .ok (.lconst 0, 1) := by decide +kernel
theorem dX12_two_56 : decode cX12_two 56 = .ok (.goto 9, 3) := by decide +kernel
theorem dX12_two_59 : decode cX12_two 59 = .ok (.lload_n 1, 1) := by decide +kernel
theorem dX12_two_60 : decode cX12_two 60 = .ok (.lload_n 3, 1) := by decide +kernel
theorem dX12_two_61 : decode cX12_two 61 = .ok (.ldiv, 1) := by decide +kernel
theorem dX12_two_62 : decode cX12_two 62 = .ok (.invokestatic 234, 3) := by decide +kernel
theorem dX12_two_65 : decode cX12_two 65 = .ok (.lreturn, 1) := by decide +kernel
theorem dX12_isAsked_0 : decode cX12_isAsked 0 = .ok (.iload_n 0, 1) := by decide +kernel
theorem dX12_isAsked_1 : decode cX12_isAsked 1 = .ok (.bipush 10, 2) := by decide +kernel
theorem dX12_isAsked_3 : decode cX12_isAsked 3 = .ok (.if_icmp .ne 17, 3) := by decide +kernel
theorem dX12_isAsked_6 : decode cX12_isAsked 6 = .ok (.lload_n 1, 1) := by decide +kernel
theorem dX12_isAsked_7 : decode cX12_isAsked 7 = .ok (.lload_n 3, 1) := by decide +kernel
theorem dX12_isAsked_8 : decode cX12_isAsked 8 = .ok (.lcmp, 1) := by decide +kernel
theorem dX12_isAsked_9 : decode cX12_isAsked 9 = .ok (.ifCond .ge 7, 3) := by decide +kernel
theorem dX12_isAsked_12 : decode cX12_isAsked 12 = .ok (.iconst 1, 1) := by decide +kernel
theorem dX12_isAsked_13 : decode cX12_isAsked 13 = .ok (.goto 98, 3) := by decide +kernel
theorem dX12_isAsked_16 : decode cX12_isAsked 16 = .ok (.iconst 0, 1) := by decide +kernel
theorem dX12_isAsked_17 : decode cX12_isAsked 17 = .ok (.goto 94, 3) := by decide +kernel
theorem dX12_isAsked_20 : decode cX12_isAsked 20 = .ok (.iload_n 0, 1) := by decide +kernel
theorem dX12_isAsked_21 : decode cX12_isAsked 21 = .ok (.bipush 11, 2) := by decide +kernel
theorem dX12_isAsked_23 : decode cX12_isAsked 23 = .ok (.if_icmp .ne 17, 3) := by decide +kernel
theorem dX12_isAsked_26 : decode cX12_isAsked 26 = .ok (.lload_n 1, 1) := by decide +kernel
theorem dX12_isAsked_27 : decode cX12_isAsked 27 = .ok (.lload_n 3, 1) := by decide +kernel
theorem dX12_isAsked_28 : decode cX12_isAsked 28 = .ok (.lcmp, 1) := by decide +kernel
theorem dX12_isAsked_29 : decode cX12_isAsked 29 = .ok (.ifCond .gt 7, 3) := by decide +kernel
theorem dX12_isAsked_32 : decode cX12_isAsked 32 = .ok (.iconst 1, 1) := by decide +kernel
theorem dX12_isAsked_33 : decode cX12_isAsked 33 = .ok (.goto 78, 3) := by decide +kernel
theorem dX12_isAsked_36 : decode cX12_isAsked 36 = .ok (.iconst 0, 1) := by decide +kernel
theorem dX12_isAsked_37 : decode cX12_isAsked 37 = .ok (.goto 74, 3) := by decide +kernel
theorem dX12_isAsked_40 : decode cX12_isAsked 40 = .ok (.iload_n 0, 1) := by decide +kernel
theorem dX12_isAsked_41 : decode cX12_isAsked 41 = .ok (.bipush 12, 2) := by decide +kernel
theorem dX12_isAsked_43 : decode cX12_isAsked 43 = .ok (.if_icmp .ne 17, 3) := by decide +kernel
theorem dX12_isAsked_46 : decode cX12_isAsked 46 = .ok (.lload_n 1, 1) := by decide +kernel
theorem dX12_isAsked_47 : decode cX12_isAsked 47 = .ok (.lload_n 3, 1) := by decide +kernel
theorem dX12_isAsked_48 : decode cX12_isAsked 48 = .ok (.lcmp, 1) := by decide +kernel
theorem dX12_isAsked_49 : decode cX12_isAsked 49 = .ok (.ifCond .le 7, 3) := by decide +kernel
theorem dX12_isAsked_52 : decode cX12_isAsked 52 = .ok (.iconst 1, 1) := by decide +kernel
theorem dX12_isAsked_53 : decode cX12_isAsked 53 = .ok (.goto 58, 3) := by decide +kernel
theorem dX12_isAsked_56 : decode cX12_isAsked 56 = .ok (.iconst 0, 1) := by decide +kernel
theorem dX12_isAsked_57 : decode cX12_isAsked 57 = .ok (.goto 54, 3) := by decide +kernel
theorem dX12_isAsked_60 : decode cX12_isAsked 60 = .ok (.iload_n 0, 1) := by decide +kernel
theorem dX12_isAsked_61 : decode cX12_isAsked 61 = .ok (.bipush 13, 2) := by decide +kernel
theorem dX12_isAsked_63 : decode cX12_isAsked 63 = .ok (.if_icmp .ne 17, 3) := by decide +kernel
theorem dX12_isAsked_66 : decode cX12_isAsked 66 = .ok (.lload_n 1, 1) := by decide +kernel
theorem dX12_isAsked_67 : decode cX12_isAsked 67 = .ok (.lload_n 3, 1) := by decide +kernel
theorem dX12_isAsked_68 : decode cX12_isAsked 68 = .ok (.lcmp, 1) := by decide +kernel
theorem dX12_isAsked_69 : decode cX12_isAsked 69 = .ok (.ifCond .lt 7, 3) := by decide +kernel
theorem dX12_isAsked_72 : decode cX12_isAsked 72 = .ok (.iconst 1, 1) := by decide +kernel
theorem dX12_isAsked_73 : decode cX12_isAsked 73 = .ok (.goto 38, 3) := by decide +kernel
theorem dX12_isAsked_76 : decode cX12_isAsked 76 = .ok (.iconst 0, 1) := by decide +kernel
theorem dX12_isAsked_77 : decode cX12_isAsked 77 = .ok (.goto 34, 3) := by decide +kernel
theorem dX12_isAsked_80 : decode cX12_isAsked 80 = .ok (.iload_n 0, 1) := by decide +kernel
theorem dX12_isAsked_81 : decode cX12_isAsked 81 = .ok (.bipush 14, 2) := by decide +kernel
theorem dX12_isAsked_83 : decode cX12_isAsked 83 = .ok (.if_icmp .ne 17, 3) := by decide +kernel
theorem dX12_isAsked_86 : decode cX12_isAsked 86 = .ok (.lload_n 1, 1) := by decide +kernel
theorem dX12_isAsked_87 : decode cX12_isAsked 87 = .ok (.lload_n 3, 1) := by decide +kernel
theorem dX12_isAsked_88 : decode cX12_isAsked 88 = .ok (.lcmp, 1) := by decide +kernel
theorem dX12_isAsked_89 : decode cX12_isAsked 89 = .ok (.ifCond .ne 7, 3) := by decide +kernel
theorem dX12_isAsked_92 : decode cX12_isAsked 92 = .ok (.iconst 1, 1) := by decide +kernel
theorem dX12_isAsked_93 : decode cX12_isAsked 93 = .ok (.goto 18, 3) := by decide +kernel
theorem dX12_isAsked_96 : decode cX12_isAsked 96 = .ok (.iconst 0, 1) := by decide +kernel
theorem dX12_isAsked_97 : decode cX12_isAsked 97 = .ok (.goto 14, 3) := by decide +kernel
theorem dX12_isAsked_100 : decode cX12_isAsked 100 = .ok (.lload_n 1, 1) := by decide +kernel
theorem dX12_isAsked_101 : decode cX12_isAsked 101 = .ok (.lload_n 3, 1) := by decide +kernel
theorem dX12_isAsked_102 : decode cX12_isAsked 102 = .ok (.lcmp, 1) := by decide +kernel
theorem dX12_isAsked_103 : decode cX12_isAsked 103 = .ok (.ifCond .eq 7, 3) := by decide +kernel
theorem dX12_isAsked_106 : decode cX12_isAsked 106 = .ok (.iconst 1, 1) := by decide +kernel
theorem dX12_isAsked_107 : decode cX12_isAsked 107 = .ok (.goto 4, 3) := by decide +kernel
theorem dX12_isAsked_110 : decode cX12_isAsked 110 = .ok (.iconst 0, 1) := by decide +kernel
theorem dX12_isAsked_111 : decode cX12_isAsked 111 = .ok (.ireturn, 1) := by decide +kernel
theorem dX12_work_0 : decode cX12_work 0 = .ok (.sipush 680, 3) := by decide +kernel
theorem dX12_work_3 : decode cX12_work 3 = .ok (.aload_n 0, 1) := by decide +kernel
theorem dX12_work_4 : decode cX12_work 4 = .ok (.getfield 7, 3) := by decide +kernel
theorem dX12_work_7 : decode cX12_work 7 = .ok (.iconst 5, 1) := by decide +kernel
theorem dX12_work_8 : decode cX12_work 8 = .ok (.iaload, 1) := by decide +kernel
theorem dX12_work_9 : decode cX12_work 9 = .ok (.imul, 1) := by decide +kernel
theorem dX12_work_10 : decode cX12_work 10 = .ok (.iconst 1, 1) := by decide +kernel
theorem dX12_work_11 : decode cX12_work 11 = .ok (.iadd, 1) := by decide +kernel
theorem dX12_work_12 : decode cX12_work 12 = .ok (.iconst 3, 1) := by decide +kernel
theorem dX12_work_13 : decode cX12_work 13 = .ok (.iload_n 1, 1) := by decide +kernel
theorem dX12_work_14 : decode cX12_work 14 = .ok (.imul, 1) := by decide +kernel
theorem dX12_work_15 : decode cX12_work 15 = .ok (.iadd, 1) := by decide +kernel
theorem dX12_work_16 : decode cX12_work 16 = .ok (.istore_n 2, 1) := by decide +kernel
theorem dX12_work_17 : decode cX12_work 17 = .ok (.sipush 680, 3) := by decide +kernel
theorem dX12_work_20 : decode cX12_work 20 = .ok (.aload_n 0, 1) := by decide +kernel
theorem dX12_work_21 : decode cX12_work 21 = .ok (.getfield 7, 3) := by decide +kernel
theorem dX12_work_24 : decode cX12_work 24 = .ok (.iconst 5, 1) := by decide +kernel
theorem dX12_work_25 : decode cX12_work 25 = .ok (.iaload, 1) := by decide +kernel
theorem dX12_work_26 : decode cX12_work 26 = .ok (.imul, 1) := by decide +kernel
theorem dX12_work_27 : decode cX12_work 27 = .ok (.bipush 75, 2) := by decide +kernel
theorem dX12_work_29 : decode cX12_work 29 = .ok (.iadd, 1) := by decide +kernel
theorem dX12_work_30 : decode cX12_work 30 = .ok (.istore_n 3, 1) := by decide +kernel
theorem dX12_work_31 : decode cX12_work 31 = .ok (.iconst 0, 1) := by decide +kernel
theorem dX12_work_32 : decode cX12_work 32 = .ok (.istore 4, 2) := by decide +kernel
theorem dX12_work_34 : decode cX12_work 34 = .ok (.iconst 0, 1) := by decide +kernel
theorem dX12_work_35 : decode cX12_work 35 = .ok (.istore 5, 2) := by decide +kernel
theorem dX12_work_37 : decode cX12_work 37 = .ok (.aload_n 0, 1) := by decide +kernel
theorem dX12_work_38 : decode cX12_work 38 = .ok (.getfield 16, 3) := by decide +kernel
theorem dX12_work_41 : decode cX12_work 41 = .ok (.iload_n 2, 1) := by decide +kernel
theorem dX12_work_42 : decode cX12_work 42 = .ok (.iconst 1, 1) := by decide +kernel
theorem dX12_work_43 : decode cX12_work 43 = .ok (.iadd, 1) := by decide +kernel
theorem dX12_work_44 : decode cX12_work 44 = .ok (.iaload, 1) := by decide +kernel
theorem dX12_work_45 : decode cX12_work 45 = .ok (.istore 6, 2) := by decide +kernel
theorem dX12_work_47 : decode cX12_work 47 = .ok (.iload 6, 2) := by decide +kernel
theorem dX12_work_49 : decode cX12_work 49 = .ok (.aload_n 0, 1) := by decide +kernel
theorem dX12_work_50 : decode cX12_work 50 = .ok (.getfield 16, 3) := by decide +kernel
theorem dX12_work_53 : decode cX12_work 53 = .ok (.iload_n 2, 1) := by decide +kernel
theorem dX12_work_54 : decode cX12_work 54 = .ok (.iconst 2, 1) := by decide +kernel
theorem dX12_work_55 : decode cX12_work 55 = .ok (.iadd, 1) := by decide +kernel
theorem dX12_work_56 : decode cX12_work 56 = .ok (.iaload, 1) := by decide +kernel
theorem dX12_work_57 : decode cX12_work 57 = .ok (.if_icmp .ge 302, 3) := by decide +kernel
theorem dX12_work_60 : decode cX12_work 60 = .ok (.aload_n 0, 1) := by decide +kernel
theorem dX12_work_61 : decode cX12_work 61 = .ok (.getfield 16, 3) := by decide +kernel
theorem dX12_work_64 : decode cX12_work 64 = .ok (.iload_n 3, 1) := by decide +kernel
theorem dX12_work_65 : decode cX12_work 65 = .ok (.iconst 2, 1) := by decide +kernel
theorem dX12_work_66 : decode cX12_work 66 = .ok (.iload 6, 2) := by decide +kernel
theorem dX12_work_68 : decode cX12_work 68 = .ok (.imul, 1) := by decide +kernel
theorem dX12_work_69 : decode cX12_work 69 = .ok (.iadd, 1) := by decide +kernel
theorem dX12_work_70 : decode cX12_work 70 = .ok (.iaload, 1) := by decide +kernel
theorem dX12_work_71 : decode cX12_work 71 = .ok (.istore 7, 2) := by decide +kernel
theorem dX12_work_73 : decode cX12_work 73 = .ok (.aload_n 0, 1) := by decide +kernel
theorem dX12_work_74 : decode cX12_work 74 = .ok (.getfield 16, 3) := by decide +kernel
theorem dX12_work_77 : decode cX12_work 77 = .ok (.iload_n 3, 1) := by decide +kernel
theorem dX12_work_78 : decode cX12_work 78 = .ok (.iconst 2, 1) := by decide +kernel
theorem dX12_work_79 : decode cX12_work 79 = .ok (.iload 6, 2) := by decide +kernel
theorem dX12_work_81 : decode cX12_work 81 = .ok (.imul, 1) := by decide +kernel
theorem dX12_work_82 : decode cX12_work 82 = .ok (.iadd, 1) := by decide +kernel
theorem dX12_work_83 : decode cX12_work 83 = .ok (.iconst 1, 1) := by decide +kernel
theorem dX12_work_84 : decode cX12_work 84 = .ok (.iadd, 1) := by decide +kernel
theorem dX12_work_85 : decode cX12_work 85 = .ok (.iaload, 1) := by decide +kernel
theorem dX12_work_86 : decode cX12_work 86 = .ok (.istore 8, 2) := by decide +kernel
theorem dX12_work_88 : decode cX12_work 88 = .ok (.iload 7, 2) := by decide +kernel
theorem dX12_work_90 : decode cX12_work 90 = .ok (.iconst 1, 1) := by decide +kernel
theorem dX12_work_91 : decode cX12_work 91 = .ok (.if_icmp .gt 35, 3) := by decide +kernel
theorem dX12_work_94 : decode cX12_work 94 = .ok (.aload_n 0, 1) := by decide +kernel
theorem dX12_work_95 : decode cX12_work 95 = .ok (.getfield 35, 3) := by decide +kernel
theorem dX12_work_98 : decode cX12_work 98 = .ok (.iload 4, 2) := by decide +kernel
theorem dX12_work_100 : decode cX12_work 100 = .ok (.iload 7, 2) := by decide +kernel
theorem dX12_work_102 : decode cX12_work 102 = .ok (.ifCond .ne 9, 3) := by decide +kernel
theorem dX12_work_105 : decode cX12_work 105 = .ok (.iload 8, 2) := by decide +kernel
theorem dX12_work_107 : decode cX12_work 107 = .ok (.i2l, 1) := by decide +kernel
theorem dX12_work_108 : decode cX12_work 108 = .ok (.goto 11, 3) := by decide +kernel
theorem dX12_work_111 : decode cX12_work 111 = .ok (.aload_n 0, 1) := by decide +kernel
theorem dX12_work_112 : decode cX12_work 112 = .ok (.getfield 32, 3) := by decide +kernel
theorem dX12_work_115 : decode cX12_work 115 = .ok (.iload 8, 2) := by decide +kernel
theorem dX12_work_117 : decode cX12_work 117 = .ok (.iaload, 1) := by decide +kernel
theorem dX12_work_118 : decode cX12_work 118 = .ok (.i2l, 1) := by decide +kernel
theorem dX12_work_119 : decode cX12_work 119 = .ok (.lastore, 1) := by decide +kernel
theorem dX12_work_120 : decode cX12_work 120 = .ok (.iinc 4 1, 3) := by decide +kernel
theorem dX12_work_123 : decode cX12_work 123 = .ok (.goto 230, 3) := by decide +kernel
theorem dX12_work_126 : decode cX12_work 126 = .ok (.iload 7, 2) := by decide +kernel
theorem dX12_work_128 : decode cX12_work 128 = .ok (.iconst 2, 1) := by decide +kernel
theorem dX12_work_129 : decode cX12_work 129 = .ok (.if_icmp .ne 25, 3) := by decide +kernel
theorem dX12_work_132 : decode cX12_work 132 = .ok (.aload_n 0, 1) := by decide +kernel
theorem dX12_work_133 : decode cX12_work 133 = .ok (.getfield 35, 3) := by decide +kernel
theorem dX12_work_136 : decode cX12_work 136 = .ok (.iload 4, 2) := by decide +kernel
theorem dX12_work_138 : decode cX12_work 138 = .ok (.iconst 1, 1) := by decide +kernel
theorem dX12_work_139 : decode cX12_work 139 = .ok (.isub, 1) := by decide +kernel
theorem dX12_work_140 : decode cX12_work 140 = .ok (.aload_n 0, 1) := by decide +kernel
theorem dX12_work_141 : decode cX12_work 141 = .ok (.getfield 35, 3) := by decide +kernel
theorem dX12_work_144 : decode cX12_work 144 = .ok (.iload 4, 2) := by decide +kernel
theorem dX12_work_146 : decode cX12_work 146 = .ok (.iconst 1, 1) := by decide +kernel
theorem dX12_work_147 : decode cX12_work 147 = .ok (.isub, 1) := by decide +kernel
theorem dX12_work_148 : decode cX12_work 148 = .ok (.laload, 1) := by decide +kernel
theorem dX12_work_149 : decode cX12_work 149 = .ok (.lneg, 1) := by decide +kernel
theorem dX12_work_150 : decode cX12_work 150 = .ok (.lastore, 1) := by decide +kernel
theorem dX12_work_151 : decode cX12_work 151 = .ok (.goto 202, 3) := by decide +kernel
theorem dX12_work_154 : decode cX12_work 154 = .ok (.iload 7, 2) := by decide +kernel
theorem dX12_work_156 : decode cX12_work 156 = .ok (.bipush 10, 2) := by decide +kernel
theorem dX12_work_158 : decode cX12_work 158 = .ok (.if_icmp .ge 39, 3) := by decide +kernel
theorem dX12_work_161 : decode cX12_work 161 = .ok (.iinc 4 (-1), 3) := by decide +kernel
theorem dX12_work_164 : decode cX12_work 164 = .ok (.aload_n 0, 1) := by decide +kernel
theorem dX12_work_165 : decode cX12_work 165 = .ok (.getfield 35, 3) := by decide +kernel
theorem dX12_work_168 : decode cX12_work 168 = .ok (.iload 4, 2) := by decide +kernel
theorem dX12_work_170 : decode cX12_work 170 = .ok (.iconst 1, 1) := by decide +kernel
theorem dX12_work_171 : decode cX12_work 171 = .ok (.isub, 1) := by decide +kernel
theorem dX12_work_172 : decode cX12_work 172 = .ok (.iload 7, 2) := by decide +kernel
theorem dX12_work_174 : decode cX12_work 174 = .ok (.aload_n 0, 1) := by decide +kernel
theorem dX12_work_175 : decode cX12_work 175 = .ok (.getfield 35, 3) := by decide +kernel
theorem dX12_work_178 : decode cX12_work 178 = .ok (.iload 4, 2) := by decide +kernel
theorem dX12_work_180 : decode cX12_work 180 = .ok (.iconst 1, 1) := by decide +kernel
theorem dX12_work_181 : decode cX12_work 181 = .ok (.isub, 1) := by decide +kernel
theorem dX12_work_182 : decode cX12_work 182 = .ok (.laload, 1) := by decide +kernel
theorem dX12_work_183 : decode cX12_work 183 = .ok (.aload_n 0, 1) := by decide +kernel
theorem dX12_work_184 : decode cX12_work 184 = .ok (.getfield 35, 3) := by decide +kernel
theorem dX12_work_187 : decode cX12_work 187 = .ok (.iload 4, 2) := by decide +kernel
theorem dX12_work_189 : decode cX12_work 189 = .ok (.laload, 1) := by decide +kernel
theorem dX12_work_190 : decode cX12_work 190 = .ok (.invokestatic 238, 3) := by decide +kernel
theorem dX12_work_193 : decode cX12_work 193 = .ok (.lastore, 1) := by decide +kernel
theorem dX12_work_194 : decode cX12_work 194 = .ok (.goto 159, 3) := by decide +kernel
theorem dX12_work_197 : decode cX12_work 197 = .ok (.iload 7, 2) := by decide +kernel
theorem dX12_work_199 : decode cX12_work 199 = .ok (.bipush 20, 2) := by decide +kernel
theorem dX12_work_201 : decode cX12_work 201 = .ok (.if_icmp .ge 40, 3) := by decide +kernel
theorem dX12_work_204 : decode cX12_work 204 = .ok (.iinc 4 (-2), 3) := by decide +kernel
theorem dX12_work_207 : decode cX12_work 207 = .ok (.aload_n 0, 1) := by decide +kernel
theorem dX12_work_208 : decode cX12_work 208 = .ok (.getfield 39, 3) := by decide +kernel
theorem dX12_work_211 : decode cX12_work 211 = .ok (.iload 5, 2) := by decide +kernel
theorem dX12_work_213 : decode cX12_work 213 = .ok (.iload 7, 2) := by decide +kernel
theorem dX12_work_215 : decode cX12_work 215 = .ok (.aload_n 0, 1) := by decide +kernel
theorem dX12_work_216 : decode cX12_work 216 = .ok (.getfield 35, 3) := by decide +kernel
theorem dX12_work_219 : decode cX12_work 219 = .ok (.iload 4, 2) := by decide +kernel
theorem dX12_work_221 : decode cX12_work 221 = .ok (.laload, 1) := by decide +kernel
theorem dX12_work_222 : decode cX12_work 222 = .ok (.aload_n 0, 1) := by decide +kernel
theorem dX12_work_223 : decode cX12_work 223 = .ok (.getfield 35, 3) := by decide +kernel
theorem dX12_work_226 : decode cX12_work 226 = .ok (.iload 4, 2) := by decide +kernel
theorem dX12_work_228 : decode cX12_work 228 = .ok (.iconst 1, 1) := by decide +kernel
theorem dX12_work_229 : decode cX12_work 229 = .ok (.iadd, 1) := by decide +kernel
theorem dX12_work_230 : decode cX12_work 230 = .ok (.laload, 1) := by decide +kernel
theorem dX12_work_231 : decode cX12_work 231 = .ok (.invokestatic 242, 3) := by decide +kernel
theorem dX12_work_234 : decode cX12_work 234 = .ok (.bastore, 1) := by decide +kernel
theorem dX12_work_235 : decode cX12_work 235 = .ok (.iinc 5 1, 3) := by decide +kernel
theorem dX12_work_238 : decode cX12_work 238 = .ok (.goto 115, 3) := by decide +kernel
theorem dX12_work_241 : decode cX12_work 241 = .ok (.iload 7, 2) := by decide +kernel
theorem dX12_work_243 : decode cX12_work 243 = .ok (.bipush 20, 2) := by decide +kernel
theorem dX12_work_245 : decode cX12_work 245 = .ok (.if_icmp .ne 32, 3) := by decide +kernel
theorem dX12_work_248 : decode cX12_work 248 = .ok (.aload_n 0, 1) := by decide +kernel
theorem dX12_work_249 : decode cX12_work 249 = .ok (.getfield 39, 3) := by decide +kernel
theorem dX12_work_252 : decode cX12_work 252 = .ok (.iload 5, 2) := by decide +kernel
theorem dX12_work_254 : decode cX12_work 254 = .ok (.iconst 1, 1) := by decide +kernel
theorem dX12_work_255 : decode cX12_work 255 = .ok (.isub, 1) := by decide +kernel
theorem dX12_work_256 : decode cX12_work 256 = .ok (.aload_n 0, 1) := by decide +kernel
theorem dX12_work_257 : decode cX12_work 257 = .ok (.getfield 39, 3) := by decide +kernel
theorem dX12_work_260 : decode cX12_work 260 = .ok (.iload 5, 2) := by decide +kernel
theorem dX12_work_262 : decode cX12_work 262 = .ok (.iconst 1, 1) := by decide +kernel
theorem dX12_work_263 : decode cX12_work 263 = .ok (.isub, 1) := by decide +kernel
theorem dX12_work_264 : decode cX12_work 264 = .ok (.baload, 1) := by decide +kernel
theorem dX12_work_265 : decode cX12_work 265 = .ok (.ifCond .ne 7, 3) := by decide +kernel
theorem dX12_work_268 : decode cX12_work 268 = .ok (.iconst 1, 1) := by decide +kernel
theorem dX12_work_269 : decode cX12_work 269 = .ok (.goto 4, 3) := by decide +kernel
theorem dX12_work_272 : decode cX12_work 272 = .ok (.iconst 0, 1) := by decide +kernel
theorem dX12_work_273 : decode cX12_work 273 = .ok (.bastore, 1) := by decide +kernel
theorem dX12_work_274 : decode cX12_work 274 = .ok (.goto 79, 3) := by decide +kernel
theorem dX12_work_277 : decode cX12_work 277 = .ok (.iinc 5 (-1), 3) := by decide +kernel
theorem dX12_work_280 : decode cX12_work 280 = .ok (.aload_n 0, 1) := by decide +kernel
theorem dX12_work_281 : decode cX12_work 281 = .ok (.getfield 39, 3) := by decide +kernel
theorem dX12_work_284 : decode cX12_work 284 = .ok (.iload 5, 2) := by decide +kernel
theorem dX12_work_286 : decode cX12_work 286 = .ok (.iconst 1, 1) := by decide +kernel
theorem dX12_work_287 : decode cX12_work 287 = .ok (.isub, 1) := by decide +kernel
theorem dX12_work_288 : decode cX12_work 288 = .ok (.iload 7, 2) := by decide +kernel
theorem dX12_work_290 : decode cX12_work 290 = .ok (.bipush 21, 2) := by decide +kernel
theorem dX12_work_292 : decode cX12_work 292 = .ok (.if_icmp .ne 33, 3) := by decide +kernel
theorem dX12_work_295 : decode cX12_work 295 = .ok (.aload_n 0, 1) := by decide +kernel
theorem dX12_work_296 : decode cX12_work 296 = .ok (.getfield 39, 3) := by decide +kernel
theorem dX12_work_299 : decode cX12_work 299 = .ok (.iload 5, 2) := by decide +kernel
theorem dX12_work_301 : decode cX12_work 301 = .ok (.iconst 1, 1) := by decide +kernel
theorem dX12_work_302 : decode cX12_work 302 = .ok (.isub, 1) := by decide +kernel
theorem dX12_work_303 : decode cX12_work 303 = .ok (.baload, 1) := by decide +kernel
theorem dX12_work_304 : decode cX12_work 304 = .ok (.ifCond .eq 17, 3) := by decide +kernel
theorem dX12_work_307 : decode cX12_work 307 = .ok (.aload_n 0, 1) := by decide +kernel
theorem dX12_work_308 : decode cX12_work 308 = .ok (.getfield 39, 3) := by decide +kernel
theorem dX12_work_311 : decode cX12_work 311 = .ok (.iload 5, 2) := by decide +kernel
theorem dX12_work_313 : decode cX12_work 313 = .ok (.baload, 1) := by decide +kernel
theorem dX12_work_314 : decode cX12_work 314 = .ok (.ifCond .eq 7, 3) := by decide +kernel
theorem dX12_work_317 : decode cX12_work 317 = .ok (.iconst 1, 1) := by decide +kernel
theorem dX12_work_318 : decode cX12_work 318 = .ok (.goto 34, 3) := by decide +kernel
theorem dX12_work_321 : decode cX12_work 321 = .ok (.iconst 0, 1) := by decide +kernel
theorem dX12_work_322 : decode cX12_work 322 = .ok (.goto 30, 3) := by decide +kernel
theorem dX12_work_325 : decode cX12_work 325 = .ok (.aload_n 0, 1) := by decide +kernel
theorem dX12_work_326 : decode cX12_work 326 = .ok (.getfield 39, 3) := by decide +kernel
theorem dX12_work_329 : decode cX12_work 329 = .ok (.iload 5, 2) := by decide +kernel
theorem dX12_work_331 : decode cX12_work 331 = .ok (.iconst 1, 1) := by decide +kernel
theorem dX12_work_332 : decode cX12_work 332 = .ok (.isub, 1) := by decide +kernel
theorem dX12_work_333 : decode cX12_work 333 = .ok (.baload, 1) := by decide +kernel
theorem dX12_work_334 : decode cX12_work 334 = .ok (.ifCond .ne 13, 3) := by decide +kernel
theorem dX12_work_337 : decode cX12_work 337 = .ok (.aload_n 0, 1) := by decide +kernel
theorem dX12_work_338 : decode cX12_work 338 = .ok (.getfield 39, 3) := by decide +kernel
theorem dX12_work_341 : decode cX12_work 341 = .ok (.iload 5, 2) := by decide +kernel
theorem dX12_work_343 : decode cX12_work 343 = .ok (.baload, 1) := by decide +kernel
theorem dX12_work_344 : decode cX12_work 344 = .ok (.ifCond .eq 7, 3) := by decide +kernel
theorem dX12_work_347 : decode cX12_work 347 = .ok (.iconst 1, 1) := by decide +kernel
theorem dX12_work_348 : decode cX12_work 348 = .ok (.goto 4, 3) := by decide +kernel
theorem dX12_work_351 : decode cX12_work 351 = .ok (.iconst 0, 1) := by decide +kernel
theorem dX12_work_352 : decode cX12_work 352 = .ok (.bastore, 1) := by decide +kernel
theorem dX12_work_353 : decode cX12_work 353 = .ok (.iinc 6 1, 3) := by decide +kernel
theorem dX12_work_356 : decode cX12_work 356 = .ok (.goto (-309), 3) := by decide +kernel
theorem dX12_work_359 : decode cX12_work 359 = .ok (.return_, 1) := by decide +kernel
theorem dX12_clauseOf_0 : decode cX12_clauseOf 0 = .ok (.iconst 0, 1) := by decide +kernel
theorem dX12_clauseOf_1 : decode cX12_clauseOf 1 = .ok (.istore_n 2, 1) := by decide +kernel
theorem dX12_clauseOf_2 : decode cX12_clauseOf 2 = .ok (.aload_n 0, 1) := by decide +kernel
theorem dX12_clauseOf_3 : decode cX12_clauseOf 3 = .ok (.getfield 7, 3) := by decide +kernel
theorem dX12_clauseOf_6 : decode cX12_clauseOf 6 = .ok (.iconst 5, 1) := by decide +kernel
theorem dX12_clauseOf_7 : decode cX12_clauseOf 7 = .ok (.iaload, 1) := by decide +kernel
theorem dX12_clauseOf_8 : decode cX12_clauseOf 8 = .ok (.ifCond .lt 55, 3) := by decide +kernel
theorem dX12_clauseOf_11 : decode cX12_clauseOf 11 = .ok (.iload_n 2, 1) := by decide +kernel
theorem dX12_clauseOf_12 : decode cX12_clauseOf 12 = .ok (.aload_n 0, 1) := by decide +kernel
theorem dX12_clauseOf_13 : decode cX12_clauseOf 13 = .ok (.getfield 16, 3) := by decide +kernel
theorem dX12_clauseOf_16 : decode cX12_clauseOf 16 = .ok (.sipush 680, 3) := by decide +kernel
theorem dX12_clauseOf_19 : decode cX12_clauseOf 19 = .ok (.aload_n 0, 1) := by decide +kernel
theorem dX12_clauseOf_20 : decode cX12_clauseOf 20 = .ok (.getfield 7, 3) := by decide +kernel
theorem dX12_clauseOf_23 : decode cX12_clauseOf 23 = .ok (.iconst 5, 1) := by decide +kernel
theorem dX12_clauseOf_24 : decode cX12_clauseOf 24 = .ok (.iaload, 1) := by decide +kernel
theorem dX12_clauseOf_25 : decode cX12_clauseOf 25 = .ok (.imul, 1) := by decide +kernel
theorem dX12_clauseOf_26 : decode cX12_clauseOf 26 = .ok (.iaload, 1) := by decide +kernel
theorem dX12_clauseOf_27 : decode cX12_clauseOf 27 = .ok (.if_icmp .ge 36, 3) := by decide +kernel
theorem dX12_clauseOf_30 : decode cX12_clauseOf 30 = .ok (.aload_n 0, 1) := by decide +kernel
theorem dX12_clauseOf_31 : decode cX12_clauseOf 31 = .ok (.getfield 16, 3) := by decide +kernel
theorem dX12_clauseOf_34 : decode cX12_clauseOf 34 = .ok (.sipush 680, 3) := by decide +kernel
theorem dX12_clauseOf_37 : decode cX12_clauseOf 37 = .ok (.aload_n 0, 1) := by decide +kernel
theorem dX12_clauseOf_38 : decode cX12_clauseOf 38 = .ok (.getfield 7, 3) := by decide +kernel
theorem dX12_clauseOf_41 : decode cX12_clauseOf 41 = .ok (.iconst 5, 1) := by decide +kernel
theorem dX12_clauseOf_42 : decode cX12_clauseOf 42 = .ok (.iaload, 1) := by decide +kernel
theorem dX12_clauseOf_43 : decode cX12_clauseOf 43 = .ok (.imul, 1) := by decide +kernel
theorem dX12_clauseOf_44 : decode cX12_clauseOf 44 = .ok (.iconst 1, 1) := by decide +kernel
theorem dX12_clauseOf_45 : decode cX12_clauseOf 45 = .ok (.iadd, 1) := by decide +kernel
theorem dX12_clauseOf_46 : decode cX12_clauseOf 46 = .ok (.iconst 3, 1) := by decide +kernel
theorem dX12_clauseOf_47 : decode cX12_clauseOf 47 = .ok (.iload_n 2, 1) := by decide +kernel
theorem dX12_clauseOf_48 : decode cX12_clauseOf 48 = .ok (.imul, 1) := by decide +kernel
theorem dX12_clauseOf_49 : decode cX12_clauseOf 49 = .ok (.iadd, 1) := by decide +kernel
theorem dX12_clauseOf_50 : decode cX12_clauseOf 50 = .ok (.iaload, 1) := by decide +kernel
theorem dX12_clauseOf_51 : decode cX12_clauseOf 51 = .ok (.iload_n 1, 1) := by decide +kernel
theorem dX12_clauseOf_52 : decode cX12_clauseOf 52 = .ok (.if_icmp .ne 5, 3) := by decide +kernel
theorem dX12_clauseOf_55 : decode cX12_clauseOf 55 = .ok (.iload_n 2, 1) := by decide +kernel
theorem dX12_clauseOf_56 : decode cX12_clauseOf 56 = .ok (.ireturn, 1) := by decide +kernel
theorem dX12_clauseOf_57 : decode cX12_clauseOf 57 = .ok (.iinc 2 1, 3) := by decide +kernel
theorem dX12_clauseOf_60 : decode cX12_clauseOf 60 = .ok (.goto (-58), 3) := by decide +kernel
theorem dX12_clauseOf_63 : decode cX12_clauseOf 63 = .ok (.iconst (-1), 1) := by decide +kernel
theorem dX12_clauseOf_64 : decode cX12_clauseOf 64 = .ok (.ireturn, 1) := by decide +kernel
theorem dX12_name_0 : decode cX12_name 0 = .ok (.aload_n 0, 1) := by decide +kernel
theorem dX12_name_1 : decode cX12_name 1 = .ok (.getfield 32, 3) := by decide +kernel
theorem dX12_name_4 : decode cX12_name 4 = .ok (.iconst 0, 1) := by decide +kernel
theorem dX12_name_5 : decode cX12_name 5 = .ok (.iload_n 1, 1) := by decide +kernel
theorem dX12_name_6 : decode cX12_name 6 = .ok (.iastore, 1) := by decide +kernel
theorem dX12_name_7 : decode cX12_name 7 = .ok (.iconst 0, 1) := by decide +kernel
theorem dX12_name_8 : decode cX12_name 8 = .ok (.istore_n 2, 1) := by decide +kernel
theorem dX12_name_9 : decode cX12_name 9 = .ok (.iload_n 2, 1) := by decide +kernel
theorem dX12_name_10 : decode cX12_name 10 = .ok (.iconst 3, 1) := by decide +kernel
theorem dX12_name_11 : decode cX12_name 11 = .ok (.if_icmp .ge 28, 3) := by decide +kernel
theorem dX12_name_14 : decode cX12_name 14 = .ok (.aload_n 0, 1) := by decide +kernel
theorem dX12_name_15 : decode cX12_name 15 = .ok (.getfield 32, 3) := by decide +kernel
theorem dX12_name_18 : decode cX12_name 18 = .ok (.iconst 1, 1) := by decide +kernel
theorem dX12_name_19 : decode cX12_name 19 = .ok (.iload_n 2, 1) := by decide +kernel
theorem dX12_name_20 : decode cX12_name 20 = .ok (.iadd, 1) := by decide +kernel
theorem dX12_name_21 : decode cX12_name 21 = .ok (.aload_n 0, 1) := by decide +kernel
theorem dX12_name_22 : decode cX12_name 22 = .ok (.getfield 7, 3) := by decide +kernel
theorem dX12_name_25 : decode cX12_name 25 = .ok (.iload_n 1, 1) := by decide +kernel
theorem dX12_name_26 : decode cX12_name 26 = .ok (.invokestatic 74, 3) := by decide +kernel
theorem dX12_name_29 : decode cX12_name 29 = .ok (.iload_n 2, 1) := by decide +kernel
theorem dX12_name_30 : decode cX12_name 30 = .ok (.iadd, 1) := by decide +kernel
theorem dX12_name_31 : decode cX12_name 31 = .ok (.iaload, 1) := by decide +kernel
theorem dX12_name_32 : decode cX12_name 32 = .ok (.iastore, 1) := by decide +kernel
theorem dX12_name_33 : decode cX12_name 33 = .ok (.iinc 2 1, 3) := by decide +kernel
theorem dX12_name_36 : decode cX12_name 36 = .ok (.goto (-27), 3) := by decide +kernel
theorem dX12_name_39 : decode cX12_name 39 = .ok (.return_, 1) := by decide +kernel
theorem dX12_nameUpon_0 : decode cX12_nameUpon 0 = .ok (.aload_n 0, 1) := by decide +kernel
theorem dX12_nameUpon_1 : decode cX12_nameUpon 1 = .ok (.iload_n 1, 1) := by decide +kernel
theorem dX12_nameUpon_2 : decode cX12_nameUpon 2 = .ok (.invokevirtual 246, 3) := by decide +kernel
theorem dX12_nameUpon_5 : decode cX12_nameUpon 5 = .ok (.aload_n 0, 1) := by decide +kernel
theorem dX12_nameUpon_6 : decode cX12_nameUpon 6 = .ok (.getfield 32, 3) := by decide +kernel
theorem dX12_nameUpon_9 : decode cX12_nameUpon 9 = .ok (.iconst 4, 1) := by decide +kernel
theorem dX12_nameUpon_10 : decode cX12_nameUpon 10 = .ok (.iload_n 2, 1) := by decide +kernel
theorem dX12_nameUpon_11 : decode cX12_nameUpon 11 = .ok (.invokestatic 70, 3) := by decide +kernel
theorem dX12_nameUpon_14 : decode cX12_nameUpon 14 = .ok (.iastore, 1) := by decide +kernel
theorem dX12_nameUpon_15 : decode cX12_nameUpon 15 = .ok (.aload_n 0, 1) := by decide +kernel
theorem dX12_nameUpon_16 : decode cX12_nameUpon 16 = .ok (.getfield 32, 3) := by decide +kernel
theorem dX12_nameUpon_19 : decode cX12_nameUpon 19 = .ok (.iconst 5, 1) := by decide +kernel
theorem dX12_nameUpon_20 : decode cX12_nameUpon 20 = .ok (.iconst (-1), 1) := by decide +kernel
theorem dX12_nameUpon_21 : decode cX12_nameUpon 21 = .ok (.iastore, 1) := by decide +kernel
theorem dX12_nameUpon_22 : decode cX12_nameUpon 22 = .ok (.iconst 0, 1) := by decide +kernel
theorem dX12_nameUpon_23 : decode cX12_nameUpon 23 = .ok (.istore_n 3, 1) := by decide +kernel
theorem dX12_nameUpon_24 : decode cX12_nameUpon 24 = .ok (.iload_n 3, 1) := by decide +kernel
theorem dX12_nameUpon_25 : decode cX12_nameUpon 25 = .ok (.aload_n 0, 1) := by decide +kernel
theorem dX12_nameUpon_26 : decode cX12_nameUpon 26 = .ok (.getfield 7, 3) := by decide +kernel
theorem dX12_nameUpon_29 : decode cX12_nameUpon 29 = .ok (.iconst 0, 1) := by decide +kernel
theorem dX12_nameUpon_30 : decode cX12_nameUpon 30 = .ok (.iaload, 1) := by decide +kernel
theorem dX12_nameUpon_31 : decode cX12_nameUpon 31 = .ok (.if_icmp .ge 54, 3) := by decide +kernel
theorem dX12_nameUpon_34 : decode cX12_nameUpon 34 = .ok (.iload_n 2, 1) := by decide +kernel
theorem dX12_nameUpon_35 : decode cX12_nameUpon 35 = .ok (.iload_n 3, 1) := by decide +kernel
theorem dX12_nameUpon_36 : decode cX12_nameUpon 36 = .ok (.invokestatic 249, 3) := by decide +kernel
theorem dX12_nameUpon_39 : decode cX12_nameUpon 39 = .ok (.ifCond .eq 40, 3) := by decide +kernel
theorem dX12_nameUpon_42 : decode cX12_nameUpon 42 = .ok (.aload_n 0, 1) := by decide +kernel
theorem dX12_nameUpon_43 : decode cX12_nameUpon 43 = .ok (.getfield 7, 3) := by decide +kernel
theorem dX12_nameUpon_46 : decode cX12_nameUpon 46 = .ok (.iload_n 3, 1) := by decide +kernel
theorem dX12_nameUpon_47 : decode cX12_nameUpon 47 = .ok (.invokestatic 74, 3) := by decide +kernel
theorem dX12_nameUpon_50 : decode cX12_nameUpon 50 = .ok (.iconst 1, 1) := by decide +kernel
theorem dX12_nameUpon_51 : decode cX12_nameUpon 51 = .ok (.iadd, 1) := by decide +kernel
theorem dX12_nameUpon_52 : decode cX12_nameUpon 52 = .ok (.iaload, 1) := by decide +kernel
theorem dX12_nameUpon_53 : decode cX12_nameUpon 53 = .ok (.aload_n 0, 1) := by decide +kernel
theorem dX12_nameUpon_54 : decode cX12_nameUpon 54 = .ok (.getfield 32, 3) := by decide +kernel
theorem dX12_nameUpon_57 : decode cX12_nameUpon 57 = .ok (.iconst 5, 1) := by decide +kernel
theorem dX12_nameUpon_58 : decode cX12_nameUpon 58 = .ok (.iaload, 1) := by decide +kernel
theorem dX12_nameUpon_59 : decode cX12_nameUpon 59 = .ok (.if_icmp .le 20, 3) := by decide +kernel
theorem dX12_nameUpon_62 : decode cX12_nameUpon 62 = .ok (.aload_n 0, 1) := by decide +kernel
theorem dX12_nameUpon_63 : decode cX12_nameUpon 63 = .ok (.getfield 32, 3) := by decide +kernel
theorem dX12_nameUpon_66 : decode cX12_nameUpon 66 = .ok (.iconst 5, 1) := by decide +kernel
theorem dX12_nameUpon_67 : decode cX12_nameUpon 67 = .ok (.aload_n 0, 1) := by decide +kernel
theorem dX12_nameUpon_68 : decode cX12_nameUpon 68 = .ok (.getfield 7, 3) := by decide +kernel
theorem dX12_nameUpon_71 : decode cX12_nameUpon 71 = .ok (.iload_n 3, 1) := by decide +kernel
theorem dX12_nameUpon_72 : decode cX12_nameUpon 72 = .ok (.invokestatic 74, 3) := by decide +kernel
theorem dX12_nameUpon_75 : decode cX12_nameUpon 75 = .ok (.iconst 1, 1) := by decide +kernel
theorem dX12_nameUpon_76 : decode cX12_nameUpon 76 = .ok (.iadd, 1) := by decide +kernel
theorem dX12_nameUpon_77 : decode cX12_nameUpon 77 = .ok (.iaload, 1) := by decide +kernel
theorem dX12_nameUpon_78 : decode cX12_nameUpon 78 = .ok (.iastore, 1) := by decide +kernel
theorem dX12_nameUpon_79 : decode cX12_nameUpon 79 = .ok (.iinc 3 1, 3) := by decide +kernel
theorem dX12_nameUpon_82 : decode cX12_nameUpon 82 = .ok (.goto (-58), 3) := by decide +kernel
theorem dX12_nameUpon_85 : decode cX12_nameUpon 85 = .ok (.aload_n 0, 1) := by decide +kernel
theorem dX12_nameUpon_86 : decode cX12_nameUpon 86 = .ok (.getfield 32, 3) := by decide +kernel
theorem dX12_nameUpon_89 : decode cX12_nameUpon 89 = .ok (.bipush 6, 2) := by decide +kernel
theorem dX12_nameUpon_91 : decode cX12_nameUpon 91 = .ok (.aload_n 0, 1) := by decide +kernel
theorem dX12_nameUpon_92 : decode cX12_nameUpon 92 = .ok (.getfield 7, 3) := by decide +kernel
theorem dX12_nameUpon_95 : decode cX12_nameUpon 95 = .ok (.iconst 2, 1) := by decide +kernel
theorem dX12_nameUpon_96 : decode cX12_nameUpon 96 = .ok (.iaload, 1) := by decide +kernel
theorem dX12_nameUpon_97 : decode cX12_nameUpon 97 = .ok (.aload_n 0, 1) := by decide +kernel
theorem dX12_nameUpon_98 : decode cX12_nameUpon 98 = .ok (.getfield 32, 3) := by decide +kernel
theorem dX12_nameUpon_101 : decode cX12_nameUpon 101 = .ok (.iconst 4, 1) := by decide +kernel
theorem dX12_nameUpon_102 : decode cX12_nameUpon 102 = .ok (.iaload, 1) := by decide +kernel
theorem dX12_nameUpon_103 : decode cX12_nameUpon 103 = .ok (.iadd, 1) := by decide +kernel
theorem dX12_nameUpon_104 : decode cX12_nameUpon 104 = .ok (.bipush 24, 2) := by decide +kernel
theorem dX12_nameUpon_106 : decode cX12_nameUpon 106 = .ok (.irem, 1) := by decide +kernel
theorem dX12_nameUpon_107 : decode cX12_nameUpon 107 = .ok (.iastore, 1) := by decide +kernel
theorem dX12_nameUpon_108 : decode cX12_nameUpon 108 = .ok (.return_, 1) := by decide +kernel
theorem dX12_isBorne_0 : decode cX12_isBorne 0 = .ok (.aload_n 0, 1) := by decide +kernel
theorem dX12_isBorne_1 : decode cX12_isBorne 1 = .ok (.getfield 7, 3) := by decide +kernel
theorem dX12_isBorne_4 : decode cX12_isBorne 4 = .ok (.iload_n 1, 1) := by decide +kernel
theorem dX12_isBorne_5 : decode cX12_isBorne 5 = .ok (.invokestatic 74, 3) := by decide +kernel
theorem dX12_isBorne_8 : decode cX12_isBorne 8 = .ok (.iconst 3, 1) := by decide +kernel
theorem dX12_isBorne_9 : decode cX12_isBorne 9 = .ok (.iadd, 1) := by decide +kernel
theorem dX12_isBorne_10 : decode cX12_isBorne 10 = .ok (.iaload, 1) := by decide +kernel
theorem dX12_isBorne_11 : decode cX12_isBorne 11 = .ok (.iload_n 2, 1) := by decide +kernel
theorem dX12_isBorne_12 : decode cX12_isBorne 12 = .ok (.iand, 1) := by decide +kernel
theorem dX12_isBorne_13 : decode cX12_isBorne 13 = .ok (.invokestatic 70, 3) := by decide +kernel
theorem dX12_isBorne_16 : decode cX12_isBorne 16 = .ok (.aload_n 0, 1) := by decide +kernel
theorem dX12_isBorne_17 : decode cX12_isBorne 17 = .ok (.getfield 7, 3) := by decide +kernel
theorem dX12_isBorne_20 : decode cX12_isBorne 20 = .ok (.iload_n 1, 1) := by decide +kernel
theorem dX12_isBorne_21 : decode cX12_isBorne 21 = .ok (.invokestatic 74, 3) := by decide +kernel
theorem dX12_isBorne_24 : decode cX12_isBorne 24 = .ok (.iconst 4, 1) := by decide +kernel
theorem dX12_isBorne_25 : decode cX12_isBorne 25 = .ok (.iadd, 1) := by decide +kernel
theorem dX12_isBorne_26 : decode cX12_isBorne 26 = .ok (.iaload, 1) := by decide +kernel
theorem dX12_isBorne_27 : decode cX12_isBorne 27 = .ok (.if_icmp .lt 7, 3) := by decide +kernel
theorem dX12_isBorne_30 : decode cX12_isBorne 30 = .ok (.iconst 1, 1) := by decide +kernel
theorem dX12_isBorne_31 : decode cX12_isBorne 31 = .ok (.goto 4, 3) := by decide +kernel
theorem dX12_isBorne_34 : decode cX12_isBorne 34 = .ok (.iconst 0, 1) := by decide +kernel
theorem dX12_isBorne_35 : decode cX12_isBorne 35 = .ok (.ireturn, 1) := by decide +kernel
theorem dX12_standing_0 : decode cX12_standing 0 = .ok (.iconst 0, 1) := by decide +kernel
theorem dX12_standing_1 : decode cX12_standing 1 = .ok (.istore_n 2, 1) := by decide +kernel
theorem dX12_standing_2 : decode cX12_standing 2 = .ok (.iload_n 2, 1) := by decide +kernel
theorem dX12_standing_3 : decode cX12_standing 3 = .ok (.aload_n 0, 1) := by decide +kernel
theorem dX12_standing_4 : decode cX12_standing 4 = .ok (.getfield 7, 3) := by decide +kernel
theorem dX12_standing_7 : decode cX12_standing 7 = .ok (.iconst 0, 1) := by decide +kernel
theorem dX12_standing_8 : decode cX12_standing 8 = .ok (.iaload, 1) := by decide +kernel
theorem dX12_standing_9 : decode cX12_standing 9 = .ok (.if_icmp .ge 28, 3) := by decide +kernel
theorem dX12_standing_12 : decode cX12_standing 12 = .ok (.iload_n 1, 1) := by decide +kernel
theorem dX12_standing_13 : decode cX12_standing 13 = .ok (.iload_n 2, 1) := by decide +kernel
theorem dX12_standing_14 : decode cX12_standing 14 = .ok (.invokestatic 249, 3) := by decide +kernel
theorem dX12_standing_17 : decode cX12_standing 17 = .ok (.ifCond .eq 14, 3) := by decide +kernel
theorem dX12_standing_20 : decode cX12_standing 20 = .ok (.aload_n 0, 1) := by decide +kernel
theorem dX12_standing_21 : decode cX12_standing 21 = .ok (.iload_n 2, 1) := by decide +kernel
theorem dX12_standing_22 : decode cX12_standing 22 = .ok (.iload_n 1, 1) := by decide +kernel
theorem dX12_standing_23 : decode cX12_standing 23 = .ok (.invokevirtual 253, 3) := by decide +kernel
theorem dX12_standing_26 : decode cX12_standing 26 = .ok (.ifCond .ne 5, 3) := by decide +kernel
theorem dX12_standing_29 : decode cX12_standing 29 = .ok (.iconst 0, 1) := by decide +kernel
theorem dX12_standing_30 : decode cX12_standing 30 = .ok (.ireturn, 1) := by decide +kernel
theorem dX12_standing_31 : decode cX12_standing 31 = .ok (.iinc 2 1, 3) := by decide +kernel
theorem dX12_standing_34 : decode cX12_standing 34 = .ok (.goto (-32), 3) := by decide +kernel
theorem dX12_standing_37 : decode cX12_standing 37 = .ok (.iconst 1, 1) := by decide +kernel
theorem dX12_standing_38 : decode cX12_standing 38 = .ok (.ireturn, 1) := by decide +kernel
theorem dX12_stands_0 : decode cX12_stands 0 = .ok (.iload_n 1, 1) := by decide +kernel
theorem dX12_stands_1 : decode cX12_stands 1 = .ok (.iconst 0, 1) := by decide +kernel
theorem dX12_stands_2 : decode cX12_stands 2 = .ok (.aload_n 0, 1) := by decide +kernel
theorem dX12_stands_3 : decode cX12_stands 3 = .ok (.invokevirtual 66, 3) := by decide +kernel
theorem dX12_stands_6 : decode cX12_stands 6 = .ok (.invokestatic 62, 3) := by decide +kernel
theorem dX12_stands_9 : decode cX12_stands 9 = .ok (.ifCond .eq 15, 3) := by decide +kernel
theorem dX12_stands_12 : decode cX12_stands 12 = .ok (.aload_n 0, 1) := by decide +kernel
theorem dX12_stands_13 : decode cX12_stands 13 = .ok (.iload_n 1, 1) := by decide +kernel
theorem dX12_stands_14 : decode cX12_stands 14 = .ok (.invokevirtual 256, 3) := by decide +kernel
theorem dX12_stands_17 : decode cX12_stands 17 = .ok (.ifCond .eq 7, 3) := by decide +kernel
theorem dX12_stands_20 : decode cX12_stands 20 = .ok (.iconst 1, 1) := by decide +kernel
theorem dX12_stands_21 : decode cX12_stands 21 = .ok (.goto 4, 3) := by decide +kernel
theorem dX12_stands_24 : decode cX12_stands 24 = .ok (.iconst 0, 1) := by decide +kernel
theorem dX12_stands_25 : decode cX12_stands 25 = .ok (.ireturn, 1) := by decide +kernel
theorem dX12_may_0 : decode cX12_may 0 = .ok (.iload_n 2, 1) := by decide +kernel
theorem dX12_may_1 : decode cX12_may 1 = .ok (.iload_n 1, 1) := by decide +kernel
theorem dX12_may_2 : decode cX12_may 2 = .ok (.invokestatic 249, 3) := by decide +kernel
theorem dX12_may_5 : decode cX12_may 5 = .ok (.ifCond .ne 12, 3) := by decide +kernel
theorem dX12_may_8 : decode cX12_may 8 = .ok (.aload_n 0, 1) := by decide +kernel
theorem dX12_may_9 : decode cX12_may 9 = .ok (.iload_n 1, 1) := by decide +kernel
theorem dX12_may_10 : decode cX12_may 10 = .ok (.iload_n 2, 1) := by decide +kernel
theorem dX12_may_11 : decode cX12_may 11 = .ok (.invokevirtual 253, 3) := by decide +kernel
theorem dX12_may_14 : decode cX12_may 14 = .ok (.ifCond .ne 5, 3) := by decide +kernel
theorem dX12_may_17 : decode cX12_may 17 = .ok (.iconst 0, 1) := by decide +kernel
theorem dX12_may_18 : decode cX12_may 18 = .ok (.ireturn, 1) := by decide +kernel
theorem dX12_may_19 : decode cX12_may 19 = .ok (.aload_n 0, 1) := by decide +kernel
theorem dX12_may_20 : decode cX12_may 20 = .ok (.iconst 1, 1) := by decide +kernel
theorem dX12_may_21 : decode cX12_may 21 = .ok (.invokevirtual 259, 3) := by decide +kernel
theorem dX12_may_24 : decode cX12_may 24 = .ok (.istore_n 3, 1) := by decide +kernel
theorem dX12_may_25 : decode cX12_may 25 = .ok (.iload_n 3, 1) := by decide +kernel
theorem dX12_may_26 : decode cX12_may 26 = .ok (.ifCond .ge 5, 3) := by decide +kernel
theorem dX12_may_29 : decode cX12_may 29 = .ok (.iconst 1, 1) := by decide +kernel
theorem dX12_may_30 : decode cX12_may 30 = .ok (.ireturn, 1) := by decide +kernel
theorem dX12_may_31 : decode cX12_may 31 = .ok (.aload_n 0, 1) := by decide +kernel
theorem dX12_may_32 : decode cX12_may 32 = .ok (.iload_n 1, 1) := by decide +kernel
theorem dX12_may_33 : decode cX12_may 33 = .ok (.iload_n 2, 1) := by decide +kernel
theorem dX12_may_34 : decode cX12_may 34 = .ok (.invokevirtual 262, 3) := by decide +kernel
theorem dX12_may_37 : decode cX12_may 37 = .ok (.aload_n 0, 1) := by decide +kernel
theorem dX12_may_38 : decode cX12_may 38 = .ok (.iload_n 3, 1) := by decide +kernel
theorem dX12_may_39 : decode cX12_may 39 = .ok (.invokevirtual 265, 3) := by decide +kernel
theorem dX12_may_42 : decode cX12_may 42 = .ok (.aload_n 0, 1) := by decide +kernel
theorem dX12_may_43 : decode cX12_may 43 = .ok (.getfield 39, 3) := by decide +kernel
theorem dX12_may_46 : decode cX12_may 46 = .ok (.iconst 0, 1) := by decide +kernel
theorem dX12_may_47 : decode cX12_may 47 = .ok (.baload, 1) := by decide +kernel
theorem dX12_may_48 : decode cX12_may 48 = .ok (.ireturn, 1) := by decide +kernel
theorem dX12_lift_0 : decode cX12_lift 0 = .ok (.aload_n 0, 1) := by decide +kernel
theorem dX12_lift_1 : decode cX12_lift 1 = .ok (.iconst 0, 1) := by decide +kernel
theorem dX12_lift_2 : decode cX12_lift 2 = .ok (.invokevirtual 259, 3) := by decide +kernel
theorem dX12_lift_5 : decode cX12_lift 5 = .ok (.istore_n 3, 1) := by decide +kernel
theorem dX12_lift_6 : decode cX12_lift 6 = .ok (.iload_n 3, 1) := by decide +kernel
theorem dX12_lift_7 : decode cX12_lift 7 = .ok (.ifCond .ge 25, 3) := by decide +kernel
theorem dX12_lift_10 : decode cX12_lift 10 = .ok (.aload_n 0, 1) := by decide +kernel
theorem dX12_lift_11 : decode cX12_lift 11 = .ok (.getfield 7, 3) := by decide +kernel
theorem dX12_lift_14 : decode cX12_lift 14 = .ok (.iload_n 1, 1) := by decide +kernel
theorem dX12_lift_15 : decode cX12_lift 15 = .ok (.invokestatic 74, 3) := by decide +kernel
theorem dX12_lift_18 : decode cX12_lift 18 = .ok (.iaload, 1) := by decide +kernel
theorem dX12_lift_19 : decode cX12_lift 19 = .ok (.aload_n 0, 1) := by decide +kernel
theorem dX12_lift_20 : decode cX12_lift 20 = .ok (.getfield 7, 3) := by decide +kernel
theorem dX12_lift_23 : decode cX12_lift 23 = .ok (.iload_n 1, 1) := by decide +kernel
theorem dX12_lift_24 : decode cX12_lift 24 = .ok (.invokestatic 74, 3) := by decide +kernel
theorem dX12_lift_27 : decode cX12_lift 27 = .ok (.iconst 1, 1) := by decide +kernel
theorem dX12_lift_28 : decode cX12_lift 28 = .ok (.iadd, 1) := by decide +kernel
theorem dX12_lift_29 : decode cX12_lift 29 = .ok (.iaload, 1) := by decide +kernel
theorem dX12_lift_30 : decode cX12_lift 30 = .ok (.imul, 1) := by decide +kernel
theorem dX12_lift_31 : decode cX12_lift 31 = .ok (.ireturn, 1) := by decide +kernel
theorem dX12_lift_32 : decode cX12_lift 32 = .ok (.aload_n 0, 1) := by decide +kernel
theorem dX12_lift_33 : decode cX12_lift 33 = .ok (.iload_n 1, 1) := by decide +kernel
theorem dX12_lift_34 : decode cX12_lift 34 = .ok (.iload_n 2, 1) := by decide +kernel
theorem dX12_lift_35 : decode cX12_lift 35 = .ok (.invokevirtual 262, 3) := by decide +kernel
theorem dX12_lift_38 : decode cX12_lift 38 = .ok (.aload_n 0, 1) := by decide +kernel
theorem dX12_lift_39 : decode cX12_lift 39 = .ok (.iload_n 3, 1) := by decide +kernel
theorem dX12_lift_40 : decode cX12_lift 40 = .ok (.invokevirtual 265, 3) := by decide +kernel
theorem dX12_lift_43 : decode cX12_lift 43 = .ok (.aload_n 0, 1) := by decide +kernel
theorem dX12_lift_44 : decode cX12_lift 44 = .ok (.getfield 35, 3) := by decide +kernel
theorem dX12_lift_47 : decode cX12_lift 47 = .ok (.iconst 0, 1) := by decide +kernel
theorem dX12_lift_48 : decode cX12_lift 48 = .ok (.laload, 1) := by decide +kernel
theorem dX12_lift_49 : decode cX12_lift 49 = .ok (.iconst 0, 1) := by decide +kernel
theorem dX12_lift_50 : decode cX12_lift 50 = .ok (.sipush 9999, 3) := by decide +kernel
theorem dX12_lift_53 : decode cX12_lift 53 = .ok (.invokestatic 268, 3) := by decide +kernel
theorem dX12_lift_56 : decode cX12_lift 56 = .ok (.ireturn, 1) := by decide +kernel
theorem dX12_quarries_0 : decode cX12_quarries 0 = .ok (.aload_n 0, 1) := by decide +kernel
theorem dX12_quarries_1 : decode cX12_quarries 1 = .ok (.iconst 2, 1) := by decide +kernel
theorem dX12_quarries_2 : decode cX12_quarries 2 = .ok (.invokevirtual 259, 3) := by decide +kernel
theorem dX12_quarries_5 : decode cX12_quarries 5 = .ok (.istore_n 2, 1) := by decide +kernel
theorem dX12_quarries_6 : decode cX12_quarries 6 = .ok (.iconst 0, 1) := by decide +kernel
theorem dX12_quarries_7 : decode cX12_quarries 7 = .ok (.istore_n 3, 1) := by decide +kernel
theorem dX12_quarries_8 : decode cX12_quarries 8 = .ok (.iconst 0, 1) := by decide +kernel
theorem dX12_quarries_9 : decode cX12_quarries 9 = .ok (.istore 4, 2) := by decide +kernel
theorem dX12_quarries_11 : decode cX12_quarries 11 = .ok (.iload 4, 2) := by decide +kernel
theorem dX12_quarries_13 : decode cX12_quarries 13 = .ok (.bipush 6, 2) := by decide +kernel
theorem dX12_quarries_15 : decode cX12_quarries 15 = .ok (.if_icmp .ge 59, 3) := by decide +kernel
theorem dX12_quarries_18 : decode cX12_quarries 18 = .ok (.iconst 1, 1) := by decide +kernel
theorem dX12_quarries_19 : decode cX12_quarries 19 = .ok (.istore 5, 2) := by decide +kernel
theorem dX12_quarries_21 : decode cX12_quarries 21 = .ok (.iload_n 2, 1) := by decide +kernel
theorem dX12_quarries_22 : decode cX12_quarries 22 = .ok (.ifCond .lt 30, 3) := by decide +kernel
theorem dX12_quarries_25 : decode cX12_quarries 25 = .ok (.aload_n 0, 1) := by decide +kernel
theorem dX12_quarries_26 : decode cX12_quarries 26 = .ok (.iload_n 1, 1) := by decide +kernel
theorem dX12_quarries_27 : decode cX12_quarries 27 = .ok (.invokevirtual 246, 3) := by decide +kernel
theorem dX12_quarries_30 : decode cX12_quarries 30 = .ok (.aload_n 0, 1) := by decide +kernel
theorem dX12_quarries_31 : decode cX12_quarries 31 = .ok (.getfield 32, 3) := by decide +kernel
theorem dX12_quarries_34 : decode cX12_quarries 34 = .ok (.bipush 7, 2) := by decide +kernel
theorem dX12_quarries_36 : decode cX12_quarries 36 = .ok (.iload 4, 2) := by decide +kernel
theorem dX12_quarries_38 : decode cX12_quarries 38 = .ok (.iastore, 1) := by decide +kernel
theorem dX12_quarries_39 : decode cX12_quarries 39 = .ok (.aload_n 0, 1) := by decide +kernel
theorem dX12_quarries_40 : decode cX12_quarries 40 = .ok (.iload_n 2, 1) := by decide +kernel
theorem dX12_quarries_41 : decode cX12_quarries 41 = .ok (.invokevirtual 265, 3) := by decide +kernel
theorem dX12_quarries_44 : decode cX12_quarries 44 = .ok (.aload_n 0, 1) := by decide +kernel
theorem dX12_quarries_45 : decode cX12_quarries 45 = .ok (.getfield 39, 3) := by decide +kernel
theorem dX12_quarries_48 : decode cX12_quarries 48 = .ok (.iconst 0, 1) := by decide +kernel
theorem dX12_quarries_49 : decode cX12_quarries 49 = .ok (.baload, 1) := by decide +kernel
theorem dX12_quarries_50 : decode cX12_quarries 50 = .ok (.istore 5, 2) := by decide +kernel
theorem dX12_quarries_52 : decode cX12_quarries 52 = .ok (.iload_n 3, 1) := by decide +kernel
theorem dX12_quarries_53 : decode cX12_quarries 53 = .ok (.iload 5, 2) := by decide +kernel
theorem dX12_quarries_55 : decode cX12_quarries 55 = .ok (.ifCond .eq 10, 3) := by decide +kernel
theorem dX12_quarries_58 : decode cX12_quarries 58 = .ok (.iconst 1, 1) := by decide +kernel
theorem dX12_quarries_59 : decode cX12_quarries 59 = .ok (.iload 4, 2) := by decide +kernel
theorem dX12_quarries_61 : decode cX12_quarries 61 = .ok (.ishl, 1) := by decide +kernel
theorem dX12_quarries_62 : decode cX12_quarries 62 = .ok (.goto 4, 3) := by decide +kernel
theorem dX12_quarries_65 : decode cX12_quarries 65 = .ok (.iconst 0, 1) := by decide +kernel
theorem dX12_quarries_66 : decode cX12_quarries 66 = .ok (.ior, 1) := by decide +kernel
theorem dX12_quarries_67 : decode cX12_quarries 67 = .ok (.istore_n 3, 1) := by decide +kernel
theorem dX12_quarries_68 : decode cX12_quarries 68 = .ok (.iinc 4 1, 3) := by decide +kernel
theorem dX12_quarries_71 : decode cX12_quarries 71 = .ok (.goto (-60), 3) := by decide +kernel
theorem dX12_quarries_74 : decode cX12_quarries 74 = .ok (.iload_n 3, 1) := by decide +kernel
theorem dX12_quarries_75 : decode cX12_quarries 75 = .ok (.ireturn, 1) := by decide +kernel
theorem dX12_of_0 : decode cX12_of 0 = .ok (.aload_n 0, 1) := by decide +kernel
theorem dX12_of_1 : decode cX12_of 1 = .ok (.iload_n 1, 1) := by decide +kernel
theorem dX12_of_2 : decode cX12_of 2 = .ok (.invokevirtual 272, 3) := by decide +kernel
theorem dX12_of_5 : decode cX12_of 5 = .ok (.ifCond .ne 5, 3) := by decide +kernel
theorem dX12_of_8 : decode cX12_of 8 = .ok (.iconst (-1), 1) := by decide +kernel
theorem dX12_of_9 : decode cX12_of 9 = .ok (.ireturn, 1) := by decide +kernel
theorem dX12_of_10 : decode cX12_of 10 = .ok (.aload_n 0, 1) := by decide +kernel
theorem dX12_of_11 : decode cX12_of 11 = .ok (.getfield 7, 3) := by decide +kernel
theorem dX12_of_14 : decode cX12_of 14 = .ok (.iconst 1, 1) := by decide +kernel
theorem dX12_of_15 : decode cX12_of 15 = .ok (.iaload, 1) := by decide +kernel
theorem dX12_of_16 : decode cX12_of 16 = .ok (.iconst 1, 1) := by decide +kernel
theorem dX12_of_17 : decode cX12_of 17 = .ok (.iload_n 1, 1) := by decide +kernel
theorem dX12_of_18 : decode cX12_of 18 = .ok (.ishl, 1) := by decide +kernel
theorem dX12_of_19 : decode cX12_of 19 = .ok (.iconst (-1), 1) := by decide +kernel
theorem dX12_of_20 : decode cX12_of 20 = .ok (.ixor, 1) := by decide +kernel
theorem dX12_of_21 : decode cX12_of 21 = .ok (.iand, 1) := by decide +kernel
theorem dX12_of_22 : decode cX12_of 22 = .ok (.istore_n 3, 1) := by decide +kernel
theorem dX12_of_23 : decode cX12_of 23 = .ok (.iload_n 2, 1) := by decide +kernel
theorem dX12_of_24 : decode cX12_of 24 = .ok (.tableswitch 103 0 4 #[36, 55, 75, 82, 88], 36) := by decide +kernel
theorem dX12_of_60 : decode cX12_of 60 = .ok (.aload_n 0, 1) := by decide +kernel
theorem dX12_of_61 : decode cX12_of 61 = .ok (.getfield 7, 3) := by decide +kernel
theorem dX12_of_64 : decode cX12_of 64 = .ok (.iconst 1, 1) := by decide +kernel
theorem dX12_of_65 : decode cX12_of 65 = .ok (.iaload, 1) := by decide +kernel
theorem dX12_of_66 : decode cX12_of 66 = .ok (.iload_n 1, 1) := by decide +kernel
theorem dX12_of_67 : decode cX12_of 67 = .ok (.invokestatic 249, 3) := by decide +kernel
theorem dX12_of_70 : decode cX12_of 70 = .ok (.ifCond .eq 7, 3) := by decide +kernel
theorem dX12_of_73 : decode cX12_of 73 = .ok (.iconst 1, 1) := by decide +kernel
theorem dX12_of_74 : decode cX12_of 74 = .ok (.goto 4, 3) := by decide +kernel
theorem dX12_of_77 : decode cX12_of 77 = .ok (.iconst 0, 1) := by decide +kernel
theorem dX12_of_78 : decode cX12_of 78 = .ok (.ireturn, 1) := by decide +kernel
theorem dX12_of_79 : decode cX12_of 79 = .ok (.aload_n 0, 1) := by decide +kernel
theorem dX12_of_80 : decode cX12_of 80 = .ok (.iload_n 1, 1) := by decide +kernel
theorem dX12_of_81 : decode cX12_of 81 = .ok (.aload_n 0, 1) := by decide +kernel
theorem dX12_of_82 : decode cX12_of 82 = .ok (.getfield 7, 3) := by decide +kernel
theorem dX12_of_85 : decode cX12_of 85 = .ok (.iconst 1, 1) := by decide +kernel
theorem dX12_of_86 : decode cX12_of 86 = .ok (.iaload, 1) := by decide +kernel
theorem dX12_of_87 : decode cX12_of 87 = .ok (.invokevirtual 275, 3) := by decide +kernel
theorem dX12_of_90 : decode cX12_of 90 = .ok (.ifCond .eq 7, 3) := by decide +kernel
theorem dX12_of_93 : decode cX12_of 93 = .ok (.iconst 1, 1) := by decide +kernel
theorem dX12_of_94 : decode cX12_of 94 = .ok (.goto 4, 3) := by decide +kernel
theorem dX12_of_97 : decode cX12_of 97 = .ok (.iconst 0, 1) := by decide +kernel
theorem dX12_of_98 : decode cX12_of 98 = .ok (.ireturn, 1) := by decide +kernel
theorem dX12_of_99 : decode cX12_of 99 = .ok (.aload_n 0, 1) := by decide +kernel
theorem dX12_of_100 : decode cX12_of 100 = .ok (.iload_n 1, 1) := by decide +kernel
theorem dX12_of_101 : decode cX12_of 101 = .ok (.iload_n 3, 1) := by decide +kernel
theorem dX12_of_102 : decode cX12_of 102 = .ok (.invokevirtual 278, 3) := by decide +kernel
theorem dX12_of_105 : decode cX12_of 105 = .ok (.ireturn, 1) := by decide +kernel
theorem dX12_of_106 : decode cX12_of 106 = .ok (.aload_n 0, 1) := by decide +kernel
theorem dX12_of_107 : decode cX12_of 107 = .ok (.iload_n 1, 1) := by decide +kernel
theorem dX12_of_108 : decode cX12_of 108 = .ok (.invokevirtual 281, 3) := by decide +kernel
theorem dX12_of_111 : decode cX12_of 111 = .ok (.ireturn, 1) := by decide +kernel
theorem dX12_of_112 : decode cX12_of 112 = .ok (.aload_n 0, 1) := by decide +kernel
theorem dX12_of_113 : decode cX12_of 113 = .ok (.iload_n 1, 1) := by decide +kernel
theorem dX12_of_114 : decode cX12_of 114 = .ok (.iload_n 3, 1) := by decide +kernel
theorem dX12_of_115 : decode cX12_of 115 = .ok (.invokevirtual 253, 3) := by decide +kernel
theorem dX12_of_118 : decode cX12_of 118 = .ok (.ifCond .eq 7, 3) := by decide +kernel
theorem dX12_of_121 : decode cX12_of 121 = .ok (.iconst 1, 1) := by decide +kernel
theorem dX12_of_122 : decode cX12_of 122 = .ok (.goto 4, 3) := by decide +kernel
theorem dX12_of_125 : decode cX12_of 125 = .ok (.iconst 0, 1) := by decide +kernel
theorem dX12_of_126 : decode cX12_of 126 = .ok (.ireturn, 1) := by decide +kernel
theorem dX12_of_127 : decode cX12_of 127 = .ok (.iconst (-1), 1) := by decide +kernel
theorem dX12_of_128 : decode cX12_of 128 = .ok (.ireturn, 1) := by decide +kernel
theorem dX12_keep_0 : decode cX12_keep 0 = .ok (.aload_n 0, 1) := by decide +kernel
theorem dX12_keep_1 : decode cX12_keep 1 = .ok (.getfield 7, 3) := by decide +kernel
theorem dX12_keep_4 : decode cX12_keep 4 = .ok (.bipush 6, 2) := by decide +kernel
theorem dX12_keep_6 : decode cX12_keep 6 = .ok (.iaload, 1) := by decide +kernel
theorem dX12_keep_7 : decode cX12_keep 7 = .ok (.bipush 30, 2) := by decide +kernel
theorem dX12_keep_9 : decode cX12_keep 9 = .ok (.if_icmp .ne 48, 3) := by decide +kernel
theorem dX12_keep_12 : decode cX12_keep 12 = .ok (.iconst 0, 1) := by decide +kernel
theorem dX12_keep_13 : decode cX12_keep 13 = .ok (.istore_n 1, 1) := by decide +kernel
theorem dX12_keep_14 : decode cX12_keep 14 = .ok (.iload_n 1, 1) := by decide +kernel
theorem dX12_keep_15 : decode cX12_keep 15 = .ok (.sipush 638, 3) := by decide +kernel
theorem dX12_keep_18 : decode cX12_keep 18 = .ok (.if_icmp .ge 28, 3) := by decide +kernel
theorem dX12_keep_21 : decode cX12_keep 21 = .ok (.aload_n 0, 1) := by decide +kernel
theorem dX12_keep_22 : decode cX12_keep 22 = .ok (.getfield 7, 3) := by decide +kernel
theorem dX12_keep_25 : decode cX12_keep 25 = .ok (.bipush 120, 2) := by decide +kernel
theorem dX12_keep_27 : decode cX12_keep 27 = .ok (.iload_n 1, 1) := by decide +kernel
theorem dX12_keep_28 : decode cX12_keep 28 = .ok (.iadd, 1) := by decide +kernel
theorem dX12_keep_29 : decode cX12_keep 29 = .ok (.aload_n 0, 1) := by decide +kernel
theorem dX12_keep_30 : decode cX12_keep 30 = .ok (.getfield 7, 3) := by decide +kernel
theorem dX12_keep_33 : decode cX12_keep 33 = .ok (.sipush 142, 3) := by decide +kernel
theorem dX12_keep_36 : decode cX12_keep 36 = .ok (.iload_n 1, 1) := by decide +kernel
theorem dX12_keep_37 : decode cX12_keep 37 = .ok (.iadd, 1) := by decide +kernel
theorem dX12_keep_38 : decode cX12_keep 38 = .ok (.iaload, 1) := by decide +kernel
theorem dX12_keep_39 : decode cX12_keep 39 = .ok (.iastore, 1) := by decide +kernel
theorem dX12_keep_40 : decode cX12_keep 40 = .ok (.iinc 1 1, 3) := by decide +kernel
theorem dX12_keep_43 : decode cX12_keep 43 = .ok (.goto (-29), 3) := by decide +kernel
theorem dX12_keep_46 : decode cX12_keep 46 = .ok (.aload_n 0, 1) := by decide +kernel
theorem dX12_keep_47 : decode cX12_keep 47 = .ok (.getfield 7, 3) := by decide +kernel
theorem dX12_keep_50 : decode cX12_keep 50 = .ok (.bipush 6, 2) := by decide +kernel
theorem dX12_keep_52 : decode cX12_keep 52 = .ok (.dup2, 1) := by decide +kernel
theorem dX12_keep_53 : decode cX12_keep 53 = .ok (.iaload, 1) := by decide +kernel
theorem dX12_keep_54 : decode cX12_keep 54 = .ok (.iconst 1, 1) := by decide +kernel
theorem dX12_keep_55 : decode cX12_keep 55 = .ok (.isub, 1) := by decide +kernel
theorem dX12_keep_56 : decode cX12_keep 56 = .ok (.iastore, 1) := by decide +kernel
theorem dX12_keep_57 : decode cX12_keep 57 = .ok (.bipush 120, 2) := by decide +kernel
theorem dX12_keep_59 : decode cX12_keep 59 = .ok (.bipush 22, 2) := by decide +kernel
theorem dX12_keep_61 : decode cX12_keep 61 = .ok (.aload_n 0, 1) := by decide +kernel
theorem dX12_keep_62 : decode cX12_keep 62 = .ok (.getfield 7, 3) := by decide +kernel
theorem dX12_keep_65 : decode cX12_keep 65 = .ok (.bipush 6, 2) := by decide +kernel
theorem dX12_keep_67 : decode cX12_keep 67 = .ok (.iaload, 1) := by decide +kernel
theorem dX12_keep_68 : decode cX12_keep 68 = .ok (.imul, 1) := by decide +kernel
theorem dX12_keep_69 : decode cX12_keep 69 = .ok (.iadd, 1) := by decide +kernel
theorem dX12_keep_70 : decode cX12_keep 70 = .ok (.istore_n 1, 1) := by decide +kernel
theorem dX12_keep_71 : decode cX12_keep 71 = .ok (.aload_n 0, 1) := by decide +kernel
theorem dX12_keep_72 : decode cX12_keep 72 = .ok (.getfield 7, 3) := by decide +kernel
theorem dX12_keep_75 : decode cX12_keep 75 = .ok (.iload_n 1, 1) := by decide +kernel
theorem dX12_keep_76 : decode cX12_keep 76 = .ok (.aload_n 0, 1) := by decide +kernel
theorem dX12_keep_77 : decode cX12_keep 77 = .ok (.getfield 7, 3) := by decide +kernel
theorem dX12_keep_80 : decode cX12_keep 80 = .ok (.iconst 1, 1) := by decide +kernel
theorem dX12_keep_81 : decode cX12_keep 81 = .ok (.iaload, 1) := by decide +kernel
theorem dX12_keep_82 : decode cX12_keep 82 = .ok (.iastore, 1) := by decide +kernel
theorem dX12_keep_83 : decode cX12_keep 83 = .ok (.aload_n 0, 1) := by decide +kernel
theorem dX12_keep_84 : decode cX12_keep 84 = .ok (.getfield 7, 3) := by decide +kernel
theorem dX12_keep_87 : decode cX12_keep 87 = .ok (.iload_n 1, 1) := by decide +kernel
theorem dX12_keep_88 : decode cX12_keep 88 = .ok (.iconst 1, 1) := by decide +kernel
theorem dX12_keep_89 : decode cX12_keep 89 = .ok (.iadd, 1) := by decide +kernel
theorem dX12_keep_90 : decode cX12_keep 90 = .ok (.aload_n 0, 1) := by decide +kernel
theorem dX12_keep_91 : decode cX12_keep 91 = .ok (.getfield 7, 3) := by decide +kernel
theorem dX12_keep_94 : decode cX12_keep 94 = .ok (.iconst 3, 1) := by decide +kernel
theorem dX12_keep_95 : decode cX12_keep 95 = .ok (.iaload, 1) := by decide +kernel
theorem dX12_keep_96 : decode cX12_keep 96 = .ok (.iastore, 1) := by decide +kernel
theorem dX12_keep_97 : decode cX12_keep 97 = .ok (.iconst 0, 1) := by decide +kernel
theorem dX12_keep_98 : decode cX12_keep 98 = .ok (.istore_n 2, 1) := by decide +kernel
theorem dX12_keep_99 : decode cX12_keep 99 = .ok (.iload_n 2, 1) := by decide +kernel
theorem dX12_keep_100 : decode cX12_keep 100 = .ok (.bipush 10, 2) := by decide +kernel
theorem dX12_keep_102 : decode cX12_keep 102 = .ok (.if_icmp .ge 53, 3) := by decide +kernel
theorem dX12_keep_105 : decode cX12_keep 105 = .ok (.aload_n 0, 1) := by decide +kernel
theorem dX12_keep_106 : decode cX12_keep 106 = .ok (.getfield 7, 3) := by decide +kernel
theorem dX12_keep_109 : decode cX12_keep 109 = .ok (.iload_n 1, 1) := by decide +kernel
theorem dX12_keep_110 : decode cX12_keep 110 = .ok (.iconst 2, 1) := by decide +kernel
theorem dX12_keep_111 : decode cX12_keep 111 = .ok (.iadd, 1) := by decide +kernel
theorem dX12_keep_112 : decode cX12_keep 112 = .ok (.iconst 2, 1) := by decide +kernel
theorem dX12_keep_113 : decode cX12_keep 113 = .ok (.iload_n 2, 1) := by decide +kernel
theorem dX12_keep_114 : decode cX12_keep 114 = .ok (.imul, 1) := by decide +kernel
theorem dX12_keep_115 : decode cX12_keep 115 = .ok (.iadd, 1) := by decide +kernel
theorem dX12_keep_116 : decode cX12_keep 116 = .ok (.aload_n 0, 1) := by decide +kernel
theorem dX12_keep_117 : decode cX12_keep 117 = .ok (.getfield 7, 3) := by decide +kernel
theorem dX12_keep_120 : decode cX12_keep 120 = .ok (.iload_n 2, 1) := by decide +kernel
theorem dX12_keep_121 : decode cX12_keep 121 = .ok (.invokestatic 77, 3) := by decide +kernel
theorem dX12_keep_124 : decode cX12_keep 124 = .ok (.iaload, 1) := by decide +kernel
theorem dX12_keep_125 : decode cX12_keep 125 = .ok (.iastore, 1) := by decide +kernel
theorem dX12_keep_126 : decode cX12_keep 126 = .ok (.aload_n 0, 1) := by decide +kernel
theorem dX12_keep_127 : decode cX12_keep 127 = .ok (.getfield 7, 3) := by decide +kernel
theorem dX12_keep_130 : decode cX12_keep 130 = .ok (.iload_n 1, 1) := by decide +kernel
theorem dX12_keep_131 : decode cX12_keep 131 = .ok (.iconst 3, 1) := by decide +kernel
theorem dX12_keep_132 : decode cX12_keep 132 = .ok (.iadd, 1) := by decide +kernel
theorem dX12_keep_133 : decode cX12_keep 133 = .ok (.iconst 2, 1) := by decide +kernel
theorem dX12_keep_134 : decode cX12_keep 134 = .ok (.iload_n 2, 1) := by decide +kernel
theorem dX12_keep_135 : decode cX12_keep 135 = .ok (.imul, 1) := by decide +kernel
theorem dX12_keep_136 : decode cX12_keep 136 = .ok (.iadd, 1) := by decide +kernel
theorem dX12_keep_137 : decode cX12_keep 137 = .ok (.aload_n 0, 1) := by decide +kernel
theorem dX12_keep_138 : decode cX12_keep 138 = .ok (.getfield 7, 3) := by decide +kernel
theorem dX12_keep_141 : decode cX12_keep 141 = .ok (.iload_n 2, 1) := by decide +kernel
theorem dX12_keep_142 : decode cX12_keep 142 = .ok (.invokestatic 77, 3) := by decide +kernel
theorem dX12_keep_145 : decode cX12_keep 145 = .ok (.iconst 1, 1) := by decide +kernel
theorem dX12_keep_146 : decode cX12_keep 146 = .ok (.iadd, 1) := by decide +kernel
theorem dX12_keep_147 : decode cX12_keep 147 = .ok (.iaload, 1) := by decide +kernel
theorem dX12_keep_148 : decode cX12_keep 148 = .ok (.iastore, 1) := by decide +kernel
theorem dX12_keep_149 : decode cX12_keep 149 = .ok (.iinc 2 1, 3) := by decide +kernel
theorem dX12_keep_152 : decode cX12_keep 152 = .ok (.goto (-53), 3) := by decide +kernel
theorem dX12_keep_155 : decode cX12_keep 155 = .ok (.aload_n 0, 1) := by decide +kernel
theorem dX12_keep_156 : decode cX12_keep 156 = .ok (.getfield 7, 3) := by decide +kernel
theorem dX12_keep_159 : decode cX12_keep 159 = .ok (.bipush 6, 2) := by decide +kernel
theorem dX12_keep_161 : decode cX12_keep 161 = .ok (.dup2, 1) := by decide +kernel
theorem dX12_keep_162 : decode cX12_keep 162 = .ok (.iaload, 1) := by decide +kernel
theorem dX12_keep_163 : decode cX12_keep 163 = .ok (.iconst 1, 1) := by decide +kernel
theorem dX12_keep_164 : decode cX12_keep 164 = .ok (.iadd, 1) := by decide +kernel
theorem dX12_keep_165 : decode cX12_keep 165 = .ok (.iastore, 1) := by decide +kernel
theorem dX12_keep_166 : decode cX12_keep 166 = .ok (.return_, 1) := by decide +kernel
theorem dX12_undo_0 : decode cX12_undo 0 = .ok (.aload_n 0, 1) := by decide +kernel
theorem dX12_undo_1 : decode cX12_undo 1 = .ok (.getfield 7, 3) := by decide +kernel
theorem dX12_undo_4 : decode cX12_undo 4 = .ok (.bipush 6, 2) := by decide +kernel
theorem dX12_undo_6 : decode cX12_undo 6 = .ok (.iaload, 1) := by decide +kernel
theorem dX12_undo_7 : decode cX12_undo 7 = .ok (.ifCond .ne 5, 3) := by decide +kernel
theorem dX12_undo_10 : decode cX12_undo 10 = .ok (.iconst (-1), 1) := by decide +kernel
theorem dX12_undo_11 : decode cX12_undo 11 = .ok (.ireturn, 1) := by decide +kernel
theorem dX12_undo_12 : decode cX12_undo 12 = .ok (.aload_n 0, 1) := by decide +kernel
theorem dX12_undo_13 : decode cX12_undo 13 = .ok (.getfield 7, 3) := by decide +kernel
theorem dX12_undo_16 : decode cX12_undo 16 = .ok (.bipush 6, 2) := by decide +kernel
theorem dX12_undo_18 : decode cX12_undo 18 = .ok (.dup2, 1) := by decide +kernel
theorem dX12_undo_19 : decode cX12_undo 19 = .ok (.iaload, 1) := by decide +kernel
theorem dX12_undo_20 : decode cX12_undo 20 = .ok (.iconst 1, 1) := by decide +kernel
theorem dX12_undo_21 : decode cX12_undo 21 = .ok (.isub, 1) := by decide +kernel
theorem dX12_undo_22 : decode cX12_undo 22 = .ok (.iastore, 1) := by decide +kernel
theorem dX12_undo_23 : decode cX12_undo 23 = .ok (.bipush 120, 2) := by decide +kernel
theorem dX12_undo_25 : decode cX12_undo 25 = .ok (.bipush 22, 2) := by decide +kernel
theorem dX12_undo_27 : decode cX12_undo 27 = .ok (.aload_n 0, 1) := by decide +kernel
theorem dX12_undo_28 : decode cX12_undo 28 = .ok (.getfield 7, 3) := by decide +kernel
theorem dX12_undo_31 : decode cX12_undo 31 = .ok (.bipush 6, 2) := by decide +kernel
theorem dX12_undo_33 : decode cX12_undo 33 = .ok (.iaload, 1) := by decide +kernel
theorem dX12_undo_34 : decode cX12_undo 34 = .ok (.imul, 1) := by decide +kernel
theorem dX12_undo_35 : decode cX12_undo 35 = .ok (.iadd, 1) := by decide +kernel
theorem dX12_undo_36 : decode cX12_undo 36 = .ok (.istore_n 1, 1) := by decide +kernel
theorem dX12_undo_37 : decode cX12_undo 37 = .ok (.aload_n 0, 1) := by decide +kernel
theorem dX12_undo_38 : decode cX12_undo 38 = .ok (.getfield 7, 3) := by decide +kernel
theorem dX12_undo_41 : decode cX12_undo 41 = .ok (.iconst 1, 1) := by decide +kernel
theorem dX12_undo_42 : decode cX12_undo 42 = .ok (.aload_n 0, 1) := by decide +kernel
theorem dX12_undo_43 : decode cX12_undo 43 = .ok (.getfield 7, 3) := by decide +kernel
theorem dX12_undo_46 : decode cX12_undo 46 = .ok (.iload_n 1, 1) := by decide +kernel
theorem dX12_undo_47 : decode cX12_undo 47 = .ok (.iaload, 1) := by decide +kernel
theorem dX12_undo_48 : decode cX12_undo 48 = .ok (.iastore, 1) := by decide +kernel
theorem dX12_undo_49 : decode cX12_undo 49 = .ok (.iconst 0, 1) := by decide +kernel
theorem dX12_undo_50 : decode cX12_undo 50 = .ok (.istore_n 2, 1) := by decide +kernel
theorem dX12_undo_51 : decode cX12_undo 51 = .ok (.iload_n 2, 1) := by decide +kernel
theorem dX12_undo_52 : decode cX12_undo 52 = .ok (.aload_n 0, 1) := by decide +kernel
theorem dX12_undo_53 : decode cX12_undo 53 = .ok (.getfield 7, 3) := by decide +kernel
theorem dX12_undo_56 : decode cX12_undo 56 = .ok (.iload_n 1, 1) := by decide +kernel
theorem dX12_undo_57 : decode cX12_undo 57 = .ok (.iconst 1, 1) := by decide +kernel
theorem dX12_undo_58 : decode cX12_undo 58 = .ok (.iadd, 1) := by decide +kernel
theorem dX12_undo_59 : decode cX12_undo 59 = .ok (.iaload, 1) := by decide +kernel
theorem dX12_undo_60 : decode cX12_undo 60 = .ok (.if_icmp .ge 53, 3) := by decide +kernel
theorem dX12_undo_63 : decode cX12_undo 63 = .ok (.aload_n 0, 1) := by decide +kernel
theorem dX12_undo_64 : decode cX12_undo 64 = .ok (.getfield 7, 3) := by decide +kernel
theorem dX12_undo_67 : decode cX12_undo 67 = .ok (.iload_n 2, 1) := by decide +kernel
theorem dX12_undo_68 : decode cX12_undo 68 = .ok (.invokestatic 77, 3) := by decide +kernel
theorem dX12_undo_71 : decode cX12_undo 71 = .ok (.aload_n 0, 1) := by decide +kernel
theorem dX12_undo_72 : decode cX12_undo 72 = .ok (.getfield 7, 3) := by decide +kernel
theorem dX12_undo_75 : decode cX12_undo 75 = .ok (.iload_n 1, 1) := by decide +kernel
theorem dX12_undo_76 : decode cX12_undo 76 = .ok (.iconst 2, 1) := by decide +kernel
theorem dX12_undo_77 : decode cX12_undo 77 = .ok (.iadd, 1) := by decide +kernel
theorem dX12_undo_78 : decode cX12_undo 78 = .ok (.iconst 2, 1) := by decide +kernel
theorem dX12_undo_79 : decode cX12_undo 79 = .ok (.iload_n 2, 1) := by decide +kernel
theorem dX12_undo_80 : decode cX12_undo 80 = .ok (.imul, 1) := by decide +kernel
theorem dX12_undo_81 : decode cX12_undo 81 = .ok (.iadd, 1) := by decide +kernel
theorem dX12_undo_82 : decode cX12_undo 82 = .ok (.iaload, 1) := by decide +kernel
theorem dX12_undo_83 : decode cX12_undo 83 = .ok (.iastore, 1) := by decide +kernel
theorem dX12_undo_84 : decode cX12_undo 84 = .ok (.aload_n 0, 1) := by decide +kernel
theorem dX12_undo_85 : decode cX12_undo 85 = .ok (.getfield 7, 3) := by decide +kernel
theorem dX12_undo_88 : decode cX12_undo 88 = .ok (.iload_n 2, 1) := by decide +kernel
theorem dX12_undo_89 : decode cX12_undo 89 = .ok (.invokestatic 77, 3) := by decide +kernel
theorem dX12_undo_92 : decode cX12_undo 92 = .ok (.iconst 1, 1) := by decide +kernel
theorem dX12_undo_93 : decode cX12_undo 93 = .ok (.iadd, 1) := by decide +kernel
theorem dX12_undo_94 : decode cX12_undo 94 = .ok (.aload_n 0, 1) := by decide +kernel
theorem dX12_undo_95 : decode cX12_undo 95 = .ok (.getfield 7, 3) := by decide +kernel
theorem dX12_undo_98 : decode cX12_undo 98 = .ok (.iload_n 1, 1) := by decide +kernel
theorem dX12_undo_99 : decode cX12_undo 99 = .ok (.iconst 3, 1) := by decide +kernel
theorem dX12_undo_100 : decode cX12_undo 100 = .ok (.iadd, 1) := by decide +kernel
theorem dX12_undo_101 : decode cX12_undo 101 = .ok (.iconst 2, 1) := by decide +kernel
theorem dX12_undo_102 : decode cX12_undo 102 = .ok (.iload_n 2, 1) := by decide +kernel
theorem dX12_undo_103 : decode cX12_undo 103 = .ok (.imul, 1) := by decide +kernel
theorem dX12_undo_104 : decode cX12_undo 104 = .ok (.iadd, 1) := by decide +kernel
theorem dX12_undo_105 : decode cX12_undo 105 = .ok (.iaload, 1) := by decide +kernel
theorem dX12_undo_106 : decode cX12_undo 106 = .ok (.iastore, 1) := by decide +kernel
theorem dX12_undo_107 : decode cX12_undo 107 = .ok (.iinc 2 1, 3) := by decide +kernel
theorem dX12_undo_110 : decode cX12_undo 110 = .ok (.goto (-59), 3) := by decide +kernel
theorem dX12_undo_113 : decode cX12_undo 113 = .ok (.aload_n 0, 1) := by decide +kernel
theorem dX12_undo_114 : decode cX12_undo 114 = .ok (.getfield 7, 3) := by decide +kernel
theorem dX12_undo_117 : decode cX12_undo 117 = .ok (.bipush 6, 2) := by decide +kernel
theorem dX12_undo_119 : decode cX12_undo 119 = .ok (.iaload, 1) := by decide +kernel
theorem dX12_undo_120 : decode cX12_undo 120 = .ok (.ireturn, 1) := by decide +kernel
theorem dX12_lay_0 : decode cX12_lay 0 = .ok (.aload_n 0, 1) := by decide +kernel
theorem dX12_lay_1 : decode cX12_lay 1 = .ok (.iload_n 1, 1) := by decide +kernel
theorem dX12_lay_2 : decode cX12_lay 2 = .ok (.invokevirtual 272, 3) := by decide +kernel
theorem dX12_lay_5 : decode cX12_lay 5 = .ok (.ifCond .eq 17, 3) := by decide +kernel
theorem dX12_lay_8 : decode cX12_lay 8 = .ok (.aload_n 0, 1) := by decide +kernel
theorem dX12_lay_9 : decode cX12_lay 9 = .ok (.iload_n 1, 1) := by decide +kernel
theorem dX12_lay_10 : decode cX12_lay 10 = .ok (.aload_n 0, 1) := by decide +kernel
theorem dX12_lay_11 : decode cX12_lay 11 = .ok (.getfield 7, 3) := by decide +kernel
theorem dX12_lay_14 : decode cX12_lay 14 = .ok (.iconst 1, 1) := by decide +kernel
theorem dX12_lay_15 : decode cX12_lay 15 = .ok (.iaload, 1) := by decide +kernel
theorem dX12_lay_16 : decode cX12_lay 16 = .ok (.invokevirtual 275, 3) := by decide +kernel
theorem dX12_lay_19 : decode cX12_lay 19 = .ok (.ifCond .ne 5, 3) := by decide +kernel
theorem dX12_lay_22 : decode cX12_lay 22 = .ok (.iconst (-1), 1) := by decide +kernel
theorem dX12_lay_23 : decode cX12_lay 23 = .ok (.ireturn, 1) := by decide +kernel
theorem dX12_lay_24 : decode cX12_lay 24 = .ok (.aload_n 0, 1) := by decide +kernel
theorem dX12_lay_25 : decode cX12_lay 25 = .ok (.iload_n 1, 1) := by decide +kernel
theorem dX12_lay_26 : decode cX12_lay 26 = .ok (.aload_n 0, 1) := by decide +kernel
theorem dX12_lay_27 : decode cX12_lay 27 = .ok (.getfield 7, 3) := by decide +kernel
theorem dX12_lay_30 : decode cX12_lay 30 = .ok (.iconst 1, 1) := by decide +kernel
theorem dX12_lay_31 : decode cX12_lay 31 = .ok (.iaload, 1) := by decide +kernel
theorem dX12_lay_32 : decode cX12_lay 32 = .ok (.invokevirtual 278, 3) := by decide +kernel
theorem dX12_lay_35 : decode cX12_lay 35 = .ok (.istore_n 2, 1) := by decide +kernel
theorem dX12_lay_36 : decode cX12_lay 36 = .ok (.aload_n 0, 1) := by decide +kernel
theorem dX12_lay_37 : decode cX12_lay 37 = .ok (.invokevirtual 284, 3) := by decide +kernel
theorem dX12_lay_40 : decode cX12_lay 40 = .ok (.aload_n 0, 1) := by decide +kernel
theorem dX12_lay_41 : decode cX12_lay 41 = .ok (.getfield 7, 3) := by decide +kernel
theorem dX12_lay_44 : decode cX12_lay 44 = .ok (.iconst 1, 1) := by decide +kernel
theorem dX12_lay_45 : decode cX12_lay 45 = .ok (.dup2, 1) := by decide +kernel
theorem dX12_lay_46 : decode cX12_lay 46 = .ok (.iaload, 1) := by decide +kernel
theorem dX12_lay_47 : decode cX12_lay 47 = .ok (.iconst 1, 1) := by decide +kernel
theorem dX12_lay_48 : decode cX12_lay 48 = .ok (.iload_n 1, 1) := by decide +kernel
theorem dX12_lay_49 : decode cX12_lay 49 = .ok (.ishl, 1) := by decide +kernel
theorem dX12_lay_50 : decode cX12_lay 50 = .ok (.ior, 1) := by decide +kernel
theorem dX12_lay_51 : decode cX12_lay 51 = .ok (.iastore, 1) := by decide +kernel
theorem dX12_lay_52 : decode cX12_lay 52 = .ok (.iload_n 2, 1) := by decide +kernel
theorem dX12_lay_53 : decode cX12_lay 53 = .ok (.ireturn, 1) := by decide +kernel
theorem dX12_out_0 : decode cX12_out 0 = .ok (.aload_n 0, 1) := by decide +kernel
theorem dX12_out_1 : decode cX12_out 1 = .ok (.iload_n 1, 1) := by decide +kernel
theorem dX12_out_2 : decode cX12_out 2 = .ok (.invokevirtual 272, 3) := by decide +kernel
theorem dX12_out_5 : decode cX12_out 5 = .ok (.ifCond .eq 35, 3) := by decide +kernel
theorem dX12_out_8 : decode cX12_out 8 = .ok (.aload_n 0, 1) := by decide +kernel
theorem dX12_out_9 : decode cX12_out 9 = .ok (.getfield 7, 3) := by decide +kernel
theorem dX12_out_12 : decode cX12_out 12 = .ok (.iconst 1, 1) := by decide +kernel
theorem dX12_out_13 : decode cX12_out 13 = .ok (.iaload, 1) := by decide +kernel
theorem dX12_out_14 : decode cX12_out 14 = .ok (.iload_n 1, 1) := by decide +kernel
theorem dX12_out_15 : decode cX12_out 15 = .ok (.invokestatic 249, 3) := by decide +kernel
theorem dX12_out_18 : decode cX12_out 18 = .ok (.ifCond .eq 22, 3) := by decide +kernel
theorem dX12_out_21 : decode cX12_out 21 = .ok (.aload_n 0, 1) := by decide +kernel
theorem dX12_out_22 : decode cX12_out 22 = .ok (.aload_n 0, 1) := by decide +kernel
theorem dX12_out_23 : decode cX12_out 23 = .ok (.getfield 7, 3) := by decide +kernel
theorem dX12_out_26 : decode cX12_out 26 = .ok (.iconst 1, 1) := by decide +kernel
theorem dX12_out_27 : decode cX12_out 27 = .ok (.iaload, 1) := by decide +kernel
theorem dX12_out_28 : decode cX12_out 28 = .ok (.iconst 1, 1) := by decide +kernel
theorem dX12_out_29 : decode cX12_out 29 = .ok (.iload_n 1, 1) := by decide +kernel
theorem dX12_out_30 : decode cX12_out 30 = .ok (.ishl, 1) := by decide +kernel
theorem dX12_out_31 : decode cX12_out 31 = .ok (.iconst (-1), 1) := by decide +kernel
theorem dX12_out_32 : decode cX12_out 32 = .ok (.ixor, 1) := by decide +kernel
theorem dX12_out_33 : decode cX12_out 33 = .ok (.iand, 1) := by decide +kernel
theorem dX12_out_34 : decode cX12_out 34 = .ok (.invokevirtual 256, 3) := by decide +kernel
theorem dX12_out_37 : decode cX12_out 37 = .ok (.ifCond .ne 5, 3) := by decide +kernel
theorem dX12_out_40 : decode cX12_out 40 = .ok (.iconst (-1), 1) := by decide +kernel
theorem dX12_out_41 : decode cX12_out 41 = .ok (.ireturn, 1) := by decide +kernel
theorem dX12_out_42 : decode cX12_out 42 = .ok (.aload_n 0, 1) := by decide +kernel
theorem dX12_out_43 : decode cX12_out 43 = .ok (.invokevirtual 284, 3) := by decide +kernel
theorem dX12_out_46 : decode cX12_out 46 = .ok (.aload_n 0, 1) := by decide +kernel
theorem dX12_out_47 : decode cX12_out 47 = .ok (.getfield 7, 3) := by decide +kernel
theorem dX12_out_50 : decode cX12_out 50 = .ok (.iconst 1, 1) := by decide +kernel
theorem dX12_out_51 : decode cX12_out 51 = .ok (.dup2, 1) := by decide +kernel
theorem dX12_out_52 : decode cX12_out 52 = .ok (.iaload, 1) := by decide +kernel
theorem dX12_out_53 : decode cX12_out 53 = .ok (.iconst 1, 1) := by decide +kernel
theorem dX12_out_54 : decode cX12_out 54 = .ok (.iload_n 1, 1) := by decide +kernel
theorem dX12_out_55 : decode cX12_out 55 = .ok (.ishl, 1) := by decide +kernel
theorem dX12_out_56 : decode cX12_out 56 = .ok (.iconst (-1), 1) := by decide +kernel
theorem dX12_out_57 : decode cX12_out 57 = .ok (.ixor, 1) := by decide +kernel
theorem dX12_out_58 : decode cX12_out 58 = .ok (.iand, 1) := by decide +kernel
theorem dX12_out_59 : decode cX12_out 59 = .ok (.iastore, 1) := by decide +kernel
theorem dX12_out_60 : decode cX12_out 60 = .ok (.aload_n 0, 1) := by decide +kernel
theorem dX12_out_61 : decode cX12_out 61 = .ok (.getfield 7, 3) := by decide +kernel
theorem dX12_out_64 : decode cX12_out 64 = .ok (.iconst 1, 1) := by decide +kernel
theorem dX12_out_65 : decode cX12_out 65 = .ok (.iaload, 1) := by decide +kernel
theorem dX12_out_66 : decode cX12_out 66 = .ok (.invokestatic 70, 3) := by decide +kernel
theorem dX12_out_69 : decode cX12_out 69 = .ok (.ireturn, 1) := by decide +kernel
theorem dX12_canLend_0 : decode cX12_canLend 0 = .ok (.aload_n 0, 1) := by decide +kernel
theorem dX12_canLend_1 : decode cX12_canLend 1 = .ok (.iload_n 1, 1) := by decide +kernel
theorem dX12_canLend_2 : decode cX12_canLend 2 = .ok (.invokevirtual 80, 3) := by decide +kernel
theorem dX12_canLend_5 : decode cX12_canLend 5 = .ok (.ifCond .eq 45, 3) := by decide +kernel
theorem dX12_canLend_8 : decode cX12_canLend 8 = .ok (.aload_n 0, 1) := by decide +kernel
theorem dX12_canLend_9 : decode cX12_canLend 9 = .ok (.iload_n 2, 1) := by decide +kernel
theorem dX12_canLend_10 : decode cX12_canLend 10 = .ok (.invokevirtual 80, 3) := by decide +kernel
theorem dX12_canLend_13 : decode cX12_canLend 13 = .ok (.ifCond .eq 37, 3) := by decide +kernel
theorem dX12_canLend_16 : decode cX12_canLend 16 = .ok (.aload_n 0, 1) := by decide +kernel
theorem dX12_canLend_17 : decode cX12_canLend 17 = .ok (.getfield 7, 3) := by decide +kernel
theorem dX12_canLend_20 : decode cX12_canLend 20 = .ok (.iload_n 1, 1) := by decide +kernel
theorem dX12_canLend_21 : decode cX12_canLend 21 = .ok (.invokestatic 77, 3) := by decide +kernel
theorem dX12_canLend_24 : decode cX12_canLend 24 = .ok (.iconst 2, 1) := by decide +kernel
theorem dX12_canLend_25 : decode cX12_canLend 25 = .ok (.iadd, 1) := by decide +kernel
theorem dX12_canLend_26 : decode cX12_canLend 26 = .ok (.iaload, 1) := by decide +kernel
theorem dX12_canLend_27 : decode cX12_canLend 27 = .ok (.iload_n 2, 1) := by decide +kernel
theorem dX12_canLend_28 : decode cX12_canLend 28 = .ok (.invokestatic 249, 3) := by decide +kernel
theorem dX12_canLend_31 : decode cX12_canLend 31 = .ok (.ifCond .eq 19, 3) := by decide +kernel
theorem dX12_canLend_34 : decode cX12_canLend 34 = .ok (.aload_n 0, 1) := by decide +kernel
theorem dX12_canLend_35 : decode cX12_canLend 35 = .ok (.getfield 7, 3) := by decide +kernel
theorem dX12_canLend_38 : decode cX12_canLend 38 = .ok (.iload_n 1, 1) := by decide +kernel
theorem dX12_canLend_39 : decode cX12_canLend 39 = .ok (.invokestatic 77, 3) := by decide +kernel
theorem dX12_canLend_42 : decode cX12_canLend 42 = .ok (.iaload, 1) := by decide +kernel
theorem dX12_canLend_43 : decode cX12_canLend 43 = .ok (.ifCond .le 7, 3) := by decide +kernel
theorem dX12_canLend_46 : decode cX12_canLend 46 = .ok (.iconst 1, 1) := by decide +kernel
theorem dX12_canLend_47 : decode cX12_canLend 47 = .ok (.goto 4, 3) := by decide +kernel
theorem dX12_canLend_50 : decode cX12_canLend 50 = .ok (.iconst 0, 1) := by decide +kernel
theorem dX12_canLend_51 : decode cX12_canLend 51 = .ok (.ireturn, 1) := by decide +kernel
theorem dX12_lends_0 : decode cX12_lends 0 = .ok (.aload_n 0, 1) := by decide +kernel
theorem dX12_lends_1 : decode cX12_lends 1 = .ok (.getfield 7, 3) := by decide +kernel
theorem dX12_lends_4 : decode cX12_lends 4 = .ok (.iload_n 1, 1) := by decide +kernel
theorem dX12_lends_5 : decode cX12_lends 5 = .ok (.invokestatic 77, 3) := by decide +kernel
theorem dX12_lends_8 : decode cX12_lends 8 = .ok (.dup2, 1) := by decide +kernel
theorem dX12_lends_9 : decode cX12_lends 9 = .ok (.iaload, 1) := by decide +kernel
theorem dX12_lends_10 : decode cX12_lends 10 = .ok (.iconst 1, 1) := by decide +kernel
theorem dX12_lends_11 : decode cX12_lends 11 = .ok (.isub, 1) := by decide +kernel
theorem dX12_lends_12 : decode cX12_lends 12 = .ok (.iastore, 1) := by decide +kernel
theorem dX12_lends_13 : decode cX12_lends 13 = .ok (.aload_n 0, 1) := by decide +kernel
theorem dX12_lends_14 : decode cX12_lends 14 = .ok (.getfield 7, 3) := by decide +kernel
theorem dX12_lends_17 : decode cX12_lends 17 = .ok (.iload_n 1, 1) := by decide +kernel
theorem dX12_lends_18 : decode cX12_lends 18 = .ok (.invokestatic 77, 3) := by decide +kernel
theorem dX12_lends_21 : decode cX12_lends 21 = .ok (.iconst 1, 1) := by decide +kernel
theorem dX12_lends_22 : decode cX12_lends 22 = .ok (.iadd, 1) := by decide +kernel
theorem dX12_lends_23 : decode cX12_lends 23 = .ok (.dup2, 1) := by decide +kernel
theorem dX12_lends_24 : decode cX12_lends 24 = .ok (.iaload, 1) := by decide +kernel
theorem dX12_lends_25 : decode cX12_lends 25 = .ok (.iconst 1, 1) := by decide +kernel
theorem dX12_lends_26 : decode cX12_lends 26 = .ok (.isub, 1) := by decide +kernel
theorem dX12_lends_27 : decode cX12_lends 27 = .ok (.iastore, 1) := by decide +kernel
theorem dX12_lends_28 : decode cX12_lends 28 = .ok (.aload_n 0, 1) := by decide +kernel
theorem dX12_lends_29 : decode cX12_lends 29 = .ok (.getfield 7, 3) := by decide +kernel
theorem dX12_lends_32 : decode cX12_lends 32 = .ok (.iload_n 2, 1) := by decide +kernel
theorem dX12_lends_33 : decode cX12_lends 33 = .ok (.invokestatic 77, 3) := by decide +kernel
theorem dX12_lends_36 : decode cX12_lends 36 = .ok (.dup2, 1) := by decide +kernel
theorem dX12_lends_37 : decode cX12_lends 37 = .ok (.iaload, 1) := by decide +kernel
theorem dX12_lends_38 : decode cX12_lends 38 = .ok (.iconst 1, 1) := by decide +kernel
theorem dX12_lends_39 : decode cX12_lends 39 = .ok (.iadd, 1) := by decide +kernel
theorem dX12_lends_40 : decode cX12_lends 40 = .ok (.iastore, 1) := by decide +kernel
theorem dX12_lends_41 : decode cX12_lends 41 = .ok (.aload_n 0, 1) := by decide +kernel
theorem dX12_lends_42 : decode cX12_lends 42 = .ok (.getfield 7, 3) := by decide +kernel
theorem dX12_lends_45 : decode cX12_lends 45 = .ok (.iload_n 2, 1) := by decide +kernel
theorem dX12_lends_46 : decode cX12_lends 46 = .ok (.invokestatic 77, 3) := by decide +kernel
theorem dX12_lends_49 : decode cX12_lends 49 = .ok (.iconst 1, 1) := by decide +kernel
theorem dX12_lends_50 : decode cX12_lends 50 = .ok (.iadd, 1) := by decide +kernel
theorem dX12_lends_51 : decode cX12_lends 51 = .ok (.dup2, 1) := by decide +kernel
theorem dX12_lends_52 : decode cX12_lends 52 = .ok (.iaload, 1) := by decide +kernel
theorem dX12_lends_53 : decode cX12_lends 53 = .ok (.iconst 1, 1) := by decide +kernel
theorem dX12_lends_54 : decode cX12_lends 54 = .ok (.iadd, 1) := by decide +kernel
theorem dX12_lends_55 : decode cX12_lends 55 = .ok (.iastore, 1) := by decide +kernel
theorem dX12_lends_56 : decode cX12_lends 56 = .ok (.return_, 1) := by decide +kernel
theorem dX12_lend_0 : decode cX12_lend 0 = .ok (.aload_n 0, 1) := by decide +kernel
theorem dX12_lend_1 : decode cX12_lend 1 = .ok (.iload_n 1, 1) := by decide +kernel
theorem dX12_lend_2 : decode cX12_lend 2 = .ok (.iload_n 2, 1) := by decide +kernel
theorem dX12_lend_3 : decode cX12_lend 3 = .ok (.invokevirtual 287, 3) := by decide +kernel
theorem dX12_lend_6 : decode cX12_lend 6 = .ok (.ifCond .ne 5, 3) := by decide +kernel
theorem dX12_lend_9 : decode cX12_lend 9 = .ok (.iconst (-1), 1) := by decide +kernel
theorem dX12_lend_10 : decode cX12_lend 10 = .ok (.ireturn, 1) := by decide +kernel
theorem dX12_lend_11 : decode cX12_lend 11 = .ok (.aload_n 0, 1) := by decide +kernel
theorem dX12_lend_12 : decode cX12_lend 12 = .ok (.invokevirtual 284, 3) := by decide +kernel
theorem dX12_lend_15 : decode cX12_lend 15 = .ok (.aload_n 0, 1) := by decide +kernel
theorem dX12_lend_16 : decode cX12_lend 16 = .ok (.iload_n 1, 1) := by decide +kernel
theorem dX12_lend_17 : decode cX12_lend 17 = .ok (.iload_n 2, 1) := by decide +kernel
theorem dX12_lend_18 : decode cX12_lend 18 = .ok (.invokevirtual 290, 3) := by decide +kernel
theorem dX12_lend_21 : decode cX12_lend 21 = .ok (.aload_n 0, 1) := by decide +kernel
theorem dX12_lend_22 : decode cX12_lend 22 = .ok (.getfield 7, 3) := by decide +kernel
theorem dX12_lend_25 : decode cX12_lend 25 = .ok (.iload_n 1, 1) := by decide +kernel
theorem dX12_lend_26 : decode cX12_lend 26 = .ok (.invokestatic 77, 3) := by decide +kernel
theorem dX12_lend_29 : decode cX12_lend 29 = .ok (.iaload, 1) := by decide +kernel
theorem dX12_lend_30 : decode cX12_lend 30 = .ok (.ireturn, 1) := by decide +kernel
theorem dX12_isPlayed_0 : decode cX12_isPlayed 0 = .ok (.aload_n 0, 1) := by decide +kernel
theorem dX12_isPlayed_1 : decode cX12_isPlayed 1 = .ok (.getfield 16, 3) := by decide +kernel
theorem dX12_isPlayed_4 : decode cX12_isPlayed 4 = .ok (.iload_n 1, 1) := by decide +kernel
theorem dX12_isPlayed_5 : decode cX12_isPlayed 5 = .ok (.iaload, 1) := by decide +kernel
theorem dX12_isPlayed_6 : decode cX12_isPlayed 6 = .ok (.tableswitch 97 3 5 #[26, 47, 68], 26) := by decide +kernel
theorem dX12_isPlayed_32 : decode cX12_isPlayed 32 = .ok (.aload_n 0, 1) := by decide +kernel
theorem dX12_isPlayed_33 : decode cX12_isPlayed 33 = .ok (.aload_n 0, 1) := by decide +kernel
theorem dX12_isPlayed_34 : decode cX12_isPlayed 34 = .ok (.getfield 16, 3) := by decide +kernel
theorem dX12_isPlayed_37 : decode cX12_isPlayed 37 = .ok (.iload_n 1, 1) := by decide +kernel
theorem dX12_isPlayed_38 : decode cX12_isPlayed 38 = .ok (.iconst 1, 1) := by decide +kernel
theorem dX12_isPlayed_39 : decode cX12_isPlayed 39 = .ok (.iadd, 1) := by decide +kernel
theorem dX12_isPlayed_40 : decode cX12_isPlayed 40 = .ok (.iaload, 1) := by decide +kernel
theorem dX12_isPlayed_41 : decode cX12_isPlayed 41 = .ok (.invokevirtual 293, 3) := by decide +kernel
theorem dX12_isPlayed_44 : decode cX12_isPlayed 44 = .ok (.ifCond .lt 7, 3) := by decide +kernel
theorem dX12_isPlayed_47 : decode cX12_isPlayed 47 = .ok (.iconst 1, 1) := by decide +kernel
theorem dX12_isPlayed_48 : decode cX12_isPlayed 48 = .ok (.goto 4, 3) := by decide +kernel
theorem dX12_isPlayed_51 : decode cX12_isPlayed 51 = .ok (.iconst 0, 1) := by decide +kernel
theorem dX12_isPlayed_52 : decode cX12_isPlayed 52 = .ok (.ireturn, 1) := by decide +kernel
theorem dX12_isPlayed_53 : decode cX12_isPlayed 53 = .ok (.aload_n 0, 1) := by decide +kernel
theorem dX12_isPlayed_54 : decode cX12_isPlayed 54 = .ok (.aload_n 0, 1) := by decide +kernel
theorem dX12_isPlayed_55 : decode cX12_isPlayed 55 = .ok (.getfield 16, 3) := by decide +kernel
theorem dX12_isPlayed_58 : decode cX12_isPlayed 58 = .ok (.iload_n 1, 1) := by decide +kernel
theorem dX12_isPlayed_59 : decode cX12_isPlayed 59 = .ok (.iconst 1, 1) := by decide +kernel
theorem dX12_isPlayed_60 : decode cX12_isPlayed 60 = .ok (.iadd, 1) := by decide +kernel
theorem dX12_isPlayed_61 : decode cX12_isPlayed 61 = .ok (.iaload, 1) := by decide +kernel
theorem dX12_isPlayed_62 : decode cX12_isPlayed 62 = .ok (.invokevirtual 296, 3) := by decide +kernel
theorem dX12_isPlayed_65 : decode cX12_isPlayed 65 = .ok (.ifCond .lt 7, 3) := by decide +kernel
theorem dX12_isPlayed_68 : decode cX12_isPlayed 68 = .ok (.iconst 1, 1) := by decide +kernel
theorem dX12_isPlayed_69 : decode cX12_isPlayed 69 = .ok (.goto 4, 3) := by decide +kernel
theorem dX12_isPlayed_72 : decode cX12_isPlayed 72 = .ok (.iconst 0, 1) := by decide +kernel
theorem dX12_isPlayed_73 : decode cX12_isPlayed 73 = .ok (.ireturn, 1) := by decide +kernel
theorem dX12_isPlayed_74 : decode cX12_isPlayed 74 = .ok (.aload_n 0, 1) := by decide +kernel
theorem dX12_isPlayed_75 : decode cX12_isPlayed 75 = .ok (.aload_n 0, 1) := by decide +kernel
theorem dX12_isPlayed_76 : decode cX12_isPlayed 76 = .ok (.getfield 16, 3) := by decide +kernel
theorem dX12_isPlayed_79 : decode cX12_isPlayed 79 = .ok (.iload_n 1, 1) := by decide +kernel
theorem dX12_isPlayed_80 : decode cX12_isPlayed 80 = .ok (.iconst 1, 1) := by decide +kernel
theorem dX12_isPlayed_81 : decode cX12_isPlayed 81 = .ok (.iadd, 1) := by decide +kernel
theorem dX12_isPlayed_82 : decode cX12_isPlayed 82 = .ok (.iaload, 1) := by decide +kernel
theorem dX12_isPlayed_83 : decode cX12_isPlayed 83 = .ok (.aload_n 0, 1) := by decide +kernel
theorem dX12_isPlayed_84 : decode cX12_isPlayed 84 = .ok (.getfield 16, 3) := by decide +kernel
theorem dX12_isPlayed_87 : decode cX12_isPlayed 87 = .ok (.iload_n 1, 1) := by decide +kernel
theorem dX12_isPlayed_88 : decode cX12_isPlayed 88 = .ok (.iconst 2, 1) := by decide +kernel
theorem dX12_isPlayed_89 : decode cX12_isPlayed 89 = .ok (.iadd, 1) := by decide +kernel
theorem dX12_isPlayed_90 : decode cX12_isPlayed 90 = .ok (.iaload, 1) := by decide +kernel
theorem dX12_isPlayed_91 : decode cX12_isPlayed 91 = .ok (.invokevirtual 299, 3) := by decide +kernel
theorem dX12_isPlayed_94 : decode cX12_isPlayed 94 = .ok (.ifCond .lt 7, 3) := by decide +kernel
theorem dX12_isPlayed_97 : decode cX12_isPlayed 97 = .ok (.iconst 1, 1) := by decide +kernel
theorem dX12_isPlayed_98 : decode cX12_isPlayed 98 = .ok (.goto 4, 3) := by decide +kernel
theorem dX12_isPlayed_101 : decode cX12_isPlayed 101 = .ok (.iconst 0, 1) := by decide +kernel
theorem dX12_isPlayed_102 : decode cX12_isPlayed 102 = .ok (.ireturn, 1) := by decide +kernel
theorem dX12_isPlayed_103 : decode cX12_isPlayed 103 = .ok (.iconst 1, 1) := by decide +kernel
theorem dX12_isPlayed_104 : decode cX12_isPlayed 104 = .ok (.ireturn, 1) := by decide +kernel
theorem dX12_played_0 : decode cX12_played 0 = .ok (.iload_n 1, 1) := by decide +kernel
theorem dX12_played_1 : decode cX12_played 1 = .ok (.iconst 0, 1) := by decide +kernel
theorem dX12_played_2 : decode cX12_played 2 = .ok (.aload_n 0, 1) := by decide +kernel
theorem dX12_played_3 : decode cX12_played 3 = .ok (.getfield 7, 3) := by decide +kernel
theorem dX12_played_6 : decode cX12_played 6 = .ok (.iconst 4, 1) := by decide +kernel
theorem dX12_played_7 : decode cX12_played 7 = .ok (.iaload, 1) := by decide +kernel
theorem dX12_played_8 : decode cX12_played 8 = .ok (.iconst 1, 1) := by decide +kernel
theorem dX12_played_9 : decode cX12_played 9 = .ok (.isub, 1) := by decide +kernel
theorem dX12_played_10 : decode cX12_played 10 = .ok (.invokestatic 62, 3) := by decide +kernel
theorem dX12_played_13 : decode cX12_played 13 = .ok (.ifCond .ne 6, 3) := by decide +kernel
theorem dX12_played_16 : decode cX12_played 16 = .ok (.bipush (-2), 2) := by decide +kernel
theorem dX12_played_18 : decode cX12_played 18 = .ok (.ireturn, 1) := by decide +kernel
theorem dX12_played_19 : decode cX12_played 19 = .ok (.iconst 0, 1) := by decide +kernel
theorem dX12_played_20 : decode cX12_played 20 = .ok (.istore_n 2, 1) := by decide +kernel
theorem dX12_played_21 : decode cX12_played 21 = .ok (.iload_n 2, 1) := by decide +kernel
theorem dX12_played_22 : decode cX12_played 22 = .ok (.aload_n 0, 1) := by decide +kernel
theorem dX12_played_23 : decode cX12_played 23 = .ok (.getfield 16, 3) := by decide +kernel
theorem dX12_played_26 : decode cX12_played 26 = .ok (.sipush 680, 3) := by decide +kernel
theorem dX12_played_29 : decode cX12_played 29 = .ok (.iload_n 1, 1) := by decide +kernel
theorem dX12_played_30 : decode cX12_played 30 = .ok (.imul, 1) := by decide +kernel
theorem dX12_played_31 : decode cX12_played 31 = .ok (.iaload, 1) := by decide +kernel
theorem dX12_played_32 : decode cX12_played 32 = .ok (.if_icmp .ge 29, 3) := by decide +kernel
theorem dX12_played_35 : decode cX12_played 35 = .ok (.aload_n 0, 1) := by decide +kernel
theorem dX12_played_36 : decode cX12_played 36 = .ok (.sipush 680, 3) := by decide +kernel
theorem dX12_played_39 : decode cX12_played 39 = .ok (.iload_n 1, 1) := by decide +kernel
theorem dX12_played_40 : decode cX12_played 40 = .ok (.imul, 1) := by decide +kernel
theorem dX12_played_41 : decode cX12_played 41 = .ok (.iconst 1, 1) := by decide +kernel
theorem dX12_played_42 : decode cX12_played 42 = .ok (.iadd, 1) := by decide +kernel
theorem dX12_played_43 : decode cX12_played 43 = .ok (.iconst 3, 1) := by decide +kernel
theorem dX12_played_44 : decode cX12_played 44 = .ok (.iload_n 2, 1) := by decide +kernel
theorem dX12_played_45 : decode cX12_played 45 = .ok (.imul, 1) := by decide +kernel
theorem dX12_played_46 : decode cX12_played 46 = .ok (.iadd, 1) := by decide +kernel
theorem dX12_played_47 : decode cX12_played 47 = .ok (.invokevirtual 302, 3) := by decide +kernel
theorem dX12_played_50 : decode cX12_played 50 = .ok (.ifCond .ne 5, 3) := by decide +kernel
theorem dX12_played_53 : decode cX12_played 53 = .ok (.iload_n 2, 1) := by decide +kernel
theorem dX12_played_54 : decode cX12_played 54 = .ok (.ireturn, 1) := by decide +kernel
theorem dX12_played_55 : decode cX12_played 55 = .ok (.iinc 2 1, 3) := by decide +kernel
theorem dX12_played_58 : decode cX12_played 58 = .ok (.goto (-37), 3) := by decide +kernel
theorem dX12_played_61 : decode cX12_played 61 = .ok (.iconst (-1), 1) := by decide +kernel
theorem dX12_played_62 : decode cX12_played 62 = .ok (.ireturn, 1) := by decide +kernel
theorem dX12_findSought_0 : decode cX12_findSought 0 = .ok (.iconst 0, 1) := by decide +kernel
theorem dX12_findSought_1 : decode cX12_findSought 1 = .ok (.istore_n 1, 1) := by decide +kernel
theorem dX12_findSought_2 : decode cX12_findSought 2 = .ok (.iload_n 1, 1) := by decide +kernel
theorem dX12_findSought_3 : decode cX12_findSought 3 = .ok (.aload_n 0, 1) := by decide +kernel
theorem dX12_findSought_4 : decode cX12_findSought 4 = .ok (.invokevirtual 66, 3) := by decide +kernel
theorem dX12_findSought_7 : decode cX12_findSought 7 = .ok (.if_icmp .gt 24, 3) := by decide +kernel
theorem dX12_findSought_10 : decode cX12_findSought 10 = .ok (.aload_n 0, 1) := by decide +kernel
theorem dX12_findSought_11 : decode cX12_findSought 11 = .ok (.getfield 43, 3) := by decide +kernel
theorem dX12_findSought_14 : decode cX12_findSought 14 = .ok (.iload_n 1, 1) := by decide +kernel
theorem dX12_findSought_15 : decode cX12_findSought 15 = .ok (.iload_n 1, 1) := by decide +kernel
theorem dX12_findSought_16 : decode cX12_findSought 16 = .ok (.ifCond .ne 7, 3) := by decide +kernel
theorem dX12_findSought_19 : decode cX12_findSought 19 = .ok (.iconst 1, 1) := by decide +kernel
theorem dX12_findSought_20 : decode cX12_findSought 20 = .ok (.goto 4, 3) := by decide +kernel
theorem dX12_findSought_23 : decode cX12_findSought 23 = .ok (.iconst 0, 1) := by decide +kernel
