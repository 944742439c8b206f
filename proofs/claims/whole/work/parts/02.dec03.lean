theorem dX11_stands_8 : decode cX11_stands 8 = .ok (.invokevirtual 69, 3) := by decide +kernel
theorem dX11_stands_11 : decode cX11_stands 11 = .ok (.ifCond .eq 21, 3) := by decide +kernel
theorem dX11_stands_14 : decode cX11_stands 14 = .ok (.aload_n 0, 1) := by decide +kernel
theorem dX11_stands_15 : decode cX11_stands 15 = .ok (.getfield 12, 3) := by decide +kernel
theorem dX11_stands_18 : decode cX11_stands 18 = .ok (.getfield 65, 3) := by decide +kernel
theorem dX11_stands_21 : decode cX11_stands 21 = .ok (.iload_n 1, 1) := by decide +kernel
theorem dX11_stands_22 : decode cX11_stands 22 = .ok (.invokevirtual 184, 3) := by decide +kernel
theorem dX11_stands_25 : decode cX11_stands 25 = .ok (.ifCond .eq 7, 3) := by decide +kernel
theorem dX11_stands_28 : decode cX11_stands 28 = .ok (.iconst 1, 1) := by decide +kernel
theorem dX11_stands_29 : decode cX11_stands 29 = .ok (.goto 4, 3) := by decide +kernel
theorem dX11_stands_32 : decode cX11_stands 32 = .ok (.iconst 0, 1) := by decide +kernel
theorem dX11_stands_33 : decode cX11_stands 33 = .ok (.ireturn, 1) := by decide +kernel
theorem dX11_lay_0 : decode cX11_lay 0 = .ok (.aload_n 0, 1) := by decide +kernel
theorem dX11_lay_1 : decode cX11_lay 1 = .ok (.getfield 12, 3) := by decide +kernel
theorem dX11_lay_4 : decode cX11_lay 4 = .ok (.getfield 65, 3) := by decide +kernel
theorem dX11_lay_7 : decode cX11_lay 7 = .ok (.iload_n 1, 1) := by decide +kernel
theorem dX11_lay_8 : decode cX11_lay 8 = .ok (.invokevirtual 163, 3) := by decide +kernel
theorem dX11_lay_11 : decode cX11_lay 11 = .ok (.ifCond .eq 11, 3) := by decide +kernel
theorem dX11_lay_14 : decode cX11_lay 14 = .ok (.aload_n 0, 1) := by decide +kernel
theorem dX11_lay_15 : decode cX11_lay 15 = .ok (.iload_n 1, 1) := by decide +kernel
theorem dX11_lay_16 : decode cX11_lay 16 = .ok (.invokevirtual 167, 3) := by decide +kernel
theorem dX11_lay_19 : decode cX11_lay 19 = .ok (.ifCond .ne 5, 3) := by decide +kernel
theorem dX11_lay_22 : decode cX11_lay 22 = .ok (.iconst (-1), 1) := by decide +kernel
theorem dX11_lay_23 : decode cX11_lay 23 = .ok (.ireturn, 1) := by decide +kernel
theorem dX11_lay_24 : decode cX11_lay 24 = .ok (.aload_n 0, 1) := by decide +kernel
theorem dX11_lay_25 : decode cX11_lay 25 = .ok (.iload_n 1, 1) := by decide +kernel
theorem dX11_lay_26 : decode cX11_lay 26 = .ok (.invokevirtual 170, 3) := by decide +kernel
theorem dX11_lay_29 : decode cX11_lay 29 = .ok (.istore_n 2, 1) := by decide +kernel
theorem dX11_lay_30 : decode cX11_lay 30 = .ok (.aload_n 0, 1) := by decide +kernel
theorem dX11_lay_31 : decode cX11_lay 31 = .ok (.getfield 12, 3) := by decide +kernel
theorem dX11_lay_34 : decode cX11_lay 34 = .ok (.getfield 187, 3) := by decide +kernel
theorem dX11_lay_37 : decode cX11_lay 37 = .ok (.aload_n 0, 1) := by decide +kernel
theorem dX11_lay_38 : decode cX11_lay 38 = .ok (.getfield 12, 3) := by decide +kernel
theorem dX11_lay_41 : decode cX11_lay 41 = .ok (.getfield 177, 3) := by decide +kernel
theorem dX11_lay_44 : decode cX11_lay 44 = .ok (.aload_n 0, 1) := by decide +kernel
theorem dX11_lay_45 : decode cX11_lay 45 = .ok (.getfield 12, 3) := by decide +kernel
theorem dX11_lay_48 : decode cX11_lay 48 = .ok (.getfield 106, 3) := by decide +kernel
theorem dX11_lay_51 : decode cX11_lay 51 = .ok (.invokevirtual 191, 3) := by decide +kernel
theorem dX11_lay_54 : decode cX11_lay 54 = .ok (.aload_n 0, 1) := by decide +kernel
theorem dX11_lay_55 : decode cX11_lay 55 = .ok (.getfield 12, 3) := by decide +kernel
theorem dX11_lay_58 : decode cX11_lay 58 = .ok (.dup, 1) := by decide +kernel
theorem dX11_lay_59 : decode cX11_lay 59 = .ok (.getfield 177, 3) := by decide +kernel
theorem dX11_lay_62 : decode cX11_lay 62 = .ok (.iconst 1, 1) := by decide +kernel
theorem dX11_lay_63 : decode cX11_lay 63 = .ok (.iload_n 1, 1) := by decide +kernel
theorem dX11_lay_64 : decode cX11_lay 64 = .ok (.ishl, 1) := by decide +kernel
theorem dX11_lay_65 : decode cX11_lay 65 = .ok (.ior, 1) := by decide +kernel
theorem dX11_lay_66 : decode cX11_lay 66 = .ok (.putfield 177, 3) := by decide +kernel
theorem dX11_lay_69 : decode cX11_lay 69 = .ok (.iload_n 2, 1) := by decide +kernel
theorem dX11_lay_70 : decode cX11_lay 70 = .ok (.ireturn, 1) := by decide +kernel
theorem dX11_out_0 : decode cX11_out 0 = .ok (.aload_n 0, 1) := by decide +kernel
theorem dX11_out_1 : decode cX11_out 1 = .ok (.getfield 12, 3) := by decide +kernel
theorem dX11_out_4 : decode cX11_out 4 = .ok (.getfield 65, 3) := by decide +kernel
theorem dX11_out_7 : decode cX11_out 7 = .ok (.iload_n 1, 1) := by decide +kernel
theorem dX11_out_8 : decode cX11_out 8 = .ok (.invokevirtual 163, 3) := by decide +kernel
theorem dX11_out_11 : decode cX11_out 11 = .ok (.ifCond .eq 14, 3) := by decide +kernel
theorem dX11_out_14 : decode cX11_out 14 = .ok (.aload_n 0, 1) := by decide +kernel
theorem dX11_out_15 : decode cX11_out 15 = .ok (.getfield 12, 3) := by decide +kernel
theorem dX11_out_18 : decode cX11_out 18 = .ok (.iload_n 1, 1) := by decide +kernel
theorem dX11_out_19 : decode cX11_out 19 = .ok (.invokevirtual 164, 3) := by decide +kernel
theorem dX11_out_22 : decode cX11_out 22 = .ok (.ifCond .ne 5, 3) := by decide +kernel
theorem dX11_out_25 : decode cX11_out 25 = .ok (.iconst (-1), 1) := by decide +kernel
theorem dX11_out_26 : decode cX11_out 26 = .ok (.ireturn, 1) := by decide +kernel
theorem dX11_out_27 : decode cX11_out 27 = .ok (.aload_n 0, 1) := by decide +kernel
theorem dX11_out_28 : decode cX11_out 28 = .ok (.getfield 12, 3) := by decide +kernel
theorem dX11_out_31 : decode cX11_out 31 = .ok (.getfield 177, 3) := by decide +kernel
theorem dX11_out_34 : decode cX11_out 34 = .ok (.iconst 1, 1) := by decide +kernel
theorem dX11_out_35 : decode cX11_out 35 = .ok (.iload_n 1, 1) := by decide +kernel
theorem dX11_out_36 : decode cX11_out 36 = .ok (.ishl, 1) := by decide +kernel
theorem dX11_out_37 : decode cX11_out 37 = .ok (.iconst (-1), 1) := by decide +kernel
theorem dX11_out_38 : decode cX11_out 38 = .ok (.ixor, 1) := by decide +kernel
theorem dX11_out_39 : decode cX11_out 39 = .ok (.iand, 1) := by decide +kernel
theorem dX11_out_40 : decode cX11_out 40 = .ok (.istore_n 2, 1) := by decide +kernel
theorem dX11_out_41 : decode cX11_out 41 = .ok (.aload_n 0, 1) := by decide +kernel
theorem dX11_out_42 : decode cX11_out 42 = .ok (.getfield 12, 3) := by decide +kernel
theorem dX11_out_45 : decode cX11_out 45 = .ok (.getfield 65, 3) := by decide +kernel
theorem dX11_out_48 : decode cX11_out 48 = .ok (.iload_n 2, 1) := by decide +kernel
theorem dX11_out_49 : decode cX11_out 49 = .ok (.invokevirtual 184, 3) := by decide +kernel
theorem dX11_out_52 : decode cX11_out 52 = .ok (.ifCond .ne 5, 3) := by decide +kernel
theorem dX11_out_55 : decode cX11_out 55 = .ok (.iconst (-1), 1) := by decide +kernel
theorem dX11_out_56 : decode cX11_out 56 = .ok (.ireturn, 1) := by decide +kernel
theorem dX11_out_57 : decode cX11_out 57 = .ok (.aload_n 0, 1) := by decide +kernel
theorem dX11_out_58 : decode cX11_out 58 = .ok (.getfield 12, 3) := by decide +kernel
theorem dX11_out_61 : decode cX11_out 61 = .ok (.getfield 187, 3) := by decide +kernel
theorem dX11_out_64 : decode cX11_out 64 = .ok (.aload_n 0, 1) := by decide +kernel
theorem dX11_out_65 : decode cX11_out 65 = .ok (.getfield 12, 3) := by decide +kernel
theorem dX11_out_68 : decode cX11_out 68 = .ok (.getfield 177, 3) := by decide +kernel
theorem dX11_out_71 : decode cX11_out 71 = .ok (.aload_n 0, 1) := by decide +kernel
theorem dX11_out_72 : decode cX11_out 72 = .ok (.getfield 12, 3) := by decide +kernel
theorem dX11_out_75 : decode cX11_out 75 = .ok (.getfield 106, 3) := by decide +kernel
theorem dX11_out_78 : decode cX11_out 78 = .ok (.invokevirtual 191, 3) := by decide +kernel
theorem dX11_out_81 : decode cX11_out 81 = .ok (.aload_n 0, 1) := by decide +kernel
theorem dX11_out_82 : decode cX11_out 82 = .ok (.getfield 12, 3) := by decide +kernel
theorem dX11_out_85 : decode cX11_out 85 = .ok (.iload_n 2, 1) := by decide +kernel
theorem dX11_out_86 : decode cX11_out 86 = .ok (.putfield 177, 3) := by decide +kernel
theorem dX11_out_89 : decode cX11_out 89 = .ok (.iload_n 2, 1) := by decide +kernel
theorem dX11_out_90 : decode cX11_out 90 = .ok (.invokestatic 75, 3) := by decide +kernel
theorem dX11_out_93 : decode cX11_out 93 = .ok (.ireturn, 1) := by decide +kernel
theorem dX11_lend_0 : decode cX11_lend 0 = .ok (.aload_n 0, 1) := by decide +kernel
theorem dX11_lend_1 : decode cX11_lend 1 = .ok (.getfield 12, 3) := by decide +kernel
theorem dX11_lend_4 : decode cX11_lend 4 = .ok (.getfield 106, 3) := by decide +kernel
theorem dX11_lend_7 : decode cX11_lend 7 = .ok (.iload_n 1, 1) := by decide +kernel
theorem dX11_lend_8 : decode cX11_lend 8 = .ok (.iload_n 2, 1) := by decide +kernel
theorem dX11_lend_9 : decode cX11_lend 9 = .ok (.invokevirtual 197, 3) := by decide +kernel
theorem dX11_lend_12 : decode cX11_lend 12 = .ok (.ifCond .ne 5, 3) := by decide +kernel
theorem dX11_lend_15 : decode cX11_lend 15 = .ok (.iconst (-1), 1) := by decide +kernel
theorem dX11_lend_16 : decode cX11_lend 16 = .ok (.ireturn, 1) := by decide +kernel
theorem dX11_lend_17 : decode cX11_lend 17 = .ok (.aload_n 0, 1) := by decide +kernel
theorem dX11_lend_18 : decode cX11_lend 18 = .ok (.getfield 12, 3) := by decide +kernel
theorem dX11_lend_21 : decode cX11_lend 21 = .ok (.getfield 187, 3) := by decide +kernel
theorem dX11_lend_24 : decode cX11_lend 24 = .ok (.aload_n 0, 1) := by decide +kernel
theorem dX11_lend_25 : decode cX11_lend 25 = .ok (.getfield 12, 3) := by decide +kernel
theorem dX11_lend_28 : decode cX11_lend 28 = .ok (.getfield 177, 3) := by decide +kernel
theorem dX11_lend_31 : decode cX11_lend 31 = .ok (.aload_n 0, 1) := by decide +kernel
theorem dX11_lend_32 : decode cX11_lend 32 = .ok (.getfield 12, 3) := by decide +kernel
theorem dX11_lend_35 : decode cX11_lend 35 = .ok (.getfield 106, 3) := by decide +kernel
theorem dX11_lend_38 : decode cX11_lend 38 = .ok (.invokevirtual 191, 3) := by decide +kernel
theorem dX11_lend_41 : decode cX11_lend 41 = .ok (.aload_n 0, 1) := by decide +kernel
theorem dX11_lend_42 : decode cX11_lend 42 = .ok (.getfield 12, 3) := by decide +kernel
theorem dX11_lend_45 : decode cX11_lend 45 = .ok (.getfield 106, 3) := by decide +kernel
theorem dX11_lend_48 : decode cX11_lend 48 = .ok (.iload_n 1, 1) := by decide +kernel
theorem dX11_lend_49 : decode cX11_lend 49 = .ok (.iload_n 2, 1) := by decide +kernel
theorem dX11_lend_50 : decode cX11_lend 50 = .ok (.invokevirtual 200, 3) := by decide +kernel
theorem dX11_lend_53 : decode cX11_lend 53 = .ok (.aload_n 0, 1) := by decide +kernel
theorem dX11_lend_54 : decode cX11_lend 54 = .ok (.getfield 12, 3) := by decide +kernel
theorem dX11_lend_57 : decode cX11_lend 57 = .ok (.getfield 106, 3) := by decide +kernel
theorem dX11_lend_60 : decode cX11_lend 60 = .ok (.getfield 113, 3) := by decide +kernel
theorem dX11_lend_63 : decode cX11_lend 63 = .ok (.iload_n 1, 1) := by decide +kernel
theorem dX11_lend_64 : decode cX11_lend 64 = .ok (.iaload, 1) := by decide +kernel
theorem dX11_lend_65 : decode cX11_lend 65 = .ok (.ireturn, 1) := by decide +kernel
theorem dX11_played_0 : decode cX11_played 0 = .ok (.aload_n 0, 1) := by decide +kernel
theorem dX11_played_1 : decode cX11_played 1 = .ok (.getfield 12, 3) := by decide +kernel
theorem dX11_played_4 : decode cX11_played 4 = .ok (.iload_n 1, 1) := by decide +kernel
theorem dX11_played_5 : decode cX11_played 5 = .ok (.invokevirtual 157, 3) := by decide +kernel
theorem dX11_played_8 : decode cX11_played 8 = .ok (.ifCond .ne 6, 3) := by decide +kernel
theorem dX11_played_11 : decode cX11_played 11 = .ok (.bipush (-2), 2) := by decide +kernel
theorem dX11_played_13 : decode cX11_played 13 = .ok (.ireturn, 1) := by decide +kernel
theorem dX11_played_14 : decode cX11_played 14 = .ok (.aload_n 0, 1) := by decide +kernel
theorem dX11_played_15 : decode cX11_played 15 = .ok (.getfield 12, 3) := by decide +kernel
theorem dX11_played_18 : decode cX11_played 18 = .ok (.getfield 149, 3) := by decide +kernel
theorem dX11_played_21 : decode cX11_played 21 = .ok (.iload_n 1, 1) := by decide +kernel
theorem dX11_played_22 : decode cX11_played 22 = .ok (.aaload, 1) := by decide +kernel
theorem dX11_played_23 : decode cX11_played 23 = .ok (.astore_n 2, 1) := by decide +kernel
theorem dX11_played_24 : decode cX11_played 24 = .ok (.iconst 0, 1) := by decide +kernel
theorem dX11_played_25 : decode cX11_played 25 = .ok (.istore_n 3, 1) := by decide +kernel
theorem dX11_played_26 : decode cX11_played 26 = .ok (.iload_n 3, 1) := by decide +kernel
theorem dX11_played_27 : decode cX11_played 27 = .ok (.aload_n 2, 1) := by decide +kernel
theorem dX11_played_28 : decode cX11_played 28 = .ok (.getfield 204, 3) := by decide +kernel
theorem dX11_played_31 : decode cX11_played 31 = .ok (.if_icmp .ge 20, 3) := by decide +kernel
theorem dX11_played_34 : decode cX11_played 34 = .ok (.aload_n 0, 1) := by decide +kernel
theorem dX11_played_35 : decode cX11_played 35 = .ok (.aload_n 2, 1) := by decide +kernel
theorem dX11_played_36 : decode cX11_played 36 = .ok (.iload_n 3, 1) := by decide +kernel
theorem dX11_played_37 : decode cX11_played 37 = .ok (.invokevirtual 209, 3) := by decide +kernel
theorem dX11_played_40 : decode cX11_played 40 = .ok (.ifCond .ne 5, 3) := by decide +kernel
theorem dX11_played_43 : decode cX11_played 43 = .ok (.iload_n 3, 1) := by decide +kernel
theorem dX11_played_44 : decode cX11_played 44 = .ok (.ireturn, 1) := by decide +kernel
theorem dX11_played_45 : decode cX11_played 45 = .ok (.iinc 3 1, 3) := by decide +kernel
theorem dX11_played_48 : decode cX11_played 48 = .ok (.goto (-22), 3) := by decide +kernel
theorem dX11_played_51 : decode cX11_played 51 = .ok (.iconst (-1), 1) := by decide +kernel
theorem dX11_played_52 : decode cX11_played 52 = .ok (.ireturn, 1) := by decide +kernel
theorem dX11_undo_0 : decode cX11_undo 0 = .ok (.aload_n 0, 1) := by decide +kernel
theorem dX11_undo_1 : decode cX11_undo 1 = .ok (.getfield 12, 3) := by decide +kernel
theorem dX11_undo_4 : decode cX11_undo 4 = .ok (.getfield 187, 3) := by decide +kernel
theorem dX11_undo_7 : decode cX11_undo 7 = .ok (.getfield 213, 3) := by decide +kernel
theorem dX11_undo_10 : decode cX11_undo 10 = .ok (.ifCond .ne 5, 3) := by decide +kernel
theorem dX11_undo_13 : decode cX11_undo 13 = .ok (.iconst (-1), 1) := by decide +kernel
theorem dX11_undo_14 : decode cX11_undo 14 = .ok (.ireturn, 1) := by decide +kernel
theorem dX11_undo_15 : decode cX11_undo 15 = .ok (.aload_n 0, 1) := by decide +kernel
theorem dX11_undo_16 : decode cX11_undo 16 = .ok (.getfield 12, 3) := by decide +kernel
theorem dX11_undo_19 : decode cX11_undo 19 = .ok (.aload_n 0, 1) := by decide +kernel
theorem dX11_undo_20 : decode cX11_undo 20 = .ok (.getfield 12, 3) := by decide +kernel
theorem dX11_undo_23 : decode cX11_undo 23 = .ok (.getfield 187, 3) := by decide +kernel
theorem dX11_undo_26 : decode cX11_undo 26 = .ok (.aload_n 0, 1) := by decide +kernel
theorem dX11_undo_27 : decode cX11_undo 27 = .ok (.getfield 12, 3) := by decide +kernel
theorem dX11_undo_30 : decode cX11_undo 30 = .ok (.getfield 106, 3) := by decide +kernel
theorem dX11_undo_33 : decode cX11_undo 33 = .ok (.invokevirtual 214, 3) := by decide +kernel
theorem dX11_undo_36 : decode cX11_undo 36 = .ok (.putfield 177, 3) := by decide +kernel
theorem dX11_undo_39 : decode cX11_undo 39 = .ok (.aload_n 0, 1) := by decide +kernel
theorem dX11_undo_40 : decode cX11_undo 40 = .ok (.getfield 12, 3) := by decide +kernel
theorem dX11_undo_43 : decode cX11_undo 43 = .ok (.getfield 187, 3) := by decide +kernel
theorem dX11_undo_46 : decode cX11_undo 46 = .ok (.getfield 213, 3) := by decide +kernel
theorem dX11_undo_49 : decode cX11_undo 49 = .ok (.ireturn, 1) := by decide +kernel
theorem dX11_least_0 : decode cX11_least 0 = .ok (.aload_n 0, 1) := by decide +kernel
theorem dX11_least_1 : decode cX11_least 1 = .ok (.getfield 43, 3) := by decide +kernel
theorem dX11_least_4 : decode cX11_least 4 = .ok (.aload_n 0, 1) := by decide +kernel
theorem dX11_least_5 : decode cX11_least 5 = .ok (.getfield 12, 3) := by decide +kernel
theorem dX11_least_8 : decode cX11_least 8 = .ok (.invokevirtual 218, 3) := by decide +kernel
theorem dX11_least_11 : decode cX11_least 11 = .ok (.iload_n 1, 1) := by decide +kernel
theorem dX11_least_12 : decode cX11_least 12 = .ok (.iconst (-1), 1) := by decide +kernel
theorem dX11_least_13 : decode cX11_least 13 = .ok (.if_icmp .ne 11, 3) := by decide +kernel
theorem dX11_least_16 : decode cX11_least 16 = .ok (.aload_n 0, 1) := by decide +kernel
theorem dX11_least_17 : decode cX11_least 17 = .ok (.getfield 43, 3) := by decide +kernel
theorem dX11_least_20 : decode cX11_least 20 = .ok (.getfield 222, 3) := by decide +kernel
theorem dX11_least_23 : decode cX11_least 23 = .ok (.ireturn, 1) := by decide +kernel
theorem dX11_least_24 : decode cX11_least 24 = .ok (.iload_n 1, 1) := by decide +kernel
theorem dX11_least_25 : decode cX11_least 25 = .ok (.bipush (-2), 2) := by decide +kernel
theorem dX11_least_27 : decode cX11_least 27 = .ok (.if_icmp .ne 11, 3) := by decide +kernel
theorem dX11_least_30 : decode cX11_least 30 = .ok (.aload_n 0, 1) := by decide +kernel
theorem dX11_least_31 : decode cX11_least 31 = .ok (.getfield 43, 3) := by decide +kernel
theorem dX11_least_34 : decode cX11_least 34 = .ok (.getfield 223, 3) := by decide +kernel
theorem dX11_least_37 : decode cX11_least 37 = .ok (.ireturn, 1) := by decide +kernel
theorem dX11_least_38 : decode cX11_least 38 = .ok (.iload_n 1, 1) := by decide +kernel
theorem dX11_least_39 : decode cX11_least 39 = .ok (.ifCond .lt 26, 3) := by decide +kernel
theorem dX11_least_42 : decode cX11_least 42 = .ok (.iload_n 1, 1) := by decide +kernel
theorem dX11_least_43 : decode cX11_least 43 = .ok (.aload_n 0, 1) := by decide +kernel
theorem dX11_least_44 : decode cX11_least 44 = .ok (.getfield 43, 3) := by decide +kernel
theorem dX11_least_47 : decode cX11_least 47 = .ok (.getfield 222, 3) := by decide +kernel
theorem dX11_least_50 : decode cX11_least 50 = .ok (.if_icmp .ge 15, 3) := by decide +kernel
theorem dX11_least_53 : decode cX11_least 53 = .ok (.aload_n 0, 1) := by decide +kernel
theorem dX11_least_54 : decode cX11_least 54 = .ok (.getfield 43, 3) := by decide +kernel
theorem dX11_least_57 : decode cX11_least 57 = .ok (.getfield 226, 3) := by decide +kernel
theorem dX11_least_60 : decode cX11_least 60 = .ok (.iload_n 1, 1) := by decide +kernel
theorem dX11_least_61 : decode cX11_least 61 = .ok (.iaload, 1) := by decide +kernel
theorem dX11_least_62 : decode cX11_least 62 = .ok (.goto 5, 3) := by decide +kernel
theorem dX11_least_65 : decode cX11_least 65 = .ok (.bipush (-3), 2) := by decide +kernel
theorem dX11_least_67 : decode cX11_least 67 = .ok (.ireturn, 1) := by decide +kernel
theorem dX11_orders_0 : decode cX11_orders 0 = .ok (.aload_n 0, 1) := by decide +kernel
theorem dX11_orders_1 : decode cX11_orders 1 = .ok (.getfield 43, 3) := by decide +kernel
theorem dX11_orders_4 : decode cX11_orders 4 = .ok (.aload_n 0, 1) := by decide +kernel
theorem dX11_orders_5 : decode cX11_orders 5 = .ok (.getfield 12, 3) := by decide +kernel
theorem dX11_orders_8 : decode cX11_orders 8 = .ok (.invokevirtual 218, 3) := by decide +kernel
theorem dX11_orders_11 : decode cX11_orders 11 = .ok (.aload_n 0, 1) := by decide +kernel
theorem dX11_orders_12 : decode cX11_orders 12 = .ok (.getfield 43, 3) := by decide +kernel
theorem dX11_orders_15 : decode cX11_orders 15 = .ok (.getfield 229, 3) := by decide +kernel
theorem dX11_orders_18 : decode cX11_orders 18 = .ok (.lreturn, 1) := by decide +kernel
theorem dX11_sound_0 : decode cX11_sound 0 = .ok (.iload_n 1, 1) := by decide +kernel
theorem dX11_sound_1 : decode cX11_sound 1 = .ok (.ifCond .lt 29, 3) := by decide +kernel
theorem dX11_sound_4 : decode cX11_sound 4 = .ok (.iload_n 2, 1) := by decide +kernel
theorem dX11_sound_5 : decode cX11_sound 5 = .ok (.bipush 20, 2) := by decide +kernel
theorem dX11_sound_7 : decode cX11_sound 7 = .ok (.if_icmp .gt 23, 3) := by decide +kernel
theorem dX11_sound_10 : decode cX11_sound 10 = .ok (.iload_n 1, 1) := by decide +kernel
theorem dX11_sound_11 : decode cX11_sound 11 = .ok (.iload_n 2, 1) := by decide +kernel
theorem dX11_sound_12 : decode cX11_sound 12 = .ok (.if_icmp .gt 18, 3) := by decide +kernel
theorem dX11_sound_15 : decode cX11_sound 15 = .ok (.aload_n 0, 1) := by decide +kernel
theorem dX11_sound_16 : decode cX11_sound 16 = .ok (.getfield 12, 3) := by decide +kernel
theorem dX11_sound_19 : decode cX11_sound 19 = .ok (.getfield 233, 3) := by decide +kernel
theorem dX11_sound_22 : decode cX11_sound 22 = .ok (.getfield 237, 3) := by decide +kernel
theorem dX11_sound_25 : decode cX11_sound 25 = .ok (.bipush 8, 2) := by decide +kernel
theorem dX11_sound_27 : decode cX11_sound 27 = .ok (.if_icmp .lt 5, 3) := by decide +kernel
theorem dX11_sound_30 : decode cX11_sound 30 = .ok (.iconst (-1), 1) := by decide +kernel
theorem dX11_sound_31 : decode cX11_sound 31 = .ok (.ireturn, 1) := by decide +kernel
theorem dX11_sound_32 : decode cX11_sound 32 = .ok (.aload_n 0, 1) := by decide +kernel
theorem dX11_sound_33 : decode cX11_sound 33 = .ok (.getfield 12, 3) := by decide +kernel
theorem dX11_sound_36 : decode cX11_sound 36 = .ok (.getfield 233, 3) := by decide +kernel
theorem dX11_sound_39 : decode cX11_sound 39 = .ok (.iload_n 1, 1) := by decide +kernel
theorem dX11_sound_40 : decode cX11_sound 40 = .ok (.iload_n 2, 1) := by decide +kernel
theorem dX11_sound_41 : decode cX11_sound 41 = .ok (.invokevirtual 240, 3) := by decide +kernel
theorem dX11_sound_44 : decode cX11_sound 44 = .ok (.aload_n 0, 1) := by decide +kernel
theorem dX11_sound_45 : decode cX11_sound 45 = .ok (.getfield 12, 3) := by decide +kernel
theorem dX11_sound_48 : decode cX11_sound 48 = .ok (.getfield 233, 3) := by decide +kernel
theorem dX11_sound_51 : decode cX11_sound 51 = .ok (.getfield 237, 3) := by decide +kernel
theorem dX11_sound_54 : decode cX11_sound 54 = .ok (.ireturn, 1) := by decide +kernel
theorem dX11_hush_0 : decode cX11_hush 0 = .ok (.aload_n 0, 1) := by decide +kernel
theorem dX11_hush_1 : decode cX11_hush 1 = .ok (.getfield 12, 3) := by decide +kernel
theorem dX11_hush_4 : decode cX11_hush 4 = .ok (.getfield 233, 3) := by decide +kernel
theorem dX11_hush_7 : decode cX11_hush 7 = .ok (.getfield 237, 3) := by decide +kernel
theorem dX11_hush_10 : decode cX11_hush 10 = .ok (.istore_n 1, 1) := by decide +kernel
theorem dX11_hush_11 : decode cX11_hush 11 = .ok (.aload_n 0, 1) := by decide +kernel
theorem dX11_hush_12 : decode cX11_hush 12 = .ok (.getfield 12, 3) := by decide +kernel
theorem dX11_hush_15 : decode cX11_hush 15 = .ok (.getfield 233, 3) := by decide +kernel
theorem dX11_hush_18 : decode cX11_hush 18 = .ok (.iconst 0, 1) := by decide +kernel
theorem dX11_hush_19 : decode cX11_hush 19 = .ok (.putfield 237, 3) := by decide +kernel
theorem dX11_hush_22 : decode cX11_hush 22 = .ok (.iload_n 1, 1) := by decide +kernel
theorem dX11_hush_23 : decode cX11_hush 23 = .ok (.ireturn, 1) := by decide +kernel
theorem dX11_heard_0 : decode cX11_heard 0 = .ok (.iload_n 1, 1) := by decide +kernel
theorem dX11_heard_1 : decode cX11_heard 1 = .ok (.ifCond .lt 8, 3) := by decide +kernel
theorem dX11_heard_4 : decode cX11_heard 4 = .ok (.iload_n 1, 1) := by decide +kernel
theorem dX11_heard_5 : decode cX11_heard 5 = .ok (.iconst 2, 1) := by decide +kernel
theorem dX11_heard_6 : decode cX11_heard 6 = .ok (.if_icmp .le 7, 3) := by decide +kernel
theorem dX11_heard_9 : decode cX11_heard 9 = .ok (.ldc2_w 243, 3) := by decide +kernel
theorem dX11_heard_12 : decode cX11_heard 12 = .ok (.lreturn, 1) := by decide +kernel
theorem dX11_heard_13 : decode cX11_heard 13 = .ok (.aload_n 0, 1) := by decide +kernel
theorem dX11_heard_14 : decode cX11_heard 14 = .ok (.getfield 43, 3) := by decide +kernel
theorem dX11_heard_17 : decode cX11_heard 17 = .ok (.aload_n 0, 1) := by decide +kernel
theorem dX11_heard_18 : decode cX11_heard 18 = .ok (.getfield 12, 3) := by decide +kernel
theorem dX11_heard_21 : decode cX11_heard 21 = .ok (.invokevirtual 218, 3) := by decide +kernel
theorem dX11_heard_24 : decode cX11_heard 24 = .ok (.aload_n 0, 1) := by decide +kernel
theorem dX11_heard_25 : decode cX11_heard 25 = .ok (.getfield 43, 3) := by decide +kernel
theorem dX11_heard_28 : decode cX11_heard 28 = .ok (.aload_n 0, 1) := by decide +kernel
theorem dX11_heard_29 : decode cX11_heard 29 = .ok (.getfield 12, 3) := by decide +kernel
theorem dX11_heard_32 : decode cX11_heard 32 = .ok (.invokevirtual 245, 3) := by decide +kernel
theorem dX11_heard_35 : decode cX11_heard 35 = .ok (.iload_n 1, 1) := by decide +kernel
theorem dX11_heard_36 : decode cX11_heard 36 = .ok (.ifCond .ne 11, 3) := by decide +kernel
theorem dX11_heard_39 : decode cX11_heard 39 = .ok (.aload_n 0, 1) := by decide +kernel
theorem dX11_heard_40 : decode cX11_heard 40 = .ok (.getfield 43, 3) := by decide +kernel
theorem dX11_heard_43 : decode cX11_heard 43 = .ok (.getfield 248, 3) := by decide +kernel
theorem dX11_heard_46 : decode cX11_heard 46 = .ok (.lreturn, 1) := by decide +kernel
theorem dX11_heard_47 : decode cX11_heard 47 = .ok (.iload_n 1, 1) := by decide +kernel
theorem dX11_heard_48 : decode cX11_heard 48 = .ok (.iconst 1, 1) := by decide +kernel
theorem dX11_heard_49 : decode cX11_heard 49 = .ok (.if_icmp .ne 14, 3) := by decide +kernel
theorem dX11_heard_52 : decode cX11_heard 52 = .ok (.aload_n 0, 1) := by decide +kernel
theorem dX11_heard_53 : decode cX11_heard 53 = .ok (.getfield 43, 3) := by decide +kernel
theorem dX11_heard_56 : decode cX11_heard 56 = .ok (.getfield 251, 3) := by decide +kernel
theorem dX11_heard_59 : decode cX11_heard 59 = .ok (.i2l, 1) := by decide +kernel
theorem dX11_heard_60 : decode cX11_heard 60 = .ok (.goto 11, 3) := by decide +kernel
theorem dX11_heard_63 : decode cX11_heard 63 = .ok (.aload_n 0, 1) := by decide +kernel
theorem dX11_heard_64 : decode cX11_heard 64 = .ok (.getfield 43, 3) := by decide +kernel
theorem dX11_heard_67 : decode cX11_heard 67 = .ok (.getfield 254, 3) := by decide +kernel
theorem dX11_heard_70 : decode cX11_heard 70 = .ok (.i2l, 1) := by decide +kernel
theorem dX11_heard_71 : decode cX11_heard 71 = .ok (.lreturn, 1) := by decide +kernel
theorem dX11_with_0 : decode cX11_with 0 = .ok (.aload_n 0, 1) := by decide +kernel
theorem dX11_with_1 : decode cX11_with 1 = .ok (.getfield 12, 3) := by decide +kernel
theorem dX11_with_4 : decode cX11_with 4 = .ok (.getfield 65, 3) := by decide +kernel
theorem dX11_with_7 : decode cX11_with 7 = .ok (.iload_n 1, 1) := by decide +kernel
theorem dX11_with_8 : decode cX11_with 8 = .ok (.invokevirtual 163, 3) := by decide +kernel
theorem dX11_with_11 : decode cX11_with 11 = .ok (.ifCond .eq 14, 3) := by decide +kernel
theorem dX11_with_14 : decode cX11_with 14 = .ok (.aload_n 0, 1) := by decide +kernel
theorem dX11_with_15 : decode cX11_with 15 = .ok (.getfield 12, 3) := by decide +kernel
theorem dX11_with_18 : decode cX11_with 18 = .ok (.iload_n 1, 1) := by decide +kernel
theorem dX11_with_19 : decode cX11_with 19 = .ok (.invokevirtual 164, 3) := by decide +kernel
theorem dX11_with_22 : decode cX11_with 22 = .ok (.ifCond .ne 5, 3) := by decide +kernel
theorem dX11_with_25 : decode cX11_with 25 = .ok (.iconst (-1), 1) := by decide +kernel
theorem dX11_with_26 : decode cX11_with 26 = .ok (.ireturn, 1) := by decide +kernel
theorem dX11_with_27 : decode cX11_with 27 = .ok (.aload_n 0, 1) := by decide +kernel
theorem dX11_with_28 : decode cX11_with 28 = .ok (.getfield 12, 3) := by decide +kernel
theorem dX11_with_31 : decode cX11_with 31 = .ok (.getfield 177, 3) := by decide +kernel
theorem dX11_with_34 : decode cX11_with 34 = .ok (.iconst 1, 1) := by decide +kernel
theorem dX11_with_35 : decode cX11_with 35 = .ok (.iload_n 1, 1) := by decide +kernel
theorem dX11_with_36 : decode cX11_with 36 = .ok (.ishl, 1) := by decide +kernel
theorem dX11_with_37 : decode cX11_with 37 = .ok (.iconst (-1), 1) := by decide +kernel
theorem dX11_with_38 : decode cX11_with 38 = .ok (.ixor, 1) := by decide +kernel
theorem dX11_with_39 : decode cX11_with 39 = .ok (.iand, 1) := by decide +kernel
theorem dX11_with_40 : decode cX11_with 40 = .ok (.istore_n 2, 1) := by decide +kernel
theorem dX11_with_41 : decode cX11_with 41 = .ok (.aload_n 0, 1) := by decide +kernel
theorem dX11_with_42 : decode cX11_with 42 = .ok (.getfield 12, 3) := by decide +kernel
theorem dX11_with_45 : decode cX11_with 45 = .ok (.getfield 177, 3) := by decide +kernel
theorem dX11_with_48 : decode cX11_with 48 = .ok (.istore_n 3, 1) := by decide +kernel
theorem dX11_with_49 : decode cX11_with 49 = .ok (.iconst 0, 1) := by decide +kernel
theorem dX11_with_50 : decode cX11_with 50 = .ok (.istore 4, 2) := by decide +kernel
theorem dX11_with_52 : decode cX11_with 52 = .ok (.iconst 0, 1) := by decide +kernel
theorem dX11_with_53 : decode cX11_with 53 = .ok (.istore 5, 2) := by decide +kernel
theorem dX11_with_55 : decode cX11_with 55 = .ok (.iload 5, 2) := by decide +kernel
theorem dX11_with_57 : decode cX11_with 57 = .ok (.sipush 4096, 3) := by decide +kernel
theorem dX11_with_60 : decode cX11_with 60 = .ok (.if_icmp .ge 78, 3) := by decide +kernel
theorem dX11_with_63 : decode cX11_with 63 = .ok (.iload 4, 2) := by decide +kernel
theorem dX11_with_65 : decode cX11_with 65 = .ok (.invokestatic 75, 3) := by decide +kernel
theorem dX11_with_68 : decode cX11_with 68 = .ok (.iconst 1, 1) := by decide +kernel
theorem dX11_with_69 : decode cX11_with 69 = .ok (.iadd, 1) := by decide +kernel
theorem dX11_with_70 : decode cX11_with 70 = .ok (.iload_n 3, 1) := by decide +kernel
theorem dX11_with_71 : decode cX11_with 71 = .ok (.invokestatic 75, 3) := by decide +kernel
theorem dX11_with_74 : decode cX11_with 74 = .ok (.if_icmp .ge 7, 3) := by decide +kernel
theorem dX11_with_77 : decode cX11_with 77 = .ok (.iconst 1, 1) := by decide +kernel
theorem dX11_with_78 : decode cX11_with 78 = .ok (.goto 4, 3) := by decide +kernel
theorem dX11_with_81 : decode cX11_with 81 = .ok (.iconst 0, 1) := by decide +kernel
theorem dX11_with_82 : decode cX11_with 82 = .ok (.istore 6, 2) := by decide +kernel
theorem dX11_with_84 : decode cX11_with 84 = .ok (.iload 6, 2) := by decide +kernel
theorem dX11_with_86 : decode cX11_with 86 = .ok (.ifCond .eq 29, 3) := by decide +kernel
theorem dX11_with_89 : decode cX11_with 89 = .ok (.aload_n 0, 1) := by decide +kernel
theorem dX11_with_90 : decode cX11_with 90 = .ok (.getfield 12, 3) := by decide +kernel
theorem dX11_with_93 : decode cX11_with 93 = .ok (.getfield 65, 3) := by decide +kernel
theorem dX11_with_96 : decode cX11_with 96 = .ok (.iload_n 2, 1) := by decide +kernel
theorem dX11_with_97 : decode cX11_with 97 = .ok (.iload 4, 2) := by decide +kernel
theorem dX11_with_99 : decode cX11_with 99 = .ok (.iconst (-1), 1) := by decide +kernel
theorem dX11_with_100 : decode cX11_with 100 = .ok (.ixor, 1) := by decide +kernel
theorem dX11_with_101 : decode cX11_with 101 = .ok (.iand, 1) := by decide +kernel
theorem dX11_with_102 : decode cX11_with 102 = .ok (.invokevirtual 184, 3) := by decide +kernel
theorem dX11_with_105 : decode cX11_with 105 = .ok (.ifCond .eq 10, 3) := by decide +kernel
theorem dX11_with_108 : decode cX11_with 108 = .ok (.iload 4, 2) := by decide +kernel
theorem dX11_with_110 : decode cX11_with 110 = .ok (.iconst 1, 1) := by decide +kernel
theorem dX11_with_111 : decode cX11_with 111 = .ok (.iload_n 1, 1) := by decide +kernel
theorem dX11_with_112 : decode cX11_with 112 = .ok (.ishl, 1) := by decide +kernel
theorem dX11_with_113 : decode cX11_with 113 = .ok (.ior, 1) := by decide +kernel
theorem dX11_with_114 : decode cX11_with 114 = .ok (.istore_n 3, 1) := by decide +kernel
theorem dX11_with_115 : decode cX11_with 115 = .ok (.iload 4, 2) := by decide +kernel
theorem dX11_with_117 : decode cX11_with 117 = .ok (.iload_n 2, 1) := by decide +kernel
theorem dX11_with_118 : decode cX11_with 118 = .ok (.if_icmp .ne 6, 3) := by decide +kernel
theorem dX11_with_121 : decode cX11_with 121 = .ok (.goto 17, 3) := by decide +kernel
theorem dX11_with_124 : decode cX11_with 124 = .ok (.iload 4, 2) := by decide +kernel
theorem dX11_with_126 : decode cX11_with 126 = .ok (.iload_n 2, 1) := by decide +kernel
theorem dX11_with_127 : decode cX11_with 127 = .ok (.isub, 1) := by decide +kernel
theorem dX11_with_128 : decode cX11_with 128 = .ok (.iload_n 2, 1) := by decide +kernel
theorem dX11_with_129 : decode cX11_with 129 = .ok (.iand, 1) := by decide +kernel
theorem dX11_with_130 : decode cX11_with 130 = .ok (.istore 4, 2) := by decide +kernel
theorem dX11_with_132 : decode cX11_with 132 = .ok (.iinc 5 1, 3) := by decide +kernel
theorem dX11_with_135 : decode cX11_with 135 = .ok (.goto (-80), 3) := by decide +kernel
theorem dX11_with_138 : decode cX11_with 138 = .ok (.iload_n 3, 1) := by decide +kernel
theorem dX11_with_139 : decode cX11_with 139 = .ok (.ireturn, 1) := by decide +kernel
theorem dX11_houseOf_0 : decode cX11_houseOf 0 = .ok (.aload_n 0, 1) := by decide +kernel
theorem dX11_houseOf_1 : decode cX11_houseOf 1 = .ok (.getfield 12, 3) := by decide +kernel
theorem dX11_houseOf_4 : decode cX11_houseOf 4 = .ok (.getfield 106, 3) := by decide +kernel
theorem dX11_houseOf_7 : decode cX11_houseOf 7 = .ok (.iload_n 1, 1) := by decide +kernel
theorem dX11_houseOf_8 : decode cX11_houseOf 8 = .ok (.invokevirtual 122, 3) := by decide +kernel
theorem dX11_houseOf_11 : decode cX11_houseOf 11 = .ok (.ifCond .ne 7, 3) := by decide +kernel
theorem dX11_houseOf_14 : decode cX11_houseOf 14 = .ok (.sipush (-1000), 3) := by decide +kernel
theorem dX11_houseOf_17 : decode cX11_houseOf 17 = .ok (.ireturn, 1) := by decide +kernel
theorem dX11_houseOf_18 : decode cX11_houseOf 18 = .ok (.iload_n 2, 1) := by decide +kernel
theorem dX11_houseOf_19 : decode cX11_houseOf 19 = .ok (.tableswitch 67 0 2 #[25, 38, 51], 25) := by decide +kernel
theorem dX11_houseOf_44 : decode cX11_houseOf 44 = .ok (.aload_n 0, 1) := by decide +kernel
theorem dX11_houseOf_45 : decode cX11_houseOf 45 = .ok (.getfield 12, 3) := by decide +kernel
theorem dX11_houseOf_48 : decode cX11_houseOf 48 = .ok (.getfield 106, 3) := by decide +kernel
theorem dX11_houseOf_51 : decode cX11_houseOf 51 = .ok (.getfield 113, 3) := by decide +kernel
theorem dX11_houseOf_54 : decode cX11_houseOf 54 = .ok (.iload_n 1, 1) := by decide +kernel
theorem dX11_houseOf_55 : decode cX11_houseOf 55 = .ok (.iaload, 1) := by decide +kernel
theorem dX11_houseOf_56 : decode cX11_houseOf 56 = .ok (.ireturn, 1) := by decide +kernel
theorem dX11_houseOf_57 : decode cX11_houseOf 57 = .ok (.aload_n 0, 1) := by decide +kernel
theorem dX11_houseOf_58 : decode cX11_houseOf 58 = .ok (.getfield 12, 3) := by decide +kernel
theorem dX11_houseOf_61 : decode cX11_houseOf 61 = .ok (.getfield 106, 3) := by decide +kernel
theorem dX11_houseOf_64 : decode cX11_houseOf 64 = .ok (.getfield 116, 3) := by decide +kernel
theorem dX11_houseOf_67 : decode cX11_houseOf 67 = .ok (.iload_n 1, 1) := by decide +kernel
theorem dX11_houseOf_68 : decode cX11_houseOf 68 = .ok (.iaload, 1) := by decide +kernel
theorem dX11_houseOf_69 : decode cX11_houseOf 69 = .ok (.ireturn, 1) := by decide +kernel
theorem dX11_houseOf_70 : decode cX11_houseOf 70 = .ok (.aload_n 0, 1) := by decide +kernel
theorem dX11_houseOf_71 : decode cX11_houseOf 71 = .ok (.getfield 12, 3) := by decide +kernel
theorem dX11_houseOf_74 : decode cX11_houseOf 74 = .ok (.getfield 106, 3) := by decide +kernel
theorem dX11_houseOf_77 : decode cX11_houseOf 77 = .ok (.getfield 119, 3) := by decide +kernel
theorem dX11_houseOf_80 : decode cX11_houseOf 80 = .ok (.iload_n 1, 1) := by decide +kernel
theorem dX11_houseOf_81 : decode cX11_houseOf 81 = .ok (.iaload, 1) := by decide +kernel
theorem dX11_houseOf_82 : decode cX11_houseOf 82 = .ok (.invokestatic 75, 3) := by decide +kernel
theorem dX11_houseOf_85 : decode cX11_houseOf 85 = .ok (.ireturn, 1) := by decide +kernel
theorem dX11_houseOf_86 : decode cX11_houseOf 86 = .ok (.sipush (-1000), 3) := by decide +kernel
theorem dX11_houseOf_89 : decode cX11_houseOf 89 = .ok (.ireturn, 1) := by decide +kernel
theorem dX11_row_0 : decode cX11_row 0 = .ok (.aload_n 0, 1) := by decide +kernel
theorem dX11_row_1 : decode cX11_row 1 = .ok (.getfield 12, 3) := by decide +kernel
theorem dX11_row_4 : decode cX11_row 4 = .ok (.getfield 106, 3) := by decide +kernel
theorem dX11_row_7 : decode cX11_row 7 = .ok (.iload_n 1, 1) := by decide +kernel
theorem dX11_row_8 : decode cX11_row 8 = .ok (.invokevirtual 122, 3) := by decide +kernel
theorem dX11_row_11 : decode cX11_row 11 = .ok (.ifCond .eq 17, 3) := by decide +kernel
theorem dX11_row_14 : decode cX11_row 14 = .ok (.aload_n 0, 1) := by decide +kernel
theorem dX11_row_15 : decode cX11_row 15 = .ok (.getfield 12, 3) := by decide +kernel
theorem dX11_row_18 : decode cX11_row 18 = .ok (.getfield 106, 3) := by decide +kernel
theorem dX11_row_21 : decode cX11_row 21 = .ok (.iload_n 2, 1) := by decide +kernel
theorem dX11_row_22 : decode cX11_row 22 = .ok (.invokevirtual 122, 3) := by decide +kernel
theorem dX11_row_25 : decode cX11_row 25 = .ok (.ifCond .ne 5, 3) := by decide +kernel
theorem dX11_row_28 : decode cX11_row 28 = .ok (.iconst (-1), 1) := by decide +kernel
theorem dX11_row_29 : decode cX11_row 29 = .ok (.ireturn, 1) := by decide +kernel
theorem dX11_row_30 : decode cX11_row 30 = .ok (.aload_n 0, 1) := by decide +kernel
theorem dX11_row_31 : decode cX11_row 31 = .ok (.getfield 12, 3) := by decide +kernel
theorem dX11_row_34 : decode cX11_row 34 = .ok (.getfield 106, 3) := by decide +kernel
theorem dX11_row_37 : decode cX11_row 37 = .ok (.iload_n 1, 1) := by decide +kernel
theorem dX11_row_38 : decode cX11_row 38 = .ok (.iload_n 2, 1) := by decide +kernel
theorem dX11_row_39 : decode cX11_row 39 = .ok (.invokevirtual 257, 3) := by decide +kernel
theorem dX11_row_42 : decode cX11_row 42 = .ok (.istore 4, 2) := by decide +kernel
theorem dX11_row_44 : decode cX11_row 44 = .ok (.iload 4, 2) := by decide +kernel
theorem dX11_row_46 : decode cX11_row 46 = .ok (.ifCond .ne 5, 3) := by decide +kernel
theorem dX11_row_49 : decode cX11_row 49 = .ok (.iconst (-1), 1) := by decide +kernel
theorem dX11_row_50 : decode cX11_row 50 = .ok (.ireturn, 1) := by decide +kernel
theorem dX11_row_51 : decode cX11_row 51 = .ok (.iload_n 3, 1) := by decide +kernel
theorem dX11_row_52 : decode cX11_row 52 = .ok (.iconst (-1), 1) := by decide +kernel
theorem dX11_row_53 : decode cX11_row 53 = .ok (.if_icmp .ne 6, 3) := by decide +kernel
theorem dX11_row_56 : decode cX11_row 56 = .ok (.iload 4, 2) := by decide +kernel
theorem dX11_row_58 : decode cX11_row 58 = .ok (.ireturn, 1) := by decide +kernel
theorem dX11_row_59 : decode cX11_row 59 = .ok (.iload_n 3, 1) := by decide +kernel
theorem dX11_row_60 : decode cX11_row 60 = .ok (.ifCond .lt 26, 3) := by decide +kernel
theorem dX11_row_63 : decode cX11_row 63 = .ok (.iload_n 3, 1) := by decide +kernel
theorem dX11_row_64 : decode cX11_row 64 = .ok (.iload 4, 2) := by decide +kernel
theorem dX11_row_66 : decode cX11_row 66 = .ok (.if_icmp .ge 20, 3) := by decide +kernel
theorem dX11_row_69 : decode cX11_row 69 = .ok (.aload_n 0, 1) := by decide +kernel
theorem dX11_row_70 : decode cX11_row 70 = .ok (.getfield 12, 3) := by decide +kernel
theorem dX11_row_73 : decode cX11_row 73 = .ok (.getfield 106, 3) := by decide +kernel
theorem dX11_row_76 : decode cX11_row 76 = .ok (.iload_n 1, 1) := by decide +kernel
theorem dX11_row_77 : decode cX11_row 77 = .ok (.iload 4, 2) := by decide +kernel
theorem dX11_row_79 : decode cX11_row 79 = .ok (.iload_n 3, 1) := by decide +kernel
theorem dX11_row_80 : decode cX11_row 80 = .ok (.invokevirtual 261, 3) := by decide +kernel
theorem dX11_row_83 : decode cX11_row 83 = .ok (.goto 4, 3) := by decide +kernel
theorem dX11_row_86 : decode cX11_row 86 = .ok (.iconst (-1), 1) := by decide +kernel
theorem dX11_row_87 : decode cX11_row 87 = .ok (.ireturn, 1) := by decide +kernel
theorem dX11_winter_0 : decode cX11_winter 0 = .ok (.aload_n 0, 1) := by decide +kernel
theorem dX11_winter_1 : decode cX11_winter 1 = .ok (.getfield 50, 3) := by decide +kernel
theorem dX11_winter_4 : decode cX11_winter 4 = .ok (.aload_n 0, 1) := by decide +kernel
theorem dX11_winter_5 : decode cX11_winter 5 = .ok (.getfield 12, 3) := by decide +kernel
theorem dX11_winter_8 : decode cX11_winter 8 = .ok (.getfield 106, 3) := by decide +kernel
theorem dX11_winter_11 : decode cX11_winter 11 = .ok (.invokevirtual 265, 3) := by decide +kernel
theorem dX11_winter_14 : decode cX11_winter 14 = .ok (.ireturn, 1) := by decide +kernel
theorem dX11_town_0 : decode cX11_town 0 = .ok (.iload_n 1, 1) := by decide +kernel
theorem dX11_town_1 : decode cX11_town 1 = .ok (.ifCond .lt 34, 3) := by decide +kernel
theorem dX11_town_4 : decode cX11_town 4 = .ok (.iload_n 1, 1) := by decide +kernel
theorem dX11_town_5 : decode cX11_town 5 = .ok (.sipush 9999, 3) := by decide +kernel
theorem dX11_town_8 : decode cX11_town 8 = .ok (.if_icmp .gt 27, 3) := by decide +kernel
theorem dX11_town_11 : decode cX11_town 11 = .ok (.iload_n 2, 1) := by decide +kernel
theorem dX11_town_12 : decode cX11_town 12 = .ok (.iconst 1, 1) := by decide +kernel
theorem dX11_town_13 : decode cX11_town 13 = .ok (.if_icmp .lt 22, 3) := by decide +kernel
theorem dX11_town_16 : decode cX11_town 16 = .ok (.iload_n 2, 1) := by decide +kernel
theorem dX11_town_17 : decode cX11_town 17 = .ok (.bipush 99, 2) := by decide +kernel
theorem dX11_town_19 : decode cX11_town 19 = .ok (.if_icmp .gt 16, 3) := by decide +kernel
theorem dX11_town_22 : decode cX11_town 22 = .ok (.aload_n 0, 1) := by decide +kernel
theorem dX11_town_23 : decode cX11_town 23 = .ok (.getfield 12, 3) := by decide +kernel
theorem dX11_town_26 : decode cX11_town 26 = .ok (.getfield 106, 3) := by decide +kernel
theorem dX11_town_29 : decode cX11_town 29 = .ok (.getfield 110, 3) := by decide +kernel
theorem dX11_town_32 : decode cX11_town 32 = .ok (.ifCond .ne 5, 3) := by decide +kernel
theorem dX11_town_35 : decode cX11_town 35 = .ok (.iconst (-1), 1) := by decide +kernel
theorem dX11_town_36 : decode cX11_town 36 = .ok (.ireturn, 1) := by decide +kernel
theorem dX11_town_37 : decode cX11_town 37 = .ok (.aload_n 0, 1) := by decide +kernel
theorem dX11_town_38 : decode cX11_town 38 = .ok (.getfield 12, 3) := by decide +kernel
theorem dX11_town_41 : decode cX11_town 41 = .ok (.getfield 187, 3) := by decide +kernel
theorem dX11_town_44 : decode cX11_town 44 = .ok (.aload_n 0, 1) := by decide +kernel
theorem dX11_town_45 : decode cX11_town 45 = .ok (.getfield 12, 3) := by decide +kernel
theorem dX11_town_48 : decode cX11_town 48 = .ok (.getfield 177, 3) := by decide +kernel
theorem dX11_town_51 : decode cX11_town 51 = .ok (.aload_n 0, 1) := by decide +kernel
theorem dX11_town_52 : decode cX11_town 52 = .ok (.getfield 12, 3) := by decide +kernel
theorem dX11_town_55 : decode cX11_town 55 = .ok (.getfield 106, 3) := by decide +kernel
theorem dX11_town_58 : decode cX11_town 58 = .ok (.invokevirtual 191, 3) := by decide +kernel
theorem dX11_town_61 : decode cX11_town 61 = .ok (.aload_n 0, 1) := by decide +kernel
theorem dX11_town_62 : decode cX11_town 62 = .ok (.getfield 12, 3) := by decide +kernel
theorem dX11_town_65 : decode cX11_town 65 = .ok (.getfield 106, 3) := by decide +kernel
theorem dX11_town_68 : decode cX11_town 68 = .ok (.iload_n 1, 1) := by decide +kernel
theorem dX11_town_69 : decode cX11_town 69 = .ok (.iload_n 2, 1) := by decide +kernel
theorem dX11_town_70 : decode cX11_town 70 = .ok (.invokevirtual 268, 3) := by decide +kernel
theorem dX11_town_73 : decode cX11_town 73 = .ok (.ireturn, 1) := by decide +kernel
theorem dX11_image_0 : decode cX11_image 0 = .ok (.aload_n 0, 1) := by decide +kernel
theorem dX11_image_1 : decode cX11_image 1 = .ok (.getfield 16, 3) := by decide +kernel
theorem dX11_image_4 : decode cX11_image 4 = .ok (.aload_n 0, 1) := by decide +kernel
theorem dX11_image_5 : decode cX11_image 5 = .ok (.getfield 12, 3) := by decide +kernel
theorem dX11_image_8 : decode cX11_image 8 = .ok (.invokevirtual 271, 3) := by decide +kernel
theorem dX11_image_11 : decode cX11_image 11 = .ok (.aload_n 0, 1) := by decide +kernel
theorem dX11_image_12 : decode cX11_image 12 = .ok (.getfield 12, 3) := by decide +kernel
theorem dX11_image_15 : decode cX11_image 15 = .ok (.getfield 177, 3) := by decide +kernel
theorem dX11_image_18 : decode cX11_image 18 = .ok (.invokestatic 75, 3) := by decide +kernel
theorem dX11_image_21 : decode cX11_image 21 = .ok (.ireturn, 1) := by decide +kernel
theorem dX11_back_0 : decode cX11_back 0 = .ok (.aload_n 0, 1) := by decide +kernel
theorem dX11_back_1 : decode cX11_back 1 = .ok (.getfield 43, 3) := by decide +kernel
theorem dX11_back_4 : decode cX11_back 4 = .ok (.invokevirtual 84, 3) := by decide +kernel
theorem dX11_back_7 : decode cX11_back 7 = .ok (.aload_n 0, 1) := by decide +kernel
theorem dX11_back_8 : decode cX11_back 8 = .ok (.getfield 12, 3) := by decide +kernel
theorem dX11_back_11 : decode cX11_back 11 = .ok (.aload_n 0, 1) := by decide +kernel
theorem dX11_back_12 : decode cX11_back 12 = .ok (.getfield 16, 3) := by decide +kernel
theorem dX11_back_15 : decode cX11_back 15 = .ok (.invokevirtual 271, 3) := by decide +kernel
theorem dX11_back_18 : decode cX11_back 18 = .ok (.aload_n 0, 1) := by decide +kernel
theorem dX11_back_19 : decode cX11_back 19 = .ok (.getfield 12, 3) := by decide +kernel
theorem dX11_back_22 : decode cX11_back 22 = .ok (.getfield 177, 3) := by decide +kernel
theorem dX11_back_25 : decode cX11_back 25 = .ok (.invokestatic 75, 3) := by decide +kernel
theorem dX11_back_28 : decode cX11_back 28 = .ok (.ireturn, 1) := by decide +kernel
theorem dX11_about_0 : decode cX11_about 0 = .ok (.iload_n 1, 1) := by decide +kernel
theorem dX11_about_1 : decode cX11_about 1 = .ok (.tableswitch 135 0 8 #[51, 62, 70, 78, 89, 97, 105, 116, 127], 51) := by decide +kernel
theorem dX11_about_52 : decode cX11_about 52 = .ok (.aload_n 0, 1) := by decide +kernel
theorem dX11_about_53 : decode cX11_about 53 = .ok (.getfield 12, 3) := by decide +kernel
theorem dX11_about_56 : decode cX11_about 56 = .ok (.getfield 65, 3) := by decide +kernel
theorem dX11_about_59 : decode cX11_about 59 = .ok (.getfield 81, 3) := by decide +kernel
theorem dX11_about_62 : decode cX11_about 62 = .ok (.ireturn, 1) := by decide +kernel
theorem dX11_about_63 : decode cX11_about 63 = .ok (.aload_n 0, 1) := by decide +kernel
theorem dX11_about_64 : decode cX11_about 64 = .ok (.getfield 12, 3) := by decide +kernel
theorem dX11_about_67 : decode cX11_about 67 = .ok (.getfield 177, 3) := by decide +kernel
theorem dX11_about_70 : decode cX11_about 70 = .ok (.ireturn, 1) := by decide +kernel
theorem dX11_about_71 : decode cX11_about 71 = .ok (.aload_n 0, 1) := by decide +kernel
theorem dX11_about_72 : decode cX11_about 72 = .ok (.getfield 12, 3) := by decide +kernel
theorem dX11_about_75 : decode cX11_about 75 = .ok (.getfield 103, 3) := by decide +kernel
theorem dX11_about_78 : decode cX11_about 78 = .ok (.ireturn, 1) := by decide +kernel
theorem dX11_about_79 : decode cX11_about 79 = .ok (.aload_n 0, 1) := by decide +kernel
theorem dX11_about_80 : decode cX11_about 80 = .ok (.getfield 12, 3) := by decide +kernel
theorem dX11_about_83 : decode cX11_about 83 = .ok (.getfield 106, 3) := by decide +kernel
theorem dX11_about_86 : decode cX11_about 86 = .ok (.getfield 110, 3) := by decide +kernel
theorem dX11_about_89 : decode cX11_about 89 = .ok (.ireturn, 1) := by decide +kernel
theorem dX11_about_90 : decode cX11_about 90 = .ok (.aload_n 0, 1) := by decide +kernel
theorem dX11_about_91 : decode cX11_about 91 = .ok (.getfield 12, 3) := by decide +kernel
theorem dX11_about_94 : decode cX11_about 94 = .ok (.getfield 136, 3) := by decide +kernel
theorem dX11_about_97 : decode cX11_about 97 = .ok (.ireturn, 1) := by decide +kernel
theorem dX11_about_98 : decode cX11_about 98 = .ok (.aload_n 0, 1) := by decide +kernel
theorem dX11_about_99 : decode cX11_about 99 = .ok (.getfield 12, 3) := by decide +kernel
theorem dX11_about_102 : decode cX11_about 102 = .ok (.getfield 160, 3) := by decide +kernel
theorem dX11_about_105 : decode cX11_about 105 = .ok (.ireturn, 1) := by decide +kernel
theorem dX11_about_106 : decode cX11_about 106 = .ok (.aload_n 0, 1) := by decide +kernel
theorem dX11_about_107 : decode cX11_about 107 = .ok (.getfield 12, 3) := by decide +kernel
theorem dX11_about_110 : decode cX11_about 110 = .ok (.getfield 187, 3) := by decide +kernel
theorem dX11_about_113 : decode cX11_about 113 = .ok (.getfield 213, 3) := by decide +kernel
theorem dX11_about_116 : decode cX11_about 116 = .ok (.ireturn, 1) := by decide +kernel
theorem dX11_about_117 : decode cX11_about 117 = .ok (.aload_n 0, 1) := by decide +kernel
theorem dX11_about_118 : decode cX11_about 118 = .ok (.getfield 12, 3) := by decide +kernel
theorem dX11_about_121 : decode cX11_about 121 = .ok (.getfield 233, 3) := by decide +kernel
theorem dX11_about_124 : decode cX11_about 124 = .ok (.getfield 237, 3) := by decide +kernel
theorem dX11_about_127 : decode cX11_about 127 = .ok (.ireturn, 1) := by decide +kernel
theorem dX11_about_128 : decode cX11_about 128 = .ok (.aload_n 0, 1) := by decide +kernel
theorem dX11_about_129 : decode cX11_about 129 = .ok (.getfield 22, 3) := by decide +kernel
theorem dX11_about_132 : decode cX11_about 132 = .ok (.getfield 129, 3) := by decide +kernel
theorem dX11_about_135 : decode cX11_about 135 = .ok (.ireturn, 1) := by decide +kernel
theorem dX11_about_136 : decode cX11_about 136 = .ok (.aload_n 0, 1) := by decide +kernel
theorem dX11_about_137 : decode cX11_about 137 = .ok (.iload_n 1, 1) := by decide +kernel
theorem dX11_about_138 : decode cX11_about 138 = .ok (.invokevirtual 274, 3) := by decide +kernel
theorem dX11_about_141 : decode cX11_about 141 = .ok (.ireturn, 1) := by decide +kernel
theorem dX11_aboutStone_0 : decode cX11_aboutStone 0 = .ok (.iload_n 1, 1) := by decide +kernel
theorem dX11_aboutStone_1 : decode cX11_aboutStone 1 = .ok (.bipush 10, 2) := by decide +kernel
theorem dX11_aboutStone_3 : decode cX11_aboutStone 3 = .ok (.if_icmp .lt 36, 3) := by decide +kernel
theorem dX11_aboutStone_6 : decode cX11_aboutStone 6 = .ok (.iload_n 1, 1) := by decide +kernel
theorem dX11_aboutStone_7 : decode cX11_aboutStone 7 = .ok (.bipush 10, 2) := by decide +kernel
theorem dX11_aboutStone_9 : decode cX11_aboutStone 9 = .ok (.aload_n 0, 1) := by decide +kernel
theorem dX11_aboutStone_10 : decode cX11_aboutStone 10 = .ok (.getfield 12, 3) := by decide +kernel
theorem dX11_aboutStone_13 : decode cX11_aboutStone 13 = .ok (.getfield 65, 3) := by decide +kernel
theorem dX11_aboutStone_16 : decode cX11_aboutStone 16 = .ok (.getfield 81, 3) := by decide +kernel
theorem dX11_aboutStone_19 : decode cX11_aboutStone 19 = .ok (.iadd, 1) := by decide +kernel
theorem dX11_aboutStone_20 : decode cX11_aboutStone 20 = .ok (.if_icmp .ge 19, 3) := by decide +kernel
theorem dX11_aboutStone_23 : decode cX11_aboutStone 23 = .ok (.aload_n 0, 1) := by decide +kernel
theorem dX11_aboutStone_24 : decode cX11_aboutStone 24 = .ok (.getfield 12, 3) := by decide +kernel
theorem dX11_aboutStone_27 : decode cX11_aboutStone 27 = .ok (.getfield 65, 3) := by decide +kernel
theorem dX11_aboutStone_30 : decode cX11_aboutStone 30 = .ok (.getfield 97, 3) := by decide +kernel
theorem dX11_aboutStone_33 : decode cX11_aboutStone 33 = .ok (.iload_n 1, 1) := by decide +kernel
theorem dX11_aboutStone_34 : decode cX11_aboutStone 34 = .ok (.bipush 10, 2) := by decide +kernel
theorem dX11_aboutStone_36 : decode cX11_aboutStone 36 = .ok (.isub, 1) := by decide +kernel
theorem dX11_aboutStone_37 : decode cX11_aboutStone 37 = .ok (.iaload, 1) := by decide +kernel
theorem dX11_aboutStone_38 : decode cX11_aboutStone 38 = .ok (.ireturn, 1) := by decide +kernel
theorem dX11_aboutStone_39 : decode cX11_aboutStone 39 = .ok (.iload_n 1, 1) := by decide +kernel
theorem dX11_aboutStone_40 : decode cX11_aboutStone 40 = .ok (.bipush 30, 2) := by decide +kernel
theorem dX11_aboutStone_42 : decode cX11_aboutStone 42 = .ok (.if_icmp .lt 36, 3) := by decide +kernel
theorem dX11_aboutStone_45 : decode cX11_aboutStone 45 = .ok (.iload_n 1, 1) := by decide +kernel
theorem dX11_aboutStone_46 : decode cX11_aboutStone 46 = .ok (.bipush 30, 2) := by decide +kernel
theorem dX11_aboutStone_48 : decode cX11_aboutStone 48 = .ok (.aload_n 0, 1) := by decide +kernel
theorem dX11_aboutStone_49 : decode cX11_aboutStone 49 = .ok (.getfield 12, 3) := by decide +kernel
theorem dX11_aboutStone_52 : decode cX11_aboutStone 52 = .ok (.getfield 65, 3) := by decide +kernel
theorem dX11_aboutStone_55 : decode cX11_aboutStone 55 = .ok (.getfield 81, 3) := by decide +kernel
theorem dX11_aboutStone_58 : decode cX11_aboutStone 58 = .ok (.iadd, 1) := by decide +kernel
theorem dX11_aboutStone_59 : decode cX11_aboutStone 59 = .ok (.if_icmp .ge 19, 3) := by decide +kernel
theorem dX11_aboutStone_62 : decode cX11_aboutStone 62 = .ok (.aload_n 0, 1) := by decide +kernel
theorem dX11_aboutStone_63 : decode cX11_aboutStone 63 = .ok (.getfield 12, 3) := by decide +kernel
theorem dX11_aboutStone_66 : decode cX11_aboutStone 66 = .ok (.getfield 65, 3) := by decide +kernel
theorem dX11_aboutStone_69 : decode cX11_aboutStone 69 = .ok (.getfield 100, 3) := by decide +kernel
theorem dX11_aboutStone_72 : decode cX11_aboutStone 72 = .ok (.iload_n 1, 1) := by decide +kernel
theorem dX11_aboutStone_73 : decode cX11_aboutStone 73 = .ok (.bipush 30, 2) := by decide +kernel
theorem dX11_aboutStone_75 : decode cX11_aboutStone 75 = .ok (.isub, 1) := by decide +kernel
theorem dX11_aboutStone_76 : decode cX11_aboutStone 76 = .ok (.iaload, 1) := by decide +kernel
theorem dX11_aboutStone_77 : decode cX11_aboutStone 77 = .ok (.ireturn, 1) := by decide +kernel
theorem dX11_aboutStone_78 : decode cX11_aboutStone 78 = .ok (.bipush (-2), 2) := by decide +kernel
theorem dX11_aboutStone_80 : decode cX11_aboutStone 80 = .ok (.ireturn, 1) := by decide +kernel
theorem dX11_canBeLaid_0 : decode cX11_canBeLaid 0 = .ok (.aload_n 0, 1) := by decide +kernel
theorem dX11_canBeLaid_1 : decode cX11_canBeLaid 1 = .ok (.getfield 12, 3) := by decide +kernel
theorem dX11_canBeLaid_4 : decode cX11_canBeLaid 4 = .ok (.iload_n 1, 1) := by decide +kernel
theorem dX11_canBeLaid_5 : decode cX11_canBeLaid 5 = .ok (.invokevirtual 164, 3) := by decide +kernel
theorem dX11_canBeLaid_8 : decode cX11_canBeLaid 8 = .ok (.ifCond .ne 70, 3) := by decide +kernel
theorem dX11_canBeLaid_11 : decode cX11_canBeLaid 11 = .ok (.aload_n 0, 1) := by decide +kernel
theorem dX11_canBeLaid_12 : decode cX11_canBeLaid 12 = .ok (.getfield 12, 3) := by decide +kernel
theorem dX11_canBeLaid_15 : decode cX11_canBeLaid 15 = .ok (.getfield 65, 3) := by decide +kernel
theorem dX11_canBeLaid_18 : decode cX11_canBeLaid 18 = .ok (.iload_n 1, 1) := by decide +kernel
theorem dX11_canBeLaid_19 : decode cX11_canBeLaid 19 = .ok (.aload_n 0, 1) := by decide +kernel
theorem dX11_canBeLaid_20 : decode cX11_canBeLaid 20 = .ok (.getfield 12, 3) := by decide +kernel
theorem dX11_canBeLaid_23 : decode cX11_canBeLaid 23 = .ok (.getfield 177, 3) := by decide +kernel
theorem dX11_canBeLaid_26 : decode cX11_canBeLaid 26 = .ok (.invokevirtual 180, 3) := by decide +kernel
theorem dX11_canBeLaid_29 : decode cX11_canBeLaid 29 = .ok (.ifCond .eq 49, 3) := by decide +kernel
theorem dX11_canBeLaid_32 : decode cX11_canBeLaid 32 = .ok (.aload_n 0, 1) := by decide +kernel
theorem dX11_canBeLaid_33 : decode cX11_canBeLaid 33 = .ok (.getfield 36, 3) := by decide +kernel
theorem dX11_canBeLaid_36 : decode cX11_canBeLaid 36 = .ok (.aload_n 0, 1) := by decide +kernel
theorem dX11_canBeLaid_37 : decode cX11_canBeLaid 37 = .ok (.getfield 12, 3) := by decide +kernel
theorem dX11_canBeLaid_40 : decode cX11_canBeLaid 40 = .ok (.iload_n 1, 1) := by decide +kernel
theorem dX11_canBeLaid_41 : decode cX11_canBeLaid 41 = .ok (.aload_n 0, 1) := by decide +kernel
theorem dX11_canBeLaid_42 : decode cX11_canBeLaid 42 = .ok (.getfield 12, 3) := by decide +kernel
theorem dX11_canBeLaid_45 : decode cX11_canBeLaid 45 = .ok (.getfield 177, 3) := by decide +kernel
theorem dX11_canBeLaid_48 : decode cX11_canBeLaid 48 = .ok (.invokestatic 75, 3) := by decide +kernel
theorem dX11_canBeLaid_51 : decode cX11_canBeLaid 51 = .ok (.aload_n 0, 1) := by decide +kernel
theorem dX11_canBeLaid_52 : decode cX11_canBeLaid 52 = .ok (.getfield 12, 3) := by decide +kernel
theorem dX11_canBeLaid_55 : decode cX11_canBeLaid 55 = .ok (.getfield 65, 3) := by decide +kernel
theorem dX11_canBeLaid_58 : decode cX11_canBeLaid 58 = .ok (.aload_n 0, 1) := by decide +kernel
theorem dX11_canBeLaid_59 : decode cX11_canBeLaid 59 = .ok (.getfield 12, 3) := by decide +kernel
theorem dX11_canBeLaid_62 : decode cX11_canBeLaid 62 = .ok (.getfield 177, 3) := by decide +kernel
theorem dX11_canBeLaid_65 : decode cX11_canBeLaid 65 = .ok (.invokevirtual 277, 3) := by decide +kernel
theorem dX11_canBeLaid_68 : decode cX11_canBeLaid 68 = .ok (.invokevirtual 280, 3) := by decide +kernel
theorem dX11_canBeLaid_71 : decode cX11_canBeLaid 71 = .ok (.ifCond .eq 7, 3) := by decide +kernel
theorem dX11_canBeLaid_74 : decode cX11_canBeLaid 74 = .ok (.iconst 1, 1) := by decide +kernel
theorem dX11_canBeLaid_75 : decode cX11_canBeLaid 75 = .ok (.goto 4, 3) := by decide +kernel
theorem dX11_canBeLaid_78 : decode cX11_canBeLaid 78 = .ok (.iconst 0, 1) := by decide +kernel
theorem dX11_canBeLaid_79 : decode cX11_canBeLaid 79 = .ok (.ireturn, 1) := by decide +kernel
theorem dX11_liftUponLaid_0 : decode cX11_liftUponLaid 0 = .ok (.aload_n 0, 1) := by decide +kernel
theorem dX11_liftUponLaid_1 : decode cX11_liftUponLaid 1 = .ok (.getfield 12, 3) := by decide +kernel
theorem dX11_liftUponLaid_4 : decode cX11_liftUponLaid 4 = .ok (.getfield 177, 3) := by decide +kernel
theorem dX11_liftUponLaid_7 : decode cX11_liftUponLaid 7 = .ok (.iconst 1, 1) := by decide +kernel
theorem dX11_liftUponLaid_8 : decode cX11_liftUponLaid 8 = .ok (.iload_n 1, 1) := by decide +kernel
theorem dX11_liftUponLaid_9 : decode cX11_liftUponLaid 9 = .ok (.ishl, 1) := by decide +kernel
theorem dX11_liftUponLaid_10 : decode cX11_liftUponLaid 10 = .ok (.iconst (-1), 1) := by decide +kernel
theorem dX11_liftUponLaid_11 : decode cX11_liftUponLaid 11 = .ok (.ixor, 1) := by decide +kernel
theorem dX11_liftUponLaid_12 : decode cX11_liftUponLaid 12 = .ok (.iand, 1) := by decide +kernel
theorem dX11_liftUponLaid_13 : decode cX11_liftUponLaid 13 = .ok (.istore_n 2, 1) := by decide +kernel
theorem dX11_liftUponLaid_14 : decode cX11_liftUponLaid 14 = .ok (.aload_n 0, 1) := by decide +kernel
theorem dX11_liftUponLaid_15 : decode cX11_liftUponLaid 15 = .ok (.getfield 36, 3) := by decide +kernel
theorem dX11_liftUponLaid_18 : decode cX11_liftUponLaid 18 = .ok (.aload_n 0, 1) := by decide +kernel
theorem dX11_liftUponLaid_19 : decode cX11_liftUponLaid 19 = .ok (.getfield 12, 3) := by decide +kernel
theorem dX11_liftUponLaid_22 : decode cX11_liftUponLaid 22 = .ok (.iload_n 1, 1) := by decide +kernel
theorem dX11_liftUponLaid_23 : decode cX11_liftUponLaid 23 = .ok (.iload_n 2, 1) := by decide +kernel
theorem dX11_liftUponLaid_24 : decode cX11_liftUponLaid 24 = .ok (.invokestatic 75, 3) := by decide +kernel
theorem dX11_liftUponLaid_27 : decode cX11_liftUponLaid 27 = .ok (.aload_n 0, 1) := by decide +kernel
theorem dX11_liftUponLaid_28 : decode cX11_liftUponLaid 28 = .ok (.getfield 12, 3) := by decide +kernel
theorem dX11_liftUponLaid_31 : decode cX11_liftUponLaid 31 = .ok (.getfield 65, 3) := by decide +kernel
theorem dX11_liftUponLaid_34 : decode cX11_liftUponLaid 34 = .ok (.iload_n 2, 1) := by decide +kernel
theorem dX11_liftUponLaid_35 : decode cX11_liftUponLaid 35 = .ok (.invokevirtual 277, 3) := by decide +kernel
theorem dX11_liftUponLaid_38 : decode cX11_liftUponLaid 38 = .ok (.invokevirtual 284, 3) := by decide +kernel
theorem dX11_liftUponLaid_41 : decode cX11_liftUponLaid 41 = .ok (.ireturn, 1) := by decide +kernel
theorem dX11_isPlayed_0 : decode cX11_isPlayed 0 = .ok (.aload_n 1, 1) := by decide +kernel
theorem dX11_isPlayed_1 : decode cX11_isPlayed 1 = .ok (.iload_n 2, 1) := by decide +kernel
theorem dX11_isPlayed_2 : decode cX11_isPlayed 2 = .ok (.invokevirtual 288, 3) := by decide +kernel
theorem dX11_isPlayed_5 : decode cX11_isPlayed 5 = .ok (.istore_n 3, 1) := by decide +kernel
theorem dX11_isPlayed_6 : decode cX11_isPlayed 6 = .ok (.aload_n 1, 1) := by decide +kernel
theorem dX11_isPlayed_7 : decode cX11_isPlayed 7 = .ok (.iload_n 2, 1) := by decide +kernel
theorem dX11_isPlayed_8 : decode cX11_isPlayed 8 = .ok (.invokevirtual 291, 3) := by decide +kernel
theorem dX11_isPlayed_11 : decode cX11_isPlayed 11 = .ok (.tableswitch 75 11 13 #[25, 40, 55], 25) := by decide +kernel
theorem dX11_isPlayed_36 : decode cX11_isPlayed 36 = .ok (.aload_n 0, 1) := by decide +kernel
theorem dX11_isPlayed_37 : decode cX11_isPlayed 37 = .ok (.iload_n 3, 1) := by decide +kernel
theorem dX11_isPlayed_38 : decode cX11_isPlayed 38 = .ok (.invokevirtual 294, 3) := by decide +kernel
theorem dX11_isPlayed_41 : decode cX11_isPlayed 41 = .ok (.iconst (-1), 1) := by decide +kernel
theorem dX11_isPlayed_42 : decode cX11_isPlayed 42 = .ok (.if_icmp .eq 7, 3) := by decide +kernel
theorem dX11_isPlayed_45 : decode cX11_isPlayed 45 = .ok (.iconst 1, 1) := by decide +kernel
theorem dX11_isPlayed_46 : decode cX11_isPlayed 46 = .ok (.goto 4, 3) := by decide +kernel
theorem dX11_isPlayed_49 : decode cX11_isPlayed 49 = .ok (.iconst 0, 1) := by decide +kernel
theorem dX11_isPlayed_50 : decode cX11_isPlayed 50 = .ok (.ireturn, 1) := by decide +kernel
theorem dX11_isPlayed_51 : decode cX11_isPlayed 51 = .ok (.aload_n 0, 1) := by decide +kernel
theorem dX11_isPlayed_52 : decode cX11_isPlayed 52 = .ok (.iload_n 3, 1) := by decide +kernel
theorem dX11_isPlayed_53 : decode cX11_isPlayed 53 = .ok (.invokevirtual 297, 3) := by decide +kernel
theorem dX11_isPlayed_56 : decode cX11_isPlayed 56 = .ok (.iconst (-1), 1) := by decide +kernel
theorem dX11_isPlayed_57 : decode cX11_isPlayed 57 = .ok (.if_icmp .eq 7, 3) := by decide +kernel
theorem dX11_isPlayed_60 : decode cX11_isPlayed 60 = .ok (.iconst 1, 1) := by decide +kernel
theorem dX11_isPlayed_61 : decode cX11_isPlayed 61 = .ok (.goto 4, 3) := by decide +kernel
theorem dX11_isPlayed_64 : decode cX11_isPlayed 64 = .ok (.iconst 0, 1) := by decide +kernel
theorem dX11_isPlayed_65 : decode cX11_isPlayed 65 = .ok (.ireturn, 1) := by decide +kernel
theorem dX11_isPlayed_66 : decode cX11_isPlayed 66 = .ok (.aload_n 0, 1) := by decide +kernel
theorem dX11_isPlayed_67 : decode cX11_isPlayed 67 = .ok (.iload_n 3, 1) := by decide +kernel
theorem dX11_isPlayed_68 : decode cX11_isPlayed 68 = .ok (.aload_n 1, 1) := by decide +kernel
theorem dX11_isPlayed_69 : decode cX11_isPlayed 69 = .ok (.iload_n 2, 1) := by decide +kernel
theorem dX11_isPlayed_70 : decode cX11_isPlayed 70 = .ok (.invokevirtual 300, 3) := by decide +kernel
theorem dX11_isPlayed_73 : decode cX11_isPlayed 73 = .ok (.invokevirtual 303, 3) := by decide +kernel
theorem dX11_isPlayed_76 : decode cX11_isPlayed 76 = .ok (.iconst (-1), 1) := by decide +kernel
theorem dX11_isPlayed_77 : decode cX11_isPlayed 77 = .ok (.if_icmp .eq 7, 3) := by decide +kernel
theorem dX11_isPlayed_80 : decode cX11_isPlayed 80 = .ok (.iconst 1, 1) := by decide +kernel
theorem dX11_isPlayed_81 : decode cX11_isPlayed 81 = .ok (.goto 4, 3) := by decide +kernel
theorem dX11_isPlayed_84 : decode cX11_isPlayed 84 = .ok (.iconst 0, 1) := by decide +kernel
theorem dX11_isPlayed_85 : decode cX11_isPlayed 85 = .ok (.ireturn, 1) := by decide +kernel
theorem dX11_isPlayed_86 : decode cX11_isPlayed 86 = .ok (.iconst 1, 1) := by decide +kernel
theorem dX11_isPlayed_87 : decode cX11_isPlayed 87 = .ok (.ireturn, 1) := by decide +kernel
theorem dX12_init_0 : decode cX12_init 0 = .ok (.aload_n 0, 1) := by decide +kernel
theorem dX12_init_1 : decode cX12_init 1 = .ok (.invokespecial 1, 3) := by decide +kernel
theorem dX12_init_4 : decode cX12_init 4 = .ok (.aload_n 0, 1) := by decide +kernel
theorem dX12_init_5 : decode cX12_init 5 = .ok (.sipush 780, 3) := by decide +kernel
theorem dX12_init_8 : decode cX12_init 8 = .ok (.newarray .int, 2) := by decide +kernel
theorem dX12_init_10 : decode cX12_init 10 = .ok (.putfield 7, 3) := by decide +kernel
theorem dX12_init_13 : decode cX12_init 13 = .ok (.aload_n 0, 1) := by decide +kernel
theorem dX12_init_14 : decode cX12_init 14 = .ok (.sipush 780, 3) := by decide +kernel
theorem dX12_init_17 : decode cX12_init 17 = .ok (.newarray .int, 2) := by decide +kernel
theorem dX12_init_19 : decode cX12_init 19 = .ok (.putfield 13, 3) := by decide +kernel
theorem dX12_init_22 : decode cX12_init 22 = .ok (.aload_n 0, 1) := by decide +kernel
theorem dX12_init_23 : decode cX12_init 23 = .ok (.sipush 2720, 3) := by decide +kernel
theorem dX12_init_26 : decode cX12_init 26 = .ok (.newarray .int, 2) := by decide +kernel
theorem dX12_init_28 : decode cX12_init 28 = .ok (.putfield 16, 3) := by decide +kernel
theorem dX12_init_31 : decode cX12_init 31 = .ok (.aload_n 0, 1) := by decide +kernel
theorem dX12_init_32 : decode cX12_init 32 = .ok (.sipush 300, 3) := by decide +kernel
theorem dX12_init_35 : decode cX12_init 35 = .ok (.newarray .int, 2) := by decide +kernel
theorem dX12_init_37 : decode cX12_init 37 = .ok (.putfield 19, 3) := by decide +kernel
theorem dX12_init_40 : decode cX12_init 40 = .ok (.aload_n 0, 1) := by decide +kernel
theorem dX12_init_41 : decode cX12_init 41 = .ok (.iconst (-1), 1) := by decide +kernel
theorem dX12_init_42 : decode cX12_init 42 = .ok (.putfield 22, 3) := by decide +kernel
theorem dX12_init_45 : decode cX12_init 45 = .ok (.aload_n 0, 1) := by decide +kernel
theorem dX12_init_46 : decode cX12_init 46 = .ok (.iconst (-1), 1) := by decide +kernel
theorem dX12_init_47 : decode cX12_init 47 = .ok (.putfield 26, 3) := by decide +kernel
theorem dX12_init_50 : decode cX12_init 50 = .ok (.aload_n 0, 1) := by decide +kernel
theorem dX12_init_51 : decode cX12_init 51 = .ok (.sipush 160, 3) := by decide +kernel
theorem dX12_init_54 : decode cX12_init 54 = .ok (.newarray .int, 2) := by decide +kernel
theorem dX12_init_56 : decode cX12_init 56 = .ok (.putfield 29, 3) := by decide +kernel
theorem dX12_init_59 : decode cX12_init 59 = .ok (.aload_n 0, 1) := by decide +kernel
theorem dX12_init_60 : decode cX12_init 60 = .ok (.bipush 8, 2) := by decide +kernel
theorem dX12_init_62 : decode cX12_init 62 = .ok (.newarray .int, 2) := by decide +kernel
theorem dX12_init_64 : decode cX12_init 64 = .ok (.putfield 32, 3) := by decide +kernel
theorem dX12_init_67 : decode cX12_init 67 = .ok (.aload_n 0, 1) := by decide +kernel
theorem dX12_init_68 : decode cX12_init 68 = .ok (.sipush 330, 3) := by decide +kernel
theorem dX12_init_71 : decode cX12_init 71 = .ok (.newarray .long, 2) := by decide +kernel
theorem dX12_init_73 : decode cX12_init 73 = .ok (.putfield 35, 3) := by decide +kernel
theorem dX12_init_76 : decode cX12_init 76 = .ok (.aload_n 0, 1) := by decide +kernel
theorem dX12_init_77 : decode cX12_init 77 = .ok (.sipush 330, 3) := by decide +kernel
theorem dX12_init_80 : decode cX12_init 80 = .ok (.newarray .boolean, 2) := by decide +kernel
theorem dX12_init_82 : decode cX12_init 82 = .ok (.putfield 39, 3) := by decide +kernel
theorem dX12_init_85 : decode cX12_init 85 = .ok (.aload_n 0, 1) := by decide +kernel
theorem dX12_init_86 : decode cX12_init 86 = .ok (.sipush 4096, 3) := by decide +kernel
theorem dX12_init_89 : decode cX12_init 89 = .ok (.newarray .boolean, 2) := by decide +kernel
theorem dX12_init_91 : decode cX12_init 91 = .ok (.putfield 43, 3) := by decide +kernel
theorem dX12_init_94 : decode cX12_init 94 = .ok (.aload_n 0, 1) := by decide +kernel
theorem dX12_init_95 : decode cX12_init 95 = .ok (.sipush 4096, 3) := by decide +kernel
theorem dX12_init_98 : decode cX12_init 98 = .ok (.newarray .int, 2) := by decide +kernel
theorem dX12_init_100 : decode cX12_init 100 = .ok (.putfield 46, 3) := by decide +kernel
theorem dX12_init_103 : decode cX12_init 103 = .ok (.aload_n 0, 1) := by decide +kernel
theorem dX12_init_104 : decode cX12_init 104 = .ok (.sipush 4096, 3) := by decide +kernel
theorem dX12_init_107 : decode cX12_init 107 = .ok (.newarray .long, 2) := by decide +kernel
theorem dX12_init_109 : decode cX12_init 109 = .ok (.putfield 49, 3) := by decide +kernel
theorem dX12_init_112 : decode cX12_init 112 = .ok (.aload_n 0, 1) := by decide +kernel
theorem dX12_init_113 : decode cX12_init 113 = .ok (.bipush 10, 2) := by decide +kernel
theorem dX12_init_115 : decode cX12_init 115 = .ok (.newarray .int, 2) := by decide +kernel
theorem dX12_init_117 : decode cX12_init 117 = .ok (.putfield 52, 3) := by decide +kernel
theorem dX12_init_120 : decode cX12_init 120 = .ok (.aload_n 0, 1) := by decide +kernel
theorem dX12_init_121 : decode cX12_init 121 = .ok (.sipush 1024, 3) := by decide +kernel
theorem dX12_init_124 : decode cX12_init 124 = .ok (.newarray .int, 2) := by decide +kernel
theorem dX12_init_126 : decode cX12_init 126 = .ok (.putfield 55, 3) := by decide +kernel
theorem dX12_init_129 : decode cX12_init 129 = .ok (.aload_n 0, 1) := by decide +kernel
theorem dX12_init_130 : decode cX12_init 130 = .ok (.getfield 7, 3) := by decide +kernel
theorem dX12_init_133 : decode cX12_init 133 = .ok (.iconst 5, 1) := by decide +kernel
theorem dX12_init_134 : decode cX12_init 134 = .ok (.iconst (-1), 1) := by decide +kernel
theorem dX12_init_135 : decode cX12_init 135 = .ok (.iastore, 1) := by decide +kernel
theorem dX12_init_136 : decode cX12_init 136 = .ok (.aload_n 0, 1) := by decide +kernel
theorem dX12_init_137 : decode cX12_init 137 = .ok (.getfield 7, 3) := by decide +kernel
theorem dX12_init_140 : decode cX12_init 140 = .ok (.aload_n 0, 1) := by decide +kernel
theorem dX12_init_141 : decode cX12_init 141 = .ok (.getfield 13, 3) := by decide +kernel
theorem dX12_init_144 : decode cX12_init 144 = .ok (.invokestatic 58, 3) := by decide +kernel
theorem dX12_init_147 : decode cX12_init 147 = .ok (.return_, 1) := by decide +kernel
theorem dX12_copy_0 : decode cX12_copy 0 = .ok (.iconst 0, 1) := by decide +kernel
theorem dX12_copy_1 : decode cX12_copy 1 = .ok (.istore_n 2, 1) := by decide +kernel
theorem dX12_copy_2 : decode cX12_copy 2 = .ok (.iload_n 2, 1) := by decide +kernel
theorem dX12_copy_3 : decode cX12_copy 3 = .ok (.sipush 780, 3) := by decide +kernel
theorem dX12_copy_6 : decode cX12_copy 6 = .ok (.if_icmp .ge 15, 3) := by decide +kernel
theorem dX12_copy_9 : decode cX12_copy 9 = .ok (.aload_n 1, 1) := by decide +kernel
theorem dX12_copy_10 : decode cX12_copy 10 = .ok (.iload_n 2, 1) := by decide +kernel
theorem dX12_copy_11 : decode cX12_copy 11 = .ok (.aload_n 0, 1) := by decide +kernel
theorem dX12_copy_12 : decode cX12_copy 12 = .ok (.iload_n 2, 1) := by decide +kernel
theorem dX12_copy_13 : decode cX12_copy 13 = .ok (.iaload, 1) := by decide +kernel
theorem dX12_copy_14 : decode cX12_copy 14 = .ok (.iastore, 1) := by decide +kernel
theorem dX12_copy_15 : decode cX12_copy 15 = .ok (.iinc 2 1, 3) := by decide +kernel
theorem dX12_copy_18 : decode cX12_copy 18 = .ok (.goto (-16), 3) := by decide +kernel
theorem dX12_copy_21 : decode cX12_copy 21 = .ok (.return_, 1) := by decide +kernel
theorem dX12_isIn_0 : decode cX12_isIn 0 = .ok (.iload_n 0, 1) := by decide +kernel
theorem dX12_isIn_1 : decode cX12_isIn 1 = .ok (.iload_n 1, 1) := by decide +kernel
theorem dX12_isIn_2 : decode cX12_isIn 2 = .ok (.if_icmp .lt 12, 3) := by decide +kernel
theorem dX12_isIn_5 : decode cX12_isIn 5 = .ok (.iload_n 0, 1) := by decide +kernel
theorem dX12_isIn_6 : decode cX12_isIn 6 = .ok (.iload_n 2, 1) := by decide +kernel
theorem dX12_isIn_7 : decode cX12_isIn 7 = .ok (.if_icmp .gt 7, 3) := by decide +kernel
theorem dX12_isIn_10 : decode cX12_isIn 10 = .ok (.iconst 1, 1) := by decide +kernel
theorem dX12_isIn_11 : decode cX12_isIn 11 = .ok (.goto 4, 3) := by decide +kernel
theorem dX12_isIn_14 : decode cX12_isIn 14 = .ok (.iconst 0, 1) := by decide +kernel
theorem dX12_isIn_15 : decode cX12_isIn 15 = .ok (.ireturn, 1) := by decide +kernel
theorem dX12_held_0 : decode cX12_held 0 = .ok (.lload_n 0, 1) := by decide +kernel
theorem dX12_held_1 : decode cX12_held 1 = .ok (.iload_n 2, 1) := by decide +kernel
theorem dX12_held_2 : decode cX12_held 2 = .ok (.i2l, 1) := by decide +kernel
theorem dX12_held_3 : decode cX12_held 3 = .ok (.lcmp, 1) := by decide +kernel
theorem dX12_held_4 : decode cX12_held 4 = .ok (.ifCond .ge 7, 3) := by decide +kernel
theorem dX12_held_7 : decode cX12_held 7 = .ok (.iload_n 2, 1) := by decide +kernel
theorem dX12_held_8 : decode cX12_held 8 = .ok (.goto 16, 3) := by decide +kernel
theorem dX12_held_11 : decode cX12_held 11 = .ok (.lload_n 0, 1) := by decide +kernel
theorem dX12_held_12 : decode cX12_held 12 = .ok (.iload_n 3, 1) := by decide +kernel
theorem dX12_held_13 : decode cX12_held 13 = .ok (.i2l, 1) := by decide +kernel
theorem dX12_held_14 : decode cX12_held 14 = .ok (.lcmp, 1) := by decide +kernel
theorem dX12_held_15 : decode cX12_held 15 = .ok (.ifCond .le 7, 3) := by decide +kernel
theorem dX12_held_18 : decode cX12_held 18 = .ok (.iload_n 3, 1) := by decide +kernel
theorem dX12_held_19 : decode cX12_held 19 = .ok (.goto 5, 3) := by decide +kernel
theorem dX12_held_22 : decode cX12_held 22 = .ok (.lload_n 0, 1) := by decide +kernel
theorem dX12_held_23 : decode cX12_held 23 = .ok (.l2i, 1) := by decide +kernel
theorem dX12_held_24 : decode cX12_held 24 = .ok (.ireturn, 1) := by decide +kernel
theorem dX12_bits_0 : decode cX12_bits 0 = .ok (.iconst 0, 1) := by decide +kernel
theorem dX12_bits_1 : decode cX12_bits 1 = .ok (.istore_n 1, 1) := by decide +kernel
theorem dX12_bits_2 : decode cX12_bits 2 = .ok (.iconst 0, 1) := by decide +kernel
theorem dX12_bits_3 : decode cX12_bits 3 = .ok (.istore_n 2, 1) := by decide +kernel
theorem dX12_bits_4 : decode cX12_bits 4 = .ok (.iload_n 2, 1) := by decide +kernel
theorem dX12_bits_5 : decode cX12_bits 5 = .ok (.bipush 12, 2) := by decide +kernel
theorem dX12_bits_7 : decode cX12_bits 7 = .ok (.if_icmp .ge 17, 3) := by decide +kernel
theorem dX12_bits_10 : decode cX12_bits 10 = .ok (.iload_n 1, 1) := by decide +kernel
theorem dX12_bits_11 : decode cX12_bits 11 = .ok (.iload_n 0, 1) := by decide +kernel
theorem dX12_bits_12 : decode cX12_bits 12 = .ok (.iload_n 2, 1) := by decide +kernel
theorem dX12_bits_13 : decode cX12_bits 13 = .ok (.ishr, 1) := by decide +kernel
theorem dX12_bits_14 : decode cX12_bits 14 = .ok (.iconst 1, 1) := by decide +kernel
theorem dX12_bits_15 : decode cX12_bits 15 = .ok (.iand, 1) := by decide +kernel
theorem dX12_bits_16 : decode cX12_bits 16 = .ok (.iadd, 1) := by decide +kernel
theorem dX12_bits_17 : decode cX12_bits 17 = .ok (.istore_n 1, 1) := by decide +kernel
theorem dX12_bits_18 : decode cX12_bits 18 = .ok (.iinc 2 1, 3) := by decide +kernel
theorem dX12_bits_21 : decode cX12_bits 21 = .ok (.goto (-17), 3) := by decide +kernel
theorem dX12_bits_24 : decode cX12_bits 24 = .ok (.iload_n 1, 1) := by decide +kernel
theorem dX12_bits_25 : decode cX12_bits 25 = .ok (.ireturn, 1) := by decide +kernel
theorem dX12_has_0 : decode cX12_has 0 = .ok (.iload_n 0, 1) := by decide +kernel
theorem dX12_has_1 : decode cX12_has 1 = .ok (.iload_n 1, 1) := by decide +kernel
theorem dX12_has_2 : decode cX12_has 2 = .ok (.ishr, 1) := by decide +kernel
theorem dX12_has_3 : decode cX12_has 3 = .ok (.iconst 1, 1) := by decide +kernel
theorem dX12_has_4 : decode cX12_has 4 = .ok (.iand, 1) := by decide +kernel
theorem dX12_has_5 : decode cX12_has 5 = .ok (.iconst 1, 1) := by decide +kernel
theorem dX12_has_6 : decode cX12_has 6 = .ok (.if_icmp .ne 7, 3) := by decide +kernel
theorem dX12_has_9 : decode cX12_has 9 = .ok (.iconst 1, 1) := by decide +kernel
theorem dX12_has_10 : decode cX12_has 10 = .ok (.goto 4, 3) := by decide +kernel
theorem dX12_has_13 : decode cX12_has 13 = .ok (.iconst 0, 1) := by decide +kernel
theorem dX12_has_14 : decode cX12_has 14 = .ok (.ireturn, 1) := by decide +kernel
theorem dX12_isStone_0 : decode cX12_isStone 0 = .ok (.iload_n 1, 1) := by decide +kernel
theorem dX12_isStone_1 : decode cX12_isStone 1 = .ok (.iconst 0, 1) := by decide +kernel
theorem dX12_isStone_2 : decode cX12_isStone 2 = .ok (.aload_n 0, 1) := by decide +kernel
theorem dX12_isStone_3 : decode cX12_isStone 3 = .ok (.getfield 7, 3) := by decide +kernel
theorem dX12_isStone_6 : decode cX12_isStone 6 = .ok (.iconst 0, 1) := by decide +kernel
theorem dX12_isStone_7 : decode cX12_isStone 7 = .ok (.iaload, 1) := by decide +kernel
theorem dX12_isStone_8 : decode cX12_isStone 8 = .ok (.iconst 1, 1) := by decide +kernel
theorem dX12_isStone_9 : decode cX12_isStone 9 = .ok (.isub, 1) := by decide +kernel
theorem dX12_isStone_10 : decode cX12_isStone 10 = .ok (.invokestatic 62, 3) := by decide +kernel
theorem dX12_isStone_13 : decode cX12_isStone 13 = .ok (.ireturn, 1) := by decide +kernel
theorem dX12_isHouse_0 : decode cX12_isHouse 0 = .ok (.iload_n 1, 1) := by decide +kernel
theorem dX12_isHouse_1 : decode cX12_isHouse 1 = .ok (.iconst 0, 1) := by decide +kernel
theorem dX12_isHouse_2 : decode cX12_isHouse 2 = .ok (.aload_n 0, 1) := by decide +kernel
theorem dX12_isHouse_3 : decode cX12_isHouse 3 = .ok (.getfield 7, 3) := by decide +kernel
theorem dX12_isHouse_6 : decode cX12_isHouse 6 = .ok (.iconst 3, 1) := by decide +kernel
theorem dX12_isHouse_7 : decode cX12_isHouse 7 = .ok (.iaload, 1) := by decide +kernel
theorem dX12_isHouse_8 : decode cX12_isHouse 8 = .ok (.iconst 1, 1) := by decide +kernel
theorem dX12_isHouse_9 : decode cX12_isHouse 9 = .ok (.isub, 1) := by decide +kernel
theorem dX12_isHouse_10 : decode cX12_isHouse 10 = .ok (.invokestatic 62, 3) := by decide +kernel
theorem dX12_isHouse_13 : decode cX12_isHouse 13 = .ok (.ireturn, 1) := by decide +kernel
theorem dX12_all_0 : decode cX12_all 0 = .ok (.iconst 1, 1) := by decide +kernel
theorem dX12_all_1 : decode cX12_all 1 = .ok (.aload_n 0, 1) := by decide +kernel
theorem dX12_all_2 : decode cX12_all 2 = .ok (.getfield 7, 3) := by decide +kernel
theorem dX12_all_5 : decode cX12_all 5 = .ok (.iconst 0, 1) := by decide +kernel
theorem dX12_all_6 : decode cX12_all 6 = .ok (.iaload, 1) := by decide +kernel
theorem dX12_all_7 : decode cX12_all 7 = .ok (.ishl, 1) := by decide +kernel
theorem dX12_all_8 : decode cX12_all 8 = .ok (.iconst 1, 1) := by decide +kernel
theorem dX12_all_9 : decode cX12_all 9 = .ok (.isub, 1) := by decide +kernel
theorem dX12_all_10 : decode cX12_all 10 = .ok (.ireturn, 1) := by decide +kernel
theorem dX12_stoneAt_0 : decode cX12_stoneAt 0 = .ok (.bipush 10, 2) := by decide +kernel
theorem dX12_stoneAt_2 : decode cX12_stoneAt 2 = .ok (.iconst 5, 1) := by decide +kernel
theorem dX12_stoneAt_3 : decode cX12_stoneAt 3 = .ok (.iload_n 0, 1) := by decide +kernel
theorem dX12_stoneAt_4 : decode cX12_stoneAt 4 = .ok (.imul, 1) := by decide +kernel
theorem dX12_stoneAt_5 : decode cX12_stoneAt 5 = .ok (.iadd, 1) := by decide +kernel
theorem dX12_stoneAt_6 : decode cX12_stoneAt 6 = .ok (.ireturn, 1) := by decide +kernel
theorem dX12_houseAt_0 : decode cX12_houseAt 0 = .ok (.bipush 70, 2) := by decide +kernel
theorem dX12_houseAt_2 : decode cX12_houseAt 2 = .ok (.iconst 3, 1) := by decide +kernel
theorem dX12_houseAt_3 : decode cX12_houseAt 3 = .ok (.iload_n 0, 1) := by decide +kernel
theorem dX12_houseAt_4 : decode cX12_houseAt 4 = .ok (.imul, 1) := by decide +kernel
theorem dX12_houseAt_5 : decode cX12_houseAt 5 = .ok (.iadd, 1) := by decide +kernel
theorem dX12_houseAt_6 : decode cX12_houseAt 6 = .ok (.ireturn, 1) := by decide +kernel
theorem dX12_stone_0 : decode cX12_stone 0 = .ok (.iload_n 1, 1) := by decide +kernel
theorem dX12_stone_1 : decode cX12_stone 1 = .ok (.iconst 1, 1) := by decide +kernel
theorem dX12_stone_2 : decode cX12_stone 2 = .ok (.bipush 99, 2) := by decide +kernel
theorem dX12_stone_4 : decode cX12_stone 4 = .ok (.invokestatic 62, 3) := by decide +kernel
theorem dX12_stone_7 : decode cX12_stone 7 = .ok (.ifCond .eq 34, 3) := by decide +kernel
theorem dX12_stone_10 : decode cX12_stone 10 = .ok (.iload_n 2, 1) := by decide +kernel
theorem dX12_stone_11 : decode cX12_stone 11 = .ok (.iconst 0, 1) := by decide +kernel
theorem dX12_stone_12 : decode cX12_stone 12 = .ok (.bipush 20, 2) := by decide +kernel
theorem dX12_stone_14 : decode cX12_stone 14 = .ok (.invokestatic 62, 3) := by decide +kernel
theorem dX12_stone_17 : decode cX12_stone 17 = .ok (.ifCond .eq 24, 3) := by decide +kernel
theorem dX12_stone_20 : decode cX12_stone 20 = .ok (.iload_n 3, 1) := by decide +kernel
theorem dX12_stone_21 : decode cX12_stone 21 = .ok (.iconst 0, 1) := by decide +kernel
theorem dX12_stone_22 : decode cX12_stone 22 = .ok (.bipush 99, 2) := by decide +kernel
theorem dX12_stone_24 : decode cX12_stone 24 = .ok (.invokestatic 62, 3) := by decide +kernel
theorem dX12_stone_27 : decode cX12_stone 27 = .ok (.ifCond .eq 14, 3) := by decide +kernel
theorem dX12_stone_30 : decode cX12_stone 30 = .ok (.aload_n 0, 1) := by decide +kernel
theorem dX12_stone_31 : decode cX12_stone 31 = .ok (.getfield 7, 3) := by decide +kernel
theorem dX12_stone_34 : decode cX12_stone 34 = .ok (.iconst 0, 1) := by decide +kernel
theorem dX12_stone_35 : decode cX12_stone 35 = .ok (.iaload, 1) := by decide +kernel
theorem dX12_stone_36 : decode cX12_stone 36 = .ok (.bipush 12, 2) := by decide +kernel
theorem dX12_stone_38 : decode cX12_stone 38 = .ok (.if_icmp .ne 5, 3) := by decide +kernel
theorem dX12_stone_41 : decode cX12_stone 41 = .ok (.iconst (-1), 1) := by decide +kernel
theorem dX12_stone_42 : decode cX12_stone 42 = .ok (.ireturn, 1) := by decide +kernel
theorem dX12_stone_43 : decode cX12_stone 43 = .ok (.iload 4, 2) := by decide +kernel
theorem dX12_stone_45 : decode cX12_stone 45 = .ok (.iconst 0, 1) := by decide +kernel
theorem dX12_stone_46 : decode cX12_stone 46 = .ok (.aload_n 0, 1) := by decide +kernel
theorem dX12_stone_47 : decode cX12_stone 47 = .ok (.invokevirtual 66, 3) := by decide +kernel
theorem dX12_stone_50 : decode cX12_stone 50 = .ok (.invokestatic 62, 3) := by decide +kernel
theorem dX12_stone_53 : decode cX12_stone 53 = .ok (.ifCond .eq 17, 3) := by decide +kernel
theorem dX12_stone_56 : decode cX12_stone 56 = .ok (.iload 5, 2) := by decide +kernel
theorem dX12_stone_58 : decode cX12_stone 58 = .ok (.iconst 0, 1) := by decide +kernel
theorem dX12_stone_59 : decode cX12_stone 59 = .ok (.iload 4, 2) := by decide +kernel
theorem dX12_stone_61 : decode cX12_stone 61 = .ok (.invokestatic 70, 3) := by decide +kernel
theorem dX12_stone_64 : decode cX12_stone 64 = .ok (.invokestatic 62, 3) := by decide +kernel
theorem dX12_stone_67 : decode cX12_stone 67 = .ok (.ifCond .ne 5, 3) := by decide +kernel
theorem dX12_stone_70 : decode cX12_stone 70 = .ok (.iconst (-1), 1) := by decide +kernel
theorem dX12_stone_71 : decode cX12_stone 71 = .ok (.ireturn, 1) := by decide +kernel
theorem dX12_stone_72 : decode cX12_stone 72 = .ok (.aload_n 0, 1) := by decide +kernel
theorem dX12_stone_73 : decode cX12_stone 73 = .ok (.getfield 7, 3) := by decide +kernel
theorem dX12_stone_76 : decode cX12_stone 76 = .ok (.iconst 0, 1) := by decide +kernel
theorem dX12_stone_77 : decode cX12_stone 77 = .ok (.iaload, 1) := by decide +kernel
theorem dX12_stone_78 : decode cX12_stone 78 = .ok (.invokestatic 74, 3) := by decide +kernel
theorem dX12_stone_81 : decode cX12_stone 81 = .ok (.istore 6, 2) := by decide +kernel
theorem dX12_stone_83 : decode cX12_stone 83 = .ok (.aload_n 0, 1) := by decide +kernel
theorem dX12_stone_84 : decode cX12_stone 84 = .ok (.getfield 7, 3) := by decide +kernel
theorem dX12_stone_87 : decode cX12_stone 87 = .ok (.iload 6, 2) := by decide +kernel
theorem dX12_stone_89 : decode cX12_stone 89 = .ok (.iload_n 1, 1) := by decide +kernel
theorem dX12_stone_90 : decode cX12_stone 90 = .ok (.iastore, 1) := by decide +kernel
theorem dX12_stone_91 : decode cX12_stone 91 = .ok (.aload_n 0, 1) := by decide +kernel
theorem dX12_stone_92 : decode cX12_stone 92 = .ok (.getfield 7, 3) := by decide +kernel
theorem dX12_stone_95 : decode cX12_stone 95 = .ok (.iload 6, 2) := by decide +kernel
theorem dX12_stone_97 : decode cX12_stone 97 = .ok (.iconst 1, 1) := by decide +kernel
theorem dX12_stone_98 : decode cX12_stone 98 = .ok (.iadd, 1) := by decide +kernel
theorem dX12_stone_99 : decode cX12_stone 99 = .ok (.iload_n 2, 1) := by decide +kernel
theorem dX12_stone_100 : decode cX12_stone 100 = .ok (.iastore, 1) := by decide +kernel
theorem dX12_stone_101 : decode cX12_stone 101 = .ok (.aload_n 0, 1) := by decide +kernel
theorem dX12_stone_102 : decode cX12_stone 102 = .ok (.getfield 7, 3) := by decide +kernel
theorem dX12_stone_105 : decode cX12_stone 105 = .ok (.iload 6, 2) := by decide +kernel
theorem dX12_stone_107 : decode cX12_stone 107 = .ok (.iconst 2, 1) := by decide +kernel
theorem dX12_stone_108 : decode cX12_stone 108 = .ok (.iadd, 1) := by decide +kernel
theorem dX12_stone_109 : decode cX12_stone 109 = .ok (.iload_n 3, 1) := by decide +kernel
theorem dX12_stone_110 : decode cX12_stone 110 = .ok (.iastore, 1) := by decide +kernel
theorem dX12_stone_111 : decode cX12_stone 111 = .ok (.aload_n 0, 1) := by decide +kernel
theorem dX12_stone_112 : decode cX12_stone 112 = .ok (.getfield 7, 3) := by decide +kernel
theorem dX12_stone_115 : decode cX12_stone 115 = .ok (.iload 6, 2) := by decide +kernel
theorem dX12_stone_117 : decode cX12_stone 117 = .ok (.iconst 3, 1) := by decide +kernel
theorem dX12_stone_118 : decode cX12_stone 118 = .ok (.iadd, 1) := by decide +kernel
theorem dX12_stone_119 : decode cX12_stone 119 = .ok (.iload 4, 2) := by decide +kernel
theorem dX12_stone_121 : decode cX12_stone 121 = .ok (.iastore, 1) := by decide +kernel
theorem dX12_stone_122 : decode cX12_stone 122 = .ok (.aload_n 0, 1) := by decide +kernel
theorem dX12_stone_123 : decode cX12_stone 123 = .ok (.getfield 7, 3) := by decide +kernel
theorem dX12_stone_126 : decode cX12_stone 126 = .ok (.iload 6, 2) := by decide +kernel
theorem dX12_stone_128 : decode cX12_stone 128 = .ok (.iconst 4, 1) := by decide +kernel
theorem dX12_stone_129 : decode cX12_stone 129 = .ok (.iadd, 1) := by decide +kernel
theorem dX12_stone_130 : decode cX12_stone 130 = .ok (.iload 5, 2) := by decide +kernel
theorem dX12_stone_132 : decode cX12_stone 132 = .ok (.iastore, 1) := by decide +kernel
theorem dX12_stone_133 : decode cX12_stone 133 = .ok (.aload_n 0, 1) := by decide +kernel
theorem dX12_stone_134 : decode cX12_stone 134 = .ok (.getfield 7, 3) := by decide +kernel
theorem dX12_stone_137 : decode cX12_stone 137 = .ok (.iconst 0, 1) := by decide +kernel
theorem dX12_stone_138 : decode cX12_stone 138 = .ok (.dup2, 1) := by decide +kernel
theorem dX12_stone_139 : decode cX12_stone 139 = .ok (.iaload, 1) := by decide +kernel
theorem dX12_stone_140 : decode cX12_stone 140 = .ok (.iconst 1, 1) := by decide +kernel
theorem dX12_stone_141 : decode cX12_stone 141 = .ok (.iadd, 1) := by decide +kernel
theorem dX12_stone_142 : decode cX12_stone 142 = .ok (.iastore, 1) := by decide +kernel
theorem dX12_stone_143 : decode cX12_stone 143 = .ok (.aload_n 0, 1) := by decide +kernel
theorem dX12_stone_144 : decode cX12_stone 144 = .ok (.getfield 7, 3) := by decide +kernel
theorem dX12_stone_147 : decode cX12_stone 147 = .ok (.iconst 0, 1) := by decide +kernel
theorem dX12_stone_148 : decode cX12_stone 148 = .ok (.iaload, 1) := by decide +kernel
theorem dX12_stone_149 : decode cX12_stone 149 = .ok (.iconst 1, 1) := by decide +kernel
theorem dX12_stone_150 : decode cX12_stone 150 = .ok (.isub, 1) := by decide +kernel
theorem dX12_stone_151 : decode cX12_stone 151 = .ok (.ireturn, 1) := by decide +kernel
theorem dX12_hour_0 : decode cX12_hour 0 = .ok (.iload_n 1, 1) := by decide +kernel
theorem dX12_hour_1 : decode cX12_hour 1 = .ok (.iconst 0, 1) := by decide +kernel
theorem dX12_hour_2 : decode cX12_hour 2 = .ok (.bipush 23, 2) := by decide +kernel
theorem dX12_hour_4 : decode cX12_hour 4 = .ok (.invokestatic 62, 3) := by decide +kernel
theorem dX12_hour_7 : decode cX12_hour 7 = .ok (.ifCond .ne 5, 3) := by decide +kernel
theorem dX12_hour_10 : decode cX12_hour 10 = .ok (.iconst 0, 1) := by decide +kernel
theorem dX12_hour_11 : decode cX12_hour 11 = .ok (.ireturn, 1) := by decide +kernel
theorem dX12_hour_12 : decode cX12_hour 12 = .ok (.aload_n 0, 1) := by decide +kernel
theorem dX12_hour_13 : decode cX12_hour 13 = .ok (.getfield 7, 3) := by decide +kernel
theorem dX12_hour_16 : decode cX12_hour 16 = .ok (.iconst 2, 1) := by decide +kernel
theorem dX12_hour_17 : decode cX12_hour 17 = .ok (.iload_n 1, 1) := by decide +kernel
theorem dX12_hour_18 : decode cX12_hour 18 = .ok (.iastore, 1) := by decide +kernel
theorem dX12_hour_19 : decode cX12_hour 19 = .ok (.iconst 1, 1) := by decide +kernel
theorem dX12_hour_20 : decode cX12_hour 20 = .ok (.ireturn, 1) := by decide +kernel
theorem dX12_house_0 : decode cX12_house 0 = .ok (.iload_n 1, 1) := by decide +kernel
theorem dX12_house_1 : decode cX12_house 1 = .ok (.iconst 0, 1) := by decide +kernel
theorem dX12_house_2 : decode cX12_house 2 = .ok (.bipush 99, 2) := by decide +kernel
theorem dX12_house_4 : decode cX12_house 4 = .ok (.invokestatic 62, 3) := by decide +kernel
theorem dX12_house_7 : decode cX12_house 7 = .ok (.ifCond .eq 14, 3) := by decide +kernel
theorem dX12_house_10 : decode cX12_house 10 = .ok (.aload_n 0, 1) := by decide +kernel
theorem dX12_house_11 : decode cX12_house 11 = .ok (.getfield 7, 3) := by decide +kernel
theorem dX12_house_14 : decode cX12_house 14 = .ok (.iconst 3, 1) := by decide +kernel
theorem dX12_house_15 : decode cX12_house 15 = .ok (.iaload, 1) := by decide +kernel
theorem dX12_house_16 : decode cX12_house 16 = .ok (.bipush 10, 2) := by decide +kernel
theorem dX12_house_18 : decode cX12_house 18 = .ok (.if_icmp .ne 5, 3) := by decide +kernel
theorem dX12_house_21 : decode cX12_house 21 = .ok (.iconst (-1), 1) := by decide +kernel
theorem dX12_house_22 : decode cX12_house 22 = .ok (.ireturn, 1) := by decide +kernel
theorem dX12_house_23 : decode cX12_house 23 = .ok (.aload_n 0, 1) := by decide +kernel
theorem dX12_house_24 : decode cX12_house 24 = .ok (.getfield 7, 3) := by decide +kernel
theorem dX12_house_27 : decode cX12_house 27 = .ok (.iconst 3, 1) := by decide +kernel
theorem dX12_house_28 : decode cX12_house 28 = .ok (.iaload, 1) := by decide +kernel
theorem dX12_house_29 : decode cX12_house 29 = .ok (.invokestatic 77, 3) := by decide +kernel
theorem dX12_house_32 : decode cX12_house 32 = .ok (.istore_n 2, 1) := by decide +kernel
theorem dX12_house_33 : decode cX12_house 33 = .ok (.aload_n 0, 1) := by decide +kernel
theorem dX12_house_34 : decode cX12_house 34 = .ok (.getfield 7, 3) := by decide +kernel
theorem dX12_house_37 : decode cX12_house 37 = .ok (.iload_n 2, 1) := by decide +kernel
theorem dX12_house_38 : decode cX12_house 38 = .ok (.iload_n 1, 1) := by decide +kernel
theorem dX12_house_39 : decode cX12_house 39 = .ok (.iastore, 1) := by decide +kernel
theorem dX12_house_40 : decode cX12_house 40 = .ok (.aload_n 0, 1) := by decide +kernel
theorem dX12_house_41 : decode cX12_house 41 = .ok (.getfield 7, 3) := by decide +kernel
theorem dX12_house_44 : decode cX12_house 44 = .ok (.iload_n 2, 1) := by decide +kernel
theorem dX12_house_45 : decode cX12_house 45 = .ok (.iconst 1, 1) := by decide +kernel
theorem dX12_house_46 : decode cX12_house 46 = .ok (.iadd, 1) := by decide +kernel
theorem dX12_house_47 : decode cX12_house 47 = .ok (.iconst 0, 1) := by decide +kernel
theorem dX12_house_48 : decode cX12_house 48 = .ok (.iastore, 1) := by decide +kernel
theorem dX12_house_49 : decode cX12_house 49 = .ok (.aload_n 0, 1) := by decide +kernel
theorem dX12_house_50 : decode cX12_house 50 = .ok (.getfield 7, 3) := by decide +kernel
theorem dX12_house_53 : decode cX12_house 53 = .ok (.iload_n 2, 1) := by decide +kernel
theorem dX12_house_54 : decode cX12_house 54 = .ok (.iconst 2, 1) := by decide +kernel
theorem dX12_house_55 : decode cX12_house 55 = .ok (.iadd, 1) := by decide +kernel
theorem dX12_house_56 : decode cX12_house 56 = .ok (.iconst 0, 1) := by decide +kernel
theorem dX12_house_57 : decode cX12_house 57 = .ok (.iastore, 1) := by decide +kernel
theorem dX12_house_58 : decode cX12_house 58 = .ok (.aload_n 0, 1) := by decide +kernel
theorem dX12_house_59 : decode cX12_house 59 = .ok (.getfield 7, 3) := by decide +kernel
theorem dX12_house_62 : decode cX12_house 62 = .ok (.iconst 3, 1) := by decide +kernel
theorem dX12_house_63 : decode cX12_house 63 = .ok (.dup2, 1) := by decide +kernel
theorem dX12_house_64 : decode cX12_house 64 = .ok (.iaload, 1) := by decide +kernel
theorem dX12_house_65 : decode cX12_house 65 = .ok (.iconst 1, 1) := by decide +kernel
theorem dX12_house_66 : decode cX12_house 66 = .ok (.iadd, 1) := by decide +kernel
theorem dX12_house_67 : decode cX12_house 67 = .ok (.iastore, 1) := by decide +kernel
theorem dX12_house_68 : decode cX12_house 68 = .ok (.aload_n 0, 1) := by decide +kernel
theorem dX12_house_69 : decode cX12_house 69 = .ok (.getfield 7, 3) := by decide +kernel
theorem dX12_house_72 : decode cX12_house 72 = .ok (.iconst 3, 1) := by decide +kernel
theorem dX12_house_73 : decode cX12_house 73 = .ok (.iaload, 1) := by decide +kernel
theorem dX12_house_74 : decode cX12_house 74 = .ok (.iconst 1, 1) := by decide +kernel
theorem dX12_house_75 : decode cX12_house 75 = .ok (.isub, 1) := by decide +kernel
theorem dX12_house_76 : decode cX12_house 76 = .ok (.ireturn, 1) := by decide +kernel
theorem dX12_touches_0 : decode cX12_touches 0 = .ok (.iload_n 1, 1) := by decide +kernel
theorem dX12_touches_1 : decode cX12_touches 1 = .ok (.invokestatic 77, 3) := by decide +kernel
theorem dX12_touches_4 : decode cX12_touches 4 = .ok (.iconst 2, 1) := by decide +kernel
theorem dX12_touches_5 : decode cX12_touches 5 = .ok (.iadd, 1) := by decide +kernel
theorem dX12_touches_6 : decode cX12_touches 6 = .ok (.istore 4, 2) := by decide +kernel
theorem dX12_touches_8 : decode cX12_touches 8 = .ok (.aload_n 0, 1) := by decide +kernel
theorem dX12_touches_9 : decode cX12_touches 9 = .ok (.getfield 7, 3) := by decide +kernel
theorem dX12_touches_12 : decode cX12_touches 12 = .ok (.iload 4, 2) := by decide +kernel
theorem dX12_touches_14 : decode cX12_touches 14 = .ok (.iload_n 3, 1) := by decide +kernel
theorem dX12_touches_15 : decode cX12_touches 15 = .ok (.ifCond .eq 17, 3) := by decide +kernel
theorem dX12_touches_18 : decode cX12_touches 18 = .ok (.aload_n 0, 1) := by decide +kernel
theorem dX12_touches_19 : decode cX12_touches 19 = .ok (.getfield 7, 3) := by decide +kernel
theorem dX12_touches_22 : decode cX12_touches 22 = .ok (.iload 4, 2) := by decide +kernel
theorem dX12_touches_24 : decode cX12_touches 24 = .ok (.iaload, 1) := by decide +kernel
theorem dX12_touches_25 : decode cX12_touches 25 = .ok (.iconst 1, 1) := by decide +kernel
theorem dX12_touches_26 : decode cX12_touches 26 = .ok (.iload_n 2, 1) := by decide +kernel
theorem dX12_touches_27 : decode cX12_touches 27 = .ok (.ishl, 1) := by decide +kernel
theorem dX12_touches_28 : decode cX12_touches 28 = .ok (.ior, 1) := by decide +kernel
theorem dX12_touches_29 : decode cX12_touches 29 = .ok (.goto 16, 3) := by decide +kernel
theorem dX12_touches_32 : decode cX12_touches 32 = .ok (.aload_n 0, 1) := by decide +kernel
theorem dX12_touches_33 : decode cX12_touches 33 = .ok (.getfield 7, 3) := by decide +kernel
theorem dX12_touches_36 : decode cX12_touches 36 = .ok (.iload 4, 2) := by decide +kernel
theorem dX12_touches_38 : decode cX12_touches 38 = .ok (.iaload, 1) := by decide +kernel
theorem dX12_touches_39 : decode cX12_touches 39 = .ok (.iconst 1, 1) := by decide +kernel
theorem dX12_touches_40 : decode cX12_touches 40 = .ok (.iload_n 2, 1) := by decide +kernel
theorem dX12_touches_41 : decode cX12_touches 41 = .ok (.ishl, 1) := by decide +kernel
theorem dX12_touches_42 : decode cX12_touches 42 = .ok (.iconst (-1), 1) := by decide +kernel
theorem dX12_touches_43 : decode cX12_touches 43 = .ok (.ixor, 1) := by decide +kernel
theorem dX12_touches_44 : decode cX12_touches 44 = .ok (.iand, 1) := by decide +kernel
theorem dX12_touches_45 : decode cX12_touches 45 = .ok (.iastore, 1) := by decide +kernel
theorem dX12_touches_46 : decode cX12_touches 46 = .ok (.return_, 1) := by decide +kernel
theorem dX12_touch_0 : decode cX12_touch 0 = .ok (.aload_n 0, 1) := by decide +kernel
theorem dX12_touch_1 : decode cX12_touch 1 = .ok (.iload_n 1, 1) := by decide +kernel
theorem dX12_touch_2 : decode cX12_touch 2 = .ok (.invokevirtual 80, 3) := by decide +kernel
theorem dX12_touch_5 : decode cX12_touch 5 = .ok (.ifCond .eq 16, 3) := by decide +kernel
theorem dX12_touch_8 : decode cX12_touch 8 = .ok (.aload_n 0, 1) := by decide +kernel
theorem dX12_touch_9 : decode cX12_touch 9 = .ok (.iload_n 2, 1) := by decide +kernel
theorem dX12_touch_10 : decode cX12_touch 10 = .ok (.invokevirtual 80, 3) := by decide +kernel
theorem dX12_touch_13 : decode cX12_touch 13 = .ok (.ifCond .eq 8, 3) := by decide +kernel
theorem dX12_touch_16 : decode cX12_touch 16 = .ok (.iload_n 1, 1) := by decide +kernel
theorem dX12_touch_17 : decode cX12_touch 17 = .ok (.iload_n 2, 1) := by decide +kernel
theorem dX12_touch_18 : decode cX12_touch 18 = .ok (.if_icmp .ne 5, 3) := by decide +kernel
theorem dX12_touch_21 : decode cX12_touch 21 = .ok (.iconst 0, 1) := by decide +kernel
theorem dX12_touch_22 : decode cX12_touch 22 = .ok (.ireturn, 1) := by decide +kernel
theorem dX12_touch_23 : decode cX12_touch 23 = .ok (.aload_n 0, 1) := by decide +kernel
theorem dX12_touch_24 : decode cX12_touch 24 = .ok (.iload_n 1, 1) := by decide +kernel
theorem dX12_touch_25 : decode cX12_touch 25 = .ok (.iload_n 2, 1) := by decide +kernel
theorem dX12_touch_26 : decode cX12_touch 26 = .ok (.iload_n 3, 1) := by decide +kernel
theorem dX12_touch_27 : decode cX12_touch 27 = .ok (.invokevirtual 84, 3) := by decide +kernel
theorem dX12_touch_30 : decode cX12_touch 30 = .ok (.aload_n 0, 1) := by decide +kernel
theorem dX12_touch_31 : decode cX12_touch 31 = .ok (.iload_n 2, 1) := by decide +kernel
theorem dX12_touch_32 : decode cX12_touch 32 = .ok (.iload_n 1, 1) := by decide +kernel
theorem dX12_touch_33 : decode cX12_touch 33 = .ok (.iload_n 3, 1) := by decide +kernel
theorem dX12_touch_34 : decode cX12_touch 34 = .ok (.invokevirtual 84, 3) := by decide +kernel
theorem dX12_touch_37 : decode cX12_touch 37 = .ok (.iconst 1, 1) := by decide +kernel
theorem dX12_touch_38 : decode cX12_touch 38 = .ok (.ireturn, 1) := by decide +kernel
theorem dX12_four_0 : decode cX12_four 0 = .ok (.bipush 24, 2) := by decide +kernel
theorem dX12_four_2 : decode cX12_four 2 = .ok (.istore_n 2, 1) := by decide +kernel
theorem dX12_four_3 : decode cX12_four 3 = .ok (.iload_n 2, 1) := by decide +kernel
theorem dX12_four_4 : decode cX12_four 4 = .ok (.ifCond .lt 35, 3) := by decide +kernel
theorem dX12_four_7 : decode cX12_four 7 = .ok (.aload_n 0, 1) := by decide +kernel
theorem dX12_four_8 : decode cX12_four 8 = .ok (.getfield 19, 3) := by decide +kernel
theorem dX12_four_11 : decode cX12_four 11 = .ok (.aload_n 0, 1) := by decide +kernel
theorem dX12_four_12 : decode cX12_four 12 = .ok (.getfield 88, 3) := by decide +kernel
theorem dX12_four_15 : decode cX12_four 15 = .ok (.iload_n 1, 1) := by decide +kernel
theorem dX12_four_16 : decode cX12_four 16 = .ok (.iload_n 2, 1) := by decide +kernel
theorem dX12_four_17 : decode cX12_four 17 = .ok (.ishr, 1) := by decide +kernel
theorem dX12_four_18 : decode cX12_four 18 = .ok (.sipush 255, 3) := by decide +kernel
theorem dX12_four_21 : decode cX12_four 21 = .ok (.iand, 1) := by decide +kernel
theorem dX12_four_22 : decode cX12_four 22 = .ok (.iastore, 1) := by decide +kernel
theorem dX12_four_23 : decode cX12_four 23 = .ok (.aload_n 0, 1) := by decide +kernel
theorem dX12_four_24 : decode cX12_four 24 = .ok (.dup, 1) := by decide +kernel
theorem dX12_four_25 : decode cX12_four 25 = .ok (.getfield 88, 3) := by decide +kernel
theorem dX12_four_28 : decode cX12_four 28 = .ok (.iconst 1, 1) := by decide +kernel
theorem dX12_four_29 : decode cX12_four 29 = .ok (.iadd, 1) := by decide +kernel
theorem dX12_four_30 : decode cX12_four 30 = .ok (.putfield 88, 3) := by decide +kernel
theorem dX12_four_33 : decode cX12_four 33 = .ok (.iinc 2 (-8), 3) := by decide +kernel
theorem dX12_four_36 : decode cX12_four 36 = .ok (.goto (-33), 3) := by decide +kernel
theorem dX12_four_39 : decode cX12_four 39 = .ok (.return_, 1) := by decide +kernel
theorem dX12_feed_0 : decode cX12_feed 0 = .ok (.aload_n 0, 1) := by decide +kernel
theorem dX12_feed_1 : decode cX12_feed 1 = .ok (.getfield 88, 3) := by decide +kernel
theorem dX12_feed_4 : decode cX12_feed 4 = .ok (.bipush 20, 2) := by decide +kernel
theorem dX12_feed_6 : decode cX12_feed 6 = .ok (.iadd, 1) := by decide +kernel
theorem dX12_feed_7 : decode cX12_feed 7 = .ok (.sipush 300, 3) := by decide +kernel
theorem dX12_feed_10 : decode cX12_feed 10 = .ok (.if_icmp .le 5, 3) := by decide +kernel
theorem dX12_feed_13 : decode cX12_feed 13 = .ok (.iconst (-1), 1) := by decide +kernel
theorem dX12_feed_14 : decode cX12_feed 14 = .ok (.ireturn, 1) := by decide +kernel
theorem dX12_feed_15 : decode cX12_feed 15 = .ok (.aload_n 0, 1) := by decide +kernel
theorem dX12_feed_16 : decode cX12_feed 16 = .ok (.iload_n 1, 1) := by decide +kernel
theorem dX12_feed_17 : decode cX12_feed 17 = .ok (.invokevirtual 91, 3) := by decide +kernel
theorem dX12_feed_20 : decode cX12_feed 20 = .ok (.aload_n 0, 1) := by decide +kernel
theorem dX12_feed_21 : decode cX12_feed 21 = .ok (.iload_n 2, 1) := by decide +kernel
theorem dX12_feed_22 : decode cX12_feed 22 = .ok (.invokevirtual 91, 3) := by decide +kernel
theorem dX12_feed_25 : decode cX12_feed 25 = .ok (.aload_n 0, 1) := by decide +kernel
theorem dX12_feed_26 : decode cX12_feed 26 = .ok (.iload_n 3, 1) := by decide +kernel
theorem dX12_feed_27 : decode cX12_feed 27 = .ok (.invokevirtual 91, 3) := by decide +kernel
theorem dX12_feed_30 : decode cX12_feed 30 = .ok (.aload_n 0, 1) := by decide +kernel
theorem dX12_feed_31 : decode cX12_feed 31 = .ok (.iload 4, 2) := by decide +kernel
theorem dX12_feed_33 : decode cX12_feed 33 = .ok (.invokevirtual 91, 3) := by decide +kernel
theorem dX12_feed_36 : decode cX12_feed 36 = .ok (.aload_n 0, 1) := by decide +kernel
theorem dX12_feed_37 : decode cX12_feed 37 = .ok (.iload 5, 2) := by decide +kernel
theorem dX12_feed_39 : decode cX12_feed 39 = .ok (.invokevirtual 91, 3) := by decide +kernel
theorem dX12_feed_42 : decode cX12_feed 42 = .ok (.aload_n 0, 1) := by decide +kernel
theorem dX12_feed_43 : decode cX12_feed 43 = .ok (.getfield 88, 3) := by decide +kernel
theorem dX12_feed_46 : decode cX12_feed 46 = .ok (.ireturn, 1) := by decide +kernel
theorem dX12_end_0 : decode cX12_end 0 = .ok (.iload_n 1, 1) := by decide +kernel
theorem dX12_end_1 : decode cX12_end 1 = .ok (.iconst 0, 1) := by decide +kernel
theorem dX12_end_2 : decode cX12_end 2 = .ok (.aload_n 0, 1) := by decide +kernel
theorem dX12_end_3 : decode cX12_end 3 = .ok (.getfield 88, 3) := by decide +kernel
theorem dX12_end_6 : decode cX12_end 6 = .ok (.invokestatic 62, 3) := by decide +kernel
theorem dX12_end_9 : decode cX12_end 9 = .ok (.ifCond .ne 5, 3) := by decide +kernel
theorem dX12_end_12 : decode cX12_end 12 = .ok (.iconst (-1), 1) := by decide +kernel
theorem dX12_end_13 : decode cX12_end 13 = .ok (.ireturn, 1) := by decide +kernel
theorem dX12_end_14 : decode cX12_end 14 = .ok (.aload_n 0, 1) := by decide +kernel
theorem dX12_end_15 : decode cX12_end 15 = .ok (.iload_n 1, 1) := by decide +kernel
theorem dX12_end_16 : decode cX12_end 16 = .ok (.putfield 88, 3) := by decide +kernel
theorem dX12_end_19 : decode cX12_end 19 = .ok (.iload_n 1, 1) := by decide +kernel
theorem dX12_end_20 : decode cX12_end 20 = .ok (.ireturn, 1) := by decide +kernel
theorem dX12_byteAt_0 : decode cX12_byteAt 0 = .ok (.iload_n 1, 1) := by decide +kernel
theorem dX12_byteAt_1 : decode cX12_byteAt 1 = .ok (.aload_n 0, 1) := by decide +kernel
theorem dX12_byteAt_2 : decode cX12_byteAt 2 = .ok (.getfield 88, 3) := by decide +kernel
theorem dX12_byteAt_5 : decode cX12_byteAt 5 = .ok (.if_icmp .ge 12, 3) := by decide +kernel
theorem dX12_byteAt_8 : decode cX12_byteAt 8 = .ok (.aload_n 0, 1) := by decide +kernel
theorem dX12_byteAt_9 : decode cX12_byteAt 9 = .ok (.getfield 19, 3) := by decide +kernel
theorem dX12_byteAt_12 : decode cX12_byteAt 12 = .ok (.iload_n 1, 1) := by decide +kernel
theorem dX12_byteAt_13 : decode cX12_byteAt 13 = .ok (.iaload, 1) := by decide +kernel
theorem dX12_byteAt_14 : decode cX12_byteAt 14 = .ok (.goto 4, 3) := by decide +kernel
theorem dX12_byteAt_17 : decode cX12_byteAt 17 = .ok (.iconst (-1), 1) := by decide +kernel
theorem dX12_byteAt_18 : decode cX12_byteAt 18 = .ok (.ireturn, 1) := by decide +kernel
theorem dX12_isLetter_0 : decode cX12_isLetter 0 = .ok (.iload_n 0, 1) := by decide +kernel
theorem dX12_isLetter_1 : decode cX12_isLetter 1 = .ok (.bipush 97, 2) := by decide +kernel
theorem dX12_isLetter_3 : decode cX12_isLetter 3 = .ok (.bipush 122, 2) := by decide +kernel
theorem dX12_isLetter_5 : decode cX12_isLetter 5 = .ok (.invokestatic 62, 3) := by decide +kernel
theorem dX12_isLetter_8 : decode cX12_isLetter 8 = .ok (.ifCond .ne 14, 3) := by decide +kernel
theorem dX12_isLetter_11 : decode cX12_isLetter 11 = .ok (.iload_n 0, 1) := by decide +kernel
theorem dX12_isLetter_12 : decode cX12_isLetter 12 = .ok (.bipush 65, 2) := by decide +kernel
theorem dX12_isLetter_14 : decode cX12_isLetter 14 = .ok (.bipush 90, 2) := by decide +kernel
theorem dX12_isLetter_16 : decode cX12_isLetter 16 = .ok (.invokestatic 62, 3) := by decide +kernel
theorem dX12_isLetter_19 : decode cX12_isLetter 19 = .ok (.ifCond .eq 7, 3) := by decide +kernel
theorem dX12_isLetter_22 : decode cX12_isLetter 22 = .ok (.iconst 1, 1) := by decide +kernel
theorem dX12_isLetter_23 : decode cX12_isLetter 23 = .ok (.goto 4, 3) := by decide +kernel
theorem dX12_isLetter_26 : decode cX12_isLetter 26 = .ok (.iconst 0, 1) := by decide +kernel
theorem dX12_isLetter_27 : decode cX12_isLetter 27 = .ok (.ireturn, 1) := by decide +kernel
theorem dX12_isDigit_0 : decode cX12_isDigit 0 = .ok (.iload_n 0, 1) := by decide +kernel
theorem dX12_isDigit_1 : decode cX12_isDigit 1 = .ok (.bipush 48, 2) := by decide +kernel
theorem dX12_isDigit_3 : decode cX12_isDigit 3 = .ok (.bipush 57, 2) := by decide +kernel
theorem dX12_isDigit_5 : decode cX12_isDigit 5 = .ok (.invokestatic 62, 3) := by decide +kernel
theorem dX12_isDigit_8 : decode cX12_isDigit 8 = .ok (.ireturn, 1) := by decide +kernel
theorem dX12_nextToken_0 : decode cX12_nextToken 0 = .ok (.aload_n 0, 1) := by decide +kernel
theorem dX12_nextToken_1 : decode cX12_nextToken 1 = .ok (.aload_n 0, 1) := by decide +kernel
theorem dX12_nextToken_2 : decode cX12_nextToken 2 = .ok (.getfield 95, 3) := by decide +kernel
