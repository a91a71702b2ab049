theorem dX9_pass_48 : decode cX9_pass 48 = .ok (.getfield 13, 3) := by decide +kernel
theorem dX9_pass_51 : decode cX9_pass 51 = .ok (.iconst 0, 1) := by decide +kernel
theorem dX9_pass_52 : decode cX9_pass 52 = .ok (.aload_n 0, 1) := by decide +kernel
theorem dX9_pass_53 : decode cX9_pass 53 = .ok (.getfield 40, 3) := by decide +kernel
theorem dX9_pass_56 : decode cX9_pass 56 = .ok (.bipush 46, 2) := by decide +kernel
theorem dX9_pass_58 : decode cX9_pass 58 = .ok (.invokestatic 117, 3) := by decide +kernel
theorem dX9_pass_61 : decode cX9_pass 61 = .ok (.iload_n 2, 1) := by decide +kernel
theorem dX9_pass_62 : decode cX9_pass 62 = .ok (.ireturn, 1) := by decide +kernel
theorem dX9_hide_0 : decode cX9_hide 0 = .ok (.aload_n 0, 1) := by decide +kernel
theorem dX9_hide_1 : decode cX9_hide 1 = .ok (.iload_n 1, 1) := by decide +kernel
theorem dX9_hide_2 : decode cX9_hide 2 = .ok (.invokevirtual 160, 3) := by decide +kernel
theorem dX9_hide_5 : decode cX9_hide 5 = .ok (.ifCond .ne 5, 3) := by decide +kernel
theorem dX9_hide_8 : decode cX9_hide 8 = .ok (.iconst (-1), 1) := by decide +kernel
theorem dX9_hide_9 : decode cX9_hide 9 = .ok (.ireturn, 1) := by decide +kernel
theorem dX9_hide_10 : decode cX9_hide 10 = .ok (.aload_n 0, 1) := by decide +kernel
theorem dX9_hide_11 : decode cX9_hide 11 = .ok (.invokevirtual 163, 3) := by decide +kernel
theorem dX9_hide_14 : decode cX9_hide 14 = .ok (.aload_n 0, 1) := by decide +kernel
theorem dX9_hide_15 : decode cX9_hide 15 = .ok (.getfield 13, 3) := by decide +kernel
theorem dX9_hide_18 : decode cX9_hide 18 = .ok (.iconst 3, 1) := by decide +kernel
theorem dX9_hide_19 : decode cX9_hide 19 = .ok (.dup2, 1) := by decide +kernel
theorem dX9_hide_20 : decode cX9_hide 20 = .ok (.iaload, 1) := by decide +kernel
theorem dX9_hide_21 : decode cX9_hide 21 = .ok (.iconst 1, 1) := by decide +kernel
theorem dX9_hide_22 : decode cX9_hide 22 = .ok (.iload_n 1, 1) := by decide +kernel
theorem dX9_hide_23 : decode cX9_hide 23 = .ok (.ishl, 1) := by decide +kernel
theorem dX9_hide_24 : decode cX9_hide 24 = .ok (.ixor, 1) := by decide +kernel
theorem dX9_hide_25 : decode cX9_hide 25 = .ok (.iastore, 1) := by decide +kernel
theorem dX9_hide_26 : decode cX9_hide 26 = .ok (.aload_n 0, 1) := by decide +kernel
theorem dX9_hide_27 : decode cX9_hide 27 = .ok (.getfield 13, 3) := by decide +kernel
theorem dX9_hide_30 : decode cX9_hide 30 = .ok (.iconst 3, 1) := by decide +kernel
theorem dX9_hide_31 : decode cX9_hide 31 = .ok (.iaload, 1) := by decide +kernel
theorem dX9_hide_32 : decode cX9_hide 32 = .ok (.iload_n 1, 1) := by decide +kernel
theorem dX9_hide_33 : decode cX9_hide 33 = .ok (.ishr, 1) := by decide +kernel
theorem dX9_hide_34 : decode cX9_hide 34 = .ok (.iconst 1, 1) := by decide +kernel
theorem dX9_hide_35 : decode cX9_hide 35 = .ok (.iand, 1) := by decide +kernel
theorem dX9_hide_36 : decode cX9_hide 36 = .ok (.ireturn, 1) := by decide +kernel
theorem dX9_arrange_0 : decode cX9_arrange 0 = .ok (.iload_n 1, 1) := by decide +kernel
theorem dX9_arrange_1 : decode cX9_arrange 1 = .ok (.iconst 0, 1) := by decide +kernel
theorem dX9_arrange_2 : decode cX9_arrange 2 = .ok (.sipush 999, 3) := by decide +kernel
theorem dX9_arrange_5 : decode cX9_arrange 5 = .ok (.invokestatic 70, 3) := by decide +kernel
theorem dX9_arrange_8 : decode cX9_arrange 8 = .ok (.ifCond .eq 23, 3) := by decide +kernel
theorem dX9_arrange_11 : decode cX9_arrange 11 = .ok (.iload_n 2, 1) := by decide +kernel
theorem dX9_arrange_12 : decode cX9_arrange 12 = .ok (.iconst 1, 1) := by decide +kernel
theorem dX9_arrange_13 : decode cX9_arrange 13 = .ok (.bipush 31, 2) := by decide +kernel
theorem dX9_arrange_15 : decode cX9_arrange 15 = .ok (.invokestatic 70, 3) := by decide +kernel
theorem dX9_arrange_18 : decode cX9_arrange 18 = .ok (.ifCond .eq 13, 3) := by decide +kernel
theorem dX9_arrange_21 : decode cX9_arrange 21 = .ok (.iload_n 3, 1) := by decide +kernel
theorem dX9_arrange_22 : decode cX9_arrange 22 = .ok (.iconst 1, 1) := by decide +kernel
theorem dX9_arrange_23 : decode cX9_arrange 23 = .ok (.bipush 9, 2) := by decide +kernel
theorem dX9_arrange_25 : decode cX9_arrange 25 = .ok (.invokestatic 70, 3) := by decide +kernel
theorem dX9_arrange_28 : decode cX9_arrange 28 = .ok (.ifCond .ne 5, 3) := by decide +kernel
theorem dX9_arrange_31 : decode cX9_arrange 31 = .ok (.iconst (-1), 1) := by decide +kernel
theorem dX9_arrange_32 : decode cX9_arrange 32 = .ok (.ireturn, 1) := by decide +kernel
theorem dX9_arrange_33 : decode cX9_arrange 33 = .ok (.iload_n 1, 1) := by decide +kernel
theorem dX9_arrange_34 : decode cX9_arrange 34 = .ok (.aload_n 0, 1) := by decide +kernel
theorem dX9_arrange_35 : decode cX9_arrange 35 = .ok (.getfield 13, 3) := by decide +kernel
theorem dX9_arrange_38 : decode cX9_arrange 38 = .ok (.iconst 0, 1) := by decide +kernel
theorem dX9_arrange_39 : decode cX9_arrange 39 = .ok (.iaload, 1) := by decide +kernel
theorem dX9_arrange_40 : decode cX9_arrange 40 = .ok (.if_icmp .ge 6, 3) := by decide +kernel
theorem dX9_arrange_43 : decode cX9_arrange 43 = .ok (.bipush (-2), 2) := by decide +kernel
theorem dX9_arrange_45 : decode cX9_arrange 45 = .ok (.ireturn, 1) := by decide +kernel
theorem dX9_arrange_46 : decode cX9_arrange 46 = .ok (.aload_n 0, 1) := by decide +kernel
theorem dX9_arrange_47 : decode cX9_arrange 47 = .ok (.getfield 13, 3) := by decide +kernel
theorem dX9_arrange_50 : decode cX9_arrange 50 = .ok (.iconst 2, 1) := by decide +kernel
theorem dX9_arrange_51 : decode cX9_arrange 51 = .ok (.iaload, 1) := by decide +kernel
theorem dX9_arrange_52 : decode cX9_arrange 52 = .ok (.bipush 9, 2) := by decide +kernel
theorem dX9_arrange_54 : decode cX9_arrange 54 = .ok (.if_icmp .ne 6, 3) := by decide +kernel
theorem dX9_arrange_57 : decode cX9_arrange 57 = .ok (.bipush (-3), 2) := by decide +kernel
theorem dX9_arrange_59 : decode cX9_arrange 59 = .ok (.ireturn, 1) := by decide +kernel
theorem dX9_arrange_60 : decode cX9_arrange 60 = .ok (.aload_n 0, 1) := by decide +kernel
theorem dX9_arrange_61 : decode cX9_arrange 61 = .ok (.invokevirtual 163, 3) := by decide +kernel
theorem dX9_arrange_64 : decode cX9_arrange 64 = .ok (.aload_n 0, 1) := by decide +kernel
theorem dX9_arrange_65 : decode cX9_arrange 65 = .ok (.getfield 13, 3) := by decide +kernel
theorem dX9_arrange_68 : decode cX9_arrange 68 = .ok (.iload_n 1, 1) := by decide +kernel
theorem dX9_arrange_69 : decode cX9_arrange 69 = .ok (.iload_n 2, 1) := by decide +kernel
theorem dX9_arrange_70 : decode cX9_arrange 70 = .ok (.iload_n 3, 1) := by decide +kernel
theorem dX9_arrange_71 : decode cX9_arrange 71 = .ok (.invokestatic 56, 3) := by decide +kernel
theorem dX9_arrange_74 : decode cX9_arrange 74 = .ok (.aload_n 0, 1) := by decide +kernel
theorem dX9_arrange_75 : decode cX9_arrange 75 = .ok (.getfield 13, 3) := by decide +kernel
theorem dX9_arrange_78 : decode cX9_arrange 78 = .ok (.iconst 2, 1) := by decide +kernel
theorem dX9_arrange_79 : decode cX9_arrange 79 = .ok (.iaload, 1) := by decide +kernel
theorem dX9_arrange_80 : decode cX9_arrange 80 = .ok (.iconst 1, 1) := by decide +kernel
theorem dX9_arrange_81 : decode cX9_arrange 81 = .ok (.isub, 1) := by decide +kernel
theorem dX9_arrange_82 : decode cX9_arrange 82 = .ok (.ireturn, 1) := by decide +kernel
theorem dX9_undo_0 : decode cX9_undo 0 = .ok (.aload_n 0, 1) := by decide +kernel
theorem dX9_undo_1 : decode cX9_undo 1 = .ok (.getfield 121, 3) := by decide +kernel
theorem dX9_undo_4 : decode cX9_undo 4 = .ok (.ifCond .ne 6, 3) := by decide +kernel
theorem dX9_undo_7 : decode cX9_undo 7 = .ok (.bipush (-2), 2) := by decide +kernel
theorem dX9_undo_9 : decode cX9_undo 9 = .ok (.ireturn, 1) := by decide +kernel
theorem dX9_undo_10 : decode cX9_undo 10 = .ok (.aload_n 0, 1) := by decide +kernel
theorem dX9_undo_11 : decode cX9_undo 11 = .ok (.dup, 1) := by decide +kernel
theorem dX9_undo_12 : decode cX9_undo 12 = .ok (.getfield 121, 3) := by decide +kernel
theorem dX9_undo_15 : decode cX9_undo 15 = .ok (.iconst 1, 1) := by decide +kernel
theorem dX9_undo_16 : decode cX9_undo 16 = .ok (.isub, 1) := by decide +kernel
theorem dX9_undo_17 : decode cX9_undo 17 = .ok (.putfield 121, 3) := by decide +kernel
theorem dX9_undo_20 : decode cX9_undo 20 = .ok (.iconst 0, 1) := by decide +kernel
theorem dX9_undo_21 : decode cX9_undo 21 = .ok (.istore_n 1, 1) := by decide +kernel
theorem dX9_undo_22 : decode cX9_undo 22 = .ok (.iload_n 1, 1) := by decide +kernel
theorem dX9_undo_23 : decode cX9_undo 23 = .ok (.bipush 46, 2) := by decide +kernel
theorem dX9_undo_25 : decode cX9_undo 25 = .ok (.if_icmp .ge 29, 3) := by decide +kernel
theorem dX9_undo_28 : decode cX9_undo 28 = .ok (.aload_n 0, 1) := by decide +kernel
theorem dX9_undo_29 : decode cX9_undo 29 = .ok (.getfield 13, 3) := by decide +kernel
theorem dX9_undo_32 : decode cX9_undo 32 = .ok (.iload_n 1, 1) := by decide +kernel
theorem dX9_undo_33 : decode cX9_undo 33 = .ok (.aload_n 0, 1) := by decide +kernel
theorem dX9_undo_34 : decode cX9_undo 34 = .ok (.getfield 19, 3) := by decide +kernel
theorem dX9_undo_37 : decode cX9_undo 37 = .ok (.bipush 46, 2) := by decide +kernel
theorem dX9_undo_39 : decode cX9_undo 39 = .ok (.aload_n 0, 1) := by decide +kernel
theorem dX9_undo_40 : decode cX9_undo 40 = .ok (.getfield 121, 3) := by decide +kernel
theorem dX9_undo_43 : decode cX9_undo 43 = .ok (.imul, 1) := by decide +kernel
theorem dX9_undo_44 : decode cX9_undo 44 = .ok (.iload_n 1, 1) := by decide +kernel
theorem dX9_undo_45 : decode cX9_undo 45 = .ok (.iadd, 1) := by decide +kernel
theorem dX9_undo_46 : decode cX9_undo 46 = .ok (.iaload, 1) := by decide +kernel
theorem dX9_undo_47 : decode cX9_undo 47 = .ok (.iastore, 1) := by decide +kernel
theorem dX9_undo_48 : decode cX9_undo 48 = .ok (.iinc 1 1, 3) := by decide +kernel
theorem dX9_undo_51 : decode cX9_undo 51 = .ok (.goto (-29), 3) := by decide +kernel
theorem dX9_undo_54 : decode cX9_undo 54 = .ok (.aload_n 0, 1) := by decide +kernel
theorem dX9_undo_55 : decode cX9_undo 55 = .ok (.getfield 121, 3) := by decide +kernel
theorem dX9_undo_58 : decode cX9_undo 58 = .ok (.ireturn, 1) := by decide +kernel
theorem dX9_king_0 : decode cX9_king 0 = .ok (.iload_n 1, 1) := by decide +kernel
theorem dX9_king_1 : decode cX9_king 1 = .ok (.iconst 0, 1) := by decide +kernel
theorem dX9_king_2 : decode cX9_king 2 = .ok (.bipush 40, 2) := by decide +kernel
theorem dX9_king_4 : decode cX9_king 4 = .ok (.invokestatic 70, 3) := by decide +kernel
theorem dX9_king_7 : decode cX9_king 7 = .ok (.ifCond .eq 12, 3) := by decide +kernel
theorem dX9_king_10 : decode cX9_king 10 = .ok (.iload_n 2, 1) := by decide +kernel
theorem dX9_king_11 : decode cX9_king 11 = .ok (.iconst 0, 1) := by decide +kernel
theorem dX9_king_12 : decode cX9_king 12 = .ok (.iconst 1, 1) := by decide +kernel
theorem dX9_king_13 : decode cX9_king 13 = .ok (.invokestatic 70, 3) := by decide +kernel
theorem dX9_king_16 : decode cX9_king 16 = .ok (.ifCond .ne 5, 3) := by decide +kernel
theorem dX9_king_19 : decode cX9_king 19 = .ok (.iconst (-1), 1) := by decide +kernel
theorem dX9_king_20 : decode cX9_king 20 = .ok (.ireturn, 1) := by decide +kernel
theorem dX9_king_21 : decode cX9_king 21 = .ok (.aload_n 0, 1) := by decide +kernel
theorem dX9_king_22 : decode cX9_king 22 = .ok (.aload_n 0, 1) := by decide +kernel
theorem dX9_king_23 : decode cX9_king 23 = .ok (.getfield 13, 3) := by decide +kernel
theorem dX9_king_26 : decode cX9_king 26 = .ok (.invokevirtual 166, 3) := by decide +kernel
theorem dX9_king_29 : decode cX9_king 29 = .ok (.aload_n 0, 1) := by decide +kernel
theorem dX9_king_30 : decode cX9_king 30 = .ok (.iload_n 1, 1) := by decide +kernel
theorem dX9_king_31 : decode cX9_king 31 = .ok (.invokevirtual 170, 3) := by decide +kernel
theorem dX9_king_34 : decode cX9_king 34 = .ok (.pop, 1) := by decide +kernel
theorem dX9_king_35 : decode cX9_king 35 = .ok (.iload_n 2, 1) := by decide +kernel
theorem dX9_king_36 : decode cX9_king 36 = .ok (.ifCond .ne 12, 3) := by decide +kernel
theorem dX9_king_39 : decode cX9_king 39 = .ok (.aload_n 0, 1) := by decide +kernel
theorem dX9_king_40 : decode cX9_king 40 = .ok (.getfield 40, 3) := by decide +kernel
theorem dX9_king_43 : decode cX9_king 43 = .ok (.iconst 4, 1) := by decide +kernel
theorem dX9_king_44 : decode cX9_king 44 = .ok (.iaload, 1) := by decide +kernel
theorem dX9_king_45 : decode cX9_king 45 = .ok (.goto 19, 3) := by decide +kernel
theorem dX9_king_48 : decode cX9_king 48 = .ok (.aload_n 0, 1) := by decide +kernel
theorem dX9_king_49 : decode cX9_king 49 = .ok (.aload_n 0, 1) := by decide +kernel
theorem dX9_king_50 : decode cX9_king 50 = .ok (.getfield 40, 3) := by decide +kernel
theorem dX9_king_53 : decode cX9_king 53 = .ok (.iconst 4, 1) := by decide +kernel
theorem dX9_king_54 : decode cX9_king 54 = .ok (.iaload, 1) := by decide +kernel
theorem dX9_king_55 : decode cX9_king 55 = .ok (.aload_n 0, 1) := by decide +kernel
theorem dX9_king_56 : decode cX9_king 56 = .ok (.getfield 40, 3) := by decide +kernel
theorem dX9_king_59 : decode cX9_king 59 = .ok (.iconst 1, 1) := by decide +kernel
theorem dX9_king_60 : decode cX9_king 60 = .ok (.iaload, 1) := by decide +kernel
theorem dX9_king_61 : decode cX9_king 61 = .ok (.invokevirtual 147, 3) := by decide +kernel
theorem dX9_king_64 : decode cX9_king 64 = .ok (.ireturn, 1) := by decide +kernel
theorem dX9_firstBell_0 : decode cX9_firstBell 0 = .ok (.iconst 0, 1) := by decide +kernel
theorem dX9_firstBell_1 : decode cX9_firstBell 1 = .ok (.istore_n 1, 1) := by decide +kernel
theorem dX9_firstBell_2 : decode cX9_firstBell 2 = .ok (.iload_n 1, 1) := by decide +kernel
theorem dX9_firstBell_3 : decode cX9_firstBell 3 = .ok (.bipush 40, 2) := by decide +kernel
theorem dX9_firstBell_5 : decode cX9_firstBell 5 = .ok (.if_icmp .gt 18, 3) := by decide +kernel
theorem dX9_firstBell_8 : decode cX9_firstBell 8 = .ok (.aload_n 0, 1) := by decide +kernel
theorem dX9_firstBell_9 : decode cX9_firstBell 9 = .ok (.invokevirtual 154, 3) := by decide +kernel
theorem dX9_firstBell_12 : decode cX9_firstBell 12 = .ok (.ifCond .eq 5, 3) := by decide +kernel
theorem dX9_firstBell_15 : decode cX9_firstBell 15 = .ok (.iload_n 1, 1) := by decide +kernel
theorem dX9_firstBell_16 : decode cX9_firstBell 16 = .ok (.ireturn, 1) := by decide +kernel
theorem dX9_firstBell_17 : decode cX9_firstBell 17 = .ok (.iinc 1 1, 3) := by decide +kernel
theorem dX9_firstBell_20 : decode cX9_firstBell 20 = .ok (.goto (-18), 3) := by decide +kernel
theorem dX9_firstBell_23 : decode cX9_firstBell 23 = .ok (.bipush (-4), 2) := by decide +kernel
theorem dX9_firstBell_25 : decode cX9_firstBell 25 = .ok (.ireturn, 1) := by decide +kernel
theorem dX9_bell_0 : decode cX9_bell 0 = .ok (.aload_n 0, 1) := by decide +kernel
theorem dX9_bell_1 : decode cX9_bell 1 = .ok (.aload_n 0, 1) := by decide +kernel
theorem dX9_bell_2 : decode cX9_bell 2 = .ok (.getfield 13, 3) := by decide +kernel
theorem dX9_bell_5 : decode cX9_bell 5 = .ok (.invokevirtual 166, 3) := by decide +kernel
theorem dX9_bell_8 : decode cX9_bell 8 = .ok (.aload_n 0, 1) := by decide +kernel
theorem dX9_bell_9 : decode cX9_bell 9 = .ok (.invokevirtual 173, 3) := by decide +kernel
theorem dX9_bell_12 : decode cX9_bell 12 = .ok (.ireturn, 1) := by decide +kernel
theorem dX9_hides_0 : decode cX9_hides 0 = .ok (.iload_n 1, 1) := by decide +kernel
theorem dX9_hides_1 : decode cX9_hides 1 = .ok (.iconst 1, 1) := by decide +kernel
theorem dX9_hides_2 : decode cX9_hides 2 = .ok (.bipush 40, 2) := by decide +kernel
theorem dX9_hides_4 : decode cX9_hides 4 = .ok (.invokestatic 70, 3) := by decide +kernel
theorem dX9_hides_7 : decode cX9_hides 7 = .ok (.ifCond .ne 5, 3) := by decide +kernel
theorem dX9_hides_10 : decode cX9_hides 10 = .ok (.iconst (-1), 1) := by decide +kernel
theorem dX9_hides_11 : decode cX9_hides 11 = .ok (.ireturn, 1) := by decide +kernel
theorem dX9_hides_12 : decode cX9_hides 12 = .ok (.bipush (-4), 2) := by decide +kernel
theorem dX9_hides_14 : decode cX9_hides 14 = .ok (.istore_n 2, 1) := by decide +kernel
theorem dX9_hides_15 : decode cX9_hides 15 = .ok (.iconst 0, 1) := by decide +kernel
theorem dX9_hides_16 : decode cX9_hides 16 = .ok (.istore_n 3, 1) := by decide +kernel
theorem dX9_hides_17 : decode cX9_hides 17 = .ok (.iload_n 3, 1) := by decide +kernel
theorem dX9_hides_18 : decode cX9_hides 18 = .ok (.iconst 1, 1) := by decide +kernel
theorem dX9_hides_19 : decode cX9_hides 19 = .ok (.aload_n 0, 1) := by decide +kernel
theorem dX9_hides_20 : decode cX9_hides 20 = .ok (.getfield 13, 3) := by decide +kernel
theorem dX9_hides_23 : decode cX9_hides 23 = .ok (.iconst 2, 1) := by decide +kernel
theorem dX9_hides_24 : decode cX9_hides 24 = .ok (.iaload, 1) := by decide +kernel
theorem dX9_hides_25 : decode cX9_hides 25 = .ok (.ishl, 1) := by decide +kernel
theorem dX9_hides_26 : decode cX9_hides 26 = .ok (.if_icmp .ge 79, 3) := by decide +kernel
theorem dX9_hides_29 : decode cX9_hides 29 = .ok (.iload_n 3, 1) := by decide +kernel
theorem dX9_hides_30 : decode cX9_hides 30 = .ok (.aload_n 0, 1) := by decide +kernel
theorem dX9_hides_31 : decode cX9_hides 31 = .ok (.getfield 13, 3) := by decide +kernel
theorem dX9_hides_34 : decode cX9_hides 34 = .ok (.iconst 3, 1) := by decide +kernel
theorem dX9_hides_35 : decode cX9_hides 35 = .ok (.iaload, 1) := by decide +kernel
theorem dX9_hides_36 : decode cX9_hides 36 = .ok (.iand, 1) := by decide +kernel
theorem dX9_hides_37 : decode cX9_hides 37 = .ok (.ifCond .ne 22, 3) := by decide +kernel
theorem dX9_hides_40 : decode cX9_hides 40 = .ok (.iload_n 2, 1) := by decide +kernel
theorem dX9_hides_41 : decode cX9_hides 41 = .ok (.ifCond .lt 14, 3) := by decide +kernel
theorem dX9_hides_44 : decode cX9_hides 44 = .ok (.iload_n 3, 1) := by decide +kernel
theorem dX9_hides_45 : decode cX9_hides 45 = .ok (.invokestatic 133, 3) := by decide +kernel
theorem dX9_hides_48 : decode cX9_hides 48 = .ok (.iload_n 2, 1) := by decide +kernel
theorem dX9_hides_49 : decode cX9_hides 49 = .ok (.invokestatic 133, 3) := by decide +kernel
theorem dX9_hides_52 : decode cX9_hides 52 = .ok (.if_icmp .ge 7, 3) := by decide +kernel
theorem dX9_hides_55 : decode cX9_hides 55 = .ok (.iconst 1, 1) := by decide +kernel
theorem dX9_hides_56 : decode cX9_hides 56 = .ok (.goto 4, 3) := by decide +kernel
theorem dX9_hides_59 : decode cX9_hides 59 = .ok (.iconst 0, 1) := by decide +kernel
theorem dX9_hides_60 : decode cX9_hides 60 = .ok (.istore 4, 2) := by decide +kernel
theorem dX9_hides_62 : decode cX9_hides 62 = .ok (.iload 4, 2) := by decide +kernel
theorem dX9_hides_64 : decode cX9_hides 64 = .ok (.ifCond .eq 35, 3) := by decide +kernel
theorem dX9_hides_67 : decode cX9_hides 67 = .ok (.aload_n 0, 1) := by decide +kernel
theorem dX9_hides_68 : decode cX9_hides 68 = .ok (.aload_n 0, 1) := by decide +kernel
theorem dX9_hides_69 : decode cX9_hides 69 = .ok (.getfield 13, 3) := by decide +kernel
theorem dX9_hides_72 : decode cX9_hides 72 = .ok (.invokevirtual 166, 3) := by decide +kernel
theorem dX9_hides_75 : decode cX9_hides 75 = .ok (.aload_n 0, 1) := by decide +kernel
theorem dX9_hides_76 : decode cX9_hides 76 = .ok (.getfield 40, 3) := by decide +kernel
theorem dX9_hides_79 : decode cX9_hides 79 = .ok (.iconst 3, 1) := by decide +kernel
theorem dX9_hides_80 : decode cX9_hides 80 = .ok (.dup2, 1) := by decide +kernel
theorem dX9_hides_81 : decode cX9_hides 81 = .ok (.iaload, 1) := by decide +kernel
theorem dX9_hides_82 : decode cX9_hides 82 = .ok (.iload_n 3, 1) := by decide +kernel
theorem dX9_hides_83 : decode cX9_hides 83 = .ok (.ior, 1) := by decide +kernel
theorem dX9_hides_84 : decode cX9_hides 84 = .ok (.iastore, 1) := by decide +kernel
theorem dX9_hides_85 : decode cX9_hides 85 = .ok (.aload_n 0, 1) := by decide +kernel
theorem dX9_hides_86 : decode cX9_hides 86 = .ok (.iload_n 1, 1) := by decide +kernel
theorem dX9_hides_87 : decode cX9_hides 87 = .ok (.invokevirtual 170, 3) := by decide +kernel
theorem dX9_hides_90 : decode cX9_hides 90 = .ok (.ifCond .ne 7, 3) := by decide +kernel
theorem dX9_hides_93 : decode cX9_hides 93 = .ok (.iload_n 3, 1) := by decide +kernel
theorem dX9_hides_94 : decode cX9_hides 94 = .ok (.goto 4, 3) := by decide +kernel
theorem dX9_hides_97 : decode cX9_hides 97 = .ok (.iload_n 2, 1) := by decide +kernel
theorem dX9_hides_98 : decode cX9_hides 98 = .ok (.istore_n 2, 1) := by decide +kernel
theorem dX9_hides_99 : decode cX9_hides 99 = .ok (.iinc 3 1, 3) := by decide +kernel
theorem dX9_hides_102 : decode cX9_hides 102 = .ok (.goto (-85), 3) := by decide +kernel
theorem dX9_hides_105 : decode cX9_hides 105 = .ok (.iload_n 2, 1) := by decide +kernel
theorem dX9_hides_106 : decode cX9_hides 106 = .ok (.ireturn, 1) := by decide +kernel
theorem dX9_reignsOn_0 : decode cX9_reignsOn 0 = .ok (.iconst 0, 1) := by decide +kernel
theorem dX9_reignsOn_1 : decode cX9_reignsOn 1 = .ok (.istore_n 2, 1) := by decide +kernel
theorem dX9_reignsOn_2 : decode cX9_reignsOn 2 = .ok (.iload_n 2, 1) := by decide +kernel
theorem dX9_reignsOn_3 : decode cX9_reignsOn 3 = .ok (.bipush 40, 2) := by decide +kernel
theorem dX9_reignsOn_5 : decode cX9_reignsOn 5 = .ok (.if_icmp .gt 26, 3) := by decide +kernel
theorem dX9_reignsOn_8 : decode cX9_reignsOn 8 = .ok (.aload_n 0, 1) := by decide +kernel
theorem dX9_reignsOn_9 : decode cX9_reignsOn 9 = .ok (.getfield 40, 3) := by decide +kernel
theorem dX9_reignsOn_12 : decode cX9_reignsOn 12 = .ok (.iconst 4, 1) := by decide +kernel
theorem dX9_reignsOn_13 : decode cX9_reignsOn 13 = .ok (.iaload, 1) := by decide +kernel
theorem dX9_reignsOn_14 : decode cX9_reignsOn 14 = .ok (.iload_n 1, 1) := by decide +kernel
theorem dX9_reignsOn_15 : decode cX9_reignsOn 15 = .ok (.if_icmp .ne 5, 3) := by decide +kernel
theorem dX9_reignsOn_18 : decode cX9_reignsOn 18 = .ok (.iload_n 2, 1) := by decide +kernel
theorem dX9_reignsOn_19 : decode cX9_reignsOn 19 = .ok (.ireturn, 1) := by decide +kernel
theorem dX9_reignsOn_20 : decode cX9_reignsOn 20 = .ok (.aload_n 0, 1) := by decide +kernel
theorem dX9_reignsOn_21 : decode cX9_reignsOn 21 = .ok (.invokevirtual 154, 3) := by decide +kernel
theorem dX9_reignsOn_24 : decode cX9_reignsOn 24 = .ok (.pop, 1) := by decide +kernel
theorem dX9_reignsOn_25 : decode cX9_reignsOn 25 = .ok (.iinc 2 1, 3) := by decide +kernel
theorem dX9_reignsOn_28 : decode cX9_reignsOn 28 = .ok (.goto (-26), 3) := by decide +kernel
theorem dX9_reignsOn_31 : decode cX9_reignsOn 31 = .ok (.bipush 41, 2) := by decide +kernel
theorem dX9_reignsOn_33 : decode cX9_reignsOn 33 = .ok (.ireturn, 1) := by decide +kernel
theorem dX9_raise_0 : decode cX9_raise 0 = .ok (.aload_n 0, 1) := by decide +kernel
theorem dX9_raise_1 : decode cX9_raise 1 = .ok (.iload_n 1, 1) := by decide +kernel
theorem dX9_raise_2 : decode cX9_raise 2 = .ok (.invokevirtual 157, 3) := by decide +kernel
theorem dX9_raise_5 : decode cX9_raise 5 = .ok (.ifCond .eq 12, 3) := by decide +kernel
theorem dX9_raise_8 : decode cX9_raise 8 = .ok (.iload_n 2, 1) := by decide +kernel
theorem dX9_raise_9 : decode cX9_raise 9 = .ok (.iconst 0, 1) := by decide +kernel
theorem dX9_raise_10 : decode cX9_raise 10 = .ok (.iconst 1, 1) := by decide +kernel
theorem dX9_raise_11 : decode cX9_raise 11 = .ok (.invokestatic 70, 3) := by decide +kernel
theorem dX9_raise_14 : decode cX9_raise 14 = .ok (.ifCond .ne 5, 3) := by decide +kernel
theorem dX9_raise_17 : decode cX9_raise 17 = .ok (.iconst (-1), 1) := by decide +kernel
theorem dX9_raise_18 : decode cX9_raise 18 = .ok (.ireturn, 1) := by decide +kernel
theorem dX9_raise_19 : decode cX9_raise 19 = .ok (.aload_n 0, 1) := by decide +kernel
theorem dX9_raise_20 : decode cX9_raise 20 = .ok (.aload_n 0, 1) := by decide +kernel
theorem dX9_raise_21 : decode cX9_raise 21 = .ok (.getfield 13, 3) := by decide +kernel
theorem dX9_raise_24 : decode cX9_raise 24 = .ok (.invokevirtual 166, 3) := by decide +kernel
theorem dX9_raise_27 : decode cX9_raise 27 = .ok (.sipush 1000, 3) := by decide +kernel
theorem dX9_raise_30 : decode cX9_raise 30 = .ok (.istore_n 3, 1) := by decide +kernel
theorem dX9_raise_31 : decode cX9_raise 31 = .ok (.aload_n 0, 1) := by decide +kernel
theorem dX9_raise_32 : decode cX9_raise 32 = .ok (.iload_n 1, 1) := by decide +kernel
theorem dX9_raise_33 : decode cX9_raise 33 = .ok (.invokevirtual 176, 3) := by decide +kernel
theorem dX9_raise_36 : decode cX9_raise 36 = .ok (.istore 4, 2) := by decide +kernel
theorem dX9_raise_38 : decode cX9_raise 38 = .ok (.iconst 0, 1) := by decide +kernel
theorem dX9_raise_39 : decode cX9_raise 39 = .ok (.istore 5, 2) := by decide +kernel
theorem dX9_raise_41 : decode cX9_raise 41 = .ok (.iload 5, 2) := by decide +kernel
theorem dX9_raise_43 : decode cX9_raise 43 = .ok (.bipush 100, 2) := by decide +kernel
theorem dX9_raise_45 : decode cX9_raise 45 = .ok (.if_icmp .ge 90, 3) := by decide +kernel
theorem dX9_raise_48 : decode cX9_raise 48 = .ok (.aload_n 0, 1) := by decide +kernel
theorem dX9_raise_49 : decode cX9_raise 49 = .ok (.aload_n 0, 1) := by decide +kernel
theorem dX9_raise_50 : decode cX9_raise 50 = .ok (.getfield 13, 3) := by decide +kernel
theorem dX9_raise_53 : decode cX9_raise 53 = .ok (.invokevirtual 166, 3) := by decide +kernel
theorem dX9_raise_56 : decode cX9_raise 56 = .ok (.aload_n 0, 1) := by decide +kernel
theorem dX9_raise_57 : decode cX9_raise 57 = .ok (.getfield 40, 3) := by decide +kernel
theorem dX9_raise_60 : decode cX9_raise 60 = .ok (.aload_n 0, 1) := by decide +kernel
theorem dX9_raise_61 : decode cX9_raise 61 = .ok (.getfield 13, 3) := by decide +kernel
theorem dX9_raise_64 : decode cX9_raise 64 = .ok (.iconst 0, 1) := by decide +kernel
theorem dX9_raise_65 : decode cX9_raise 65 = .ok (.iaload, 1) := by decide +kernel
theorem dX9_raise_66 : decode cX9_raise 66 = .ok (.iload 5, 2) := by decide +kernel
theorem dX9_raise_68 : decode cX9_raise 68 = .ok (.iconst 5, 1) := by decide +kernel
theorem dX9_raise_69 : decode cX9_raise 69 = .ok (.idiv, 1) := by decide +kernel
theorem dX9_raise_70 : decode cX9_raise 70 = .ok (.iadd, 1) := by decide +kernel
theorem dX9_raise_71 : decode cX9_raise 71 = .ok (.iconst 1, 1) := by decide +kernel
theorem dX9_raise_72 : decode cX9_raise 72 = .ok (.iload 5, 2) := by decide +kernel
theorem dX9_raise_74 : decode cX9_raise 74 = .ok (.iconst 5, 1) := by decide +kernel
theorem dX9_raise_75 : decode cX9_raise 75 = .ok (.irem, 1) := by decide +kernel
theorem dX9_raise_76 : decode cX9_raise 76 = .ok (.ishl, 1) := by decide +kernel
theorem dX9_raise_77 : decode cX9_raise 77 = .ok (.bipush 9, 2) := by decide +kernel
theorem dX9_raise_79 : decode cX9_raise 79 = .ok (.invokestatic 56, 3) := by decide +kernel
theorem dX9_raise_82 : decode cX9_raise 82 = .ok (.aload_n 0, 1) := by decide +kernel
theorem dX9_raise_83 : decode cX9_raise 83 = .ok (.iload_n 1, 1) := by decide +kernel
theorem dX9_raise_84 : decode cX9_raise 84 = .ok (.invokevirtual 176, 3) := by decide +kernel
theorem dX9_raise_87 : decode cX9_raise 87 = .ok (.istore 6, 2) := by decide +kernel
theorem dX9_raise_89 : decode cX9_raise 89 = .ok (.iload 6, 2) := by decide +kernel
theorem dX9_raise_91 : decode cX9_raise 91 = .ok (.iload 4, 2) := by decide +kernel
theorem dX9_raise_93 : decode cX9_raise 93 = .ok (.if_icmp .ge 18, 3) := by decide +kernel
theorem dX9_raise_96 : decode cX9_raise 96 = .ok (.bipush 10, 2) := by decide +kernel
theorem dX9_raise_98 : decode cX9_raise 98 = .ok (.iload 5, 2) := by decide +kernel
theorem dX9_raise_100 : decode cX9_raise 100 = .ok (.iconst 5, 1) := by decide +kernel
theorem dX9_raise_101 : decode cX9_raise 101 = .ok (.idiv, 1) := by decide +kernel
theorem dX9_raise_102 : decode cX9_raise 102 = .ok (.imul, 1) := by decide +kernel
theorem dX9_raise_103 : decode cX9_raise 103 = .ok (.iload 5, 2) := by decide +kernel
theorem dX9_raise_105 : decode cX9_raise 105 = .ok (.iconst 5, 1) := by decide +kernel
theorem dX9_raise_106 : decode cX9_raise 106 = .ok (.irem, 1) := by decide +kernel
theorem dX9_raise_107 : decode cX9_raise 107 = .ok (.iadd, 1) := by decide +kernel
theorem dX9_raise_108 : decode cX9_raise 108 = .ok (.goto 4, 3) := by decide +kernel
theorem dX9_raise_111 : decode cX9_raise 111 = .ok (.iload_n 3, 1) := by decide +kernel
theorem dX9_raise_112 : decode cX9_raise 112 = .ok (.istore_n 3, 1) := by decide +kernel
theorem dX9_raise_113 : decode cX9_raise 113 = .ok (.iload 6, 2) := by decide +kernel
theorem dX9_raise_115 : decode cX9_raise 115 = .ok (.iload 4, 2) := by decide +kernel
theorem dX9_raise_117 : decode cX9_raise 117 = .ok (.if_icmp .ge 8, 3) := by decide +kernel
theorem dX9_raise_120 : decode cX9_raise 120 = .ok (.iload 6, 2) := by decide +kernel
theorem dX9_raise_122 : decode cX9_raise 122 = .ok (.goto 5, 3) := by decide +kernel
theorem dX9_raise_125 : decode cX9_raise 125 = .ok (.iload 4, 2) := by decide +kernel
theorem dX9_raise_127 : decode cX9_raise 127 = .ok (.istore 4, 2) := by decide +kernel
theorem dX9_raise_129 : decode cX9_raise 129 = .ok (.iinc 5 1, 3) := by decide +kernel
theorem dX9_raise_132 : decode cX9_raise 132 = .ok (.goto (-91), 3) := by decide +kernel
theorem dX9_raise_135 : decode cX9_raise 135 = .ok (.iload 4, 2) := by decide +kernel
theorem dX9_raise_137 : decode cX9_raise 137 = .ok (.bipush 40, 2) := by decide +kernel
theorem dX9_raise_139 : decode cX9_raise 139 = .ok (.if_icmp .le 8, 3) := by decide +kernel
theorem dX9_raise_142 : decode cX9_raise 142 = .ok (.bipush (-4), 2) := by decide +kernel
theorem dX9_raise_144 : decode cX9_raise 144 = .ok (.goto 13, 3) := by decide +kernel
theorem dX9_raise_147 : decode cX9_raise 147 = .ok (.iload_n 2, 1) := by decide +kernel
theorem dX9_raise_148 : decode cX9_raise 148 = .ok (.ifCond .ne 7, 3) := by decide +kernel
theorem dX9_raise_151 : decode cX9_raise 151 = .ok (.iload_n 3, 1) := by decide +kernel
theorem dX9_raise_152 : decode cX9_raise 152 = .ok (.goto 5, 3) := by decide +kernel
theorem dX9_raise_155 : decode cX9_raise 155 = .ok (.iload 4, 2) := by decide +kernel
theorem dX9_raise_157 : decode cX9_raise 157 = .ok (.ireturn, 1) := by decide +kernel
theorem dX9_isOrder_0 : decode cX9_isOrder 0 = .ok (.iload_n 1, 1) := by decide +kernel
theorem dX9_isOrder_1 : decode cX9_isOrder 1 = .ok (.istore_n 2, 1) := by decide +kernel
theorem dX9_isOrder_2 : decode cX9_isOrder 2 = .ok (.iconst 0, 1) := by decide +kernel
theorem dX9_isOrder_3 : decode cX9_isOrder 3 = .ok (.istore_n 3, 1) := by decide +kernel
theorem dX9_isOrder_4 : decode cX9_isOrder 4 = .ok (.aload_n 0, 1) := by decide +kernel
theorem dX9_isOrder_5 : decode cX9_isOrder 5 = .ok (.getfield 67, 3) := by decide +kernel
theorem dX9_isOrder_8 : decode cX9_isOrder 8 = .ok (.iconst 1, 1) := by decide +kernel
theorem dX9_isOrder_9 : decode cX9_isOrder 9 = .ok (.isub, 1) := by decide +kernel
theorem dX9_isOrder_10 : decode cX9_isOrder 10 = .ok (.istore 4, 2) := by decide +kernel
theorem dX9_isOrder_12 : decode cX9_isOrder 12 = .ok (.iload 4, 2) := by decide +kernel
theorem dX9_isOrder_14 : decode cX9_isOrder 14 = .ok (.ifCond .lt 41, 3) := by decide +kernel
theorem dX9_isOrder_17 : decode cX9_isOrder 17 = .ok (.aload_n 0, 1) := by decide +kernel
theorem dX9_isOrder_18 : decode cX9_isOrder 18 = .ok (.getfield 43, 3) := by decide +kernel
theorem dX9_isOrder_21 : decode cX9_isOrder 21 = .ok (.iload 4, 2) := by decide +kernel
theorem dX9_isOrder_23 : decode cX9_isOrder 23 = .ok (.iload_n 2, 1) := by decide +kernel
theorem dX9_isOrder_24 : decode cX9_isOrder 24 = .ok (.aload_n 0, 1) := by decide +kernel
theorem dX9_isOrder_25 : decode cX9_isOrder 25 = .ok (.getfield 67, 3) := by decide +kernel
theorem dX9_isOrder_28 : decode cX9_isOrder 28 = .ok (.irem, 1) := by decide +kernel
theorem dX9_isOrder_29 : decode cX9_isOrder 29 = .ok (.iastore, 1) := by decide +kernel
theorem dX9_isOrder_30 : decode cX9_isOrder 30 = .ok (.iload_n 2, 1) := by decide +kernel
theorem dX9_isOrder_31 : decode cX9_isOrder 31 = .ok (.aload_n 0, 1) := by decide +kernel
theorem dX9_isOrder_32 : decode cX9_isOrder 32 = .ok (.getfield 67, 3) := by decide +kernel
theorem dX9_isOrder_35 : decode cX9_isOrder 35 = .ok (.idiv, 1) := by decide +kernel
theorem dX9_isOrder_36 : decode cX9_isOrder 36 = .ok (.istore_n 2, 1) := by decide +kernel
theorem dX9_isOrder_37 : decode cX9_isOrder 37 = .ok (.iload_n 3, 1) := by decide +kernel
theorem dX9_isOrder_38 : decode cX9_isOrder 38 = .ok (.iconst 1, 1) := by decide +kernel
theorem dX9_isOrder_39 : decode cX9_isOrder 39 = .ok (.aload_n 0, 1) := by decide +kernel
theorem dX9_isOrder_40 : decode cX9_isOrder 40 = .ok (.getfield 43, 3) := by decide +kernel
theorem dX9_isOrder_43 : decode cX9_isOrder 43 = .ok (.iload 4, 2) := by decide +kernel
theorem dX9_isOrder_45 : decode cX9_isOrder 45 = .ok (.iaload, 1) := by decide +kernel
theorem dX9_isOrder_46 : decode cX9_isOrder 46 = .ok (.ishl, 1) := by decide +kernel
theorem dX9_isOrder_47 : decode cX9_isOrder 47 = .ok (.ior, 1) := by decide +kernel
theorem dX9_isOrder_48 : decode cX9_isOrder 48 = .ok (.istore_n 3, 1) := by decide +kernel
theorem dX9_isOrder_49 : decode cX9_isOrder 49 = .ok (.iinc 4 (-1), 3) := by decide +kernel
theorem dX9_isOrder_52 : decode cX9_isOrder 52 = .ok (.goto (-40), 3) := by decide +kernel
theorem dX9_isOrder_55 : decode cX9_isOrder 55 = .ok (.iload_n 3, 1) := by decide +kernel
theorem dX9_isOrder_56 : decode cX9_isOrder 56 = .ok (.iconst 1, 1) := by decide +kernel
theorem dX9_isOrder_57 : decode cX9_isOrder 57 = .ok (.aload_n 0, 1) := by decide +kernel
theorem dX9_isOrder_58 : decode cX9_isOrder 58 = .ok (.getfield 67, 3) := by decide +kernel
theorem dX9_isOrder_61 : decode cX9_isOrder 61 = .ok (.ishl, 1) := by decide +kernel
theorem dX9_isOrder_62 : decode cX9_isOrder 62 = .ok (.iconst 1, 1) := by decide +kernel
theorem dX9_isOrder_63 : decode cX9_isOrder 63 = .ok (.isub, 1) := by decide +kernel
theorem dX9_isOrder_64 : decode cX9_isOrder 64 = .ok (.if_icmp .ne 7, 3) := by decide +kernel
theorem dX9_isOrder_67 : decode cX9_isOrder 67 = .ok (.iconst 1, 1) := by decide +kernel
theorem dX9_isOrder_68 : decode cX9_isOrder 68 = .ok (.goto 4, 3) := by decide +kernel
theorem dX9_isOrder_71 : decode cX9_isOrder 71 = .ok (.iconst 0, 1) := by decide +kernel
theorem dX9_isOrder_72 : decode cX9_isOrder 72 = .ok (.ireturn, 1) := by decide +kernel
theorem dX9_order_0 : decode cX9_order 0 = .ok (.iload_n 1, 1) := by decide +kernel
theorem dX9_order_1 : decode cX9_order 1 = .ok (.iconst 1, 1) := by decide +kernel
theorem dX9_order_2 : decode cX9_order 2 = .ok (.bipush 40, 2) := by decide +kernel
theorem dX9_order_4 : decode cX9_order 4 = .ok (.invokestatic 70, 3) := by decide +kernel
theorem dX9_order_7 : decode cX9_order 7 = .ok (.ifCond .eq 17, 3) := by decide +kernel
theorem dX9_order_10 : decode cX9_order 10 = .ok (.iload_n 2, 1) := by decide +kernel
theorem dX9_order_11 : decode cX9_order 11 = .ok (.iconst (-1), 1) := by decide +kernel
theorem dX9_order_12 : decode cX9_order 12 = .ok (.aload_n 0, 1) := by decide +kernel
theorem dX9_order_13 : decode cX9_order 13 = .ok (.getfield 67, 3) := by decide +kernel
theorem dX9_order_16 : decode cX9_order 16 = .ok (.iconst 1, 1) := by decide +kernel
theorem dX9_order_17 : decode cX9_order 17 = .ok (.isub, 1) := by decide +kernel
theorem dX9_order_18 : decode cX9_order 18 = .ok (.invokestatic 70, 3) := by decide +kernel
theorem dX9_order_21 : decode cX9_order 21 = .ok (.ifCond .ne 5, 3) := by decide +kernel
theorem dX9_order_24 : decode cX9_order 24 = .ok (.iconst (-1), 1) := by decide +kernel
theorem dX9_order_25 : decode cX9_order 25 = .ok (.ireturn, 1) := by decide +kernel
theorem dX9_order_26 : decode cX9_order 26 = .ok (.iconst 1, 1) := by decide +kernel
theorem dX9_order_27 : decode cX9_order 27 = .ok (.istore_n 3, 1) := by decide +kernel
theorem dX9_order_28 : decode cX9_order 28 = .ok (.iconst 0, 1) := by decide +kernel
theorem dX9_order_29 : decode cX9_order 29 = .ok (.istore 4, 2) := by decide +kernel
theorem dX9_order_31 : decode cX9_order 31 = .ok (.iload 4, 2) := by decide +kernel
theorem dX9_order_33 : decode cX9_order 33 = .ok (.aload_n 0, 1) := by decide +kernel
theorem dX9_order_34 : decode cX9_order 34 = .ok (.getfield 67, 3) := by decide +kernel
theorem dX9_order_37 : decode cX9_order 37 = .ok (.if_icmp .ge 16, 3) := by decide +kernel
theorem dX9_order_40 : decode cX9_order 40 = .ok (.iload_n 3, 1) := by decide +kernel
theorem dX9_order_41 : decode cX9_order 41 = .ok (.aload_n 0, 1) := by decide +kernel
theorem dX9_order_42 : decode cX9_order 42 = .ok (.getfield 67, 3) := by decide +kernel
theorem dX9_order_45 : decode cX9_order 45 = .ok (.imul, 1) := by decide +kernel
theorem dX9_order_46 : decode cX9_order 46 = .ok (.istore_n 3, 1) := by decide +kernel
theorem dX9_order_47 : decode cX9_order 47 = .ok (.iinc 4 1, 3) := by decide +kernel
theorem dX9_order_50 : decode cX9_order 50 = .ok (.goto (-19), 3) := by decide +kernel
theorem dX9_order_53 : decode cX9_order 53 = .ok (.iconst (-1), 1) := by decide +kernel
theorem dX9_order_54 : decode cX9_order 54 = .ok (.istore 4, 2) := by decide +kernel
theorem dX9_order_56 : decode cX9_order 56 = .ok (.iconst 0, 1) := by decide +kernel
theorem dX9_order_57 : decode cX9_order 57 = .ok (.istore 5, 2) := by decide +kernel
theorem dX9_order_59 : decode cX9_order 59 = .ok (.iload 5, 2) := by decide +kernel
theorem dX9_order_61 : decode cX9_order 61 = .ok (.iload_n 3, 1) := by decide +kernel
theorem dX9_order_62 : decode cX9_order 62 = .ok (.if_icmp .ge 112, 3) := by decide +kernel
theorem dX9_order_65 : decode cX9_order 65 = .ok (.aload_n 0, 1) := by decide +kernel
theorem dX9_order_66 : decode cX9_order 66 = .ok (.iload 5, 2) := by decide +kernel
theorem dX9_order_68 : decode cX9_order 68 = .ok (.invokevirtual 179, 3) := by decide +kernel
theorem dX9_order_71 : decode cX9_order 71 = .ok (.ifCond .eq 97, 3) := by decide +kernel
theorem dX9_order_74 : decode cX9_order 74 = .ok (.aload_n 0, 1) := by decide +kernel
theorem dX9_order_75 : decode cX9_order 75 = .ok (.aload_n 0, 1) := by decide +kernel
theorem dX9_order_76 : decode cX9_order 76 = .ok (.getfield 13, 3) := by decide +kernel
theorem dX9_order_79 : decode cX9_order 79 = .ok (.invokevirtual 166, 3) := by decide +kernel
theorem dX9_order_82 : decode cX9_order 82 = .ok (.aload_n 0, 1) := by decide +kernel
theorem dX9_order_83 : decode cX9_order 83 = .ok (.getfield 40, 3) := by decide +kernel
theorem dX9_order_86 : decode cX9_order 86 = .ok (.iconst 4, 1) := by decide +kernel
theorem dX9_order_87 : decode cX9_order 87 = .ok (.aload_n 0, 1) := by decide +kernel
theorem dX9_order_88 : decode cX9_order 88 = .ok (.getfield 43, 3) := by decide +kernel
theorem dX9_order_91 : decode cX9_order 91 = .ok (.aload_n 0, 1) := by decide +kernel
theorem dX9_order_92 : decode cX9_order 92 = .ok (.getfield 67, 3) := by decide +kernel
theorem dX9_order_95 : decode cX9_order 95 = .ok (.invokestatic 117, 3) := by decide +kernel
theorem dX9_order_98 : decode cX9_order 98 = .ok (.aload_n 0, 1) := by decide +kernel
theorem dX9_order_99 : decode cX9_order 99 = .ok (.getfield 40, 3) := by decide +kernel
theorem dX9_order_102 : decode cX9_order 102 = .ok (.iconst 1, 1) := by decide +kernel
theorem dX9_order_103 : decode cX9_order 103 = .ok (.aload_n 0, 1) := by decide +kernel
theorem dX9_order_104 : decode cX9_order 104 = .ok (.getfield 43, 3) := by decide +kernel
theorem dX9_order_107 : decode cX9_order 107 = .ok (.iconst 0, 1) := by decide +kernel
theorem dX9_order_108 : decode cX9_order 108 = .ok (.iaload, 1) := by decide +kernel
theorem dX9_order_109 : decode cX9_order 109 = .ok (.aload_n 0, 1) := by decide +kernel
theorem dX9_order_110 : decode cX9_order 110 = .ok (.getfield 13, 3) := by decide +kernel
theorem dX9_order_113 : decode cX9_order 113 = .ok (.iconst 4, 1) := by decide +kernel
theorem dX9_order_114 : decode cX9_order 114 = .ok (.iaload, 1) := by decide +kernel
theorem dX9_order_115 : decode cX9_order 115 = .ok (.if_icmp .ne 12, 3) := by decide +kernel
theorem dX9_order_118 : decode cX9_order 118 = .ok (.aload_n 0, 1) := by decide +kernel
theorem dX9_order_119 : decode cX9_order 119 = .ok (.getfield 13, 3) := by decide +kernel
theorem dX9_order_122 : decode cX9_order 122 = .ok (.iconst 1, 1) := by decide +kernel
theorem dX9_order_123 : decode cX9_order 123 = .ok (.iaload, 1) := by decide +kernel
theorem dX9_order_124 : decode cX9_order 124 = .ok (.goto 4, 3) := by decide +kernel
theorem dX9_order_127 : decode cX9_order 127 = .ok (.iconst 0, 1) := by decide +kernel
theorem dX9_order_128 : decode cX9_order 128 = .ok (.iastore, 1) := by decide +kernel
theorem dX9_order_129 : decode cX9_order 129 = .ok (.aload_n 0, 1) := by decide +kernel
theorem dX9_order_130 : decode cX9_order 130 = .ok (.iload_n 1, 1) := by decide +kernel
theorem dX9_order_131 : decode cX9_order 131 = .ok (.invokevirtual 170, 3) := by decide +kernel
theorem dX9_order_134 : decode cX9_order 134 = .ok (.istore 6, 2) := by decide +kernel
theorem dX9_order_136 : decode cX9_order 136 = .ok (.iload 4, 2) := by decide +kernel
theorem dX9_order_138 : decode cX9_order 138 = .ok (.ifCond .lt 10, 3) := by decide +kernel
theorem dX9_order_141 : decode cX9_order 141 = .ok (.iload 6, 2) := by decide +kernel
theorem dX9_order_143 : decode cX9_order 143 = .ok (.iload 4, 2) := by decide +kernel
theorem dX9_order_145 : decode cX9_order 145 = .ok (.if_icmp .ge 23, 3) := by decide +kernel
theorem dX9_order_148 : decode cX9_order 148 = .ok (.iload 6, 2) := by decide +kernel
theorem dX9_order_150 : decode cX9_order 150 = .ok (.istore 4, 2) := by decide +kernel
theorem dX9_order_152 : decode cX9_order 152 = .ok (.aload_n 0, 1) := by decide +kernel
theorem dX9_order_153 : decode cX9_order 153 = .ok (.getfield 46, 3) := by decide +kernel
theorem dX9_order_156 : decode cX9_order 156 = .ok (.iconst 0, 1) := by decide +kernel
theorem dX9_order_157 : decode cX9_order 157 = .ok (.aload_n 0, 1) := by decide +kernel
theorem dX9_order_158 : decode cX9_order 158 = .ok (.getfield 43, 3) := by decide +kernel
theorem dX9_order_161 : decode cX9_order 161 = .ok (.aload_n 0, 1) := by decide +kernel
theorem dX9_order_162 : decode cX9_order 162 = .ok (.getfield 67, 3) := by decide +kernel
theorem dX9_order_165 : decode cX9_order 165 = .ok (.invokestatic 117, 3) := by decide +kernel
theorem dX9_order_168 : decode cX9_order 168 = .ok (.iinc 5 1, 3) := by decide +kernel
theorem dX9_order_171 : decode cX9_order 171 = .ok (.goto (-112), 3) := by decide +kernel
theorem dX9_order_174 : decode cX9_order 174 = .ok (.iload_n 2, 1) := by decide +kernel
theorem dX9_order_175 : decode cX9_order 175 = .ok (.ifCond .ge 8, 3) := by decide +kernel
theorem dX9_order_178 : decode cX9_order 178 = .ok (.iload 4, 2) := by decide +kernel
theorem dX9_order_180 : decode cX9_order 180 = .ok (.goto 9, 3) := by decide +kernel
theorem dX9_order_183 : decode cX9_order 183 = .ok (.aload_n 0, 1) := by decide +kernel
theorem dX9_order_184 : decode cX9_order 184 = .ok (.getfield 46, 3) := by decide +kernel
theorem dX9_order_187 : decode cX9_order 187 = .ok (.iload_n 2, 1) := by decide +kernel
theorem dX9_order_188 : decode cX9_order 188 = .ok (.iaload, 1) := by decide +kernel
theorem dX9_order_189 : decode cX9_order 189 = .ok (.ireturn, 1) := by decide +kernel
theorem dX9_away_0 : decode cX9_away 0 = .ok (.iload_n 1, 1) := by decide +kernel
theorem dX9_away_1 : decode cX9_away 1 = .ok (.iconst 0, 1) := by decide +kernel
theorem dX9_away_2 : decode cX9_away 2 = .ok (.iconst 1, 1) := by decide +kernel
theorem dX9_away_3 : decode cX9_away 3 = .ok (.invokestatic 70, 3) := by decide +kernel
theorem dX9_away_6 : decode cX9_away 6 = .ok (.ifCond .ne 5, 3) := by decide +kernel
theorem dX9_away_9 : decode cX9_away 9 = .ok (.iconst (-1), 1) := by decide +kernel
theorem dX9_away_10 : decode cX9_away 10 = .ok (.ireturn, 1) := by decide +kernel
theorem dX9_away_11 : decode cX9_away 11 = .ok (.bipush (-4), 2) := by decide +kernel
theorem dX9_away_13 : decode cX9_away 13 = .ok (.istore_n 2, 1) := by decide +kernel
theorem dX9_away_14 : decode cX9_away 14 = .ok (.bipush (-4), 2) := by decide +kernel
theorem dX9_away_16 : decode cX9_away 16 = .ok (.istore_n 3, 1) := by decide +kernel
theorem dX9_away_17 : decode cX9_away 17 = .ok (.iconst 0, 1) := by decide +kernel
theorem dX9_away_18 : decode cX9_away 18 = .ok (.istore 4, 2) := by decide +kernel
theorem dX9_away_20 : decode cX9_away 20 = .ok (.iload 4, 2) := by decide +kernel
theorem dX9_away_22 : decode cX9_away 22 = .ok (.aload_n 0, 1) := by decide +kernel
theorem dX9_away_23 : decode cX9_away 23 = .ok (.getfield 13, 3) := by decide +kernel
theorem dX9_away_26 : decode cX9_away 26 = .ok (.iconst 2, 1) := by decide +kernel
theorem dX9_away_27 : decode cX9_away 27 = .ok (.iaload, 1) := by decide +kernel
theorem dX9_away_28 : decode cX9_away 28 = .ok (.if_icmp .ge 90, 3) := by decide +kernel
theorem dX9_away_31 : decode cX9_away 31 = .ok (.aload_n 0, 1) := by decide +kernel
theorem dX9_away_32 : decode cX9_away 32 = .ok (.getfield 13, 3) := by decide +kernel
theorem dX9_away_35 : decode cX9_away 35 = .ok (.iconst 3, 1) := by decide +kernel
theorem dX9_away_36 : decode cX9_away 36 = .ok (.iaload, 1) := by decide +kernel
theorem dX9_away_37 : decode cX9_away 37 = .ok (.iload 4, 2) := by decide +kernel
theorem dX9_away_39 : decode cX9_away 39 = .ok (.invokestatic 136, 3) := by decide +kernel
theorem dX9_away_42 : decode cX9_away 42 = .ok (.ifCond .ne 70, 3) := by decide +kernel
theorem dX9_away_45 : decode cX9_away 45 = .ok (.aload_n 0, 1) := by decide +kernel
theorem dX9_away_46 : decode cX9_away 46 = .ok (.aload_n 0, 1) := by decide +kernel
theorem dX9_away_47 : decode cX9_away 47 = .ok (.getfield 13, 3) := by decide +kernel
theorem dX9_away_50 : decode cX9_away 50 = .ok (.invokevirtual 166, 3) := by decide +kernel
theorem dX9_away_53 : decode cX9_away 53 = .ok (.aload_n 0, 1) := by decide +kernel
theorem dX9_away_54 : decode cX9_away 54 = .ok (.getfield 40, 3) := by decide +kernel
theorem dX9_away_57 : decode cX9_away 57 = .ok (.iconst 3, 1) := by decide +kernel
theorem dX9_away_58 : decode cX9_away 58 = .ok (.dup2, 1) := by decide +kernel
theorem dX9_away_59 : decode cX9_away 59 = .ok (.iaload, 1) := by decide +kernel
theorem dX9_away_60 : decode cX9_away 60 = .ok (.iconst 1, 1) := by decide +kernel
theorem dX9_away_61 : decode cX9_away 61 = .ok (.iload 4, 2) := by decide +kernel
theorem dX9_away_63 : decode cX9_away 63 = .ok (.ishl, 1) := by decide +kernel
theorem dX9_away_64 : decode cX9_away 64 = .ok (.ior, 1) := by decide +kernel
theorem dX9_away_65 : decode cX9_away 65 = .ok (.iastore, 1) := by decide +kernel
theorem dX9_away_66 : decode cX9_away 66 = .ok (.aload_n 0, 1) := by decide +kernel
theorem dX9_away_67 : decode cX9_away 67 = .ok (.invokevirtual 173, 3) := by decide +kernel
theorem dX9_away_70 : decode cX9_away 70 = .ok (.istore 5, 2) := by decide +kernel
theorem dX9_away_72 : decode cX9_away 72 = .ok (.iload 5, 2) := by decide +kernel
theorem dX9_away_74 : decode cX9_away 74 = .ok (.ifCond .ge 8, 3) := by decide +kernel
theorem dX9_away_77 : decode cX9_away 77 = .ok (.bipush 41, 2) := by decide +kernel
theorem dX9_away_79 : decode cX9_away 79 = .ok (.goto 5, 3) := by decide +kernel
theorem dX9_away_82 : decode cX9_away 82 = .ok (.iload 5, 2) := by decide +kernel
theorem dX9_away_84 : decode cX9_away 84 = .ok (.istore 5, 2) := by decide +kernel
theorem dX9_away_86 : decode cX9_away 86 = .ok (.iload 5, 2) := by decide +kernel
theorem dX9_away_88 : decode cX9_away 88 = .ok (.iload_n 3, 1) := by decide +kernel
theorem dX9_away_89 : decode cX9_away 89 = .ok (.if_icmp .le 8, 3) := by decide +kernel
theorem dX9_away_92 : decode cX9_away 92 = .ok (.iload 4, 2) := by decide +kernel
theorem dX9_away_94 : decode cX9_away 94 = .ok (.goto 4, 3) := by decide +kernel
theorem dX9_away_97 : decode cX9_away 97 = .ok (.iload_n 2, 1) := by decide +kernel
theorem dX9_away_98 : decode cX9_away 98 = .ok (.istore_n 2, 1) := by decide +kernel
theorem dX9_away_99 : decode cX9_away 99 = .ok (.iload 5, 2) := by decide +kernel
theorem dX9_away_101 : decode cX9_away 101 = .ok (.iload_n 3, 1) := by decide +kernel
theorem dX9_away_102 : decode cX9_away 102 = .ok (.if_icmp .le 8, 3) := by decide +kernel
theorem dX9_away_105 : decode cX9_away 105 = .ok (.iload 5, 2) := by decide +kernel
theorem dX9_away_107 : decode cX9_away 107 = .ok (.goto 4, 3) := by decide +kernel
theorem dX9_away_110 : decode cX9_away 110 = .ok (.iload_n 3, 1) := by decide +kernel
theorem dX9_away_111 : decode cX9_away 111 = .ok (.istore_n 3, 1) := by decide +kernel
theorem dX9_away_112 : decode cX9_away 112 = .ok (.iinc 4 1, 3) := by decide +kernel
theorem dX9_away_115 : decode cX9_away 115 = .ok (.goto (-95), 3) := by decide +kernel
theorem dX9_away_118 : decode cX9_away 118 = .ok (.iload_n 1, 1) := by decide +kernel
theorem dX9_away_119 : decode cX9_away 119 = .ok (.ifCond .ne 7, 3) := by decide +kernel
theorem dX9_away_122 : decode cX9_away 122 = .ok (.iload_n 2, 1) := by decide +kernel
theorem dX9_away_123 : decode cX9_away 123 = .ok (.goto 4, 3) := by decide +kernel
theorem dX9_away_126 : decode cX9_away 126 = .ok (.iload_n 3, 1) := by decide +kernel
theorem dX9_away_127 : decode cX9_away 127 = .ok (.ireturn, 1) := by decide +kernel
theorem dX9_seen_0 : decode cX9_seen 0 = .ok (.aload_n 0, 1) := by decide +kernel
theorem dX9_seen_1 : decode cX9_seen 1 = .ok (.iload_n 1, 1) := by decide +kernel
theorem dX9_seen_2 : decode cX9_seen 2 = .ok (.invokevirtual 157, 3) := by decide +kernel
theorem dX9_seen_5 : decode cX9_seen 5 = .ok (.ifCond .eq 13, 3) := by decide +kernel
theorem dX9_seen_8 : decode cX9_seen 8 = .ok (.iload_n 2, 1) := by decide +kernel
theorem dX9_seen_9 : decode cX9_seen 9 = .ok (.iconst 0, 1) := by decide +kernel
theorem dX9_seen_10 : decode cX9_seen 10 = .ok (.bipush 60, 2) := by decide +kernel
theorem dX9_seen_12 : decode cX9_seen 12 = .ok (.invokestatic 70, 3) := by decide +kernel
theorem dX9_seen_15 : decode cX9_seen 15 = .ok (.ifCond .ne 5, 3) := by decide +kernel
theorem dX9_seen_18 : decode cX9_seen 18 = .ok (.iconst (-1), 1) := by decide +kernel
theorem dX9_seen_19 : decode cX9_seen 19 = .ok (.ireturn, 1) := by decide +kernel
theorem dX9_seen_20 : decode cX9_seen 20 = .ok (.aload_n 0, 1) := by decide +kernel
theorem dX9_seen_21 : decode cX9_seen 21 = .ok (.getfield 127, 3) := by decide +kernel
theorem dX9_seen_24 : decode cX9_seen 24 = .ok (.bipush 8, 2) := by decide +kernel
theorem dX9_seen_26 : decode cX9_seen 26 = .ok (.if_icmp .ne 6, 3) := by decide +kernel
theorem dX9_seen_29 : decode cX9_seen 29 = .ok (.bipush (-3), 2) := by decide +kernel
theorem dX9_seen_31 : decode cX9_seen 31 = .ok (.ireturn, 1) := by decide +kernel
theorem dX9_seen_32 : decode cX9_seen 32 = .ok (.aload_n 0, 1) := by decide +kernel
theorem dX9_seen_33 : decode cX9_seen 33 = .ok (.getfield 25, 3) := by decide +kernel
theorem dX9_seen_36 : decode cX9_seen 36 = .ok (.iconst 2, 1) := by decide +kernel
theorem dX9_seen_37 : decode cX9_seen 37 = .ok (.aload_n 0, 1) := by decide +kernel
theorem dX9_seen_38 : decode cX9_seen 38 = .ok (.getfield 127, 3) := by decide +kernel
theorem dX9_seen_41 : decode cX9_seen 41 = .ok (.imul, 1) := by decide +kernel
theorem dX9_seen_42 : decode cX9_seen 42 = .ok (.iload_n 1, 1) := by decide +kernel
theorem dX9_seen_43 : decode cX9_seen 43 = .ok (.iastore, 1) := by decide +kernel
theorem dX9_seen_44 : decode cX9_seen 44 = .ok (.aload_n 0, 1) := by decide +kernel
theorem dX9_seen_45 : decode cX9_seen 45 = .ok (.getfield 25, 3) := by decide +kernel
theorem dX9_seen_48 : decode cX9_seen 48 = .ok (.iconst 2, 1) := by decide +kernel
theorem dX9_seen_49 : decode cX9_seen 49 = .ok (.aload_n 0, 1) := by decide +kernel
theorem dX9_seen_50 : decode cX9_seen 50 = .ok (.getfield 127, 3) := by decide +kernel
theorem dX9_seen_53 : decode cX9_seen 53 = .ok (.imul, 1) := by decide +kernel
theorem dX9_seen_54 : decode cX9_seen 54 = .ok (.iconst 1, 1) := by decide +kernel
theorem dX9_seen_55 : decode cX9_seen 55 = .ok (.iadd, 1) := by decide +kernel
theorem dX9_seen_56 : decode cX9_seen 56 = .ok (.iload_n 2, 1) := by decide +kernel
theorem dX9_seen_57 : decode cX9_seen 57 = .ok (.iastore, 1) := by decide +kernel
theorem dX9_seen_58 : decode cX9_seen 58 = .ok (.aload_n 0, 1) := by decide +kernel
theorem dX9_seen_59 : decode cX9_seen 59 = .ok (.dup, 1) := by decide +kernel
theorem dX9_seen_60 : decode cX9_seen 60 = .ok (.getfield 127, 3) := by decide +kernel
theorem dX9_seen_63 : decode cX9_seen 63 = .ok (.iconst 1, 1) := by decide +kernel
theorem dX9_seen_64 : decode cX9_seen 64 = .ok (.iadd, 1) := by decide +kernel
theorem dX9_seen_65 : decode cX9_seen 65 = .ok (.putfield 127, 3) := by decide +kernel
theorem dX9_seen_68 : decode cX9_seen 68 = .ok (.aload_n 0, 1) := by decide +kernel
theorem dX9_seen_69 : decode cX9_seen 69 = .ok (.getfield 127, 3) := by decide +kernel
theorem dX9_seen_72 : decode cX9_seen 72 = .ok (.ireturn, 1) := by decide +kernel
theorem dX9_forget_0 : decode cX9_forget 0 = .ok (.aload_n 0, 1) := by decide +kernel
theorem dX9_forget_1 : decode cX9_forget 1 = .ok (.getfield 127, 3) := by decide +kernel
theorem dX9_forget_4 : decode cX9_forget 4 = .ok (.istore_n 1, 1) := by decide +kernel
theorem dX9_forget_5 : decode cX9_forget 5 = .ok (.aload_n 0, 1) := by decide +kernel
theorem dX9_forget_6 : decode cX9_forget 6 = .ok (.iconst 0, 1) := by decide +kernel
theorem dX9_forget_7 : decode cX9_forget 7 = .ok (.putfield 127, 3) := by decide +kernel
theorem dX9_forget_10 : decode cX9_forget 10 = .ok (.iload_n 1, 1) := by decide +kernel
theorem dX9_forget_11 : decode cX9_forget 11 = .ok (.ireturn, 1) := by decide +kernel
theorem dX9_tastes_0 : decode cX9_tastes 0 = .ok (.aload_n 0, 1) := by decide +kernel
theorem dX9_tastes_1 : decode cX9_tastes 1 = .ok (.iload_n 1, 1) := by decide +kernel
theorem dX9_tastes_2 : decode cX9_tastes 2 = .ok (.invokevirtual 157, 3) := by decide +kernel
theorem dX9_tastes_5 : decode cX9_tastes 5 = .ok (.ifCond .eq 12, 3) := by decide +kernel
theorem dX9_tastes_8 : decode cX9_tastes 8 = .ok (.iload_n 2, 1) := by decide +kernel
theorem dX9_tastes_9 : decode cX9_tastes 9 = .ok (.iconst 0, 1) := by decide +kernel
theorem dX9_tastes_10 : decode cX9_tastes 10 = .ok (.iconst 1, 1) := by decide +kernel
theorem dX9_tastes_11 : decode cX9_tastes 11 = .ok (.invokestatic 70, 3) := by decide +kernel
theorem dX9_tastes_14 : decode cX9_tastes 14 = .ok (.ifCond .ne 5, 3) := by decide +kernel
theorem dX9_tastes_17 : decode cX9_tastes 17 = .ok (.iconst (-1), 1) := by decide +kernel
theorem dX9_tastes_18 : decode cX9_tastes 18 = .ok (.ireturn, 1) := by decide +kernel
theorem dX9_tastes_19 : decode cX9_tastes 19 = .ok (.aload_n 0, 1) := by decide +kernel
theorem dX9_tastes_20 : decode cX9_tastes 20 = .ok (.getfield 7, 3) := by decide +kernel
theorem dX9_tastes_23 : decode cX9_tastes 23 = .ok (.iconst 3, 1) := by decide +kernel
theorem dX9_tastes_24 : decode cX9_tastes 24 = .ok (.iload_n 1, 1) := by decide +kernel
theorem dX9_tastes_25 : decode cX9_tastes 25 = .ok (.imul, 1) := by decide +kernel
theorem dX9_tastes_26 : decode cX9_tastes 26 = .ok (.iconst 1, 1) := by decide +kernel
theorem dX9_tastes_27 : decode cX9_tastes 27 = .ok (.iadd, 1) := by decide +kernel
theorem dX9_tastes_28 : decode cX9_tastes 28 = .ok (.iaload, 1) := by decide +kernel
theorem dX9_tastes_29 : decode cX9_tastes 29 = .ok (.istore_n 3, 1) := by decide +kernel
theorem dX9_tastes_30 : decode cX9_tastes 30 = .ok (.iconst 0, 1) := by decide +kernel
theorem dX9_tastes_31 : decode cX9_tastes 31 = .ok (.istore 4, 2) := by decide +kernel
theorem dX9_tastes_33 : decode cX9_tastes 33 = .ok (.bipush (-4), 2) := by decide +kernel
theorem dX9_tastes_35 : decode cX9_tastes 35 = .ok (.istore 5, 2) := by decide +kernel
theorem dX9_tastes_37 : decode cX9_tastes 37 = .ok (.bipush 31, 2) := by decide +kernel
theorem dX9_tastes_39 : decode cX9_tastes 39 = .ok (.istore 6, 2) := by decide +kernel
theorem dX9_tastes_41 : decode cX9_tastes 41 = .ok (.iload 6, 2) := by decide +kernel
theorem dX9_tastes_43 : decode cX9_tastes 43 = .ok (.ifCond .lt 146, 3) := by decide +kernel
theorem dX9_tastes_46 : decode cX9_tastes 46 = .ok (.aload_n 0, 1) := by decide +kernel
theorem dX9_tastes_47 : decode cX9_tastes 47 = .ok (.getfield 7, 3) := by decide +kernel
theorem dX9_tastes_50 : decode cX9_tastes 50 = .ok (.iconst 3, 1) := by decide +kernel
theorem dX9_tastes_51 : decode cX9_tastes 51 = .ok (.iload_n 1, 1) := by decide +kernel
theorem dX9_tastes_52 : decode cX9_tastes 52 = .ok (.imul, 1) := by decide +kernel
theorem dX9_tastes_53 : decode cX9_tastes 53 = .ok (.iconst 1, 1) := by decide +kernel
theorem dX9_tastes_54 : decode cX9_tastes 54 = .ok (.iadd, 1) := by decide +kernel
theorem dX9_tastes_55 : decode cX9_tastes 55 = .ok (.iload 6, 2) := by decide +kernel
theorem dX9_tastes_57 : decode cX9_tastes 57 = .ok (.iastore, 1) := by decide +kernel
theorem dX9_tastes_58 : decode cX9_tastes 58 = .ok (.aload_n 0, 1) := by decide +kernel
theorem dX9_tastes_59 : decode cX9_tastes 59 = .ok (.aload_n 0, 1) := by decide +kernel
theorem dX9_tastes_60 : decode cX9_tastes 60 = .ok (.getfield 16, 3) := by decide +kernel
theorem dX9_tastes_63 : decode cX9_tastes 63 = .ok (.invokevirtual 166, 3) := by decide +kernel
theorem dX9_tastes_66 : decode cX9_tastes 66 = .ok (.iconst 1, 1) := by decide +kernel
theorem dX9_tastes_67 : decode cX9_tastes 67 = .ok (.istore 7, 2) := by decide +kernel
theorem dX9_tastes_69 : decode cX9_tastes 69 = .ok (.iconst 0, 1) := by decide +kernel
theorem dX9_tastes_70 : decode cX9_tastes 70 = .ok (.istore 8, 2) := by decide +kernel
theorem dX9_tastes_72 : decode cX9_tastes 72 = .ok (.iload 8, 2) := by decide +kernel
theorem dX9_tastes_74 : decode cX9_tastes 74 = .ok (.bipush 60, 2) := by decide +kernel
theorem dX9_tastes_76 : decode cX9_tastes 76 = .ok (.if_icmp .gt 78, 3) := by decide +kernel
theorem dX9_tastes_79 : decode cX9_tastes 79 = .ok (.iconst 0, 1) := by decide +kernel
theorem dX9_tastes_80 : decode cX9_tastes 80 = .ok (.istore 9, 2) := by decide +kernel
theorem dX9_tastes_82 : decode cX9_tastes 82 = .ok (.iload 9, 2) := by decide +kernel
theorem dX9_tastes_84 : decode cX9_tastes 84 = .ok (.aload_n 0, 1) := by decide +kernel
theorem dX9_tastes_85 : decode cX9_tastes 85 = .ok (.getfield 127, 3) := by decide +kernel
theorem dX9_tastes_88 : decode cX9_tastes 88 = .ok (.if_icmp .ge 55, 3) := by decide +kernel
theorem dX9_tastes_91 : decode cX9_tastes 91 = .ok (.iload 7, 2) := by decide +kernel
theorem dX9_tastes_93 : decode cX9_tastes 93 = .ok (.ifCond .eq 41, 3) := by decide +kernel
theorem dX9_tastes_96 : decode cX9_tastes 96 = .ok (.aload_n 0, 1) := by decide +kernel
theorem dX9_tastes_97 : decode cX9_tastes 97 = .ok (.getfield 25, 3) := by decide +kernel
theorem dX9_tastes_100 : decode cX9_tastes 100 = .ok (.iconst 2, 1) := by decide +kernel
theorem dX9_tastes_101 : decode cX9_tastes 101 = .ok (.iload 9, 2) := by decide +kernel
theorem dX9_tastes_103 : decode cX9_tastes 103 = .ok (.imul, 1) := by decide +kernel
theorem dX9_tastes_104 : decode cX9_tastes 104 = .ok (.iconst 1, 1) := by decide +kernel
theorem dX9_tastes_105 : decode cX9_tastes 105 = .ok (.iadd, 1) := by decide +kernel
theorem dX9_tastes_106 : decode cX9_tastes 106 = .ok (.iaload, 1) := by decide +kernel
theorem dX9_tastes_107 : decode cX9_tastes 107 = .ok (.iload 8, 2) := by decide +kernel
theorem dX9_tastes_109 : decode cX9_tastes 109 = .ok (.if_icmp .ne 21, 3) := by decide +kernel
theorem dX9_tastes_112 : decode cX9_tastes 112 = .ok (.aload_n 0, 1) := by decide +kernel
theorem dX9_tastes_113 : decode cX9_tastes 113 = .ok (.getfield 25, 3) := by decide +kernel
theorem dX9_tastes_116 : decode cX9_tastes 116 = .ok (.iconst 2, 1) := by decide +kernel
theorem dX9_tastes_117 : decode cX9_tastes 117 = .ok (.iload 9, 2) := by decide +kernel
theorem dX9_tastes_119 : decode cX9_tastes 119 = .ok (.imul, 1) := by decide +kernel
theorem dX9_tastes_120 : decode cX9_tastes 120 = .ok (.iaload, 1) := by decide +kernel
theorem dX9_tastes_121 : decode cX9_tastes 121 = .ok (.aload_n 0, 1) := by decide +kernel
theorem dX9_tastes_122 : decode cX9_tastes 122 = .ok (.getfield 40, 3) := by decide +kernel
theorem dX9_tastes_125 : decode cX9_tastes 125 = .ok (.iconst 4, 1) := by decide +kernel
theorem dX9_tastes_126 : decode cX9_tastes 126 = .ok (.iaload, 1) := by decide +kernel
theorem dX9_tastes_127 : decode cX9_tastes 127 = .ok (.if_icmp .ne 7, 3) := by decide +kernel
theorem dX9_tastes_130 : decode cX9_tastes 130 = .ok (.iconst 1, 1) := by decide +kernel
theorem dX9_tastes_131 : decode cX9_tastes 131 = .ok (.goto 4, 3) := by decide +kernel
theorem dX9_tastes_134 : decode cX9_tastes 134 = .ok (.iconst 0, 1) := by decide +kernel
theorem dX9_tastes_135 : decode cX9_tastes 135 = .ok (.istore 7, 2) := by decide +kernel
theorem dX9_tastes_137 : decode cX9_tastes 137 = .ok (.iinc 9 1, 3) := by decide +kernel
theorem dX9_tastes_140 : decode cX9_tastes 140 = .ok (.goto (-58), 3) := by decide +kernel
theorem dX9_tastes_143 : decode cX9_tastes 143 = .ok (.aload_n 0, 1) := by decide +kernel
theorem dX9_tastes_144 : decode cX9_tastes 144 = .ok (.invokevirtual 154, 3) := by decide +kernel
theorem dX9_tastes_147 : decode cX9_tastes 147 = .ok (.pop, 1) := by decide +kernel
theorem dX9_tastes_148 : decode cX9_tastes 148 = .ok (.iinc 8 1, 3) := by decide +kernel
theorem dX9_tastes_151 : decode cX9_tastes 151 = .ok (.goto (-79), 3) := by decide +kernel
theorem dX9_tastes_154 : decode cX9_tastes 154 = .ok (.iload 4, 2) := by decide +kernel
theorem dX9_tastes_156 : decode cX9_tastes 156 = .ok (.iload 7, 2) := by decide +kernel
theorem dX9_tastes_158 : decode cX9_tastes 158 = .ok (.ifCond .eq 7, 3) := by decide +kernel
theorem dX9_tastes_161 : decode cX9_tastes 161 = .ok (.iconst 1, 1) := by decide +kernel
theorem dX9_tastes_162 : decode cX9_tastes 162 = .ok (.goto 4, 3) := by decide +kernel
theorem dX9_tastes_165 : decode cX9_tastes 165 = .ok (.iconst 0, 1) := by decide +kernel
theorem dX9_tastes_166 : decode cX9_tastes 166 = .ok (.iadd, 1) := by decide +kernel
theorem dX9_tastes_167 : decode cX9_tastes 167 = .ok (.istore 4, 2) := by decide +kernel
theorem dX9_tastes_169 : decode cX9_tastes 169 = .ok (.iload 7, 2) := by decide +kernel
theorem dX9_tastes_171 : decode cX9_tastes 171 = .ok (.ifCond .eq 8, 3) := by decide +kernel
theorem dX9_tastes_174 : decode cX9_tastes 174 = .ok (.iload 6, 2) := by decide +kernel
theorem dX9_tastes_176 : decode cX9_tastes 176 = .ok (.goto 5, 3) := by decide +kernel
theorem dX9_tastes_179 : decode cX9_tastes 179 = .ok (.iload 5, 2) := by decide +kernel
theorem dX9_tastes_181 : decode cX9_tastes 181 = .ok (.istore 5, 2) := by decide +kernel
theorem dX9_tastes_183 : decode cX9_tastes 183 = .ok (.iinc 6 (-1), 3) := by decide +kernel
theorem dX9_tastes_186 : decode cX9_tastes 186 = .ok (.goto (-145), 3) := by decide +kernel
theorem dX9_tastes_189 : decode cX9_tastes 189 = .ok (.aload_n 0, 1) := by decide +kernel
theorem dX9_tastes_190 : decode cX9_tastes 190 = .ok (.getfield 7, 3) := by decide +kernel
theorem dX9_tastes_193 : decode cX9_tastes 193 = .ok (.iconst 3, 1) := by decide +kernel
theorem dX9_tastes_194 : decode cX9_tastes 194 = .ok (.iload_n 1, 1) := by decide +kernel
theorem dX9_tastes_195 : decode cX9_tastes 195 = .ok (.imul, 1) := by decide +kernel
theorem dX9_tastes_196 : decode cX9_tastes 196 = .ok (.iconst 1, 1) := by decide +kernel
theorem dX9_tastes_197 : decode cX9_tastes 197 = .ok (.iadd, 1) := by decide +kernel
theorem dX9_tastes_198 : decode cX9_tastes 198 = .ok (.iload_n 3, 1) := by decide +kernel
theorem dX9_tastes_199 : decode cX9_tastes 199 = .ok (.iastore, 1) := by decide +kernel
theorem dX9_tastes_200 : decode cX9_tastes 200 = .ok (.iload_n 2, 1) := by decide +kernel
theorem dX9_tastes_201 : decode cX9_tastes 201 = .ok (.ifCond .ne 8, 3) := by decide +kernel
theorem dX9_tastes_204 : decode cX9_tastes 204 = .ok (.iload 4, 2) := by decide +kernel
theorem dX9_tastes_206 : decode cX9_tastes 206 = .ok (.goto 5, 3) := by decide +kernel
theorem dX9_tastes_209 : decode cX9_tastes 209 = .ok (.iload 5, 2) := by decide +kernel
theorem dX9_tastes_211 : decode cX9_tastes 211 = .ok (.ireturn, 1) := by decide +kernel
theorem dX9_lasts_0 : decode cX9_lasts 0 = .ok (.iload_n 1, 1) := by decide +kernel
theorem dX9_lasts_1 : decode cX9_lasts 1 = .ok (.iconst 0, 1) := by decide +kernel
theorem dX9_lasts_2 : decode cX9_lasts 2 = .ok (.bipush 6, 2) := by decide +kernel
theorem dX9_lasts_4 : decode cX9_lasts 4 = .ok (.invokestatic 70, 3) := by decide +kernel
theorem dX9_lasts_7 : decode cX9_lasts 7 = .ok (.ifCond .eq 44, 3) := by decide +kernel
theorem dX9_lasts_10 : decode cX9_lasts 10 = .ok (.iload_n 2, 1) := by decide +kernel
theorem dX9_lasts_11 : decode cX9_lasts 11 = .ok (.iconst 1, 1) := by decide +kernel
theorem dX9_lasts_12 : decode cX9_lasts 12 = .ok (.bipush 31, 2) := by decide +kernel
theorem dX9_lasts_14 : decode cX9_lasts 14 = .ok (.invokestatic 70, 3) := by decide +kernel
theorem dX9_lasts_17 : decode cX9_lasts 17 = .ok (.ifCond .eq 34, 3) := by decide +kernel
theorem dX9_lasts_20 : decode cX9_lasts 20 = .ok (.iload_n 3, 1) := by decide +kernel
theorem dX9_lasts_21 : decode cX9_lasts 21 = .ok (.iconst 1, 1) := by decide +kernel
theorem dX9_lasts_22 : decode cX9_lasts 22 = .ok (.bipush 9, 2) := by decide +kernel
theorem dX9_lasts_24 : decode cX9_lasts 24 = .ok (.invokestatic 70, 3) := by decide +kernel
theorem dX9_lasts_27 : decode cX9_lasts 27 = .ok (.ifCond .eq 24, 3) := by decide +kernel
theorem dX9_lasts_30 : decode cX9_lasts 30 = .ok (.iload 4, 2) := by decide +kernel
theorem dX9_lasts_32 : decode cX9_lasts 32 = .ok (.iconst 0, 1) := by decide +kernel
theorem dX9_lasts_33 : decode cX9_lasts 33 = .ok (.bipush 10, 2) := by decide +kernel
theorem dX9_lasts_35 : decode cX9_lasts 35 = .ok (.invokestatic 70, 3) := by decide +kernel
theorem dX9_lasts_38 : decode cX9_lasts 38 = .ok (.ifCond .eq 13, 3) := by decide +kernel
theorem dX9_lasts_41 : decode cX9_lasts 41 = .ok (.iload 5, 2) := by decide +kernel
theorem dX9_lasts_43 : decode cX9_lasts 43 = .ok (.iconst 0, 1) := by decide +kernel
theorem dX9_lasts_44 : decode cX9_lasts 44 = .ok (.iconst 1, 1) := by decide +kernel
theorem dX9_lasts_45 : decode cX9_lasts 45 = .ok (.invokestatic 70, 3) := by decide +kernel
theorem dX9_lasts_48 : decode cX9_lasts 48 = .ok (.ifCond .ne 5, 3) := by decide +kernel
theorem dX9_lasts_51 : decode cX9_lasts 51 = .ok (.iconst (-1), 1) := by decide +kernel
theorem dX9_lasts_52 : decode cX9_lasts 52 = .ok (.ireturn, 1) := by decide +kernel
theorem dX9_lasts_53 : decode cX9_lasts 53 = .ok (.iconst 0, 1) := by decide +kernel
theorem dX9_lasts_54 : decode cX9_lasts 54 = .ok (.istore 6, 2) := by decide +kernel
theorem dX9_lasts_56 : decode cX9_lasts 56 = .ok (.iconst 1, 1) := by decide +kernel
theorem dX9_lasts_57 : decode cX9_lasts 57 = .ok (.istore 7, 2) := by decide +kernel
theorem dX9_lasts_59 : decode cX9_lasts 59 = .ok (.iconst 0, 1) := by decide +kernel
theorem dX9_lasts_60 : decode cX9_lasts 60 = .ok (.istore 8, 2) := by decide +kernel
theorem dX9_lasts_62 : decode cX9_lasts 62 = .ok (.iload 8, 2) := by decide +kernel
theorem dX9_lasts_64 : decode cX9_lasts 64 = .ok (.iload_n 1, 1) := by decide +kernel
theorem dX9_lasts_65 : decode cX9_lasts 65 = .ok (.if_icmp .ge 16, 3) := by decide +kernel
theorem dX9_lasts_68 : decode cX9_lasts 68 = .ok (.iload 7, 2) := by decide +kernel
theorem dX9_lasts_70 : decode cX9_lasts 70 = .ok (.bipush 10, 2) := by decide +kernel
theorem dX9_lasts_72 : decode cX9_lasts 72 = .ok (.imul, 1) := by decide +kernel
theorem dX9_lasts_73 : decode cX9_lasts 73 = .ok (.istore 7, 2) := by decide +kernel
theorem dX9_lasts_75 : decode cX9_lasts 75 = .ok (.iinc 8 1, 3) := by decide +kernel
theorem dX9_lasts_78 : decode cX9_lasts 78 = .ok (.goto (-16), 3) := by decide +kernel
theorem dX9_lasts_81 : decode cX9_lasts 81 = .ok (.iconst 0, 1) := by decide +kernel
theorem dX9_lasts_82 : decode cX9_lasts 82 = .ok (.istore 8, 2) := by decide +kernel
theorem dX9_lasts_84 : decode cX9_lasts 84 = .ok (.iload 8, 2) := by decide +kernel
theorem dX9_lasts_86 : decode cX9_lasts 86 = .ok (.iconst 1, 1) := by decide +kernel
theorem dX9_lasts_87 : decode cX9_lasts 87 = .ok (.iload_n 1, 1) := by decide +kernel
theorem dX9_lasts_88 : decode cX9_lasts 88 = .ok (.ishl, 1) := by decide +kernel
theorem dX9_lasts_89 : decode cX9_lasts 89 = .ok (.if_icmp .ge 122, 3) := by decide +kernel
theorem dX9_lasts_92 : decode cX9_lasts 92 = .ok (.iconst 1, 1) := by decide +kernel
theorem dX9_lasts_93 : decode cX9_lasts 93 = .ok (.istore 9, 2) := by decide +kernel
theorem dX9_lasts_95 : decode cX9_lasts 95 = .ok (.iconst 0, 1) := by decide +kernel
theorem dX9_lasts_96 : decode cX9_lasts 96 = .ok (.istore 10, 2) := by decide +kernel
theorem dX9_lasts_98 : decode cX9_lasts 98 = .ok (.aload_n 0, 1) := by decide +kernel
theorem dX9_lasts_99 : decode cX9_lasts 99 = .ok (.aload_n 0, 1) := by decide +kernel
theorem dX9_lasts_100 : decode cX9_lasts 100 = .ok (.getfield 13, 3) := by decide +kernel
theorem dX9_lasts_103 : decode cX9_lasts 103 = .ok (.invokevirtual 166, 3) := by decide +kernel
theorem dX9_lasts_106 : decode cX9_lasts 106 = .ok (.aload_n 0, 1) := by decide +kernel
theorem dX9_lasts_107 : decode cX9_lasts 107 = .ok (.iload_n 2, 1) := by decide +kernel
theorem dX9_lasts_108 : decode cX9_lasts 108 = .ok (.putfield 144, 3) := by decide +kernel
theorem dX9_lasts_111 : decode cX9_lasts 111 = .ok (.iconst 0, 1) := by decide +kernel
theorem dX9_lasts_112 : decode cX9_lasts 112 = .ok (.istore 11, 2) := by decide +kernel
theorem dX9_lasts_114 : decode cX9_lasts 114 = .ok (.iload 11, 2) := by decide +kernel
theorem dX9_lasts_116 : decode cX9_lasts 116 = .ok (.iload_n 1, 1) := by decide +kernel
theorem dX9_lasts_117 : decode cX9_lasts 117 = .ok (.if_icmp .ge 72, 3) := by decide +kernel
theorem dX9_lasts_120 : decode cX9_lasts 120 = .ok (.aload_n 0, 1) := by decide +kernel
theorem dX9_lasts_121 : decode cX9_lasts 121 = .ok (.iload 8, 2) := by decide +kernel
theorem dX9_lasts_123 : decode cX9_lasts 123 = .ok (.iload 11, 2) := by decide +kernel
theorem dX9_lasts_125 : decode cX9_lasts 125 = .ok (.invokestatic 136, 3) := by decide +kernel
theorem dX9_lasts_128 : decode cX9_lasts 128 = .ok (.ifCond .eq 7, 3) := by decide +kernel
theorem dX9_lasts_131 : decode cX9_lasts 131 = .ok (.iload_n 3, 1) := by decide +kernel
theorem dX9_lasts_132 : decode cX9_lasts 132 = .ok (.goto 4, 3) := by decide +kernel
theorem dX9_lasts_135 : decode cX9_lasts 135 = .ok (.iconst 0, 1) := by decide +kernel
theorem dX9_lasts_136 : decode cX9_lasts 136 = .ok (.putfield 130, 3) := by decide +kernel
theorem dX9_lasts_139 : decode cX9_lasts 139 = .ok (.iload 9, 2) := by decide +kernel
theorem dX9_lasts_141 : decode cX9_lasts 141 = .ok (.iload 8, 2) := by decide +kernel
theorem dX9_lasts_143 : decode cX9_lasts 143 = .ok (.iload 11, 2) := by decide +kernel
theorem dX9_lasts_145 : decode cX9_lasts 145 = .ok (.invokestatic 136, 3) := by decide +kernel
theorem dX9_lasts_148 : decode cX9_lasts 148 = .ok (.ifCond .eq 8, 3) := by decide +kernel
theorem dX9_lasts_151 : decode cX9_lasts 151 = .ok (.iload 4, 2) := by decide +kernel
theorem dX9_lasts_153 : decode cX9_lasts 153 = .ok (.goto 8, 3) := by decide +kernel
theorem dX9_lasts_156 : decode cX9_lasts 156 = .ok (.bipush 10, 2) := by decide +kernel
theorem dX9_lasts_158 : decode cX9_lasts 158 = .ok (.iload 4, 2) := by decide +kernel
theorem dX9_lasts_160 : decode cX9_lasts 160 = .ok (.isub, 1) := by decide +kernel
theorem dX9_lasts_161 : decode cX9_lasts 161 = .ok (.imul, 1) := by decide +kernel
theorem dX9_lasts_162 : decode cX9_lasts 162 = .ok (.istore 9, 2) := by decide +kernel
theorem dX9_lasts_164 : decode cX9_lasts 164 = .ok (.aload_n 0, 1) := by decide +kernel
theorem dX9_lasts_165 : decode cX9_lasts 165 = .ok (.invokevirtual 154, 3) := by decide +kernel
theorem dX9_lasts_168 : decode cX9_lasts 168 = .ok (.ifCond .ne 8, 3) := by decide +kernel
theorem dX9_lasts_171 : decode cX9_lasts 171 = .ok (.iload 10, 2) := by decide +kernel
theorem dX9_lasts_173 : decode cX9_lasts 173 = .ok (.ifCond .eq 7, 3) := by decide +kernel
theorem dX9_lasts_176 : decode cX9_lasts 176 = .ok (.iconst 1, 1) := by decide +kernel
theorem dX9_lasts_177 : decode cX9_lasts 177 = .ok (.goto 4, 3) := by decide +kernel
theorem dX9_lasts_180 : decode cX9_lasts 180 = .ok (.iconst 0, 1) := by decide +kernel
theorem dX9_lasts_181 : decode cX9_lasts 181 = .ok (.istore 10, 2) := by decide +kernel
theorem dX9_lasts_183 : decode cX9_lasts 183 = .ok (.iinc 11 1, 3) := by decide +kernel
theorem dX9_lasts_186 : decode cX9_lasts 186 = .ok (.goto (-72), 3) := by decide +kernel
theorem dX9_lasts_189 : decode cX9_lasts 189 = .ok (.iload 6, 2) := by decide +kernel
theorem dX9_lasts_191 : decode cX9_lasts 191 = .ok (.iload 10, 2) := by decide +kernel
theorem dX9_lasts_193 : decode cX9_lasts 193 = .ok (.ifCond .eq 7, 3) := by decide +kernel
theorem dX9_lasts_196 : decode cX9_lasts 196 = .ok (.iconst 0, 1) := by decide +kernel
theorem dX9_lasts_197 : decode cX9_lasts 197 = .ok (.goto 5, 3) := by decide +kernel
theorem dX9_lasts_200 : decode cX9_lasts 200 = .ok (.iload 9, 2) := by decide +kernel
theorem dX9_lasts_202 : decode cX9_lasts 202 = .ok (.iadd, 1) := by decide +kernel
theorem dX9_lasts_203 : decode cX9_lasts 203 = .ok (.istore 6, 2) := by decide +kernel
theorem dX9_lasts_205 : decode cX9_lasts 205 = .ok (.iinc 8 1, 3) := by decide +kernel
theorem dX9_lasts_208 : decode cX9_lasts 208 = .ok (.goto (-124), 3) := by decide +kernel
theorem dX9_lasts_211 : decode cX9_lasts 211 = .ok (.iload 6, 2) := by decide +kernel
theorem dX9_lasts_213 : decode cX9_lasts 213 = .ok (.istore 8, 2) := by decide +kernel
theorem dX9_lasts_215 : decode cX9_lasts 215 = .ok (.iload 7, 2) := by decide +kernel
theorem dX9_lasts_217 : decode cX9_lasts 217 = .ok (.istore 9, 2) := by decide +kernel
theorem dX9_lasts_219 : decode cX9_lasts 219 = .ok (.iload 9, 2) := by decide +kernel
theorem dX9_lasts_221 : decode cX9_lasts 221 = .ok (.ifCond .le 21, 3) := by decide +kernel
theorem dX9_lasts_224 : decode cX9_lasts 224 = .ok (.iload 8, 2) := by decide +kernel
theorem dX9_lasts_226 : decode cX9_lasts 226 = .ok (.iload 9, 2) := by decide +kernel
theorem dX9_lasts_228 : decode cX9_lasts 228 = .ok (.irem, 1) := by decide +kernel
theorem dX9_lasts_229 : decode cX9_lasts 229 = .ok (.istore 10, 2) := by decide +kernel
theorem dX9_lasts_231 : decode cX9_lasts 231 = .ok (.iload 9, 2) := by decide +kernel
theorem dX9_lasts_233 : decode cX9_lasts 233 = .ok (.istore 8, 2) := by decide +kernel
theorem dX9_lasts_235 : decode cX9_lasts 235 = .ok (.iload 10, 2) := by decide +kernel
theorem dX9_lasts_237 : decode cX9_lasts 237 = .ok (.istore 9, 2) := by decide +kernel
theorem dX9_lasts_239 : decode cX9_lasts 239 = .ok (.goto (-20), 3) := by decide +kernel
theorem dX9_lasts_242 : decode cX9_lasts 242 = .ok (.iload 5, 2) := by decide +kernel
theorem dX9_lasts_244 : decode cX9_lasts 244 = .ok (.ifCond .ne 8, 3) := by decide +kernel
theorem dX9_lasts_247 : decode cX9_lasts 247 = .ok (.iload 6, 2) := by decide +kernel
theorem dX9_lasts_249 : decode cX9_lasts 249 = .ok (.goto 5, 3) := by decide +kernel
theorem dX9_lasts_252 : decode cX9_lasts 252 = .ok (.iload 7, 2) := by decide +kernel
theorem dX9_lasts_254 : decode cX9_lasts 254 = .ok (.iload 8, 2) := by decide +kernel
theorem dX9_lasts_256 : decode cX9_lasts 256 = .ok (.idiv, 1) := by decide +kernel
theorem dX9_lasts_257 : decode cX9_lasts 257 = .ok (.ireturn, 1) := by decide +kernel
theorem dX9_content_0 : decode cX9_content 0 = .ok (.iload_n 1, 1) := by decide +kernel
theorem dX9_content_1 : decode cX9_content 1 = .ok (.iconst 0, 1) := by decide +kernel
theorem dX9_content_2 : decode cX9_content 2 = .ok (.bipush 40, 2) := by decide +kernel
theorem dX9_content_4 : decode cX9_content 4 = .ok (.invokestatic 70, 3) := by decide +kernel
theorem dX9_content_7 : decode cX9_content 7 = .ok (.ifCond .ne 5, 3) := by decide +kernel
theorem dX9_content_10 : decode cX9_content 10 = .ok (.iconst (-1), 1) := by decide +kernel
theorem dX9_content_11 : decode cX9_content 11 = .ok (.ireturn, 1) := by decide +kernel
theorem dX9_content_12 : decode cX9_content 12 = .ok (.aload_n 0, 1) := by decide +kernel
theorem dX9_content_13 : decode cX9_content 13 = .ok (.aload_n 0, 1) := by decide +kernel
theorem dX9_content_14 : decode cX9_content 14 = .ok (.getfield 13, 3) := by decide +kernel
theorem dX9_content_17 : decode cX9_content 17 = .ok (.invokevirtual 166, 3) := by decide +kernel
theorem dX9_content_20 : decode cX9_content 20 = .ok (.aload_n 0, 1) := by decide +kernel
theorem dX9_content_21 : decode cX9_content 21 = .ok (.getfield 40, 3) := by decide +kernel
theorem dX9_content_24 : decode cX9_content 24 = .ok (.iconst 0, 1) := by decide +kernel
theorem dX9_content_25 : decode cX9_content 25 = .ok (.dup2, 1) := by decide +kernel
theorem dX9_content_26 : decode cX9_content 26 = .ok (.iaload, 1) := by decide +kernel
theorem dX9_content_27 : decode cX9_content 27 = .ok (.iload_n 1, 1) := by decide +kernel
theorem dX9_content_28 : decode cX9_content 28 = .ok (.iadd, 1) := by decide +kernel
theorem dX9_content_29 : decode cX9_content 29 = .ok (.iastore, 1) := by decide +kernel
theorem dX9_content_30 : decode cX9_content 30 = .ok (.iconst 0, 1) := by decide +kernel
theorem dX9_content_31 : decode cX9_content 31 = .ok (.istore_n 2, 1) := by decide +kernel
theorem dX9_content_32 : decode cX9_content 32 = .ok (.iconst 0, 1) := by decide +kernel
theorem dX9_content_33 : decode cX9_content 33 = .ok (.istore_n 3, 1) := by decide +kernel
theorem dX9_content_34 : decode cX9_content 34 = .ok (.iload_n 3, 1) := by decide +kernel
theorem dX9_content_35 : decode cX9_content 35 = .ok (.aload_n 0, 1) := by decide +kernel
theorem dX9_content_36 : decode cX9_content 36 = .ok (.getfield 67, 3) := by decide +kernel
theorem dX9_content_39 : decode cX9_content 39 = .ok (.if_icmp .ge 33, 3) := by decide +kernel
theorem dX9_content_42 : decode cX9_content 42 = .ok (.iload_n 2, 1) := by decide +kernel
theorem dX9_content_43 : decode cX9_content 43 = .ok (.aload_n 0, 1) := by decide +kernel
theorem dX9_content_44 : decode cX9_content 44 = .ok (.iload_n 3, 1) := by decide +kernel
theorem dX9_content_45 : decode cX9_content 45 = .ok (.aload_n 0, 1) := by decide +kernel
theorem dX9_content_46 : decode cX9_content 46 = .ok (.iload_n 3, 1) := by decide +kernel
theorem dX9_content_47 : decode cX9_content 47 = .ok (.iconst 0, 1) := by decide +kernel
theorem dX9_content_48 : decode cX9_content 48 = .ok (.invokevirtual 147, 3) := by decide +kernel
theorem dX9_content_51 : decode cX9_content 51 = .ok (.invokevirtual 151, 3) := by decide +kernel
theorem dX9_content_54 : decode cX9_content 54 = .ok (.ifCond .eq 9, 3) := by decide +kernel
theorem dX9_content_57 : decode cX9_content 57 = .ok (.iconst 1, 1) := by decide +kernel
theorem dX9_content_58 : decode cX9_content 58 = .ok (.iload_n 3, 1) := by decide +kernel
theorem dX9_content_59 : decode cX9_content 59 = .ok (.ishl, 1) := by decide +kernel
theorem dX9_content_60 : decode cX9_content 60 = .ok (.goto 4, 3) := by decide +kernel
theorem dX9_content_63 : decode cX9_content 63 = .ok (.iconst 0, 1) := by decide +kernel
theorem dX9_content_64 : decode cX9_content 64 = .ok (.ior, 1) := by decide +kernel
theorem dX9_content_65 : decode cX9_content 65 = .ok (.istore_n 2, 1) := by decide +kernel
theorem dX9_content_66 : decode cX9_content 66 = .ok (.iinc 3 1, 3) := by decide +kernel
theorem dX9_content_69 : decode cX9_content 69 = .ok (.goto (-35), 3) := by decide +kernel
theorem dX9_content_72 : decode cX9_content 72 = .ok (.iload_n 2, 1) := by decide +kernel
theorem dX9_content_73 : decode cX9_content 73 = .ok (.ireturn, 1) := by decide +kernel
theorem dX9_dull_0 : decode cX9_dull 0 = .ok (.iload_n 1, 1) := by decide +kernel
theorem dX9_dull_1 : decode cX9_dull 1 = .ok (.iconst 0, 1) := by decide +kernel
theorem dX9_dull_2 : decode cX9_dull 2 = .ok (.iconst 1, 1) := by decide +kernel
theorem dX9_dull_3 : decode cX9_dull 3 = .ok (.invokestatic 70, 3) := by decide +kernel
theorem dX9_dull_6 : decode cX9_dull 6 = .ok (.ifCond .ne 5, 3) := by decide +kernel
theorem dX9_dull_9 : decode cX9_dull 9 = .ok (.iconst (-1), 1) := by decide +kernel
theorem dX9_dull_10 : decode cX9_dull 10 = .ok (.ireturn, 1) := by decide +kernel
theorem dX9_dull_11 : decode cX9_dull 11 = .ok (.aload_n 0, 1) := by decide +kernel
theorem dX9_dull_12 : decode cX9_dull 12 = .ok (.aload_n 0, 1) := by decide +kernel
theorem dX9_dull_13 : decode cX9_dull 13 = .ok (.getfield 13, 3) := by decide +kernel
theorem dX9_dull_16 : decode cX9_dull 16 = .ok (.invokevirtual 166, 3) := by decide +kernel
theorem dX9_dull_19 : decode cX9_dull 19 = .ok (.iconst 0, 1) := by decide +kernel
theorem dX9_dull_20 : decode cX9_dull 20 = .ok (.istore_n 2, 1) := by decide +kernel
theorem dX9_dull_21 : decode cX9_dull 21 = .ok (.bipush (-4), 2) := by decide +kernel
theorem dX9_dull_23 : decode cX9_dull 23 = .ok (.istore_n 3, 1) := by decide +kernel
theorem dX9_dull_24 : decode cX9_dull 24 = .ok (.iconst 0, 1) := by decide +kernel
theorem dX9_dull_25 : decode cX9_dull 25 = .ok (.istore 4, 2) := by decide +kernel
theorem dX9_dull_27 : decode cX9_dull 27 = .ok (.iconst 0, 1) := by decide +kernel
theorem dX9_dull_28 : decode cX9_dull 28 = .ok (.istore 5, 2) := by decide +kernel
theorem dX9_dull_30 : decode cX9_dull 30 = .ok (.iload 5, 2) := by decide +kernel
theorem dX9_dull_32 : decode cX9_dull 32 = .ok (.bipush 40, 2) := by decide +kernel
theorem dX9_dull_34 : decode cX9_dull 34 = .ok (.if_icmp .ge 57, 3) := by decide +kernel
theorem dX9_dull_37 : decode cX9_dull 37 = .ok (.aload_n 0, 1) := by decide +kernel
theorem dX9_dull_38 : decode cX9_dull 38 = .ok (.invokevirtual 154, 3) := by decide +kernel
theorem dX9_dull_41 : decode cX9_dull 41 = .ok (.ifCond .eq 7, 3) := by decide +kernel
theorem dX9_dull_44 : decode cX9_dull 44 = .ok (.iconst 0, 1) := by decide +kernel
theorem dX9_dull_45 : decode cX9_dull 45 = .ok (.goto 7, 3) := by decide +kernel
theorem dX9_dull_48 : decode cX9_dull 48 = .ok (.iload 4, 2) := by decide +kernel
theorem dX9_dull_50 : decode cX9_dull 50 = .ok (.iconst 1, 1) := by decide +kernel
theorem dX9_dull_51 : decode cX9_dull 51 = .ok (.iadd, 1) := by decide +kernel
theorem dX9_dull_52 : decode cX9_dull 52 = .ok (.istore 4, 2) := by decide +kernel
theorem dX9_dull_54 : decode cX9_dull 54 = .ok (.iload 4, 2) := by decide +kernel
theorem dX9_dull_56 : decode cX9_dull 56 = .ok (.iload_n 2, 1) := by decide +kernel
theorem dX9_dull_57 : decode cX9_dull 57 = .ok (.if_icmp .le 13, 3) := by decide +kernel
theorem dX9_dull_60 : decode cX9_dull 60 = .ok (.iload 5, 2) := by decide +kernel
theorem dX9_dull_62 : decode cX9_dull 62 = .ok (.iload 4, 2) := by decide +kernel
theorem dX9_dull_64 : decode cX9_dull 64 = .ok (.isub, 1) := by decide +kernel
theorem dX9_dull_65 : decode cX9_dull 65 = .ok (.iconst 1, 1) := by decide +kernel
theorem dX9_dull_66 : decode cX9_dull 66 = .ok (.iadd, 1) := by decide +kernel
theorem dX9_dull_67 : decode cX9_dull 67 = .ok (.goto 4, 3) := by decide +kernel
theorem dX9_dull_70 : decode cX9_dull 70 = .ok (.iload_n 3, 1) := by decide +kernel
theorem dX9_dull_71 : decode cX9_dull 71 = .ok (.istore_n 3, 1) := by decide +kernel
theorem dX9_dull_72 : decode cX9_dull 72 = .ok (.iload 4, 2) := by decide +kernel
theorem dX9_dull_74 : decode cX9_dull 74 = .ok (.iload_n 2, 1) := by decide +kernel
theorem dX9_dull_75 : decode cX9_dull 75 = .ok (.if_icmp .le 8, 3) := by decide +kernel
theorem dX9_dull_78 : decode cX9_dull 78 = .ok (.iload 4, 2) := by decide +kernel
theorem dX9_dull_80 : decode cX9_dull 80 = .ok (.goto 4, 3) := by decide +kernel
theorem dX9_dull_83 : decode cX9_dull 83 = .ok (.iload_n 2, 1) := by decide +kernel
theorem dX9_dull_84 : decode cX9_dull 84 = .ok (.istore_n 2, 1) := by decide +kernel
theorem dX9_dull_85 : decode cX9_dull 85 = .ok (.iinc 5 1, 3) := by decide +kernel
theorem dX9_dull_88 : decode cX9_dull 88 = .ok (.goto (-58), 3) := by decide +kernel
theorem dX9_dull_91 : decode cX9_dull 91 = .ok (.iload_n 1, 1) := by decide +kernel
theorem dX9_dull_92 : decode cX9_dull 92 = .ok (.ifCond .ne 7, 3) := by decide +kernel
theorem dX9_dull_95 : decode cX9_dull 95 = .ok (.iload_n 2, 1) := by decide +kernel
theorem dX9_dull_96 : decode cX9_dull 96 = .ok (.goto 4, 3) := by decide +kernel
theorem dX9_dull_99 : decode cX9_dull 99 = .ok (.iload_n 3, 1) := by decide +kernel
theorem dX9_dull_100 : decode cX9_dull 100 = .ok (.ireturn, 1) := by decide +kernel
theorem dX9_year_0 : decode cX9_year 0 = .ok (.iload_n 1, 1) := by decide +kernel
theorem dX9_year_1 : decode cX9_year 1 = .ok (.iconst 0, 1) := by decide +kernel
theorem dX9_year_2 : decode cX9_year 2 = .ok (.sipush 9999, 3) := by decide +kernel
theorem dX9_year_5 : decode cX9_year 5 = .ok (.invokestatic 70, 3) := by decide +kernel
theorem dX9_year_8 : decode cX9_year 8 = .ok (.ifCond .eq 22, 3) := by decide +kernel
theorem dX9_year_11 : decode cX9_year 11 = .ok (.iload_n 2, 1) := by decide +kernel
theorem dX9_year_12 : decode cX9_year 12 = .ok (.iconst 1, 1) := by decide +kernel
theorem dX9_year_13 : decode cX9_year 13 = .ok (.bipush 60, 2) := by decide +kernel
theorem dX9_year_15 : decode cX9_year 15 = .ok (.invokestatic 70, 3) := by decide +kernel
theorem dX9_year_18 : decode cX9_year 18 = .ok (.ifCond .eq 12, 3) := by decide +kernel
theorem dX9_year_21 : decode cX9_year 21 = .ok (.iload_n 3, 1) := by decide +kernel
theorem dX9_year_22 : decode cX9_year 22 = .ok (.iconst 0, 1) := by decide +kernel
theorem dX9_year_23 : decode cX9_year 23 = .ok (.iconst 1, 1) := by decide +kernel
theorem dX9_year_24 : decode cX9_year 24 = .ok (.invokestatic 70, 3) := by decide +kernel
theorem dX9_year_27 : decode cX9_year 27 = .ok (.ifCond .ne 5, 3) := by decide +kernel
theorem dX9_year_30 : decode cX9_year 30 = .ok (.iconst (-1), 1) := by decide +kernel
theorem dX9_year_31 : decode cX9_year 31 = .ok (.ireturn, 1) := by decide +kernel
theorem dX9_year_32 : decode cX9_year 32 = .ok (.aload_n 0, 1) := by decide +kernel
theorem dX9_year_33 : decode cX9_year 33 = .ok (.aload_n 0, 1) := by decide +kernel
theorem dX9_year_34 : decode cX9_year 34 = .ok (.getfield 13, 3) := by decide +kernel
theorem dX9_year_37 : decode cX9_year 37 = .ok (.invokevirtual 166, 3) := by decide +kernel
theorem dX9_year_40 : decode cX9_year 40 = .ok (.iconst 0, 1) := by decide +kernel
theorem dX9_year_41 : decode cX9_year 41 = .ok (.istore 4, 2) := by decide +kernel
theorem dX9_year_43 : decode cX9_year 43 = .ok (.iconst 0, 1) := by decide +kernel
theorem dX9_year_44 : decode cX9_year 44 = .ok (.istore 5, 2) := by decide +kernel
theorem dX9_year_46 : decode cX9_year 46 = .ok (.iload 5, 2) := by decide +kernel
theorem dX9_year_48 : decode cX9_year 48 = .ok (.iload_n 2, 1) := by decide +kernel
theorem dX9_year_49 : decode cX9_year 49 = .ok (.if_icmp .ge 97, 3) := by decide +kernel
theorem dX9_year_52 : decode cX9_year 52 = .ok (.ldc2_w 182, 3) := by decide +kernel
theorem dX9_year_55 : decode cX9_year 55 = .ok (.iload_n 1, 1) := by decide +kernel
