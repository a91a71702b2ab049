theorem dX8_raise_85 : decode cX8_raise 85 = .ok (.bipush 9, 2) := by decide +kernel
theorem dX8_raise_87 : decode cX8_raise 87 = .ok (.invokevirtual 227, 3) := by decide +kernel
theorem dX8_raise_90 : decode cX8_raise 90 = .ok (.iload 7, 2) := by decide +kernel
theorem dX8_raise_92 : decode cX8_raise 92 = .ok (.iload_n 3, 1) := by decide +kernel
theorem dX8_raise_93 : decode cX8_raise 93 = .ok (.if_icmp .ge 16, 3) := by decide +kernel
theorem dX8_raise_96 : decode cX8_raise 96 = .ok (.iload 7, 2) := by decide +kernel
theorem dX8_raise_98 : decode cX8_raise 98 = .ok (.istore_n 3, 1) := by decide +kernel
theorem dX8_raise_99 : decode cX8_raise 99 = .ok (.bipush 10, 2) := by decide +kernel
theorem dX8_raise_101 : decode cX8_raise 101 = .ok (.iload 5, 2) := by decide +kernel
theorem dX8_raise_103 : decode cX8_raise 103 = .ok (.imul, 1) := by decide +kernel
theorem dX8_raise_104 : decode cX8_raise 104 = .ok (.iload 6, 2) := by decide +kernel
theorem dX8_raise_106 : decode cX8_raise 106 = .ok (.iadd, 1) := by decide +kernel
theorem dX8_raise_107 : decode cX8_raise 107 = .ok (.istore 4, 2) := by decide +kernel
theorem dX8_raise_109 : decode cX8_raise 109 = .ok (.iinc 6 1, 3) := by decide +kernel
theorem dX8_raise_112 : decode cX8_raise 112 = .ok (.goto (-65), 3) := by decide +kernel
theorem dX8_raise_115 : decode cX8_raise 115 = .ok (.iinc 5 1, 3) := by decide +kernel
theorem dX8_raise_118 : decode cX8_raise 118 = .ok (.goto (-81), 3) := by decide +kernel
theorem dX8_raise_121 : decode cX8_raise 121 = .ok (.iload_n 3, 1) := by decide +kernel
theorem dX8_raise_122 : decode cX8_raise 122 = .ok (.bipush 40, 2) := by decide +kernel
theorem dX8_raise_124 : decode cX8_raise 124 = .ok (.if_icmp .le 6, 3) := by decide +kernel
theorem dX8_raise_127 : decode cX8_raise 127 = .ok (.bipush (-4), 2) := by decide +kernel
theorem dX8_raise_129 : decode cX8_raise 129 = .ok (.ireturn, 1) := by decide +kernel
theorem dX8_raise_130 : decode cX8_raise 130 = .ok (.iload_n 2, 1) := by decide +kernel
theorem dX8_raise_131 : decode cX8_raise 131 = .ok (.ifCond .ne 8, 3) := by decide +kernel
theorem dX8_raise_134 : decode cX8_raise 134 = .ok (.iload 4, 2) := by decide +kernel
theorem dX8_raise_136 : decode cX8_raise 136 = .ok (.goto 4, 3) := by decide +kernel
theorem dX8_raise_139 : decode cX8_raise 139 = .ok (.iload_n 3, 1) := by decide +kernel
theorem dX8_raise_140 : decode cX8_raise 140 = .ok (.ireturn, 1) := by decide +kernel
theorem dX8_order_0 : decode cX8_order 0 = .ok (.iload_n 1, 1) := by decide +kernel
theorem dX8_order_1 : decode cX8_order 1 = .ok (.iconst 1, 1) := by decide +kernel
theorem dX8_order_2 : decode cX8_order 2 = .ok (.if_icmp .lt 25, 3) := by decide +kernel
theorem dX8_order_5 : decode cX8_order 5 = .ok (.iload_n 1, 1) := by decide +kernel
theorem dX8_order_6 : decode cX8_order 6 = .ok (.bipush 40, 2) := by decide +kernel
theorem dX8_order_8 : decode cX8_order 8 = .ok (.if_icmp .gt 19, 3) := by decide +kernel
theorem dX8_order_11 : decode cX8_order 11 = .ok (.iload_n 2, 1) := by decide +kernel
theorem dX8_order_12 : decode cX8_order 12 = .ok (.iconst (-1), 1) := by decide +kernel
theorem dX8_order_13 : decode cX8_order 13 = .ok (.if_icmp .lt 14, 3) := by decide +kernel
theorem dX8_order_16 : decode cX8_order 16 = .ok (.iload_n 2, 1) := by decide +kernel
theorem dX8_order_17 : decode cX8_order 17 = .ok (.aload_n 0, 1) := by decide +kernel
theorem dX8_order_18 : decode cX8_order 18 = .ok (.getfield 23, 3) := by decide +kernel
theorem dX8_order_21 : decode cX8_order 21 = .ok (.getfield 103, 3) := by decide +kernel
theorem dX8_order_24 : decode cX8_order 24 = .ok (.if_icmp .lt 5, 3) := by decide +kernel
theorem dX8_order_27 : decode cX8_order 27 = .ok (.iconst (-1), 1) := by decide +kernel
theorem dX8_order_28 : decode cX8_order 28 = .ok (.ireturn, 1) := by decide +kernel
theorem dX8_order_29 : decode cX8_order 29 = .ok (.aload_n 0, 1) := by decide +kernel
theorem dX8_order_30 : decode cX8_order 30 = .ok (.iload_n 1, 1) := by decide +kernel
theorem dX8_order_31 : decode cX8_order 31 = .ok (.invokevirtual 154, 3) := by decide +kernel
theorem dX8_order_34 : decode cX8_order 34 = .ok (.aload_n 0, 1) := by decide +kernel
theorem dX8_order_35 : decode cX8_order 35 = .ok (.getfield 66, 3) := by decide +kernel
theorem dX8_order_38 : decode cX8_order 38 = .ok (.invokevirtual 230, 3) := by decide +kernel
theorem dX8_order_41 : decode cX8_order 41 = .ok (.iload_n 1, 1) := by decide +kernel
theorem dX8_order_42 : decode cX8_order 42 = .ok (.iconst 1, 1) := by decide +kernel
theorem dX8_order_43 : decode cX8_order 43 = .ok (.iadd, 1) := by decide +kernel
theorem dX8_order_44 : decode cX8_order 44 = .ok (.istore_n 3, 1) := by decide +kernel
theorem dX8_order_45 : decode cX8_order 45 = .ok (.iconst 0, 1) := by decide +kernel
theorem dX8_order_46 : decode cX8_order 46 = .ok (.istore 4, 2) := by decide +kernel
theorem dX8_order_48 : decode cX8_order 48 = .ok (.iload 4, 2) := by decide +kernel
theorem dX8_order_50 : decode cX8_order 50 = .ok (.sipush 720, 3) := by decide +kernel
theorem dX8_order_53 : decode cX8_order 53 = .ok (.if_icmp .ge 58, 3) := by decide +kernel
theorem dX8_order_56 : decode cX8_order 56 = .ok (.iload_n 3, 1) := by decide +kernel
theorem dX8_order_57 : decode cX8_order 57 = .ok (.ifCond .le 54, 3) := by decide +kernel
theorem dX8_order_60 : decode cX8_order 60 = .ok (.aload_n 0, 1) := by decide +kernel
theorem dX8_order_61 : decode cX8_order 61 = .ok (.iload_n 1, 1) := by decide +kernel
theorem dX8_order_62 : decode cX8_order 62 = .ok (.iload_n 3, 1) := by decide +kernel
theorem dX8_order_63 : decode cX8_order 63 = .ok (.invokevirtual 233, 3) := by decide +kernel
theorem dX8_order_66 : decode cX8_order 66 = .ok (.istore 5, 2) := by decide +kernel
theorem dX8_order_68 : decode cX8_order 68 = .ok (.iload 5, 2) := by decide +kernel
theorem dX8_order_70 : decode cX8_order 70 = .ok (.iload_n 3, 1) := by decide +kernel
theorem dX8_order_71 : decode cX8_order 71 = .ok (.if_icmp .ge 17, 3) := by decide +kernel
theorem dX8_order_74 : decode cX8_order 74 = .ok (.iload 5, 2) := by decide +kernel
theorem dX8_order_76 : decode cX8_order 76 = .ok (.istore_n 3, 1) := by decide +kernel
theorem dX8_order_77 : decode cX8_order 77 = .ok (.aload_n 0, 1) := by decide +kernel
theorem dX8_order_78 : decode cX8_order 78 = .ok (.getfield 66, 3) := by decide +kernel
theorem dX8_order_81 : decode cX8_order 81 = .ok (.aload_n 0, 1) := by decide +kernel
theorem dX8_order_82 : decode cX8_order 82 = .ok (.getfield 70, 3) := by decide +kernel
theorem dX8_order_85 : decode cX8_order 85 = .ok (.invokevirtual 237, 3) := by decide +kernel
theorem dX8_order_88 : decode cX8_order 88 = .ok (.aload_n 0, 1) := by decide +kernel
theorem dX8_order_89 : decode cX8_order 89 = .ok (.getfield 66, 3) := by decide +kernel
theorem dX8_order_92 : decode cX8_order 92 = .ok (.iload 5, 2) := by decide +kernel
theorem dX8_order_94 : decode cX8_order 94 = .ok (.iconst 1, 1) := by decide +kernel
theorem dX8_order_95 : decode cX8_order 95 = .ok (.iadd, 1) := by decide +kernel
theorem dX8_order_96 : decode cX8_order 96 = .ok (.invokevirtual 241, 3) := by decide +kernel
theorem dX8_order_99 : decode cX8_order 99 = .ok (.ifCond .ne 6, 3) := by decide +kernel
theorem dX8_order_102 : decode cX8_order 102 = .ok (.goto 9, 3) := by decide +kernel
theorem dX8_order_105 : decode cX8_order 105 = .ok (.iinc 4 1, 3) := by decide +kernel
theorem dX8_order_108 : decode cX8_order 108 = .ok (.goto (-60), 3) := by decide +kernel
theorem dX8_order_111 : decode cX8_order 111 = .ok (.iload_n 2, 1) := by decide +kernel
theorem dX8_order_112 : decode cX8_order 112 = .ok (.ifCond .ge 7, 3) := by decide +kernel
theorem dX8_order_115 : decode cX8_order 115 = .ok (.iload_n 3, 1) := by decide +kernel
theorem dX8_order_116 : decode cX8_order 116 = .ok (.goto 9, 3) := by decide +kernel
theorem dX8_order_119 : decode cX8_order 119 = .ok (.aload_n 0, 1) := by decide +kernel
theorem dX8_order_120 : decode cX8_order 120 = .ok (.getfield 70, 3) := by decide +kernel
theorem dX8_order_123 : decode cX8_order 123 = .ok (.iload_n 2, 1) := by decide +kernel
theorem dX8_order_124 : decode cX8_order 124 = .ok (.iaload, 1) := by decide +kernel
theorem dX8_order_125 : decode cX8_order 125 = .ok (.ireturn, 1) := by decide +kernel
theorem dX8_away_0 : decode cX8_away 0 = .ok (.iload_n 1, 1) := by decide +kernel
theorem dX8_away_1 : decode cX8_away 1 = .ok (.invokestatic 200, 3) := by decide +kernel
theorem dX8_away_4 : decode cX8_away 4 = .ok (.ifCond .ne 5, 3) := by decide +kernel
theorem dX8_away_7 : decode cX8_away 7 = .ok (.iconst (-1), 1) := by decide +kernel
theorem dX8_away_8 : decode cX8_away 8 = .ok (.ireturn, 1) := by decide +kernel
theorem dX8_away_9 : decode cX8_away 9 = .ok (.bipush (-4), 2) := by decide +kernel
theorem dX8_away_11 : decode cX8_away 11 = .ok (.istore_n 2, 1) := by decide +kernel
theorem dX8_away_12 : decode cX8_away 12 = .ok (.bipush (-4), 2) := by decide +kernel
theorem dX8_away_14 : decode cX8_away 14 = .ok (.istore_n 3, 1) := by decide +kernel
theorem dX8_away_15 : decode cX8_away 15 = .ok (.iconst 0, 1) := by decide +kernel
theorem dX8_away_16 : decode cX8_away 16 = .ok (.istore 4, 2) := by decide +kernel
theorem dX8_away_18 : decode cX8_away 18 = .ok (.iload 4, 2) := by decide +kernel
theorem dX8_away_20 : decode cX8_away 20 = .ok (.aload_n 0, 1) := by decide +kernel
theorem dX8_away_21 : decode cX8_away 21 = .ok (.getfield 29, 3) := by decide +kernel
theorem dX8_away_24 : decode cX8_away 24 = .ok (.getfield 130, 3) := by decide +kernel
theorem dX8_away_27 : decode cX8_away 27 = .ok (.getfield 185, 3) := by decide +kernel
theorem dX8_away_30 : decode cX8_away 30 = .ok (.if_icmp .ge 74, 3) := by decide +kernel
theorem dX8_away_33 : decode cX8_away 33 = .ok (.aload_n 0, 1) := by decide +kernel
theorem dX8_away_34 : decode cX8_away 34 = .ok (.getfield 29, 3) := by decide +kernel
theorem dX8_away_37 : decode cX8_away 37 = .ok (.iload 4, 2) := by decide +kernel
theorem dX8_away_39 : decode cX8_away 39 = .ok (.invokevirtual 145, 3) := by decide +kernel
theorem dX8_away_42 : decode cX8_away 42 = .ok (.ifCond .ne 56, 3) := by decide +kernel
theorem dX8_away_45 : decode cX8_away 45 = .ok (.aload_n 0, 1) := by decide +kernel
theorem dX8_away_46 : decode cX8_away 46 = .ok (.getfield 57, 3) := by decide +kernel
theorem dX8_away_49 : decode cX8_away 49 = .ok (.aload_n 0, 1) := by decide +kernel
theorem dX8_away_50 : decode cX8_away 50 = .ok (.getfield 29, 3) := by decide +kernel
theorem dX8_away_53 : decode cX8_away 53 = .ok (.getfield 130, 3) := by decide +kernel
theorem dX8_away_56 : decode cX8_away 56 = .ok (.aload_n 0, 1) := by decide +kernel
theorem dX8_away_57 : decode cX8_away 57 = .ok (.getfield 29, 3) := by decide +kernel
theorem dX8_away_60 : decode cX8_away 60 = .ok (.getfield 176, 3) := by decide +kernel
theorem dX8_away_63 : decode cX8_away 63 = .ok (.iconst 1, 1) := by decide +kernel
theorem dX8_away_64 : decode cX8_away 64 = .ok (.iload 4, 2) := by decide +kernel
theorem dX8_away_66 : decode cX8_away 66 = .ok (.ishl, 1) := by decide +kernel
theorem dX8_away_67 : decode cX8_away 67 = .ok (.ior, 1) := by decide +kernel
theorem dX8_away_68 : decode cX8_away 68 = .ok (.aload_n 0, 1) := by decide +kernel
theorem dX8_away_69 : decode cX8_away 69 = .ok (.getfield 29, 3) := by decide +kernel
theorem dX8_away_72 : decode cX8_away 72 = .ok (.getfield 148, 3) := by decide +kernel
theorem dX8_away_75 : decode cX8_away 75 = .ok (.bipush 41, 2) := by decide +kernel
theorem dX8_away_77 : decode cX8_away 77 = .ok (.invokevirtual 244, 3) := by decide +kernel
theorem dX8_away_80 : decode cX8_away 80 = .ok (.aload_n 0, 1) := by decide +kernel
theorem dX8_away_81 : decode cX8_away 81 = .ok (.invokevirtual 206, 3) := by decide +kernel
theorem dX8_away_84 : decode cX8_away 84 = .ok (.istore 5, 2) := by decide +kernel
theorem dX8_away_86 : decode cX8_away 86 = .ok (.iload 5, 2) := by decide +kernel
theorem dX8_away_88 : decode cX8_away 88 = .ok (.iload_n 3, 1) := by decide +kernel
theorem dX8_away_89 : decode cX8_away 89 = .ok (.if_icmp .le 9, 3) := by decide +kernel
theorem dX8_away_92 : decode cX8_away 92 = .ok (.iload 5, 2) := by decide +kernel
theorem dX8_away_94 : decode cX8_away 94 = .ok (.istore_n 3, 1) := by decide +kernel
theorem dX8_away_95 : decode cX8_away 95 = .ok (.iload 4, 2) := by decide +kernel
theorem dX8_away_97 : decode cX8_away 97 = .ok (.istore_n 2, 1) := by decide +kernel
theorem dX8_away_98 : decode cX8_away 98 = .ok (.iinc 4 1, 3) := by decide +kernel
theorem dX8_away_101 : decode cX8_away 101 = .ok (.goto (-83), 3) := by decide +kernel
theorem dX8_away_104 : decode cX8_away 104 = .ok (.iload_n 1, 1) := by decide +kernel
theorem dX8_away_105 : decode cX8_away 105 = .ok (.ifCond .ne 7, 3) := by decide +kernel
theorem dX8_away_108 : decode cX8_away 108 = .ok (.iload_n 2, 1) := by decide +kernel
theorem dX8_away_109 : decode cX8_away 109 = .ok (.goto 4, 3) := by decide +kernel
theorem dX8_away_112 : decode cX8_away 112 = .ok (.iload_n 3, 1) := by decide +kernel
theorem dX8_away_113 : decode cX8_away 113 = .ok (.ireturn, 1) := by decide +kernel
theorem dX8_seen_0 : decode cX8_seen 0 = .ok (.aload_n 0, 1) := by decide +kernel
theorem dX8_seen_1 : decode cX8_seen 1 = .ok (.iload_n 1, 1) := by decide +kernel
theorem dX8_seen_2 : decode cX8_seen 2 = .ok (.invokevirtual 108, 3) := by decide +kernel
theorem dX8_seen_5 : decode cX8_seen 5 = .ok (.ifCond .eq 13, 3) := by decide +kernel
theorem dX8_seen_8 : decode cX8_seen 8 = .ok (.iload_n 2, 1) := by decide +kernel
theorem dX8_seen_9 : decode cX8_seen 9 = .ok (.ifCond .lt 9, 3) := by decide +kernel
theorem dX8_seen_12 : decode cX8_seen 12 = .ok (.iload_n 2, 1) := by decide +kernel
theorem dX8_seen_13 : decode cX8_seen 13 = .ok (.bipush 60, 2) := by decide +kernel
theorem dX8_seen_15 : decode cX8_seen 15 = .ok (.if_icmp .le 5, 3) := by decide +kernel
theorem dX8_seen_18 : decode cX8_seen 18 = .ok (.iconst (-1), 1) := by decide +kernel
theorem dX8_seen_19 : decode cX8_seen 19 = .ok (.ireturn, 1) := by decide +kernel
theorem dX8_seen_20 : decode cX8_seen 20 = .ok (.aload_n 0, 1) := by decide +kernel
theorem dX8_seen_21 : decode cX8_seen 21 = .ok (.getfield 48, 3) := by decide +kernel
theorem dX8_seen_24 : decode cX8_seen 24 = .ok (.iload_n 1, 1) := by decide +kernel
theorem dX8_seen_25 : decode cX8_seen 25 = .ok (.iload_n 2, 1) := by decide +kernel
theorem dX8_seen_26 : decode cX8_seen 26 = .ok (.invokevirtual 248, 3) := by decide +kernel
theorem dX8_seen_29 : decode cX8_seen 29 = .ok (.ifCond .eq 13, 3) := by decide +kernel
theorem dX8_seen_32 : decode cX8_seen 32 = .ok (.aload_n 0, 1) := by decide +kernel
theorem dX8_seen_33 : decode cX8_seen 33 = .ok (.getfield 48, 3) := by decide +kernel
theorem dX8_seen_36 : decode cX8_seen 36 = .ok (.getfield 250, 3) := by decide +kernel
theorem dX8_seen_39 : decode cX8_seen 39 = .ok (.goto 5, 3) := by decide +kernel
theorem dX8_seen_42 : decode cX8_seen 42 = .ok (.bipush (-3), 2) := by decide +kernel
theorem dX8_seen_44 : decode cX8_seen 44 = .ok (.ireturn, 1) := by decide +kernel
theorem dX8_forget_0 : decode cX8_forget 0 = .ok (.aload_n 0, 1) := by decide +kernel
theorem dX8_forget_1 : decode cX8_forget 1 = .ok (.getfield 48, 3) := by decide +kernel
theorem dX8_forget_4 : decode cX8_forget 4 = .ok (.getfield 250, 3) := by decide +kernel
theorem dX8_forget_7 : decode cX8_forget 7 = .ok (.istore_n 1, 1) := by decide +kernel
theorem dX8_forget_8 : decode cX8_forget 8 = .ok (.aload_n 0, 1) := by decide +kernel
theorem dX8_forget_9 : decode cX8_forget 9 = .ok (.getfield 48, 3) := by decide +kernel
theorem dX8_forget_12 : decode cX8_forget 12 = .ok (.invokevirtual 107, 3) := by decide +kernel
theorem dX8_forget_15 : decode cX8_forget 15 = .ok (.iload_n 1, 1) := by decide +kernel
theorem dX8_forget_16 : decode cX8_forget 16 = .ok (.ireturn, 1) := by decide +kernel
theorem dX8_tastes_0 : decode cX8_tastes 0 = .ok (.aload_n 0, 1) := by decide +kernel
theorem dX8_tastes_1 : decode cX8_tastes 1 = .ok (.iload_n 1, 1) := by decide +kernel
theorem dX8_tastes_2 : decode cX8_tastes 2 = .ok (.invokevirtual 108, 3) := by decide +kernel
theorem dX8_tastes_5 : decode cX8_tastes 5 = .ok (.ifCond .eq 10, 3) := by decide +kernel
theorem dX8_tastes_8 : decode cX8_tastes 8 = .ok (.iload_n 2, 1) := by decide +kernel
theorem dX8_tastes_9 : decode cX8_tastes 9 = .ok (.invokestatic 200, 3) := by decide +kernel
theorem dX8_tastes_12 : decode cX8_tastes 12 = .ok (.ifCond .ne 5, 3) := by decide +kernel
theorem dX8_tastes_15 : decode cX8_tastes 15 = .ok (.iconst (-1), 1) := by decide +kernel
theorem dX8_tastes_16 : decode cX8_tastes 16 = .ok (.ireturn, 1) := by decide +kernel
theorem dX8_tastes_17 : decode cX8_tastes 17 = .ok (.aload_n 0, 1) := by decide +kernel
theorem dX8_tastes_18 : decode cX8_tastes 18 = .ok (.getfield 57, 3) := by decide +kernel
theorem dX8_tastes_21 : decode cX8_tastes 21 = .ok (.aload_n 0, 1) := by decide +kernel
theorem dX8_tastes_22 : decode cX8_tastes 22 = .ok (.getfield 23, 3) := by decide +kernel
theorem dX8_tastes_25 : decode cX8_tastes 25 = .ok (.getfield 251, 3) := by decide +kernel
theorem dX8_tastes_28 : decode cX8_tastes 28 = .ok (.iconst 0, 1) := by decide +kernel
theorem dX8_tastes_29 : decode cX8_tastes 29 = .ok (.iconst 0, 1) := by decide +kernel
theorem dX8_tastes_30 : decode cX8_tastes 30 = .ok (.bipush 61, 2) := by decide +kernel
theorem dX8_tastes_32 : decode cX8_tastes 32 = .ok (.invokevirtual 244, 3) := by decide +kernel
theorem dX8_tastes_35 : decode cX8_tastes 35 = .ok (.iconst 0, 1) := by decide +kernel
theorem dX8_tastes_36 : decode cX8_tastes 36 = .ok (.istore_n 3, 1) := by decide +kernel
theorem dX8_tastes_37 : decode cX8_tastes 37 = .ok (.bipush (-4), 2) := by decide +kernel
theorem dX8_tastes_39 : decode cX8_tastes 39 = .ok (.istore 4, 2) := by decide +kernel
theorem dX8_tastes_41 : decode cX8_tastes 41 = .ok (.iconst 0, 1) := by decide +kernel
theorem dX8_tastes_42 : decode cX8_tastes 42 = .ok (.istore 5, 2) := by decide +kernel
theorem dX8_tastes_44 : decode cX8_tastes 44 = .ok (.iload 5, 2) := by decide +kernel
theorem dX8_tastes_46 : decode cX8_tastes 46 = .ok (.bipush 31, 2) := by decide +kernel
theorem dX8_tastes_48 : decode cX8_tastes 48 = .ok (.if_icmp .gt 45, 3) := by decide +kernel
theorem dX8_tastes_51 : decode cX8_tastes 51 = .ok (.aload_n 0, 1) := by decide +kernel
theorem dX8_tastes_52 : decode cX8_tastes 52 = .ok (.getfield 57, 3) := by decide +kernel
theorem dX8_tastes_55 : decode cX8_tastes 55 = .ok (.iload_n 1, 1) := by decide +kernel
theorem dX8_tastes_56 : decode cX8_tastes 56 = .ok (.iload 5, 2) := by decide +kernel
theorem dX8_tastes_58 : decode cX8_tastes 58 = .ok (.invokevirtual 252, 3) := by decide +kernel
theorem dX8_tastes_61 : decode cX8_tastes 61 = .ok (.aload_n 0, 1) := by decide +kernel
theorem dX8_tastes_62 : decode cX8_tastes 62 = .ok (.invokevirtual 256, 3) := by decide +kernel
theorem dX8_tastes_65 : decode cX8_tastes 65 = .ok (.ifCond .eq 22, 3) := by decide +kernel
theorem dX8_tastes_68 : decode cX8_tastes 68 = .ok (.iinc 3 1, 3) := by decide +kernel
theorem dX8_tastes_71 : decode cX8_tastes 71 = .ok (.iload 4, 2) := by decide +kernel
theorem dX8_tastes_73 : decode cX8_tastes 73 = .ok (.bipush (-4), 2) := by decide +kernel
theorem dX8_tastes_75 : decode cX8_tastes 75 = .ok (.if_icmp .ne 8, 3) := by decide +kernel
theorem dX8_tastes_78 : decode cX8_tastes 78 = .ok (.iload 5, 2) := by decide +kernel
theorem dX8_tastes_80 : decode cX8_tastes 80 = .ok (.goto 5, 3) := by decide +kernel
theorem dX8_tastes_83 : decode cX8_tastes 83 = .ok (.iload 4, 2) := by decide +kernel
theorem dX8_tastes_85 : decode cX8_tastes 85 = .ok (.istore 4, 2) := by decide +kernel
theorem dX8_tastes_87 : decode cX8_tastes 87 = .ok (.iinc 5 1, 3) := by decide +kernel
theorem dX8_tastes_90 : decode cX8_tastes 90 = .ok (.goto (-46), 3) := by decide +kernel
theorem dX8_tastes_93 : decode cX8_tastes 93 = .ok (.iload_n 2, 1) := by decide +kernel
theorem dX8_tastes_94 : decode cX8_tastes 94 = .ok (.ifCond .ne 7, 3) := by decide +kernel
theorem dX8_tastes_97 : decode cX8_tastes 97 = .ok (.iload_n 3, 1) := by decide +kernel
theorem dX8_tastes_98 : decode cX8_tastes 98 = .ok (.goto 5, 3) := by decide +kernel
theorem dX8_tastes_101 : decode cX8_tastes 101 = .ok (.iload 4, 2) := by decide +kernel
theorem dX8_tastes_103 : decode cX8_tastes 103 = .ok (.ireturn, 1) := by decide +kernel
theorem dX8_lasts_0 : decode cX8_lasts 0 = .ok (.iload_n 1, 1) := by decide +kernel
theorem dX8_lasts_1 : decode cX8_lasts 1 = .ok (.ifCond .lt 43, 3) := by decide +kernel
theorem dX8_lasts_4 : decode cX8_lasts 4 = .ok (.iload_n 1, 1) := by decide +kernel
theorem dX8_lasts_5 : decode cX8_lasts 5 = .ok (.bipush 6, 2) := by decide +kernel
theorem dX8_lasts_7 : decode cX8_lasts 7 = .ok (.if_icmp .gt 37, 3) := by decide +kernel
theorem dX8_lasts_10 : decode cX8_lasts 10 = .ok (.iload_n 2, 1) := by decide +kernel
theorem dX8_lasts_11 : decode cX8_lasts 11 = .ok (.invokestatic 179, 3) := by decide +kernel
theorem dX8_lasts_14 : decode cX8_lasts 14 = .ok (.ifCond .eq 30, 3) := by decide +kernel
theorem dX8_lasts_17 : decode cX8_lasts 17 = .ok (.iload_n 3, 1) := by decide +kernel
theorem dX8_lasts_18 : decode cX8_lasts 18 = .ok (.invokestatic 182, 3) := by decide +kernel
theorem dX8_lasts_21 : decode cX8_lasts 21 = .ok (.ifCond .eq 23, 3) := by decide +kernel
theorem dX8_lasts_24 : decode cX8_lasts 24 = .ok (.iload 4, 2) := by decide +kernel
theorem dX8_lasts_26 : decode cX8_lasts 26 = .ok (.ifCond .lt 18, 3) := by decide +kernel
theorem dX8_lasts_29 : decode cX8_lasts 29 = .ok (.iload 4, 2) := by decide +kernel
theorem dX8_lasts_31 : decode cX8_lasts 31 = .ok (.bipush 10, 2) := by decide +kernel
theorem dX8_lasts_33 : decode cX8_lasts 33 = .ok (.if_icmp .gt 11, 3) := by decide +kernel
theorem dX8_lasts_36 : decode cX8_lasts 36 = .ok (.iload 5, 2) := by decide +kernel
theorem dX8_lasts_38 : decode cX8_lasts 38 = .ok (.invokestatic 200, 3) := by decide +kernel
theorem dX8_lasts_41 : decode cX8_lasts 41 = .ok (.ifCond .ne 5, 3) := by decide +kernel
theorem dX8_lasts_44 : decode cX8_lasts 44 = .ok (.iconst (-1), 1) := by decide +kernel
theorem dX8_lasts_45 : decode cX8_lasts 45 = .ok (.ireturn, 1) := by decide +kernel
theorem dX8_lasts_46 : decode cX8_lasts 46 = .ok (.aload_n 0, 1) := by decide +kernel
theorem dX8_lasts_47 : decode cX8_lasts 47 = .ok (.iload_n 1, 1) := by decide +kernel
theorem dX8_lasts_48 : decode cX8_lasts 48 = .ok (.invokevirtual 154, 3) := by decide +kernel
theorem dX8_lasts_51 : decode cX8_lasts 51 = .ok (.iconst 0, 1) := by decide +kernel
theorem dX8_lasts_52 : decode cX8_lasts 52 = .ok (.istore 6, 2) := by decide +kernel
theorem dX8_lasts_54 : decode cX8_lasts 54 = .ok (.iconst 0, 1) := by decide +kernel
theorem dX8_lasts_55 : decode cX8_lasts 55 = .ok (.istore 7, 2) := by decide +kernel
theorem dX8_lasts_57 : decode cX8_lasts 57 = .ok (.iload 7, 2) := by decide +kernel
theorem dX8_lasts_59 : decode cX8_lasts 59 = .ok (.iconst 1, 1) := by decide +kernel
theorem dX8_lasts_60 : decode cX8_lasts 60 = .ok (.iload_n 1, 1) := by decide +kernel
theorem dX8_lasts_61 : decode cX8_lasts 61 = .ok (.ishl, 1) := by decide +kernel
theorem dX8_lasts_62 : decode cX8_lasts 62 = .ok (.if_icmp .ge 53, 3) := by decide +kernel
theorem dX8_lasts_65 : decode cX8_lasts 65 = .ok (.aload_n 0, 1) := by decide +kernel
theorem dX8_lasts_66 : decode cX8_lasts 66 = .ok (.iload_n 2, 1) := by decide +kernel
theorem dX8_lasts_67 : decode cX8_lasts 67 = .ok (.iload_n 3, 1) := by decide +kernel
theorem dX8_lasts_68 : decode cX8_lasts 68 = .ok (.iload 7, 2) := by decide +kernel
theorem dX8_lasts_70 : decode cX8_lasts 70 = .ok (.iload_n 1, 1) := by decide +kernel
theorem dX8_lasts_71 : decode cX8_lasts 71 = .ok (.invokevirtual 260, 3) := by decide +kernel
theorem dX8_lasts_74 : decode cX8_lasts 74 = .ok (.ifCond .eq 35, 3) := by decide +kernel
theorem dX8_lasts_77 : decode cX8_lasts 77 = .ok (.iload 7, 2) := by decide +kernel
theorem dX8_lasts_79 : decode cX8_lasts 79 = .ok (.invokestatic 212, 3) := by decide +kernel
theorem dX8_lasts_82 : decode cX8_lasts 82 = .ok (.istore 8, 2) := by decide +kernel
theorem dX8_lasts_84 : decode cX8_lasts 84 = .ok (.iload 6, 2) := by decide +kernel
theorem dX8_lasts_86 : decode cX8_lasts 86 = .ok (.iload 4, 2) := by decide +kernel
theorem dX8_lasts_88 : decode cX8_lasts 88 = .ok (.iload 8, 2) := by decide +kernel
theorem dX8_lasts_90 : decode cX8_lasts 90 = .ok (.invokestatic 264, 3) := by decide +kernel
theorem dX8_lasts_93 : decode cX8_lasts 93 = .ok (.bipush 10, 2) := by decide +kernel
theorem dX8_lasts_95 : decode cX8_lasts 95 = .ok (.iload 4, 2) := by decide +kernel
theorem dX8_lasts_97 : decode cX8_lasts 97 = .ok (.isub, 1) := by decide +kernel
theorem dX8_lasts_98 : decode cX8_lasts 98 = .ok (.iload_n 1, 1) := by decide +kernel
theorem dX8_lasts_99 : decode cX8_lasts 99 = .ok (.iload 8, 2) := by decide +kernel
theorem dX8_lasts_101 : decode cX8_lasts 101 = .ok (.isub, 1) := by decide +kernel
theorem dX8_lasts_102 : decode cX8_lasts 102 = .ok (.invokestatic 264, 3) := by decide +kernel
theorem dX8_lasts_105 : decode cX8_lasts 105 = .ok (.imul, 1) := by decide +kernel
theorem dX8_lasts_106 : decode cX8_lasts 106 = .ok (.iadd, 1) := by decide +kernel
theorem dX8_lasts_107 : decode cX8_lasts 107 = .ok (.istore 6, 2) := by decide +kernel
theorem dX8_lasts_109 : decode cX8_lasts 109 = .ok (.iinc 7 1, 3) := by decide +kernel
theorem dX8_lasts_112 : decode cX8_lasts 112 = .ok (.goto (-55), 3) := by decide +kernel
theorem dX8_lasts_115 : decode cX8_lasts 115 = .ok (.bipush 10, 2) := by decide +kernel
theorem dX8_lasts_117 : decode cX8_lasts 117 = .ok (.iload_n 1, 1) := by decide +kernel
theorem dX8_lasts_118 : decode cX8_lasts 118 = .ok (.invokestatic 264, 3) := by decide +kernel
theorem dX8_lasts_121 : decode cX8_lasts 121 = .ok (.istore 7, 2) := by decide +kernel
theorem dX8_lasts_123 : decode cX8_lasts 123 = .ok (.iconst 1, 1) := by decide +kernel
theorem dX8_lasts_124 : decode cX8_lasts 124 = .ok (.iload 7, 2) := by decide +kernel
theorem dX8_lasts_126 : decode cX8_lasts 126 = .ok (.iload 6, 2) := by decide +kernel
theorem dX8_lasts_128 : decode cX8_lasts 128 = .ok (.invokestatic 267, 3) := by decide +kernel
theorem dX8_lasts_131 : decode cX8_lasts 131 = .ok (.invokestatic 270, 3) := by decide +kernel
theorem dX8_lasts_134 : decode cX8_lasts 134 = .ok (.istore 8, 2) := by decide +kernel
theorem dX8_lasts_136 : decode cX8_lasts 136 = .ok (.iload 5, 2) := by decide +kernel
theorem dX8_lasts_138 : decode cX8_lasts 138 = .ok (.ifCond .ne 11, 3) := by decide +kernel
theorem dX8_lasts_141 : decode cX8_lasts 141 = .ok (.iload 6, 2) := by decide +kernel
theorem dX8_lasts_143 : decode cX8_lasts 143 = .ok (.iload 8, 2) := by decide +kernel
theorem dX8_lasts_145 : decode cX8_lasts 145 = .ok (.idiv, 1) := by decide +kernel
theorem dX8_lasts_146 : decode cX8_lasts 146 = .ok (.goto 8, 3) := by decide +kernel
theorem dX8_lasts_149 : decode cX8_lasts 149 = .ok (.iload 7, 2) := by decide +kernel
theorem dX8_lasts_151 : decode cX8_lasts 151 = .ok (.iload 8, 2) := by decide +kernel
theorem dX8_lasts_153 : decode cX8_lasts 153 = .ok (.idiv, 1) := by decide +kernel
theorem dX8_lasts_154 : decode cX8_lasts 154 = .ok (.ireturn, 1) := by decide +kernel
theorem dX8_content_0 : decode cX8_content 0 = .ok (.iload_n 1, 1) := by decide +kernel
theorem dX8_content_1 : decode cX8_content 1 = .ok (.invokestatic 197, 3) := by decide +kernel
theorem dX8_content_4 : decode cX8_content 4 = .ok (.ifCond .ne 5, 3) := by decide +kernel
theorem dX8_content_7 : decode cX8_content 7 = .ok (.iconst (-1), 1) := by decide +kernel
theorem dX8_content_8 : decode cX8_content 8 = .ok (.ireturn, 1) := by decide +kernel
theorem dX8_content_9 : decode cX8_content 9 = .ok (.aload_n 0, 1) := by decide +kernel
theorem dX8_content_10 : decode cX8_content 10 = .ok (.iload_n 1, 1) := by decide +kernel
theorem dX8_content_11 : decode cX8_content 11 = .ok (.iconst 1, 1) := by decide +kernel
theorem dX8_content_12 : decode cX8_content 12 = .ok (.iadd, 1) := by decide +kernel
theorem dX8_content_13 : decode cX8_content 13 = .ok (.invokevirtual 154, 3) := by decide +kernel
theorem dX8_content_16 : decode cX8_content 16 = .ok (.iconst 0, 1) := by decide +kernel
theorem dX8_content_17 : decode cX8_content 17 = .ok (.istore_n 2, 1) := by decide +kernel
theorem dX8_content_18 : decode cX8_content 18 = .ok (.iconst 0, 1) := by decide +kernel
theorem dX8_content_19 : decode cX8_content 19 = .ok (.istore_n 3, 1) := by decide +kernel
theorem dX8_content_20 : decode cX8_content 20 = .ok (.iload_n 3, 1) := by decide +kernel
theorem dX8_content_21 : decode cX8_content 21 = .ok (.aload_n 0, 1) := by decide +kernel
theorem dX8_content_22 : decode cX8_content 22 = .ok (.getfield 23, 3) := by decide +kernel
theorem dX8_content_25 : decode cX8_content 25 = .ok (.getfield 103, 3) := by decide +kernel
theorem dX8_content_28 : decode cX8_content 28 = .ok (.if_icmp .ge 35, 3) := by decide +kernel
theorem dX8_content_31 : decode cX8_content 31 = .ok (.aload_n 0, 1) := by decide +kernel
theorem dX8_content_32 : decode cX8_content 32 = .ok (.getfield 57, 3) := by decide +kernel
theorem dX8_content_35 : decode cX8_content 35 = .ok (.iload_n 1, 1) := by decide +kernel
theorem dX8_content_36 : decode cX8_content 36 = .ok (.iload_n 3, 1) := by decide +kernel
theorem dX8_content_37 : decode cX8_content 37 = .ok (.invokevirtual 275, 3) := by decide +kernel
theorem dX8_content_40 : decode cX8_content 40 = .ok (.aload_n 0, 1) := by decide +kernel
theorem dX8_content_41 : decode cX8_content 41 = .ok (.getfield 23, 3) := by decide +kernel
theorem dX8_content_44 : decode cX8_content 44 = .ok (.iload_n 3, 1) := by decide +kernel
theorem dX8_content_45 : decode cX8_content 45 = .ok (.invokevirtual 278, 3) := by decide +kernel
theorem dX8_content_48 : decode cX8_content 48 = .ok (.if_icmp .lt 9, 3) := by decide +kernel
theorem dX8_content_51 : decode cX8_content 51 = .ok (.iload_n 2, 1) := by decide +kernel
theorem dX8_content_52 : decode cX8_content 52 = .ok (.iconst 1, 1) := by decide +kernel
theorem dX8_content_53 : decode cX8_content 53 = .ok (.iload_n 3, 1) := by decide +kernel
theorem dX8_content_54 : decode cX8_content 54 = .ok (.ishl, 1) := by decide +kernel
theorem dX8_content_55 : decode cX8_content 55 = .ok (.ior, 1) := by decide +kernel
theorem dX8_content_56 : decode cX8_content 56 = .ok (.istore_n 2, 1) := by decide +kernel
theorem dX8_content_57 : decode cX8_content 57 = .ok (.iinc 3 1, 3) := by decide +kernel
theorem dX8_content_60 : decode cX8_content 60 = .ok (.goto (-40), 3) := by decide +kernel
theorem dX8_content_63 : decode cX8_content 63 = .ok (.iload_n 2, 1) := by decide +kernel
theorem dX8_content_64 : decode cX8_content 64 = .ok (.ireturn, 1) := by decide +kernel
theorem dX8_dull_0 : decode cX8_dull 0 = .ok (.iload_n 1, 1) := by decide +kernel
theorem dX8_dull_1 : decode cX8_dull 1 = .ok (.invokestatic 200, 3) := by decide +kernel
theorem dX8_dull_4 : decode cX8_dull 4 = .ok (.ifCond .ne 5, 3) := by decide +kernel
theorem dX8_dull_7 : decode cX8_dull 7 = .ok (.iconst (-1), 1) := by decide +kernel
theorem dX8_dull_8 : decode cX8_dull 8 = .ok (.ireturn, 1) := by decide +kernel
theorem dX8_dull_9 : decode cX8_dull 9 = .ok (.aload_n 0, 1) := by decide +kernel
theorem dX8_dull_10 : decode cX8_dull 10 = .ok (.bipush 40, 2) := by decide +kernel
theorem dX8_dull_12 : decode cX8_dull 12 = .ok (.invokevirtual 154, 3) := by decide +kernel
theorem dX8_dull_15 : decode cX8_dull 15 = .ok (.aload_n 0, 1) := by decide +kernel
theorem dX8_dull_16 : decode cX8_dull 16 = .ok (.getfield 66, 3) := by decide +kernel
theorem dX8_dull_19 : decode cX8_dull 19 = .ok (.aload_n 0, 1) := by decide +kernel
theorem dX8_dull_20 : decode cX8_dull 20 = .ok (.getfield 29, 3) := by decide +kernel
theorem dX8_dull_23 : decode cX8_dull 23 = .ok (.invokevirtual 157, 3) := by decide +kernel
theorem dX8_dull_26 : decode cX8_dull 26 = .ok (.iconst 0, 1) := by decide +kernel
theorem dX8_dull_27 : decode cX8_dull 27 = .ok (.istore_n 2, 1) := by decide +kernel
theorem dX8_dull_28 : decode cX8_dull 28 = .ok (.bipush (-4), 2) := by decide +kernel
theorem dX8_dull_30 : decode cX8_dull 30 = .ok (.istore_n 3, 1) := by decide +kernel
theorem dX8_dull_31 : decode cX8_dull 31 = .ok (.iconst 0, 1) := by decide +kernel
theorem dX8_dull_32 : decode cX8_dull 32 = .ok (.istore 4, 2) := by decide +kernel
theorem dX8_dull_34 : decode cX8_dull 34 = .ok (.iconst 0, 1) := by decide +kernel
theorem dX8_dull_35 : decode cX8_dull 35 = .ok (.istore 5, 2) := by decide +kernel
theorem dX8_dull_37 : decode cX8_dull 37 = .ok (.iload 5, 2) := by decide +kernel
theorem dX8_dull_39 : decode cX8_dull 39 = .ok (.bipush 40, 2) := by decide +kernel
theorem dX8_dull_41 : decode cX8_dull 41 = .ok (.if_icmp .ge 48, 3) := by decide +kernel
theorem dX8_dull_44 : decode cX8_dull 44 = .ok (.aload_n 0, 1) := by decide +kernel
theorem dX8_dull_45 : decode cX8_dull 45 = .ok (.getfield 66, 3) := by decide +kernel
theorem dX8_dull_48 : decode cX8_dull 48 = .ok (.iload 5, 2) := by decide +kernel
theorem dX8_dull_50 : decode cX8_dull 50 = .ok (.invokevirtual 166, 3) := by decide +kernel
theorem dX8_dull_53 : decode cX8_dull 53 = .ok (.ifCond .eq 7, 3) := by decide +kernel
theorem dX8_dull_56 : decode cX8_dull 56 = .ok (.iconst 0, 1) := by decide +kernel
theorem dX8_dull_57 : decode cX8_dull 57 = .ok (.goto 7, 3) := by decide +kernel
theorem dX8_dull_60 : decode cX8_dull 60 = .ok (.iload 4, 2) := by decide +kernel
theorem dX8_dull_62 : decode cX8_dull 62 = .ok (.iconst 1, 1) := by decide +kernel
theorem dX8_dull_63 : decode cX8_dull 63 = .ok (.iadd, 1) := by decide +kernel
theorem dX8_dull_64 : decode cX8_dull 64 = .ok (.istore 4, 2) := by decide +kernel
theorem dX8_dull_66 : decode cX8_dull 66 = .ok (.iload 4, 2) := by decide +kernel
theorem dX8_dull_68 : decode cX8_dull 68 = .ok (.iload_n 2, 1) := by decide +kernel
theorem dX8_dull_69 : decode cX8_dull 69 = .ok (.if_icmp .le 14, 3) := by decide +kernel
theorem dX8_dull_72 : decode cX8_dull 72 = .ok (.iload 4, 2) := by decide +kernel
theorem dX8_dull_74 : decode cX8_dull 74 = .ok (.istore_n 2, 1) := by decide +kernel
theorem dX8_dull_75 : decode cX8_dull 75 = .ok (.iload 5, 2) := by decide +kernel
theorem dX8_dull_77 : decode cX8_dull 77 = .ok (.iload 4, 2) := by decide +kernel
theorem dX8_dull_79 : decode cX8_dull 79 = .ok (.isub, 1) := by decide +kernel
theorem dX8_dull_80 : decode cX8_dull 80 = .ok (.iconst 1, 1) := by decide +kernel
theorem dX8_dull_81 : decode cX8_dull 81 = .ok (.iadd, 1) := by decide +kernel
theorem dX8_dull_82 : decode cX8_dull 82 = .ok (.istore_n 3, 1) := by decide +kernel
theorem dX8_dull_83 : decode cX8_dull 83 = .ok (.iinc 5 1, 3) := by decide +kernel
theorem dX8_dull_86 : decode cX8_dull 86 = .ok (.goto (-49), 3) := by decide +kernel
theorem dX8_dull_89 : decode cX8_dull 89 = .ok (.iload_n 1, 1) := by decide +kernel
theorem dX8_dull_90 : decode cX8_dull 90 = .ok (.ifCond .ne 7, 3) := by decide +kernel
theorem dX8_dull_93 : decode cX8_dull 93 = .ok (.iload_n 2, 1) := by decide +kernel
theorem dX8_dull_94 : decode cX8_dull 94 = .ok (.goto 4, 3) := by decide +kernel
theorem dX8_dull_97 : decode cX8_dull 97 = .ok (.iload_n 3, 1) := by decide +kernel
theorem dX8_dull_98 : decode cX8_dull 98 = .ok (.ireturn, 1) := by decide +kernel
theorem dX8_year_0 : decode cX8_year 0 = .ok (.iload_n 1, 1) := by decide +kernel
theorem dX8_year_1 : decode cX8_year 1 = .ok (.ifCond .lt 28, 3) := by decide +kernel
theorem dX8_year_4 : decode cX8_year 4 = .ok (.iload_n 1, 1) := by decide +kernel
theorem dX8_year_5 : decode cX8_year 5 = .ok (.sipush 9999, 3) := by decide +kernel
theorem dX8_year_8 : decode cX8_year 8 = .ok (.if_icmp .gt 21, 3) := by decide +kernel
theorem dX8_year_11 : decode cX8_year 11 = .ok (.iload_n 2, 1) := by decide +kernel
theorem dX8_year_12 : decode cX8_year 12 = .ok (.iconst 1, 1) := by decide +kernel
theorem dX8_year_13 : decode cX8_year 13 = .ok (.if_icmp .lt 16, 3) := by decide +kernel
theorem dX8_year_16 : decode cX8_year 16 = .ok (.iload_n 2, 1) := by decide +kernel
theorem dX8_year_17 : decode cX8_year 17 = .ok (.bipush 60, 2) := by decide +kernel
theorem dX8_year_19 : decode cX8_year 19 = .ok (.if_icmp .gt 10, 3) := by decide +kernel
theorem dX8_year_22 : decode cX8_year 22 = .ok (.iload_n 3, 1) := by decide +kernel
theorem dX8_year_23 : decode cX8_year 23 = .ok (.invokestatic 200, 3) := by decide +kernel
theorem dX8_year_26 : decode cX8_year 26 = .ok (.ifCond .ne 5, 3) := by decide +kernel
theorem dX8_year_29 : decode cX8_year 29 = .ok (.iconst (-1), 1) := by decide +kernel
theorem dX8_year_30 : decode cX8_year 30 = .ok (.ireturn, 1) := by decide +kernel
theorem dX8_year_31 : decode cX8_year 31 = .ok (.aload_n 0, 1) := by decide +kernel
theorem dX8_year_32 : decode cX8_year 32 = .ok (.iload_n 2, 1) := by decide +kernel
theorem dX8_year_33 : decode cX8_year 33 = .ok (.invokevirtual 154, 3) := by decide +kernel
theorem dX8_year_36 : decode cX8_year 36 = .ok (.aload_n 0, 1) := by decide +kernel
theorem dX8_year_37 : decode cX8_year 37 = .ok (.getfield 66, 3) := by decide +kernel
theorem dX8_year_40 : decode cX8_year 40 = .ok (.aload_n 0, 1) := by decide +kernel
theorem dX8_year_41 : decode cX8_year 41 = .ok (.getfield 29, 3) := by decide +kernel
theorem dX8_year_44 : decode cX8_year 44 = .ok (.invokevirtual 157, 3) := by decide +kernel
theorem dX8_year_47 : decode cX8_year 47 = .ok (.iconst 0, 1) := by decide +kernel
theorem dX8_year_48 : decode cX8_year 48 = .ok (.istore 4, 2) := by decide +kernel
theorem dX8_year_50 : decode cX8_year 50 = .ok (.iconst 0, 1) := by decide +kernel
theorem dX8_year_51 : decode cX8_year 51 = .ok (.istore 5, 2) := by decide +kernel
theorem dX8_year_53 : decode cX8_year 53 = .ok (.iload 5, 2) := by decide +kernel
theorem dX8_year_55 : decode cX8_year 55 = .ok (.iload_n 2, 1) := by decide +kernel
theorem dX8_year_56 : decode cX8_year 56 = .ok (.if_icmp .ge 66, 3) := by decide +kernel
theorem dX8_year_59 : decode cX8_year 59 = .ok (.iload_n 1, 1) := by decide +kernel
theorem dX8_year_60 : decode cX8_year 60 = .ok (.iload 5, 2) := by decide +kernel
theorem dX8_year_62 : decode cX8_year 62 = .ok (.invokestatic 281, 3) := by decide +kernel
theorem dX8_year_65 : decode cX8_year 65 = .ok (.istore 6, 2) := by decide +kernel
theorem dX8_year_67 : decode cX8_year 67 = .ok (.iload 6, 2) := by decide +kernel
theorem dX8_year_69 : decode cX8_year 69 = .ok (.iconst 3, 1) := by decide +kernel
theorem dX8_year_70 : decode cX8_year 70 = .ok (.irem, 1) := by decide +kernel
theorem dX8_year_71 : decode cX8_year 71 = .ok (.ifCond .ne 30, 3) := by decide +kernel
theorem dX8_year_74 : decode cX8_year 74 = .ok (.aload_n 0, 1) := by decide +kernel
theorem dX8_year_75 : decode cX8_year 75 = .ok (.getfield 57, 3) := by decide +kernel
theorem dX8_year_78 : decode cX8_year 78 = .ok (.iload 5, 2) := by decide +kernel
theorem dX8_year_80 : decode cX8_year 80 = .ok (.iconst 1, 1) := by decide +kernel
theorem dX8_year_81 : decode cX8_year 81 = .ok (.iload 6, 2) := by decide +kernel
theorem dX8_year_83 : decode cX8_year 83 = .ok (.iconst 4, 1) := by decide +kernel
theorem dX8_year_84 : decode cX8_year 84 = .ok (.idiv, 1) := by decide +kernel
theorem dX8_year_85 : decode cX8_year 85 = .ok (.iconst 5, 1) := by decide +kernel
theorem dX8_year_86 : decode cX8_year 86 = .ok (.irem, 1) := by decide +kernel
theorem dX8_year_87 : decode cX8_year 87 = .ok (.ishl, 1) := by decide +kernel
theorem dX8_year_88 : decode cX8_year 88 = .ok (.iload 6, 2) := by decide +kernel
theorem dX8_year_90 : decode cX8_year 90 = .ok (.bipush 32, 2) := by decide +kernel
theorem dX8_year_92 : decode cX8_year 92 = .ok (.idiv, 1) := by decide +kernel
theorem dX8_year_93 : decode cX8_year 93 = .ok (.bipush 9, 2) := by decide +kernel
theorem dX8_year_95 : decode cX8_year 95 = .ok (.irem, 1) := by decide +kernel
theorem dX8_year_96 : decode cX8_year 96 = .ok (.iconst 1, 1) := by decide +kernel
theorem dX8_year_97 : decode cX8_year 97 = .ok (.iadd, 1) := by decide +kernel
theorem dX8_year_98 : decode cX8_year 98 = .ok (.invokevirtual 224, 3) := by decide +kernel
theorem dX8_year_101 : decode cX8_year 101 = .ok (.aload_n 0, 1) := by decide +kernel
theorem dX8_year_102 : decode cX8_year 102 = .ok (.getfield 66, 3) := by decide +kernel
theorem dX8_year_105 : decode cX8_year 105 = .ok (.iload 5, 2) := by decide +kernel
theorem dX8_year_107 : decode cX8_year 107 = .ok (.invokevirtual 166, 3) := by decide +kernel
theorem dX8_year_110 : decode cX8_year 110 = .ok (.ifCond .eq 6, 3) := by decide +kernel
theorem dX8_year_113 : decode cX8_year 113 = .ok (.iinc 4 1, 3) := by decide +kernel
theorem dX8_year_116 : decode cX8_year 116 = .ok (.iinc 5 1, 3) := by decide +kernel
theorem dX8_year_119 : decode cX8_year 119 = .ok (.goto (-66), 3) := by decide +kernel
theorem dX8_year_122 : decode cX8_year 122 = .ok (.iload_n 3, 1) := by decide +kernel
theorem dX8_year_123 : decode cX8_year 123 = .ok (.ifCond .ne 8, 3) := by decide +kernel
theorem dX8_year_126 : decode cX8_year 126 = .ok (.iload 4, 2) := by decide +kernel
theorem dX8_year_128 : decode cX8_year 128 = .ok (.goto 10, 3) := by decide +kernel
theorem dX8_year_131 : decode cX8_year 131 = .ok (.aload_n 0, 1) := by decide +kernel
theorem dX8_year_132 : decode cX8_year 132 = .ok (.getfield 66, 3) := by decide +kernel
theorem dX8_year_135 : decode cX8_year 135 = .ok (.invokevirtual 160, 3) := by decide +kernel
theorem dX8_year_138 : decode cX8_year 138 = .ok (.ireturn, 1) := by decide +kernel
theorem dX8_keep_0 : decode cX8_keep 0 = .ok (.aload_n 0, 1) := by decide +kernel
theorem dX8_keep_1 : decode cX8_keep 1 = .ok (.getfield 42, 3) := by decide +kernel
theorem dX8_keep_4 : decode cX8_keep 4 = .ok (.getfield 196, 3) := by decide +kernel
theorem dX8_keep_7 : decode cX8_keep 7 = .ok (.iconst 2, 1) := by decide +kernel
theorem dX8_keep_8 : decode cX8_keep 8 = .ok (.if_icmp .lt 6, 3) := by decide +kernel
theorem dX8_keep_11 : decode cX8_keep 11 = .ok (.bipush (-3), 2) := by decide +kernel
theorem dX8_keep_13 : decode cX8_keep 13 = .ok (.ireturn, 1) := by decide +kernel
theorem dX8_keep_14 : decode cX8_keep 14 = .ok (.aload_n 0, 1) := by decide +kernel
theorem dX8_keep_15 : decode cX8_keep 15 = .ok (.getfield 42, 3) := by decide +kernel
theorem dX8_keep_18 : decode cX8_keep 18 = .ok (.aload_n 0, 1) := by decide +kernel
theorem dX8_keep_19 : decode cX8_keep 19 = .ok (.getfield 29, 3) := by decide +kernel
theorem dX8_keep_22 : decode cX8_keep 22 = .ok (.invokevirtual 150, 3) := by decide +kernel
theorem dX8_keep_25 : decode cX8_keep 25 = .ok (.aload_n 0, 1) := by decide +kernel
theorem dX8_keep_26 : decode cX8_keep 26 = .ok (.getfield 42, 3) := by decide +kernel
theorem dX8_keep_29 : decode cX8_keep 29 = .ok (.getfield 196, 3) := by decide +kernel
theorem dX8_keep_32 : decode cX8_keep 32 = .ok (.ireturn, 1) := by decide +kernel
theorem dX8_back_0 : decode cX8_back 0 = .ok (.aload_n 0, 1) := by decide +kernel
theorem dX8_back_1 : decode cX8_back 1 = .ok (.getfield 42, 3) := by decide +kernel
theorem dX8_back_4 : decode cX8_back 4 = .ok (.aload_n 0, 1) := by decide +kernel
theorem dX8_back_5 : decode cX8_back 5 = .ok (.getfield 29, 3) := by decide +kernel
theorem dX8_back_8 : decode cX8_back 8 = .ok (.invokevirtual 192, 3) := by decide +kernel
theorem dX8_back_11 : decode cX8_back 11 = .ok (.ifCond .ne 6, 3) := by decide +kernel
theorem dX8_back_14 : decode cX8_back 14 = .ok (.bipush (-2), 2) := by decide +kernel
theorem dX8_back_16 : decode cX8_back 16 = .ok (.ireturn, 1) := by decide +kernel
theorem dX8_back_17 : decode cX8_back 17 = .ok (.aload_n 0, 1) := by decide +kernel
theorem dX8_back_18 : decode cX8_back 18 = .ok (.getfield 38, 3) := by decide +kernel
theorem dX8_back_21 : decode cX8_back 21 = .ok (.invokevirtual 106, 3) := by decide +kernel
theorem dX8_back_24 : decode cX8_back 24 = .ok (.aload_n 0, 1) := by decide +kernel
theorem dX8_back_25 : decode cX8_back 25 = .ok (.getfield 42, 3) := by decide +kernel
theorem dX8_back_28 : decode cX8_back 28 = .ok (.getfield 196, 3) := by decide +kernel
theorem dX8_back_31 : decode cX8_back 31 = .ok (.ireturn, 1) := by decide +kernel
theorem dX8_count_0 : decode cX8_count 0 = .ok (.iload_n 1, 1) := by decide +kernel
theorem dX8_count_1 : decode cX8_count 1 = .ok (.tableswitch 129 0 8 #[51, 59, 70, 78, 89, 97, 105, 113, 121], 51) := by decide +kernel
theorem dX8_count_52 : decode cX8_count 52 = .ok (.aload_n 0, 1) := by decide +kernel
theorem dX8_count_53 : decode cX8_count 53 = .ok (.getfield 23, 3) := by decide +kernel
theorem dX8_count_56 : decode cX8_count 56 = .ok (.getfield 103, 3) := by decide +kernel
theorem dX8_count_59 : decode cX8_count 59 = .ok (.ireturn, 1) := by decide +kernel
theorem dX8_count_60 : decode cX8_count 60 = .ok (.aload_n 0, 1) := by decide +kernel
theorem dX8_count_61 : decode cX8_count 61 = .ok (.getfield 29, 3) := by decide +kernel
theorem dX8_count_64 : decode cX8_count 64 = .ok (.getfield 130, 3) := by decide +kernel
theorem dX8_count_67 : decode cX8_count 67 = .ok (.getfield 185, 3) := by decide +kernel
theorem dX8_count_70 : decode cX8_count 70 = .ok (.ireturn, 1) := by decide +kernel
theorem dX8_count_71 : decode cX8_count 71 = .ok (.aload_n 0, 1) := by decide +kernel
theorem dX8_count_72 : decode cX8_count 72 = .ok (.getfield 29, 3) := by decide +kernel
theorem dX8_count_75 : decode cX8_count 75 = .ok (.getfield 148, 3) := by decide +kernel
theorem dX8_count_78 : decode cX8_count 78 = .ok (.ireturn, 1) := by decide +kernel
theorem dX8_count_79 : decode cX8_count 79 = .ok (.aload_n 0, 1) := by decide +kernel
theorem dX8_count_80 : decode cX8_count 80 = .ok (.getfield 29, 3) := by decide +kernel
theorem dX8_count_83 : decode cX8_count 83 = .ok (.getfield 176, 3) := by decide +kernel
theorem dX8_count_86 : decode cX8_count 86 = .ok (.invokestatic 212, 3) := by decide +kernel
theorem dX8_count_89 : decode cX8_count 89 = .ok (.ireturn, 1) := by decide +kernel
theorem dX8_count_90 : decode cX8_count 90 = .ok (.aload_n 0, 1) := by decide +kernel
theorem dX8_count_91 : decode cX8_count 91 = .ok (.getfield 48, 3) := by decide +kernel
theorem dX8_count_94 : decode cX8_count 94 = .ok (.getfield 250, 3) := by decide +kernel
theorem dX8_count_97 : decode cX8_count 97 = .ok (.ireturn, 1) := by decide +kernel
theorem dX8_count_98 : decode cX8_count 98 = .ok (.aload_n 0, 1) := by decide +kernel
theorem dX8_count_99 : decode cX8_count 99 = .ok (.getfield 38, 3) := by decide +kernel
theorem dX8_count_102 : decode cX8_count 102 = .ok (.getfield 196, 3) := by decide +kernel
theorem dX8_count_105 : decode cX8_count 105 = .ok (.ireturn, 1) := by decide +kernel
theorem dX8_count_106 : decode cX8_count 106 = .ok (.aload_n 0, 1) := by decide +kernel
theorem dX8_count_107 : decode cX8_count 107 = .ok (.getfield 42, 3) := by decide +kernel
theorem dX8_count_110 : decode cX8_count 110 = .ok (.getfield 196, 3) := by decide +kernel
theorem dX8_count_113 : decode cX8_count 113 = .ok (.ireturn, 1) := by decide +kernel
theorem dX8_count_114 : decode cX8_count 114 = .ok (.aload_n 0, 1) := by decide +kernel
theorem dX8_count_115 : decode cX8_count 115 = .ok (.getfield 10, 3) := by decide +kernel
theorem dX8_count_118 : decode cX8_count 118 = .ok (.getfield 100, 3) := by decide +kernel
theorem dX8_count_121 : decode cX8_count 121 = .ok (.ireturn, 1) := by decide +kernel
theorem dX8_count_122 : decode cX8_count 122 = .ok (.aload_n 0, 1) := by decide +kernel
theorem dX8_count_123 : decode cX8_count 123 = .ok (.getfield 23, 3) := by decide +kernel
theorem dX8_count_126 : decode cX8_count 126 = .ok (.getfield 284, 3) := by decide +kernel
theorem dX8_count_129 : decode cX8_count 129 = .ok (.ireturn, 1) := by decide +kernel
theorem dX8_count_130 : decode cX8_count 130 = .ok (.iconst (-1), 1) := by decide +kernel
theorem dX8_count_131 : decode cX8_count 131 = .ok (.ireturn, 1) := by decide +kernel
theorem dX8_isPerson_0 : decode cX8_isPerson 0 = .ok (.iload_n 1, 1) := by decide +kernel
theorem dX8_isPerson_1 : decode cX8_isPerson 1 = .ok (.ifCond .lt 24, 3) := by decide +kernel
theorem dX8_isPerson_4 : decode cX8_isPerson 4 = .ok (.iload_n 1, 1) := by decide +kernel
theorem dX8_isPerson_5 : decode cX8_isPerson 5 = .ok (.aload_n 0, 1) := by decide +kernel
theorem dX8_isPerson_6 : decode cX8_isPerson 6 = .ok (.getfield 23, 3) := by decide +kernel
theorem dX8_isPerson_9 : decode cX8_isPerson 9 = .ok (.getfield 103, 3) := by decide +kernel
theorem dX8_isPerson_12 : decode cX8_isPerson 12 = .ok (.if_icmp .ge 13, 3) := by decide +kernel
theorem dX8_isPerson_15 : decode cX8_isPerson 15 = .ok (.iload_n 1, 1) := by decide +kernel
theorem dX8_isPerson_16 : decode cX8_isPerson 16 = .ok (.bipush 6, 2) := by decide +kernel
theorem dX8_isPerson_18 : decode cX8_isPerson 18 = .ok (.if_icmp .ge 7, 3) := by decide +kernel
theorem dX8_isPerson_21 : decode cX8_isPerson 21 = .ok (.iconst 1, 1) := by decide +kernel
theorem dX8_isPerson_22 : decode cX8_isPerson 22 = .ok (.goto 4, 3) := by decide +kernel
theorem dX8_isPerson_25 : decode cX8_isPerson 25 = .ok (.iconst 0, 1) := by decide +kernel
theorem dX8_isPerson_26 : decode cX8_isPerson 26 = .ok (.ireturn, 1) := by decide +kernel
theorem dX8_isThing_0 : decode cX8_isThing 0 = .ok (.iload_n 1, 1) := by decide +kernel
theorem dX8_isThing_1 : decode cX8_isThing 1 = .ok (.ifCond .lt 27, 3) := by decide +kernel
theorem dX8_isThing_4 : decode cX8_isThing 4 = .ok (.iload_n 1, 1) := by decide +kernel
theorem dX8_isThing_5 : decode cX8_isThing 5 = .ok (.aload_n 0, 1) := by decide +kernel
theorem dX8_isThing_6 : decode cX8_isThing 6 = .ok (.getfield 29, 3) := by decide +kernel
theorem dX8_isThing_9 : decode cX8_isThing 9 = .ok (.getfield 130, 3) := by decide +kernel
theorem dX8_isThing_12 : decode cX8_isThing 12 = .ok (.getfield 185, 3) := by decide +kernel
theorem dX8_isThing_15 : decode cX8_isThing 15 = .ok (.if_icmp .ge 13, 3) := by decide +kernel
theorem dX8_isThing_18 : decode cX8_isThing 18 = .ok (.iload_n 1, 1) := by decide +kernel
theorem dX8_isThing_19 : decode cX8_isThing 19 = .ok (.bipush 9, 2) := by decide +kernel
theorem dX8_isThing_21 : decode cX8_isThing 21 = .ok (.if_icmp .ge 7, 3) := by decide +kernel
theorem dX8_isThing_24 : decode cX8_isThing 24 = .ok (.iconst 1, 1) := by decide +kernel
theorem dX8_isThing_25 : decode cX8_isThing 25 = .ok (.goto 4, 3) := by decide +kernel
theorem dX8_isThing_28 : decode cX8_isThing 28 = .ok (.iconst 0, 1) := by decide +kernel
theorem dX8_isThing_29 : decode cX8_isThing 29 = .ok (.ireturn, 1) := by decide +kernel
theorem dX8_isTopics_0 : decode cX8_isTopics 0 = .ok (.iload_n 0, 1) := by decide +kernel
theorem dX8_isTopics_1 : decode cX8_isTopics 1 = .ok (.iconst 1, 1) := by decide +kernel
theorem dX8_isTopics_2 : decode cX8_isTopics 2 = .ok (.if_icmp .lt 13, 3) := by decide +kernel
theorem dX8_isTopics_5 : decode cX8_isTopics 5 = .ok (.iload_n 0, 1) := by decide +kernel
theorem dX8_isTopics_6 : decode cX8_isTopics 6 = .ok (.bipush 31, 2) := by decide +kernel
theorem dX8_isTopics_8 : decode cX8_isTopics 8 = .ok (.if_icmp .gt 7, 3) := by decide +kernel
theorem dX8_isTopics_11 : decode cX8_isTopics 11 = .ok (.iconst 1, 1) := by decide +kernel
theorem dX8_isTopics_12 : decode cX8_isTopics 12 = .ok (.goto 4, 3) := by decide +kernel
theorem dX8_isTopics_15 : decode cX8_isTopics 15 = .ok (.iconst 0, 1) := by decide +kernel
theorem dX8_isTopics_16 : decode cX8_isTopics 16 = .ok (.ireturn, 1) := by decide +kernel
theorem dX8_isStrength_0 : decode cX8_isStrength 0 = .ok (.iload_n 0, 1) := by decide +kernel
theorem dX8_isStrength_1 : decode cX8_isStrength 1 = .ok (.iconst 1, 1) := by decide +kernel
theorem dX8_isStrength_2 : decode cX8_isStrength 2 = .ok (.if_icmp .lt 13, 3) := by decide +kernel
theorem dX8_isStrength_5 : decode cX8_isStrength 5 = .ok (.iload_n 0, 1) := by decide +kernel
theorem dX8_isStrength_6 : decode cX8_isStrength 6 = .ok (.bipush 9, 2) := by decide +kernel
theorem dX8_isStrength_8 : decode cX8_isStrength 8 = .ok (.if_icmp .gt 7, 3) := by decide +kernel
theorem dX8_isStrength_11 : decode cX8_isStrength 11 = .ok (.iconst 1, 1) := by decide +kernel
theorem dX8_isStrength_12 : decode cX8_isStrength 12 = .ok (.goto 4, 3) := by decide +kernel
theorem dX8_isStrength_15 : decode cX8_isStrength 15 = .ok (.iconst 0, 1) := by decide +kernel
theorem dX8_isStrength_16 : decode cX8_isStrength 16 = .ok (.ireturn, 1) := by decide +kernel
theorem dX8_isDayFromNow_0 : decode cX8_isDayFromNow 0 = .ok (.iload_n 0, 1) := by decide +kernel
theorem dX8_isDayFromNow_1 : decode cX8_isDayFromNow 1 = .ok (.ifCond .lt 13, 3) := by decide +kernel
theorem dX8_isDayFromNow_4 : decode cX8_isDayFromNow 4 = .ok (.iload_n 0, 1) := by decide +kernel
theorem dX8_isDayFromNow_5 : decode cX8_isDayFromNow 5 = .ok (.bipush 40, 2) := by decide +kernel
theorem dX8_isDayFromNow_7 : decode cX8_isDayFromNow 7 = .ok (.if_icmp .gt 7, 3) := by decide +kernel
theorem dX8_isDayFromNow_10 : decode cX8_isDayFromNow 10 = .ok (.iconst 1, 1) := by decide +kernel
theorem dX8_isDayFromNow_11 : decode cX8_isDayFromNow 11 = .ok (.goto 4, 3) := by decide +kernel
theorem dX8_isDayFromNow_14 : decode cX8_isDayFromNow 14 = .ok (.iconst 0, 1) := by decide +kernel
theorem dX8_isDayFromNow_15 : decode cX8_isDayFromNow 15 = .ok (.ireturn, 1) := by decide +kernel
theorem dX8_isHalf_0 : decode cX8_isHalf 0 = .ok (.iload_n 0, 1) := by decide +kernel
theorem dX8_isHalf_1 : decode cX8_isHalf 1 = .ok (.ifCond .eq 8, 3) := by decide +kernel
theorem dX8_isHalf_4 : decode cX8_isHalf 4 = .ok (.iload_n 0, 1) := by decide +kernel
theorem dX8_isHalf_5 : decode cX8_isHalf 5 = .ok (.iconst 1, 1) := by decide +kernel
theorem dX8_isHalf_6 : decode cX8_isHalf 6 = .ok (.if_icmp .ne 7, 3) := by decide +kernel
theorem dX8_isHalf_9 : decode cX8_isHalf 9 = .ok (.iconst 1, 1) := by decide +kernel
theorem dX8_isHalf_10 : decode cX8_isHalf 10 = .ok (.goto 4, 3) := by decide +kernel
theorem dX8_isHalf_13 : decode cX8_isHalf 13 = .ok (.iconst 0, 1) := by decide +kernel
theorem dX8_isHalf_14 : decode cX8_isHalf 14 = .ok (.ireturn, 1) := by decide +kernel
theorem dX8_lookAhead_0 : decode cX8_lookAhead 0 = .ok (.aload_n 0, 1) := by decide +kernel
theorem dX8_lookAhead_1 : decode cX8_lookAhead 1 = .ok (.getfield 57, 3) := by decide +kernel
theorem dX8_lookAhead_4 : decode cX8_lookAhead 4 = .ok (.aload_n 0, 1) := by decide +kernel
theorem dX8_lookAhead_5 : decode cX8_lookAhead 5 = .ok (.getfield 29, 3) := by decide +kernel
theorem dX8_lookAhead_8 : decode cX8_lookAhead 8 = .ok (.getfield 130, 3) := by decide +kernel
theorem dX8_lookAhead_11 : decode cX8_lookAhead 11 = .ok (.aload_n 0, 1) := by decide +kernel
theorem dX8_lookAhead_12 : decode cX8_lookAhead 12 = .ok (.getfield 29, 3) := by decide +kernel
theorem dX8_lookAhead_15 : decode cX8_lookAhead 15 = .ok (.getfield 176, 3) := by decide +kernel
theorem dX8_lookAhead_18 : decode cX8_lookAhead 18 = .ok (.aload_n 0, 1) := by decide +kernel
theorem dX8_lookAhead_19 : decode cX8_lookAhead 19 = .ok (.getfield 29, 3) := by decide +kernel
theorem dX8_lookAhead_22 : decode cX8_lookAhead 22 = .ok (.getfield 148, 3) := by decide +kernel
theorem dX8_lookAhead_25 : decode cX8_lookAhead 25 = .ok (.iload_n 1, 1) := by decide +kernel
theorem dX8_lookAhead_26 : decode cX8_lookAhead 26 = .ok (.invokevirtual 244, 3) := by decide +kernel
theorem dX8_lookAhead_29 : decode cX8_lookAhead 29 = .ok (.return_, 1) := by decide +kernel
theorem dX8_placeOf_0 : decode cX8_placeOf 0 = .ok (.iload_n 1, 1) := by decide +kernel
theorem dX8_placeOf_1 : decode cX8_placeOf 1 = .ok (.aload_n 0, 1) := by decide +kernel
theorem dX8_placeOf_2 : decode cX8_placeOf 2 = .ok (.getfield 29, 3) := by decide +kernel
theorem dX8_placeOf_5 : decode cX8_placeOf 5 = .ok (.getfield 169, 3) := by decide +kernel
theorem dX8_placeOf_8 : decode cX8_placeOf 8 = .ok (.isub, 1) := by decide +kernel
theorem dX8_placeOf_9 : decode cX8_placeOf 9 = .ok (.istore_n 2, 1) := by decide +kernel
theorem dX8_placeOf_10 : decode cX8_placeOf 10 = .ok (.iload_n 2, 1) := by decide +kernel
theorem dX8_placeOf_11 : decode cX8_placeOf 11 = .ok (.ifCond .ge 15, 3) := by decide +kernel
theorem dX8_placeOf_14 : decode cX8_placeOf 14 = .ok (.iload_n 2, 1) := by decide +kernel
theorem dX8_placeOf_15 : decode cX8_placeOf 15 = .ok (.aload_n 0, 1) := by decide +kernel
theorem dX8_placeOf_16 : decode cX8_placeOf 16 = .ok (.getfield 23, 3) := by decide +kernel
theorem dX8_placeOf_19 : decode cX8_placeOf 19 = .ok (.getfield 103, 3) := by decide +kernel
theorem dX8_placeOf_22 : decode cX8_placeOf 22 = .ok (.iadd, 1) := by decide +kernel
theorem dX8_placeOf_23 : decode cX8_placeOf 23 = .ok (.goto 4, 3) := by decide +kernel
theorem dX8_placeOf_26 : decode cX8_placeOf 26 = .ok (.iload_n 2, 1) := by decide +kernel
theorem dX8_placeOf_27 : decode cX8_placeOf 27 = .ok (.ireturn, 1) := by decide +kernel
theorem dX8_firstBell_0 : decode cX8_firstBell 0 = .ok (.aload_n 0, 1) := by decide +kernel
theorem dX8_firstBell_1 : decode cX8_firstBell 1 = .ok (.getfield 66, 3) := by decide +kernel
theorem dX8_firstBell_4 : decode cX8_firstBell 4 = .ok (.aload_n 0, 1) := by decide +kernel
theorem dX8_firstBell_5 : decode cX8_firstBell 5 = .ok (.getfield 29, 3) := by decide +kernel
theorem dX8_firstBell_8 : decode cX8_firstBell 8 = .ok (.invokevirtual 157, 3) := by decide +kernel
theorem dX8_firstBell_11 : decode cX8_firstBell 11 = .ok (.iconst 0, 1) := by decide +kernel
theorem dX8_firstBell_12 : decode cX8_firstBell 12 = .ok (.istore_n 1, 1) := by decide +kernel
theorem dX8_firstBell_13 : decode cX8_firstBell 13 = .ok (.iload_n 1, 1) := by decide +kernel
theorem dX8_firstBell_14 : decode cX8_firstBell 14 = .ok (.bipush 40, 2) := by decide +kernel
theorem dX8_firstBell_16 : decode cX8_firstBell 16 = .ok (.if_icmp .gt 22, 3) := by decide +kernel
theorem dX8_firstBell_19 : decode cX8_firstBell 19 = .ok (.aload_n 0, 1) := by decide +kernel
theorem dX8_firstBell_20 : decode cX8_firstBell 20 = .ok (.getfield 66, 3) := by decide +kernel
theorem dX8_firstBell_23 : decode cX8_firstBell 23 = .ok (.iload_n 1, 1) := by decide +kernel
theorem dX8_firstBell_24 : decode cX8_firstBell 24 = .ok (.invokevirtual 203, 3) := by decide +kernel
theorem dX8_firstBell_27 : decode cX8_firstBell 27 = .ok (.ifCond .eq 5, 3) := by decide +kernel
theorem dX8_firstBell_30 : decode cX8_firstBell 30 = .ok (.iload_n 1, 1) := by decide +kernel
theorem dX8_firstBell_31 : decode cX8_firstBell 31 = .ok (.ireturn, 1) := by decide +kernel
theorem dX8_firstBell_32 : decode cX8_firstBell 32 = .ok (.iinc 1 1, 3) := by decide +kernel
theorem dX8_firstBell_35 : decode cX8_firstBell 35 = .ok (.goto (-22), 3) := by decide +kernel
theorem dX8_firstBell_38 : decode cX8_firstBell 38 = .ok (.bipush 41, 2) := by decide +kernel
theorem dX8_firstBell_40 : decode cX8_firstBell 40 = .ok (.ireturn, 1) := by decide +kernel
theorem dX8_firstReignOf_0 : decode cX8_firstReignOf 0 = .ok (.aload_n 0, 1) := by decide +kernel
theorem dX8_firstReignOf_1 : decode cX8_firstReignOf 1 = .ok (.getfield 66, 3) := by decide +kernel
theorem dX8_firstReignOf_4 : decode cX8_firstReignOf 4 = .ok (.aload_n 0, 1) := by decide +kernel
theorem dX8_firstReignOf_5 : decode cX8_firstReignOf 5 = .ok (.getfield 29, 3) := by decide +kernel
theorem dX8_firstReignOf_8 : decode cX8_firstReignOf 8 = .ok (.invokevirtual 157, 3) := by decide +kernel
theorem dX8_firstReignOf_11 : decode cX8_firstReignOf 11 = .ok (.iconst 0, 1) := by decide +kernel
theorem dX8_firstReignOf_12 : decode cX8_firstReignOf 12 = .ok (.istore_n 2, 1) := by decide +kernel
theorem dX8_firstReignOf_13 : decode cX8_firstReignOf 13 = .ok (.iload_n 2, 1) := by decide +kernel
theorem dX8_firstReignOf_14 : decode cX8_firstReignOf 14 = .ok (.bipush 40, 2) := by decide +kernel
theorem dX8_firstReignOf_16 : decode cX8_firstReignOf 16 = .ok (.if_icmp .gt 31, 3) := by decide +kernel
theorem dX8_firstReignOf_19 : decode cX8_firstReignOf 19 = .ok (.aload_n 0, 1) := by decide +kernel
theorem dX8_firstReignOf_20 : decode cX8_firstReignOf 20 = .ok (.getfield 66, 3) := by decide +kernel
theorem dX8_firstReignOf_23 : decode cX8_firstReignOf 23 = .ok (.invokevirtual 160, 3) := by decide +kernel
theorem dX8_firstReignOf_26 : decode cX8_firstReignOf 26 = .ok (.iload_n 1, 1) := by decide +kernel
theorem dX8_firstReignOf_27 : decode cX8_firstReignOf 27 = .ok (.if_icmp .ne 5, 3) := by decide +kernel
theorem dX8_firstReignOf_30 : decode cX8_firstReignOf 30 = .ok (.iload_n 2, 1) := by decide +kernel
theorem dX8_firstReignOf_31 : decode cX8_firstReignOf 31 = .ok (.ireturn, 1) := by decide +kernel
theorem dX8_firstReignOf_32 : decode cX8_firstReignOf 32 = .ok (.aload_n 0, 1) := by decide +kernel
theorem dX8_firstReignOf_33 : decode cX8_firstReignOf 33 = .ok (.getfield 66, 3) := by decide +kernel
theorem dX8_firstReignOf_36 : decode cX8_firstReignOf 36 = .ok (.iload_n 2, 1) := by decide +kernel
theorem dX8_firstReignOf_37 : decode cX8_firstReignOf 37 = .ok (.invokevirtual 166, 3) := by decide +kernel
theorem dX8_firstReignOf_40 : decode cX8_firstReignOf 40 = .ok (.pop, 1) := by decide +kernel
theorem dX8_firstReignOf_41 : decode cX8_firstReignOf 41 = .ok (.iinc 2 1, 3) := by decide +kernel
theorem dX8_firstReignOf_44 : decode cX8_firstReignOf 44 = .ok (.goto (-31), 3) := by decide +kernel
theorem dX8_firstReignOf_47 : decode cX8_firstReignOf 47 = .ok (.bipush 41, 2) := by decide +kernel
theorem dX8_firstReignOf_49 : decode cX8_firstReignOf 49 = .ok (.ireturn, 1) := by decide +kernel
theorem dX8_staysWithout_0 : decode cX8_staysWithout 0 = .ok (.aload_n 0, 1) := by decide +kernel
theorem dX8_staysWithout_1 : decode cX8_staysWithout 1 = .ok (.getfield 29, 3) := by decide +kernel
theorem dX8_staysWithout_4 : decode cX8_staysWithout 4 = .ok (.getfield 169, 3) := by decide +kernel
theorem dX8_staysWithout_7 : decode cX8_staysWithout 7 = .ok (.istore_n 3, 1) := by decide +kernel
theorem dX8_staysWithout_8 : decode cX8_staysWithout 8 = .ok (.aload_n 0, 1) := by decide +kernel
theorem dX8_staysWithout_9 : decode cX8_staysWithout 9 = .ok (.getfield 29, 3) := by decide +kernel
theorem dX8_staysWithout_12 : decode cX8_staysWithout 12 = .ok (.getfield 175, 3) := by decide +kernel
theorem dX8_staysWithout_15 : decode cX8_staysWithout 15 = .ok (.istore 4, 2) := by decide +kernel
theorem dX8_staysWithout_17 : decode cX8_staysWithout 17 = .ok (.iconst 0, 1) := by decide +kernel
theorem dX8_staysWithout_18 : decode cX8_staysWithout 18 = .ok (.istore 5, 2) := by decide +kernel
theorem dX8_staysWithout_20 : decode cX8_staysWithout 20 = .ok (.iload 5, 2) := by decide +kernel
theorem dX8_staysWithout_22 : decode cX8_staysWithout 22 = .ok (.iload_n 2, 1) := by decide +kernel
theorem dX8_staysWithout_23 : decode cX8_staysWithout 23 = .ok (.if_icmp .ge 47, 3) := by decide +kernel
theorem dX8_staysWithout_26 : decode cX8_staysWithout 26 = .ok (.aload_n 0, 1) := by decide +kernel
theorem dX8_staysWithout_27 : decode cX8_staysWithout 27 = .ok (.getfield 23, 3) := by decide +kernel
theorem dX8_staysWithout_30 : decode cX8_staysWithout 30 = .ok (.iload 4, 2) := by decide +kernel
theorem dX8_staysWithout_32 : decode cX8_staysWithout 32 = .ok (.invokevirtual 287, 3) := by decide +kernel
theorem dX8_staysWithout_35 : decode cX8_staysWithout 35 = .ok (.aload_n 0, 1) := by decide +kernel
theorem dX8_staysWithout_36 : decode cX8_staysWithout 36 = .ok (.getfield 57, 3) := by decide +kernel
theorem dX8_staysWithout_39 : decode cX8_staysWithout 39 = .ok (.iload 5, 2) := by decide +kernel
theorem dX8_staysWithout_41 : decode cX8_staysWithout 41 = .ok (.iload_n 3, 1) := by decide +kernel
theorem dX8_staysWithout_42 : decode cX8_staysWithout 42 = .ok (.iload_n 1, 1) := by decide +kernel
theorem dX8_staysWithout_43 : decode cX8_staysWithout 43 = .ok (.invokevirtual 290, 3) := by decide +kernel
theorem dX8_staysWithout_46 : decode cX8_staysWithout 46 = .ok (.iadd, 1) := by decide +kernel
theorem dX8_staysWithout_47 : decode cX8_staysWithout 47 = .ok (.istore 4, 2) := by decide +kernel
theorem dX8_staysWithout_49 : decode cX8_staysWithout 49 = .ok (.iload 4, 2) := by decide +kernel
theorem dX8_staysWithout_51 : decode cX8_staysWithout 51 = .ok (.aload_n 0, 1) := by decide +kernel
theorem dX8_staysWithout_52 : decode cX8_staysWithout 52 = .ok (.getfield 23, 3) := by decide +kernel
theorem dX8_staysWithout_55 : decode cX8_staysWithout 55 = .ok (.iload_n 3, 1) := by decide +kernel
theorem dX8_staysWithout_56 : decode cX8_staysWithout 56 = .ok (.invokevirtual 278, 3) := by decide +kernel
theorem dX8_staysWithout_59 : decode cX8_staysWithout 59 = .ok (.if_icmp .lt 5, 3) := by decide +kernel
theorem dX8_staysWithout_62 : decode cX8_staysWithout 62 = .ok (.iconst 0, 1) := by decide +kernel
theorem dX8_staysWithout_63 : decode cX8_staysWithout 63 = .ok (.ireturn, 1) := by decide +kernel
theorem dX8_staysWithout_64 : decode cX8_staysWithout 64 = .ok (.iinc 5 1, 3) := by decide +kernel
theorem dX8_staysWithout_67 : decode cX8_staysWithout 67 = .ok (.goto (-47), 3) := by decide +kernel
theorem dX8_staysWithout_70 : decode cX8_staysWithout 70 = .ok (.iconst 1, 1) := by decide +kernel
theorem dX8_staysWithout_71 : decode cX8_staysWithout 71 = .ok (.ireturn, 1) := by decide +kernel
theorem dX8_staysWith_0 : decode cX8_staysWith 0 = .ok (.aload_n 0, 1) := by decide +kernel
theorem dX8_staysWith_1 : decode cX8_staysWith 1 = .ok (.getfield 29, 3) := by decide +kernel
theorem dX8_staysWith_4 : decode cX8_staysWith 4 = .ok (.getfield 169, 3) := by decide +kernel
theorem dX8_staysWith_7 : decode cX8_staysWith 7 = .ok (.istore 5, 2) := by decide +kernel
theorem dX8_staysWith_9 : decode cX8_staysWith 9 = .ok (.aload_n 0, 1) := by decide +kernel
theorem dX8_staysWith_10 : decode cX8_staysWith 10 = .ok (.getfield 29, 3) := by decide +kernel
theorem dX8_staysWith_13 : decode cX8_staysWith 13 = .ok (.getfield 175, 3) := by decide +kernel
theorem dX8_staysWith_16 : decode cX8_staysWith 16 = .ok (.istore 6, 2) := by decide +kernel
theorem dX8_staysWith_18 : decode cX8_staysWith 18 = .ok (.iconst 0, 1) := by decide +kernel
theorem dX8_staysWith_19 : decode cX8_staysWith 19 = .ok (.istore 7, 2) := by decide +kernel
theorem dX8_staysWith_21 : decode cX8_staysWith 21 = .ok (.iload 7, 2) := by decide +kernel
theorem dX8_staysWith_23 : decode cX8_staysWith 23 = .ok (.iload 4, 2) := by decide +kernel
theorem dX8_staysWith_25 : decode cX8_staysWith 25 = .ok (.if_icmp .ge 76, 3) := by decide +kernel
theorem dX8_staysWith_28 : decode cX8_staysWith 28 = .ok (.aload_n 0, 1) := by decide +kernel
theorem dX8_staysWith_29 : decode cX8_staysWith 29 = .ok (.getfield 23, 3) := by decide +kernel
theorem dX8_staysWith_32 : decode cX8_staysWith 32 = .ok (.iload 6, 2) := by decide +kernel
theorem dX8_staysWith_34 : decode cX8_staysWith 34 = .ok (.invokevirtual 287, 3) := by decide +kernel
theorem dX8_staysWith_37 : decode cX8_staysWith 37 = .ok (.aload_n 0, 1) := by decide +kernel
theorem dX8_staysWith_38 : decode cX8_staysWith 38 = .ok (.getfield 57, 3) := by decide +kernel
theorem dX8_staysWith_41 : decode cX8_staysWith 41 = .ok (.iload 7, 2) := by decide +kernel
theorem dX8_staysWith_43 : decode cX8_staysWith 43 = .ok (.iload 5, 2) := by decide +kernel
theorem dX8_staysWith_45 : decode cX8_staysWith 45 = .ok (.invokevirtual 275, 3) := by decide +kernel
theorem dX8_staysWith_48 : decode cX8_staysWith 48 = .ok (.iadd, 1) := by decide +kernel
theorem dX8_staysWith_49 : decode cX8_staysWith 49 = .ok (.istore 6, 2) := by decide +kernel
theorem dX8_staysWith_51 : decode cX8_staysWith 51 = .ok (.iload_n 3, 1) := by decide +kernel
theorem dX8_staysWith_52 : decode cX8_staysWith 52 = .ok (.iload 7, 2) := by decide +kernel
theorem dX8_staysWith_54 : decode cX8_staysWith 54 = .ok (.ishr, 1) := by decide +kernel
theorem dX8_staysWith_55 : decode cX8_staysWith 55 = .ok (.iconst 1, 1) := by decide +kernel
theorem dX8_staysWith_56 : decode cX8_staysWith 56 = .ok (.iand, 1) := by decide +kernel
theorem dX8_staysWith_57 : decode cX8_staysWith 57 = .ok (.iconst 1, 1) := by decide +kernel
theorem dX8_staysWith_58 : decode cX8_staysWith 58 = .ok (.if_icmp .ne 21, 3) := by decide +kernel
theorem dX8_staysWith_61 : decode cX8_staysWith 61 = .ok (.iload 6, 2) := by decide +kernel
theorem dX8_staysWith_63 : decode cX8_staysWith 63 = .ok (.aload_n 0, 1) := by decide +kernel
theorem dX8_staysWith_64 : decode cX8_staysWith 64 = .ok (.getfield 57, 3) := by decide +kernel
theorem dX8_staysWith_67 : decode cX8_staysWith 67 = .ok (.iload 7, 2) := by decide +kernel
theorem dX8_staysWith_69 : decode cX8_staysWith 69 = .ok (.iload 5, 2) := by decide +kernel
theorem dX8_staysWith_71 : decode cX8_staysWith 71 = .ok (.iload_n 1, 1) := by decide +kernel
theorem dX8_staysWith_72 : decode cX8_staysWith 72 = .ok (.iload_n 2, 1) := by decide +kernel
theorem dX8_staysWith_73 : decode cX8_staysWith 73 = .ok (.invokevirtual 294, 3) := by decide +kernel
theorem dX8_staysWith_76 : decode cX8_staysWith 76 = .ok (.iadd, 1) := by decide +kernel
theorem dX8_staysWith_77 : decode cX8_staysWith 77 = .ok (.istore 6, 2) := by decide +kernel
theorem dX8_staysWith_79 : decode cX8_staysWith 79 = .ok (.iload 6, 2) := by decide +kernel
theorem dX8_staysWith_81 : decode cX8_staysWith 81 = .ok (.aload_n 0, 1) := by decide +kernel
theorem dX8_staysWith_82 : decode cX8_staysWith 82 = .ok (.getfield 23, 3) := by decide +kernel
theorem dX8_staysWith_85 : decode cX8_staysWith 85 = .ok (.iload 5, 2) := by decide +kernel
theorem dX8_staysWith_87 : decode cX8_staysWith 87 = .ok (.invokevirtual 278, 3) := by decide +kernel
theorem dX8_staysWith_90 : decode cX8_staysWith 90 = .ok (.if_icmp .lt 5, 3) := by decide +kernel
theorem dX8_staysWith_93 : decode cX8_staysWith 93 = .ok (.iconst 0, 1) := by decide +kernel
theorem dX8_staysWith_94 : decode cX8_staysWith 94 = .ok (.ireturn, 1) := by decide +kernel
theorem dX8_staysWith_95 : decode cX8_staysWith 95 = .ok (.iinc 7 1, 3) := by decide +kernel
theorem dX8_staysWith_98 : decode cX8_staysWith 98 = .ok (.goto (-77), 3) := by decide +kernel
theorem dX8_staysWith_101 : decode cX8_staysWith 101 = .ok (.iconst 1, 1) := by decide +kernel
theorem dX8_staysWith_102 : decode cX8_staysWith 102 = .ok (.ireturn, 1) := by decide +kernel
theorem dX8_bellsInOrder_0 : decode cX8_bellsInOrder 0 = .ok (.aload_n 0, 1) := by decide +kernel
theorem dX8_bellsInOrder_1 : decode cX8_bellsInOrder 1 = .ok (.getfield 66, 3) := by decide +kernel
theorem dX8_bellsInOrder_4 : decode cX8_bellsInOrder 4 = .ok (.aload_n 0, 1) := by decide +kernel
theorem dX8_bellsInOrder_5 : decode cX8_bellsInOrder 5 = .ok (.getfield 29, 3) := by decide +kernel
theorem dX8_bellsInOrder_8 : decode cX8_bellsInOrder 8 = .ok (.invokevirtual 298, 3) := by decide +kernel
theorem dX8_bellsInOrder_11 : decode cX8_bellsInOrder 11 = .ok (.iconst 0, 1) := by decide +kernel
theorem dX8_bellsInOrder_12 : decode cX8_bellsInOrder 12 = .ok (.istore_n 3, 1) := by decide +kernel
theorem dX8_bellsInOrder_13 : decode cX8_bellsInOrder 13 = .ok (.iconst 0, 1) := by decide +kernel
theorem dX8_bellsInOrder_14 : decode cX8_bellsInOrder 14 = .ok (.istore 4, 2) := by decide +kernel
theorem dX8_bellsInOrder_16 : decode cX8_bellsInOrder 16 = .ok (.iload 4, 2) := by decide +kernel
theorem dX8_bellsInOrder_18 : decode cX8_bellsInOrder 18 = .ok (.iload_n 1, 1) := by decide +kernel
theorem dX8_bellsInOrder_19 : decode cX8_bellsInOrder 19 = .ok (.if_icmp .ge 29, 3) := by decide +kernel
theorem dX8_bellsInOrder_22 : decode cX8_bellsInOrder 22 = .ok (.iload_n 3, 1) := by decide +kernel
theorem dX8_bellsInOrder_23 : decode cX8_bellsInOrder 23 = .ok (.iload_n 2, 1) := by decide +kernel
theorem dX8_bellsInOrder_24 : decode cX8_bellsInOrder 24 = .ok (.if_icmp .ge 24, 3) := by decide +kernel
theorem dX8_bellsInOrder_27 : decode cX8_bellsInOrder 27 = .ok (.aload_n 0, 1) := by decide +kernel
theorem dX8_bellsInOrder_28 : decode cX8_bellsInOrder 28 = .ok (.getfield 66, 3) := by decide +kernel
theorem dX8_bellsInOrder_31 : decode cX8_bellsInOrder 31 = .ok (.iload 4, 2) := by decide +kernel
theorem dX8_bellsInOrder_33 : decode cX8_bellsInOrder 33 = .ok (.invokevirtual 166, 3) := by decide +kernel
theorem dX8_bellsInOrder_36 : decode cX8_bellsInOrder 36 = .ok (.ifCond .eq 6, 3) := by decide +kernel
theorem dX8_bellsInOrder_39 : decode cX8_bellsInOrder 39 = .ok (.iinc 3 1, 3) := by decide +kernel
theorem dX8_bellsInOrder_42 : decode cX8_bellsInOrder 42 = .ok (.iinc 4 1, 3) := by decide +kernel
theorem dX8_bellsInOrder_45 : decode cX8_bellsInOrder 45 = .ok (.goto (-29), 3) := by decide +kernel
theorem dX8_bellsInOrder_48 : decode cX8_bellsInOrder 48 = .ok (.iload_n 3, 1) := by decide +kernel
theorem dX8_bellsInOrder_49 : decode cX8_bellsInOrder 49 = .ok (.ireturn, 1) := by decide +kernel
theorem dX8_wasSo_0 : decode cX8_wasSo 0 = .ok (.aload_n 0, 1) := by decide +kernel
theorem dX8_wasSo_1 : decode cX8_wasSo 1 = .ok (.getfield 66, 3) := by decide +kernel
theorem dX8_wasSo_4 : decode cX8_wasSo 4 = .ok (.invokevirtual 301, 3) := by decide +kernel
theorem dX8_wasSo_7 : decode cX8_wasSo 7 = .ok (.aload_n 0, 1) := by decide +kernel
theorem dX8_wasSo_8 : decode cX8_wasSo 8 = .ok (.getfield 48, 3) := by decide +kernel
theorem dX8_wasSo_11 : decode cX8_wasSo 11 = .ok (.invokevirtual 304, 3) := by decide +kernel
theorem dX8_wasSo_14 : decode cX8_wasSo 14 = .ok (.istore_n 1, 1) := by decide +kernel
theorem dX8_wasSo_15 : decode cX8_wasSo 15 = .ok (.iconst 0, 1) := by decide +kernel
theorem dX8_wasSo_16 : decode cX8_wasSo 16 = .ok (.istore_n 2, 1) := by decide +kernel
theorem dX8_wasSo_17 : decode cX8_wasSo 17 = .ok (.iload_n 2, 1) := by decide +kernel
theorem dX8_wasSo_18 : decode cX8_wasSo 18 = .ok (.iload_n 1, 1) := by decide +kernel
theorem dX8_wasSo_19 : decode cX8_wasSo 19 = .ok (.if_icmp .gt 38, 3) := by decide +kernel
theorem dX8_wasSo_22 : decode cX8_wasSo 22 = .ok (.aload_n 0, 1) := by decide +kernel
theorem dX8_wasSo_23 : decode cX8_wasSo 23 = .ok (.getfield 48, 3) := by decide +kernel
theorem dX8_wasSo_26 : decode cX8_wasSo 26 = .ok (.iload_n 2, 1) := by decide +kernel
theorem dX8_wasSo_27 : decode cX8_wasSo 27 = .ok (.aload_n 0, 1) := by decide +kernel
theorem dX8_wasSo_28 : decode cX8_wasSo 28 = .ok (.getfield 66, 3) := by decide +kernel
theorem dX8_wasSo_31 : decode cX8_wasSo 31 = .ok (.invokevirtual 160, 3) := by decide +kernel
theorem dX8_wasSo_34 : decode cX8_wasSo 34 = .ok (.invokevirtual 307, 3) := by decide +kernel
theorem dX8_wasSo_37 : decode cX8_wasSo 37 = .ok (.ifCond .ne 5, 3) := by decide +kernel
theorem dX8_wasSo_40 : decode cX8_wasSo 40 = .ok (.iconst 0, 1) := by decide +kernel
theorem dX8_wasSo_41 : decode cX8_wasSo 41 = .ok (.ireturn, 1) := by decide +kernel
theorem dX8_wasSo_42 : decode cX8_wasSo 42 = .ok (.aload_n 0, 1) := by decide +kernel
theorem dX8_wasSo_43 : decode cX8_wasSo 43 = .ok (.getfield 66, 3) := by decide +kernel
theorem dX8_wasSo_46 : decode cX8_wasSo 46 = .ok (.iload_n 2, 1) := by decide +kernel
theorem dX8_wasSo_47 : decode cX8_wasSo 47 = .ok (.invokevirtual 166, 3) := by decide +kernel
theorem dX8_wasSo_50 : decode cX8_wasSo 50 = .ok (.pop, 1) := by decide +kernel
theorem dX8_wasSo_51 : decode cX8_wasSo 51 = .ok (.iinc 2 1, 3) := by decide +kernel
theorem dX8_wasSo_54 : decode cX8_wasSo 54 = .ok (.goto (-37), 3) := by decide +kernel
theorem dX8_wasSo_57 : decode cX8_wasSo 57 = .ok (.iconst 1, 1) := by decide +kernel
theorem dX8_wasSo_58 : decode cX8_wasSo 58 = .ok (.ireturn, 1) := by decide +kernel
theorem dX8_draw_0 : decode cX8_draw 0 = .ok (.ldc2_w 310, 3) := by decide +kernel
theorem dX8_draw_3 : decode cX8_draw 3 = .ok (.iload_n 0, 1) := by decide +kernel
theorem dX8_draw_4 : decode cX8_draw 4 = .ok (.i2l, 1) := by decide +kernel
theorem dX8_draw_5 : decode cX8_draw 5 = .ok (.lmul, 1) := by decide +kernel
theorem dX8_draw_6 : decode cX8_draw 6 = .ok (.ldc2_w 312, 3) := by decide +kernel
theorem dX8_draw_9 : decode cX8_draw 9 = .ok (.iload_n 1, 1) := by decide +kernel
theorem dX8_draw_10 : decode cX8_draw 10 = .ok (.i2l, 1) := by decide +kernel
theorem dX8_draw_11 : decode cX8_draw 11 = .ok (.lmul, 1) := by decide +kernel
theorem dX8_draw_12 : decode cX8_draw 12 = .ok (.ladd, 1) := by decide +kernel
theorem dX8_draw_13 : decode cX8_draw 13 = .ok (.lconst 1, 1) := by decide +kernel
theorem dX8_draw_14 : decode cX8_draw 14 = .ok (.ladd, 1) := by decide +kernel
theorem dX8_draw_15 : decode cX8_draw 15 = .ok (.lstore_n 2, 1) := by decide +kernel
theorem dX8_draw_16 : decode cX8_draw 16 = .ok (.lload_n 2, 1) := by decide +kernel
theorem dX8_draw_17 : decode cX8_draw 17 = .ok (.lload_n 2, 1) := by decide +kernel
theorem dX8_draw_18 : decode cX8_draw 18 = .ok (.lmul, 1) := by decide +kernel
theorem dX8_draw_19 : decode cX8_draw 19 = .ok (.ldc2_w 314, 3) := by decide +kernel
theorem dX8_draw_22 : decode cX8_draw 22 = .ok (.lrem, 1) := by decide +kernel
theorem dX8_draw_23 : decode cX8_draw 23 = .ok (.ldc2_w 316, 3) := by decide +kernel
theorem dX8_draw_26 : decode cX8_draw 26 = .ok (.ldiv, 1) := by decide +kernel
theorem dX8_draw_27 : decode cX8_draw 27 = .ok (.l2i, 1) := by decide +kernel
theorem dX8_draw_28 : decode cX8_draw 28 = .ok (.ireturn, 1) := by decide +kernel
theorem dX8_power_0 : decode cX8_power 0 = .ok (.iconst 1, 1) := by decide +kernel
theorem dX8_power_1 : decode cX8_power 1 = .ok (.istore_n 2, 1) := by decide +kernel
theorem dX8_power_2 : decode cX8_power 2 = .ok (.iconst 0, 1) := by decide +kernel
theorem dX8_power_3 : decode cX8_power 3 = .ok (.istore_n 3, 1) := by decide +kernel
theorem dX8_power_4 : decode cX8_power 4 = .ok (.iload_n 3, 1) := by decide +kernel
theorem dX8_power_5 : decode cX8_power 5 = .ok (.iload_n 1, 1) := by decide +kernel
theorem dX8_power_6 : decode cX8_power 6 = .ok (.if_icmp .ge 13, 3) := by decide +kernel
theorem dX8_power_9 : decode cX8_power 9 = .ok (.iload_n 2, 1) := by decide +kernel
theorem dX8_power_10 : decode cX8_power 10 = .ok (.iload_n 0, 1) := by decide +kernel
theorem dX8_power_11 : decode cX8_power 11 = .ok (.imul, 1) := by decide +kernel
theorem dX8_power_12 : decode cX8_power 12 = .ok (.istore_n 2, 1) := by decide +kernel
theorem dX8_power_13 : decode cX8_power 13 = .ok (.iinc 3 1, 3) := by decide +kernel
theorem dX8_power_16 : decode cX8_power 16 = .ok (.goto (-12), 3) := by decide +kernel
theorem dX8_power_19 : decode cX8_power 19 = .ok (.iload_n 2, 1) := by decide +kernel
theorem dX8_power_20 : decode cX8_power 20 = .ok (.ireturn, 1) := by decide +kernel
theorem dX8_greatestDivisor_0 : decode cX8_greatestDivisor 0 = .ok (.iconst 0, 1) := by decide +kernel
theorem dX8_greatestDivisor_1 : decode cX8_greatestDivisor 1 = .ok (.istore_n 2, 1) := by decide +kernel
theorem dX8_greatestDivisor_2 : decode cX8_greatestDivisor 2 = .ok (.iload_n 2, 1) := by decide +kernel
theorem dX8_greatestDivisor_3 : decode cX8_greatestDivisor 3 = .ok (.bipush 64, 2) := by decide +kernel
theorem dX8_greatestDivisor_5 : decode cX8_greatestDivisor 5 = .ok (.if_icmp .ge 21, 3) := by decide +kernel
theorem dX8_greatestDivisor_8 : decode cX8_greatestDivisor 8 = .ok (.iload_n 1, 1) := by decide +kernel
theorem dX8_greatestDivisor_9 : decode cX8_greatestDivisor 9 = .ok (.ifCond .eq 17, 3) := by decide +kernel
theorem dX8_greatestDivisor_12 : decode cX8_greatestDivisor 12 = .ok (.iload_n 0, 1) := by decide +kernel
theorem dX8_greatestDivisor_13 : decode cX8_greatestDivisor 13 = .ok (.iload_n 1, 1) := by decide +kernel
theorem dX8_greatestDivisor_14 : decode cX8_greatestDivisor 14 = .ok (.irem, 1) := by decide +kernel
theorem dX8_greatestDivisor_15 : decode cX8_greatestDivisor 15 = .ok (.istore_n 3, 1) := by decide +kernel
theorem dX8_greatestDivisor_16 : decode cX8_greatestDivisor 16 = .ok (.iload_n 1, 1) := by decide +kernel
theorem dX8_greatestDivisor_17 : decode cX8_greatestDivisor 17 = .ok (.istore_n 0, 1) := by decide +kernel
theorem dX8_greatestDivisor_18 : decode cX8_greatestDivisor 18 = .ok (.iload_n 3, 1) := by decide +kernel
theorem dX8_greatestDivisor_19 : decode cX8_greatestDivisor 19 = .ok (.istore_n 1, 1) := by decide +kernel
theorem dX8_greatestDivisor_20 : decode cX8_greatestDivisor 20 = .ok (.iinc 2 1, 3) := by decide +kernel
theorem dX8_greatestDivisor_23 : decode cX8_greatestDivisor 23 = .ok (.goto (-21), 3) := by decide +kernel
theorem dX8_greatestDivisor_26 : decode cX8_greatestDivisor 26 = .ok (.iload_n 0, 1) := by decide +kernel
theorem dX8_greatestDivisor_27 : decode cX8_greatestDivisor 27 = .ok (.ireturn, 1) := by decide +kernel
theorem dX8_comesBy_0 : decode cX8_comesBy 0 = .ok (.iload_n 3, 1) := by decide +kernel
theorem dX8_comesBy_1 : decode cX8_comesBy 1 = .ok (.iload_n 2, 1) := by decide +kernel
theorem dX8_comesBy_2 : decode cX8_comesBy 2 = .ok (.iload_n 1, 1) := by decide +kernel
theorem dX8_comesBy_3 : decode cX8_comesBy 3 = .ok (.iand, 1) := by decide +kernel
theorem dX8_comesBy_4 : decode cX8_comesBy 4 = .ok (.invokestatic 212, 3) := by decide +kernel
theorem dX8_comesBy_7 : decode cX8_comesBy 7 = .ok (.imul, 1) := by decide +kernel
theorem dX8_comesBy_8 : decode cX8_comesBy 8 = .ok (.istore 6, 2) := by decide +kernel
theorem dX8_comesBy_10 : decode cX8_comesBy 10 = .ok (.iload_n 0, 1) := by decide +kernel
theorem dX8_comesBy_11 : decode cX8_comesBy 11 = .ok (.tableswitch 64 1 3 #[25, 30, 49], 25) := by decide +kernel
theorem dX8_comesBy_36 : decode cX8_comesBy 36 = .ok (.iload 6, 2) := by decide +kernel
theorem dX8_comesBy_38 : decode cX8_comesBy 38 = .ok (.iconst 2, 1) := by decide +kernel
theorem dX8_comesBy_39 : decode cX8_comesBy 39 = .ok (.idiv, 1) := by decide +kernel
theorem dX8_comesBy_40 : decode cX8_comesBy 40 = .ok (.ireturn, 1) := by decide +kernel
theorem dX8_comesBy_41 : decode cX8_comesBy 41 = .ok (.iload_n 2, 1) := by decide +kernel
theorem dX8_comesBy_42 : decode cX8_comesBy 42 = .ok (.iload 4, 2) := by decide +kernel
theorem dX8_comesBy_44 : decode cX8_comesBy 44 = .ok (.iconst (-1), 1) := by decide +kernel
theorem dX8_comesBy_45 : decode cX8_comesBy 45 = .ok (.ixor, 1) := by decide +kernel
theorem dX8_comesBy_46 : decode cX8_comesBy 46 = .ok (.iand, 1) := by decide +kernel
theorem dX8_comesBy_47 : decode cX8_comesBy 47 = .ok (.ifCond .eq 10, 3) := by decide +kernel
theorem dX8_comesBy_50 : decode cX8_comesBy 50 = .ok (.iload 6, 2) := by decide +kernel
theorem dX8_comesBy_52 : decode cX8_comesBy 52 = .ok (.iconst 2, 1) := by decide +kernel
theorem dX8_comesBy_53 : decode cX8_comesBy 53 = .ok (.iadd, 1) := by decide +kernel
theorem dX8_comesBy_54 : decode cX8_comesBy 54 = .ok (.goto 5, 3) := by decide +kernel
theorem dX8_comesBy_57 : decode cX8_comesBy 57 = .ok (.iload 6, 2) := by decide +kernel
theorem dX8_comesBy_59 : decode cX8_comesBy 59 = .ok (.ireturn, 1) := by decide +kernel
theorem dX8_comesBy_60 : decode cX8_comesBy 60 = .ok (.iload 5, 2) := by decide +kernel
theorem dX8_comesBy_62 : decode cX8_comesBy 62 = .ok (.iconst 3, 1) := by decide +kernel
theorem dX8_comesBy_63 : decode cX8_comesBy 63 = .ok (.irem, 1) := by decide +kernel
theorem dX8_comesBy_64 : decode cX8_comesBy 64 = .ok (.iconst 2, 1) := by decide +kernel
theorem dX8_comesBy_65 : decode cX8_comesBy 65 = .ok (.if_icmp .ne 7, 3) := by decide +kernel
theorem dX8_comesBy_68 : decode cX8_comesBy 68 = .ok (.iconst 0, 1) := by decide +kernel
theorem dX8_comesBy_69 : decode cX8_comesBy 69 = .ok (.goto 5, 3) := by decide +kernel
theorem dX8_comesBy_72 : decode cX8_comesBy 72 = .ok (.iload 6, 2) := by decide +kernel
theorem dX8_comesBy_74 : decode cX8_comesBy 74 = .ok (.ireturn, 1) := by decide +kernel
theorem dX8_comesBy_75 : decode cX8_comesBy 75 = .ok (.iload 6, 2) := by decide +kernel
theorem dX8_comesBy_77 : decode cX8_comesBy 77 = .ok (.ireturn, 1) := by decide +kernel
theorem dX9_init_0 : decode cX9_init 0 = .ok (.aload_n 0, 1) := by decide +kernel
theorem dX9_init_1 : decode cX9_init 1 = .ok (.invokespecial 1, 3) := by decide +kernel
theorem dX9_init_4 : decode cX9_init 4 = .ok (.aload_n 0, 1) := by decide +kernel
theorem dX9_init_5 : decode cX9_init 5 = .ok (.bipush 18, 2) := by decide +kernel
theorem dX9_init_7 : decode cX9_init 7 = .ok (.newarray .int, 2) := by decide +kernel
theorem dX9_init_9 : decode cX9_init 9 = .ok (.putfield 7, 3) := by decide +kernel
theorem dX9_init_12 : decode cX9_init 12 = .ok (.aload_n 0, 1) := by decide +kernel
theorem dX9_init_13 : decode cX9_init 13 = .ok (.bipush 46, 2) := by decide +kernel
theorem dX9_init_15 : decode cX9_init 15 = .ok (.newarray .int, 2) := by decide +kernel
theorem dX9_init_17 : decode cX9_init 17 = .ok (.putfield 13, 3) := by decide +kernel
theorem dX9_init_20 : decode cX9_init 20 = .ok (.aload_n 0, 1) := by decide +kernel
theorem dX9_init_21 : decode cX9_init 21 = .ok (.bipush 46, 2) := by decide +kernel
theorem dX9_init_23 : decode cX9_init 23 = .ok (.newarray .int, 2) := by decide +kernel
theorem dX9_init_25 : decode cX9_init 25 = .ok (.putfield 16, 3) := by decide +kernel
theorem dX9_init_28 : decode cX9_init 28 = .ok (.aload_n 0, 1) := by decide +kernel
theorem dX9_init_29 : decode cX9_init 29 = .ok (.sipush 368, 3) := by decide +kernel
theorem dX9_init_32 : decode cX9_init 32 = .ok (.newarray .int, 2) := by decide +kernel
theorem dX9_init_34 : decode cX9_init 34 = .ok (.putfield 19, 3) := by decide +kernel
theorem dX9_init_37 : decode cX9_init 37 = .ok (.aload_n 0, 1) := by decide +kernel
theorem dX9_init_38 : decode cX9_init 38 = .ok (.bipush 92, 2) := by decide +kernel
theorem dX9_init_40 : decode cX9_init 40 = .ok (.newarray .int, 2) := by decide +kernel
theorem dX9_init_42 : decode cX9_init 42 = .ok (.putfield 22, 3) := by decide +kernel
theorem dX9_init_45 : decode cX9_init 45 = .ok (.aload_n 0, 1) := by decide +kernel
theorem dX9_init_46 : decode cX9_init 46 = .ok (.bipush 16, 2) := by decide +kernel
theorem dX9_init_48 : decode cX9_init 48 = .ok (.newarray .int, 2) := by decide +kernel
theorem dX9_init_50 : decode cX9_init 50 = .ok (.putfield 25, 3) := by decide +kernel
theorem dX9_init_53 : decode cX9_init 53 = .ok (.aload_n 0, 1) := by decide +kernel
theorem dX9_init_54 : decode cX9_init 54 = .ok (.sipush 200, 3) := by decide +kernel
theorem dX9_init_57 : decode cX9_init 57 = .ok (.newarray .int, 2) := by decide +kernel
theorem dX9_init_59 : decode cX9_init 59 = .ok (.putfield 28, 3) := by decide +kernel
theorem dX9_init_62 : decode cX9_init 62 = .ok (.aload_n 0, 1) := by decide +kernel
theorem dX9_init_63 : decode cX9_init 63 = .ok (.iconst 3, 1) := by decide +kernel
theorem dX9_init_64 : decode cX9_init 64 = .ok (.newarray .int, 2) := by decide +kernel
theorem dX9_init_66 : decode cX9_init 66 = .ok (.putfield 31, 3) := by decide +kernel
theorem dX9_init_69 : decode cX9_init 69 = .ok (.aload_n 0, 1) := by decide +kernel
theorem dX9_init_70 : decode cX9_init 70 = .ok (.bipush 18, 2) := by decide +kernel
theorem dX9_init_72 : decode cX9_init 72 = .ok (.newarray .int, 2) := by decide +kernel
theorem dX9_init_74 : decode cX9_init 74 = .ok (.putfield 34, 3) := by decide +kernel
theorem dX9_init_77 : decode cX9_init 77 = .ok (.aload_n 0, 1) := by decide +kernel
theorem dX9_init_78 : decode cX9_init 78 = .ok (.bipush 46, 2) := by decide +kernel
theorem dX9_init_80 : decode cX9_init 80 = .ok (.newarray .int, 2) := by decide +kernel
theorem dX9_init_82 : decode cX9_init 82 = .ok (.putfield 37, 3) := by decide +kernel
theorem dX9_init_85 : decode cX9_init 85 = .ok (.aload_n 0, 1) := by decide +kernel
theorem dX9_init_86 : decode cX9_init 86 = .ok (.bipush 46, 2) := by decide +kernel
theorem dX9_init_88 : decode cX9_init 88 = .ok (.newarray .int, 2) := by decide +kernel
theorem dX9_init_90 : decode cX9_init 90 = .ok (.putfield 40, 3) := by decide +kernel
theorem dX9_init_93 : decode cX9_init 93 = .ok (.aload_n 0, 1) := by decide +kernel
theorem dX9_init_94 : decode cX9_init 94 = .ok (.bipush 6, 2) := by decide +kernel
theorem dX9_init_96 : decode cX9_init 96 = .ok (.newarray .int, 2) := by decide +kernel
theorem dX9_init_98 : decode cX9_init 98 = .ok (.putfield 43, 3) := by decide +kernel
theorem dX9_init_101 : decode cX9_init 101 = .ok (.aload_n 0, 1) := by decide +kernel
theorem dX9_init_102 : decode cX9_init 102 = .ok (.bipush 6, 2) := by decide +kernel
theorem dX9_init_104 : decode cX9_init 104 = .ok (.newarray .int, 2) := by decide +kernel
theorem dX9_init_106 : decode cX9_init 106 = .ok (.putfield 46, 3) := by decide +kernel
theorem dX9_init_109 : decode cX9_init 109 = .ok (.aload_n 0, 1) := by decide +kernel
theorem dX9_init_110 : decode cX9_init 110 = .ok (.invokevirtual 49, 3) := by decide +kernel
theorem dX9_init_113 : decode cX9_init 113 = .ok (.aload_n 0, 1) := by decide +kernel
theorem dX9_init_114 : decode cX9_init 114 = .ok (.iconst 0, 1) := by decide +kernel
theorem dX9_init_115 : decode cX9_init 115 = .ok (.iconst 3, 1) := by decide +kernel
theorem dX9_init_116 : decode cX9_init 116 = .ok (.bipush 6, 2) := by decide +kernel
theorem dX9_init_118 : decode cX9_init 118 = .ok (.invokevirtual 52, 3) := by decide +kernel
theorem dX9_init_121 : decode cX9_init 121 = .ok (.aload_n 0, 1) := by decide +kernel
theorem dX9_init_122 : decode cX9_init 122 = .ok (.iconst 1, 1) := by decide +kernel
theorem dX9_init_123 : decode cX9_init 123 = .ok (.iconst 5, 1) := by decide +kernel
theorem dX9_init_124 : decode cX9_init 124 = .ok (.iconst 5, 1) := by decide +kernel
theorem dX9_init_125 : decode cX9_init 125 = .ok (.invokevirtual 52, 3) := by decide +kernel
