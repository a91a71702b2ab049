theorem dX3_sortDown_11 : decode cX3_sortDown 11 = .ok (.iload_n 3, 1) := by decide +kernel
theorem dX3_sortDown_12 : decode cX3_sortDown 12 = .ok (.iconst 1, 1) := by decide +kernel
theorem dX3_sortDown_13 : decode cX3_sortDown 13 = .ok (.iadd, 1) := by decide +kernel
theorem dX3_sortDown_14 : decode cX3_sortDown 14 = .ok (.istore 4, 2) := by decide +kernel
theorem dX3_sortDown_16 : decode cX3_sortDown 16 = .ok (.iload 4, 2) := by decide +kernel
theorem dX3_sortDown_18 : decode cX3_sortDown 18 = .ok (.iload_n 2, 1) := by decide +kernel
theorem dX3_sortDown_19 : decode cX3_sortDown 19 = .ok (.if_icmp .gt 32, 3) := by decide +kernel
theorem dX3_sortDown_22 : decode cX3_sortDown 22 = .ok (.aload_n 0, 1) := by decide +kernel
theorem dX3_sortDown_23 : decode cX3_sortDown 23 = .ok (.getfield 9, 3) := by decide +kernel
theorem dX3_sortDown_26 : decode cX3_sortDown 26 = .ok (.iload 4, 2) := by decide +kernel
theorem dX3_sortDown_28 : decode cX3_sortDown 28 = .ok (.iaload, 1) := by decide +kernel
theorem dX3_sortDown_29 : decode cX3_sortDown 29 = .ok (.aload_n 0, 1) := by decide +kernel
theorem dX3_sortDown_30 : decode cX3_sortDown 30 = .ok (.getfield 9, 3) := by decide +kernel
theorem dX3_sortDown_33 : decode cX3_sortDown 33 = .ok (.iload_n 3, 1) := by decide +kernel
theorem dX3_sortDown_34 : decode cX3_sortDown 34 = .ok (.iaload, 1) := by decide +kernel
theorem dX3_sortDown_35 : decode cX3_sortDown 35 = .ok (.if_icmp .le 10, 3) := by decide +kernel
theorem dX3_sortDown_38 : decode cX3_sortDown 38 = .ok (.aload_n 0, 1) := by decide +kernel
theorem dX3_sortDown_39 : decode cX3_sortDown 39 = .ok (.iload_n 3, 1) := by decide +kernel
theorem dX3_sortDown_40 : decode cX3_sortDown 40 = .ok (.iload 4, 2) := by decide +kernel
theorem dX3_sortDown_42 : decode cX3_sortDown 42 = .ok (.invokevirtual 77, 3) := by decide +kernel
theorem dX3_sortDown_45 : decode cX3_sortDown 45 = .ok (.iinc 4 1, 3) := by decide +kernel
theorem dX3_sortDown_48 : decode cX3_sortDown 48 = .ok (.goto (-32), 3) := by decide +kernel
theorem dX3_sortDown_51 : decode cX3_sortDown 51 = .ok (.iinc 3 1, 3) := by decide +kernel
theorem dX3_sortDown_54 : decode cX3_sortDown 54 = .ok (.goto (-48), 3) := by decide +kernel
theorem dX3_sortDown_57 : decode cX3_sortDown 57 = .ok (.return_, 1) := by decide +kernel
theorem dX3_swap_0 : decode cX3_swap 0 = .ok (.aload_n 0, 1) := by decide +kernel
theorem dX3_swap_1 : decode cX3_swap 1 = .ok (.getfield 9, 3) := by decide +kernel
theorem dX3_swap_4 : decode cX3_swap 4 = .ok (.iload_n 1, 1) := by decide +kernel
theorem dX3_swap_5 : decode cX3_swap 5 = .ok (.iaload, 1) := by decide +kernel
theorem dX3_swap_6 : decode cX3_swap 6 = .ok (.istore_n 3, 1) := by decide +kernel
theorem dX3_swap_7 : decode cX3_swap 7 = .ok (.aload_n 0, 1) := by decide +kernel
theorem dX3_swap_8 : decode cX3_swap 8 = .ok (.getfield 9, 3) := by decide +kernel
theorem dX3_swap_11 : decode cX3_swap 11 = .ok (.iload_n 1, 1) := by decide +kernel
theorem dX3_swap_12 : decode cX3_swap 12 = .ok (.aload_n 0, 1) := by decide +kernel
theorem dX3_swap_13 : decode cX3_swap 13 = .ok (.getfield 9, 3) := by decide +kernel
theorem dX3_swap_16 : decode cX3_swap 16 = .ok (.iload_n 2, 1) := by decide +kernel
theorem dX3_swap_17 : decode cX3_swap 17 = .ok (.iaload, 1) := by decide +kernel
theorem dX3_swap_18 : decode cX3_swap 18 = .ok (.iastore, 1) := by decide +kernel
theorem dX3_swap_19 : decode cX3_swap 19 = .ok (.aload_n 0, 1) := by decide +kernel
theorem dX3_swap_20 : decode cX3_swap 20 = .ok (.getfield 9, 3) := by decide +kernel
theorem dX3_swap_23 : decode cX3_swap 23 = .ok (.iload_n 2, 1) := by decide +kernel
theorem dX3_swap_24 : decode cX3_swap 24 = .ok (.iload_n 3, 1) := by decide +kernel
theorem dX3_swap_25 : decode cX3_swap 25 = .ok (.iastore, 1) := by decide +kernel
theorem dX3_swap_26 : decode cX3_swap 26 = .ok (.return_, 1) := by decide +kernel
theorem dX4_init_0 : decode cX4_init 0 = .ok (.aload_n 0, 1) := by decide +kernel
theorem dX4_init_1 : decode cX4_init 1 = .ok (.invokespecial 3, 3) := by decide +kernel
theorem dX4_init_4 : decode cX4_init 4 = .ok (.aload_n 0, 1) := by decide +kernel
theorem dX4_init_5 : decode cX4_init 5 = .ok (.sipush 200, 3) := by decide +kernel
theorem dX4_init_8 : decode cX4_init 8 = .ok (.newarray .int, 2) := by decide +kernel
theorem dX4_init_10 : decode cX4_init 10 = .ok (.putfield 9, 3) := by decide +kernel
theorem dX4_init_13 : decode cX4_init 13 = .ok (.return_, 1) := by decide +kernel
theorem dX4_append_0 : decode cX4_append 0 = .ok (.aload_n 0, 1) := by decide +kernel
theorem dX4_append_1 : decode cX4_append 1 = .ok (.getfield 15, 3) := by decide +kernel
theorem dX4_append_4 : decode cX4_append 4 = .ok (.sipush 200, 3) := by decide +kernel
theorem dX4_append_7 : decode cX4_append 7 = .ok (.if_icmp .lt 5, 3) := by decide +kernel
theorem dX4_append_10 : decode cX4_append 10 = .ok (.iconst 0, 1) := by decide +kernel
theorem dX4_append_11 : decode cX4_append 11 = .ok (.ireturn, 1) := by decide +kernel
theorem dX4_append_12 : decode cX4_append 12 = .ok (.aload_n 0, 1) := by decide +kernel
theorem dX4_append_13 : decode cX4_append 13 = .ok (.getfield 9, 3) := by decide +kernel
theorem dX4_append_16 : decode cX4_append 16 = .ok (.aload_n 0, 1) := by decide +kernel
theorem dX4_append_17 : decode cX4_append 17 = .ok (.getfield 15, 3) := by decide +kernel
theorem dX4_append_20 : decode cX4_append 20 = .ok (.iload_n 1, 1) := by decide +kernel
theorem dX4_append_21 : decode cX4_append 21 = .ok (.iastore, 1) := by decide +kernel
theorem dX4_append_22 : decode cX4_append 22 = .ok (.aload_n 0, 1) := by decide +kernel
theorem dX4_append_23 : decode cX4_append 23 = .ok (.dup, 1) := by decide +kernel
theorem dX4_append_24 : decode cX4_append 24 = .ok (.getfield 15, 3) := by decide +kernel
theorem dX4_append_27 : decode cX4_append 27 = .ok (.iconst 1, 1) := by decide +kernel
theorem dX4_append_28 : decode cX4_append 28 = .ok (.iadd, 1) := by decide +kernel
theorem dX4_append_29 : decode cX4_append 29 = .ok (.putfield 15, 3) := by decide +kernel
theorem dX4_append_32 : decode cX4_append 32 = .ok (.iconst 1, 1) := by decide +kernel
theorem dX4_append_33 : decode cX4_append 33 = .ok (.ireturn, 1) := by decide +kernel
theorem dX4_clear_0 : decode cX4_clear 0 = .ok (.aload_n 0, 1) := by decide +kernel
theorem dX4_clear_1 : decode cX4_clear 1 = .ok (.iconst 0, 1) := by decide +kernel
theorem dX4_clear_2 : decode cX4_clear 2 = .ok (.putfield 15, 3) := by decide +kernel
theorem dX4_clear_5 : decode cX4_clear 5 = .ok (.return_, 1) := by decide +kernel
theorem dX4_letterAt_0 : decode cX4_letterAt 0 = .ok (.iload_n 1, 1) := by decide +kernel
theorem dX4_letterAt_1 : decode cX4_letterAt 1 = .ok (.ifCond .lt 27, 3) := by decide +kernel
theorem dX4_letterAt_4 : decode cX4_letterAt 4 = .ok (.iload_n 1, 1) := by decide +kernel
theorem dX4_letterAt_5 : decode cX4_letterAt 5 = .ok (.aload_n 0, 1) := by decide +kernel
theorem dX4_letterAt_6 : decode cX4_letterAt 6 = .ok (.getfield 15, 3) := by decide +kernel
theorem dX4_letterAt_9 : decode cX4_letterAt 9 = .ok (.if_icmp .ge 19, 3) := by decide +kernel
theorem dX4_letterAt_12 : decode cX4_letterAt 12 = .ok (.iload_n 1, 1) := by decide +kernel
theorem dX4_letterAt_13 : decode cX4_letterAt 13 = .ok (.sipush 200, 3) := by decide +kernel
theorem dX4_letterAt_16 : decode cX4_letterAt 16 = .ok (.if_icmp .ge 12, 3) := by decide +kernel
theorem dX4_letterAt_19 : decode cX4_letterAt 19 = .ok (.aload_n 0, 1) := by decide +kernel
theorem dX4_letterAt_20 : decode cX4_letterAt 20 = .ok (.getfield 9, 3) := by decide +kernel
theorem dX4_letterAt_23 : decode cX4_letterAt 23 = .ok (.iload_n 1, 1) := by decide +kernel
theorem dX4_letterAt_24 : decode cX4_letterAt 24 = .ok (.iaload, 1) := by decide +kernel
theorem dX4_letterAt_25 : decode cX4_letterAt 25 = .ok (.goto 4, 3) := by decide +kernel
theorem dX4_letterAt_28 : decode cX4_letterAt 28 = .ok (.iconst (-1), 1) := by decide +kernel
theorem dX4_letterAt_29 : decode cX4_letterAt 29 = .ok (.ireturn, 1) := by decide +kernel
theorem dX4_isFigure_0 : decode cX4_isFigure 0 = .ok (.aload_n 0, 1) := by decide +kernel
theorem dX4_isFigure_1 : decode cX4_isFigure 1 = .ok (.iload_n 1, 1) := by decide +kernel
theorem dX4_isFigure_2 : decode cX4_isFigure 2 = .ok (.invokevirtual 19, 3) := by decide +kernel
theorem dX4_isFigure_5 : decode cX4_isFigure 5 = .ok (.istore_n 2, 1) := by decide +kernel
theorem dX4_isFigure_6 : decode cX4_isFigure 6 = .ok (.iload_n 2, 1) := by decide +kernel
theorem dX4_isFigure_7 : decode cX4_isFigure 7 = .ok (.bipush 48, 2) := by decide +kernel
theorem dX4_isFigure_9 : decode cX4_isFigure 9 = .ok (.if_icmp .lt 13, 3) := by decide +kernel
theorem dX4_isFigure_12 : decode cX4_isFigure 12 = .ok (.iload_n 2, 1) := by decide +kernel
theorem dX4_isFigure_13 : decode cX4_isFigure 13 = .ok (.bipush 57, 2) := by decide +kernel
theorem dX4_isFigure_15 : decode cX4_isFigure 15 = .ok (.if_icmp .gt 7, 3) := by decide +kernel
theorem dX4_isFigure_18 : decode cX4_isFigure 18 = .ok (.iconst 1, 1) := by decide +kernel
theorem dX4_isFigure_19 : decode cX4_isFigure 19 = .ok (.goto 4, 3) := by decide +kernel
theorem dX4_isFigure_22 : decode cX4_isFigure 22 = .ok (.iconst 0, 1) := by decide +kernel
theorem dX4_isFigure_23 : decode cX4_isFigure 23 = .ok (.ireturn, 1) := by decide +kernel
theorem dX4_figuresAt_0 : decode cX4_figuresAt 0 = .ok (.iconst 0, 1) := by decide +kernel
theorem dX4_figuresAt_1 : decode cX4_figuresAt 1 = .ok (.istore_n 2, 1) := by decide +kernel
theorem dX4_figuresAt_2 : decode cX4_figuresAt 2 = .ok (.iload_n 2, 1) := by decide +kernel
theorem dX4_figuresAt_3 : decode cX4_figuresAt 3 = .ok (.iconst 3, 1) := by decide +kernel
theorem dX4_figuresAt_4 : decode cX4_figuresAt 4 = .ok (.if_icmp .ge 19, 3) := by decide +kernel
theorem dX4_figuresAt_7 : decode cX4_figuresAt 7 = .ok (.aload_n 0, 1) := by decide +kernel
theorem dX4_figuresAt_8 : decode cX4_figuresAt 8 = .ok (.iload_n 1, 1) := by decide +kernel
theorem dX4_figuresAt_9 : decode cX4_figuresAt 9 = .ok (.iload_n 2, 1) := by decide +kernel
theorem dX4_figuresAt_10 : decode cX4_figuresAt 10 = .ok (.iadd, 1) := by decide +kernel
theorem dX4_figuresAt_11 : decode cX4_figuresAt 11 = .ok (.invokevirtual 23, 3) := by decide +kernel
theorem dX4_figuresAt_14 : decode cX4_figuresAt 14 = .ok (.ifCond .eq 9, 3) := by decide +kernel
theorem dX4_figuresAt_17 : decode cX4_figuresAt 17 = .ok (.iinc 2 1, 3) := by decide +kernel
theorem dX4_figuresAt_20 : decode cX4_figuresAt 20 = .ok (.goto (-18), 3) := by decide +kernel
theorem dX4_figuresAt_23 : decode cX4_figuresAt 23 = .ok (.iload_n 2, 1) := by decide +kernel
theorem dX4_figuresAt_24 : decode cX4_figuresAt 24 = .ok (.ireturn, 1) := by decide +kernel
theorem dX4_numberAt_0 : decode cX4_numberAt 0 = .ok (.iconst 0, 1) := by decide +kernel
theorem dX4_numberAt_1 : decode cX4_numberAt 1 = .ok (.istore_n 3, 1) := by decide +kernel
theorem dX4_numberAt_2 : decode cX4_numberAt 2 = .ok (.iconst 0, 1) := by decide +kernel
theorem dX4_numberAt_3 : decode cX4_numberAt 3 = .ok (.istore 4, 2) := by decide +kernel
theorem dX4_numberAt_5 : decode cX4_numberAt 5 = .ok (.iload 4, 2) := by decide +kernel
theorem dX4_numberAt_7 : decode cX4_numberAt 7 = .ok (.iload_n 2, 1) := by decide +kernel
theorem dX4_numberAt_8 : decode cX4_numberAt 8 = .ok (.if_icmp .ge 26, 3) := by decide +kernel
theorem dX4_numberAt_11 : decode cX4_numberAt 11 = .ok (.bipush 10, 2) := by decide +kernel
theorem dX4_numberAt_13 : decode cX4_numberAt 13 = .ok (.iload_n 3, 1) := by decide +kernel
theorem dX4_numberAt_14 : decode cX4_numberAt 14 = .ok (.imul, 1) := by decide +kernel
theorem dX4_numberAt_15 : decode cX4_numberAt 15 = .ok (.aload_n 0, 1) := by decide +kernel
theorem dX4_numberAt_16 : decode cX4_numberAt 16 = .ok (.iload_n 1, 1) := by decide +kernel
theorem dX4_numberAt_17 : decode cX4_numberAt 17 = .ok (.iload 4, 2) := by decide +kernel
theorem dX4_numberAt_19 : decode cX4_numberAt 19 = .ok (.iadd, 1) := by decide +kernel
theorem dX4_numberAt_20 : decode cX4_numberAt 20 = .ok (.invokevirtual 19, 3) := by decide +kernel
theorem dX4_numberAt_23 : decode cX4_numberAt 23 = .ok (.iadd, 1) := by decide +kernel
theorem dX4_numberAt_24 : decode cX4_numberAt 24 = .ok (.bipush 48, 2) := by decide +kernel
theorem dX4_numberAt_26 : decode cX4_numberAt 26 = .ok (.isub, 1) := by decide +kernel
theorem dX4_numberAt_27 : decode cX4_numberAt 27 = .ok (.istore_n 3, 1) := by decide +kernel
theorem dX4_numberAt_28 : decode cX4_numberAt 28 = .ok (.iinc 4 1, 3) := by decide +kernel
theorem dX4_numberAt_31 : decode cX4_numberAt 31 = .ok (.goto (-26), 3) := by decide +kernel
theorem dX4_numberAt_34 : decode cX4_numberAt 34 = .ok (.iload_n 3, 1) := by decide +kernel
theorem dX4_numberAt_35 : decode cX4_numberAt 35 = .ok (.ireturn, 1) := by decide +kernel
theorem dX5_init_0 : decode cX5_init 0 = .ok (.aload_n 0, 1) := by decide +kernel
theorem dX5_init_1 : decode cX5_init 1 = .ok (.invokespecial 1, 3) := by decide +kernel
theorem dX5_init_4 : decode cX5_init 4 = .ok (.aload_n 0, 1) := by decide +kernel
theorem dX5_init_5 : decode cX5_init 5 = .ok (.iload_n 1, 1) := by decide +kernel
theorem dX5_init_6 : decode cX5_init 6 = .ok (.iconst 1, 1) := by decide +kernel
theorem dX5_init_7 : decode cX5_init 7 = .ok (.invokestatic 7, 3) := by decide +kernel
theorem dX5_init_10 : decode cX5_init 10 = .ok (.anewarray 13, 3) := by decide +kernel
theorem dX5_init_13 : decode cX5_init 13 = .ok (.putfield 15, 3) := by decide +kernel
theorem dX5_init_16 : decode cX5_init 16 = .ok (.iconst 0, 1) := by decide +kernel
theorem dX5_init_17 : decode cX5_init 17 = .ok (.istore_n 2, 1) := by decide +kernel
theorem dX5_init_18 : decode cX5_init 18 = .ok (.iload_n 2, 1) := by decide +kernel
theorem dX5_init_19 : decode cX5_init 19 = .ok (.aload_n 0, 1) := by decide +kernel
theorem dX5_init_20 : decode cX5_init 20 = .ok (.getfield 15, 3) := by decide +kernel
theorem dX5_init_23 : decode cX5_init 23 = .ok (.arraylength, 1) := by decide +kernel
theorem dX5_init_24 : decode cX5_init 24 = .ok (.if_icmp .ge 22, 3) := by decide +kernel
theorem dX5_init_27 : decode cX5_init 27 = .ok (.aload_n 0, 1) := by decide +kernel
theorem dX5_init_28 : decode cX5_init 28 = .ok (.getfield 15, 3) := by decide +kernel
theorem dX5_init_31 : decode cX5_init 31 = .ok (.iload_n 2, 1) := by decide +kernel
theorem dX5_init_32 : decode cX5_init 32 = .ok (.new 13, 3) := by decide +kernel
theorem dX5_init_35 : decode cX5_init 35 = .ok (.dup, 1) := by decide +kernel
theorem dX5_init_36 : decode cX5_init 36 = .ok (.invokespecial 21, 3) := by decide +kernel
theorem dX5_init_39 : decode cX5_init 39 = .ok (.aastore, 1) := by decide +kernel
theorem dX5_init_40 : decode cX5_init 40 = .ok (.iinc 2 1, 3) := by decide +kernel
theorem dX5_init_43 : decode cX5_init 43 = .ok (.goto (-25), 3) := by decide +kernel
theorem dX5_init_46 : decode cX5_init 46 = .ok (.return_, 1) := by decide +kernel
theorem dX5_clear_0 : decode cX5_clear 0 = .ok (.aload_n 0, 1) := by decide +kernel
theorem dX5_clear_1 : decode cX5_clear 1 = .ok (.iconst 0, 1) := by decide +kernel
theorem dX5_clear_2 : decode cX5_clear 2 = .ok (.putfield 22, 3) := by decide +kernel
theorem dX5_clear_5 : decode cX5_clear 5 = .ok (.aload_n 0, 1) := by decide +kernel
theorem dX5_clear_6 : decode cX5_clear 6 = .ok (.iconst 0, 1) := by decide +kernel
theorem dX5_clear_7 : decode cX5_clear 7 = .ok (.putfield 26, 3) := by decide +kernel
theorem dX5_clear_10 : decode cX5_clear 10 = .ok (.return_, 1) := by decide +kernel
theorem dX5_placeBehind_0 : decode cX5_placeBehind 0 = .ok (.aload_n 0, 1) := by decide +kernel
theorem dX5_placeBehind_1 : decode cX5_placeBehind 1 = .ok (.getfield 22, 3) := by decide +kernel
theorem dX5_placeBehind_4 : decode cX5_placeBehind 4 = .ok (.iload_n 1, 1) := by decide +kernel
theorem dX5_placeBehind_5 : decode cX5_placeBehind 5 = .ok (.iadd, 1) := by decide +kernel
theorem dX5_placeBehind_6 : decode cX5_placeBehind 6 = .ok (.istore_n 2, 1) := by decide +kernel
theorem dX5_placeBehind_7 : decode cX5_placeBehind 7 = .ok (.iload_n 2, 1) := by decide +kernel
theorem dX5_placeBehind_8 : decode cX5_placeBehind 8 = .ok (.aload_n 0, 1) := by decide +kernel
theorem dX5_placeBehind_9 : decode cX5_placeBehind 9 = .ok (.getfield 15, 3) := by decide +kernel
theorem dX5_placeBehind_12 : decode cX5_placeBehind 12 = .ok (.arraylength, 1) := by decide +kernel
theorem dX5_placeBehind_13 : decode cX5_placeBehind 13 = .ok (.if_icmp .lt 11, 3) := by decide +kernel
theorem dX5_placeBehind_16 : decode cX5_placeBehind 16 = .ok (.iload_n 2, 1) := by decide +kernel
theorem dX5_placeBehind_17 : decode cX5_placeBehind 17 = .ok (.aload_n 0, 1) := by decide +kernel
theorem dX5_placeBehind_18 : decode cX5_placeBehind 18 = .ok (.getfield 15, 3) := by decide +kernel
theorem dX5_placeBehind_21 : decode cX5_placeBehind 21 = .ok (.arraylength, 1) := by decide +kernel
theorem dX5_placeBehind_22 : decode cX5_placeBehind 22 = .ok (.isub, 1) := by decide +kernel
theorem dX5_placeBehind_23 : decode cX5_placeBehind 23 = .ok (.istore_n 2, 1) := by decide +kernel
theorem dX5_placeBehind_24 : decode cX5_placeBehind 24 = .ok (.iload_n 2, 1) := by decide +kernel
theorem dX5_placeBehind_25 : decode cX5_placeBehind 25 = .ok (.ifCond .lt 21, 3) := by decide +kernel
theorem dX5_placeBehind_28 : decode cX5_placeBehind 28 = .ok (.iload_n 2, 1) := by decide +kernel
theorem dX5_placeBehind_29 : decode cX5_placeBehind 29 = .ok (.aload_n 0, 1) := by decide +kernel
theorem dX5_placeBehind_30 : decode cX5_placeBehind 30 = .ok (.getfield 15, 3) := by decide +kernel
theorem dX5_placeBehind_33 : decode cX5_placeBehind 33 = .ok (.arraylength, 1) := by decide +kernel
theorem dX5_placeBehind_34 : decode cX5_placeBehind 34 = .ok (.if_icmp .ge 12, 3) := by decide +kernel
theorem dX5_placeBehind_37 : decode cX5_placeBehind 37 = .ok (.aload_n 0, 1) := by decide +kernel
theorem dX5_placeBehind_38 : decode cX5_placeBehind 38 = .ok (.getfield 15, 3) := by decide +kernel
theorem dX5_placeBehind_41 : decode cX5_placeBehind 41 = .ok (.iload_n 2, 1) := by decide +kernel
theorem dX5_placeBehind_42 : decode cX5_placeBehind 42 = .ok (.aaload, 1) := by decide +kernel
theorem dX5_placeBehind_43 : decode cX5_placeBehind 43 = .ok (.goto 4, 3) := by decide +kernel
theorem dX5_placeBehind_46 : decode cX5_placeBehind 46 = .ok (.aconst_null, 1) := by decide +kernel
theorem dX5_placeBehind_47 : decode cX5_placeBehind 47 = .ok (.areturn, 1) := by decide +kernel
theorem dX5_put_0 : decode cX5_put 0 = .ok (.aload_n 0, 1) := by decide +kernel
theorem dX5_put_1 : decode cX5_put 1 = .ok (.getfield 26, 3) := by decide +kernel
theorem dX5_put_4 : decode cX5_put 4 = .ok (.aload_n 0, 1) := by decide +kernel
theorem dX5_put_5 : decode cX5_put 5 = .ok (.getfield 15, 3) := by decide +kernel
theorem dX5_put_8 : decode cX5_put 8 = .ok (.arraylength, 1) := by decide +kernel
theorem dX5_put_9 : decode cX5_put 9 = .ok (.if_icmp .lt 41, 3) := by decide +kernel
theorem dX5_put_12 : decode cX5_put 12 = .ok (.aload_n 0, 1) := by decide +kernel
theorem dX5_put_13 : decode cX5_put 13 = .ok (.aload_n 0, 1) := by decide +kernel
theorem dX5_put_14 : decode cX5_put 14 = .ok (.getfield 22, 3) := by decide +kernel
theorem dX5_put_17 : decode cX5_put 17 = .ok (.iconst 1, 1) := by decide +kernel
theorem dX5_put_18 : decode cX5_put 18 = .ok (.iadd, 1) := by decide +kernel
theorem dX5_put_19 : decode cX5_put 19 = .ok (.aload_n 0, 1) := by decide +kernel
theorem dX5_put_20 : decode cX5_put 20 = .ok (.getfield 15, 3) := by decide +kernel
theorem dX5_put_23 : decode cX5_put 23 = .ok (.arraylength, 1) := by decide +kernel
theorem dX5_put_24 : decode cX5_put 24 = .ok (.if_icmp .ge 12, 3) := by decide +kernel
theorem dX5_put_27 : decode cX5_put 27 = .ok (.aload_n 0, 1) := by decide +kernel
theorem dX5_put_28 : decode cX5_put 28 = .ok (.getfield 22, 3) := by decide +kernel
theorem dX5_put_31 : decode cX5_put 31 = .ok (.iconst 1, 1) := by decide +kernel
theorem dX5_put_32 : decode cX5_put 32 = .ok (.iadd, 1) := by decide +kernel
theorem dX5_put_33 : decode cX5_put 33 = .ok (.goto 4, 3) := by decide +kernel
theorem dX5_put_36 : decode cX5_put 36 = .ok (.iconst 0, 1) := by decide +kernel
theorem dX5_put_37 : decode cX5_put 37 = .ok (.putfield 22, 3) := by decide +kernel
theorem dX5_put_40 : decode cX5_put 40 = .ok (.aload_n 0, 1) := by decide +kernel
theorem dX5_put_41 : decode cX5_put 41 = .ok (.dup, 1) := by decide +kernel
theorem dX5_put_42 : decode cX5_put 42 = .ok (.getfield 26, 3) := by decide +kernel
theorem dX5_put_45 : decode cX5_put 45 = .ok (.iconst 1, 1) := by decide +kernel
theorem dX5_put_46 : decode cX5_put 46 = .ok (.isub, 1) := by decide +kernel
theorem dX5_put_47 : decode cX5_put 47 = .ok (.putfield 26, 3) := by decide +kernel
theorem dX5_put_50 : decode cX5_put 50 = .ok (.aload_n 0, 1) := by decide +kernel
theorem dX5_put_51 : decode cX5_put 51 = .ok (.aload_n 0, 1) := by decide +kernel
theorem dX5_put_52 : decode cX5_put 52 = .ok (.getfield 26, 3) := by decide +kernel
theorem dX5_put_55 : decode cX5_put 55 = .ok (.invokevirtual 29, 3) := by decide +kernel
theorem dX5_put_58 : decode cX5_put 58 = .ok (.astore_n 2, 1) := by decide +kernel
theorem dX5_put_59 : decode cX5_put 59 = .ok (.aload_n 2, 1) := by decide +kernel
theorem dX5_put_60 : decode cX5_put 60 = .ok (.ifnull 18, 3) := by decide +kernel
theorem dX5_put_63 : decode cX5_put 63 = .ok (.aload_n 2, 1) := by decide +kernel
theorem dX5_put_64 : decode cX5_put 64 = .ok (.aload_n 1, 1) := by decide +kernel
theorem dX5_put_65 : decode cX5_put 65 = .ok (.invokevirtual 33, 3) := by decide +kernel
theorem dX5_put_68 : decode cX5_put 68 = .ok (.aload_n 0, 1) := by decide +kernel
theorem dX5_put_69 : decode cX5_put 69 = .ok (.dup, 1) := by decide +kernel
theorem dX5_put_70 : decode cX5_put 70 = .ok (.getfield 26, 3) := by decide +kernel
theorem dX5_put_73 : decode cX5_put 73 = .ok (.iconst 1, 1) := by decide +kernel
theorem dX5_put_74 : decode cX5_put 74 = .ok (.iadd, 1) := by decide +kernel
theorem dX5_put_75 : decode cX5_put 75 = .ok (.putfield 26, 3) := by decide +kernel
theorem dX5_put_78 : decode cX5_put 78 = .ok (.return_, 1) := by decide +kernel
theorem dX5_takeInto_0 : decode cX5_takeInto 0 = .ok (.aload_n 0, 1) := by decide +kernel
theorem dX5_takeInto_1 : decode cX5_takeInto 1 = .ok (.getfield 26, 3) := by decide +kernel
theorem dX5_takeInto_4 : decode cX5_takeInto 4 = .ok (.ifCond .le 16, 3) := by decide +kernel
theorem dX5_takeInto_7 : decode cX5_takeInto 7 = .ok (.aload_n 0, 1) := by decide +kernel
theorem dX5_takeInto_8 : decode cX5_takeInto 8 = .ok (.aload_n 0, 1) := by decide +kernel
theorem dX5_takeInto_9 : decode cX5_takeInto 9 = .ok (.getfield 26, 3) := by decide +kernel
theorem dX5_takeInto_12 : decode cX5_takeInto 12 = .ok (.iconst 1, 1) := by decide +kernel
theorem dX5_takeInto_13 : decode cX5_takeInto 13 = .ok (.isub, 1) := by decide +kernel
theorem dX5_takeInto_14 : decode cX5_takeInto 14 = .ok (.invokevirtual 29, 3) := by decide +kernel
theorem dX5_takeInto_17 : decode cX5_takeInto 17 = .ok (.goto 4, 3) := by decide +kernel
theorem dX5_takeInto_20 : decode cX5_takeInto 20 = .ok (.aconst_null, 1) := by decide +kernel
theorem dX5_takeInto_21 : decode cX5_takeInto 21 = .ok (.astore_n 2, 1) := by decide +kernel
theorem dX5_takeInto_22 : decode cX5_takeInto 22 = .ok (.aload_n 2, 1) := by decide +kernel
theorem dX5_takeInto_23 : decode cX5_takeInto 23 = .ok (.ifnonnull 5, 3) := by decide +kernel
theorem dX5_takeInto_26 : decode cX5_takeInto 26 = .ok (.iconst 0, 1) := by decide +kernel
theorem dX5_takeInto_27 : decode cX5_takeInto 27 = .ok (.ireturn, 1) := by decide +kernel
theorem dX5_takeInto_28 : decode cX5_takeInto 28 = .ok (.aload_n 1, 1) := by decide +kernel
theorem dX5_takeInto_29 : decode cX5_takeInto 29 = .ok (.aload_n 2, 1) := by decide +kernel
theorem dX5_takeInto_30 : decode cX5_takeInto 30 = .ok (.invokevirtual 33, 3) := by decide +kernel
theorem dX5_takeInto_33 : decode cX5_takeInto 33 = .ok (.aload_n 0, 1) := by decide +kernel
theorem dX5_takeInto_34 : decode cX5_takeInto 34 = .ok (.dup, 1) := by decide +kernel
theorem dX5_takeInto_35 : decode cX5_takeInto 35 = .ok (.getfield 26, 3) := by decide +kernel
theorem dX5_takeInto_38 : decode cX5_takeInto 38 = .ok (.iconst 1, 1) := by decide +kernel
theorem dX5_takeInto_39 : decode cX5_takeInto 39 = .ok (.isub, 1) := by decide +kernel
theorem dX5_takeInto_40 : decode cX5_takeInto 40 = .ok (.putfield 26, 3) := by decide +kernel
theorem dX5_takeInto_43 : decode cX5_takeInto 43 = .ok (.iconst 1, 1) := by decide +kernel
theorem dX5_takeInto_44 : decode cX5_takeInto 44 = .ok (.ireturn, 1) := by decide +kernel
theorem dX6_init_0 : decode cX6_init 0 = .ok (.aload_n 0, 1) := by decide +kernel
theorem dX6_init_1 : decode cX6_init 1 = .ok (.invokespecial 3, 3) := by decide +kernel
theorem dX6_init_4 : decode cX6_init 4 = .ok (.aload_n 0, 1) := by decide +kernel
theorem dX6_init_5 : decode cX6_init 5 = .ok (.bipush 8, 2) := by decide +kernel
theorem dX6_init_7 : decode cX6_init 7 = .ok (.newarray .int, 2) := by decide +kernel
theorem dX6_init_9 : decode cX6_init 9 = .ok (.putfield 9, 3) := by decide +kernel
theorem dX6_init_12 : decode cX6_init 12 = .ok (.aload_n 0, 1) := by decide +kernel
theorem dX6_init_13 : decode cX6_init 13 = .ok (.bipush 8, 2) := by decide +kernel
theorem dX6_init_15 : decode cX6_init 15 = .ok (.newarray .int, 2) := by decide +kernel
theorem dX6_init_17 : decode cX6_init 17 = .ok (.putfield 15, 3) := by decide +kernel
theorem dX6_init_20 : decode cX6_init 20 = .ok (.return_, 1) := by decide +kernel
theorem dX6_clear_0 : decode cX6_clear 0 = .ok (.aload_n 0, 1) := by decide +kernel
theorem dX6_clear_1 : decode cX6_clear 1 = .ok (.iconst 0, 1) := by decide +kernel
theorem dX6_clear_2 : decode cX6_clear 2 = .ok (.putfield 18, 3) := by decide +kernel
theorem dX6_clear_5 : decode cX6_clear 5 = .ok (.return_, 1) := by decide +kernel
theorem dX6_add_0 : decode cX6_add 0 = .ok (.aload_n 0, 1) := by decide +kernel
theorem dX6_add_1 : decode cX6_add 1 = .ok (.getfield 18, 3) := by decide +kernel
theorem dX6_add_4 : decode cX6_add 4 = .ok (.bipush 8, 2) := by decide +kernel
theorem dX6_add_6 : decode cX6_add 6 = .ok (.if_icmp .lt 5, 3) := by decide +kernel
theorem dX6_add_9 : decode cX6_add 9 = .ok (.iconst 0, 1) := by decide +kernel
theorem dX6_add_10 : decode cX6_add 10 = .ok (.ireturn, 1) := by decide +kernel
theorem dX6_add_11 : decode cX6_add 11 = .ok (.aload_n 0, 1) := by decide +kernel
theorem dX6_add_12 : decode cX6_add 12 = .ok (.getfield 9, 3) := by decide +kernel
theorem dX6_add_15 : decode cX6_add 15 = .ok (.aload_n 0, 1) := by decide +kernel
theorem dX6_add_16 : decode cX6_add 16 = .ok (.getfield 18, 3) := by decide +kernel
theorem dX6_add_19 : decode cX6_add 19 = .ok (.iload_n 1, 1) := by decide +kernel
theorem dX6_add_20 : decode cX6_add 20 = .ok (.iastore, 1) := by decide +kernel
theorem dX6_add_21 : decode cX6_add 21 = .ok (.aload_n 0, 1) := by decide +kernel
theorem dX6_add_22 : decode cX6_add 22 = .ok (.getfield 15, 3) := by decide +kernel
theorem dX6_add_25 : decode cX6_add 25 = .ok (.aload_n 0, 1) := by decide +kernel
theorem dX6_add_26 : decode cX6_add 26 = .ok (.getfield 18, 3) := by decide +kernel
theorem dX6_add_29 : decode cX6_add 29 = .ok (.iload_n 2, 1) := by decide +kernel
theorem dX6_add_30 : decode cX6_add 30 = .ok (.iastore, 1) := by decide +kernel
theorem dX6_add_31 : decode cX6_add 31 = .ok (.aload_n 0, 1) := by decide +kernel
theorem dX6_add_32 : decode cX6_add 32 = .ok (.dup, 1) := by decide +kernel
theorem dX6_add_33 : decode cX6_add 33 = .ok (.getfield 18, 3) := by decide +kernel
theorem dX6_add_36 : decode cX6_add 36 = .ok (.iconst 1, 1) := by decide +kernel
theorem dX6_add_37 : decode cX6_add 37 = .ok (.iadd, 1) := by decide +kernel
theorem dX6_add_38 : decode cX6_add 38 = .ok (.putfield 18, 3) := by decide +kernel
theorem dX6_add_41 : decode cX6_add 41 = .ok (.iconst 1, 1) := by decide +kernel
theorem dX6_add_42 : decode cX6_add 42 = .ok (.ireturn, 1) := by decide +kernel
theorem dX6_agrees_0 : decode cX6_agrees 0 = .ok (.iconst 0, 1) := by decide +kernel
theorem dX6_agrees_1 : decode cX6_agrees 1 = .ok (.istore_n 3, 1) := by decide +kernel
theorem dX6_agrees_2 : decode cX6_agrees 2 = .ok (.iload_n 3, 1) := by decide +kernel
theorem dX6_agrees_3 : decode cX6_agrees 3 = .ok (.aload_n 0, 1) := by decide +kernel
theorem dX6_agrees_4 : decode cX6_agrees 4 = .ok (.getfield 18, 3) := by decide +kernel
theorem dX6_agrees_7 : decode cX6_agrees 7 = .ok (.if_icmp .ge 37, 3) := by decide +kernel
theorem dX6_agrees_10 : decode cX6_agrees 10 = .ok (.iload_n 3, 1) := by decide +kernel
theorem dX6_agrees_11 : decode cX6_agrees 11 = .ok (.bipush 8, 2) := by decide +kernel
theorem dX6_agrees_13 : decode cX6_agrees 13 = .ok (.if_icmp .ge 31, 3) := by decide +kernel
theorem dX6_agrees_16 : decode cX6_agrees 16 = .ok (.aload_n 0, 1) := by decide +kernel
theorem dX6_agrees_17 : decode cX6_agrees 17 = .ok (.getfield 15, 3) := by decide +kernel
theorem dX6_agrees_20 : decode cX6_agrees 20 = .ok (.iload_n 3, 1) := by decide +kernel
theorem dX6_agrees_21 : decode cX6_agrees 21 = .ok (.iaload, 1) := by decide +kernel
theorem dX6_agrees_22 : decode cX6_agrees 22 = .ok (.iload_n 1, 1) := by decide +kernel
theorem dX6_agrees_23 : decode cX6_agrees 23 = .ok (.if_icmp .ne 15, 3) := by decide +kernel
theorem dX6_agrees_26 : decode cX6_agrees 26 = .ok (.aload_n 0, 1) := by decide +kernel
theorem dX6_agrees_27 : decode cX6_agrees 27 = .ok (.getfield 9, 3) := by decide +kernel
theorem dX6_agrees_30 : decode cX6_agrees 30 = .ok (.iload_n 3, 1) := by decide +kernel
theorem dX6_agrees_31 : decode cX6_agrees 31 = .ok (.iaload, 1) := by decide +kernel
theorem dX6_agrees_32 : decode cX6_agrees 32 = .ok (.iload_n 2, 1) := by decide +kernel
theorem dX6_agrees_33 : decode cX6_agrees 33 = .ok (.if_icmp .eq 5, 3) := by decide +kernel
theorem dX6_agrees_36 : decode cX6_agrees 36 = .ok (.iconst 0, 1) := by decide +kernel
theorem dX6_agrees_37 : decode cX6_agrees 37 = .ok (.ireturn, 1) := by decide +kernel
theorem dX6_agrees_38 : decode cX6_agrees 38 = .ok (.iinc 3 1, 3) := by decide +kernel
theorem dX6_agrees_41 : decode cX6_agrees 41 = .ok (.goto (-39), 3) := by decide +kernel
theorem dX6_agrees_44 : decode cX6_agrees 44 = .ok (.iconst 1, 1) := by decide +kernel
theorem dX6_agrees_45 : decode cX6_agrees 45 = .ok (.ireturn, 1) := by decide +kernel
theorem dX6_lastDay_0 : decode cX6_lastDay 0 = .ok (.iconst (-1), 1) := by decide +kernel
theorem dX6_lastDay_1 : decode cX6_lastDay 1 = .ok (.istore_n 1, 1) := by decide +kernel
theorem dX6_lastDay_2 : decode cX6_lastDay 2 = .ok (.iconst 0, 1) := by decide +kernel
theorem dX6_lastDay_3 : decode cX6_lastDay 3 = .ok (.istore_n 2, 1) := by decide +kernel
theorem dX6_lastDay_4 : decode cX6_lastDay 4 = .ok (.iload_n 2, 1) := by decide +kernel
theorem dX6_lastDay_5 : decode cX6_lastDay 5 = .ok (.aload_n 0, 1) := by decide +kernel
theorem dX6_lastDay_6 : decode cX6_lastDay 6 = .ok (.getfield 18, 3) := by decide +kernel
theorem dX6_lastDay_9 : decode cX6_lastDay 9 = .ok (.if_icmp .ge 26, 3) := by decide +kernel
theorem dX6_lastDay_12 : decode cX6_lastDay 12 = .ok (.iload_n 2, 1) := by decide +kernel
theorem dX6_lastDay_13 : decode cX6_lastDay 13 = .ok (.bipush 8, 2) := by decide +kernel
theorem dX6_lastDay_15 : decode cX6_lastDay 15 = .ok (.if_icmp .ge 20, 3) := by decide +kernel
theorem dX6_lastDay_18 : decode cX6_lastDay 18 = .ok (.iload_n 1, 1) := by decide +kernel
theorem dX6_lastDay_19 : decode cX6_lastDay 19 = .ok (.aload_n 0, 1) := by decide +kernel
theorem dX6_lastDay_20 : decode cX6_lastDay 20 = .ok (.getfield 15, 3) := by decide +kernel
theorem dX6_lastDay_23 : decode cX6_lastDay 23 = .ok (.iload_n 2, 1) := by decide +kernel
theorem dX6_lastDay_24 : decode cX6_lastDay 24 = .ok (.iaload, 1) := by decide +kernel
theorem dX6_lastDay_25 : decode cX6_lastDay 25 = .ok (.invokestatic 22, 3) := by decide +kernel
theorem dX6_lastDay_28 : decode cX6_lastDay 28 = .ok (.istore_n 1, 1) := by decide +kernel
theorem dX6_lastDay_29 : decode cX6_lastDay 29 = .ok (.iinc 2 1, 3) := by decide +kernel
theorem dX6_lastDay_32 : decode cX6_lastDay 32 = .ok (.goto (-28), 3) := by decide +kernel
theorem dX6_lastDay_35 : decode cX6_lastDay 35 = .ok (.iload_n 1, 1) := by decide +kernel
theorem dX6_lastDay_36 : decode cX6_lastDay 36 = .ok (.ireturn, 1) := by decide +kernel
theorem dX7_init_0 : decode cX7_init 0 = .ok (.aload_n 0, 1) := by decide +kernel
theorem dX7_init_1 : decode cX7_init 1 = .ok (.invokespecial 3, 3) := by decide +kernel
theorem dX7_init_4 : decode cX7_init 4 = .ok (.aload_n 0, 1) := by decide +kernel
theorem dX7_init_5 : decode cX7_init 5 = .ok (.bipush 9, 2) := by decide +kernel
theorem dX7_init_7 : decode cX7_init 7 = .ok (.newarray .int, 2) := by decide +kernel
theorem dX7_init_9 : decode cX7_init 9 = .ok (.putfield 9, 3) := by decide +kernel
theorem dX7_init_12 : decode cX7_init 12 = .ok (.aload_n 0, 1) := by decide +kernel
theorem dX7_init_13 : decode cX7_init 13 = .ok (.bipush 9, 2) := by decide +kernel
theorem dX7_init_15 : decode cX7_init 15 = .ok (.newarray .int, 2) := by decide +kernel
theorem dX7_init_17 : decode cX7_init 17 = .ok (.putfield 15, 3) := by decide +kernel
theorem dX7_init_20 : decode cX7_init 20 = .ok (.aload_n 0, 1) := by decide +kernel
theorem dX7_init_21 : decode cX7_init 21 = .ok (.bipush 9, 2) := by decide +kernel
theorem dX7_init_23 : decode cX7_init 23 = .ok (.newarray .int, 2) := by decide +kernel
theorem dX7_init_25 : decode cX7_init 25 = .ok (.putfield 18, 3) := by decide +kernel
theorem dX7_init_28 : decode cX7_init 28 = .ok (.return_, 1) := by decide +kernel
theorem dX7_clear_0 : decode cX7_clear 0 = .ok (.aload_n 0, 1) := by decide +kernel
theorem dX7_clear_1 : decode cX7_clear 1 = .ok (.iconst 0, 1) := by decide +kernel
theorem dX7_clear_2 : decode cX7_clear 2 = .ok (.putfield 21, 3) := by decide +kernel
theorem dX7_clear_5 : decode cX7_clear 5 = .ok (.return_, 1) := by decide +kernel
theorem dX7_add_0 : decode cX7_add 0 = .ok (.aload_n 0, 1) := by decide +kernel
theorem dX7_add_1 : decode cX7_add 1 = .ok (.getfield 21, 3) := by decide +kernel
theorem dX7_add_4 : decode cX7_add 4 = .ok (.bipush 9, 2) := by decide +kernel
theorem dX7_add_6 : decode cX7_add 6 = .ok (.if_icmp .lt 5, 3) := by decide +kernel
theorem dX7_add_9 : decode cX7_add 9 = .ok (.iconst 0, 1) := by decide +kernel
theorem dX7_add_10 : decode cX7_add 10 = .ok (.ireturn, 1) := by decide +kernel
theorem dX7_add_11 : decode cX7_add 11 = .ok (.aload_n 0, 1) := by decide +kernel
theorem dX7_add_12 : decode cX7_add 12 = .ok (.getfield 9, 3) := by decide +kernel
theorem dX7_add_15 : decode cX7_add 15 = .ok (.aload_n 0, 1) := by decide +kernel
theorem dX7_add_16 : decode cX7_add 16 = .ok (.getfield 21, 3) := by decide +kernel
theorem dX7_add_19 : decode cX7_add 19 = .ok (.iload_n 1, 1) := by decide +kernel
theorem dX7_add_20 : decode cX7_add 20 = .ok (.iastore, 1) := by decide +kernel
theorem dX7_add_21 : decode cX7_add 21 = .ok (.aload_n 0, 1) := by decide +kernel
theorem dX7_add_22 : decode cX7_add 22 = .ok (.getfield 15, 3) := by decide +kernel
theorem dX7_add_25 : decode cX7_add 25 = .ok (.aload_n 0, 1) := by decide +kernel
theorem dX7_add_26 : decode cX7_add 26 = .ok (.getfield 21, 3) := by decide +kernel
theorem dX7_add_29 : decode cX7_add 29 = .ok (.iload_n 2, 1) := by decide +kernel
theorem dX7_add_30 : decode cX7_add 30 = .ok (.iastore, 1) := by decide +kernel
theorem dX7_add_31 : decode cX7_add 31 = .ok (.aload_n 0, 1) := by decide +kernel
theorem dX7_add_32 : decode cX7_add 32 = .ok (.getfield 18, 3) := by decide +kernel
theorem dX7_add_35 : decode cX7_add 35 = .ok (.aload_n 0, 1) := by decide +kernel
theorem dX7_add_36 : decode cX7_add 36 = .ok (.getfield 21, 3) := by decide +kernel
theorem dX7_add_39 : decode cX7_add 39 = .ok (.iload_n 3, 1) := by decide +kernel
theorem dX7_add_40 : decode cX7_add 40 = .ok (.iastore, 1) := by decide +kernel
theorem dX7_add_41 : decode cX7_add 41 = .ok (.aload_n 0, 1) := by decide +kernel
theorem dX7_add_42 : decode cX7_add 42 = .ok (.dup, 1) := by decide +kernel
theorem dX7_add_43 : decode cX7_add 43 = .ok (.getfield 21, 3) := by decide +kernel
theorem dX7_add_46 : decode cX7_add 46 = .ok (.iconst 1, 1) := by decide +kernel
theorem dX7_add_47 : decode cX7_add 47 = .ok (.iadd, 1) := by decide +kernel
theorem dX7_add_48 : decode cX7_add 48 = .ok (.putfield 21, 3) := by decide +kernel
theorem dX7_add_51 : decode cX7_add 51 = .ok (.iconst 1, 1) := by decide +kernel
theorem dX7_add_52 : decode cX7_add 52 = .ok (.ireturn, 1) := by decide +kernel
theorem dX7_copyFrom_0 : decode cX7_copyFrom 0 = .ok (.aload_n 0, 1) := by decide +kernel
theorem dX7_copyFrom_1 : decode cX7_copyFrom 1 = .ok (.invokevirtual 25, 3) := by decide +kernel
theorem dX7_copyFrom_4 : decode cX7_copyFrom 4 = .ok (.iconst 0, 1) := by decide +kernel
theorem dX7_copyFrom_5 : decode cX7_copyFrom 5 = .ok (.istore_n 2, 1) := by decide +kernel
theorem dX7_copyFrom_6 : decode cX7_copyFrom 6 = .ok (.iload_n 2, 1) := by decide +kernel
theorem dX7_copyFrom_7 : decode cX7_copyFrom 7 = .ok (.aload_n 1, 1) := by decide +kernel
theorem dX7_copyFrom_8 : decode cX7_copyFrom 8 = .ok (.getfield 21, 3) := by decide +kernel
theorem dX7_copyFrom_11 : decode cX7_copyFrom 11 = .ok (.if_icmp .ge 38, 3) := by decide +kernel
theorem dX7_copyFrom_14 : decode cX7_copyFrom 14 = .ok (.iload_n 2, 1) := by decide +kernel
theorem dX7_copyFrom_15 : decode cX7_copyFrom 15 = .ok (.bipush 9, 2) := by decide +kernel
theorem dX7_copyFrom_17 : decode cX7_copyFrom 17 = .ok (.if_icmp .ge 32, 3) := by decide +kernel
theorem dX7_copyFrom_20 : decode cX7_copyFrom 20 = .ok (.aload_n 0, 1) := by decide +kernel
theorem dX7_copyFrom_21 : decode cX7_copyFrom 21 = .ok (.aload_n 1, 1) := by decide +kernel
theorem dX7_copyFrom_22 : decode cX7_copyFrom 22 = .ok (.getfield 9, 3) := by decide +kernel
theorem dX7_copyFrom_25 : decode cX7_copyFrom 25 = .ok (.iload_n 2, 1) := by decide +kernel
theorem dX7_copyFrom_26 : decode cX7_copyFrom 26 = .ok (.iaload, 1) := by decide +kernel
theorem dX7_copyFrom_27 : decode cX7_copyFrom 27 = .ok (.aload_n 1, 1) := by decide +kernel
theorem dX7_copyFrom_28 : decode cX7_copyFrom 28 = .ok (.getfield 15, 3) := by decide +kernel
theorem dX7_copyFrom_31 : decode cX7_copyFrom 31 = .ok (.iload_n 2, 1) := by decide +kernel
theorem dX7_copyFrom_32 : decode cX7_copyFrom 32 = .ok (.iaload, 1) := by decide +kernel
theorem dX7_copyFrom_33 : decode cX7_copyFrom 33 = .ok (.aload_n 1, 1) := by decide +kernel
theorem dX7_copyFrom_34 : decode cX7_copyFrom 34 = .ok (.getfield 18, 3) := by decide +kernel
theorem dX7_copyFrom_37 : decode cX7_copyFrom 37 = .ok (.iload_n 2, 1) := by decide +kernel
theorem dX7_copyFrom_38 : decode cX7_copyFrom 38 = .ok (.iaload, 1) := by decide +kernel
theorem dX7_copyFrom_39 : decode cX7_copyFrom 39 = .ok (.invokevirtual 28, 3) := by decide +kernel
theorem dX7_copyFrom_42 : decode cX7_copyFrom 42 = .ok (.pop, 1) := by decide +kernel
theorem dX7_copyFrom_43 : decode cX7_copyFrom 43 = .ok (.iinc 2 1, 3) := by decide +kernel
theorem dX7_copyFrom_46 : decode cX7_copyFrom 46 = .ok (.goto (-40), 3) := by decide +kernel
theorem dX7_copyFrom_49 : decode cX7_copyFrom 49 = .ok (.return_, 1) := by decide +kernel
theorem dX8_init_0 : decode cX8_init 0 = .ok (.aload_n 0, 1) := by decide +kernel
theorem dX8_init_1 : decode cX8_init 1 = .ok (.invokespecial 1, 3) := by decide +kernel
theorem dX8_init_4 : decode cX8_init 4 = .ok (.aload_n 0, 1) := by decide +kernel
theorem dX8_init_5 : decode cX8_init 5 = .ok (.new 7, 3) := by decide +kernel
theorem dX8_init_8 : decode cX8_init 8 = .ok (.dup, 1) := by decide +kernel
theorem dX8_init_9 : decode cX8_init 9 = .ok (.invokespecial 9, 3) := by decide +kernel
theorem dX8_init_12 : decode cX8_init 12 = .ok (.putfield 10, 3) := by decide +kernel
theorem dX8_init_15 : decode cX8_init 15 = .ok (.aload_n 0, 1) := by decide +kernel
theorem dX8_init_16 : decode cX8_init 16 = .ok (.new 16, 3) := by decide +kernel
theorem dX8_init_19 : decode cX8_init 19 = .ok (.dup, 1) := by decide +kernel
theorem dX8_init_20 : decode cX8_init 20 = .ok (.invokespecial 18, 3) := by decide +kernel
theorem dX8_init_23 : decode cX8_init 23 = .ok (.putfield 19, 3) := by decide +kernel
theorem dX8_init_26 : decode cX8_init 26 = .ok (.aload_n 0, 1) := by decide +kernel
theorem dX8_init_27 : decode cX8_init 27 = .ok (.new 16, 3) := by decide +kernel
theorem dX8_init_30 : decode cX8_init 30 = .ok (.dup, 1) := by decide +kernel
theorem dX8_init_31 : decode cX8_init 31 = .ok (.invokespecial 18, 3) := by decide +kernel
theorem dX8_init_34 : decode cX8_init 34 = .ok (.putfield 23, 3) := by decide +kernel
theorem dX8_init_37 : decode cX8_init 37 = .ok (.aload_n 0, 1) := by decide +kernel
theorem dX8_init_38 : decode cX8_init 38 = .ok (.new 26, 3) := by decide +kernel
theorem dX8_init_41 : decode cX8_init 41 = .ok (.dup, 1) := by decide +kernel
theorem dX8_init_42 : decode cX8_init 42 = .ok (.invokespecial 28, 3) := by decide +kernel
theorem dX8_init_45 : decode cX8_init 45 = .ok (.putfield 29, 3) := by decide +kernel
theorem dX8_init_48 : decode cX8_init 48 = .ok (.aload_n 0, 1) := by decide +kernel
theorem dX8_init_49 : decode cX8_init 49 = .ok (.new 33, 3) := by decide +kernel
theorem dX8_init_52 : decode cX8_init 52 = .ok (.dup, 1) := by decide +kernel
theorem dX8_init_53 : decode cX8_init 53 = .ok (.bipush 8, 2) := by decide +kernel
theorem dX8_init_55 : decode cX8_init 55 = .ok (.invokespecial 35, 3) := by decide +kernel
theorem dX8_init_58 : decode cX8_init 58 = .ok (.putfield 38, 3) := by decide +kernel
theorem dX8_init_61 : decode cX8_init 61 = .ok (.aload_n 0, 1) := by decide +kernel
theorem dX8_init_62 : decode cX8_init 62 = .ok (.new 33, 3) := by decide +kernel
theorem dX8_init_65 : decode cX8_init 65 = .ok (.dup, 1) := by decide +kernel
theorem dX8_init_66 : decode cX8_init 66 = .ok (.iconst 2, 1) := by decide +kernel
theorem dX8_init_67 : decode cX8_init 67 = .ok (.invokespecial 35, 3) := by decide +kernel
theorem dX8_init_70 : decode cX8_init 70 = .ok (.putfield 42, 3) := by decide +kernel
theorem dX8_init_73 : decode cX8_init 73 = .ok (.aload_n 0, 1) := by decide +kernel
theorem dX8_init_74 : decode cX8_init 74 = .ok (.new 45, 3) := by decide +kernel
theorem dX8_init_77 : decode cX8_init 77 = .ok (.dup, 1) := by decide +kernel
theorem dX8_init_78 : decode cX8_init 78 = .ok (.invokespecial 47, 3) := by decide +kernel
theorem dX8_init_81 : decode cX8_init 81 = .ok (.putfield 48, 3) := by decide +kernel
theorem dX8_init_84 : decode cX8_init 84 = .ok (.aload_n 0, 1) := by decide +kernel
theorem dX8_init_85 : decode cX8_init 85 = .ok (.new 52, 3) := by decide +kernel
theorem dX8_init_88 : decode cX8_init 88 = .ok (.dup, 1) := by decide +kernel
theorem dX8_init_89 : decode cX8_init 89 = .ok (.aload_n 0, 1) := by decide +kernel
theorem dX8_init_90 : decode cX8_init 90 = .ok (.getfield 23, 3) := by decide +kernel
theorem dX8_init_93 : decode cX8_init 93 = .ok (.invokespecial 54, 3) := by decide +kernel
theorem dX8_init_96 : decode cX8_init 96 = .ok (.putfield 57, 3) := by decide +kernel
theorem dX8_init_99 : decode cX8_init 99 = .ok (.aload_n 0, 1) := by decide +kernel
theorem dX8_init_100 : decode cX8_init 100 = .ok (.new 61, 3) := by decide +kernel
theorem dX8_init_103 : decode cX8_init 103 = .ok (.dup, 1) := by decide +kernel
theorem dX8_init_104 : decode cX8_init 104 = .ok (.aload_n 0, 1) := by decide +kernel
theorem dX8_init_105 : decode cX8_init 105 = .ok (.getfield 23, 3) := by decide +kernel
theorem dX8_init_108 : decode cX8_init 108 = .ok (.aload_n 0, 1) := by decide +kernel
theorem dX8_init_109 : decode cX8_init 109 = .ok (.getfield 57, 3) := by decide +kernel
theorem dX8_init_112 : decode cX8_init 112 = .ok (.invokespecial 63, 3) := by decide +kernel
theorem dX8_init_115 : decode cX8_init 115 = .ok (.putfield 66, 3) := by decide +kernel
theorem dX8_init_118 : decode cX8_init 118 = .ok (.aload_n 0, 1) := by decide +kernel
theorem dX8_init_119 : decode cX8_init 119 = .ok (.bipush 6, 2) := by decide +kernel
theorem dX8_init_121 : decode cX8_init 121 = .ok (.newarray .int, 2) := by decide +kernel
theorem dX8_init_123 : decode cX8_init 123 = .ok (.putfield 70, 3) := by decide +kernel
theorem dX8_init_126 : decode cX8_init 126 = .ok (.iconst 0, 1) := by decide +kernel
theorem dX8_init_127 : decode cX8_init 127 = .ok (.istore_n 1, 1) := by decide +kernel
theorem dX8_init_128 : decode cX8_init 128 = .ok (.iload_n 1, 1) := by decide +kernel
theorem dX8_init_129 : decode cX8_init 129 = .ok (.ldc 74, 2) := by decide +kernel
theorem dX8_init_131 : decode cX8_init 131 = .ok (.invokevirtual 76, 3) := by decide +kernel
theorem dX8_init_134 : decode cX8_init 134 = .ok (.if_icmp .ge 23, 3) := by decide +kernel
theorem dX8_init_137 : decode cX8_init 137 = .ok (.aload_n 0, 1) := by decide +kernel
theorem dX8_init_138 : decode cX8_init 138 = .ok (.getfield 10, 3) := by decide +kernel
theorem dX8_init_141 : decode cX8_init 141 = .ok (.ldc 74, 2) := by decide +kernel
theorem dX8_init_143 : decode cX8_init 143 = .ok (.iload_n 1, 1) := by decide +kernel
theorem dX8_init_144 : decode cX8_init 144 = .ok (.invokevirtual 82, 3) := by decide +kernel
theorem dX8_init_147 : decode cX8_init 147 = .ok (.invokevirtual 86, 3) := by decide +kernel
theorem dX8_init_150 : decode cX8_init 150 = .ok (.pop, 1) := by decide +kernel
theorem dX8_init_151 : decode cX8_init 151 = .ok (.iinc 1 1, 3) := by decide +kernel
theorem dX8_init_154 : decode cX8_init 154 = .ok (.goto (-26), 3) := by decide +kernel
theorem dX8_init_157 : decode cX8_init 157 = .ok (.aload_n 0, 1) := by decide +kernel
theorem dX8_init_158 : decode cX8_init 158 = .ok (.getfield 23, 3) := by decide +kernel
theorem dX8_init_161 : decode cX8_init 161 = .ok (.aload_n 0, 1) := by decide +kernel
theorem dX8_init_162 : decode cX8_init 162 = .ok (.getfield 10, 3) := by decide +kernel
theorem dX8_init_165 : decode cX8_init 165 = .ok (.invokevirtual 90, 3) := by decide +kernel
theorem dX8_init_168 : decode cX8_init 168 = .ok (.pop, 1) := by decide +kernel
theorem dX8_init_169 : decode cX8_init 169 = .ok (.aload_n 0, 1) := by decide +kernel
theorem dX8_init_170 : decode cX8_init 170 = .ok (.getfield 29, 3) := by decide +kernel
theorem dX8_init_173 : decode cX8_init 173 = .ok (.aload_n 0, 1) := by decide +kernel
theorem dX8_init_174 : decode cX8_init 174 = .ok (.getfield 23, 3) := by decide +kernel
theorem dX8_init_177 : decode cX8_init 177 = .ok (.invokevirtual 94, 3) := by decide +kernel
theorem dX8_init_180 : decode cX8_init 180 = .ok (.aload_n 0, 1) := by decide +kernel
theorem dX8_init_181 : decode cX8_init 181 = .ok (.getfield 10, 3) := by decide +kernel
theorem dX8_init_184 : decode cX8_init 184 = .ok (.invokevirtual 97, 3) := by decide +kernel
theorem dX8_init_187 : decode cX8_init 187 = .ok (.return_, 1) := by decide +kernel
theorem dX8_write_0 : decode cX8_write 0 = .ok (.iload_n 1, 1) := by decide +kernel
theorem dX8_write_1 : decode cX8_write 1 = .ok (.bipush 32, 2) := by decide +kernel
theorem dX8_write_3 : decode cX8_write 3 = .ok (.if_icmp .lt 9, 3) := by decide +kernel
theorem dX8_write_6 : decode cX8_write 6 = .ok (.iload_n 1, 1) := by decide +kernel
theorem dX8_write_7 : decode cX8_write 7 = .ok (.bipush 126, 2) := by decide +kernel
theorem dX8_write_9 : decode cX8_write 9 = .ok (.if_icmp .le 5, 3) := by decide +kernel
theorem dX8_write_12 : decode cX8_write 12 = .ok (.iconst (-1), 1) := by decide +kernel
theorem dX8_write_13 : decode cX8_write 13 = .ok (.ireturn, 1) := by decide +kernel
theorem dX8_write_14 : decode cX8_write 14 = .ok (.aload_n 0, 1) := by decide +kernel
theorem dX8_write_15 : decode cX8_write 15 = .ok (.getfield 10, 3) := by decide +kernel
theorem dX8_write_18 : decode cX8_write 18 = .ok (.iload_n 1, 1) := by decide +kernel
theorem dX8_write_19 : decode cX8_write 19 = .ok (.invokevirtual 86, 3) := by decide +kernel
theorem dX8_write_22 : decode cX8_write 22 = .ok (.ifCond .eq 13, 3) := by decide +kernel
theorem dX8_write_25 : decode cX8_write 25 = .ok (.aload_n 0, 1) := by decide +kernel
theorem dX8_write_26 : decode cX8_write 26 = .ok (.getfield 10, 3) := by decide +kernel
theorem dX8_write_29 : decode cX8_write 29 = .ok (.getfield 100, 3) := by decide +kernel
theorem dX8_write_32 : decode cX8_write 32 = .ok (.goto 5, 3) := by decide +kernel
theorem dX8_write_35 : decode cX8_write 35 = .ok (.bipush (-3), 2) := by decide +kernel
theorem dX8_write_37 : decode cX8_write 37 = .ok (.ireturn, 1) := by decide +kernel
theorem dX8_wipe_0 : decode cX8_wipe 0 = .ok (.aload_n 0, 1) := by decide +kernel
theorem dX8_wipe_1 : decode cX8_wipe 1 = .ok (.getfield 10, 3) := by decide +kernel
theorem dX8_wipe_4 : decode cX8_wipe 4 = .ok (.getfield 100, 3) := by decide +kernel
theorem dX8_wipe_7 : decode cX8_wipe 7 = .ok (.istore_n 1, 1) := by decide +kernel
theorem dX8_wipe_8 : decode cX8_wipe 8 = .ok (.aload_n 0, 1) := by decide +kernel
theorem dX8_wipe_9 : decode cX8_wipe 9 = .ok (.getfield 10, 3) := by decide +kernel
theorem dX8_wipe_12 : decode cX8_wipe 12 = .ok (.invokevirtual 97, 3) := by decide +kernel
theorem dX8_wipe_15 : decode cX8_wipe 15 = .ok (.iload_n 1, 1) := by decide +kernel
theorem dX8_wipe_16 : decode cX8_wipe 16 = .ok (.ireturn, 1) := by decide +kernel
theorem dX8_fault_0 : decode cX8_fault 0 = .ok (.aload_n 0, 1) := by decide +kernel
theorem dX8_fault_1 : decode cX8_fault 1 = .ok (.getfield 19, 3) := by decide +kernel
theorem dX8_fault_4 : decode cX8_fault 4 = .ok (.aload_n 0, 1) := by decide +kernel
theorem dX8_fault_5 : decode cX8_fault 5 = .ok (.getfield 10, 3) := by decide +kernel
theorem dX8_fault_8 : decode cX8_fault 8 = .ok (.invokevirtual 90, 3) := by decide +kernel
theorem dX8_fault_11 : decode cX8_fault 11 = .ok (.ireturn, 1) := by decide +kernel
theorem dX8_lay_0 : decode cX8_lay 0 = .ok (.aload_n 0, 1) := by decide +kernel
theorem dX8_lay_1 : decode cX8_lay 1 = .ok (.getfield 19, 3) := by decide +kernel
theorem dX8_lay_4 : decode cX8_lay 4 = .ok (.aload_n 0, 1) := by decide +kernel
theorem dX8_lay_5 : decode cX8_lay 5 = .ok (.getfield 10, 3) := by decide +kernel
theorem dX8_lay_8 : decode cX8_lay 8 = .ok (.invokevirtual 90, 3) := by decide +kernel
theorem dX8_lay_11 : decode cX8_lay 11 = .ok (.bipush (-4), 2) := by decide +kernel
theorem dX8_lay_13 : decode cX8_lay 13 = .ok (.if_icmp .ne 13, 3) := by decide +kernel
theorem dX8_lay_16 : decode cX8_lay 16 = .ok (.aload_n 0, 1) := by decide +kernel
theorem dX8_lay_17 : decode cX8_lay 17 = .ok (.getfield 19, 3) := by decide +kernel
theorem dX8_lay_20 : decode cX8_lay 20 = .ok (.getfield 103, 3) := by decide +kernel
theorem dX8_lay_23 : decode cX8_lay 23 = .ok (.ifCond .ne 6, 3) := by decide +kernel
theorem dX8_lay_26 : decode cX8_lay 26 = .ok (.bipush (-2), 2) := by decide +kernel
theorem dX8_lay_28 : decode cX8_lay 28 = .ok (.ireturn, 1) := by decide +kernel
theorem dX8_lay_29 : decode cX8_lay 29 = .ok (.aload_n 0, 1) := by decide +kernel
theorem dX8_lay_30 : decode cX8_lay 30 = .ok (.getfield 23, 3) := by decide +kernel
theorem dX8_lay_33 : decode cX8_lay 33 = .ok (.aload_n 0, 1) := by decide +kernel
theorem dX8_lay_34 : decode cX8_lay 34 = .ok (.getfield 10, 3) := by decide +kernel
theorem dX8_lay_37 : decode cX8_lay 37 = .ok (.invokevirtual 90, 3) := by decide +kernel
theorem dX8_lay_40 : decode cX8_lay 40 = .ok (.pop, 1) := by decide +kernel
theorem dX8_lay_41 : decode cX8_lay 41 = .ok (.aload_n 0, 1) := by decide +kernel
theorem dX8_lay_42 : decode cX8_lay 42 = .ok (.getfield 29, 3) := by decide +kernel
theorem dX8_lay_45 : decode cX8_lay 45 = .ok (.aload_n 0, 1) := by decide +kernel
theorem dX8_lay_46 : decode cX8_lay 46 = .ok (.getfield 23, 3) := by decide +kernel
theorem dX8_lay_49 : decode cX8_lay 49 = .ok (.invokevirtual 94, 3) := by decide +kernel
theorem dX8_lay_52 : decode cX8_lay 52 = .ok (.aload_n 0, 1) := by decide +kernel
theorem dX8_lay_53 : decode cX8_lay 53 = .ok (.getfield 38, 3) := by decide +kernel
theorem dX8_lay_56 : decode cX8_lay 56 = .ok (.invokevirtual 106, 3) := by decide +kernel
theorem dX8_lay_59 : decode cX8_lay 59 = .ok (.aload_n 0, 1) := by decide +kernel
theorem dX8_lay_60 : decode cX8_lay 60 = .ok (.getfield 42, 3) := by decide +kernel
theorem dX8_lay_63 : decode cX8_lay 63 = .ok (.invokevirtual 106, 3) := by decide +kernel
theorem dX8_lay_66 : decode cX8_lay 66 = .ok (.aload_n 0, 1) := by decide +kernel
theorem dX8_lay_67 : decode cX8_lay 67 = .ok (.getfield 48, 3) := by decide +kernel
theorem dX8_lay_70 : decode cX8_lay 70 = .ok (.invokevirtual 107, 3) := by decide +kernel
theorem dX8_lay_73 : decode cX8_lay 73 = .ok (.aload_n 0, 1) := by decide +kernel
theorem dX8_lay_74 : decode cX8_lay 74 = .ok (.getfield 23, 3) := by decide +kernel
theorem dX8_lay_77 : decode cX8_lay 77 = .ok (.getfield 103, 3) := by decide +kernel
theorem dX8_lay_80 : decode cX8_lay 80 = .ok (.ireturn, 1) := by decide +kernel
theorem dX8_person_0 : decode cX8_person 0 = .ok (.aload_n 0, 1) := by decide +kernel
theorem dX8_person_1 : decode cX8_person 1 = .ok (.iload_n 1, 1) := by decide +kernel
theorem dX8_person_2 : decode cX8_person 2 = .ok (.invokevirtual 108, 3) := by decide +kernel
theorem dX8_person_5 : decode cX8_person 5 = .ok (.ifCond .ne 5, 3) := by decide +kernel
theorem dX8_person_8 : decode cX8_person 8 = .ok (.iconst (-1), 1) := by decide +kernel
theorem dX8_person_9 : decode cX8_person 9 = .ok (.ireturn, 1) := by decide +kernel
theorem dX8_person_10 : decode cX8_person 10 = .ok (.iload_n 2, 1) := by decide +kernel
theorem dX8_person_11 : decode cX8_person 11 = .ok (.tableswitch 79 0 4 #[33, 43, 53, 63, 69], 33) := by decide +kernel
theorem dX8_person_44 : decode cX8_person 44 = .ok (.aload_n 0, 1) := by decide +kernel
theorem dX8_person_45 : decode cX8_person 45 = .ok (.getfield 23, 3) := by decide +kernel
theorem dX8_person_48 : decode cX8_person 48 = .ok (.getfield 111, 3) := by decide +kernel
theorem dX8_person_51 : decode cX8_person 51 = .ok (.iload_n 1, 1) := by decide +kernel
theorem dX8_person_52 : decode cX8_person 52 = .ok (.iaload, 1) := by decide +kernel
theorem dX8_person_53 : decode cX8_person 53 = .ok (.ireturn, 1) := by decide +kernel
theorem dX8_person_54 : decode cX8_person 54 = .ok (.aload_n 0, 1) := by decide +kernel
theorem dX8_person_55 : decode cX8_person 55 = .ok (.getfield 23, 3) := by decide +kernel
theorem dX8_person_58 : decode cX8_person 58 = .ok (.getfield 114, 3) := by decide +kernel
theorem dX8_person_61 : decode cX8_person 61 = .ok (.iload_n 1, 1) := by decide +kernel
theorem dX8_person_62 : decode cX8_person 62 = .ok (.iaload, 1) := by decide +kernel
theorem dX8_person_63 : decode cX8_person 63 = .ok (.ireturn, 1) := by decide +kernel
theorem dX8_person_64 : decode cX8_person 64 = .ok (.aload_n 0, 1) := by decide +kernel
theorem dX8_person_65 : decode cX8_person 65 = .ok (.getfield 23, 3) := by decide +kernel
theorem dX8_person_68 : decode cX8_person 68 = .ok (.getfield 117, 3) := by decide +kernel
theorem dX8_person_71 : decode cX8_person 71 = .ok (.iload_n 1, 1) := by decide +kernel
theorem dX8_person_72 : decode cX8_person 72 = .ok (.iaload, 1) := by decide +kernel
theorem dX8_person_73 : decode cX8_person 73 = .ok (.ireturn, 1) := by decide +kernel
theorem dX8_person_74 : decode cX8_person 74 = .ok (.aload_n 0, 1) := by decide +kernel
theorem dX8_person_75 : decode cX8_person 75 = .ok (.iload_n 1, 1) := by decide +kernel
theorem dX8_person_76 : decode cX8_person 76 = .ok (.invokevirtual 120, 3) := by decide +kernel
theorem dX8_person_79 : decode cX8_person 79 = .ok (.ireturn, 1) := by decide +kernel
theorem dX8_person_80 : decode cX8_person 80 = .ok (.aload_n 0, 1) := by decide +kernel
theorem dX8_person_81 : decode cX8_person 81 = .ok (.getfield 29, 3) := by decide +kernel
theorem dX8_person_84 : decode cX8_person 84 = .ok (.getfield 124, 3) := by decide +kernel
theorem dX8_person_87 : decode cX8_person 87 = .ok (.iload_n 1, 1) := by decide +kernel
theorem dX8_person_88 : decode cX8_person 88 = .ok (.iaload, 1) := by decide +kernel
theorem dX8_person_89 : decode cX8_person 89 = .ok (.ireturn, 1) := by decide +kernel
theorem dX8_person_90 : decode cX8_person 90 = .ok (.iconst (-1), 1) := by decide +kernel
theorem dX8_person_91 : decode cX8_person 91 = .ok (.ireturn, 1) := by decide +kernel
theorem dX8_thing_0 : decode cX8_thing 0 = .ok (.aload_n 0, 1) := by decide +kernel
theorem dX8_thing_1 : decode cX8_thing 1 = .ok (.iload_n 1, 1) := by decide +kernel
theorem dX8_thing_2 : decode cX8_thing 2 = .ok (.invokevirtual 127, 3) := by decide +kernel
theorem dX8_thing_5 : decode cX8_thing 5 = .ok (.ifCond .ne 5, 3) := by decide +kernel
theorem dX8_thing_8 : decode cX8_thing 8 = .ok (.iconst (-1), 1) := by decide +kernel
theorem dX8_thing_9 : decode cX8_thing 9 = .ok (.ireturn, 1) := by decide +kernel
theorem dX8_thing_10 : decode cX8_thing 10 = .ok (.iload_n 2, 1) := by decide +kernel
theorem dX8_thing_11 : decode cX8_thing 11 = .ok (.tableswitch 85 0 3 #[29, 42, 55, 68], 29) := by decide +kernel
theorem dX8_thing_40 : decode cX8_thing 40 = .ok (.aload_n 0, 1) := by decide +kernel
theorem dX8_thing_41 : decode cX8_thing 41 = .ok (.getfield 29, 3) := by decide +kernel
theorem dX8_thing_44 : decode cX8_thing 44 = .ok (.getfield 130, 3) := by decide +kernel
theorem dX8_thing_47 : decode cX8_thing 47 = .ok (.getfield 134, 3) := by decide +kernel
theorem dX8_thing_50 : decode cX8_thing 50 = .ok (.iload_n 1, 1) := by decide +kernel
theorem dX8_thing_51 : decode cX8_thing 51 = .ok (.iaload, 1) := by decide +kernel
theorem dX8_thing_52 : decode cX8_thing 52 = .ok (.ireturn, 1) := by decide +kernel
theorem dX8_thing_53 : decode cX8_thing 53 = .ok (.aload_n 0, 1) := by decide +kernel
theorem dX8_thing_54 : decode cX8_thing 54 = .ok (.getfield 29, 3) := by decide +kernel
theorem dX8_thing_57 : decode cX8_thing 57 = .ok (.getfield 130, 3) := by decide +kernel
theorem dX8_thing_60 : decode cX8_thing 60 = .ok (.getfield 139, 3) := by decide +kernel
theorem dX8_thing_63 : decode cX8_thing 63 = .ok (.iload_n 1, 1) := by decide +kernel
theorem dX8_thing_64 : decode cX8_thing 64 = .ok (.iaload, 1) := by decide +kernel
theorem dX8_thing_65 : decode cX8_thing 65 = .ok (.ireturn, 1) := by decide +kernel
theorem dX8_thing_66 : decode cX8_thing 66 = .ok (.aload_n 0, 1) := by decide +kernel
theorem dX8_thing_67 : decode cX8_thing 67 = .ok (.getfield 29, 3) := by decide +kernel
theorem dX8_thing_70 : decode cX8_thing 70 = .ok (.getfield 130, 3) := by decide +kernel
theorem dX8_thing_73 : decode cX8_thing 73 = .ok (.getfield 142, 3) := by decide +kernel
theorem dX8_thing_76 : decode cX8_thing 76 = .ok (.iload_n 1, 1) := by decide +kernel
theorem dX8_thing_77 : decode cX8_thing 77 = .ok (.iaload, 1) := by decide +kernel
theorem dX8_thing_78 : decode cX8_thing 78 = .ok (.ireturn, 1) := by decide +kernel
theorem dX8_thing_79 : decode cX8_thing 79 = .ok (.aload_n 0, 1) := by decide +kernel
theorem dX8_thing_80 : decode cX8_thing 80 = .ok (.getfield 29, 3) := by decide +kernel
theorem dX8_thing_83 : decode cX8_thing 83 = .ok (.iload_n 1, 1) := by decide +kernel
theorem dX8_thing_84 : decode cX8_thing 84 = .ok (.invokevirtual 145, 3) := by decide +kernel
theorem dX8_thing_87 : decode cX8_thing 87 = .ok (.ifCond .eq 7, 3) := by decide +kernel
theorem dX8_thing_90 : decode cX8_thing 90 = .ok (.iconst 1, 1) := by decide +kernel
theorem dX8_thing_91 : decode cX8_thing 91 = .ok (.goto 4, 3) := by decide +kernel
theorem dX8_thing_94 : decode cX8_thing 94 = .ok (.iconst 0, 1) := by decide +kernel
theorem dX8_thing_95 : decode cX8_thing 95 = .ok (.ireturn, 1) := by decide +kernel
theorem dX8_thing_96 : decode cX8_thing 96 = .ok (.iconst (-1), 1) := by decide +kernel
theorem dX8_thing_97 : decode cX8_thing 97 = .ok (.ireturn, 1) := by decide +kernel
theorem dX8_pass_0 : decode cX8_pass 0 = .ok (.iload_n 1, 1) := by decide +kernel
theorem dX8_pass_1 : decode cX8_pass 1 = .ok (.iconst 1, 1) := by decide +kernel
theorem dX8_pass_2 : decode cX8_pass 2 = .ok (.if_icmp .lt 9, 3) := by decide +kernel
theorem dX8_pass_5 : decode cX8_pass 5 = .ok (.iload_n 1, 1) := by decide +kernel
theorem dX8_pass_6 : decode cX8_pass 6 = .ok (.bipush 20, 2) := by decide +kernel
theorem dX8_pass_8 : decode cX8_pass 8 = .ok (.if_icmp .le 5, 3) := by decide +kernel
theorem dX8_pass_11 : decode cX8_pass 11 = .ok (.iconst (-1), 1) := by decide +kernel
theorem dX8_pass_12 : decode cX8_pass 12 = .ok (.ireturn, 1) := by decide +kernel
theorem dX8_pass_13 : decode cX8_pass 13 = .ok (.aload_n 0, 1) := by decide +kernel
theorem dX8_pass_14 : decode cX8_pass 14 = .ok (.getfield 29, 3) := by decide +kernel
theorem dX8_pass_17 : decode cX8_pass 17 = .ok (.getfield 148, 3) := by decide +kernel
theorem dX8_pass_20 : decode cX8_pass 20 = .ok (.iload_n 1, 1) := by decide +kernel
theorem dX8_pass_21 : decode cX8_pass 21 = .ok (.iadd, 1) := by decide +kernel
theorem dX8_pass_22 : decode cX8_pass 22 = .ok (.sipush 999, 3) := by decide +kernel
theorem dX8_pass_25 : decode cX8_pass 25 = .ok (.if_icmp .le 6, 3) := by decide +kernel
theorem dX8_pass_28 : decode cX8_pass 28 = .ok (.bipush (-2), 2) := by decide +kernel
theorem dX8_pass_30 : decode cX8_pass 30 = .ok (.ireturn, 1) := by decide +kernel
theorem dX8_pass_31 : decode cX8_pass 31 = .ok (.aload_n 0, 1) := by decide +kernel
theorem dX8_pass_32 : decode cX8_pass 32 = .ok (.getfield 38, 3) := by decide +kernel
theorem dX8_pass_35 : decode cX8_pass 35 = .ok (.aload_n 0, 1) := by decide +kernel
theorem dX8_pass_36 : decode cX8_pass 36 = .ok (.getfield 29, 3) := by decide +kernel
theorem dX8_pass_39 : decode cX8_pass 39 = .ok (.invokevirtual 150, 3) := by decide +kernel
theorem dX8_pass_42 : decode cX8_pass 42 = .ok (.aload_n 0, 1) := by decide +kernel
theorem dX8_pass_43 : decode cX8_pass 43 = .ok (.iload_n 1, 1) := by decide +kernel
theorem dX8_pass_44 : decode cX8_pass 44 = .ok (.invokevirtual 154, 3) := by decide +kernel
theorem dX8_pass_47 : decode cX8_pass 47 = .ok (.aload_n 0, 1) := by decide +kernel
theorem dX8_pass_48 : decode cX8_pass 48 = .ok (.getfield 66, 3) := by decide +kernel
theorem dX8_pass_51 : decode cX8_pass 51 = .ok (.aload_n 0, 1) := by decide +kernel
theorem dX8_pass_52 : decode cX8_pass 52 = .ok (.getfield 29, 3) := by decide +kernel
theorem dX8_pass_55 : decode cX8_pass 55 = .ok (.invokevirtual 157, 3) := by decide +kernel
theorem dX8_pass_58 : decode cX8_pass 58 = .ok (.iconst 0, 1) := by decide +kernel
theorem dX8_pass_59 : decode cX8_pass 59 = .ok (.istore_n 2, 1) := by decide +kernel
theorem dX8_pass_60 : decode cX8_pass 60 = .ok (.iconst 0, 1) := by decide +kernel
theorem dX8_pass_61 : decode cX8_pass 61 = .ok (.istore_n 3, 1) := by decide +kernel
theorem dX8_pass_62 : decode cX8_pass 62 = .ok (.iload_n 3, 1) := by decide +kernel
theorem dX8_pass_63 : decode cX8_pass 63 = .ok (.iload_n 1, 1) := by decide +kernel
theorem dX8_pass_64 : decode cX8_pass 64 = .ok (.if_icmp .ge 37, 3) := by decide +kernel
theorem dX8_pass_67 : decode cX8_pass 67 = .ok (.aload_n 0, 1) := by decide +kernel
theorem dX8_pass_68 : decode cX8_pass 68 = .ok (.getfield 29, 3) := by decide +kernel
theorem dX8_pass_71 : decode cX8_pass 71 = .ok (.aload_n 0, 1) := by decide +kernel
theorem dX8_pass_72 : decode cX8_pass 72 = .ok (.getfield 66, 3) := by decide +kernel
theorem dX8_pass_75 : decode cX8_pass 75 = .ok (.invokevirtual 160, 3) := by decide +kernel
theorem dX8_pass_78 : decode cX8_pass 78 = .ok (.invokevirtual 163, 3) := by decide +kernel
theorem dX8_pass_81 : decode cX8_pass 81 = .ok (.aload_n 0, 1) := by decide +kernel
theorem dX8_pass_82 : decode cX8_pass 82 = .ok (.getfield 66, 3) := by decide +kernel
theorem dX8_pass_85 : decode cX8_pass 85 = .ok (.iload_n 3, 1) := by decide +kernel
theorem dX8_pass_86 : decode cX8_pass 86 = .ok (.invokevirtual 166, 3) := by decide +kernel
theorem dX8_pass_89 : decode cX8_pass 89 = .ok (.ifCond .eq 6, 3) := by decide +kernel
theorem dX8_pass_92 : decode cX8_pass 92 = .ok (.iinc 2 1, 3) := by decide +kernel
theorem dX8_pass_95 : decode cX8_pass 95 = .ok (.iinc 3 1, 3) := by decide +kernel
theorem dX8_pass_98 : decode cX8_pass 98 = .ok (.goto (-36), 3) := by decide +kernel
theorem dX8_pass_101 : decode cX8_pass 101 = .ok (.aload_n 0, 1) := by decide +kernel
theorem dX8_pass_102 : decode cX8_pass 102 = .ok (.getfield 29, 3) := by decide +kernel
theorem dX8_pass_105 : decode cX8_pass 105 = .ok (.dup, 1) := by decide +kernel
theorem dX8_pass_106 : decode cX8_pass 106 = .ok (.getfield 148, 3) := by decide +kernel
theorem dX8_pass_109 : decode cX8_pass 109 = .ok (.iload_n 1, 1) := by decide +kernel
theorem dX8_pass_110 : decode cX8_pass 110 = .ok (.iadd, 1) := by decide +kernel
theorem dX8_pass_111 : decode cX8_pass 111 = .ok (.putfield 148, 3) := by decide +kernel
theorem dX8_pass_114 : decode cX8_pass 114 = .ok (.aload_n 0, 1) := by decide +kernel
theorem dX8_pass_115 : decode cX8_pass 115 = .ok (.getfield 29, 3) := by decide +kernel
theorem dX8_pass_118 : decode cX8_pass 118 = .ok (.aload_n 0, 1) := by decide +kernel
theorem dX8_pass_119 : decode cX8_pass 119 = .ok (.getfield 66, 3) := by decide +kernel
theorem dX8_pass_122 : decode cX8_pass 122 = .ok (.invokevirtual 160, 3) := by decide +kernel
theorem dX8_pass_125 : decode cX8_pass 125 = .ok (.putfield 169, 3) := by decide +kernel
theorem dX8_pass_128 : decode cX8_pass 128 = .ok (.aload_n 0, 1) := by decide +kernel
theorem dX8_pass_129 : decode cX8_pass 129 = .ok (.getfield 29, 3) := by decide +kernel
theorem dX8_pass_132 : decode cX8_pass 132 = .ok (.aload_n 0, 1) := by decide +kernel
theorem dX8_pass_133 : decode cX8_pass 133 = .ok (.getfield 66, 3) := by decide +kernel
theorem dX8_pass_136 : decode cX8_pass 136 = .ok (.getfield 172, 3) := by decide +kernel
theorem dX8_pass_139 : decode cX8_pass 139 = .ok (.putfield 175, 3) := by decide +kernel
theorem dX8_pass_142 : decode cX8_pass 142 = .ok (.iload_n 2, 1) := by decide +kernel
theorem dX8_pass_143 : decode cX8_pass 143 = .ok (.ireturn, 1) := by decide +kernel
theorem dX8_hide_0 : decode cX8_hide 0 = .ok (.aload_n 0, 1) := by decide +kernel
theorem dX8_hide_1 : decode cX8_hide 1 = .ok (.iload_n 1, 1) := by decide +kernel
theorem dX8_hide_2 : decode cX8_hide 2 = .ok (.invokevirtual 127, 3) := by decide +kernel
theorem dX8_hide_5 : decode cX8_hide 5 = .ok (.ifCond .ne 5, 3) := by decide +kernel
theorem dX8_hide_8 : decode cX8_hide 8 = .ok (.iconst (-1), 1) := by decide +kernel
theorem dX8_hide_9 : decode cX8_hide 9 = .ok (.ireturn, 1) := by decide +kernel
theorem dX8_hide_10 : decode cX8_hide 10 = .ok (.aload_n 0, 1) := by decide +kernel
theorem dX8_hide_11 : decode cX8_hide 11 = .ok (.getfield 38, 3) := by decide +kernel
theorem dX8_hide_14 : decode cX8_hide 14 = .ok (.aload_n 0, 1) := by decide +kernel
theorem dX8_hide_15 : decode cX8_hide 15 = .ok (.getfield 29, 3) := by decide +kernel
theorem dX8_hide_18 : decode cX8_hide 18 = .ok (.invokevirtual 150, 3) := by decide +kernel
theorem dX8_hide_21 : decode cX8_hide 21 = .ok (.aload_n 0, 1) := by decide +kernel
theorem dX8_hide_22 : decode cX8_hide 22 = .ok (.getfield 29, 3) := by decide +kernel
theorem dX8_hide_25 : decode cX8_hide 25 = .ok (.dup, 1) := by decide +kernel
theorem dX8_hide_26 : decode cX8_hide 26 = .ok (.getfield 176, 3) := by decide +kernel
theorem dX8_hide_29 : decode cX8_hide 29 = .ok (.iconst 1, 1) := by decide +kernel
theorem dX8_hide_30 : decode cX8_hide 30 = .ok (.iload_n 1, 1) := by decide +kernel
theorem dX8_hide_31 : decode cX8_hide 31 = .ok (.ishl, 1) := by decide +kernel
theorem dX8_hide_32 : decode cX8_hide 32 = .ok (.ixor, 1) := by decide +kernel
theorem dX8_hide_33 : decode cX8_hide 33 = .ok (.putfield 176, 3) := by decide +kernel
theorem dX8_hide_36 : decode cX8_hide 36 = .ok (.aload_n 0, 1) := by decide +kernel
theorem dX8_hide_37 : decode cX8_hide 37 = .ok (.getfield 29, 3) := by decide +kernel
theorem dX8_hide_40 : decode cX8_hide 40 = .ok (.iload_n 1, 1) := by decide +kernel
theorem dX8_hide_41 : decode cX8_hide 41 = .ok (.invokevirtual 145, 3) := by decide +kernel
theorem dX8_hide_44 : decode cX8_hide 44 = .ok (.ifCond .eq 7, 3) := by decide +kernel
theorem dX8_hide_47 : decode cX8_hide 47 = .ok (.iconst 1, 1) := by decide +kernel
theorem dX8_hide_48 : decode cX8_hide 48 = .ok (.goto 4, 3) := by decide +kernel
theorem dX8_hide_51 : decode cX8_hide 51 = .ok (.iconst 0, 1) := by decide +kernel
theorem dX8_hide_52 : decode cX8_hide 52 = .ok (.ireturn, 1) := by decide +kernel
theorem dX8_arrange_0 : decode cX8_arrange 0 = .ok (.iload_n 1, 1) := by decide +kernel
theorem dX8_arrange_1 : decode cX8_arrange 1 = .ok (.ifCond .lt 24, 3) := by decide +kernel
theorem dX8_arrange_4 : decode cX8_arrange 4 = .ok (.iload_n 1, 1) := by decide +kernel
theorem dX8_arrange_5 : decode cX8_arrange 5 = .ok (.sipush 999, 3) := by decide +kernel
theorem dX8_arrange_8 : decode cX8_arrange 8 = .ok (.if_icmp .gt 17, 3) := by decide +kernel
theorem dX8_arrange_11 : decode cX8_arrange 11 = .ok (.iload_n 2, 1) := by decide +kernel
theorem dX8_arrange_12 : decode cX8_arrange 12 = .ok (.invokestatic 179, 3) := by decide +kernel
theorem dX8_arrange_15 : decode cX8_arrange 15 = .ok (.ifCond .eq 10, 3) := by decide +kernel
theorem dX8_arrange_18 : decode cX8_arrange 18 = .ok (.iload_n 3, 1) := by decide +kernel
theorem dX8_arrange_19 : decode cX8_arrange 19 = .ok (.invokestatic 182, 3) := by decide +kernel
theorem dX8_arrange_22 : decode cX8_arrange 22 = .ok (.ifCond .ne 5, 3) := by decide +kernel
theorem dX8_arrange_25 : decode cX8_arrange 25 = .ok (.iconst (-1), 1) := by decide +kernel
theorem dX8_arrange_26 : decode cX8_arrange 26 = .ok (.ireturn, 1) := by decide +kernel
theorem dX8_arrange_27 : decode cX8_arrange 27 = .ok (.iload_n 1, 1) := by decide +kernel
theorem dX8_arrange_28 : decode cX8_arrange 28 = .ok (.aload_n 0, 1) := by decide +kernel
theorem dX8_arrange_29 : decode cX8_arrange 29 = .ok (.getfield 29, 3) := by decide +kernel
theorem dX8_arrange_32 : decode cX8_arrange 32 = .ok (.getfield 148, 3) := by decide +kernel
theorem dX8_arrange_35 : decode cX8_arrange 35 = .ok (.if_icmp .ge 6, 3) := by decide +kernel
theorem dX8_arrange_38 : decode cX8_arrange 38 = .ok (.bipush (-2), 2) := by decide +kernel
theorem dX8_arrange_40 : decode cX8_arrange 40 = .ok (.ireturn, 1) := by decide +kernel
theorem dX8_arrange_41 : decode cX8_arrange 41 = .ok (.aload_n 0, 1) := by decide +kernel
theorem dX8_arrange_42 : decode cX8_arrange 42 = .ok (.getfield 29, 3) := by decide +kernel
theorem dX8_arrange_45 : decode cX8_arrange 45 = .ok (.getfield 130, 3) := by decide +kernel
theorem dX8_arrange_48 : decode cX8_arrange 48 = .ok (.getfield 185, 3) := by decide +kernel
theorem dX8_arrange_51 : decode cX8_arrange 51 = .ok (.bipush 9, 2) := by decide +kernel
theorem dX8_arrange_53 : decode cX8_arrange 53 = .ok (.if_icmp .lt 6, 3) := by decide +kernel
theorem dX8_arrange_56 : decode cX8_arrange 56 = .ok (.bipush (-3), 2) := by decide +kernel
theorem dX8_arrange_58 : decode cX8_arrange 58 = .ok (.ireturn, 1) := by decide +kernel
theorem dX8_arrange_59 : decode cX8_arrange 59 = .ok (.aload_n 0, 1) := by decide +kernel
theorem dX8_arrange_60 : decode cX8_arrange 60 = .ok (.getfield 38, 3) := by decide +kernel
theorem dX8_arrange_63 : decode cX8_arrange 63 = .ok (.aload_n 0, 1) := by decide +kernel
theorem dX8_arrange_64 : decode cX8_arrange 64 = .ok (.getfield 29, 3) := by decide +kernel
theorem dX8_arrange_67 : decode cX8_arrange 67 = .ok (.invokevirtual 150, 3) := by decide +kernel
theorem dX8_arrange_70 : decode cX8_arrange 70 = .ok (.aload_n 0, 1) := by decide +kernel
theorem dX8_arrange_71 : decode cX8_arrange 71 = .ok (.getfield 29, 3) := by decide +kernel
theorem dX8_arrange_74 : decode cX8_arrange 74 = .ok (.getfield 130, 3) := by decide +kernel
theorem dX8_arrange_77 : decode cX8_arrange 77 = .ok (.iload_n 1, 1) := by decide +kernel
theorem dX8_arrange_78 : decode cX8_arrange 78 = .ok (.iload_n 2, 1) := by decide +kernel
theorem dX8_arrange_79 : decode cX8_arrange 79 = .ok (.iload_n 3, 1) := by decide +kernel
theorem dX8_arrange_80 : decode cX8_arrange 80 = .ok (.invokevirtual 188, 3) := by decide +kernel
theorem dX8_arrange_83 : decode cX8_arrange 83 = .ok (.pop, 1) := by decide +kernel
theorem dX8_arrange_84 : decode cX8_arrange 84 = .ok (.aload_n 0, 1) := by decide +kernel
theorem dX8_arrange_85 : decode cX8_arrange 85 = .ok (.getfield 29, 3) := by decide +kernel
theorem dX8_arrange_88 : decode cX8_arrange 88 = .ok (.getfield 130, 3) := by decide +kernel
theorem dX8_arrange_91 : decode cX8_arrange 91 = .ok (.getfield 185, 3) := by decide +kernel
theorem dX8_arrange_94 : decode cX8_arrange 94 = .ok (.iconst 1, 1) := by decide +kernel
theorem dX8_arrange_95 : decode cX8_arrange 95 = .ok (.isub, 1) := by decide +kernel
theorem dX8_arrange_96 : decode cX8_arrange 96 = .ok (.ireturn, 1) := by decide +kernel
theorem dX8_undo_0 : decode cX8_undo 0 = .ok (.aload_n 0, 1) := by decide +kernel
theorem dX8_undo_1 : decode cX8_undo 1 = .ok (.getfield 38, 3) := by decide +kernel
theorem dX8_undo_4 : decode cX8_undo 4 = .ok (.aload_n 0, 1) := by decide +kernel
theorem dX8_undo_5 : decode cX8_undo 5 = .ok (.getfield 29, 3) := by decide +kernel
theorem dX8_undo_8 : decode cX8_undo 8 = .ok (.invokevirtual 192, 3) := by decide +kernel
theorem dX8_undo_11 : decode cX8_undo 11 = .ok (.ifCond .eq 13, 3) := by decide +kernel
theorem dX8_undo_14 : decode cX8_undo 14 = .ok (.aload_n 0, 1) := by decide +kernel
theorem dX8_undo_15 : decode cX8_undo 15 = .ok (.getfield 38, 3) := by decide +kernel
theorem dX8_undo_18 : decode cX8_undo 18 = .ok (.getfield 196, 3) := by decide +kernel
theorem dX8_undo_21 : decode cX8_undo 21 = .ok (.goto 5, 3) := by decide +kernel
theorem dX8_undo_24 : decode cX8_undo 24 = .ok (.bipush (-2), 2) := by decide +kernel
theorem dX8_undo_26 : decode cX8_undo 26 = .ok (.ireturn, 1) := by decide +kernel
theorem dX8_king_0 : decode cX8_king 0 = .ok (.iload_n 1, 1) := by decide +kernel
theorem dX8_king_1 : decode cX8_king 1 = .ok (.invokestatic 197, 3) := by decide +kernel
theorem dX8_king_4 : decode cX8_king 4 = .ok (.ifCond .eq 10, 3) := by decide +kernel
theorem dX8_king_7 : decode cX8_king 7 = .ok (.iload_n 2, 1) := by decide +kernel
theorem dX8_king_8 : decode cX8_king 8 = .ok (.invokestatic 200, 3) := by decide +kernel
theorem dX8_king_11 : decode cX8_king 11 = .ok (.ifCond .ne 5, 3) := by decide +kernel
theorem dX8_king_14 : decode cX8_king 14 = .ok (.iconst (-1), 1) := by decide +kernel
theorem dX8_king_15 : decode cX8_king 15 = .ok (.ireturn, 1) := by decide +kernel
theorem dX8_king_16 : decode cX8_king 16 = .ok (.aload_n 0, 1) := by decide +kernel
theorem dX8_king_17 : decode cX8_king 17 = .ok (.iload_n 1, 1) := by decide +kernel
theorem dX8_king_18 : decode cX8_king 18 = .ok (.iconst 1, 1) := by decide +kernel
theorem dX8_king_19 : decode cX8_king 19 = .ok (.iadd, 1) := by decide +kernel
theorem dX8_king_20 : decode cX8_king 20 = .ok (.invokevirtual 154, 3) := by decide +kernel
theorem dX8_king_23 : decode cX8_king 23 = .ok (.aload_n 0, 1) := by decide +kernel
theorem dX8_king_24 : decode cX8_king 24 = .ok (.getfield 66, 3) := by decide +kernel
theorem dX8_king_27 : decode cX8_king 27 = .ok (.aload_n 0, 1) := by decide +kernel
theorem dX8_king_28 : decode cX8_king 28 = .ok (.getfield 29, 3) := by decide +kernel
theorem dX8_king_31 : decode cX8_king 31 = .ok (.invokevirtual 157, 3) := by decide +kernel
theorem dX8_king_34 : decode cX8_king 34 = .ok (.iconst 0, 1) := by decide +kernel
theorem dX8_king_35 : decode cX8_king 35 = .ok (.istore_n 3, 1) := by decide +kernel
theorem dX8_king_36 : decode cX8_king 36 = .ok (.iload_n 3, 1) := by decide +kernel
theorem dX8_king_37 : decode cX8_king 37 = .ok (.iload_n 1, 1) := by decide +kernel
theorem dX8_king_38 : decode cX8_king 38 = .ok (.if_icmp .ge 18, 3) := by decide +kernel
theorem dX8_king_41 : decode cX8_king 41 = .ok (.aload_n 0, 1) := by decide +kernel
theorem dX8_king_42 : decode cX8_king 42 = .ok (.getfield 66, 3) := by decide +kernel
theorem dX8_king_45 : decode cX8_king 45 = .ok (.iload_n 3, 1) := by decide +kernel
theorem dX8_king_46 : decode cX8_king 46 = .ok (.invokevirtual 166, 3) := by decide +kernel
theorem dX8_king_49 : decode cX8_king 49 = .ok (.pop, 1) := by decide +kernel
theorem dX8_king_50 : decode cX8_king 50 = .ok (.iinc 3 1, 3) := by decide +kernel
theorem dX8_king_53 : decode cX8_king 53 = .ok (.goto (-17), 3) := by decide +kernel
theorem dX8_king_56 : decode cX8_king 56 = .ok (.aload_n 0, 1) := by decide +kernel
theorem dX8_king_57 : decode cX8_king 57 = .ok (.getfield 66, 3) := by decide +kernel
theorem dX8_king_60 : decode cX8_king 60 = .ok (.invokevirtual 160, 3) := by decide +kernel
theorem dX8_king_63 : decode cX8_king 63 = .ok (.istore_n 3, 1) := by decide +kernel
theorem dX8_king_64 : decode cX8_king 64 = .ok (.aload_n 0, 1) := by decide +kernel
theorem dX8_king_65 : decode cX8_king 65 = .ok (.getfield 66, 3) := by decide +kernel
theorem dX8_king_68 : decode cX8_king 68 = .ok (.iload_n 1, 1) := by decide +kernel
theorem dX8_king_69 : decode cX8_king 69 = .ok (.invokevirtual 203, 3) := by decide +kernel
theorem dX8_king_72 : decode cX8_king 72 = .ok (.pop, 1) := by decide +kernel
theorem dX8_king_73 : decode cX8_king 73 = .ok (.iload_n 2, 1) := by decide +kernel
theorem dX8_king_74 : decode cX8_king 74 = .ok (.ifCond .ne 7, 3) := by decide +kernel
theorem dX8_king_77 : decode cX8_king 77 = .ok (.iload_n 3, 1) := by decide +kernel
theorem dX8_king_78 : decode cX8_king 78 = .ok (.goto 10, 3) := by decide +kernel
theorem dX8_king_81 : decode cX8_king 81 = .ok (.aload_n 0, 1) := by decide +kernel
theorem dX8_king_82 : decode cX8_king 82 = .ok (.getfield 66, 3) := by decide +kernel
theorem dX8_king_85 : decode cX8_king 85 = .ok (.getfield 172, 3) := by decide +kernel
theorem dX8_king_88 : decode cX8_king 88 = .ok (.ireturn, 1) := by decide +kernel
theorem dX8_bell_0 : decode cX8_bell 0 = .ok (.aload_n 0, 1) := by decide +kernel
theorem dX8_bell_1 : decode cX8_bell 1 = .ok (.bipush 41, 2) := by decide +kernel
theorem dX8_bell_3 : decode cX8_bell 3 = .ok (.invokevirtual 154, 3) := by decide +kernel
theorem dX8_bell_6 : decode cX8_bell 6 = .ok (.aload_n 0, 1) := by decide +kernel
theorem dX8_bell_7 : decode cX8_bell 7 = .ok (.invokevirtual 206, 3) := by decide +kernel
theorem dX8_bell_10 : decode cX8_bell 10 = .ok (.istore_n 1, 1) := by decide +kernel
theorem dX8_bell_11 : decode cX8_bell 11 = .ok (.iload_n 1, 1) := by decide +kernel
theorem dX8_bell_12 : decode cX8_bell 12 = .ok (.bipush 40, 2) := by decide +kernel
theorem dX8_bell_14 : decode cX8_bell 14 = .ok (.if_icmp .le 8, 3) := by decide +kernel
theorem dX8_bell_17 : decode cX8_bell 17 = .ok (.bipush (-4), 2) := by decide +kernel
theorem dX8_bell_19 : decode cX8_bell 19 = .ok (.goto 4, 3) := by decide +kernel
theorem dX8_bell_22 : decode cX8_bell 22 = .ok (.iload_n 1, 1) := by decide +kernel
theorem dX8_bell_23 : decode cX8_bell 23 = .ok (.ireturn, 1) := by decide +kernel
theorem dX8_hides_0 : decode cX8_hides 0 = .ok (.iload_n 1, 1) := by decide +kernel
theorem dX8_hides_1 : decode cX8_hides 1 = .ok (.iconst 1, 1) := by decide +kernel
theorem dX8_hides_2 : decode cX8_hides 2 = .ok (.if_icmp .lt 9, 3) := by decide +kernel
theorem dX8_hides_5 : decode cX8_hides 5 = .ok (.iload_n 1, 1) := by decide +kernel
theorem dX8_hides_6 : decode cX8_hides 6 = .ok (.bipush 40, 2) := by decide +kernel
theorem dX8_hides_8 : decode cX8_hides 8 = .ok (.if_icmp .le 5, 3) := by decide +kernel
theorem dX8_hides_11 : decode cX8_hides 11 = .ok (.iconst (-1), 1) := by decide +kernel
theorem dX8_hides_12 : decode cX8_hides 12 = .ok (.ireturn, 1) := by decide +kernel
theorem dX8_hides_13 : decode cX8_hides 13 = .ok (.aload_n 0, 1) := by decide +kernel
theorem dX8_hides_14 : decode cX8_hides 14 = .ok (.iload_n 1, 1) := by decide +kernel
theorem dX8_hides_15 : decode cX8_hides 15 = .ok (.invokevirtual 154, 3) := by decide +kernel
theorem dX8_hides_18 : decode cX8_hides 18 = .ok (.aload_n 0, 1) := by decide +kernel
theorem dX8_hides_19 : decode cX8_hides 19 = .ok (.getfield 57, 3) := by decide +kernel
theorem dX8_hides_22 : decode cX8_hides 22 = .ok (.invokevirtual 209, 3) := by decide +kernel
theorem dX8_hides_25 : decode cX8_hides 25 = .ok (.istore_n 2, 1) := by decide +kernel
theorem dX8_hides_26 : decode cX8_hides 26 = .ok (.bipush (-4), 2) := by decide +kernel
theorem dX8_hides_28 : decode cX8_hides 28 = .ok (.istore_n 3, 1) := by decide +kernel
theorem dX8_hides_29 : decode cX8_hides 29 = .ok (.bipush 10, 2) := by decide +kernel
theorem dX8_hides_31 : decode cX8_hides 31 = .ok (.istore 4, 2) := by decide +kernel
theorem dX8_hides_33 : decode cX8_hides 33 = .ok (.iconst 0, 1) := by decide +kernel
theorem dX8_hides_34 : decode cX8_hides 34 = .ok (.istore 5, 2) := by decide +kernel
theorem dX8_hides_36 : decode cX8_hides 36 = .ok (.iload 5, 2) := by decide +kernel
theorem dX8_hides_38 : decode cX8_hides 38 = .ok (.iload_n 2, 1) := by decide +kernel
theorem dX8_hides_39 : decode cX8_hides 39 = .ok (.if_icmp .gt 48, 3) := by decide +kernel
theorem dX8_hides_42 : decode cX8_hides 42 = .ok (.iload 5, 2) := by decide +kernel
theorem dX8_hides_44 : decode cX8_hides 44 = .ok (.iload_n 2, 1) := by decide +kernel
theorem dX8_hides_45 : decode cX8_hides 45 = .ok (.iconst (-1), 1) := by decide +kernel
theorem dX8_hides_46 : decode cX8_hides 46 = .ok (.ixor, 1) := by decide +kernel
theorem dX8_hides_47 : decode cX8_hides 47 = .ok (.iand, 1) := by decide +kernel
theorem dX8_hides_48 : decode cX8_hides 48 = .ok (.ifCond .ne 33, 3) := by decide +kernel
theorem dX8_hides_51 : decode cX8_hides 51 = .ok (.iload 5, 2) := by decide +kernel
theorem dX8_hides_53 : decode cX8_hides 53 = .ok (.invokestatic 212, 3) := by decide +kernel
theorem dX8_hides_56 : decode cX8_hides 56 = .ok (.iload 4, 2) := by decide +kernel
theorem dX8_hides_58 : decode cX8_hides 58 = .ok (.if_icmp .ge 23, 3) := by decide +kernel
theorem dX8_hides_61 : decode cX8_hides 61 = .ok (.aload_n 0, 1) := by decide +kernel
theorem dX8_hides_62 : decode cX8_hides 62 = .ok (.iload 5, 2) := by decide +kernel
theorem dX8_hides_64 : decode cX8_hides 64 = .ok (.iload_n 1, 1) := by decide +kernel
theorem dX8_hides_65 : decode cX8_hides 65 = .ok (.invokevirtual 217, 3) := by decide +kernel
theorem dX8_hides_68 : decode cX8_hides 68 = .ok (.ifCond .eq 13, 3) := by decide +kernel
theorem dX8_hides_71 : decode cX8_hides 71 = .ok (.iload 5, 2) := by decide +kernel
theorem dX8_hides_73 : decode cX8_hides 73 = .ok (.istore_n 3, 1) := by decide +kernel
theorem dX8_hides_74 : decode cX8_hides 74 = .ok (.iload 5, 2) := by decide +kernel
theorem dX8_hides_76 : decode cX8_hides 76 = .ok (.invokestatic 212, 3) := by decide +kernel
theorem dX8_hides_79 : decode cX8_hides 79 = .ok (.istore 4, 2) := by decide +kernel
theorem dX8_hides_81 : decode cX8_hides 81 = .ok (.iinc 5 1, 3) := by decide +kernel
theorem dX8_hides_84 : decode cX8_hides 84 = .ok (.goto (-48), 3) := by decide +kernel
theorem dX8_hides_87 : decode cX8_hides 87 = .ok (.iload_n 3, 1) := by decide +kernel
theorem dX8_hides_88 : decode cX8_hides 88 = .ok (.ireturn, 1) := by decide +kernel
theorem dX8_raise_0 : decode cX8_raise 0 = .ok (.aload_n 0, 1) := by decide +kernel
theorem dX8_raise_1 : decode cX8_raise 1 = .ok (.iload_n 1, 1) := by decide +kernel
theorem dX8_raise_2 : decode cX8_raise 2 = .ok (.invokevirtual 108, 3) := by decide +kernel
theorem dX8_raise_5 : decode cX8_raise 5 = .ok (.ifCond .eq 10, 3) := by decide +kernel
theorem dX8_raise_8 : decode cX8_raise 8 = .ok (.iload_n 2, 1) := by decide +kernel
theorem dX8_raise_9 : decode cX8_raise 9 = .ok (.invokestatic 200, 3) := by decide +kernel
theorem dX8_raise_12 : decode cX8_raise 12 = .ok (.ifCond .ne 5, 3) := by decide +kernel
theorem dX8_raise_15 : decode cX8_raise 15 = .ok (.iconst (-1), 1) := by decide +kernel
theorem dX8_raise_16 : decode cX8_raise 16 = .ok (.ireturn, 1) := by decide +kernel
theorem dX8_raise_17 : decode cX8_raise 17 = .ok (.aload_n 0, 1) := by decide +kernel
theorem dX8_raise_18 : decode cX8_raise 18 = .ok (.bipush 40, 2) := by decide +kernel
theorem dX8_raise_20 : decode cX8_raise 20 = .ok (.invokevirtual 154, 3) := by decide +kernel
theorem dX8_raise_23 : decode cX8_raise 23 = .ok (.aload_n 0, 1) := by decide +kernel
theorem dX8_raise_24 : decode cX8_raise 24 = .ok (.iload_n 1, 1) := by decide +kernel
theorem dX8_raise_25 : decode cX8_raise 25 = .ok (.invokevirtual 221, 3) := by decide +kernel
theorem dX8_raise_28 : decode cX8_raise 28 = .ok (.istore_n 3, 1) := by decide +kernel
theorem dX8_raise_29 : decode cX8_raise 29 = .ok (.sipush 1000, 3) := by decide +kernel
theorem dX8_raise_32 : decode cX8_raise 32 = .ok (.istore 4, 2) := by decide +kernel
theorem dX8_raise_34 : decode cX8_raise 34 = .ok (.iconst 0, 1) := by decide +kernel
theorem dX8_raise_35 : decode cX8_raise 35 = .ok (.istore 5, 2) := by decide +kernel
theorem dX8_raise_37 : decode cX8_raise 37 = .ok (.iload 5, 2) := by decide +kernel
theorem dX8_raise_39 : decode cX8_raise 39 = .ok (.bipush 20, 2) := by decide +kernel
theorem dX8_raise_41 : decode cX8_raise 41 = .ok (.if_icmp .ge 80, 3) := by decide +kernel
theorem dX8_raise_44 : decode cX8_raise 44 = .ok (.iconst 0, 1) := by decide +kernel
theorem dX8_raise_45 : decode cX8_raise 45 = .ok (.istore 6, 2) := by decide +kernel
theorem dX8_raise_47 : decode cX8_raise 47 = .ok (.iload 6, 2) := by decide +kernel
theorem dX8_raise_49 : decode cX8_raise 49 = .ok (.iconst 5, 1) := by decide +kernel
theorem dX8_raise_50 : decode cX8_raise 50 = .ok (.if_icmp .ge 65, 3) := by decide +kernel
theorem dX8_raise_53 : decode cX8_raise 53 = .ok (.aload_n 0, 1) := by decide +kernel
theorem dX8_raise_54 : decode cX8_raise 54 = .ok (.getfield 57, 3) := by decide +kernel
theorem dX8_raise_57 : decode cX8_raise 57 = .ok (.iload 5, 2) := by decide +kernel
theorem dX8_raise_59 : decode cX8_raise 59 = .ok (.iconst 1, 1) := by decide +kernel
theorem dX8_raise_60 : decode cX8_raise 60 = .ok (.iload 6, 2) := by decide +kernel
theorem dX8_raise_62 : decode cX8_raise 62 = .ok (.ishl, 1) := by decide +kernel
theorem dX8_raise_63 : decode cX8_raise 63 = .ok (.bipush 9, 2) := by decide +kernel
theorem dX8_raise_65 : decode cX8_raise 65 = .ok (.invokevirtual 224, 3) := by decide +kernel
theorem dX8_raise_68 : decode cX8_raise 68 = .ok (.aload_n 0, 1) := by decide +kernel
theorem dX8_raise_69 : decode cX8_raise 69 = .ok (.iload_n 1, 1) := by decide +kernel
theorem dX8_raise_70 : decode cX8_raise 70 = .ok (.invokevirtual 221, 3) := by decide +kernel
theorem dX8_raise_73 : decode cX8_raise 73 = .ok (.istore 7, 2) := by decide +kernel
theorem dX8_raise_75 : decode cX8_raise 75 = .ok (.aload_n 0, 1) := by decide +kernel
theorem dX8_raise_76 : decode cX8_raise 76 = .ok (.getfield 57, 3) := by decide +kernel
theorem dX8_raise_79 : decode cX8_raise 79 = .ok (.iload 5, 2) := by decide +kernel
theorem dX8_raise_81 : decode cX8_raise 81 = .ok (.iconst 1, 1) := by decide +kernel
theorem dX8_raise_82 : decode cX8_raise 82 = .ok (.iload 6, 2) := by decide +kernel
theorem dX8_raise_84 : decode cX8_raise 84 = .ok (.ishl, 1) := by decide +kernel
