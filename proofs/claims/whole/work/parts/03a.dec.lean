theorem dX0_init_0 : decode cX0_init 0 = .ok (.aload_n 0, 1) := by decide +kernel
theorem dX0_init_1 : decode cX0_init 1 = .ok (.invokespecial 3, 3) := by decide +kernel
theorem dX0_init_4 : decode cX0_init 4 = .ok (.aload_n 0, 1) := by decide +kernel
theorem dX0_init_5 : decode cX0_init 5 = .ok (.bipush 6, 2) := by decide +kernel
theorem dX0_init_7 : decode cX0_init 7 = .ok (.newarray .int, 2) := by decide +kernel
theorem dX0_init_9 : decode cX0_init 9 = .ok (.putfield 9, 3) := by decide +kernel
theorem dX0_init_12 : decode cX0_init 12 = .ok (.aload_n 0, 1) := by decide +kernel
theorem dX0_init_13 : decode cX0_init 13 = .ok (.bipush 6, 2) := by decide +kernel
theorem dX0_init_15 : decode cX0_init 15 = .ok (.newarray .int, 2) := by decide +kernel
theorem dX0_init_17 : decode cX0_init 17 = .ok (.putfield 15, 3) := by decide +kernel
theorem dX0_init_20 : decode cX0_init 20 = .ok (.aload_n 0, 1) := by decide +kernel
theorem dX0_init_21 : decode cX0_init 21 = .ok (.bipush 6, 2) := by decide +kernel
theorem dX0_init_23 : decode cX0_init 23 = .ok (.newarray .int, 2) := by decide +kernel
theorem dX0_init_25 : decode cX0_init 25 = .ok (.putfield 18, 3) := by decide +kernel
theorem dX0_init_28 : decode cX0_init 28 = .ok (.aload_n 0, 1) := by decide +kernel
theorem dX0_init_29 : decode cX0_init 29 = .ok (.new 21, 3) := by decide +kernel
theorem dX0_init_32 : decode cX0_init 32 = .ok (.dup, 1) := by decide +kernel
theorem dX0_init_33 : decode cX0_init 33 = .ok (.invokespecial 23, 3) := by decide +kernel
theorem dX0_init_36 : decode cX0_init 36 = .ok (.putfield 24, 3) := by decide +kernel
theorem dX0_init_39 : decode cX0_init 39 = .ok (.aload_n 0, 1) := by decide +kernel
theorem dX0_init_40 : decode cX0_init 40 = .ok (.iconst 2, 1) := by decide +kernel
theorem dX0_init_41 : decode cX0_init 41 = .ok (.putfield 28, 3) := by decide +kernel
theorem dX0_init_44 : decode cX0_init 44 = .ok (.aload_n 0, 1) := by decide +kernel
theorem dX0_init_45 : decode cX0_init 45 = .ok (.iconst 3, 1) := by decide +kernel
theorem dX0_init_46 : decode cX0_init 46 = .ok (.newarray .int, 2) := by decide +kernel
theorem dX0_init_48 : decode cX0_init 48 = .ok (.putfield 32, 3) := by decide +kernel
theorem dX0_init_51 : decode cX0_init 51 = .ok (.return_, 1) := by decide +kernel
theorem dX0_read_0 : decode cX0_read 0 = .ok (.aload_n 0, 1) := by decide +kernel
theorem dX0_read_1 : decode cX0_read 1 = .ok (.iconst 0, 1) := by decide +kernel
theorem dX0_read_2 : decode cX0_read 2 = .ok (.putfield 35, 3) := by decide +kernel
theorem dX0_read_5 : decode cX0_read 5 = .ok (.aload_n 0, 1) := by decide +kernel
theorem dX0_read_6 : decode cX0_read 6 = .ok (.getfield 24, 3) := by decide +kernel
theorem dX0_read_9 : decode cX0_read 9 = .ok (.invokevirtual 38, 3) := by decide +kernel
theorem dX0_read_12 : decode cX0_read 12 = .ok (.aload_n 0, 1) := by decide +kernel
theorem dX0_read_13 : decode cX0_read 13 = .ok (.iconst 2, 1) := by decide +kernel
theorem dX0_read_14 : decode cX0_read 14 = .ok (.putfield 28, 3) := by decide +kernel
theorem dX0_read_17 : decode cX0_read 17 = .ok (.iconst 0, 1) := by decide +kernel
theorem dX0_read_18 : decode cX0_read 18 = .ok (.istore_n 2, 1) := by decide +kernel
theorem dX0_read_19 : decode cX0_read 19 = .ok (.iconst 0, 1) := by decide +kernel
theorem dX0_read_20 : decode cX0_read 20 = .ok (.istore_n 3, 1) := by decide +kernel
theorem dX0_read_21 : decode cX0_read 21 = .ok (.iload_n 3, 1) := by decide +kernel
theorem dX0_read_22 : decode cX0_read 22 = .ok (.sipush 200, 3) := by decide +kernel
theorem dX0_read_25 : decode cX0_read 25 = .ok (.if_icmp .ge 58, 3) := by decide +kernel
theorem dX0_read_28 : decode cX0_read 28 = .ok (.iload_n 2, 1) := by decide +kernel
theorem dX0_read_29 : decode cX0_read 29 = .ok (.aload_n 1, 1) := by decide +kernel
theorem dX0_read_30 : decode cX0_read 30 = .ok (.getfield 41, 3) := by decide +kernel
theorem dX0_read_33 : decode cX0_read 33 = .ok (.if_icmp .ge 50, 3) := by decide +kernel
theorem dX0_read_36 : decode cX0_read 36 = .ok (.aload_n 1, 1) := by decide +kernel
theorem dX0_read_37 : decode cX0_read 37 = .ok (.iload_n 2, 1) := by decide +kernel
theorem dX0_read_38 : decode cX0_read 38 = .ok (.invokevirtual 46, 3) := by decide +kernel
theorem dX0_read_41 : decode cX0_read 41 = .ok (.istore 4, 2) := by decide +kernel
theorem dX0_read_43 : decode cX0_read 43 = .ok (.aload_n 0, 1) := by decide +kernel
theorem dX0_read_44 : decode cX0_read 44 = .ok (.aload_n 1, 1) := by decide +kernel
theorem dX0_read_45 : decode cX0_read 45 = .ok (.iload_n 2, 1) := by decide +kernel
theorem dX0_read_46 : decode cX0_read 46 = .ok (.iconst 1, 1) := by decide +kernel
theorem dX0_read_47 : decode cX0_read 47 = .ok (.iadd, 1) := by decide +kernel
theorem dX0_read_48 : decode cX0_read 48 = .ok (.iload 4, 2) := by decide +kernel
theorem dX0_read_50 : decode cX0_read 50 = .ok (.invokestatic 50, 3) := by decide +kernel
theorem dX0_read_53 : decode cX0_read 53 = .ok (.invokevirtual 53, 3) := by decide +kernel
theorem dX0_read_56 : decode cX0_read 56 = .ok (.istore 5, 2) := by decide +kernel
theorem dX0_read_58 : decode cX0_read 58 = .ok (.iload 5, 2) := by decide +kernel
theorem dX0_read_60 : decode cX0_read 60 = .ok (.ifCond .lt 12, 3) := by decide +kernel
theorem dX0_read_63 : decode cX0_read 63 = .ok (.aload_n 0, 1) := by decide +kernel
theorem dX0_read_64 : decode cX0_read 64 = .ok (.iload 4, 2) := by decide +kernel
theorem dX0_read_66 : decode cX0_read 66 = .ok (.invokevirtual 57, 3) := by decide +kernel
theorem dX0_read_69 : decode cX0_read 69 = .ok (.ifCond .ne 5, 3) := by decide +kernel
theorem dX0_read_72 : decode cX0_read 72 = .ok (.iload_n 2, 1) := by decide +kernel
theorem dX0_read_73 : decode cX0_read 73 = .ok (.ireturn, 1) := by decide +kernel
theorem dX0_read_74 : decode cX0_read 74 = .ok (.iload 5, 2) := by decide +kernel
theorem dX0_read_76 : decode cX0_read 76 = .ok (.istore_n 2, 1) := by decide +kernel
theorem dX0_read_77 : decode cX0_read 77 = .ok (.iinc 3 1, 3) := by decide +kernel
theorem dX0_read_80 : decode cX0_read 80 = .ok (.goto (-59), 3) := by decide +kernel
theorem dX0_read_83 : decode cX0_read 83 = .ok (.bipush (-4), 2) := by decide +kernel
theorem dX0_read_85 : decode cX0_read 85 = .ok (.ireturn, 1) := by decide +kernel
theorem dX0_numbersOf_0 : decode cX0_numbersOf 0 = .ok (.iload_n 0, 1) := by decide +kernel
theorem dX0_numbersOf_1 : decode cX0_numbersOf 1 = .ok (.bipush 112, 2) := by decide +kernel
theorem dX0_numbersOf_3 : decode cX0_numbersOf 3 = .ok (.if_icmp .eq 9, 3) := by decide +kernel
theorem dX0_numbersOf_6 : decode cX0_numbersOf 6 = .ok (.iload_n 0, 1) := by decide +kernel
theorem dX0_numbersOf_7 : decode cX0_numbersOf 7 = .ok (.bipush 116, 2) := by decide +kernel
theorem dX0_numbersOf_9 : decode cX0_numbersOf 9 = .ok (.if_icmp .ne 5, 3) := by decide +kernel
theorem dX0_numbersOf_12 : decode cX0_numbersOf 12 = .ok (.iconst 3, 1) := by decide +kernel
theorem dX0_numbersOf_13 : decode cX0_numbersOf 13 = .ok (.ireturn, 1) := by decide +kernel
theorem dX0_numbersOf_14 : decode cX0_numbersOf 14 = .ok (.iload_n 0, 1) := by decide +kernel
theorem dX0_numbersOf_15 : decode cX0_numbersOf 15 = .ok (.bipush 102, 2) := by decide +kernel
theorem dX0_numbersOf_17 : decode cX0_numbersOf 17 = .ok (.if_icmp .ne 7, 3) := by decide +kernel
theorem dX0_numbersOf_20 : decode cX0_numbersOf 20 = .ok (.iconst 1, 1) := by decide +kernel
theorem dX0_numbersOf_21 : decode cX0_numbersOf 21 = .ok (.goto 4, 3) := by decide +kernel
theorem dX0_numbersOf_24 : decode cX0_numbersOf 24 = .ok (.iconst 0, 1) := by decide +kernel
theorem dX0_numbersOf_25 : decode cX0_numbersOf 25 = .ok (.ireturn, 1) := by decide +kernel
theorem dX0_readNumbers_0 : decode cX0_readNumbers 0 = .ok (.iload_n 3, 1) := by decide +kernel
theorem dX0_readNumbers_1 : decode cX0_readNumbers 1 = .ok (.ifCond .le 7, 3) := by decide +kernel
theorem dX0_readNumbers_4 : decode cX0_readNumbers 4 = .ok (.iload_n 2, 1) := by decide +kernel
theorem dX0_readNumbers_5 : decode cX0_readNumbers 5 = .ok (.goto 4, 3) := by decide +kernel
theorem dX0_readNumbers_8 : decode cX0_readNumbers 8 = .ok (.iconst (-1), 1) := by decide +kernel
theorem dX0_readNumbers_9 : decode cX0_readNumbers 9 = .ok (.istore 4, 2) := by decide +kernel
theorem dX0_readNumbers_11 : decode cX0_readNumbers 11 = .ok (.iconst 0, 1) := by decide +kernel
theorem dX0_readNumbers_12 : decode cX0_readNumbers 12 = .ok (.istore 5, 2) := by decide +kernel
theorem dX0_readNumbers_14 : decode cX0_readNumbers 14 = .ok (.iload 5, 2) := by decide +kernel
theorem dX0_readNumbers_16 : decode cX0_readNumbers 16 = .ok (.iload_n 3, 1) := by decide +kernel
theorem dX0_readNumbers_17 : decode cX0_readNumbers 17 = .ok (.if_icmp .ge 101, 3) := by decide +kernel
theorem dX0_readNumbers_20 : decode cX0_readNumbers 20 = .ok (.iload 5, 2) := by decide +kernel
theorem dX0_readNumbers_22 : decode cX0_readNumbers 22 = .ok (.aload_n 0, 1) := by decide +kernel
theorem dX0_readNumbers_23 : decode cX0_readNumbers 23 = .ok (.getfield 32, 3) := by decide +kernel
theorem dX0_readNumbers_26 : decode cX0_readNumbers 26 = .ok (.arraylength, 1) := by decide +kernel
theorem dX0_readNumbers_27 : decode cX0_readNumbers 27 = .ok (.if_icmp .ge 91, 3) := by decide +kernel
theorem dX0_readNumbers_30 : decode cX0_readNumbers 30 = .ok (.iload 4, 2) := by decide +kernel
theorem dX0_readNumbers_32 : decode cX0_readNumbers 32 = .ok (.ifCond .lt 86, 3) := by decide +kernel
theorem dX0_readNumbers_35 : decode cX0_readNumbers 35 = .ok (.aload_n 1, 1) := by decide +kernel
theorem dX0_readNumbers_36 : decode cX0_readNumbers 36 = .ok (.iload 4, 2) := by decide +kernel
theorem dX0_readNumbers_38 : decode cX0_readNumbers 38 = .ok (.invokevirtual 61, 3) := by decide +kernel
theorem dX0_readNumbers_41 : decode cX0_readNumbers 41 = .ok (.istore 6, 2) := by decide +kernel
theorem dX0_readNumbers_43 : decode cX0_readNumbers 43 = .ok (.aload_n 1, 1) := by decide +kernel
theorem dX0_readNumbers_44 : decode cX0_readNumbers 44 = .ok (.iload 4, 2) := by decide +kernel
theorem dX0_readNumbers_46 : decode cX0_readNumbers 46 = .ok (.iload 6, 2) := by decide +kernel
theorem dX0_readNumbers_48 : decode cX0_readNumbers 48 = .ok (.iadd, 1) := by decide +kernel
theorem dX0_readNumbers_49 : decode cX0_readNumbers 49 = .ok (.invokevirtual 46, 3) := by decide +kernel
theorem dX0_readNumbers_52 : decode cX0_readNumbers 52 = .ok (.istore 7, 2) := by decide +kernel
theorem dX0_readNumbers_54 : decode cX0_readNumbers 54 = .ok (.iload 6, 2) := by decide +kernel
theorem dX0_readNumbers_56 : decode cX0_readNumbers 56 = .ok (.iconst 1, 1) := by decide +kernel
theorem dX0_readNumbers_57 : decode cX0_readNumbers 57 = .ok (.if_icmp .lt 29, 3) := by decide +kernel
theorem dX0_readNumbers_60 : decode cX0_readNumbers 60 = .ok (.iload 6, 2) := by decide +kernel
theorem dX0_readNumbers_62 : decode cX0_readNumbers 62 = .ok (.iconst 2, 1) := by decide +kernel
theorem dX0_readNumbers_63 : decode cX0_readNumbers 63 = .ok (.if_icmp .gt 23, 3) := by decide +kernel
theorem dX0_readNumbers_66 : decode cX0_readNumbers 66 = .ok (.iload 7, 2) := by decide +kernel
theorem dX0_readNumbers_68 : decode cX0_readNumbers 68 = .ok (.iload 5, 2) := by decide +kernel
theorem dX0_readNumbers_70 : decode cX0_readNumbers 70 = .ok (.iload_n 3, 1) := by decide +kernel
theorem dX0_readNumbers_71 : decode cX0_readNumbers 71 = .ok (.iconst 1, 1) := by decide +kernel
theorem dX0_readNumbers_72 : decode cX0_readNumbers 72 = .ok (.isub, 1) := by decide +kernel
theorem dX0_readNumbers_73 : decode cX0_readNumbers 73 = .ok (.if_icmp .ne 8, 3) := by decide +kernel
theorem dX0_readNumbers_76 : decode cX0_readNumbers 76 = .ok (.bipush 59, 2) := by decide +kernel
theorem dX0_readNumbers_78 : decode cX0_readNumbers 78 = .ok (.goto 5, 3) := by decide +kernel
theorem dX0_readNumbers_81 : decode cX0_readNumbers 81 = .ok (.bipush 44, 2) := by decide +kernel
theorem dX0_readNumbers_83 : decode cX0_readNumbers 83 = .ok (.if_icmp .eq 5, 3) := by decide +kernel
theorem dX0_readNumbers_86 : decode cX0_readNumbers 86 = .ok (.iconst (-1), 1) := by decide +kernel
theorem dX0_readNumbers_87 : decode cX0_readNumbers 87 = .ok (.ireturn, 1) := by decide +kernel
theorem dX0_readNumbers_88 : decode cX0_readNumbers 88 = .ok (.aload_n 0, 1) := by decide +kernel
theorem dX0_readNumbers_89 : decode cX0_readNumbers 89 = .ok (.getfield 32, 3) := by decide +kernel
theorem dX0_readNumbers_92 : decode cX0_readNumbers 92 = .ok (.iload 5, 2) := by decide +kernel
theorem dX0_readNumbers_94 : decode cX0_readNumbers 94 = .ok (.aload_n 1, 1) := by decide +kernel
theorem dX0_readNumbers_95 : decode cX0_readNumbers 95 = .ok (.iload 4, 2) := by decide +kernel
theorem dX0_readNumbers_97 : decode cX0_readNumbers 97 = .ok (.iload 6, 2) := by decide +kernel
theorem dX0_readNumbers_99 : decode cX0_readNumbers 99 = .ok (.invokevirtual 64, 3) := by decide +kernel
theorem dX0_readNumbers_102 : decode cX0_readNumbers 102 = .ok (.iastore, 1) := by decide +kernel
theorem dX0_readNumbers_103 : decode cX0_readNumbers 103 = .ok (.iload 4, 2) := by decide +kernel
theorem dX0_readNumbers_105 : decode cX0_readNumbers 105 = .ok (.iload 6, 2) := by decide +kernel
theorem dX0_readNumbers_107 : decode cX0_readNumbers 107 = .ok (.iconst 1, 1) := by decide +kernel
theorem dX0_readNumbers_108 : decode cX0_readNumbers 108 = .ok (.iadd, 1) := by decide +kernel
theorem dX0_readNumbers_109 : decode cX0_readNumbers 109 = .ok (.iadd, 1) := by decide +kernel
theorem dX0_readNumbers_110 : decode cX0_readNumbers 110 = .ok (.istore 4, 2) := by decide +kernel
theorem dX0_readNumbers_112 : decode cX0_readNumbers 112 = .ok (.iinc 5 1, 3) := by decide +kernel
theorem dX0_readNumbers_115 : decode cX0_readNumbers 115 = .ok (.goto (-101), 3) := by decide +kernel
theorem dX0_readNumbers_118 : decode cX0_readNumbers 118 = .ok (.iload 4, 2) := by decide +kernel
theorem dX0_readNumbers_120 : decode cX0_readNumbers 120 = .ok (.ireturn, 1) := by decide +kernel
theorem dX0_takes_0 : decode cX0_takes 0 = .ok (.iload_n 1, 1) := by decide +kernel
theorem dX0_takes_1 : decode cX0_takes 1 = .ok (.lookupswitch 92 #[(102, 81), (112, 35), (116, 58)], 35) := by decide +kernel
theorem dX0_takes_36 : decode cX0_takes 36 = .ok (.aload_n 0, 1) := by decide +kernel
theorem dX0_takes_37 : decode cX0_takes 37 = .ok (.aload_n 0, 1) := by decide +kernel
theorem dX0_takes_38 : decode cX0_takes 38 = .ok (.getfield 32, 3) := by decide +kernel
theorem dX0_takes_41 : decode cX0_takes 41 = .ok (.iconst 0, 1) := by decide +kernel
theorem dX0_takes_42 : decode cX0_takes 42 = .ok (.iaload, 1) := by decide +kernel
theorem dX0_takes_43 : decode cX0_takes 43 = .ok (.aload_n 0, 1) := by decide +kernel
theorem dX0_takes_44 : decode cX0_takes 44 = .ok (.getfield 32, 3) := by decide +kernel
theorem dX0_takes_47 : decode cX0_takes 47 = .ok (.iconst 1, 1) := by decide +kernel
theorem dX0_takes_48 : decode cX0_takes 48 = .ok (.iaload, 1) := by decide +kernel
theorem dX0_takes_49 : decode cX0_takes 49 = .ok (.aload_n 0, 1) := by decide +kernel
theorem dX0_takes_50 : decode cX0_takes 50 = .ok (.getfield 32, 3) := by decide +kernel
theorem dX0_takes_53 : decode cX0_takes 53 = .ok (.iconst 2, 1) := by decide +kernel
theorem dX0_takes_54 : decode cX0_takes 54 = .ok (.iaload, 1) := by decide +kernel
theorem dX0_takes_55 : decode cX0_takes 55 = .ok (.invokevirtual 68, 3) := by decide +kernel
theorem dX0_takes_58 : decode cX0_takes 58 = .ok (.ireturn, 1) := by decide +kernel
theorem dX0_takes_59 : decode cX0_takes 59 = .ok (.aload_n 0, 1) := by decide +kernel
theorem dX0_takes_60 : decode cX0_takes 60 = .ok (.aload_n 0, 1) := by decide +kernel
theorem dX0_takes_61 : decode cX0_takes 61 = .ok (.getfield 32, 3) := by decide +kernel
theorem dX0_takes_64 : decode cX0_takes 64 = .ok (.iconst 0, 1) := by decide +kernel
theorem dX0_takes_65 : decode cX0_takes 65 = .ok (.iaload, 1) := by decide +kernel
theorem dX0_takes_66 : decode cX0_takes 66 = .ok (.aload_n 0, 1) := by decide +kernel
theorem dX0_takes_67 : decode cX0_takes 67 = .ok (.getfield 32, 3) := by decide +kernel
theorem dX0_takes_70 : decode cX0_takes 70 = .ok (.iconst 1, 1) := by decide +kernel
theorem dX0_takes_71 : decode cX0_takes 71 = .ok (.iaload, 1) := by decide +kernel
theorem dX0_takes_72 : decode cX0_takes 72 = .ok (.aload_n 0, 1) := by decide +kernel
theorem dX0_takes_73 : decode cX0_takes 73 = .ok (.getfield 32, 3) := by decide +kernel
theorem dX0_takes_76 : decode cX0_takes 76 = .ok (.iconst 2, 1) := by decide +kernel
theorem dX0_takes_77 : decode cX0_takes 77 = .ok (.iaload, 1) := by decide +kernel
theorem dX0_takes_78 : decode cX0_takes 78 = .ok (.invokevirtual 72, 3) := by decide +kernel
theorem dX0_takes_81 : decode cX0_takes 81 = .ok (.ireturn, 1) := by decide +kernel
theorem dX0_takes_82 : decode cX0_takes 82 = .ok (.aload_n 0, 1) := by decide +kernel
theorem dX0_takes_83 : decode cX0_takes 83 = .ok (.aload_n 0, 1) := by decide +kernel
theorem dX0_takes_84 : decode cX0_takes 84 = .ok (.getfield 32, 3) := by decide +kernel
theorem dX0_takes_87 : decode cX0_takes 87 = .ok (.iconst 0, 1) := by decide +kernel
theorem dX0_takes_88 : decode cX0_takes 88 = .ok (.iaload, 1) := by decide +kernel
theorem dX0_takes_89 : decode cX0_takes 89 = .ok (.invokevirtual 75, 3) := by decide +kernel
theorem dX0_takes_92 : decode cX0_takes 92 = .ok (.ireturn, 1) := by decide +kernel
theorem dX0_takes_93 : decode cX0_takes 93 = .ok (.iconst 0, 1) := by decide +kernel
theorem dX0_takes_94 : decode cX0_takes 94 = .ok (.ireturn, 1) := by decide +kernel
theorem dX0_takesPerson_0 : decode cX0_takesPerson 0 = .ok (.aload_n 0, 1) := by decide +kernel
theorem dX0_takesPerson_1 : decode cX0_takesPerson 1 = .ok (.getfield 35, 3) := by decide +kernel
theorem dX0_takesPerson_4 : decode cX0_takesPerson 4 = .ok (.bipush 6, 2) := by decide +kernel
theorem dX0_takesPerson_6 : decode cX0_takesPerson 6 = .ok (.if_icmp .ge 29, 3) := by decide +kernel
theorem dX0_takesPerson_9 : decode cX0_takesPerson 9 = .ok (.iload_n 1, 1) := by decide +kernel
theorem dX0_takesPerson_10 : decode cX0_takesPerson 10 = .ok (.ifCond .lt 25, 3) := by decide +kernel
theorem dX0_takesPerson_13 : decode cX0_takesPerson 13 = .ok (.iload_n 1, 1) := by decide +kernel
theorem dX0_takesPerson_14 : decode cX0_takesPerson 14 = .ok (.iconst 3, 1) := by decide +kernel
theorem dX0_takesPerson_15 : decode cX0_takesPerson 15 = .ok (.if_icmp .gt 20, 3) := by decide +kernel
theorem dX0_takesPerson_18 : decode cX0_takesPerson 18 = .ok (.iload_n 2, 1) := by decide +kernel
theorem dX0_takesPerson_19 : decode cX0_takesPerson 19 = .ok (.bipush 31, 2) := by decide +kernel
theorem dX0_takesPerson_21 : decode cX0_takesPerson 21 = .ok (.if_icmp .gt 14, 3) := by decide +kernel
theorem dX0_takesPerson_24 : decode cX0_takesPerson 24 = .ok (.iload_n 3, 1) := by decide +kernel
theorem dX0_takesPerson_25 : decode cX0_takesPerson 25 = .ok (.iconst 1, 1) := by decide +kernel
theorem dX0_takesPerson_26 : decode cX0_takesPerson 26 = .ok (.if_icmp .lt 9, 3) := by decide +kernel
theorem dX0_takesPerson_29 : decode cX0_takesPerson 29 = .ok (.iload_n 3, 1) := by decide +kernel
theorem dX0_takesPerson_30 : decode cX0_takesPerson 30 = .ok (.bipush 60, 2) := by decide +kernel
theorem dX0_takesPerson_32 : decode cX0_takesPerson 32 = .ok (.if_icmp .le 5, 3) := by decide +kernel
theorem dX0_takesPerson_35 : decode cX0_takesPerson 35 = .ok (.iconst 0, 1) := by decide +kernel
theorem dX0_takesPerson_36 : decode cX0_takesPerson 36 = .ok (.ireturn, 1) := by decide +kernel
theorem dX0_takesPerson_37 : decode cX0_takesPerson 37 = .ok (.aload_n 0, 1) := by decide +kernel
theorem dX0_takesPerson_38 : decode cX0_takesPerson 38 = .ok (.getfield 9, 3) := by decide +kernel
theorem dX0_takesPerson_41 : decode cX0_takesPerson 41 = .ok (.aload_n 0, 1) := by decide +kernel
theorem dX0_takesPerson_42 : decode cX0_takesPerson 42 = .ok (.getfield 35, 3) := by decide +kernel
theorem dX0_takesPerson_45 : decode cX0_takesPerson 45 = .ok (.iload_n 1, 1) := by decide +kernel
theorem dX0_takesPerson_46 : decode cX0_takesPerson 46 = .ok (.iastore, 1) := by decide +kernel
theorem dX0_takesPerson_47 : decode cX0_takesPerson 47 = .ok (.aload_n 0, 1) := by decide +kernel
theorem dX0_takesPerson_48 : decode cX0_takesPerson 48 = .ok (.getfield 15, 3) := by decide +kernel
theorem dX0_takesPerson_51 : decode cX0_takesPerson 51 = .ok (.aload_n 0, 1) := by decide +kernel
theorem dX0_takesPerson_52 : decode cX0_takesPerson 52 = .ok (.getfield 35, 3) := by decide +kernel
theorem dX0_takesPerson_55 : decode cX0_takesPerson 55 = .ok (.iload_n 2, 1) := by decide +kernel
theorem dX0_takesPerson_56 : decode cX0_takesPerson 56 = .ok (.iastore, 1) := by decide +kernel
theorem dX0_takesPerson_57 : decode cX0_takesPerson 57 = .ok (.aload_n 0, 1) := by decide +kernel
theorem dX0_takesPerson_58 : decode cX0_takesPerson 58 = .ok (.getfield 18, 3) := by decide +kernel
theorem dX0_takesPerson_61 : decode cX0_takesPerson 61 = .ok (.aload_n 0, 1) := by decide +kernel
theorem dX0_takesPerson_62 : decode cX0_takesPerson 62 = .ok (.getfield 35, 3) := by decide +kernel
theorem dX0_takesPerson_65 : decode cX0_takesPerson 65 = .ok (.iload_n 3, 1) := by decide +kernel
theorem dX0_takesPerson_66 : decode cX0_takesPerson 66 = .ok (.iastore, 1) := by decide +kernel
theorem dX0_takesPerson_67 : decode cX0_takesPerson 67 = .ok (.aload_n 0, 1) := by decide +kernel
theorem dX0_takesPerson_68 : decode cX0_takesPerson 68 = .ok (.dup, 1) := by decide +kernel
theorem dX0_takesPerson_69 : decode cX0_takesPerson 69 = .ok (.getfield 35, 3) := by decide +kernel
theorem dX0_takesPerson_72 : decode cX0_takesPerson 72 = .ok (.iconst 1, 1) := by decide +kernel
theorem dX0_takesPerson_73 : decode cX0_takesPerson 73 = .ok (.iadd, 1) := by decide +kernel
theorem dX0_takesPerson_74 : decode cX0_takesPerson 74 = .ok (.putfield 35, 3) := by decide +kernel
theorem dX0_takesPerson_77 : decode cX0_takesPerson 77 = .ok (.iconst 1, 1) := by decide +kernel
theorem dX0_takesPerson_78 : decode cX0_takesPerson 78 = .ok (.ireturn, 1) := by decide +kernel
theorem dX0_takesThing_0 : decode cX0_takesThing 0 = .ok (.iload_n 1, 1) := by decide +kernel
theorem dX0_takesThing_1 : decode cX0_takesThing 1 = .ok (.bipush 60, 2) := by decide +kernel
theorem dX0_takesThing_3 : decode cX0_takesThing 3 = .ok (.if_icmp .gt 34, 3) := by decide +kernel
theorem dX0_takesThing_6 : decode cX0_takesThing 6 = .ok (.iload_n 2, 1) := by decide +kernel
theorem dX0_takesThing_7 : decode cX0_takesThing 7 = .ok (.invokestatic 78, 3) := by decide +kernel
theorem dX0_takesThing_10 : decode cX0_takesThing 10 = .ok (.ifCond .eq 27, 3) := by decide +kernel
theorem dX0_takesThing_13 : decode cX0_takesThing 13 = .ok (.iload_n 3, 1) := by decide +kernel
theorem dX0_takesThing_14 : decode cX0_takesThing 14 = .ok (.invokestatic 81, 3) := by decide +kernel
theorem dX0_takesThing_17 : decode cX0_takesThing 17 = .ok (.ifCond .eq 20, 3) := by decide +kernel
theorem dX0_takesThing_20 : decode cX0_takesThing 20 = .ok (.aload_n 0, 1) := by decide +kernel
theorem dX0_takesThing_21 : decode cX0_takesThing 21 = .ok (.getfield 24, 3) := by decide +kernel
theorem dX0_takesThing_24 : decode cX0_takesThing 24 = .ok (.iload_n 1, 1) := by decide +kernel
theorem dX0_takesThing_25 : decode cX0_takesThing 25 = .ok (.iload_n 2, 1) := by decide +kernel
theorem dX0_takesThing_26 : decode cX0_takesThing 26 = .ok (.iload_n 3, 1) := by decide +kernel
theorem dX0_takesThing_27 : decode cX0_takesThing 27 = .ok (.invokevirtual 84, 3) := by decide +kernel
theorem dX0_takesThing_30 : decode cX0_takesThing 30 = .ok (.ifCond .eq 7, 3) := by decide +kernel
theorem dX0_takesThing_33 : decode cX0_takesThing 33 = .ok (.iconst 1, 1) := by decide +kernel
theorem dX0_takesThing_34 : decode cX0_takesThing 34 = .ok (.goto 4, 3) := by decide +kernel
theorem dX0_takesThing_37 : decode cX0_takesThing 37 = .ok (.iconst 0, 1) := by decide +kernel
theorem dX0_takesThing_38 : decode cX0_takesThing 38 = .ok (.ireturn, 1) := by decide +kernel
theorem dX0_takesFade_0 : decode cX0_takesFade 0 = .ok (.iload_n 1, 1) := by decide +kernel
theorem dX0_takesFade_1 : decode cX0_takesFade 1 = .ok (.iconst 1, 1) := by decide +kernel
theorem dX0_takesFade_2 : decode cX0_takesFade 2 = .ok (.if_icmp .lt 9, 3) := by decide +kernel
theorem dX0_takesFade_5 : decode cX0_takesFade 5 = .ok (.iload_n 1, 1) := by decide +kernel
theorem dX0_takesFade_6 : decode cX0_takesFade 6 = .ok (.bipush 9, 2) := by decide +kernel
theorem dX0_takesFade_8 : decode cX0_takesFade 8 = .ok (.if_icmp .le 5, 3) := by decide +kernel
theorem dX0_takesFade_11 : decode cX0_takesFade 11 = .ok (.iconst 0, 1) := by decide +kernel
theorem dX0_takesFade_12 : decode cX0_takesFade 12 = .ok (.ireturn, 1) := by decide +kernel
theorem dX0_takesFade_13 : decode cX0_takesFade 13 = .ok (.aload_n 0, 1) := by decide +kernel
theorem dX0_takesFade_14 : decode cX0_takesFade 14 = .ok (.iload_n 1, 1) := by decide +kernel
theorem dX0_takesFade_15 : decode cX0_takesFade 15 = .ok (.putfield 28, 3) := by decide +kernel
theorem dX0_takesFade_18 : decode cX0_takesFade 18 = .ok (.iconst 1, 1) := by decide +kernel
theorem dX0_takesFade_19 : decode cX0_takesFade 19 = .ok (.ireturn, 1) := by decide +kernel
theorem dX0_faded_0 : decode cX0_faded 0 = .ok (.aload_n 0, 1) := by decide +kernel
theorem dX0_faded_1 : decode cX0_faded 1 = .ok (.getfield 28, 3) := by decide +kernel
theorem dX0_faded_4 : decode cX0_faded 4 = .ok (.ifCond .le 12, 3) := by decide +kernel
theorem dX0_faded_7 : decode cX0_faded 7 = .ok (.iload_n 1, 1) := by decide +kernel
theorem dX0_faded_8 : decode cX0_faded 8 = .ok (.aload_n 0, 1) := by decide +kernel
theorem dX0_faded_9 : decode cX0_faded 9 = .ok (.getfield 28, 3) := by decide +kernel
theorem dX0_faded_12 : decode cX0_faded 12 = .ok (.idiv, 1) := by decide +kernel
theorem dX0_faded_13 : decode cX0_faded 13 = .ok (.goto 4, 3) := by decide +kernel
theorem dX0_faded_16 : decode cX0_faded 16 = .ok (.iload_n 1, 1) := by decide +kernel
theorem dX0_faded_17 : decode cX0_faded 17 = .ok (.ireturn, 1) := by decide +kernel
theorem dX0_standsOf_0 : decode cX0_standsOf 0 = .ok (.iload_n 1, 1) := by decide +kernel
theorem dX0_standsOf_1 : decode cX0_standsOf 1 = .ok (.ifCond .lt 18, 3) := by decide +kernel
theorem dX0_standsOf_4 : decode cX0_standsOf 4 = .ok (.iload_n 1, 1) := by decide +kernel
theorem dX0_standsOf_5 : decode cX0_standsOf 5 = .ok (.bipush 6, 2) := by decide +kernel
theorem dX0_standsOf_7 : decode cX0_standsOf 7 = .ok (.if_icmp .ge 12, 3) := by decide +kernel
theorem dX0_standsOf_10 : decode cX0_standsOf 10 = .ok (.aload_n 0, 1) := by decide +kernel
theorem dX0_standsOf_11 : decode cX0_standsOf 11 = .ok (.getfield 18, 3) := by decide +kernel
theorem dX0_standsOf_14 : decode cX0_standsOf 14 = .ok (.iload_n 1, 1) := by decide +kernel
theorem dX0_standsOf_15 : decode cX0_standsOf 15 = .ok (.iaload, 1) := by decide +kernel
theorem dX0_standsOf_16 : decode cX0_standsOf 16 = .ok (.goto 5, 3) := by decide +kernel
theorem dX0_standsOf_19 : decode cX0_standsOf 19 = .ok (.bipush 60, 2) := by decide +kernel
theorem dX0_standsOf_21 : decode cX0_standsOf 21 = .ok (.ireturn, 1) := by decide +kernel
theorem dX1_init_0 : decode cX1_init 0 = .ok (.aload_n 0, 1) := by decide +kernel
theorem dX1_init_1 : decode cX1_init 1 = .ok (.invokespecial 3, 3) := by decide +kernel
theorem dX1_init_4 : decode cX1_init 4 = .ok (.aload_n 0, 1) := by decide +kernel
theorem dX1_init_5 : decode cX1_init 5 = .ok (.bipush 6, 2) := by decide +kernel
theorem dX1_init_7 : decode cX1_init 7 = .ok (.newarray .int, 2) := by decide +kernel
theorem dX1_init_9 : decode cX1_init 9 = .ok (.putfield 9, 3) := by decide +kernel
theorem dX1_init_12 : decode cX1_init 12 = .ok (.aload_n 0, 1) := by decide +kernel
theorem dX1_init_13 : decode cX1_init 13 = .ok (.new 15, 3) := by decide +kernel
theorem dX1_init_16 : decode cX1_init 16 = .ok (.dup, 1) := by decide +kernel
theorem dX1_init_17 : decode cX1_init 17 = .ok (.invokespecial 17, 3) := by decide +kernel
theorem dX1_init_20 : decode cX1_init 20 = .ok (.putfield 18, 3) := by decide +kernel
theorem dX1_init_23 : decode cX1_init 23 = .ok (.return_, 1) := by decide +kernel
theorem dX1_begin_0 : decode cX1_begin 0 = .ok (.aload_n 0, 1) := by decide +kernel
theorem dX1_begin_1 : decode cX1_begin 1 = .ok (.iconst 0, 1) := by decide +kernel
theorem dX1_begin_2 : decode cX1_begin 2 = .ok (.putfield 22, 3) := by decide +kernel
theorem dX1_begin_5 : decode cX1_begin 5 = .ok (.aload_n 0, 1) := by decide +kernel
theorem dX1_begin_6 : decode cX1_begin 6 = .ok (.iconst 0, 1) := by decide +kernel
theorem dX1_begin_7 : decode cX1_begin 7 = .ok (.putfield 26, 3) := by decide +kernel
theorem dX1_begin_10 : decode cX1_begin 10 = .ok (.aload_n 0, 1) := by decide +kernel
theorem dX1_begin_11 : decode cX1_begin 11 = .ok (.iconst 0, 1) := by decide +kernel
theorem dX1_begin_12 : decode cX1_begin 12 = .ok (.putfield 29, 3) := by decide +kernel
theorem dX1_begin_15 : decode cX1_begin 15 = .ok (.aload_n 0, 1) := by decide +kernel
theorem dX1_begin_16 : decode cX1_begin 16 = .ok (.iconst 0, 1) := by decide +kernel
theorem dX1_begin_17 : decode cX1_begin 17 = .ok (.putfield 32, 3) := by decide +kernel
theorem dX1_begin_20 : decode cX1_begin 20 = .ok (.aload_n 0, 1) := by decide +kernel
theorem dX1_begin_21 : decode cX1_begin 21 = .ok (.getfield 9, 3) := by decide +kernel
theorem dX1_begin_24 : decode cX1_begin 24 = .ok (.iconst 0, 1) := by decide +kernel
theorem dX1_begin_25 : decode cX1_begin 25 = .ok (.invokestatic 35, 3) := by decide +kernel
theorem dX1_begin_28 : decode cX1_begin 28 = .ok (.aload_n 0, 1) := by decide +kernel
theorem dX1_begin_29 : decode cX1_begin 29 = .ok (.getfield 18, 3) := by decide +kernel
theorem dX1_begin_32 : decode cX1_begin 32 = .ok (.aload_n 1, 1) := by decide +kernel
theorem dX1_begin_33 : decode cX1_begin 33 = .ok (.getfield 41, 3) := by decide +kernel
theorem dX1_begin_36 : decode cX1_begin 36 = .ok (.invokevirtual 44, 3) := by decide +kernel
theorem dX1_begin_39 : decode cX1_begin 39 = .ok (.return_, 1) := by decide +kernel
theorem dX1_copyFrom_0 : decode cX1_copyFrom 0 = .ok (.aload_n 0, 1) := by decide +kernel
theorem dX1_copyFrom_1 : decode cX1_copyFrom 1 = .ok (.aload_n 1, 1) := by decide +kernel
theorem dX1_copyFrom_2 : decode cX1_copyFrom 2 = .ok (.getfield 22, 3) := by decide +kernel
theorem dX1_copyFrom_5 : decode cX1_copyFrom 5 = .ok (.putfield 22, 3) := by decide +kernel
theorem dX1_copyFrom_8 : decode cX1_copyFrom 8 = .ok (.aload_n 0, 1) := by decide +kernel
theorem dX1_copyFrom_9 : decode cX1_copyFrom 9 = .ok (.aload_n 1, 1) := by decide +kernel
theorem dX1_copyFrom_10 : decode cX1_copyFrom 10 = .ok (.getfield 26, 3) := by decide +kernel
theorem dX1_copyFrom_13 : decode cX1_copyFrom 13 = .ok (.putfield 26, 3) := by decide +kernel
theorem dX1_copyFrom_16 : decode cX1_copyFrom 16 = .ok (.aload_n 0, 1) := by decide +kernel
theorem dX1_copyFrom_17 : decode cX1_copyFrom 17 = .ok (.aload_n 1, 1) := by decide +kernel
theorem dX1_copyFrom_18 : decode cX1_copyFrom 18 = .ok (.getfield 29, 3) := by decide +kernel
theorem dX1_copyFrom_21 : decode cX1_copyFrom 21 = .ok (.putfield 29, 3) := by decide +kernel
theorem dX1_copyFrom_24 : decode cX1_copyFrom 24 = .ok (.aload_n 0, 1) := by decide +kernel
theorem dX1_copyFrom_25 : decode cX1_copyFrom 25 = .ok (.aload_n 1, 1) := by decide +kernel
theorem dX1_copyFrom_26 : decode cX1_copyFrom 26 = .ok (.getfield 32, 3) := by decide +kernel
theorem dX1_copyFrom_29 : decode cX1_copyFrom 29 = .ok (.putfield 32, 3) := by decide +kernel
theorem dX1_copyFrom_32 : decode cX1_copyFrom 32 = .ok (.aload_n 1, 1) := by decide +kernel
theorem dX1_copyFrom_33 : decode cX1_copyFrom 33 = .ok (.getfield 9, 3) := by decide +kernel
theorem dX1_copyFrom_36 : decode cX1_copyFrom 36 = .ok (.iconst 0, 1) := by decide +kernel
theorem dX1_copyFrom_37 : decode cX1_copyFrom 37 = .ok (.aload_n 0, 1) := by decide +kernel
theorem dX1_copyFrom_38 : decode cX1_copyFrom 38 = .ok (.getfield 9, 3) := by decide +kernel
theorem dX1_copyFrom_41 : decode cX1_copyFrom 41 = .ok (.iconst 0, 1) := by decide +kernel
theorem dX1_copyFrom_42 : decode cX1_copyFrom 42 = .ok (.bipush 6, 2) := by decide +kernel
theorem dX1_copyFrom_44 : decode cX1_copyFrom 44 = .ok (.invokestatic 48, 3) := by decide +kernel
theorem dX1_copyFrom_47 : decode cX1_copyFrom 47 = .ok (.aload_n 0, 1) := by decide +kernel
theorem dX1_copyFrom_48 : decode cX1_copyFrom 48 = .ok (.getfield 18, 3) := by decide +kernel
theorem dX1_copyFrom_51 : decode cX1_copyFrom 51 = .ok (.aload_n 1, 1) := by decide +kernel
theorem dX1_copyFrom_52 : decode cX1_copyFrom 52 = .ok (.getfield 18, 3) := by decide +kernel
theorem dX1_copyFrom_55 : decode cX1_copyFrom 55 = .ok (.invokevirtual 44, 3) := by decide +kernel
theorem dX1_copyFrom_58 : decode cX1_copyFrom 58 = .ok (.return_, 1) := by decide +kernel
theorem dX1_isHidden_0 : decode cX1_isHidden 0 = .ok (.aload_n 0, 1) := by decide +kernel
theorem dX1_isHidden_1 : decode cX1_isHidden 1 = .ok (.getfield 32, 3) := by decide +kernel
theorem dX1_isHidden_4 : decode cX1_isHidden 4 = .ok (.iload_n 1, 1) := by decide +kernel
theorem dX1_isHidden_5 : decode cX1_isHidden 5 = .ok (.ishr, 1) := by decide +kernel
theorem dX1_isHidden_6 : decode cX1_isHidden 6 = .ok (.iconst 1, 1) := by decide +kernel
theorem dX1_isHidden_7 : decode cX1_isHidden 7 = .ok (.iand, 1) := by decide +kernel
theorem dX1_isHidden_8 : decode cX1_isHidden 8 = .ok (.iconst 1, 1) := by decide +kernel
theorem dX1_isHidden_9 : decode cX1_isHidden 9 = .ok (.if_icmp .ne 7, 3) := by decide +kernel
theorem dX1_isHidden_12 : decode cX1_isHidden 12 = .ok (.iconst 1, 1) := by decide +kernel
theorem dX1_isHidden_13 : decode cX1_isHidden 13 = .ok (.goto 4, 3) := by decide +kernel
theorem dX1_isHidden_16 : decode cX1_isHidden 16 = .ok (.iconst 0, 1) := by decide +kernel
theorem dX1_isHidden_17 : decode cX1_isHidden 17 = .ok (.ireturn, 1) := by decide +kernel
theorem dX1_addReigned_0 : decode cX1_addReigned 0 = .ok (.iload_n 1, 1) := by decide +kernel
theorem dX1_addReigned_1 : decode cX1_addReigned 1 = .ok (.ifCond .lt 19, 3) := by decide +kernel
theorem dX1_addReigned_4 : decode cX1_addReigned 4 = .ok (.iload_n 1, 1) := by decide +kernel
theorem dX1_addReigned_5 : decode cX1_addReigned 5 = .ok (.bipush 6, 2) := by decide +kernel
theorem dX1_addReigned_7 : decode cX1_addReigned 7 = .ok (.if_icmp .ge 13, 3) := by decide +kernel
theorem dX1_addReigned_10 : decode cX1_addReigned 10 = .ok (.aload_n 0, 1) := by decide +kernel
theorem dX1_addReigned_11 : decode cX1_addReigned 11 = .ok (.getfield 9, 3) := by decide +kernel
theorem dX1_addReigned_14 : decode cX1_addReigned 14 = .ok (.iload_n 1, 1) := by decide +kernel
theorem dX1_addReigned_15 : decode cX1_addReigned 15 = .ok (.dup2, 1) := by decide +kernel
theorem dX1_addReigned_16 : decode cX1_addReigned 16 = .ok (.iaload, 1) := by decide +kernel
theorem dX1_addReigned_17 : decode cX1_addReigned 17 = .ok (.iconst 1, 1) := by decide +kernel
theorem dX1_addReigned_18 : decode cX1_addReigned 18 = .ok (.iadd, 1) := by decide +kernel
theorem dX1_addReigned_19 : decode cX1_addReigned 19 = .ok (.iastore, 1) := by decide +kernel
theorem dX1_addReigned_20 : decode cX1_addReigned 20 = .ok (.return_, 1) := by decide +kernel
theorem dX2_init_0 : decode cX2_init 0 = .ok (.aload_n 0, 1) := by decide +kernel
theorem dX2_init_1 : decode cX2_init 1 = .ok (.invokespecial 3, 3) := by decide +kernel
theorem dX2_init_4 : decode cX2_init 4 = .ok (.aload_n 0, 1) := by decide +kernel
theorem dX2_init_5 : decode cX2_init 5 = .ok (.bipush 61, 2) := by decide +kernel
theorem dX2_init_7 : decode cX2_init 7 = .ok (.newarray .int, 2) := by decide +kernel
theorem dX2_init_9 : decode cX2_init 9 = .ok (.putfield 9, 3) := by decide +kernel
theorem dX2_init_12 : decode cX2_init 12 = .ok (.aload_n 0, 1) := by decide +kernel
theorem dX2_init_13 : decode cX2_init 13 = .ok (.bipush 61, 2) := by decide +kernel
theorem dX2_init_15 : decode cX2_init 15 = .ok (.newarray .int, 2) := by decide +kernel
theorem dX2_init_17 : decode cX2_init 17 = .ok (.putfield 15, 3) := by decide +kernel
theorem dX2_init_20 : decode cX2_init 20 = .ok (.aload_n 0, 1) := by decide +kernel
theorem dX2_init_21 : decode cX2_init 21 = .ok (.sipush 366, 3) := by decide +kernel
theorem dX2_init_24 : decode cX2_init 24 = .ok (.newarray .int, 2) := by decide +kernel
theorem dX2_init_26 : decode cX2_init 26 = .ok (.putfield 18, 3) := by decide +kernel
theorem dX2_init_29 : decode cX2_init 29 = .ok (.aload_n 0, 1) := by decide +kernel
theorem dX2_init_30 : decode cX2_init 30 = .ok (.aload_n 1, 1) := by decide +kernel
theorem dX2_init_31 : decode cX2_init 31 = .ok (.putfield 21, 3) := by decide +kernel
theorem dX2_init_34 : decode cX2_init 34 = .ok (.return_, 1) := by decide +kernel
theorem dX2_look_0 : decode cX2_look 0 = .ok (.aload_n 0, 1) := by decide +kernel
theorem dX2_look_1 : decode cX2_look 1 = .ok (.aload_n 1, 1) := by decide +kernel
theorem dX2_look_2 : decode cX2_look 2 = .ok (.putfield 25, 3) := by decide +kernel
theorem dX2_look_5 : decode cX2_look 5 = .ok (.aload_n 0, 1) := by decide +kernel
theorem dX2_look_6 : decode cX2_look 6 = .ok (.iload_n 3, 1) := by decide +kernel
theorem dX2_look_7 : decode cX2_look 7 = .ok (.putfield 29, 3) := by decide +kernel
theorem dX2_look_10 : decode cX2_look 10 = .ok (.aload_n 0, 1) := by decide +kernel
theorem dX2_look_11 : decode cX2_look 11 = .ok (.iload 4, 2) := by decide +kernel
theorem dX2_look_13 : decode cX2_look 13 = .ok (.bipush 61, 2) := by decide +kernel
theorem dX2_look_15 : decode cX2_look 15 = .ok (.invokestatic 33, 3) := by decide +kernel
theorem dX2_look_18 : decode cX2_look 18 = .ok (.putfield 39, 3) := by decide +kernel
theorem dX2_look_21 : decode cX2_look 21 = .ok (.aload_n 0, 1) := by decide +kernel
theorem dX2_look_22 : decode cX2_look 22 = .ok (.getfield 9, 3) := by decide +kernel
theorem dX2_look_25 : decode cX2_look 25 = .ok (.iconst 0, 1) := by decide +kernel
theorem dX2_look_26 : decode cX2_look 26 = .ok (.invokestatic 42, 3) := by decide +kernel
theorem dX2_look_29 : decode cX2_look 29 = .ok (.aload_n 0, 1) := by decide +kernel
theorem dX2_look_30 : decode cX2_look 30 = .ok (.getfield 15, 3) := by decide +kernel
theorem dX2_look_33 : decode cX2_look 33 = .ok (.iconst 0, 1) := by decide +kernel
theorem dX2_look_34 : decode cX2_look 34 = .ok (.invokestatic 42, 3) := by decide +kernel
theorem dX2_look_37 : decode cX2_look 37 = .ok (.iconst 0, 1) := by decide +kernel
theorem dX2_look_38 : decode cX2_look 38 = .ok (.istore 5, 2) := by decide +kernel
theorem dX2_look_40 : decode cX2_look 40 = .ok (.iload 5, 2) := by decide +kernel
theorem dX2_look_42 : decode cX2_look 42 = .ok (.aload_n 1, 1) := by decide +kernel
theorem dX2_look_43 : decode cX2_look 43 = .ok (.getfield 48, 3) := by decide +kernel
theorem dX2_look_46 : decode cX2_look 46 = .ok (.if_icmp .ge 76, 3) := by decide +kernel
theorem dX2_look_49 : decode cX2_look 49 = .ok (.iload 5, 2) := by decide +kernel
theorem dX2_look_51 : decode cX2_look 51 = .ok (.bipush 9, 2) := by decide +kernel
theorem dX2_look_53 : decode cX2_look 53 = .ok (.if_icmp .ge 69, 3) := by decide +kernel
theorem dX2_look_56 : decode cX2_look 56 = .ok (.aload_n 1, 1) := by decide +kernel
theorem dX2_look_57 : decode cX2_look 57 = .ok (.getfield 53, 3) := by decide +kernel
theorem dX2_look_60 : decode cX2_look 60 = .ok (.iload 5, 2) := by decide +kernel
theorem dX2_look_62 : decode cX2_look 62 = .ok (.iaload, 1) := by decide +kernel
theorem dX2_look_63 : decode cX2_look 63 = .ok (.iload_n 3, 1) := by decide +kernel
theorem dX2_look_64 : decode cX2_look 64 = .ok (.isub, 1) := by decide +kernel
theorem dX2_look_65 : decode cX2_look 65 = .ok (.istore 6, 2) := by decide +kernel
theorem dX2_look_67 : decode cX2_look 67 = .ok (.aload_n 0, 1) := by decide +kernel
theorem dX2_look_68 : decode cX2_look 68 = .ok (.iload 6, 2) := by decide +kernel
theorem dX2_look_70 : decode cX2_look 70 = .ok (.invokevirtual 56, 3) := by decide +kernel
theorem dX2_look_73 : decode cX2_look 73 = .ok (.ifCond .eq 43, 3) := by decide +kernel
theorem dX2_look_76 : decode cX2_look 76 = .ok (.iload_n 2, 1) := by decide +kernel
theorem dX2_look_77 : decode cX2_look 77 = .ok (.iload 5, 2) := by decide +kernel
theorem dX2_look_79 : decode cX2_look 79 = .ok (.ishr, 1) := by decide +kernel
theorem dX2_look_80 : decode cX2_look 80 = .ok (.iconst 1, 1) := by decide +kernel
theorem dX2_look_81 : decode cX2_look 81 = .ok (.iand, 1) := by decide +kernel
theorem dX2_look_82 : decode cX2_look 82 = .ok (.ifCond .ne 34, 3) := by decide +kernel
theorem dX2_look_85 : decode cX2_look 85 = .ok (.aload_n 0, 1) := by decide +kernel
theorem dX2_look_86 : decode cX2_look 86 = .ok (.getfield 9, 3) := by decide +kernel
theorem dX2_look_89 : decode cX2_look 89 = .ok (.iload 6, 2) := by decide +kernel
theorem dX2_look_91 : decode cX2_look 91 = .ok (.dup2, 1) := by decide +kernel
theorem dX2_look_92 : decode cX2_look 92 = .ok (.iaload, 1) := by decide +kernel
theorem dX2_look_93 : decode cX2_look 93 = .ok (.iconst 1, 1) := by decide +kernel
theorem dX2_look_94 : decode cX2_look 94 = .ok (.iload 5, 2) := by decide +kernel
theorem dX2_look_96 : decode cX2_look 96 = .ok (.ishl, 1) := by decide +kernel
theorem dX2_look_97 : decode cX2_look 97 = .ok (.ior, 1) := by decide +kernel
theorem dX2_look_98 : decode cX2_look 98 = .ok (.iastore, 1) := by decide +kernel
theorem dX2_look_99 : decode cX2_look 99 = .ok (.aload_n 0, 1) := by decide +kernel
theorem dX2_look_100 : decode cX2_look 100 = .ok (.getfield 15, 3) := by decide +kernel
theorem dX2_look_103 : decode cX2_look 103 = .ok (.iload 6, 2) := by decide +kernel
theorem dX2_look_105 : decode cX2_look 105 = .ok (.dup2, 1) := by decide +kernel
theorem dX2_look_106 : decode cX2_look 106 = .ok (.iaload, 1) := by decide +kernel
theorem dX2_look_107 : decode cX2_look 107 = .ok (.aload_n 1, 1) := by decide +kernel
theorem dX2_look_108 : decode cX2_look 108 = .ok (.getfield 60, 3) := by decide +kernel
theorem dX2_look_111 : decode cX2_look 111 = .ok (.iload 5, 2) := by decide +kernel
theorem dX2_look_113 : decode cX2_look 113 = .ok (.iaload, 1) := by decide +kernel
theorem dX2_look_114 : decode cX2_look 114 = .ok (.ior, 1) := by decide +kernel
theorem dX2_look_115 : decode cX2_look 115 = .ok (.iastore, 1) := by decide +kernel
theorem dX2_look_116 : decode cX2_look 116 = .ok (.iinc 5 1, 3) := by decide +kernel
theorem dX2_look_119 : decode cX2_look 119 = .ok (.goto (-79), 3) := by decide +kernel
theorem dX2_look_122 : decode cX2_look 122 = .ok (.iconst 0, 1) := by decide +kernel
theorem dX2_look_123 : decode cX2_look 123 = .ok (.istore 5, 2) := by decide +kernel
theorem dX2_look_125 : decode cX2_look 125 = .ok (.iload 5, 2) := by decide +kernel
theorem dX2_look_127 : decode cX2_look 127 = .ok (.aload_n 0, 1) := by decide +kernel
theorem dX2_look_128 : decode cX2_look 128 = .ok (.getfield 21, 3) := by decide +kernel
theorem dX2_look_131 : decode cX2_look 131 = .ok (.getfield 63, 3) := by decide +kernel
theorem dX2_look_134 : decode cX2_look 134 = .ok (.if_icmp .ge 32, 3) := by decide +kernel
theorem dX2_look_137 : decode cX2_look 137 = .ok (.iload 5, 2) := by decide +kernel
theorem dX2_look_139 : decode cX2_look 139 = .ok (.bipush 6, 2) := by decide +kernel
theorem dX2_look_141 : decode cX2_look 141 = .ok (.if_icmp .ge 25, 3) := by decide +kernel
theorem dX2_look_144 : decode cX2_look 144 = .ok (.aload_n 0, 1) := by decide +kernel
theorem dX2_look_145 : decode cX2_look 145 = .ok (.iload 5, 2) := by decide +kernel
theorem dX2_look_147 : decode cX2_look 147 = .ok (.aload_n 0, 1) := by decide +kernel
theorem dX2_look_148 : decode cX2_look 148 = .ok (.getfield 21, 3) := by decide +kernel
theorem dX2_look_151 : decode cX2_look 151 = .ok (.getfield 68, 3) := by decide +kernel
theorem dX2_look_154 : decode cX2_look 154 = .ok (.iload 5, 2) := by decide +kernel
theorem dX2_look_156 : decode cX2_look 156 = .ok (.iaload, 1) := by decide +kernel
theorem dX2_look_157 : decode cX2_look 157 = .ok (.invokevirtual 71, 3) := by decide +kernel
theorem dX2_look_160 : decode cX2_look 160 = .ok (.iinc 5 1, 3) := by decide +kernel
theorem dX2_look_163 : decode cX2_look 163 = .ok (.goto (-38), 3) := by decide +kernel
theorem dX2_look_166 : decode cX2_look 166 = .ok (.return_, 1) := by decide +kernel
theorem dX2_isLookedAt_0 : decode cX2_isLookedAt 0 = .ok (.iload_n 1, 1) := by decide +kernel
theorem dX2_isLookedAt_1 : decode cX2_isLookedAt 1 = .ok (.ifCond .lt 21, 3) := by decide +kernel
theorem dX2_isLookedAt_4 : decode cX2_isLookedAt 4 = .ok (.iload_n 1, 1) := by decide +kernel
theorem dX2_isLookedAt_5 : decode cX2_isLookedAt 5 = .ok (.aload_n 0, 1) := by decide +kernel
theorem dX2_isLookedAt_6 : decode cX2_isLookedAt 6 = .ok (.getfield 39, 3) := by decide +kernel
theorem dX2_isLookedAt_9 : decode cX2_isLookedAt 9 = .ok (.if_icmp .ge 13, 3) := by decide +kernel
theorem dX2_isLookedAt_12 : decode cX2_isLookedAt 12 = .ok (.iload_n 1, 1) := by decide +kernel
theorem dX2_isLookedAt_13 : decode cX2_isLookedAt 13 = .ok (.bipush 61, 2) := by decide +kernel
theorem dX2_isLookedAt_15 : decode cX2_isLookedAt 15 = .ok (.if_icmp .ge 7, 3) := by decide +kernel
theorem dX2_isLookedAt_18 : decode cX2_isLookedAt 18 = .ok (.iconst 1, 1) := by decide +kernel
theorem dX2_isLookedAt_19 : decode cX2_isLookedAt 19 = .ok (.goto 4, 3) := by decide +kernel
theorem dX2_isLookedAt_22 : decode cX2_isLookedAt 22 = .ok (.iconst 0, 1) := by decide +kernel
theorem dX2_isLookedAt_23 : decode cX2_isLookedAt 23 = .ok (.ireturn, 1) := by decide +kernel
theorem dX2_isPlace_0 : decode cX2_isPlace 0 = .ok (.iload_n 0, 1) := by decide +kernel
theorem dX2_isPlace_1 : decode cX2_isPlace 1 = .ok (.ifCond .lt 13, 3) := by decide +kernel
theorem dX2_isPlace_4 : decode cX2_isPlace 4 = .ok (.iload_n 0, 1) := by decide +kernel
theorem dX2_isPlace_5 : decode cX2_isPlace 5 = .ok (.bipush 6, 2) := by decide +kernel
theorem dX2_isPlace_7 : decode cX2_isPlace 7 = .ok (.if_icmp .ge 7, 3) := by decide +kernel
theorem dX2_isPlace_10 : decode cX2_isPlace 10 = .ok (.iconst 1, 1) := by decide +kernel
theorem dX2_isPlace_11 : decode cX2_isPlace 11 = .ok (.goto 4, 3) := by decide +kernel
theorem dX2_isPlace_14 : decode cX2_isPlace 14 = .ok (.iconst 0, 1) := by decide +kernel
theorem dX2_isPlace_15 : decode cX2_isPlace 15 = .ok (.ireturn, 1) := by decide +kernel
theorem dX2_weigh_0 : decode cX2_weigh 0 = .ok (.iload_n 1, 1) := by decide +kernel
theorem dX2_weigh_1 : decode cX2_weigh 1 = .ok (.invokestatic 75, 3) := by decide +kernel
theorem dX2_weigh_4 : decode cX2_weigh 4 = .ok (.ifCond .ne 4, 3) := by decide +kernel
theorem dX2_weigh_7 : decode cX2_weigh 7 = .ok (.return_, 1) := by decide +kernel
theorem dX2_weigh_8 : decode cX2_weigh 8 = .ok (.iconst 0, 1) := by decide +kernel
theorem dX2_weigh_9 : decode cX2_weigh 9 = .ok (.istore_n 3, 1) := by decide +kernel
theorem dX2_weigh_10 : decode cX2_weigh 10 = .ok (.iload_n 3, 1) := by decide +kernel
theorem dX2_weigh_11 : decode cX2_weigh 11 = .ok (.aload_n 0, 1) := by decide +kernel
theorem dX2_weigh_12 : decode cX2_weigh 12 = .ok (.getfield 39, 3) := by decide +kernel
theorem dX2_weigh_15 : decode cX2_weigh 15 = .ok (.if_icmp .ge 52, 3) := by decide +kernel
theorem dX2_weigh_18 : decode cX2_weigh 18 = .ok (.iload_n 3, 1) := by decide +kernel
theorem dX2_weigh_19 : decode cX2_weigh 19 = .ok (.bipush 61, 2) := by decide +kernel
theorem dX2_weigh_21 : decode cX2_weigh 21 = .ok (.if_icmp .ge 46, 3) := by decide +kernel
theorem dX2_weigh_24 : decode cX2_weigh 24 = .ok (.aload_n 0, 1) := by decide +kernel
theorem dX2_weigh_25 : decode cX2_weigh 25 = .ok (.getfield 18, 3) := by decide +kernel
theorem dX2_weigh_28 : decode cX2_weigh 28 = .ok (.iload_n 3, 1) := by decide +kernel
theorem dX2_weigh_29 : decode cX2_weigh 29 = .ok (.bipush 6, 2) := by decide +kernel
theorem dX2_weigh_31 : decode cX2_weigh 31 = .ok (.imul, 1) := by decide +kernel
theorem dX2_weigh_32 : decode cX2_weigh 32 = .ok (.iload_n 1, 1) := by decide +kernel
theorem dX2_weigh_33 : decode cX2_weigh 33 = .ok (.iadd, 1) := by decide +kernel
theorem dX2_weigh_34 : decode cX2_weigh 34 = .ok (.aload_n 0, 1) := by decide +kernel
theorem dX2_weigh_35 : decode cX2_weigh 35 = .ok (.aload_n 0, 1) := by decide +kernel
theorem dX2_weigh_36 : decode cX2_weigh 36 = .ok (.getfield 9, 3) := by decide +kernel
theorem dX2_weigh_39 : decode cX2_weigh 39 = .ok (.iload_n 3, 1) := by decide +kernel
theorem dX2_weigh_40 : decode cX2_weigh 40 = .ok (.iaload, 1) := by decide +kernel
theorem dX2_weigh_41 : decode cX2_weigh 41 = .ok (.aload_n 0, 1) := by decide +kernel
theorem dX2_weigh_42 : decode cX2_weigh 42 = .ok (.getfield 21, 3) := by decide +kernel
theorem dX2_weigh_45 : decode cX2_weigh 45 = .ok (.getfield 78, 3) := by decide +kernel
theorem dX2_weigh_48 : decode cX2_weigh 48 = .ok (.iload_n 1, 1) := by decide +kernel
theorem dX2_weigh_49 : decode cX2_weigh 49 = .ok (.iaload, 1) := by decide +kernel
theorem dX2_weigh_50 : decode cX2_weigh 50 = .ok (.iload_n 2, 1) := by decide +kernel
theorem dX2_weigh_51 : decode cX2_weigh 51 = .ok (.aload_n 0, 1) := by decide +kernel
theorem dX2_weigh_52 : decode cX2_weigh 52 = .ok (.getfield 29, 3) := by decide +kernel
theorem dX2_weigh_55 : decode cX2_weigh 55 = .ok (.iload_n 3, 1) := by decide +kernel
theorem dX2_weigh_56 : decode cX2_weigh 56 = .ok (.iadd, 1) := by decide +kernel
theorem dX2_weigh_57 : decode cX2_weigh 57 = .ok (.invokevirtual 81, 3) := by decide +kernel
theorem dX2_weigh_60 : decode cX2_weigh 60 = .ok (.iastore, 1) := by decide +kernel
theorem dX2_weigh_61 : decode cX2_weigh 61 = .ok (.iinc 3 1, 3) := by decide +kernel
theorem dX2_weigh_64 : decode cX2_weigh 64 = .ok (.goto (-54), 3) := by decide +kernel
theorem dX2_weigh_67 : decode cX2_weigh 67 = .ok (.return_, 1) := by decide +kernel
theorem dX2_gainBy_0 : decode cX2_gainBy 0 = .ok (.iconst 0, 1) := by decide +kernel
theorem dX2_gainBy_1 : decode cX2_gainBy 1 = .ok (.istore 5, 2) := by decide +kernel
theorem dX2_gainBy_3 : decode cX2_gainBy 3 = .ok (.iconst 0, 1) := by decide +kernel
theorem dX2_gainBy_4 : decode cX2_gainBy 4 = .ok (.istore 6, 2) := by decide +kernel
theorem dX2_gainBy_6 : decode cX2_gainBy 6 = .ok (.iload_n 1, 1) := by decide +kernel
theorem dX2_gainBy_7 : decode cX2_gainBy 7 = .ok (.ifCond .eq 10, 3) := by decide +kernel
theorem dX2_gainBy_10 : decode cX2_gainBy 10 = .ok (.aload_n 0, 1) := by decide +kernel
theorem dX2_gainBy_11 : decode cX2_gainBy 11 = .ok (.getfield 25, 3) := by decide +kernel
theorem dX2_gainBy_14 : decode cX2_gainBy 14 = .ok (.ifnonnull 6, 3) := by decide +kernel
theorem dX2_gainBy_17 : decode cX2_gainBy 17 = .ok (.iload 5, 2) := by decide +kernel
theorem dX2_gainBy_19 : decode cX2_gainBy 19 = .ok (.ireturn, 1) := by decide +kernel
theorem dX2_gainBy_20 : decode cX2_gainBy 20 = .ok (.iconst 0, 1) := by decide +kernel
theorem dX2_gainBy_21 : decode cX2_gainBy 21 = .ok (.istore 7, 2) := by decide +kernel
theorem dX2_gainBy_23 : decode cX2_gainBy 23 = .ok (.iload 7, 2) := by decide +kernel
theorem dX2_gainBy_25 : decode cX2_gainBy 25 = .ok (.aload_n 0, 1) := by decide +kernel
theorem dX2_gainBy_26 : decode cX2_gainBy 26 = .ok (.getfield 25, 3) := by decide +kernel
theorem dX2_gainBy_29 : decode cX2_gainBy 29 = .ok (.getfield 48, 3) := by decide +kernel
theorem dX2_gainBy_32 : decode cX2_gainBy 32 = .ok (.if_icmp .ge 75, 3) := by decide +kernel
theorem dX2_gainBy_35 : decode cX2_gainBy 35 = .ok (.iload 7, 2) := by decide +kernel
theorem dX2_gainBy_37 : decode cX2_gainBy 37 = .ok (.bipush 9, 2) := by decide +kernel
theorem dX2_gainBy_39 : decode cX2_gainBy 39 = .ok (.if_icmp .ge 68, 3) := by decide +kernel
theorem dX2_gainBy_42 : decode cX2_gainBy 42 = .ok (.iload_n 1, 1) := by decide +kernel
theorem dX2_gainBy_43 : decode cX2_gainBy 43 = .ok (.iload 7, 2) := by decide +kernel
theorem dX2_gainBy_45 : decode cX2_gainBy 45 = .ok (.ishr, 1) := by decide +kernel
theorem dX2_gainBy_46 : decode cX2_gainBy 46 = .ok (.iconst 1, 1) := by decide +kernel
theorem dX2_gainBy_47 : decode cX2_gainBy 47 = .ok (.iand, 1) := by decide +kernel
theorem dX2_gainBy_48 : decode cX2_gainBy 48 = .ok (.iconst 1, 1) := by decide +kernel
theorem dX2_gainBy_49 : decode cX2_gainBy 49 = .ok (.if_icmp .ne 52, 3) := by decide +kernel
theorem dX2_gainBy_52 : decode cX2_gainBy 52 = .ok (.iload 5, 2) := by decide +kernel
theorem dX2_gainBy_54 : decode cX2_gainBy 54 = .ok (.iload_n 2, 1) := by decide +kernel
theorem dX2_gainBy_55 : decode cX2_gainBy 55 = .ok (.iload_n 3, 1) := by decide +kernel
theorem dX2_gainBy_56 : decode cX2_gainBy 56 = .ok (.aload_n 0, 1) := by decide +kernel
theorem dX2_gainBy_57 : decode cX2_gainBy 57 = .ok (.getfield 25, 3) := by decide +kernel
theorem dX2_gainBy_60 : decode cX2_gainBy 60 = .ok (.getfield 60, 3) := by decide +kernel
theorem dX2_gainBy_63 : decode cX2_gainBy 63 = .ok (.iload 7, 2) := by decide +kernel
theorem dX2_gainBy_65 : decode cX2_gainBy 65 = .ok (.iaload, 1) := by decide +kernel
theorem dX2_gainBy_66 : decode cX2_gainBy 66 = .ok (.aload_n 0, 1) := by decide +kernel
theorem dX2_gainBy_67 : decode cX2_gainBy 67 = .ok (.getfield 25, 3) := by decide +kernel
theorem dX2_gainBy_70 : decode cX2_gainBy 70 = .ok (.getfield 85, 3) := by decide +kernel
theorem dX2_gainBy_73 : decode cX2_gainBy 73 = .ok (.iload 7, 2) := by decide +kernel
theorem dX2_gainBy_75 : decode cX2_gainBy 75 = .ok (.iaload, 1) := by decide +kernel
theorem dX2_gainBy_76 : decode cX2_gainBy 76 = .ok (.iload 6, 2) := by decide +kernel
theorem dX2_gainBy_78 : decode cX2_gainBy 78 = .ok (.iload 4, 2) := by decide +kernel
theorem dX2_gainBy_80 : decode cX2_gainBy 80 = .ok (.invokestatic 88, 3) := by decide +kernel
theorem dX2_gainBy_83 : decode cX2_gainBy 83 = .ok (.iadd, 1) := by decide +kernel
theorem dX2_gainBy_84 : decode cX2_gainBy 84 = .ok (.istore 5, 2) := by decide +kernel
theorem dX2_gainBy_86 : decode cX2_gainBy 86 = .ok (.iload 6, 2) := by decide +kernel
theorem dX2_gainBy_88 : decode cX2_gainBy 88 = .ok (.aload_n 0, 1) := by decide +kernel
theorem dX2_gainBy_89 : decode cX2_gainBy 89 = .ok (.getfield 25, 3) := by decide +kernel
theorem dX2_gainBy_92 : decode cX2_gainBy 92 = .ok (.getfield 60, 3) := by decide +kernel
theorem dX2_gainBy_95 : decode cX2_gainBy 95 = .ok (.iload 7, 2) := by decide +kernel
theorem dX2_gainBy_97 : decode cX2_gainBy 97 = .ok (.iaload, 1) := by decide +kernel
theorem dX2_gainBy_98 : decode cX2_gainBy 98 = .ok (.ior, 1) := by decide +kernel
theorem dX2_gainBy_99 : decode cX2_gainBy 99 = .ok (.istore 6, 2) := by decide +kernel
theorem dX2_gainBy_101 : decode cX2_gainBy 101 = .ok (.iinc 7 1, 3) := by decide +kernel
theorem dX2_gainBy_104 : decode cX2_gainBy 104 = .ok (.goto (-81), 3) := by decide +kernel
theorem dX2_gainBy_107 : decode cX2_gainBy 107 = .ok (.iload 5, 2) := by decide +kernel
theorem dX2_gainBy_109 : decode cX2_gainBy 109 = .ok (.ireturn, 1) := by decide +kernel
theorem dX2_gainOf_0 : decode cX2_gainOf 0 = .ok (.aload_n 0, 1) := by decide +kernel
theorem dX2_gainOf_1 : decode cX2_gainOf 1 = .ok (.iload_n 1, 1) := by decide +kernel
theorem dX2_gainOf_2 : decode cX2_gainOf 2 = .ok (.invokevirtual 56, 3) := by decide +kernel
theorem dX2_gainOf_5 : decode cX2_gainOf 5 = .ok (.ifCond .eq 24, 3) := by decide +kernel
theorem dX2_gainOf_8 : decode cX2_gainOf 8 = .ok (.iload_n 2, 1) := by decide +kernel
theorem dX2_gainOf_9 : decode cX2_gainOf 9 = .ok (.invokestatic 75, 3) := by decide +kernel
theorem dX2_gainOf_12 : decode cX2_gainOf 12 = .ok (.ifCond .eq 17, 3) := by decide +kernel
theorem dX2_gainOf_15 : decode cX2_gainOf 15 = .ok (.aload_n 0, 1) := by decide +kernel
theorem dX2_gainOf_16 : decode cX2_gainOf 16 = .ok (.getfield 18, 3) := by decide +kernel
theorem dX2_gainOf_19 : decode cX2_gainOf 19 = .ok (.iload_n 1, 1) := by decide +kernel
theorem dX2_gainOf_20 : decode cX2_gainOf 20 = .ok (.bipush 6, 2) := by decide +kernel
theorem dX2_gainOf_22 : decode cX2_gainOf 22 = .ok (.imul, 1) := by decide +kernel
theorem dX2_gainOf_23 : decode cX2_gainOf 23 = .ok (.iload_n 2, 1) := by decide +kernel
theorem dX2_gainOf_24 : decode cX2_gainOf 24 = .ok (.iadd, 1) := by decide +kernel
theorem dX2_gainOf_25 : decode cX2_gainOf 25 = .ok (.iaload, 1) := by decide +kernel
theorem dX2_gainOf_26 : decode cX2_gainOf 26 = .ok (.goto 4, 3) := by decide +kernel
theorem dX2_gainOf_29 : decode cX2_gainOf 29 = .ok (.iconst 0, 1) := by decide +kernel
theorem dX2_gainOf_30 : decode cX2_gainOf 30 = .ok (.ireturn, 1) := by decide +kernel
theorem dX2_gainWithout_0 : decode cX2_gainWithout 0 = .ok (.aload_n 0, 1) := by decide +kernel
theorem dX2_gainWithout_1 : decode cX2_gainWithout 1 = .ok (.iload_n 1, 1) := by decide +kernel
theorem dX2_gainWithout_2 : decode cX2_gainWithout 2 = .ok (.invokevirtual 56, 3) := by decide +kernel
theorem dX2_gainWithout_5 : decode cX2_gainWithout 5 = .ok (.ifCond .eq 10, 3) := by decide +kernel
theorem dX2_gainWithout_8 : decode cX2_gainWithout 8 = .ok (.iload_n 2, 1) := by decide +kernel
theorem dX2_gainWithout_9 : decode cX2_gainWithout 9 = .ok (.invokestatic 75, 3) := by decide +kernel
theorem dX2_gainWithout_12 : decode cX2_gainWithout 12 = .ok (.ifCond .ne 5, 3) := by decide +kernel
theorem dX2_gainWithout_15 : decode cX2_gainWithout 15 = .ok (.iconst 0, 1) := by decide +kernel
theorem dX2_gainWithout_16 : decode cX2_gainWithout 16 = .ok (.ireturn, 1) := by decide +kernel
theorem dX2_gainWithout_17 : decode cX2_gainWithout 17 = .ok (.aload_n 0, 1) := by decide +kernel
theorem dX2_gainWithout_18 : decode cX2_gainWithout 18 = .ok (.aload_n 0, 1) := by decide +kernel
theorem dX2_gainWithout_19 : decode cX2_gainWithout 19 = .ok (.getfield 9, 3) := by decide +kernel
theorem dX2_gainWithout_22 : decode cX2_gainWithout 22 = .ok (.iload_n 1, 1) := by decide +kernel
theorem dX2_gainWithout_23 : decode cX2_gainWithout 23 = .ok (.iaload, 1) := by decide +kernel
theorem dX2_gainWithout_24 : decode cX2_gainWithout 24 = .ok (.iload_n 3, 1) := by decide +kernel
theorem dX2_gainWithout_25 : decode cX2_gainWithout 25 = .ok (.iconst (-1), 1) := by decide +kernel
theorem dX2_gainWithout_26 : decode cX2_gainWithout 26 = .ok (.ixor, 1) := by decide +kernel
theorem dX2_gainWithout_27 : decode cX2_gainWithout 27 = .ok (.iand, 1) := by decide +kernel
theorem dX2_gainWithout_28 : decode cX2_gainWithout 28 = .ok (.aload_n 0, 1) := by decide +kernel
theorem dX2_gainWithout_29 : decode cX2_gainWithout 29 = .ok (.getfield 21, 3) := by decide +kernel
theorem dX2_gainWithout_32 : decode cX2_gainWithout 32 = .ok (.getfield 78, 3) := by decide +kernel
theorem dX2_gainWithout_35 : decode cX2_gainWithout 35 = .ok (.iload_n 2, 1) := by decide +kernel
theorem dX2_gainWithout_36 : decode cX2_gainWithout 36 = .ok (.iaload, 1) := by decide +kernel
theorem dX2_gainWithout_37 : decode cX2_gainWithout 37 = .ok (.aload_n 0, 1) := by decide +kernel
theorem dX2_gainWithout_38 : decode cX2_gainWithout 38 = .ok (.getfield 21, 3) := by decide +kernel
theorem dX2_gainWithout_41 : decode cX2_gainWithout 41 = .ok (.getfield 68, 3) := by decide +kernel
theorem dX2_gainWithout_44 : decode cX2_gainWithout 44 = .ok (.iload_n 2, 1) := by decide +kernel
theorem dX2_gainWithout_45 : decode cX2_gainWithout 45 = .ok (.iaload, 1) := by decide +kernel
theorem dX2_gainWithout_46 : decode cX2_gainWithout 46 = .ok (.aload_n 0, 1) := by decide +kernel
theorem dX2_gainWithout_47 : decode cX2_gainWithout 47 = .ok (.getfield 29, 3) := by decide +kernel
theorem dX2_gainWithout_50 : decode cX2_gainWithout 50 = .ok (.iload_n 1, 1) := by decide +kernel
theorem dX2_gainWithout_51 : decode cX2_gainWithout 51 = .ok (.iadd, 1) := by decide +kernel
theorem dX2_gainWithout_52 : decode cX2_gainWithout 52 = .ok (.invokevirtual 81, 3) := by decide +kernel
theorem dX2_gainWithout_55 : decode cX2_gainWithout 55 = .ok (.ireturn, 1) := by decide +kernel
theorem dX2_gainOfOneMore_0 : decode cX2_gainOfOneMore 0 = .ok (.aload_n 0, 1) := by decide +kernel
theorem dX2_gainOfOneMore_1 : decode cX2_gainOfOneMore 1 = .ok (.iload_n 1, 1) := by decide +kernel
theorem dX2_gainOfOneMore_2 : decode cX2_gainOfOneMore 2 = .ok (.invokevirtual 56, 3) := by decide +kernel
theorem dX2_gainOfOneMore_5 : decode cX2_gainOfOneMore 5 = .ok (.ifCond .eq 10, 3) := by decide +kernel
theorem dX2_gainOfOneMore_8 : decode cX2_gainOfOneMore 8 = .ok (.iload_n 2, 1) := by decide +kernel
theorem dX2_gainOfOneMore_9 : decode cX2_gainOfOneMore 9 = .ok (.invokestatic 75, 3) := by decide +kernel
theorem dX2_gainOfOneMore_12 : decode cX2_gainOfOneMore 12 = .ok (.ifCond .ne 5, 3) := by decide +kernel
theorem dX2_gainOfOneMore_15 : decode cX2_gainOfOneMore 15 = .ok (.iconst 0, 1) := by decide +kernel
theorem dX2_gainOfOneMore_16 : decode cX2_gainOfOneMore 16 = .ok (.ireturn, 1) := by decide +kernel
theorem dX2_gainOfOneMore_17 : decode cX2_gainOfOneMore 17 = .ok (.aload_n 0, 1) := by decide +kernel
theorem dX2_gainOfOneMore_18 : decode cX2_gainOfOneMore 18 = .ok (.getfield 21, 3) := by decide +kernel
theorem dX2_gainOfOneMore_21 : decode cX2_gainOfOneMore 21 = .ok (.getfield 78, 3) := by decide +kernel
theorem dX2_gainOfOneMore_24 : decode cX2_gainOfOneMore 24 = .ok (.iload_n 2, 1) := by decide +kernel
theorem dX2_gainOfOneMore_25 : decode cX2_gainOfOneMore 25 = .ok (.iaload, 1) := by decide +kernel
theorem dX2_gainOfOneMore_26 : decode cX2_gainOfOneMore 26 = .ok (.aload_n 0, 1) := by decide +kernel
theorem dX2_gainOfOneMore_27 : decode cX2_gainOfOneMore 27 = .ok (.getfield 21, 3) := by decide +kernel
theorem dX2_gainOfOneMore_30 : decode cX2_gainOfOneMore 30 = .ok (.getfield 68, 3) := by decide +kernel
theorem dX2_gainOfOneMore_33 : decode cX2_gainOfOneMore 33 = .ok (.iload_n 2, 1) := by decide +kernel
theorem dX2_gainOfOneMore_34 : decode cX2_gainOfOneMore 34 = .ok (.iaload, 1) := by decide +kernel
theorem dX2_gainOfOneMore_35 : decode cX2_gainOfOneMore 35 = .ok (.iload_n 3, 1) := by decide +kernel
theorem dX2_gainOfOneMore_36 : decode cX2_gainOfOneMore 36 = .ok (.iload 4, 2) := by decide +kernel
theorem dX2_gainOfOneMore_38 : decode cX2_gainOfOneMore 38 = .ok (.aload_n 0, 1) := by decide +kernel
theorem dX2_gainOfOneMore_39 : decode cX2_gainOfOneMore 39 = .ok (.getfield 15, 3) := by decide +kernel
theorem dX2_gainOfOneMore_42 : decode cX2_gainOfOneMore 42 = .ok (.iload_n 1, 1) := by decide +kernel
theorem dX2_gainOfOneMore_43 : decode cX2_gainOfOneMore 43 = .ok (.iaload, 1) := by decide +kernel
theorem dX2_gainOfOneMore_44 : decode cX2_gainOfOneMore 44 = .ok (.aload_n 0, 1) := by decide +kernel
theorem dX2_gainOfOneMore_45 : decode cX2_gainOfOneMore 45 = .ok (.getfield 29, 3) := by decide +kernel
theorem dX2_gainOfOneMore_48 : decode cX2_gainOfOneMore 48 = .ok (.iload_n 1, 1) := by decide +kernel
theorem dX2_gainOfOneMore_49 : decode cX2_gainOfOneMore 49 = .ok (.iadd, 1) := by decide +kernel
theorem dX2_gainOfOneMore_50 : decode cX2_gainOfOneMore 50 = .ok (.invokestatic 88, 3) := by decide +kernel
theorem dX2_gainOfOneMore_53 : decode cX2_gainOfOneMore 53 = .ok (.ireturn, 1) := by decide +kernel
theorem dX2_add_0 : decode cX2_add 0 = .ok (.aload_n 0, 1) := by decide +kernel
theorem dX2_add_1 : decode cX2_add 1 = .ok (.iconst 1, 1) := by decide +kernel
theorem dX2_add_2 : decode cX2_add 2 = .ok (.iload_n 1, 1) := by decide +kernel
theorem dX2_add_3 : decode cX2_add 3 = .ok (.iload_n 2, 1) := by decide +kernel
theorem dX2_add_4 : decode cX2_add 4 = .ok (.iload_n 3, 1) := by decide +kernel
theorem dX2_add_5 : decode cX2_add 5 = .ok (.invokevirtual 92, 3) := by decide +kernel
theorem dX2_add_8 : decode cX2_add 8 = .ok (.return_, 1) := by decide +kernel
theorem dX2_takeAway_0 : decode cX2_takeAway 0 = .ok (.aload_n 0, 1) := by decide +kernel
theorem dX2_takeAway_1 : decode cX2_takeAway 1 = .ok (.iconst (-1), 1) := by decide +kernel
theorem dX2_takeAway_2 : decode cX2_takeAway 2 = .ok (.iload_n 1, 1) := by decide +kernel
theorem dX2_takeAway_3 : decode cX2_takeAway 3 = .ok (.iload_n 2, 1) := by decide +kernel
theorem dX2_takeAway_4 : decode cX2_takeAway 4 = .ok (.iload_n 3, 1) := by decide +kernel
theorem dX2_takeAway_5 : decode cX2_takeAway 5 = .ok (.invokevirtual 92, 3) := by decide +kernel
theorem dX2_takeAway_8 : decode cX2_takeAway 8 = .ok (.return_, 1) := by decide +kernel
theorem dX2_addTimes_0 : decode cX2_addTimes 0 = .ok (.aload_n 0, 1) := by decide +kernel
theorem dX2_addTimes_1 : decode cX2_addTimes 1 = .ok (.iload_n 2, 1) := by decide +kernel
theorem dX2_addTimes_2 : decode cX2_addTimes 2 = .ok (.invokevirtual 56, 3) := by decide +kernel
theorem dX2_addTimes_5 : decode cX2_addTimes 5 = .ok (.ifCond .ne 4, 3) := by decide +kernel
theorem dX2_addTimes_8 : decode cX2_addTimes 8 = .ok (.return_, 1) := by decide +kernel
theorem dX2_addTimes_9 : decode cX2_addTimes 9 = .ok (.iconst 0, 1) := by decide +kernel
theorem dX2_addTimes_10 : decode cX2_addTimes 10 = .ok (.istore 5, 2) := by decide +kernel
theorem dX2_addTimes_12 : decode cX2_addTimes 12 = .ok (.iload 5, 2) := by decide +kernel
theorem dX2_addTimes_14 : decode cX2_addTimes 14 = .ok (.aload_n 0, 1) := by decide +kernel
theorem dX2_addTimes_15 : decode cX2_addTimes 15 = .ok (.getfield 21, 3) := by decide +kernel
theorem dX2_addTimes_18 : decode cX2_addTimes 18 = .ok (.getfield 63, 3) := by decide +kernel
theorem dX2_addTimes_21 : decode cX2_addTimes 21 = .ok (.if_icmp .ge 43, 3) := by decide +kernel
theorem dX2_addTimes_24 : decode cX2_addTimes 24 = .ok (.iload 5, 2) := by decide +kernel
theorem dX2_addTimes_26 : decode cX2_addTimes 26 = .ok (.bipush 6, 2) := by decide +kernel
theorem dX2_addTimes_28 : decode cX2_addTimes 28 = .ok (.if_icmp .ge 36, 3) := by decide +kernel
theorem dX2_addTimes_31 : decode cX2_addTimes 31 = .ok (.aload_n 0, 1) := by decide +kernel
theorem dX2_addTimes_32 : decode cX2_addTimes 32 = .ok (.getfield 18, 3) := by decide +kernel
theorem dX2_addTimes_35 : decode cX2_addTimes 35 = .ok (.iload_n 2, 1) := by decide +kernel
theorem dX2_addTimes_36 : decode cX2_addTimes 36 = .ok (.bipush 6, 2) := by decide +kernel
theorem dX2_addTimes_38 : decode cX2_addTimes 38 = .ok (.imul, 1) := by decide +kernel
theorem dX2_addTimes_39 : decode cX2_addTimes 39 = .ok (.iload 5, 2) := by decide +kernel
theorem dX2_addTimes_41 : decode cX2_addTimes 41 = .ok (.iadd, 1) := by decide +kernel
theorem dX2_addTimes_42 : decode cX2_addTimes 42 = .ok (.dup2, 1) := by decide +kernel
theorem dX2_addTimes_43 : decode cX2_addTimes 43 = .ok (.iaload, 1) := by decide +kernel
theorem dX2_addTimes_44 : decode cX2_addTimes 44 = .ok (.iload_n 1, 1) := by decide +kernel
theorem dX2_addTimes_45 : decode cX2_addTimes 45 = .ok (.aload_n 0, 1) := by decide +kernel
theorem dX2_addTimes_46 : decode cX2_addTimes 46 = .ok (.iload_n 2, 1) := by decide +kernel
theorem dX2_addTimes_47 : decode cX2_addTimes 47 = .ok (.iload 5, 2) := by decide +kernel
theorem dX2_addTimes_49 : decode cX2_addTimes 49 = .ok (.iload_n 3, 1) := by decide +kernel
theorem dX2_addTimes_50 : decode cX2_addTimes 50 = .ok (.iload 4, 2) := by decide +kernel
theorem dX2_addTimes_52 : decode cX2_addTimes 52 = .ok (.invokevirtual 96, 3) := by decide +kernel
theorem dX2_addTimes_55 : decode cX2_addTimes 55 = .ok (.imul, 1) := by decide +kernel
theorem dX2_addTimes_56 : decode cX2_addTimes 56 = .ok (.iadd, 1) := by decide +kernel
theorem dX2_addTimes_57 : decode cX2_addTimes 57 = .ok (.iastore, 1) := by decide +kernel
theorem dX2_addTimes_58 : decode cX2_addTimes 58 = .ok (.iinc 5 1, 3) := by decide +kernel
theorem dX2_addTimes_61 : decode cX2_addTimes 61 = .ok (.goto (-49), 3) := by decide +kernel
theorem dX2_addTimes_64 : decode cX2_addTimes 64 = .ok (.return_, 1) := by decide +kernel
theorem dX2_shownAtAll_0 : decode cX2_shownAtAll 0 = .ok (.iconst 0, 1) := by decide +kernel
theorem dX2_shownAtAll_1 : decode cX2_shownAtAll 1 = .ok (.istore_n 1, 1) := by decide +kernel
theorem dX2_shownAtAll_2 : decode cX2_shownAtAll 2 = .ok (.iconst 0, 1) := by decide +kernel
theorem dX2_shownAtAll_3 : decode cX2_shownAtAll 3 = .ok (.istore_n 2, 1) := by decide +kernel
theorem dX2_shownAtAll_4 : decode cX2_shownAtAll 4 = .ok (.iload_n 2, 1) := by decide +kernel
theorem dX2_shownAtAll_5 : decode cX2_shownAtAll 5 = .ok (.aload_n 0, 1) := by decide +kernel
theorem dX2_shownAtAll_6 : decode cX2_shownAtAll 6 = .ok (.getfield 39, 3) := by decide +kernel
theorem dX2_shownAtAll_9 : decode cX2_shownAtAll 9 = .ok (.if_icmp .ge 24, 3) := by decide +kernel
theorem dX2_shownAtAll_12 : decode cX2_shownAtAll 12 = .ok (.iload_n 2, 1) := by decide +kernel
theorem dX2_shownAtAll_13 : decode cX2_shownAtAll 13 = .ok (.bipush 61, 2) := by decide +kernel
theorem dX2_shownAtAll_15 : decode cX2_shownAtAll 15 = .ok (.if_icmp .ge 18, 3) := by decide +kernel
theorem dX2_shownAtAll_18 : decode cX2_shownAtAll 18 = .ok (.iload_n 1, 1) := by decide +kernel
theorem dX2_shownAtAll_19 : decode cX2_shownAtAll 19 = .ok (.aload_n 0, 1) := by decide +kernel
theorem dX2_shownAtAll_20 : decode cX2_shownAtAll 20 = .ok (.getfield 9, 3) := by decide +kernel
theorem dX2_shownAtAll_23 : decode cX2_shownAtAll 23 = .ok (.iload_n 2, 1) := by decide +kernel
theorem dX2_shownAtAll_24 : decode cX2_shownAtAll 24 = .ok (.iaload, 1) := by decide +kernel
theorem dX2_shownAtAll_25 : decode cX2_shownAtAll 25 = .ok (.ior, 1) := by decide +kernel
theorem dX2_shownAtAll_26 : decode cX2_shownAtAll 26 = .ok (.istore_n 1, 1) := by decide +kernel
theorem dX2_shownAtAll_27 : decode cX2_shownAtAll 27 = .ok (.iinc 2 1, 3) := by decide +kernel
theorem dX2_shownAtAll_30 : decode cX2_shownAtAll 30 = .ok (.goto (-26), 3) := by decide +kernel
theorem dX2_shownAtAll_33 : decode cX2_shownAtAll 33 = .ok (.iload_n 1, 1) := by decide +kernel
theorem dX2_shownAtAll_34 : decode cX2_shownAtAll 34 = .ok (.ireturn, 1) := by decide +kernel
theorem dX3_init_0 : decode cX3_init 0 = .ok (.aload_n 0, 1) := by decide +kernel
theorem dX3_init_1 : decode cX3_init 1 = .ok (.invokespecial 3, 3) := by decide +kernel
theorem dX3_init_4 : decode cX3_init 4 = .ok (.aload_n 0, 1) := by decide +kernel
theorem dX3_init_5 : decode cX3_init 5 = .ok (.bipush 6, 2) := by decide +kernel
theorem dX3_init_7 : decode cX3_init 7 = .ok (.newarray .int, 2) := by decide +kernel
theorem dX3_init_9 : decode cX3_init 9 = .ok (.putfield 9, 3) := by decide +kernel
theorem dX3_init_12 : decode cX3_init 12 = .ok (.aload_n 0, 1) := by decide +kernel
theorem dX3_init_13 : decode cX3_init 13 = .ok (.aload_n 1, 1) := by decide +kernel
theorem dX3_init_14 : decode cX3_init 14 = .ok (.putfield 15, 3) := by decide +kernel
theorem dX3_init_17 : decode cX3_init 17 = .ok (.aload_n 0, 1) := by decide +kernel
theorem dX3_init_18 : decode cX3_init 18 = .ok (.aload_n 2, 1) := by decide +kernel
theorem dX3_init_19 : decode cX3_init 19 = .ok (.putfield 19, 3) := by decide +kernel
theorem dX3_init_22 : decode cX3_init 22 = .ok (.return_, 1) := by decide +kernel
theorem dX3_start_0 : decode cX3_start 0 = .ok (.aload_n 0, 1) := by decide +kernel
theorem dX3_start_1 : decode cX3_start 1 = .ok (.invokevirtual 23, 3) := by decide +kernel
theorem dX3_start_4 : decode cX3_start 4 = .ok (.aload_n 0, 1) := by decide +kernel
theorem dX3_start_5 : decode cX3_start 5 = .ok (.aload_n 1, 1) := by decide +kernel
theorem dX3_start_6 : decode cX3_start 6 = .ok (.getfield 26, 3) := by decide +kernel
theorem dX3_start_9 : decode cX3_start 9 = .ok (.putfield 32, 3) := by decide +kernel
theorem dX3_start_12 : decode cX3_start 12 = .ok (.aload_n 0, 1) := by decide +kernel
theorem dX3_start_13 : decode cX3_start 13 = .ok (.aload_n 1, 1) := by decide +kernel
theorem dX3_start_14 : decode cX3_start 14 = .ok (.getfield 35, 3) := by decide +kernel
theorem dX3_start_17 : decode cX3_start 17 = .ok (.putfield 38, 3) := by decide +kernel
theorem dX3_start_20 : decode cX3_start 20 = .ok (.return_, 1) := by decide +kernel
theorem dX3_startFirst_0 : decode cX3_startFirst 0 = .ok (.aload_n 0, 1) := by decide +kernel
theorem dX3_startFirst_1 : decode cX3_startFirst 1 = .ok (.invokevirtual 23, 3) := by decide +kernel
theorem dX3_startFirst_4 : decode cX3_startFirst 4 = .ok (.aload_n 0, 1) := by decide +kernel
theorem dX3_startFirst_5 : decode cX3_startFirst 5 = .ok (.iconst 0, 1) := by decide +kernel
theorem dX3_startFirst_6 : decode cX3_startFirst 6 = .ok (.putfield 32, 3) := by decide +kernel
theorem dX3_startFirst_9 : decode cX3_startFirst 9 = .ok (.aload_n 0, 1) := by decide +kernel
theorem dX3_startFirst_10 : decode cX3_startFirst 10 = .ok (.iconst 0, 1) := by decide +kernel
theorem dX3_startFirst_11 : decode cX3_startFirst 11 = .ok (.putfield 38, 3) := by decide +kernel
theorem dX3_startFirst_14 : decode cX3_startFirst 14 = .ok (.return_, 1) := by decide +kernel
theorem dX3_startLine_0 : decode cX3_startLine 0 = .ok (.aload_n 0, 1) := by decide +kernel
theorem dX3_startLine_1 : decode cX3_startLine 1 = .ok (.iconst 0, 1) := by decide +kernel
theorem dX3_startLine_2 : decode cX3_startLine 2 = .ok (.putfield 32, 3) := by decide +kernel
theorem dX3_startLine_5 : decode cX3_startLine 5 = .ok (.aload_n 0, 1) := by decide +kernel
theorem dX3_startLine_6 : decode cX3_startLine 6 = .ok (.aload_n 0, 1) := by decide +kernel
theorem dX3_startLine_7 : decode cX3_startLine 7 = .ok (.invokevirtual 39, 3) := by decide +kernel
theorem dX3_startLine_10 : decode cX3_startLine 10 = .ok (.aload_n 1, 1) := by decide +kernel
theorem dX3_startLine_11 : decode cX3_startLine 11 = .ok (.getfield 26, 3) := by decide +kernel
theorem dX3_startLine_14 : decode cX3_startLine 14 = .ok (.if_icmp .ne 10, 3) := by decide +kernel
theorem dX3_startLine_17 : decode cX3_startLine 17 = .ok (.aload_n 1, 1) := by decide +kernel
theorem dX3_startLine_18 : decode cX3_startLine 18 = .ok (.getfield 35, 3) := by decide +kernel
theorem dX3_startLine_21 : decode cX3_startLine 21 = .ok (.goto 4, 3) := by decide +kernel
theorem dX3_startLine_24 : decode cX3_startLine 24 = .ok (.iconst 0, 1) := by decide +kernel
theorem dX3_startLine_25 : decode cX3_startLine 25 = .ok (.putfield 38, 3) := by decide +kernel
theorem dX3_startLine_28 : decode cX3_startLine 28 = .ok (.return_, 1) := by decide +kernel
theorem dX3_reigning_0 : decode cX3_reigning 0 = .ok (.aload_n 0, 1) := by decide +kernel
theorem dX3_reigning_1 : decode cX3_reigning 1 = .ok (.getfield 32, 3) := by decide +kernel
theorem dX3_reigning_4 : decode cX3_reigning 4 = .ok (.ifCond .lt 24, 3) := by decide +kernel
theorem dX3_reigning_7 : decode cX3_reigning 7 = .ok (.aload_n 0, 1) := by decide +kernel
theorem dX3_reigning_8 : decode cX3_reigning 8 = .ok (.getfield 32, 3) := by decide +kernel
theorem dX3_reigning_11 : decode cX3_reigning 11 = .ok (.bipush 6, 2) := by decide +kernel
theorem dX3_reigning_13 : decode cX3_reigning 13 = .ok (.if_icmp .ge 15, 3) := by decide +kernel
theorem dX3_reigning_16 : decode cX3_reigning 16 = .ok (.aload_n 0, 1) := by decide +kernel
theorem dX3_reigning_17 : decode cX3_reigning 17 = .ok (.getfield 9, 3) := by decide +kernel
theorem dX3_reigning_20 : decode cX3_reigning 20 = .ok (.aload_n 0, 1) := by decide +kernel
theorem dX3_reigning_21 : decode cX3_reigning 21 = .ok (.getfield 32, 3) := by decide +kernel
theorem dX3_reigning_24 : decode cX3_reigning 24 = .ok (.iaload, 1) := by decide +kernel
theorem dX3_reigning_25 : decode cX3_reigning 25 = .ok (.goto 4, 3) := by decide +kernel
theorem dX3_reigning_28 : decode cX3_reigning 28 = .ok (.iconst 0, 1) := by decide +kernel
theorem dX3_reigning_29 : decode cX3_reigning 29 = .ok (.ireturn, 1) := by decide +kernel
theorem dX3_ringsOn_0 : decode cX3_ringsOn 0 = .ok (.aload_n 0, 1) := by decide +kernel
theorem dX3_ringsOn_1 : decode cX3_ringsOn 1 = .ok (.invokevirtual 39, 3) := by decide +kernel
theorem dX3_ringsOn_4 : decode cX3_ringsOn 4 = .ok (.istore_n 2, 1) := by decide +kernel
theorem dX3_ringsOn_5 : decode cX3_ringsOn 5 = .ok (.aload_n 0, 1) := by decide +kernel
theorem dX3_ringsOn_6 : decode cX3_ringsOn 6 = .ok (.aload_n 0, 1) := by decide +kernel
theorem dX3_ringsOn_7 : decode cX3_ringsOn 7 = .ok (.getfield 15, 3) := by decide +kernel
theorem dX3_ringsOn_10 : decode cX3_ringsOn 10 = .ok (.aload_n 0, 1) := by decide +kernel
theorem dX3_ringsOn_11 : decode cX3_ringsOn 11 = .ok (.getfield 38, 3) := by decide +kernel
theorem dX3_ringsOn_14 : decode cX3_ringsOn 14 = .ok (.invokevirtual 43, 3) := by decide +kernel
theorem dX3_ringsOn_17 : decode cX3_ringsOn 17 = .ok (.aload_n 0, 1) := by decide +kernel
theorem dX3_ringsOn_18 : decode cX3_ringsOn 18 = .ok (.getfield 19, 3) := by decide +kernel
theorem dX3_ringsOn_21 : decode cX3_ringsOn 21 = .ok (.iload_n 1, 1) := by decide +kernel
theorem dX3_ringsOn_22 : decode cX3_ringsOn 22 = .ok (.iload_n 2, 1) := by decide +kernel
theorem dX3_ringsOn_23 : decode cX3_ringsOn 23 = .ok (.invokevirtual 49, 3) := by decide +kernel
theorem dX3_ringsOn_26 : decode cX3_ringsOn 26 = .ok (.iadd, 1) := by decide +kernel
theorem dX3_ringsOn_27 : decode cX3_ringsOn 27 = .ok (.putfield 38, 3) := by decide +kernel
theorem dX3_ringsOn_30 : decode cX3_ringsOn 30 = .ok (.aload_n 0, 1) := by decide +kernel
theorem dX3_ringsOn_31 : decode cX3_ringsOn 31 = .ok (.getfield 38, 3) := by decide +kernel
theorem dX3_ringsOn_34 : decode cX3_ringsOn 34 = .ok (.aload_n 0, 1) := by decide +kernel
theorem dX3_ringsOn_35 : decode cX3_ringsOn 35 = .ok (.getfield 15, 3) := by decide +kernel
theorem dX3_ringsOn_38 : decode cX3_ringsOn 38 = .ok (.iload_n 2, 1) := by decide +kernel
theorem dX3_ringsOn_39 : decode cX3_ringsOn 39 = .ok (.invokevirtual 55, 3) := by decide +kernel
theorem dX3_ringsOn_42 : decode cX3_ringsOn 42 = .ok (.if_icmp .lt 7, 3) := by decide +kernel
theorem dX3_ringsOn_45 : decode cX3_ringsOn 45 = .ok (.iconst 1, 1) := by decide +kernel
theorem dX3_ringsOn_46 : decode cX3_ringsOn 46 = .ok (.goto 4, 3) := by decide +kernel
theorem dX3_ringsOn_49 : decode cX3_ringsOn 49 = .ok (.iconst 0, 1) := by decide +kernel
theorem dX3_ringsOn_50 : decode cX3_ringsOn 50 = .ok (.ireturn, 1) := by decide +kernel
theorem dX3_change_0 : decode cX3_change 0 = .ok (.aload_n 0, 1) := by decide +kernel
theorem dX3_change_1 : decode cX3_change 1 = .ok (.aload_n 0, 1) := by decide +kernel
theorem dX3_change_2 : decode cX3_change 2 = .ok (.getfield 32, 3) := by decide +kernel
theorem dX3_change_5 : decode cX3_change 5 = .ok (.iconst 1, 1) := by decide +kernel
theorem dX3_change_6 : decode cX3_change 6 = .ok (.iadd, 1) := by decide +kernel
theorem dX3_change_7 : decode cX3_change 7 = .ok (.aload_n 0, 1) := by decide +kernel
theorem dX3_change_8 : decode cX3_change 8 = .ok (.getfield 15, 3) := by decide +kernel
theorem dX3_change_11 : decode cX3_change 11 = .ok (.getfield 58, 3) := by decide +kernel
theorem dX3_change_14 : decode cX3_change 14 = .ok (.if_icmp .ge 12, 3) := by decide +kernel
theorem dX3_change_17 : decode cX3_change 17 = .ok (.aload_n 0, 1) := by decide +kernel
theorem dX3_change_18 : decode cX3_change 18 = .ok (.getfield 32, 3) := by decide +kernel
theorem dX3_change_21 : decode cX3_change 21 = .ok (.iconst 1, 1) := by decide +kernel
theorem dX3_change_22 : decode cX3_change 22 = .ok (.iadd, 1) := by decide +kernel
theorem dX3_change_23 : decode cX3_change 23 = .ok (.goto 4, 3) := by decide +kernel
theorem dX3_change_26 : decode cX3_change 26 = .ok (.iconst 0, 1) := by decide +kernel
theorem dX3_change_27 : decode cX3_change 27 = .ok (.putfield 32, 3) := by decide +kernel
theorem dX3_change_30 : decode cX3_change 30 = .ok (.aload_n 0, 1) := by decide +kernel
theorem dX3_change_31 : decode cX3_change 31 = .ok (.iconst 0, 1) := by decide +kernel
theorem dX3_change_32 : decode cX3_change 32 = .ok (.putfield 38, 3) := by decide +kernel
theorem dX3_change_35 : decode cX3_change 35 = .ok (.return_, 1) := by decide +kernel
theorem dX3_live_0 : decode cX3_live 0 = .ok (.aload_n 0, 1) := by decide +kernel
theorem dX3_live_1 : decode cX3_live 1 = .ok (.iload_n 1, 1) := by decide +kernel
theorem dX3_live_2 : decode cX3_live 2 = .ok (.invokevirtual 61, 3) := by decide +kernel
theorem dX3_live_5 : decode cX3_live 5 = .ok (.istore_n 2, 1) := by decide +kernel
theorem dX3_live_6 : decode cX3_live 6 = .ok (.iload_n 2, 1) := by decide +kernel
theorem dX3_live_7 : decode cX3_live 7 = .ok (.ifCond .eq 7, 3) := by decide +kernel
theorem dX3_live_10 : decode cX3_live 10 = .ok (.aload_n 0, 1) := by decide +kernel
theorem dX3_live_11 : decode cX3_live 11 = .ok (.invokevirtual 65, 3) := by decide +kernel
theorem dX3_live_14 : decode cX3_live 14 = .ok (.iload_n 2, 1) := by decide +kernel
theorem dX3_live_15 : decode cX3_live 15 = .ok (.ireturn, 1) := by decide +kernel
theorem dX3_lineUp_0 : decode cX3_lineUp 0 = .ok (.iconst 0, 1) := by decide +kernel
theorem dX3_lineUp_1 : decode cX3_lineUp 1 = .ok (.istore_n 1, 1) := by decide +kernel
theorem dX3_lineUp_2 : decode cX3_lineUp 2 = .ok (.iload_n 1, 1) := by decide +kernel
theorem dX3_lineUp_3 : decode cX3_lineUp 3 = .ok (.bipush 6, 2) := by decide +kernel
theorem dX3_lineUp_5 : decode cX3_lineUp 5 = .ok (.if_icmp .ge 16, 3) := by decide +kernel
theorem dX3_lineUp_8 : decode cX3_lineUp 8 = .ok (.aload_n 0, 1) := by decide +kernel
theorem dX3_lineUp_9 : decode cX3_lineUp 9 = .ok (.getfield 9, 3) := by decide +kernel
theorem dX3_lineUp_12 : decode cX3_lineUp 12 = .ok (.iload_n 1, 1) := by decide +kernel
theorem dX3_lineUp_13 : decode cX3_lineUp 13 = .ok (.iload_n 1, 1) := by decide +kernel
theorem dX3_lineUp_14 : decode cX3_lineUp 14 = .ok (.iastore, 1) := by decide +kernel
theorem dX3_lineUp_15 : decode cX3_lineUp 15 = .ok (.iinc 1 1, 3) := by decide +kernel
theorem dX3_lineUp_18 : decode cX3_lineUp 18 = .ok (.goto (-16), 3) := by decide +kernel
theorem dX3_lineUp_21 : decode cX3_lineUp 21 = .ok (.return_, 1) := by decide +kernel
theorem dX3_copyLine_0 : decode cX3_copyLine 0 = .ok (.iconst 0, 1) := by decide +kernel
theorem dX3_copyLine_1 : decode cX3_copyLine 1 = .ok (.istore_n 2, 1) := by decide +kernel
theorem dX3_copyLine_2 : decode cX3_copyLine 2 = .ok (.iload_n 2, 1) := by decide +kernel
theorem dX3_copyLine_3 : decode cX3_copyLine 3 = .ok (.bipush 6, 2) := by decide +kernel
theorem dX3_copyLine_5 : decode cX3_copyLine 5 = .ok (.if_icmp .ge 24, 3) := by decide +kernel
theorem dX3_copyLine_8 : decode cX3_copyLine 8 = .ok (.iload_n 2, 1) := by decide +kernel
theorem dX3_copyLine_9 : decode cX3_copyLine 9 = .ok (.aload_n 1, 1) := by decide +kernel
theorem dX3_copyLine_10 : decode cX3_copyLine 10 = .ok (.arraylength, 1) := by decide +kernel
theorem dX3_copyLine_11 : decode cX3_copyLine 11 = .ok (.if_icmp .ge 18, 3) := by decide +kernel
theorem dX3_copyLine_14 : decode cX3_copyLine 14 = .ok (.aload_n 1, 1) := by decide +kernel
theorem dX3_copyLine_15 : decode cX3_copyLine 15 = .ok (.iload_n 2, 1) := by decide +kernel
theorem dX3_copyLine_16 : decode cX3_copyLine 16 = .ok (.aload_n 0, 1) := by decide +kernel
theorem dX3_copyLine_17 : decode cX3_copyLine 17 = .ok (.getfield 9, 3) := by decide +kernel
theorem dX3_copyLine_20 : decode cX3_copyLine 20 = .ok (.iload_n 2, 1) := by decide +kernel
theorem dX3_copyLine_21 : decode cX3_copyLine 21 = .ok (.iaload, 1) := by decide +kernel
theorem dX3_copyLine_22 : decode cX3_copyLine 22 = .ok (.iastore, 1) := by decide +kernel
theorem dX3_copyLine_23 : decode cX3_copyLine 23 = .ok (.iinc 2 1, 3) := by decide +kernel
theorem dX3_copyLine_26 : decode cX3_copyLine 26 = .ok (.goto (-24), 3) := by decide +kernel
theorem dX3_copyLine_29 : decode cX3_copyLine 29 = .ok (.return_, 1) := by decide +kernel
theorem dX3_lineUpNext_0 : decode cX3_lineUpNext 0 = .ok (.aload_n 0, 1) := by decide +kernel
theorem dX3_lineUpNext_1 : decode cX3_lineUpNext 1 = .ok (.getfield 15, 3) := by decide +kernel
theorem dX3_lineUpNext_4 : decode cX3_lineUpNext 4 = .ok (.getfield 58, 3) := by decide +kernel
theorem dX3_lineUpNext_7 : decode cX3_lineUpNext 7 = .ok (.bipush 6, 2) := by decide +kernel
theorem dX3_lineUpNext_9 : decode cX3_lineUpNext 9 = .ok (.invokestatic 68, 3) := by decide +kernel
theorem dX3_lineUpNext_12 : decode cX3_lineUpNext 12 = .ok (.iconst 1, 1) := by decide +kernel
theorem dX3_lineUpNext_13 : decode cX3_lineUpNext 13 = .ok (.isub, 1) := by decide +kernel
theorem dX3_lineUpNext_14 : decode cX3_lineUpNext 14 = .ok (.istore_n 2, 1) := by decide +kernel
theorem dX3_lineUpNext_15 : decode cX3_lineUpNext 15 = .ok (.aload_n 0, 1) := by decide +kernel
theorem dX3_lineUpNext_16 : decode cX3_lineUpNext 16 = .ok (.iload_n 1, 1) := by decide +kernel
theorem dX3_lineUpNext_17 : decode cX3_lineUpNext 17 = .ok (.iload_n 2, 1) := by decide +kernel
theorem dX3_lineUpNext_18 : decode cX3_lineUpNext 18 = .ok (.invokevirtual 73, 3) := by decide +kernel
theorem dX3_lineUpNext_21 : decode cX3_lineUpNext 21 = .ok (.iload_n 2, 1) := by decide +kernel
theorem dX3_lineUpNext_22 : decode cX3_lineUpNext 22 = .ok (.iconst 1, 1) := by decide +kernel
theorem dX3_lineUpNext_23 : decode cX3_lineUpNext 23 = .ok (.isub, 1) := by decide +kernel
theorem dX3_lineUpNext_24 : decode cX3_lineUpNext 24 = .ok (.istore_n 3, 1) := by decide +kernel
theorem dX3_lineUpNext_25 : decode cX3_lineUpNext 25 = .ok (.iload_n 3, 1) := by decide +kernel
theorem dX3_lineUpNext_26 : decode cX3_lineUpNext 26 = .ok (.ifCond .lt 26, 3) := by decide +kernel
theorem dX3_lineUpNext_29 : decode cX3_lineUpNext 29 = .ok (.aload_n 0, 1) := by decide +kernel
theorem dX3_lineUpNext_30 : decode cX3_lineUpNext 30 = .ok (.getfield 9, 3) := by decide +kernel
theorem dX3_lineUpNext_33 : decode cX3_lineUpNext 33 = .ok (.iload_n 3, 1) := by decide +kernel
theorem dX3_lineUpNext_34 : decode cX3_lineUpNext 34 = .ok (.iaload, 1) := by decide +kernel
theorem dX3_lineUpNext_35 : decode cX3_lineUpNext 35 = .ok (.aload_n 0, 1) := by decide +kernel
theorem dX3_lineUpNext_36 : decode cX3_lineUpNext 36 = .ok (.getfield 9, 3) := by decide +kernel
theorem dX3_lineUpNext_39 : decode cX3_lineUpNext 39 = .ok (.iload_n 3, 1) := by decide +kernel
theorem dX3_lineUpNext_40 : decode cX3_lineUpNext 40 = .ok (.iconst 1, 1) := by decide +kernel
theorem dX3_lineUpNext_41 : decode cX3_lineUpNext 41 = .ok (.iadd, 1) := by decide +kernel
theorem dX3_lineUpNext_42 : decode cX3_lineUpNext 42 = .ok (.iaload, 1) := by decide +kernel
theorem dX3_lineUpNext_43 : decode cX3_lineUpNext 43 = .ok (.if_icmp .le 9, 3) := by decide +kernel
theorem dX3_lineUpNext_46 : decode cX3_lineUpNext 46 = .ok (.iinc 3 (-1), 3) := by decide +kernel
theorem dX3_lineUpNext_49 : decode cX3_lineUpNext 49 = .ok (.goto (-24), 3) := by decide +kernel
theorem dX3_lineUpNext_52 : decode cX3_lineUpNext 52 = .ok (.iload_n 3, 1) := by decide +kernel
theorem dX3_lineUpNext_53 : decode cX3_lineUpNext 53 = .ok (.ifCond .ge 5, 3) := by decide +kernel
theorem dX3_lineUpNext_56 : decode cX3_lineUpNext 56 = .ok (.iconst 0, 1) := by decide +kernel
theorem dX3_lineUpNext_57 : decode cX3_lineUpNext 57 = .ok (.ireturn, 1) := by decide +kernel
theorem dX3_lineUpNext_58 : decode cX3_lineUpNext 58 = .ok (.iload_n 2, 1) := by decide +kernel
theorem dX3_lineUpNext_59 : decode cX3_lineUpNext 59 = .ok (.istore 4, 2) := by decide +kernel
theorem dX3_lineUpNext_61 : decode cX3_lineUpNext 61 = .ok (.iload 4, 2) := by decide +kernel
theorem dX3_lineUpNext_63 : decode cX3_lineUpNext 63 = .ok (.iload_n 3, 1) := by decide +kernel
theorem dX3_lineUpNext_64 : decode cX3_lineUpNext 64 = .ok (.if_icmp .le 25, 3) := by decide +kernel
theorem dX3_lineUpNext_67 : decode cX3_lineUpNext 67 = .ok (.aload_n 0, 1) := by decide +kernel
theorem dX3_lineUpNext_68 : decode cX3_lineUpNext 68 = .ok (.getfield 9, 3) := by decide +kernel
theorem dX3_lineUpNext_71 : decode cX3_lineUpNext 71 = .ok (.iload 4, 2) := by decide +kernel
theorem dX3_lineUpNext_73 : decode cX3_lineUpNext 73 = .ok (.iaload, 1) := by decide +kernel
theorem dX3_lineUpNext_74 : decode cX3_lineUpNext 74 = .ok (.aload_n 0, 1) := by decide +kernel
theorem dX3_lineUpNext_75 : decode cX3_lineUpNext 75 = .ok (.getfield 9, 3) := by decide +kernel
theorem dX3_lineUpNext_78 : decode cX3_lineUpNext 78 = .ok (.iload_n 3, 1) := by decide +kernel
theorem dX3_lineUpNext_79 : decode cX3_lineUpNext 79 = .ok (.iaload, 1) := by decide +kernel
theorem dX3_lineUpNext_80 : decode cX3_lineUpNext 80 = .ok (.if_icmp .ge 9, 3) := by decide +kernel
theorem dX3_lineUpNext_83 : decode cX3_lineUpNext 83 = .ok (.iinc 4 (-1), 3) := by decide +kernel
theorem dX3_lineUpNext_86 : decode cX3_lineUpNext 86 = .ok (.goto (-25), 3) := by decide +kernel
theorem dX3_lineUpNext_89 : decode cX3_lineUpNext 89 = .ok (.aload_n 0, 1) := by decide +kernel
theorem dX3_lineUpNext_90 : decode cX3_lineUpNext 90 = .ok (.iload_n 3, 1) := by decide +kernel
theorem dX3_lineUpNext_91 : decode cX3_lineUpNext 91 = .ok (.iload 4, 2) := by decide +kernel
theorem dX3_lineUpNext_93 : decode cX3_lineUpNext 93 = .ok (.invokevirtual 77, 3) := by decide +kernel
theorem dX3_lineUpNext_96 : decode cX3_lineUpNext 96 = .ok (.iload_n 3, 1) := by decide +kernel
theorem dX3_lineUpNext_97 : decode cX3_lineUpNext 97 = .ok (.iconst 1, 1) := by decide +kernel
theorem dX3_lineUpNext_98 : decode cX3_lineUpNext 98 = .ok (.iadd, 1) := by decide +kernel
theorem dX3_lineUpNext_99 : decode cX3_lineUpNext 99 = .ok (.istore 5, 2) := by decide +kernel
theorem dX3_lineUpNext_101 : decode cX3_lineUpNext 101 = .ok (.iload_n 2, 1) := by decide +kernel
theorem dX3_lineUpNext_102 : decode cX3_lineUpNext 102 = .ok (.istore 6, 2) := by decide +kernel
theorem dX3_lineUpNext_104 : decode cX3_lineUpNext 104 = .ok (.iload 5, 2) := by decide +kernel
theorem dX3_lineUpNext_106 : decode cX3_lineUpNext 106 = .ok (.iload 6, 2) := by decide +kernel
theorem dX3_lineUpNext_108 : decode cX3_lineUpNext 108 = .ok (.if_icmp .ge 20, 3) := by decide +kernel
theorem dX3_lineUpNext_111 : decode cX3_lineUpNext 111 = .ok (.aload_n 0, 1) := by decide +kernel
theorem dX3_lineUpNext_112 : decode cX3_lineUpNext 112 = .ok (.iload 5, 2) := by decide +kernel
theorem dX3_lineUpNext_114 : decode cX3_lineUpNext 114 = .ok (.iload 6, 2) := by decide +kernel
theorem dX3_lineUpNext_116 : decode cX3_lineUpNext 116 = .ok (.invokevirtual 77, 3) := by decide +kernel
theorem dX3_lineUpNext_119 : decode cX3_lineUpNext 119 = .ok (.iinc 5 1, 3) := by decide +kernel
theorem dX3_lineUpNext_122 : decode cX3_lineUpNext 122 = .ok (.iinc 6 (-1), 3) := by decide +kernel
theorem dX3_lineUpNext_125 : decode cX3_lineUpNext 125 = .ok (.goto (-21), 3) := by decide +kernel
theorem dX3_lineUpNext_128 : decode cX3_lineUpNext 128 = .ok (.iconst 1, 1) := by decide +kernel
theorem dX3_lineUpNext_129 : decode cX3_lineUpNext 129 = .ok (.ireturn, 1) := by decide +kernel
theorem dX3_sortDown_0 : decode cX3_sortDown 0 = .ok (.iload_n 1, 1) := by decide +kernel
theorem dX3_sortDown_1 : decode cX3_sortDown 1 = .ok (.iconst 0, 1) := by decide +kernel
theorem dX3_sortDown_2 : decode cX3_sortDown 2 = .ok (.invokestatic 80, 3) := by decide +kernel
theorem dX3_sortDown_5 : decode cX3_sortDown 5 = .ok (.istore_n 3, 1) := by decide +kernel
theorem dX3_sortDown_6 : decode cX3_sortDown 6 = .ok (.iload_n 3, 1) := by decide +kernel
theorem dX3_sortDown_7 : decode cX3_sortDown 7 = .ok (.iload_n 2, 1) := by decide +kernel
theorem dX3_sortDown_8 : decode cX3_sortDown 8 = .ok (.if_icmp .ge 49, 3) := by decide +kernel
