theorem dX9_init_128 : decode cX9_init 128 = .ok (.aload_n 0, 1) := by decide +kernel
theorem dX9_init_129 : decode cX9_init 129 = .ok (.iconst 2, 1) := by decide +kernel
theorem dX9_init_130 : decode cX9_init 130 = .ok (.bipush 12, 2) := by decide +kernel
theorem dX9_init_132 : decode cX9_init 132 = .ok (.bipush 9, 2) := by decide +kernel
theorem dX9_init_134 : decode cX9_init 134 = .ok (.invokevirtual 52, 3) := by decide +kernel
theorem dX9_init_137 : decode cX9_init 137 = .ok (.aload_n 0, 1) := by decide +kernel
theorem dX9_init_138 : decode cX9_init 138 = .ok (.iconst 3, 1) := by decide +kernel
theorem dX9_init_139 : decode cX9_init 139 = .ok (.bipush 6, 2) := by decide +kernel
theorem dX9_init_141 : decode cX9_init 141 = .ok (.iconst 4, 1) := by decide +kernel
theorem dX9_init_142 : decode cX9_init 142 = .ok (.invokevirtual 52, 3) := by decide +kernel
theorem dX9_init_145 : decode cX9_init 145 = .ok (.aload_n 0, 1) := by decide +kernel
theorem dX9_init_146 : decode cX9_init 146 = .ok (.getfield 37, 3) := by decide +kernel
theorem dX9_init_149 : decode cX9_init 149 = .ok (.iconst 0, 1) := by decide +kernel
theorem dX9_init_150 : decode cX9_init 150 = .ok (.iconst 1, 1) := by decide +kernel
theorem dX9_init_151 : decode cX9_init 151 = .ok (.iconst 3, 1) := by decide +kernel
theorem dX9_init_152 : decode cX9_init 152 = .ok (.invokestatic 56, 3) := by decide +kernel
theorem dX9_init_155 : decode cX9_init 155 = .ok (.aload_n 0, 1) := by decide +kernel
theorem dX9_init_156 : decode cX9_init 156 = .ok (.getfield 37, 3) := by decide +kernel
theorem dX9_init_159 : decode cX9_init 159 = .ok (.iconst 1, 1) := by decide +kernel
theorem dX9_init_160 : decode cX9_init 160 = .ok (.iconst 2, 1) := by decide +kernel
theorem dX9_init_161 : decode cX9_init 161 = .ok (.iconst 4, 1) := by decide +kernel
theorem dX9_init_162 : decode cX9_init 162 = .ok (.invokestatic 56, 3) := by decide +kernel
theorem dX9_init_165 : decode cX9_init 165 = .ok (.aload_n 0, 1) := by decide +kernel
theorem dX9_init_166 : decode cX9_init 166 = .ok (.getfield 37, 3) := by decide +kernel
theorem dX9_init_169 : decode cX9_init 169 = .ok (.iconst 2, 1) := by decide +kernel
theorem dX9_init_170 : decode cX9_init 170 = .ok (.bipush 7, 2) := by decide +kernel
theorem dX9_init_172 : decode cX9_init 172 = .ok (.iconst 2, 1) := by decide +kernel
theorem dX9_init_173 : decode cX9_init 173 = .ok (.invokestatic 56, 3) := by decide +kernel
theorem dX9_init_176 : decode cX9_init 176 = .ok (.aload_n 0, 1) := by decide +kernel
theorem dX9_init_177 : decode cX9_init 177 = .ok (.getfield 37, 3) := by decide +kernel
theorem dX9_init_180 : decode cX9_init 180 = .ok (.iconst 2, 1) := by decide +kernel
theorem dX9_init_181 : decode cX9_init 181 = .ok (.bipush 8, 2) := by decide +kernel
theorem dX9_init_183 : decode cX9_init 183 = .ok (.iconst 5, 1) := by decide +kernel
theorem dX9_init_184 : decode cX9_init 184 = .ok (.invokestatic 56, 3) := by decide +kernel
theorem dX9_init_187 : decode cX9_init 187 = .ok (.aload_n 0, 1) := by decide +kernel
theorem dX9_init_188 : decode cX9_init 188 = .ok (.getfield 37, 3) := by decide +kernel
theorem dX9_init_191 : decode cX9_init 191 = .ok (.iconst 4, 1) := by decide +kernel
theorem dX9_init_192 : decode cX9_init 192 = .ok (.iconst 4, 1) := by decide +kernel
theorem dX9_init_193 : decode cX9_init 193 = .ok (.bipush 6, 2) := by decide +kernel
theorem dX9_init_195 : decode cX9_init 195 = .ok (.invokestatic 56, 3) := by decide +kernel
theorem dX9_init_198 : decode cX9_init 198 = .ok (.aload_n 0, 1) := by decide +kernel
theorem dX9_init_199 : decode cX9_init 199 = .ok (.getfield 37, 3) := by decide +kernel
theorem dX9_init_202 : decode cX9_init 202 = .ok (.iconst 5, 1) := by decide +kernel
theorem dX9_init_203 : decode cX9_init 203 = .ok (.bipush 16, 2) := by decide +kernel
theorem dX9_init_205 : decode cX9_init 205 = .ok (.bipush 9, 2) := by decide +kernel
theorem dX9_init_207 : decode cX9_init 207 = .ok (.invokestatic 56, 3) := by decide +kernel
theorem dX9_init_210 : decode cX9_init 210 = .ok (.aload_n 0, 1) := by decide +kernel
theorem dX9_init_211 : decode cX9_init 211 = .ok (.getfield 37, 3) := by decide +kernel
theorem dX9_init_214 : decode cX9_init 214 = .ok (.bipush 7, 2) := by decide +kernel
theorem dX9_init_216 : decode cX9_init 216 = .ok (.iconst 3, 1) := by decide +kernel
theorem dX9_init_217 : decode cX9_init 217 = .ok (.iconst 3, 1) := by decide +kernel
theorem dX9_init_218 : decode cX9_init 218 = .ok (.invokestatic 56, 3) := by decide +kernel
theorem dX9_init_221 : decode cX9_init 221 = .ok (.aload_n 0, 1) := by decide +kernel
theorem dX9_init_222 : decode cX9_init 222 = .ok (.invokevirtual 60, 3) := by decide +kernel
theorem dX9_init_225 : decode cX9_init 225 = .ok (.return_, 1) := by decide +kernel
theorem dX9_tellsPerson_0 : decode cX9_tellsPerson 0 = .ok (.aload_n 0, 1) := by decide +kernel
theorem dX9_tellsPerson_1 : decode cX9_tellsPerson 1 = .ok (.getfield 34, 3) := by decide +kernel
theorem dX9_tellsPerson_4 : decode cX9_tellsPerson 4 = .ok (.iconst 3, 1) := by decide +kernel
theorem dX9_tellsPerson_5 : decode cX9_tellsPerson 5 = .ok (.aload_n 0, 1) := by decide +kernel
theorem dX9_tellsPerson_6 : decode cX9_tellsPerson 6 = .ok (.getfield 63, 3) := by decide +kernel
theorem dX9_tellsPerson_9 : decode cX9_tellsPerson 9 = .ok (.imul, 1) := by decide +kernel
theorem dX9_tellsPerson_10 : decode cX9_tellsPerson 10 = .ok (.iload_n 1, 1) := by decide +kernel
theorem dX9_tellsPerson_11 : decode cX9_tellsPerson 11 = .ok (.iastore, 1) := by decide +kernel
theorem dX9_tellsPerson_12 : decode cX9_tellsPerson 12 = .ok (.aload_n 0, 1) := by decide +kernel
theorem dX9_tellsPerson_13 : decode cX9_tellsPerson 13 = .ok (.getfield 34, 3) := by decide +kernel
theorem dX9_tellsPerson_16 : decode cX9_tellsPerson 16 = .ok (.iconst 3, 1) := by decide +kernel
theorem dX9_tellsPerson_17 : decode cX9_tellsPerson 17 = .ok (.aload_n 0, 1) := by decide +kernel
theorem dX9_tellsPerson_18 : decode cX9_tellsPerson 18 = .ok (.getfield 63, 3) := by decide +kernel
theorem dX9_tellsPerson_21 : decode cX9_tellsPerson 21 = .ok (.imul, 1) := by decide +kernel
theorem dX9_tellsPerson_22 : decode cX9_tellsPerson 22 = .ok (.iconst 1, 1) := by decide +kernel
theorem dX9_tellsPerson_23 : decode cX9_tellsPerson 23 = .ok (.iadd, 1) := by decide +kernel
theorem dX9_tellsPerson_24 : decode cX9_tellsPerson 24 = .ok (.iload_n 2, 1) := by decide +kernel
theorem dX9_tellsPerson_25 : decode cX9_tellsPerson 25 = .ok (.iastore, 1) := by decide +kernel
theorem dX9_tellsPerson_26 : decode cX9_tellsPerson 26 = .ok (.aload_n 0, 1) := by decide +kernel
theorem dX9_tellsPerson_27 : decode cX9_tellsPerson 27 = .ok (.getfield 34, 3) := by decide +kernel
theorem dX9_tellsPerson_30 : decode cX9_tellsPerson 30 = .ok (.iconst 3, 1) := by decide +kernel
theorem dX9_tellsPerson_31 : decode cX9_tellsPerson 31 = .ok (.aload_n 0, 1) := by decide +kernel
theorem dX9_tellsPerson_32 : decode cX9_tellsPerson 32 = .ok (.getfield 63, 3) := by decide +kernel
theorem dX9_tellsPerson_35 : decode cX9_tellsPerson 35 = .ok (.imul, 1) := by decide +kernel
theorem dX9_tellsPerson_36 : decode cX9_tellsPerson 36 = .ok (.iconst 2, 1) := by decide +kernel
theorem dX9_tellsPerson_37 : decode cX9_tellsPerson 37 = .ok (.iadd, 1) := by decide +kernel
theorem dX9_tellsPerson_38 : decode cX9_tellsPerson 38 = .ok (.iload_n 3, 1) := by decide +kernel
theorem dX9_tellsPerson_39 : decode cX9_tellsPerson 39 = .ok (.iastore, 1) := by decide +kernel
theorem dX9_tellsPerson_40 : decode cX9_tellsPerson 40 = .ok (.aload_n 0, 1) := by decide +kernel
theorem dX9_tellsPerson_41 : decode cX9_tellsPerson 41 = .ok (.dup, 1) := by decide +kernel
theorem dX9_tellsPerson_42 : decode cX9_tellsPerson 42 = .ok (.getfield 63, 3) := by decide +kernel
theorem dX9_tellsPerson_45 : decode cX9_tellsPerson 45 = .ok (.iconst 1, 1) := by decide +kernel
theorem dX9_tellsPerson_46 : decode cX9_tellsPerson 46 = .ok (.iadd, 1) := by decide +kernel
theorem dX9_tellsPerson_47 : decode cX9_tellsPerson 47 = .ok (.putfield 63, 3) := by decide +kernel
theorem dX9_tellsPerson_50 : decode cX9_tellsPerson 50 = .ok (.return_, 1) := by decide +kernel
theorem dX9_addsThing_0 : decode cX9_addsThing 0 = .ok (.bipush 16, 2) := by decide +kernel
theorem dX9_addsThing_2 : decode cX9_addsThing 2 = .ok (.iconst 3, 1) := by decide +kernel
theorem dX9_addsThing_3 : decode cX9_addsThing 3 = .ok (.aload_n 0, 1) := by decide +kernel
theorem dX9_addsThing_4 : decode cX9_addsThing 4 = .ok (.iconst 2, 1) := by decide +kernel
theorem dX9_addsThing_5 : decode cX9_addsThing 5 = .ok (.iaload, 1) := by decide +kernel
theorem dX9_addsThing_6 : decode cX9_addsThing 6 = .ok (.imul, 1) := by decide +kernel
theorem dX9_addsThing_7 : decode cX9_addsThing 7 = .ok (.iadd, 1) := by decide +kernel
theorem dX9_addsThing_8 : decode cX9_addsThing 8 = .ok (.istore 4, 2) := by decide +kernel
theorem dX9_addsThing_10 : decode cX9_addsThing 10 = .ok (.aload_n 0, 1) := by decide +kernel
theorem dX9_addsThing_11 : decode cX9_addsThing 11 = .ok (.iload 4, 2) := by decide +kernel
theorem dX9_addsThing_13 : decode cX9_addsThing 13 = .ok (.iload_n 1, 1) := by decide +kernel
theorem dX9_addsThing_14 : decode cX9_addsThing 14 = .ok (.iastore, 1) := by decide +kernel
theorem dX9_addsThing_15 : decode cX9_addsThing 15 = .ok (.aload_n 0, 1) := by decide +kernel
theorem dX9_addsThing_16 : decode cX9_addsThing 16 = .ok (.iload 4, 2) := by decide +kernel
theorem dX9_addsThing_18 : decode cX9_addsThing 18 = .ok (.iconst 1, 1) := by decide +kernel
theorem dX9_addsThing_19 : decode cX9_addsThing 19 = .ok (.iadd, 1) := by decide +kernel
theorem dX9_addsThing_20 : decode cX9_addsThing 20 = .ok (.iload_n 2, 1) := by decide +kernel
theorem dX9_addsThing_21 : decode cX9_addsThing 21 = .ok (.iastore, 1) := by decide +kernel
theorem dX9_addsThing_22 : decode cX9_addsThing 22 = .ok (.aload_n 0, 1) := by decide +kernel
theorem dX9_addsThing_23 : decode cX9_addsThing 23 = .ok (.iload 4, 2) := by decide +kernel
theorem dX9_addsThing_25 : decode cX9_addsThing 25 = .ok (.iconst 2, 1) := by decide +kernel
theorem dX9_addsThing_26 : decode cX9_addsThing 26 = .ok (.iadd, 1) := by decide +kernel
theorem dX9_addsThing_27 : decode cX9_addsThing 27 = .ok (.iload_n 3, 1) := by decide +kernel
theorem dX9_addsThing_28 : decode cX9_addsThing 28 = .ok (.iastore, 1) := by decide +kernel
theorem dX9_addsThing_29 : decode cX9_addsThing 29 = .ok (.aload_n 0, 1) := by decide +kernel
theorem dX9_addsThing_30 : decode cX9_addsThing 30 = .ok (.iconst 2, 1) := by decide +kernel
theorem dX9_addsThing_31 : decode cX9_addsThing 31 = .ok (.dup2, 1) := by decide +kernel
theorem dX9_addsThing_32 : decode cX9_addsThing 32 = .ok (.iaload, 1) := by decide +kernel
theorem dX9_addsThing_33 : decode cX9_addsThing 33 = .ok (.iconst 1, 1) := by decide +kernel
theorem dX9_addsThing_34 : decode cX9_addsThing 34 = .ok (.iadd, 1) := by decide +kernel
theorem dX9_addsThing_35 : decode cX9_addsThing 35 = .ok (.iastore, 1) := by decide +kernel
theorem dX9_addsThing_36 : decode cX9_addsThing 36 = .ok (.return_, 1) := by decide +kernel
theorem dX9_in_0 : decode cX9_in 0 = .ok (.iload_n 0, 1) := by decide +kernel
theorem dX9_in_1 : decode cX9_in 1 = .ok (.iload_n 1, 1) := by decide +kernel
theorem dX9_in_2 : decode cX9_in 2 = .ok (.if_icmp .lt 12, 3) := by decide +kernel
theorem dX9_in_5 : decode cX9_in 5 = .ok (.iload_n 0, 1) := by decide +kernel
theorem dX9_in_6 : decode cX9_in 6 = .ok (.iload_n 2, 1) := by decide +kernel
theorem dX9_in_7 : decode cX9_in 7 = .ok (.if_icmp .gt 7, 3) := by decide +kernel
theorem dX9_in_10 : decode cX9_in 10 = .ok (.iconst 1, 1) := by decide +kernel
theorem dX9_in_11 : decode cX9_in 11 = .ok (.goto 4, 3) := by decide +kernel
theorem dX9_in_14 : decode cX9_in 14 = .ok (.iconst 0, 1) := by decide +kernel
theorem dX9_in_15 : decode cX9_in 15 = .ok (.ireturn, 1) := by decide +kernel
theorem dX9_has_0 : decode cX9_has 0 = .ok (.iload_n 0, 1) := by decide +kernel
theorem dX9_has_1 : decode cX9_has 1 = .ok (.iload_n 1, 1) := by decide +kernel
theorem dX9_has_2 : decode cX9_has 2 = .ok (.ishr, 1) := by decide +kernel
theorem dX9_has_3 : decode cX9_has 3 = .ok (.iconst 1, 1) := by decide +kernel
theorem dX9_has_4 : decode cX9_has 4 = .ok (.iand, 1) := by decide +kernel
theorem dX9_has_5 : decode cX9_has 5 = .ok (.iconst 1, 1) := by decide +kernel
theorem dX9_has_6 : decode cX9_has 6 = .ok (.if_icmp .ne 7, 3) := by decide +kernel
theorem dX9_has_9 : decode cX9_has 9 = .ok (.iconst 1, 1) := by decide +kernel
theorem dX9_has_10 : decode cX9_has 10 = .ok (.goto 4, 3) := by decide +kernel
theorem dX9_has_13 : decode cX9_has 13 = .ok (.iconst 0, 1) := by decide +kernel
theorem dX9_has_14 : decode cX9_has 14 = .ok (.ireturn, 1) := by decide +kernel
theorem dX9_bits_0 : decode cX9_bits 0 = .ok (.iconst 0, 1) := by decide +kernel
theorem dX9_bits_1 : decode cX9_bits 1 = .ok (.istore_n 1, 1) := by decide +kernel
theorem dX9_bits_2 : decode cX9_bits 2 = .ok (.iconst 0, 1) := by decide +kernel
theorem dX9_bits_3 : decode cX9_bits 3 = .ok (.istore_n 2, 1) := by decide +kernel
theorem dX9_bits_4 : decode cX9_bits 4 = .ok (.iload_n 2, 1) := by decide +kernel
theorem dX9_bits_5 : decode cX9_bits 5 = .ok (.bipush 9, 2) := by decide +kernel
theorem dX9_bits_7 : decode cX9_bits 7 = .ok (.if_icmp .gt 17, 3) := by decide +kernel
theorem dX9_bits_10 : decode cX9_bits 10 = .ok (.iload_n 1, 1) := by decide +kernel
theorem dX9_bits_11 : decode cX9_bits 11 = .ok (.iload_n 0, 1) := by decide +kernel
theorem dX9_bits_12 : decode cX9_bits 12 = .ok (.iload_n 2, 1) := by decide +kernel
theorem dX9_bits_13 : decode cX9_bits 13 = .ok (.ishr, 1) := by decide +kernel
theorem dX9_bits_14 : decode cX9_bits 14 = .ok (.iconst 1, 1) := by decide +kernel
theorem dX9_bits_15 : decode cX9_bits 15 = .ok (.iand, 1) := by decide +kernel
theorem dX9_bits_16 : decode cX9_bits 16 = .ok (.iadd, 1) := by decide +kernel
theorem dX9_bits_17 : decode cX9_bits 17 = .ok (.istore_n 1, 1) := by decide +kernel
theorem dX9_bits_18 : decode cX9_bits 18 = .ok (.iinc 2 1, 3) := by decide +kernel
theorem dX9_bits_21 : decode cX9_bits 21 = .ok (.goto (-17), 3) := by decide +kernel
theorem dX9_bits_24 : decode cX9_bits 24 = .ok (.iload_n 1, 1) := by decide +kernel
theorem dX9_bits_25 : decode cX9_bits 25 = .ok (.ireturn, 1) := by decide +kernel
theorem dX9_isPerson_0 : decode cX9_isPerson 0 = .ok (.iload_n 1, 1) := by decide +kernel
theorem dX9_isPerson_1 : decode cX9_isPerson 1 = .ok (.iconst 0, 1) := by decide +kernel
theorem dX9_isPerson_2 : decode cX9_isPerson 2 = .ok (.aload_n 0, 1) := by decide +kernel
theorem dX9_isPerson_3 : decode cX9_isPerson 3 = .ok (.getfield 67, 3) := by decide +kernel
theorem dX9_isPerson_6 : decode cX9_isPerson 6 = .ok (.iconst 1, 1) := by decide +kernel
theorem dX9_isPerson_7 : decode cX9_isPerson 7 = .ok (.isub, 1) := by decide +kernel
theorem dX9_isPerson_8 : decode cX9_isPerson 8 = .ok (.invokestatic 70, 3) := by decide +kernel
theorem dX9_isPerson_11 : decode cX9_isPerson 11 = .ok (.ireturn, 1) := by decide +kernel
theorem dX9_isThing_0 : decode cX9_isThing 0 = .ok (.iload_n 1, 1) := by decide +kernel
theorem dX9_isThing_1 : decode cX9_isThing 1 = .ok (.iconst 0, 1) := by decide +kernel
theorem dX9_isThing_2 : decode cX9_isThing 2 = .ok (.aload_n 0, 1) := by decide +kernel
theorem dX9_isThing_3 : decode cX9_isThing 3 = .ok (.getfield 13, 3) := by decide +kernel
theorem dX9_isThing_6 : decode cX9_isThing 6 = .ok (.iconst 2, 1) := by decide +kernel
theorem dX9_isThing_7 : decode cX9_isThing 7 = .ok (.iaload, 1) := by decide +kernel
theorem dX9_isThing_8 : decode cX9_isThing 8 = .ok (.iconst 1, 1) := by decide +kernel
theorem dX9_isThing_9 : decode cX9_isThing 9 = .ok (.isub, 1) := by decide +kernel
theorem dX9_isThing_10 : decode cX9_isThing 10 = .ok (.invokestatic 70, 3) := by decide +kernel
theorem dX9_isThing_13 : decode cX9_isThing 13 = .ok (.ireturn, 1) := by decide +kernel
theorem dX9_write_0 : decode cX9_write 0 = .ok (.iload_n 1, 1) := by decide +kernel
theorem dX9_write_1 : decode cX9_write 1 = .ok (.bipush 32, 2) := by decide +kernel
theorem dX9_write_3 : decode cX9_write 3 = .ok (.bipush 126, 2) := by decide +kernel
theorem dX9_write_5 : decode cX9_write 5 = .ok (.invokestatic 70, 3) := by decide +kernel
theorem dX9_write_8 : decode cX9_write 8 = .ok (.ifCond .ne 5, 3) := by decide +kernel
theorem dX9_write_11 : decode cX9_write 11 = .ok (.iconst (-1), 1) := by decide +kernel
theorem dX9_write_12 : decode cX9_write 12 = .ok (.ireturn, 1) := by decide +kernel
theorem dX9_write_13 : decode cX9_write 13 = .ok (.aload_n 0, 1) := by decide +kernel
theorem dX9_write_14 : decode cX9_write 14 = .ok (.getfield 74, 3) := by decide +kernel
theorem dX9_write_17 : decode cX9_write 17 = .ok (.sipush 200, 3) := by decide +kernel
theorem dX9_write_20 : decode cX9_write 20 = .ok (.if_icmp .ne 6, 3) := by decide +kernel
theorem dX9_write_23 : decode cX9_write 23 = .ok (.bipush (-3), 2) := by decide +kernel
theorem dX9_write_25 : decode cX9_write 25 = .ok (.ireturn, 1) := by decide +kernel
theorem dX9_write_26 : decode cX9_write 26 = .ok (.aload_n 0, 1) := by decide +kernel
theorem dX9_write_27 : decode cX9_write 27 = .ok (.getfield 28, 3) := by decide +kernel
theorem dX9_write_30 : decode cX9_write 30 = .ok (.aload_n 0, 1) := by decide +kernel
theorem dX9_write_31 : decode cX9_write 31 = .ok (.getfield 74, 3) := by decide +kernel
theorem dX9_write_34 : decode cX9_write 34 = .ok (.iload_n 1, 1) := by decide +kernel
theorem dX9_write_35 : decode cX9_write 35 = .ok (.iastore, 1) := by decide +kernel
theorem dX9_write_36 : decode cX9_write 36 = .ok (.aload_n 0, 1) := by decide +kernel
theorem dX9_write_37 : decode cX9_write 37 = .ok (.dup, 1) := by decide +kernel
theorem dX9_write_38 : decode cX9_write 38 = .ok (.getfield 74, 3) := by decide +kernel
theorem dX9_write_41 : decode cX9_write 41 = .ok (.iconst 1, 1) := by decide +kernel
theorem dX9_write_42 : decode cX9_write 42 = .ok (.iadd, 1) := by decide +kernel
theorem dX9_write_43 : decode cX9_write 43 = .ok (.putfield 74, 3) := by decide +kernel
theorem dX9_write_46 : decode cX9_write 46 = .ok (.aload_n 0, 1) := by decide +kernel
theorem dX9_write_47 : decode cX9_write 47 = .ok (.getfield 74, 3) := by decide +kernel
theorem dX9_write_50 : decode cX9_write 50 = .ok (.ireturn, 1) := by decide +kernel
theorem dX9_wipe_0 : decode cX9_wipe 0 = .ok (.aload_n 0, 1) := by decide +kernel
theorem dX9_wipe_1 : decode cX9_wipe 1 = .ok (.getfield 74, 3) := by decide +kernel
theorem dX9_wipe_4 : decode cX9_wipe 4 = .ok (.istore_n 1, 1) := by decide +kernel
theorem dX9_wipe_5 : decode cX9_wipe 5 = .ok (.aload_n 0, 1) := by decide +kernel
theorem dX9_wipe_6 : decode cX9_wipe 6 = .ok (.iconst 0, 1) := by decide +kernel
theorem dX9_wipe_7 : decode cX9_wipe 7 = .ok (.putfield 74, 3) := by decide +kernel
theorem dX9_wipe_10 : decode cX9_wipe 10 = .ok (.iload_n 1, 1) := by decide +kernel
theorem dX9_wipe_11 : decode cX9_wipe 11 = .ok (.ireturn, 1) := by decide +kernel
theorem dX9_letterAt_0 : decode cX9_letterAt 0 = .ok (.iload_n 1, 1) := by decide +kernel
theorem dX9_letterAt_1 : decode cX9_letterAt 1 = .ok (.aload_n 0, 1) := by decide +kernel
theorem dX9_letterAt_2 : decode cX9_letterAt 2 = .ok (.getfield 74, 3) := by decide +kernel
theorem dX9_letterAt_5 : decode cX9_letterAt 5 = .ok (.if_icmp .ge 12, 3) := by decide +kernel
theorem dX9_letterAt_8 : decode cX9_letterAt 8 = .ok (.aload_n 0, 1) := by decide +kernel
theorem dX9_letterAt_9 : decode cX9_letterAt 9 = .ok (.getfield 28, 3) := by decide +kernel
theorem dX9_letterAt_12 : decode cX9_letterAt 12 = .ok (.iload_n 1, 1) := by decide +kernel
theorem dX9_letterAt_13 : decode cX9_letterAt 13 = .ok (.iaload, 1) := by decide +kernel
theorem dX9_letterAt_14 : decode cX9_letterAt 14 = .ok (.goto 4, 3) := by decide +kernel
theorem dX9_letterAt_17 : decode cX9_letterAt 17 = .ok (.iconst (-1), 1) := by decide +kernel
theorem dX9_letterAt_18 : decode cX9_letterAt 18 = .ok (.ireturn, 1) := by decide +kernel
theorem dX9_isFigure_0 : decode cX9_isFigure 0 = .ok (.iload_n 0, 1) := by decide +kernel
theorem dX9_isFigure_1 : decode cX9_isFigure 1 = .ok (.bipush 48, 2) := by decide +kernel
theorem dX9_isFigure_3 : decode cX9_isFigure 3 = .ok (.bipush 57, 2) := by decide +kernel
theorem dX9_isFigure_5 : decode cX9_isFigure 5 = .ok (.invokestatic 70, 3) := by decide +kernel
theorem dX9_isFigure_8 : decode cX9_isFigure 8 = .ok (.ireturn, 1) := by decide +kernel
theorem dX9_readNumbers_0 : decode cX9_readNumbers 0 = .ok (.iconst 0, 1) := by decide +kernel
theorem dX9_readNumbers_1 : decode cX9_readNumbers 1 = .ok (.istore_n 2, 1) := by decide +kernel
theorem dX9_readNumbers_2 : decode cX9_readNumbers 2 = .ok (.iload_n 2, 1) := by decide +kernel
theorem dX9_readNumbers_3 : decode cX9_readNumbers 3 = .ok (.iload_n 1, 1) := by decide +kernel
theorem dX9_readNumbers_4 : decode cX9_readNumbers 4 = .ok (.if_icmp .ge 140, 3) := by decide +kernel
theorem dX9_readNumbers_7 : decode cX9_readNumbers 7 = .ok (.aload_n 0, 1) := by decide +kernel
theorem dX9_readNumbers_8 : decode cX9_readNumbers 8 = .ok (.aload_n 0, 1) := by decide +kernel
theorem dX9_readNumbers_9 : decode cX9_readNumbers 9 = .ok (.getfield 77, 3) := by decide +kernel
theorem dX9_readNumbers_12 : decode cX9_readNumbers 12 = .ok (.invokevirtual 80, 3) := by decide +kernel
theorem dX9_readNumbers_15 : decode cX9_readNumbers 15 = .ok (.invokestatic 84, 3) := by decide +kernel
theorem dX9_readNumbers_18 : decode cX9_readNumbers 18 = .ok (.ifCond .ne 5, 3) := by decide +kernel
theorem dX9_readNumbers_21 : decode cX9_readNumbers 21 = .ok (.iconst 0, 1) := by decide +kernel
theorem dX9_readNumbers_22 : decode cX9_readNumbers 22 = .ok (.ireturn, 1) := by decide +kernel
theorem dX9_readNumbers_23 : decode cX9_readNumbers 23 = .ok (.aload_n 0, 1) := by decide +kernel
theorem dX9_readNumbers_24 : decode cX9_readNumbers 24 = .ok (.getfield 31, 3) := by decide +kernel
theorem dX9_readNumbers_27 : decode cX9_readNumbers 27 = .ok (.iload_n 2, 1) := by decide +kernel
theorem dX9_readNumbers_28 : decode cX9_readNumbers 28 = .ok (.aload_n 0, 1) := by decide +kernel
theorem dX9_readNumbers_29 : decode cX9_readNumbers 29 = .ok (.aload_n 0, 1) := by decide +kernel
theorem dX9_readNumbers_30 : decode cX9_readNumbers 30 = .ok (.getfield 77, 3) := by decide +kernel
theorem dX9_readNumbers_33 : decode cX9_readNumbers 33 = .ok (.invokevirtual 80, 3) := by decide +kernel
theorem dX9_readNumbers_36 : decode cX9_readNumbers 36 = .ok (.bipush 48, 2) := by decide +kernel
theorem dX9_readNumbers_38 : decode cX9_readNumbers 38 = .ok (.isub, 1) := by decide +kernel
theorem dX9_readNumbers_39 : decode cX9_readNumbers 39 = .ok (.iastore, 1) := by decide +kernel
theorem dX9_readNumbers_40 : decode cX9_readNumbers 40 = .ok (.aload_n 0, 1) := by decide +kernel
theorem dX9_readNumbers_41 : decode cX9_readNumbers 41 = .ok (.dup, 1) := by decide +kernel
theorem dX9_readNumbers_42 : decode cX9_readNumbers 42 = .ok (.getfield 77, 3) := by decide +kernel
theorem dX9_readNumbers_45 : decode cX9_readNumbers 45 = .ok (.iconst 1, 1) := by decide +kernel
theorem dX9_readNumbers_46 : decode cX9_readNumbers 46 = .ok (.iadd, 1) := by decide +kernel
theorem dX9_readNumbers_47 : decode cX9_readNumbers 47 = .ok (.putfield 77, 3) := by decide +kernel
theorem dX9_readNumbers_50 : decode cX9_readNumbers 50 = .ok (.aload_n 0, 1) := by decide +kernel
theorem dX9_readNumbers_51 : decode cX9_readNumbers 51 = .ok (.aload_n 0, 1) := by decide +kernel
theorem dX9_readNumbers_52 : decode cX9_readNumbers 52 = .ok (.getfield 77, 3) := by decide +kernel
theorem dX9_readNumbers_55 : decode cX9_readNumbers 55 = .ok (.invokevirtual 80, 3) := by decide +kernel
theorem dX9_readNumbers_58 : decode cX9_readNumbers 58 = .ok (.invokestatic 84, 3) := by decide +kernel
theorem dX9_readNumbers_61 : decode cX9_readNumbers 61 = .ok (.ifCond .eq 40, 3) := by decide +kernel
theorem dX9_readNumbers_64 : decode cX9_readNumbers 64 = .ok (.aload_n 0, 1) := by decide +kernel
theorem dX9_readNumbers_65 : decode cX9_readNumbers 65 = .ok (.getfield 31, 3) := by decide +kernel
theorem dX9_readNumbers_68 : decode cX9_readNumbers 68 = .ok (.iload_n 2, 1) := by decide +kernel
theorem dX9_readNumbers_69 : decode cX9_readNumbers 69 = .ok (.bipush 10, 2) := by decide +kernel
theorem dX9_readNumbers_71 : decode cX9_readNumbers 71 = .ok (.aload_n 0, 1) := by decide +kernel
theorem dX9_readNumbers_72 : decode cX9_readNumbers 72 = .ok (.getfield 31, 3) := by decide +kernel
theorem dX9_readNumbers_75 : decode cX9_readNumbers 75 = .ok (.iload_n 2, 1) := by decide +kernel
theorem dX9_readNumbers_76 : decode cX9_readNumbers 76 = .ok (.iaload, 1) := by decide +kernel
theorem dX9_readNumbers_77 : decode cX9_readNumbers 77 = .ok (.imul, 1) := by decide +kernel
theorem dX9_readNumbers_78 : decode cX9_readNumbers 78 = .ok (.aload_n 0, 1) := by decide +kernel
theorem dX9_readNumbers_79 : decode cX9_readNumbers 79 = .ok (.aload_n 0, 1) := by decide +kernel
theorem dX9_readNumbers_80 : decode cX9_readNumbers 80 = .ok (.getfield 77, 3) := by decide +kernel
theorem dX9_readNumbers_83 : decode cX9_readNumbers 83 = .ok (.invokevirtual 80, 3) := by decide +kernel
theorem dX9_readNumbers_86 : decode cX9_readNumbers 86 = .ok (.iadd, 1) := by decide +kernel
theorem dX9_readNumbers_87 : decode cX9_readNumbers 87 = .ok (.bipush 48, 2) := by decide +kernel
theorem dX9_readNumbers_89 : decode cX9_readNumbers 89 = .ok (.isub, 1) := by decide +kernel
theorem dX9_readNumbers_90 : decode cX9_readNumbers 90 = .ok (.iastore, 1) := by decide +kernel
theorem dX9_readNumbers_91 : decode cX9_readNumbers 91 = .ok (.aload_n 0, 1) := by decide +kernel
theorem dX9_readNumbers_92 : decode cX9_readNumbers 92 = .ok (.dup, 1) := by decide +kernel
theorem dX9_readNumbers_93 : decode cX9_readNumbers 93 = .ok (.getfield 77, 3) := by decide +kernel
theorem dX9_readNumbers_96 : decode cX9_readNumbers 96 = .ok (.iconst 1, 1) := by decide +kernel
theorem dX9_readNumbers_97 : decode cX9_readNumbers 97 = .ok (.iadd, 1) := by decide +kernel
theorem dX9_readNumbers_98 : decode cX9_readNumbers 98 = .ok (.putfield 77, 3) := by decide +kernel
theorem dX9_readNumbers_101 : decode cX9_readNumbers 101 = .ok (.aload_n 0, 1) := by decide +kernel
theorem dX9_readNumbers_102 : decode cX9_readNumbers 102 = .ok (.aload_n 0, 1) := by decide +kernel
theorem dX9_readNumbers_103 : decode cX9_readNumbers 103 = .ok (.getfield 77, 3) := by decide +kernel
theorem dX9_readNumbers_106 : decode cX9_readNumbers 106 = .ok (.invokevirtual 80, 3) := by decide +kernel
theorem dX9_readNumbers_109 : decode cX9_readNumbers 109 = .ok (.iload_n 2, 1) := by decide +kernel
theorem dX9_readNumbers_110 : decode cX9_readNumbers 110 = .ok (.iload_n 1, 1) := by decide +kernel
theorem dX9_readNumbers_111 : decode cX9_readNumbers 111 = .ok (.iconst 1, 1) := by decide +kernel
theorem dX9_readNumbers_112 : decode cX9_readNumbers 112 = .ok (.isub, 1) := by decide +kernel
theorem dX9_readNumbers_113 : decode cX9_readNumbers 113 = .ok (.if_icmp .ge 8, 3) := by decide +kernel
theorem dX9_readNumbers_116 : decode cX9_readNumbers 116 = .ok (.bipush 44, 2) := by decide +kernel
theorem dX9_readNumbers_118 : decode cX9_readNumbers 118 = .ok (.goto 5, 3) := by decide +kernel
theorem dX9_readNumbers_121 : decode cX9_readNumbers 121 = .ok (.bipush 59, 2) := by decide +kernel
theorem dX9_readNumbers_123 : decode cX9_readNumbers 123 = .ok (.if_icmp .eq 5, 3) := by decide +kernel
theorem dX9_readNumbers_126 : decode cX9_readNumbers 126 = .ok (.iconst 0, 1) := by decide +kernel
theorem dX9_readNumbers_127 : decode cX9_readNumbers 127 = .ok (.ireturn, 1) := by decide +kernel
theorem dX9_readNumbers_128 : decode cX9_readNumbers 128 = .ok (.aload_n 0, 1) := by decide +kernel
theorem dX9_readNumbers_129 : decode cX9_readNumbers 129 = .ok (.dup, 1) := by decide +kernel
theorem dX9_readNumbers_130 : decode cX9_readNumbers 130 = .ok (.getfield 77, 3) := by decide +kernel
theorem dX9_readNumbers_133 : decode cX9_readNumbers 133 = .ok (.iconst 1, 1) := by decide +kernel
theorem dX9_readNumbers_134 : decode cX9_readNumbers 134 = .ok (.iadd, 1) := by decide +kernel
theorem dX9_readNumbers_135 : decode cX9_readNumbers 135 = .ok (.putfield 77, 3) := by decide +kernel
theorem dX9_readNumbers_138 : decode cX9_readNumbers 138 = .ok (.iinc 2 1, 3) := by decide +kernel
theorem dX9_readNumbers_141 : decode cX9_readNumbers 141 = .ok (.goto (-139), 3) := by decide +kernel
theorem dX9_readNumbers_144 : decode cX9_readNumbers 144 = .ok (.iconst 1, 1) := by decide +kernel
theorem dX9_readNumbers_145 : decode cX9_readNumbers 145 = .ok (.ireturn, 1) := by decide +kernel
theorem dX9_isTold_0 : decode cX9_isTold 0 = .ok (.aload_n 0, 1) := by decide +kernel
theorem dX9_isTold_1 : decode cX9_isTold 1 = .ok (.getfield 31, 3) := by decide +kernel
theorem dX9_isTold_4 : decode cX9_isTold 4 = .ok (.iload_n 1, 1) := by decide +kernel
theorem dX9_isTold_5 : decode cX9_isTold 5 = .ok (.iaload, 1) := by decide +kernel
theorem dX9_isTold_6 : decode cX9_isTold 6 = .ok (.iload_n 2, 1) := by decide +kernel
theorem dX9_isTold_7 : decode cX9_isTold 7 = .ok (.iload_n 3, 1) := by decide +kernel
theorem dX9_isTold_8 : decode cX9_isTold 8 = .ok (.invokestatic 70, 3) := by decide +kernel
theorem dX9_isTold_11 : decode cX9_isTold 11 = .ok (.ireturn, 1) := by decide +kernel
theorem dX9_put_0 : decode cX9_put 0 = .ok (.iconst 0, 1) := by decide +kernel
theorem dX9_put_1 : decode cX9_put 1 = .ok (.istore 4, 2) := by decide +kernel
theorem dX9_put_3 : decode cX9_put 3 = .ok (.iload 4, 2) := by decide +kernel
theorem dX9_put_5 : decode cX9_put 5 = .ok (.iload_n 3, 1) := by decide +kernel
theorem dX9_put_6 : decode cX9_put 6 = .ok (.if_icmp .ge 19, 3) := by decide +kernel
theorem dX9_put_9 : decode cX9_put 9 = .ok (.aload_n 0, 1) := by decide +kernel
theorem dX9_put_10 : decode cX9_put 10 = .ok (.iload_n 1, 1) := by decide +kernel
theorem dX9_put_11 : decode cX9_put 11 = .ok (.iload 4, 2) := by decide +kernel
theorem dX9_put_13 : decode cX9_put 13 = .ok (.iadd, 1) := by decide +kernel
theorem dX9_put_14 : decode cX9_put 14 = .ok (.aload_n 2, 1) := by decide +kernel
theorem dX9_put_15 : decode cX9_put 15 = .ok (.iload 4, 2) := by decide +kernel
theorem dX9_put_17 : decode cX9_put 17 = .ok (.iaload, 1) := by decide +kernel
theorem dX9_put_18 : decode cX9_put 18 = .ok (.iastore, 1) := by decide +kernel
theorem dX9_put_19 : decode cX9_put 19 = .ok (.iinc 4 1, 3) := by decide +kernel
theorem dX9_put_22 : decode cX9_put 22 = .ok (.goto (-19), 3) := by decide +kernel
theorem dX9_put_25 : decode cX9_put 25 = .ok (.return_, 1) := by decide +kernel
theorem dX9_clearTold_0 : decode cX9_clearTold 0 = .ok (.aload_n 0, 1) := by decide +kernel
theorem dX9_clearTold_1 : decode cX9_clearTold 1 = .ok (.iconst 0, 1) := by decide +kernel
theorem dX9_clearTold_2 : decode cX9_clearTold 2 = .ok (.putfield 63, 3) := by decide +kernel
theorem dX9_clearTold_5 : decode cX9_clearTold 5 = .ok (.aload_n 0, 1) := by decide +kernel
theorem dX9_clearTold_6 : decode cX9_clearTold 6 = .ok (.iconst 2, 1) := by decide +kernel
theorem dX9_clearTold_7 : decode cX9_clearTold 7 = .ok (.putfield 88, 3) := by decide +kernel
theorem dX9_clearTold_10 : decode cX9_clearTold 10 = .ok (.iconst 0, 1) := by decide +kernel
theorem dX9_clearTold_11 : decode cX9_clearTold 11 = .ok (.istore_n 1, 1) := by decide +kernel
theorem dX9_clearTold_12 : decode cX9_clearTold 12 = .ok (.iload_n 1, 1) := by decide +kernel
theorem dX9_clearTold_13 : decode cX9_clearTold 13 = .ok (.bipush 46, 2) := by decide +kernel
theorem dX9_clearTold_15 : decode cX9_clearTold 15 = .ok (.if_icmp .ge 16, 3) := by decide +kernel
theorem dX9_clearTold_18 : decode cX9_clearTold 18 = .ok (.aload_n 0, 1) := by decide +kernel
theorem dX9_clearTold_19 : decode cX9_clearTold 19 = .ok (.getfield 37, 3) := by decide +kernel
theorem dX9_clearTold_22 : decode cX9_clearTold 22 = .ok (.iload_n 1, 1) := by decide +kernel
theorem dX9_clearTold_23 : decode cX9_clearTold 23 = .ok (.iconst 0, 1) := by decide +kernel
theorem dX9_clearTold_24 : decode cX9_clearTold 24 = .ok (.iastore, 1) := by decide +kernel
theorem dX9_clearTold_25 : decode cX9_clearTold 25 = .ok (.iinc 1 1, 3) := by decide +kernel
theorem dX9_clearTold_28 : decode cX9_clearTold 28 = .ok (.goto (-16), 3) := by decide +kernel
theorem dX9_clearTold_31 : decode cX9_clearTold 31 = .ok (.return_, 1) := by decide +kernel
theorem dX9_readPersonOf_0 : decode cX9_readPersonOf 0 = .ok (.aload_n 0, 1) := by decide +kernel
theorem dX9_readPersonOf_1 : decode cX9_readPersonOf 1 = .ok (.getfield 63, 3) := by decide +kernel
theorem dX9_readPersonOf_4 : decode cX9_readPersonOf 4 = .ok (.bipush 6, 2) := by decide +kernel
theorem dX9_readPersonOf_6 : decode cX9_readPersonOf 6 = .ok (.if_icmp .eq 43, 3) := by decide +kernel
theorem dX9_readPersonOf_9 : decode cX9_readPersonOf 9 = .ok (.aload_n 0, 1) := by decide +kernel
theorem dX9_readPersonOf_10 : decode cX9_readPersonOf 10 = .ok (.iconst 3, 1) := by decide +kernel
theorem dX9_readPersonOf_11 : decode cX9_readPersonOf 11 = .ok (.invokevirtual 91, 3) := by decide +kernel
theorem dX9_readPersonOf_14 : decode cX9_readPersonOf 14 = .ok (.ifCond .eq 35, 3) := by decide +kernel
theorem dX9_readPersonOf_17 : decode cX9_readPersonOf 17 = .ok (.aload_n 0, 1) := by decide +kernel
theorem dX9_readPersonOf_18 : decode cX9_readPersonOf 18 = .ok (.iconst 0, 1) := by decide +kernel
theorem dX9_readPersonOf_19 : decode cX9_readPersonOf 19 = .ok (.iconst 0, 1) := by decide +kernel
theorem dX9_readPersonOf_20 : decode cX9_readPersonOf 20 = .ok (.iconst 3, 1) := by decide +kernel
theorem dX9_readPersonOf_21 : decode cX9_readPersonOf 21 = .ok (.invokevirtual 94, 3) := by decide +kernel
theorem dX9_readPersonOf_24 : decode cX9_readPersonOf 24 = .ok (.ifCond .eq 25, 3) := by decide +kernel
theorem dX9_readPersonOf_27 : decode cX9_readPersonOf 27 = .ok (.aload_n 0, 1) := by decide +kernel
theorem dX9_readPersonOf_28 : decode cX9_readPersonOf 28 = .ok (.iconst 1, 1) := by decide +kernel
theorem dX9_readPersonOf_29 : decode cX9_readPersonOf 29 = .ok (.iconst 0, 1) := by decide +kernel
theorem dX9_readPersonOf_30 : decode cX9_readPersonOf 30 = .ok (.bipush 31, 2) := by decide +kernel
theorem dX9_readPersonOf_32 : decode cX9_readPersonOf 32 = .ok (.invokevirtual 94, 3) := by decide +kernel
theorem dX9_readPersonOf_35 : decode cX9_readPersonOf 35 = .ok (.ifCond .eq 14, 3) := by decide +kernel
theorem dX9_readPersonOf_38 : decode cX9_readPersonOf 38 = .ok (.aload_n 0, 1) := by decide +kernel
theorem dX9_readPersonOf_39 : decode cX9_readPersonOf 39 = .ok (.iconst 2, 1) := by decide +kernel
theorem dX9_readPersonOf_40 : decode cX9_readPersonOf 40 = .ok (.iconst 1, 1) := by decide +kernel
theorem dX9_readPersonOf_41 : decode cX9_readPersonOf 41 = .ok (.bipush 60, 2) := by decide +kernel
theorem dX9_readPersonOf_43 : decode cX9_readPersonOf 43 = .ok (.invokevirtual 94, 3) := by decide +kernel
theorem dX9_readPersonOf_46 : decode cX9_readPersonOf 46 = .ok (.ifCond .ne 5, 3) := by decide +kernel
theorem dX9_readPersonOf_49 : decode cX9_readPersonOf 49 = .ok (.iconst 0, 1) := by decide +kernel
theorem dX9_readPersonOf_50 : decode cX9_readPersonOf 50 = .ok (.ireturn, 1) := by decide +kernel
theorem dX9_readPersonOf_51 : decode cX9_readPersonOf 51 = .ok (.aload_n 0, 1) := by decide +kernel
theorem dX9_readPersonOf_52 : decode cX9_readPersonOf 52 = .ok (.aload_n 0, 1) := by decide +kernel
theorem dX9_readPersonOf_53 : decode cX9_readPersonOf 53 = .ok (.getfield 31, 3) := by decide +kernel
theorem dX9_readPersonOf_56 : decode cX9_readPersonOf 56 = .ok (.iconst 0, 1) := by decide +kernel
theorem dX9_readPersonOf_57 : decode cX9_readPersonOf 57 = .ok (.iaload, 1) := by decide +kernel
theorem dX9_readPersonOf_58 : decode cX9_readPersonOf 58 = .ok (.aload_n 0, 1) := by decide +kernel
theorem dX9_readPersonOf_59 : decode cX9_readPersonOf 59 = .ok (.getfield 31, 3) := by decide +kernel
theorem dX9_readPersonOf_62 : decode cX9_readPersonOf 62 = .ok (.iconst 1, 1) := by decide +kernel
theorem dX9_readPersonOf_63 : decode cX9_readPersonOf 63 = .ok (.iaload, 1) := by decide +kernel
theorem dX9_readPersonOf_64 : decode cX9_readPersonOf 64 = .ok (.aload_n 0, 1) := by decide +kernel
theorem dX9_readPersonOf_65 : decode cX9_readPersonOf 65 = .ok (.getfield 31, 3) := by decide +kernel
theorem dX9_readPersonOf_68 : decode cX9_readPersonOf 68 = .ok (.iconst 2, 1) := by decide +kernel
theorem dX9_readPersonOf_69 : decode cX9_readPersonOf 69 = .ok (.iaload, 1) := by decide +kernel
theorem dX9_readPersonOf_70 : decode cX9_readPersonOf 70 = .ok (.invokevirtual 52, 3) := by decide +kernel
theorem dX9_readPersonOf_73 : decode cX9_readPersonOf 73 = .ok (.iconst 1, 1) := by decide +kernel
theorem dX9_readPersonOf_74 : decode cX9_readPersonOf 74 = .ok (.ireturn, 1) := by decide +kernel
theorem dX9_readThingOf_0 : decode cX9_readThingOf 0 = .ok (.aload_n 0, 1) := by decide +kernel
theorem dX9_readThingOf_1 : decode cX9_readThingOf 1 = .ok (.getfield 37, 3) := by decide +kernel
theorem dX9_readThingOf_4 : decode cX9_readThingOf 4 = .ok (.iconst 2, 1) := by decide +kernel
theorem dX9_readThingOf_5 : decode cX9_readThingOf 5 = .ok (.iaload, 1) := by decide +kernel
theorem dX9_readThingOf_6 : decode cX9_readThingOf 6 = .ok (.bipush 9, 2) := by decide +kernel
theorem dX9_readThingOf_8 : decode cX9_readThingOf 8 = .ok (.if_icmp .eq 44, 3) := by decide +kernel
theorem dX9_readThingOf_11 : decode cX9_readThingOf 11 = .ok (.aload_n 0, 1) := by decide +kernel
theorem dX9_readThingOf_12 : decode cX9_readThingOf 12 = .ok (.iconst 3, 1) := by decide +kernel
theorem dX9_readThingOf_13 : decode cX9_readThingOf 13 = .ok (.invokevirtual 91, 3) := by decide +kernel
theorem dX9_readThingOf_16 : decode cX9_readThingOf 16 = .ok (.ifCond .eq 36, 3) := by decide +kernel
theorem dX9_readThingOf_19 : decode cX9_readThingOf 19 = .ok (.aload_n 0, 1) := by decide +kernel
theorem dX9_readThingOf_20 : decode cX9_readThingOf 20 = .ok (.iconst 0, 1) := by decide +kernel
theorem dX9_readThingOf_21 : decode cX9_readThingOf 21 = .ok (.iconst 0, 1) := by decide +kernel
theorem dX9_readThingOf_22 : decode cX9_readThingOf 22 = .ok (.bipush 60, 2) := by decide +kernel
theorem dX9_readThingOf_24 : decode cX9_readThingOf 24 = .ok (.invokevirtual 94, 3) := by decide +kernel
theorem dX9_readThingOf_27 : decode cX9_readThingOf 27 = .ok (.ifCond .eq 25, 3) := by decide +kernel
theorem dX9_readThingOf_30 : decode cX9_readThingOf 30 = .ok (.aload_n 0, 1) := by decide +kernel
theorem dX9_readThingOf_31 : decode cX9_readThingOf 31 = .ok (.iconst 1, 1) := by decide +kernel
theorem dX9_readThingOf_32 : decode cX9_readThingOf 32 = .ok (.iconst 1, 1) := by decide +kernel
theorem dX9_readThingOf_33 : decode cX9_readThingOf 33 = .ok (.bipush 31, 2) := by decide +kernel
theorem dX9_readThingOf_35 : decode cX9_readThingOf 35 = .ok (.invokevirtual 94, 3) := by decide +kernel
theorem dX9_readThingOf_38 : decode cX9_readThingOf 38 = .ok (.ifCond .eq 14, 3) := by decide +kernel
theorem dX9_readThingOf_41 : decode cX9_readThingOf 41 = .ok (.aload_n 0, 1) := by decide +kernel
theorem dX9_readThingOf_42 : decode cX9_readThingOf 42 = .ok (.iconst 2, 1) := by decide +kernel
theorem dX9_readThingOf_43 : decode cX9_readThingOf 43 = .ok (.iconst 1, 1) := by decide +kernel
theorem dX9_readThingOf_44 : decode cX9_readThingOf 44 = .ok (.bipush 9, 2) := by decide +kernel
theorem dX9_readThingOf_46 : decode cX9_readThingOf 46 = .ok (.invokevirtual 94, 3) := by decide +kernel
theorem dX9_readThingOf_49 : decode cX9_readThingOf 49 = .ok (.ifCond .ne 5, 3) := by decide +kernel
theorem dX9_readThingOf_52 : decode cX9_readThingOf 52 = .ok (.iconst 0, 1) := by decide +kernel
theorem dX9_readThingOf_53 : decode cX9_readThingOf 53 = .ok (.ireturn, 1) := by decide +kernel
theorem dX9_readThingOf_54 : decode cX9_readThingOf 54 = .ok (.aload_n 0, 1) := by decide +kernel
theorem dX9_readThingOf_55 : decode cX9_readThingOf 55 = .ok (.getfield 37, 3) := by decide +kernel
theorem dX9_readThingOf_58 : decode cX9_readThingOf 58 = .ok (.aload_n 0, 1) := by decide +kernel
theorem dX9_readThingOf_59 : decode cX9_readThingOf 59 = .ok (.getfield 31, 3) := by decide +kernel
theorem dX9_readThingOf_62 : decode cX9_readThingOf 62 = .ok (.iconst 0, 1) := by decide +kernel
theorem dX9_readThingOf_63 : decode cX9_readThingOf 63 = .ok (.iaload, 1) := by decide +kernel
theorem dX9_readThingOf_64 : decode cX9_readThingOf 64 = .ok (.aload_n 0, 1) := by decide +kernel
theorem dX9_readThingOf_65 : decode cX9_readThingOf 65 = .ok (.getfield 31, 3) := by decide +kernel
theorem dX9_readThingOf_68 : decode cX9_readThingOf 68 = .ok (.iconst 1, 1) := by decide +kernel
theorem dX9_readThingOf_69 : decode cX9_readThingOf 69 = .ok (.iaload, 1) := by decide +kernel
theorem dX9_readThingOf_70 : decode cX9_readThingOf 70 = .ok (.aload_n 0, 1) := by decide +kernel
theorem dX9_readThingOf_71 : decode cX9_readThingOf 71 = .ok (.getfield 31, 3) := by decide +kernel
theorem dX9_readThingOf_74 : decode cX9_readThingOf 74 = .ok (.iconst 2, 1) := by decide +kernel
theorem dX9_readThingOf_75 : decode cX9_readThingOf 75 = .ok (.iaload, 1) := by decide +kernel
theorem dX9_readThingOf_76 : decode cX9_readThingOf 76 = .ok (.invokestatic 56, 3) := by decide +kernel
theorem dX9_readThingOf_79 : decode cX9_readThingOf 79 = .ok (.iconst 1, 1) := by decide +kernel
theorem dX9_readThingOf_80 : decode cX9_readThingOf 80 = .ok (.ireturn, 1) := by decide +kernel
theorem dX9_readFadesOf_0 : decode cX9_readFadesOf 0 = .ok (.aload_n 0, 1) := by decide +kernel
theorem dX9_readFadesOf_1 : decode cX9_readFadesOf 1 = .ok (.iconst 1, 1) := by decide +kernel
theorem dX9_readFadesOf_2 : decode cX9_readFadesOf 2 = .ok (.invokevirtual 91, 3) := by decide +kernel
theorem dX9_readFadesOf_5 : decode cX9_readFadesOf 5 = .ok (.ifCond .eq 18, 3) := by decide +kernel
theorem dX9_readFadesOf_8 : decode cX9_readFadesOf 8 = .ok (.aload_n 0, 1) := by decide +kernel
theorem dX9_readFadesOf_9 : decode cX9_readFadesOf 9 = .ok (.iconst 0, 1) := by decide +kernel
theorem dX9_readFadesOf_10 : decode cX9_readFadesOf 10 = .ok (.iconst 1, 1) := by decide +kernel
theorem dX9_readFadesOf_11 : decode cX9_readFadesOf 11 = .ok (.bipush 9, 2) := by decide +kernel
theorem dX9_readFadesOf_13 : decode cX9_readFadesOf 13 = .ok (.invokevirtual 94, 3) := by decide +kernel
theorem dX9_readFadesOf_16 : decode cX9_readFadesOf 16 = .ok (.ifCond .eq 7, 3) := by decide +kernel
theorem dX9_readFadesOf_19 : decode cX9_readFadesOf 19 = .ok (.iconst 1, 1) := by decide +kernel
theorem dX9_readFadesOf_20 : decode cX9_readFadesOf 20 = .ok (.goto 4, 3) := by decide +kernel
theorem dX9_readFadesOf_23 : decode cX9_readFadesOf 23 = .ok (.iconst 0, 1) := by decide +kernel
theorem dX9_readFadesOf_24 : decode cX9_readFadesOf 24 = .ok (.istore_n 1, 1) := by decide +kernel
theorem dX9_readFadesOf_25 : decode cX9_readFadesOf 25 = .ok (.aload_n 0, 1) := by decide +kernel
theorem dX9_readFadesOf_26 : decode cX9_readFadesOf 26 = .ok (.iload_n 1, 1) := by decide +kernel
theorem dX9_readFadesOf_27 : decode cX9_readFadesOf 27 = .ok (.ifCond .eq 12, 3) := by decide +kernel
theorem dX9_readFadesOf_30 : decode cX9_readFadesOf 30 = .ok (.aload_n 0, 1) := by decide +kernel
theorem dX9_readFadesOf_31 : decode cX9_readFadesOf 31 = .ok (.getfield 31, 3) := by decide +kernel
theorem dX9_readFadesOf_34 : decode cX9_readFadesOf 34 = .ok (.iconst 0, 1) := by decide +kernel
theorem dX9_readFadesOf_35 : decode cX9_readFadesOf 35 = .ok (.iaload, 1) := by decide +kernel
theorem dX9_readFadesOf_36 : decode cX9_readFadesOf 36 = .ok (.goto 7, 3) := by decide +kernel
theorem dX9_readFadesOf_39 : decode cX9_readFadesOf 39 = .ok (.aload_n 0, 1) := by decide +kernel
theorem dX9_readFadesOf_40 : decode cX9_readFadesOf 40 = .ok (.getfield 88, 3) := by decide +kernel
theorem dX9_readFadesOf_43 : decode cX9_readFadesOf 43 = .ok (.putfield 88, 3) := by decide +kernel
theorem dX9_readFadesOf_46 : decode cX9_readFadesOf 46 = .ok (.iload_n 1, 1) := by decide +kernel
theorem dX9_readFadesOf_47 : decode cX9_readFadesOf 47 = .ok (.ireturn, 1) := by decide +kernel
theorem dX9_readItem_0 : decode cX9_readItem 0 = .ok (.aload_n 0, 1) := by decide +kernel
theorem dX9_readItem_1 : decode cX9_readItem 1 = .ok (.aload_n 0, 1) := by decide +kernel
theorem dX9_readItem_2 : decode cX9_readItem 2 = .ok (.getfield 77, 3) := by decide +kernel
theorem dX9_readItem_5 : decode cX9_readItem 5 = .ok (.invokevirtual 80, 3) := by decide +kernel
theorem dX9_readItem_8 : decode cX9_readItem 8 = .ok (.istore_n 1, 1) := by decide +kernel
theorem dX9_readItem_9 : decode cX9_readItem 9 = .ok (.aload_n 0, 1) := by decide +kernel
theorem dX9_readItem_10 : decode cX9_readItem 10 = .ok (.dup, 1) := by decide +kernel
theorem dX9_readItem_11 : decode cX9_readItem 11 = .ok (.getfield 77, 3) := by decide +kernel
theorem dX9_readItem_14 : decode cX9_readItem 14 = .ok (.iconst 1, 1) := by decide +kernel
theorem dX9_readItem_15 : decode cX9_readItem 15 = .ok (.iadd, 1) := by decide +kernel
theorem dX9_readItem_16 : decode cX9_readItem 16 = .ok (.putfield 77, 3) := by decide +kernel
theorem dX9_readItem_19 : decode cX9_readItem 19 = .ok (.iload_n 1, 1) := by decide +kernel
theorem dX9_readItem_20 : decode cX9_readItem 20 = .ok (.lookupswitch 51 #[(102, 46), (112, 36), (116, 41)], 36) := by decide +kernel
theorem dX9_readItem_56 : decode cX9_readItem 56 = .ok (.aload_n 0, 1) := by decide +kernel
theorem dX9_readItem_57 : decode cX9_readItem 57 = .ok (.invokevirtual 97, 3) := by decide +kernel
theorem dX9_readItem_60 : decode cX9_readItem 60 = .ok (.ireturn, 1) := by decide +kernel
theorem dX9_readItem_61 : decode cX9_readItem 61 = .ok (.aload_n 0, 1) := by decide +kernel
theorem dX9_readItem_62 : decode cX9_readItem 62 = .ok (.invokevirtual 101, 3) := by decide +kernel
theorem dX9_readItem_65 : decode cX9_readItem 65 = .ok (.ireturn, 1) := by decide +kernel
theorem dX9_readItem_66 : decode cX9_readItem 66 = .ok (.aload_n 0, 1) := by decide +kernel
theorem dX9_readItem_67 : decode cX9_readItem 67 = .ok (.invokevirtual 104, 3) := by decide +kernel
theorem dX9_readItem_70 : decode cX9_readItem 70 = .ok (.ireturn, 1) := by decide +kernel
theorem dX9_readItem_71 : decode cX9_readItem 71 = .ok (.iconst 0, 1) := by decide +kernel
theorem dX9_readItem_72 : decode cX9_readItem 72 = .ok (.ireturn, 1) := by decide +kernel
theorem dX9_fault_0 : decode cX9_fault 0 = .ok (.aload_n 0, 1) := by decide +kernel
theorem dX9_fault_1 : decode cX9_fault 1 = .ok (.iconst 0, 1) := by decide +kernel
theorem dX9_fault_2 : decode cX9_fault 2 = .ok (.putfield 77, 3) := by decide +kernel
theorem dX9_fault_5 : decode cX9_fault 5 = .ok (.aload_n 0, 1) := by decide +kernel
theorem dX9_fault_6 : decode cX9_fault 6 = .ok (.invokevirtual 49, 3) := by decide +kernel
theorem dX9_fault_9 : decode cX9_fault 9 = .ok (.aload_n 0, 1) := by decide +kernel
theorem dX9_fault_10 : decode cX9_fault 10 = .ok (.getfield 77, 3) := by decide +kernel
theorem dX9_fault_13 : decode cX9_fault 13 = .ok (.aload_n 0, 1) := by decide +kernel
theorem dX9_fault_14 : decode cX9_fault 14 = .ok (.getfield 74, 3) := by decide +kernel
theorem dX9_fault_17 : decode cX9_fault 17 = .ok (.if_icmp .ge 20, 3) := by decide +kernel
theorem dX9_fault_20 : decode cX9_fault 20 = .ok (.aload_n 0, 1) := by decide +kernel
theorem dX9_fault_21 : decode cX9_fault 21 = .ok (.getfield 77, 3) := by decide +kernel
theorem dX9_fault_24 : decode cX9_fault 24 = .ok (.istore_n 1, 1) := by decide +kernel
theorem dX9_fault_25 : decode cX9_fault 25 = .ok (.aload_n 0, 1) := by decide +kernel
theorem dX9_fault_26 : decode cX9_fault 26 = .ok (.invokevirtual 107, 3) := by decide +kernel
theorem dX9_fault_29 : decode cX9_fault 29 = .ok (.ifCond .ne 5, 3) := by decide +kernel
theorem dX9_fault_32 : decode cX9_fault 32 = .ok (.iload_n 1, 1) := by decide +kernel
theorem dX9_fault_33 : decode cX9_fault 33 = .ok (.ireturn, 1) := by decide +kernel
theorem dX9_fault_34 : decode cX9_fault 34 = .ok (.goto (-25), 3) := by decide +kernel
theorem dX9_fault_37 : decode cX9_fault 37 = .ok (.bipush (-4), 2) := by decide +kernel
theorem dX9_fault_39 : decode cX9_fault 39 = .ok (.ireturn, 1) := by decide +kernel
theorem dX9_lay_0 : decode cX9_lay 0 = .ok (.aload_n 0, 1) := by decide +kernel
theorem dX9_lay_1 : decode cX9_lay 1 = .ok (.invokevirtual 110, 3) := by decide +kernel
theorem dX9_lay_4 : decode cX9_lay 4 = .ok (.bipush (-4), 2) := by decide +kernel
theorem dX9_lay_6 : decode cX9_lay 6 = .ok (.if_icmp .ne 10, 3) := by decide +kernel
theorem dX9_lay_9 : decode cX9_lay 9 = .ok (.aload_n 0, 1) := by decide +kernel
theorem dX9_lay_10 : decode cX9_lay 10 = .ok (.getfield 63, 3) := by decide +kernel
theorem dX9_lay_13 : decode cX9_lay 13 = .ok (.ifCond .ne 6, 3) := by decide +kernel
theorem dX9_lay_16 : decode cX9_lay 16 = .ok (.bipush (-2), 2) := by decide +kernel
theorem dX9_lay_18 : decode cX9_lay 18 = .ok (.ireturn, 1) := by decide +kernel
theorem dX9_lay_19 : decode cX9_lay 19 = .ok (.aload_n 0, 1) := by decide +kernel
theorem dX9_lay_20 : decode cX9_lay 20 = .ok (.invokevirtual 60, 3) := by decide +kernel
theorem dX9_lay_23 : decode cX9_lay 23 = .ok (.aload_n 0, 1) := by decide +kernel
theorem dX9_lay_24 : decode cX9_lay 24 = .ok (.getfield 67, 3) := by decide +kernel
theorem dX9_lay_27 : decode cX9_lay 27 = .ok (.ireturn, 1) := by decide +kernel
theorem dX9_settles_0 : decode cX9_settles 0 = .ok (.aload_n 0, 1) := by decide +kernel
theorem dX9_settles_1 : decode cX9_settles 1 = .ok (.aload_n 0, 1) := by decide +kernel
theorem dX9_settles_2 : decode cX9_settles 2 = .ok (.getfield 63, 3) := by decide +kernel
theorem dX9_settles_5 : decode cX9_settles 5 = .ok (.putfield 67, 3) := by decide +kernel
theorem dX9_settles_8 : decode cX9_settles 8 = .ok (.aload_n 0, 1) := by decide +kernel
theorem dX9_settles_9 : decode cX9_settles 9 = .ok (.aload_n 0, 1) := by decide +kernel
theorem dX9_settles_10 : decode cX9_settles 10 = .ok (.getfield 88, 3) := by decide +kernel
theorem dX9_settles_13 : decode cX9_settles 13 = .ok (.putfield 114, 3) := by decide +kernel
theorem dX9_settles_16 : decode cX9_settles 16 = .ok (.aload_n 0, 1) := by decide +kernel
theorem dX9_settles_17 : decode cX9_settles 17 = .ok (.getfield 7, 3) := by decide +kernel
theorem dX9_settles_20 : decode cX9_settles 20 = .ok (.iconst 0, 1) := by decide +kernel
theorem dX9_settles_21 : decode cX9_settles 21 = .ok (.aload_n 0, 1) := by decide +kernel
theorem dX9_settles_22 : decode cX9_settles 22 = .ok (.getfield 34, 3) := by decide +kernel
theorem dX9_settles_25 : decode cX9_settles 25 = .ok (.bipush 18, 2) := by decide +kernel
theorem dX9_settles_27 : decode cX9_settles 27 = .ok (.invokestatic 117, 3) := by decide +kernel
theorem dX9_settles_30 : decode cX9_settles 30 = .ok (.iconst 0, 1) := by decide +kernel
theorem dX9_settles_31 : decode cX9_settles 31 = .ok (.istore_n 1, 1) := by decide +kernel
theorem dX9_settles_32 : decode cX9_settles 32 = .ok (.iload_n 1, 1) := by decide +kernel
theorem dX9_settles_33 : decode cX9_settles 33 = .ok (.bipush 6, 2) := by decide +kernel
theorem dX9_settles_35 : decode cX9_settles 35 = .ok (.if_icmp .ge 18, 3) := by decide +kernel
theorem dX9_settles_38 : decode cX9_settles 38 = .ok (.aload_n 0, 1) := by decide +kernel
theorem dX9_settles_39 : decode cX9_settles 39 = .ok (.getfield 37, 3) := by decide +kernel
theorem dX9_settles_42 : decode cX9_settles 42 = .ok (.iconst 4, 1) := by decide +kernel
theorem dX9_settles_43 : decode cX9_settles 43 = .ok (.iload_n 1, 1) := by decide +kernel
theorem dX9_settles_44 : decode cX9_settles 44 = .ok (.iadd, 1) := by decide +kernel
theorem dX9_settles_45 : decode cX9_settles 45 = .ok (.iload_n 1, 1) := by decide +kernel
theorem dX9_settles_46 : decode cX9_settles 46 = .ok (.iastore, 1) := by decide +kernel
theorem dX9_settles_47 : decode cX9_settles 47 = .ok (.iinc 1 1, 3) := by decide +kernel
theorem dX9_settles_50 : decode cX9_settles 50 = .ok (.goto (-18), 3) := by decide +kernel
theorem dX9_settles_53 : decode cX9_settles 53 = .ok (.aload_n 0, 1) := by decide +kernel
theorem dX9_settles_54 : decode cX9_settles 54 = .ok (.getfield 13, 3) := by decide +kernel
theorem dX9_settles_57 : decode cX9_settles 57 = .ok (.iconst 0, 1) := by decide +kernel
theorem dX9_settles_58 : decode cX9_settles 58 = .ok (.aload_n 0, 1) := by decide +kernel
theorem dX9_settles_59 : decode cX9_settles 59 = .ok (.getfield 37, 3) := by decide +kernel
theorem dX9_settles_62 : decode cX9_settles 62 = .ok (.bipush 46, 2) := by decide +kernel
theorem dX9_settles_64 : decode cX9_settles 64 = .ok (.invokestatic 117, 3) := by decide +kernel
theorem dX9_settles_67 : decode cX9_settles 67 = .ok (.aload_n 0, 1) := by decide +kernel
theorem dX9_settles_68 : decode cX9_settles 68 = .ok (.getfield 16, 3) := by decide +kernel
theorem dX9_settles_71 : decode cX9_settles 71 = .ok (.iconst 0, 1) := by decide +kernel
theorem dX9_settles_72 : decode cX9_settles 72 = .ok (.aload_n 0, 1) := by decide +kernel
theorem dX9_settles_73 : decode cX9_settles 73 = .ok (.getfield 37, 3) := by decide +kernel
theorem dX9_settles_76 : decode cX9_settles 76 = .ok (.bipush 46, 2) := by decide +kernel
theorem dX9_settles_78 : decode cX9_settles 78 = .ok (.invokestatic 117, 3) := by decide +kernel
theorem dX9_settles_81 : decode cX9_settles 81 = .ok (.aload_n 0, 1) := by decide +kernel
theorem dX9_settles_82 : decode cX9_settles 82 = .ok (.iconst 0, 1) := by decide +kernel
theorem dX9_settles_83 : decode cX9_settles 83 = .ok (.putfield 121, 3) := by decide +kernel
theorem dX9_settles_86 : decode cX9_settles 86 = .ok (.aload_n 0, 1) := by decide +kernel
theorem dX9_settles_87 : decode cX9_settles 87 = .ok (.iconst 0, 1) := by decide +kernel
theorem dX9_settles_88 : decode cX9_settles 88 = .ok (.putfield 124, 3) := by decide +kernel
theorem dX9_settles_91 : decode cX9_settles 91 = .ok (.aload_n 0, 1) := by decide +kernel
theorem dX9_settles_92 : decode cX9_settles 92 = .ok (.iconst 0, 1) := by decide +kernel
theorem dX9_settles_93 : decode cX9_settles 93 = .ok (.putfield 127, 3) := by decide +kernel
theorem dX9_settles_96 : decode cX9_settles 96 = .ok (.return_, 1) := by decide +kernel
theorem dX9_from_0 : decode cX9_from 0 = .ok (.aload_n 0, 1) := by decide +kernel
theorem dX9_from_1 : decode cX9_from 1 = .ok (.getfield 40, 3) := by decide +kernel
theorem dX9_from_4 : decode cX9_from 4 = .ok (.iconst 0, 1) := by decide +kernel
theorem dX9_from_5 : decode cX9_from 5 = .ok (.aload_n 1, 1) := by decide +kernel
theorem dX9_from_6 : decode cX9_from 6 = .ok (.bipush 46, 2) := by decide +kernel
theorem dX9_from_8 : decode cX9_from 8 = .ok (.invokestatic 117, 3) := by decide +kernel
theorem dX9_from_11 : decode cX9_from 11 = .ok (.aload_n 0, 1) := by decide +kernel
theorem dX9_from_12 : decode cX9_from 12 = .ok (.iconst 0, 1) := by decide +kernel
theorem dX9_from_13 : decode cX9_from 13 = .ok (.putfield 130, 3) := by decide +kernel
theorem dX9_from_16 : decode cX9_from 16 = .ok (.return_, 1) := by decide +kernel
theorem dX9_comesBy_0 : decode cX9_comesBy 0 = .ok (.iload_n 3, 1) := by decide +kernel
theorem dX9_comesBy_1 : decode cX9_comesBy 1 = .ok (.iload_n 2, 1) := by decide +kernel
theorem dX9_comesBy_2 : decode cX9_comesBy 2 = .ok (.aload_n 0, 1) := by decide +kernel
theorem dX9_comesBy_3 : decode cX9_comesBy 3 = .ok (.getfield 7, 3) := by decide +kernel
theorem dX9_comesBy_6 : decode cX9_comesBy 6 = .ok (.iconst 3, 1) := by decide +kernel
theorem dX9_comesBy_7 : decode cX9_comesBy 7 = .ok (.iload_n 1, 1) := by decide +kernel
theorem dX9_comesBy_8 : decode cX9_comesBy 8 = .ok (.imul, 1) := by decide +kernel
theorem dX9_comesBy_9 : decode cX9_comesBy 9 = .ok (.iconst 1, 1) := by decide +kernel
theorem dX9_comesBy_10 : decode cX9_comesBy 10 = .ok (.iadd, 1) := by decide +kernel
theorem dX9_comesBy_11 : decode cX9_comesBy 11 = .ok (.iaload, 1) := by decide +kernel
theorem dX9_comesBy_12 : decode cX9_comesBy 12 = .ok (.iand, 1) := by decide +kernel
theorem dX9_comesBy_13 : decode cX9_comesBy 13 = .ok (.invokestatic 133, 3) := by decide +kernel
theorem dX9_comesBy_16 : decode cX9_comesBy 16 = .ok (.imul, 1) := by decide +kernel
theorem dX9_comesBy_17 : decode cX9_comesBy 17 = .ok (.istore 5, 2) := by decide +kernel
theorem dX9_comesBy_19 : decode cX9_comesBy 19 = .ok (.aload_n 0, 1) := by decide +kernel
theorem dX9_comesBy_20 : decode cX9_comesBy 20 = .ok (.getfield 7, 3) := by decide +kernel
theorem dX9_comesBy_23 : decode cX9_comesBy 23 = .ok (.iconst 3, 1) := by decide +kernel
theorem dX9_comesBy_24 : decode cX9_comesBy 24 = .ok (.iload_n 1, 1) := by decide +kernel
theorem dX9_comesBy_25 : decode cX9_comesBy 25 = .ok (.imul, 1) := by decide +kernel
theorem dX9_comesBy_26 : decode cX9_comesBy 26 = .ok (.iaload, 1) := by decide +kernel
theorem dX9_comesBy_27 : decode cX9_comesBy 27 = .ok (.tableswitch 67 1 3 #[25, 30, 48], 25) := by decide +kernel
theorem dX9_comesBy_52 : decode cX9_comesBy 52 = .ok (.iload 5, 2) := by decide +kernel
theorem dX9_comesBy_54 : decode cX9_comesBy 54 = .ok (.iconst 2, 1) := by decide +kernel
theorem dX9_comesBy_55 : decode cX9_comesBy 55 = .ok (.idiv, 1) := by decide +kernel
theorem dX9_comesBy_56 : decode cX9_comesBy 56 = .ok (.ireturn, 1) := by decide +kernel
theorem dX9_comesBy_57 : decode cX9_comesBy 57 = .ok (.iload 5, 2) := by decide +kernel
theorem dX9_comesBy_59 : decode cX9_comesBy 59 = .ok (.iload_n 2, 1) := by decide +kernel
theorem dX9_comesBy_60 : decode cX9_comesBy 60 = .ok (.iload 4, 2) := by decide +kernel
theorem dX9_comesBy_62 : decode cX9_comesBy 62 = .ok (.iconst (-1), 1) := by decide +kernel
theorem dX9_comesBy_63 : decode cX9_comesBy 63 = .ok (.ixor, 1) := by decide +kernel
theorem dX9_comesBy_64 : decode cX9_comesBy 64 = .ok (.iand, 1) := by decide +kernel
theorem dX9_comesBy_65 : decode cX9_comesBy 65 = .ok (.ifCond .eq 7, 3) := by decide +kernel
theorem dX9_comesBy_68 : decode cX9_comesBy 68 = .ok (.iconst 2, 1) := by decide +kernel
theorem dX9_comesBy_69 : decode cX9_comesBy 69 = .ok (.goto 4, 3) := by decide +kernel
theorem dX9_comesBy_72 : decode cX9_comesBy 72 = .ok (.iconst 0, 1) := by decide +kernel
theorem dX9_comesBy_73 : decode cX9_comesBy 73 = .ok (.iadd, 1) := by decide +kernel
theorem dX9_comesBy_74 : decode cX9_comesBy 74 = .ok (.ireturn, 1) := by decide +kernel
theorem dX9_comesBy_75 : decode cX9_comesBy 75 = .ok (.aload_n 0, 1) := by decide +kernel
theorem dX9_comesBy_76 : decode cX9_comesBy 76 = .ok (.getfield 40, 3) := by decide +kernel
theorem dX9_comesBy_79 : decode cX9_comesBy 79 = .ok (.iconst 0, 1) := by decide +kernel
theorem dX9_comesBy_80 : decode cX9_comesBy 80 = .ok (.iaload, 1) := by decide +kernel
theorem dX9_comesBy_81 : decode cX9_comesBy 81 = .ok (.iconst 3, 1) := by decide +kernel
theorem dX9_comesBy_82 : decode cX9_comesBy 82 = .ok (.irem, 1) := by decide +kernel
theorem dX9_comesBy_83 : decode cX9_comesBy 83 = .ok (.iconst 2, 1) := by decide +kernel
theorem dX9_comesBy_84 : decode cX9_comesBy 84 = .ok (.if_icmp .ne 7, 3) := by decide +kernel
theorem dX9_comesBy_87 : decode cX9_comesBy 87 = .ok (.iconst 0, 1) := by decide +kernel
theorem dX9_comesBy_88 : decode cX9_comesBy 88 = .ok (.goto 5, 3) := by decide +kernel
theorem dX9_comesBy_91 : decode cX9_comesBy 91 = .ok (.iload 5, 2) := by decide +kernel
theorem dX9_comesBy_93 : decode cX9_comesBy 93 = .ok (.ireturn, 1) := by decide +kernel
theorem dX9_comesBy_94 : decode cX9_comesBy 94 = .ok (.iload 5, 2) := by decide +kernel
theorem dX9_comesBy_96 : decode cX9_comesBy 96 = .ok (.ireturn, 1) := by decide +kernel
theorem dX9_comes_0 : decode cX9_comes 0 = .ok (.iload_n 2, 1) := by decide +kernel
theorem dX9_comes_1 : decode cX9_comes 1 = .ok (.aload_n 0, 1) := by decide +kernel
theorem dX9_comes_2 : decode cX9_comes 2 = .ok (.getfield 114, 3) := by decide +kernel
theorem dX9_comes_5 : decode cX9_comes 5 = .ok (.idiv, 1) := by decide +kernel
theorem dX9_comes_6 : decode cX9_comes 6 = .ok (.istore_n 3, 1) := by decide +kernel
theorem dX9_comes_7 : decode cX9_comes 7 = .ok (.iconst 0, 1) := by decide +kernel
theorem dX9_comes_8 : decode cX9_comes 8 = .ok (.istore 4, 2) := by decide +kernel
theorem dX9_comes_10 : decode cX9_comes 10 = .ok (.iconst 0, 1) := by decide +kernel
theorem dX9_comes_11 : decode cX9_comes 11 = .ok (.istore 5, 2) := by decide +kernel
theorem dX9_comes_13 : decode cX9_comes 13 = .ok (.iload 5, 2) := by decide +kernel
theorem dX9_comes_15 : decode cX9_comes 15 = .ok (.aload_n 0, 1) := by decide +kernel
theorem dX9_comes_16 : decode cX9_comes 16 = .ok (.getfield 40, 3) := by decide +kernel
theorem dX9_comes_19 : decode cX9_comes 19 = .ok (.iconst 2, 1) := by decide +kernel
theorem dX9_comes_20 : decode cX9_comes 20 = .ok (.iaload, 1) := by decide +kernel
theorem dX9_comes_21 : decode cX9_comes 21 = .ok (.if_icmp .ge 90, 3) := by decide +kernel
theorem dX9_comes_24 : decode cX9_comes 24 = .ok (.bipush 16, 2) := by decide +kernel
theorem dX9_comes_26 : decode cX9_comes 26 = .ok (.iconst 3, 1) := by decide +kernel
theorem dX9_comes_27 : decode cX9_comes 27 = .ok (.iload 5, 2) := by decide +kernel
theorem dX9_comes_29 : decode cX9_comes 29 = .ok (.imul, 1) := by decide +kernel
theorem dX9_comes_30 : decode cX9_comes 30 = .ok (.iadd, 1) := by decide +kernel
theorem dX9_comes_31 : decode cX9_comes 31 = .ok (.istore 6, 2) := by decide +kernel
theorem dX9_comes_33 : decode cX9_comes 33 = .ok (.aload_n 0, 1) := by decide +kernel
theorem dX9_comes_34 : decode cX9_comes 34 = .ok (.getfield 40, 3) := by decide +kernel
theorem dX9_comes_37 : decode cX9_comes 37 = .ok (.iload 6, 2) := by decide +kernel
theorem dX9_comes_39 : decode cX9_comes 39 = .ok (.iaload, 1) := by decide +kernel
theorem dX9_comes_40 : decode cX9_comes 40 = .ok (.aload_n 0, 1) := by decide +kernel
theorem dX9_comes_41 : decode cX9_comes 41 = .ok (.getfield 40, 3) := by decide +kernel
theorem dX9_comes_44 : decode cX9_comes 44 = .ok (.iconst 0, 1) := by decide +kernel
theorem dX9_comes_45 : decode cX9_comes 45 = .ok (.iaload, 1) := by decide +kernel
theorem dX9_comes_46 : decode cX9_comes 46 = .ok (.if_icmp .ne 59, 3) := by decide +kernel
theorem dX9_comes_49 : decode cX9_comes 49 = .ok (.aload_n 0, 1) := by decide +kernel
theorem dX9_comes_50 : decode cX9_comes 50 = .ok (.getfield 40, 3) := by decide +kernel
theorem dX9_comes_53 : decode cX9_comes 53 = .ok (.iconst 3, 1) := by decide +kernel
theorem dX9_comes_54 : decode cX9_comes 54 = .ok (.iaload, 1) := by decide +kernel
theorem dX9_comes_55 : decode cX9_comes 55 = .ok (.iload 5, 2) := by decide +kernel
theorem dX9_comes_57 : decode cX9_comes 57 = .ok (.invokestatic 136, 3) := by decide +kernel
theorem dX9_comes_60 : decode cX9_comes 60 = .ok (.ifCond .ne 45, 3) := by decide +kernel
theorem dX9_comes_63 : decode cX9_comes 63 = .ok (.iload_n 3, 1) := by decide +kernel
theorem dX9_comes_64 : decode cX9_comes 64 = .ok (.aload_n 0, 1) := by decide +kernel
theorem dX9_comes_65 : decode cX9_comes 65 = .ok (.iload_n 1, 1) := by decide +kernel
theorem dX9_comes_66 : decode cX9_comes 66 = .ok (.aload_n 0, 1) := by decide +kernel
theorem dX9_comes_67 : decode cX9_comes 67 = .ok (.getfield 40, 3) := by decide +kernel
theorem dX9_comes_70 : decode cX9_comes 70 = .ok (.iload 6, 2) := by decide +kernel
theorem dX9_comes_72 : decode cX9_comes 72 = .ok (.iconst 1, 1) := by decide +kernel
theorem dX9_comes_73 : decode cX9_comes 73 = .ok (.iadd, 1) := by decide +kernel
theorem dX9_comes_74 : decode cX9_comes 74 = .ok (.iaload, 1) := by decide +kernel
theorem dX9_comes_75 : decode cX9_comes 75 = .ok (.aload_n 0, 1) := by decide +kernel
theorem dX9_comes_76 : decode cX9_comes 76 = .ok (.getfield 40, 3) := by decide +kernel
theorem dX9_comes_79 : decode cX9_comes 79 = .ok (.iload 6, 2) := by decide +kernel
theorem dX9_comes_81 : decode cX9_comes 81 = .ok (.iconst 2, 1) := by decide +kernel
theorem dX9_comes_82 : decode cX9_comes 82 = .ok (.iadd, 1) := by decide +kernel
theorem dX9_comes_83 : decode cX9_comes 83 = .ok (.iaload, 1) := by decide +kernel
theorem dX9_comes_84 : decode cX9_comes 84 = .ok (.iload 4, 2) := by decide +kernel
theorem dX9_comes_86 : decode cX9_comes 86 = .ok (.invokevirtual 140, 3) := by decide +kernel
theorem dX9_comes_89 : decode cX9_comes 89 = .ok (.iadd, 1) := by decide +kernel
theorem dX9_comes_90 : decode cX9_comes 90 = .ok (.istore_n 3, 1) := by decide +kernel
theorem dX9_comes_91 : decode cX9_comes 91 = .ok (.iload 4, 2) := by decide +kernel
theorem dX9_comes_93 : decode cX9_comes 93 = .ok (.aload_n 0, 1) := by decide +kernel
theorem dX9_comes_94 : decode cX9_comes 94 = .ok (.getfield 40, 3) := by decide +kernel
theorem dX9_comes_97 : decode cX9_comes 97 = .ok (.iload 6, 2) := by decide +kernel
theorem dX9_comes_99 : decode cX9_comes 99 = .ok (.iconst 1, 1) := by decide +kernel
theorem dX9_comes_100 : decode cX9_comes 100 = .ok (.iadd, 1) := by decide +kernel
theorem dX9_comes_101 : decode cX9_comes 101 = .ok (.iaload, 1) := by decide +kernel
theorem dX9_comes_102 : decode cX9_comes 102 = .ok (.ior, 1) := by decide +kernel
theorem dX9_comes_103 : decode cX9_comes 103 = .ok (.istore 4, 2) := by decide +kernel
theorem dX9_comes_105 : decode cX9_comes 105 = .ok (.iinc 5 1, 3) := by decide +kernel
theorem dX9_comes_108 : decode cX9_comes 108 = .ok (.goto (-95), 3) := by decide +kernel
theorem dX9_comes_111 : decode cX9_comes 111 = .ok (.aload_n 0, 1) := by decide +kernel
theorem dX9_comes_112 : decode cX9_comes 112 = .ok (.getfield 130, 3) := by decide +kernel
theorem dX9_comes_115 : decode cX9_comes 115 = .ok (.ifCond .le 23, 3) := by decide +kernel
theorem dX9_comes_118 : decode cX9_comes 118 = .ok (.iload_n 3, 1) := by decide +kernel
theorem dX9_comes_119 : decode cX9_comes 119 = .ok (.aload_n 0, 1) := by decide +kernel
theorem dX9_comes_120 : decode cX9_comes 120 = .ok (.iload_n 1, 1) := by decide +kernel
theorem dX9_comes_121 : decode cX9_comes 121 = .ok (.aload_n 0, 1) := by decide +kernel
theorem dX9_comes_122 : decode cX9_comes 122 = .ok (.getfield 144, 3) := by decide +kernel
theorem dX9_comes_125 : decode cX9_comes 125 = .ok (.aload_n 0, 1) := by decide +kernel
theorem dX9_comes_126 : decode cX9_comes 126 = .ok (.getfield 130, 3) := by decide +kernel
theorem dX9_comes_129 : decode cX9_comes 129 = .ok (.iload 4, 2) := by decide +kernel
theorem dX9_comes_131 : decode cX9_comes 131 = .ok (.invokevirtual 140, 3) := by decide +kernel
theorem dX9_comes_134 : decode cX9_comes 134 = .ok (.iadd, 1) := by decide +kernel
theorem dX9_comes_135 : decode cX9_comes 135 = .ok (.goto 4, 3) := by decide +kernel
theorem dX9_comes_138 : decode cX9_comes 138 = .ok (.iload_n 3, 1) := by decide +kernel
theorem dX9_comes_139 : decode cX9_comes 139 = .ok (.ireturn, 1) := by decide +kernel
theorem dX9_isEnough_0 : decode cX9_isEnough 0 = .ok (.iload_n 2, 1) := by decide +kernel
theorem dX9_isEnough_1 : decode cX9_isEnough 1 = .ok (.aload_n 0, 1) := by decide +kernel
theorem dX9_isEnough_2 : decode cX9_isEnough 2 = .ok (.getfield 7, 3) := by decide +kernel
theorem dX9_isEnough_5 : decode cX9_isEnough 5 = .ok (.iconst 3, 1) := by decide +kernel
theorem dX9_isEnough_6 : decode cX9_isEnough 6 = .ok (.iload_n 1, 1) := by decide +kernel
theorem dX9_isEnough_7 : decode cX9_isEnough 7 = .ok (.imul, 1) := by decide +kernel
theorem dX9_isEnough_8 : decode cX9_isEnough 8 = .ok (.iconst 2, 1) := by decide +kernel
theorem dX9_isEnough_9 : decode cX9_isEnough 9 = .ok (.iadd, 1) := by decide +kernel
theorem dX9_isEnough_10 : decode cX9_isEnough 10 = .ok (.iaload, 1) := by decide +kernel
theorem dX9_isEnough_11 : decode cX9_isEnough 11 = .ok (.if_icmp .lt 7, 3) := by decide +kernel
theorem dX9_isEnough_14 : decode cX9_isEnough 14 = .ok (.iconst 1, 1) := by decide +kernel
theorem dX9_isEnough_15 : decode cX9_isEnough 15 = .ok (.goto 4, 3) := by decide +kernel
theorem dX9_isEnough_18 : decode cX9_isEnough 18 = .ok (.iconst 0, 1) := by decide +kernel
theorem dX9_isEnough_19 : decode cX9_isEnough 19 = .ok (.ireturn, 1) := by decide +kernel
theorem dX9_goes_0 : decode cX9_goes 0 = .ok (.aload_n 0, 1) := by decide +kernel
theorem dX9_goes_1 : decode cX9_goes 1 = .ok (.getfield 40, 3) := by decide +kernel
theorem dX9_goes_4 : decode cX9_goes 4 = .ok (.iconst 4, 1) := by decide +kernel
theorem dX9_goes_5 : decode cX9_goes 5 = .ok (.iaload, 1) := by decide +kernel
theorem dX9_goes_6 : decode cX9_goes 6 = .ok (.istore_n 1, 1) := by decide +kernel
theorem dX9_goes_7 : decode cX9_goes 7 = .ok (.aload_n 0, 1) := by decide +kernel
theorem dX9_goes_8 : decode cX9_goes 8 = .ok (.iload_n 1, 1) := by decide +kernel
theorem dX9_goes_9 : decode cX9_goes 9 = .ok (.aload_n 0, 1) := by decide +kernel
theorem dX9_goes_10 : decode cX9_goes 10 = .ok (.getfield 40, 3) := by decide +kernel
theorem dX9_goes_13 : decode cX9_goes 13 = .ok (.iconst 1, 1) := by decide +kernel
theorem dX9_goes_14 : decode cX9_goes 14 = .ok (.iaload, 1) := by decide +kernel
theorem dX9_goes_15 : decode cX9_goes 15 = .ok (.invokevirtual 147, 3) := by decide +kernel
theorem dX9_goes_18 : decode cX9_goes 18 = .ok (.istore_n 2, 1) := by decide +kernel
theorem dX9_goes_19 : decode cX9_goes 19 = .ok (.aload_n 0, 1) := by decide +kernel
theorem dX9_goes_20 : decode cX9_goes 20 = .ok (.iload_n 1, 1) := by decide +kernel
theorem dX9_goes_21 : decode cX9_goes 21 = .ok (.iload_n 2, 1) := by decide +kernel
theorem dX9_goes_22 : decode cX9_goes 22 = .ok (.invokevirtual 151, 3) := by decide +kernel
theorem dX9_goes_25 : decode cX9_goes 25 = .ok (.istore_n 3, 1) := by decide +kernel
theorem dX9_goes_26 : decode cX9_goes 26 = .ok (.aload_n 0, 1) := by decide +kernel
theorem dX9_goes_27 : decode cX9_goes 27 = .ok (.getfield 40, 3) := by decide +kernel
theorem dX9_goes_30 : decode cX9_goes 30 = .ok (.bipush 10, 2) := by decide +kernel
theorem dX9_goes_32 : decode cX9_goes 32 = .ok (.iload_n 1, 1) := by decide +kernel
theorem dX9_goes_33 : decode cX9_goes 33 = .ok (.iadd, 1) := by decide +kernel
theorem dX9_goes_34 : decode cX9_goes 34 = .ok (.dup2, 1) := by decide +kernel
theorem dX9_goes_35 : decode cX9_goes 35 = .ok (.iaload, 1) := by decide +kernel
theorem dX9_goes_36 : decode cX9_goes 36 = .ok (.iconst 1, 1) := by decide +kernel
theorem dX9_goes_37 : decode cX9_goes 37 = .ok (.iadd, 1) := by decide +kernel
theorem dX9_goes_38 : decode cX9_goes 38 = .ok (.iastore, 1) := by decide +kernel
theorem dX9_goes_39 : decode cX9_goes 39 = .ok (.aload_n 0, 1) := by decide +kernel
theorem dX9_goes_40 : decode cX9_goes 40 = .ok (.getfield 40, 3) := by decide +kernel
theorem dX9_goes_43 : decode cX9_goes 43 = .ok (.iconst 1, 1) := by decide +kernel
theorem dX9_goes_44 : decode cX9_goes 44 = .ok (.iload_n 3, 1) := by decide +kernel
theorem dX9_goes_45 : decode cX9_goes 45 = .ok (.ifCond .eq 7, 3) := by decide +kernel
theorem dX9_goes_48 : decode cX9_goes 48 = .ok (.iconst 0, 1) := by decide +kernel
theorem dX9_goes_49 : decode cX9_goes 49 = .ok (.goto 4, 3) := by decide +kernel
theorem dX9_goes_52 : decode cX9_goes 52 = .ok (.iload_n 2, 1) := by decide +kernel
theorem dX9_goes_53 : decode cX9_goes 53 = .ok (.iastore, 1) := by decide +kernel
theorem dX9_goes_54 : decode cX9_goes 54 = .ok (.aload_n 0, 1) := by decide +kernel
theorem dX9_goes_55 : decode cX9_goes 55 = .ok (.getfield 40, 3) := by decide +kernel
theorem dX9_goes_58 : decode cX9_goes 58 = .ok (.iconst 0, 1) := by decide +kernel
theorem dX9_goes_59 : decode cX9_goes 59 = .ok (.dup2, 1) := by decide +kernel
theorem dX9_goes_60 : decode cX9_goes 60 = .ok (.iaload, 1) := by decide +kernel
theorem dX9_goes_61 : decode cX9_goes 61 = .ok (.iconst 1, 1) := by decide +kernel
theorem dX9_goes_62 : decode cX9_goes 62 = .ok (.iadd, 1) := by decide +kernel
theorem dX9_goes_63 : decode cX9_goes 63 = .ok (.iastore, 1) := by decide +kernel
theorem dX9_goes_64 : decode cX9_goes 64 = .ok (.iload_n 3, 1) := by decide +kernel
theorem dX9_goes_65 : decode cX9_goes 65 = .ok (.ifCond .eq 55, 3) := by decide +kernel
theorem dX9_goes_68 : decode cX9_goes 68 = .ok (.iconst 1, 1) := by decide +kernel
theorem dX9_goes_69 : decode cX9_goes 69 = .ok (.istore 4, 2) := by decide +kernel
theorem dX9_goes_71 : decode cX9_goes 71 = .ok (.iload 4, 2) := by decide +kernel
theorem dX9_goes_73 : decode cX9_goes 73 = .ok (.aload_n 0, 1) := by decide +kernel
theorem dX9_goes_74 : decode cX9_goes 74 = .ok (.getfield 67, 3) := by decide +kernel
theorem dX9_goes_77 : decode cX9_goes 77 = .ok (.if_icmp .ge 29, 3) := by decide +kernel
theorem dX9_goes_80 : decode cX9_goes 80 = .ok (.aload_n 0, 1) := by decide +kernel
theorem dX9_goes_81 : decode cX9_goes 81 = .ok (.getfield 40, 3) := by decide +kernel
theorem dX9_goes_84 : decode cX9_goes 84 = .ok (.iconst 4, 1) := by decide +kernel
theorem dX9_goes_85 : decode cX9_goes 85 = .ok (.iload 4, 2) := by decide +kernel
theorem dX9_goes_87 : decode cX9_goes 87 = .ok (.iadd, 1) := by decide +kernel
theorem dX9_goes_88 : decode cX9_goes 88 = .ok (.iconst 1, 1) := by decide +kernel
theorem dX9_goes_89 : decode cX9_goes 89 = .ok (.isub, 1) := by decide +kernel
theorem dX9_goes_90 : decode cX9_goes 90 = .ok (.aload_n 0, 1) := by decide +kernel
theorem dX9_goes_91 : decode cX9_goes 91 = .ok (.getfield 40, 3) := by decide +kernel
theorem dX9_goes_94 : decode cX9_goes 94 = .ok (.iconst 4, 1) := by decide +kernel
theorem dX9_goes_95 : decode cX9_goes 95 = .ok (.iload 4, 2) := by decide +kernel
theorem dX9_goes_97 : decode cX9_goes 97 = .ok (.iadd, 1) := by decide +kernel
theorem dX9_goes_98 : decode cX9_goes 98 = .ok (.iaload, 1) := by decide +kernel
theorem dX9_goes_99 : decode cX9_goes 99 = .ok (.iastore, 1) := by decide +kernel
theorem dX9_goes_100 : decode cX9_goes 100 = .ok (.iinc 4 1, 3) := by decide +kernel
theorem dX9_goes_103 : decode cX9_goes 103 = .ok (.goto (-32), 3) := by decide +kernel
theorem dX9_goes_106 : decode cX9_goes 106 = .ok (.aload_n 0, 1) := by decide +kernel
theorem dX9_goes_107 : decode cX9_goes 107 = .ok (.getfield 40, 3) := by decide +kernel
theorem dX9_goes_110 : decode cX9_goes 110 = .ok (.iconst 4, 1) := by decide +kernel
theorem dX9_goes_111 : decode cX9_goes 111 = .ok (.aload_n 0, 1) := by decide +kernel
theorem dX9_goes_112 : decode cX9_goes 112 = .ok (.getfield 67, 3) := by decide +kernel
theorem dX9_goes_115 : decode cX9_goes 115 = .ok (.iadd, 1) := by decide +kernel
theorem dX9_goes_116 : decode cX9_goes 116 = .ok (.iconst 1, 1) := by decide +kernel
theorem dX9_goes_117 : decode cX9_goes 117 = .ok (.isub, 1) := by decide +kernel
theorem dX9_goes_118 : decode cX9_goes 118 = .ok (.iload_n 1, 1) := by decide +kernel
theorem dX9_goes_119 : decode cX9_goes 119 = .ok (.iastore, 1) := by decide +kernel
theorem dX9_goes_120 : decode cX9_goes 120 = .ok (.iload_n 3, 1) := by decide +kernel
theorem dX9_goes_121 : decode cX9_goes 121 = .ok (.ireturn, 1) := by decide +kernel
theorem dX9_goesOn_0 : decode cX9_goesOn 0 = .ok (.iconst 0, 1) := by decide +kernel
theorem dX9_goesOn_1 : decode cX9_goesOn 1 = .ok (.istore_n 2, 1) := by decide +kernel
theorem dX9_goesOn_2 : decode cX9_goesOn 2 = .ok (.iconst 0, 1) := by decide +kernel
theorem dX9_goesOn_3 : decode cX9_goesOn 3 = .ok (.istore_n 3, 1) := by decide +kernel
theorem dX9_goesOn_4 : decode cX9_goesOn 4 = .ok (.iload_n 3, 1) := by decide +kernel
theorem dX9_goesOn_5 : decode cX9_goesOn 5 = .ok (.iload_n 1, 1) := by decide +kernel
theorem dX9_goesOn_6 : decode cX9_goesOn 6 = .ok (.if_icmp .ge 24, 3) := by decide +kernel
theorem dX9_goesOn_9 : decode cX9_goesOn 9 = .ok (.iload_n 2, 1) := by decide +kernel
theorem dX9_goesOn_10 : decode cX9_goesOn 10 = .ok (.aload_n 0, 1) := by decide +kernel
theorem dX9_goesOn_11 : decode cX9_goesOn 11 = .ok (.invokevirtual 154, 3) := by decide +kernel
theorem dX9_goesOn_14 : decode cX9_goesOn 14 = .ok (.ifCond .eq 7, 3) := by decide +kernel
theorem dX9_goesOn_17 : decode cX9_goesOn 17 = .ok (.iconst 1, 1) := by decide +kernel
theorem dX9_goesOn_18 : decode cX9_goesOn 18 = .ok (.goto 4, 3) := by decide +kernel
theorem dX9_goesOn_21 : decode cX9_goesOn 21 = .ok (.iconst 0, 1) := by decide +kernel
theorem dX9_goesOn_22 : decode cX9_goesOn 22 = .ok (.iadd, 1) := by decide +kernel
theorem dX9_goesOn_23 : decode cX9_goesOn 23 = .ok (.istore_n 2, 1) := by decide +kernel
theorem dX9_goesOn_24 : decode cX9_goesOn 24 = .ok (.iinc 3 1, 3) := by decide +kernel
theorem dX9_goesOn_27 : decode cX9_goesOn 27 = .ok (.goto (-23), 3) := by decide +kernel
theorem dX9_goesOn_30 : decode cX9_goesOn 30 = .ok (.iload_n 2, 1) := by decide +kernel
theorem dX9_goesOn_31 : decode cX9_goesOn 31 = .ok (.ireturn, 1) := by decide +kernel
theorem dX9_person_0 : decode cX9_person 0 = .ok (.aload_n 0, 1) := by decide +kernel
theorem dX9_person_1 : decode cX9_person 1 = .ok (.iload_n 1, 1) := by decide +kernel
theorem dX9_person_2 : decode cX9_person 2 = .ok (.invokevirtual 157, 3) := by decide +kernel
theorem dX9_person_5 : decode cX9_person 5 = .ok (.ifCond .eq 12, 3) := by decide +kernel
theorem dX9_person_8 : decode cX9_person 8 = .ok (.iload_n 2, 1) := by decide +kernel
theorem dX9_person_9 : decode cX9_person 9 = .ok (.iconst 0, 1) := by decide +kernel
theorem dX9_person_10 : decode cX9_person 10 = .ok (.iconst 4, 1) := by decide +kernel
theorem dX9_person_11 : decode cX9_person 11 = .ok (.invokestatic 70, 3) := by decide +kernel
theorem dX9_person_14 : decode cX9_person 14 = .ok (.ifCond .ne 5, 3) := by decide +kernel
theorem dX9_person_17 : decode cX9_person 17 = .ok (.iconst (-1), 1) := by decide +kernel
theorem dX9_person_18 : decode cX9_person 18 = .ok (.ireturn, 1) := by decide +kernel
theorem dX9_person_19 : decode cX9_person 19 = .ok (.iload_n 2, 1) := by decide +kernel
theorem dX9_person_20 : decode cX9_person 20 = .ok (.iconst 3, 1) := by decide +kernel
theorem dX9_person_21 : decode cX9_person 21 = .ok (.if_icmp .ge 14, 3) := by decide +kernel
theorem dX9_person_24 : decode cX9_person 24 = .ok (.aload_n 0, 1) := by decide +kernel
theorem dX9_person_25 : decode cX9_person 25 = .ok (.getfield 7, 3) := by decide +kernel
theorem dX9_person_28 : decode cX9_person 28 = .ok (.iconst 3, 1) := by decide +kernel
theorem dX9_person_29 : decode cX9_person 29 = .ok (.iload_n 1, 1) := by decide +kernel
theorem dX9_person_30 : decode cX9_person 30 = .ok (.imul, 1) := by decide +kernel
theorem dX9_person_31 : decode cX9_person 31 = .ok (.iload_n 2, 1) := by decide +kernel
theorem dX9_person_32 : decode cX9_person 32 = .ok (.iadd, 1) := by decide +kernel
theorem dX9_person_33 : decode cX9_person 33 = .ok (.iaload, 1) := by decide +kernel
theorem dX9_person_34 : decode cX9_person 34 = .ok (.ireturn, 1) := by decide +kernel
theorem dX9_person_35 : decode cX9_person 35 = .ok (.iconst 0, 1) := by decide +kernel
theorem dX9_person_36 : decode cX9_person 36 = .ok (.istore_n 3, 1) := by decide +kernel
theorem dX9_person_37 : decode cX9_person 37 = .ok (.aload_n 0, 1) := by decide +kernel
theorem dX9_person_38 : decode cX9_person 38 = .ok (.getfield 13, 3) := by decide +kernel
theorem dX9_person_41 : decode cX9_person 41 = .ok (.iconst 4, 1) := by decide +kernel
theorem dX9_person_42 : decode cX9_person 42 = .ok (.iload_n 3, 1) := by decide +kernel
theorem dX9_person_43 : decode cX9_person 43 = .ok (.iadd, 1) := by decide +kernel
theorem dX9_person_44 : decode cX9_person 44 = .ok (.iaload, 1) := by decide +kernel
theorem dX9_person_45 : decode cX9_person 45 = .ok (.iload_n 1, 1) := by decide +kernel
theorem dX9_person_46 : decode cX9_person 46 = .ok (.if_icmp .eq 9, 3) := by decide +kernel
theorem dX9_person_49 : decode cX9_person 49 = .ok (.iinc 3 1, 3) := by decide +kernel
theorem dX9_person_52 : decode cX9_person 52 = .ok (.goto (-15), 3) := by decide +kernel
theorem dX9_person_55 : decode cX9_person 55 = .ok (.iload_n 2, 1) := by decide +kernel
theorem dX9_person_56 : decode cX9_person 56 = .ok (.iconst 3, 1) := by decide +kernel
theorem dX9_person_57 : decode cX9_person 57 = .ok (.if_icmp .ne 7, 3) := by decide +kernel
theorem dX9_person_60 : decode cX9_person 60 = .ok (.iload_n 3, 1) := by decide +kernel
theorem dX9_person_61 : decode cX9_person 61 = .ok (.goto 12, 3) := by decide +kernel
theorem dX9_person_64 : decode cX9_person 64 = .ok (.aload_n 0, 1) := by decide +kernel
theorem dX9_person_65 : decode cX9_person 65 = .ok (.getfield 13, 3) := by decide +kernel
theorem dX9_person_68 : decode cX9_person 68 = .ok (.bipush 10, 2) := by decide +kernel
theorem dX9_person_70 : decode cX9_person 70 = .ok (.iload_n 1, 1) := by decide +kernel
theorem dX9_person_71 : decode cX9_person 71 = .ok (.iadd, 1) := by decide +kernel
theorem dX9_person_72 : decode cX9_person 72 = .ok (.iaload, 1) := by decide +kernel
theorem dX9_person_73 : decode cX9_person 73 = .ok (.ireturn, 1) := by decide +kernel
theorem dX9_thing_0 : decode cX9_thing 0 = .ok (.aload_n 0, 1) := by decide +kernel
theorem dX9_thing_1 : decode cX9_thing 1 = .ok (.iload_n 1, 1) := by decide +kernel
theorem dX9_thing_2 : decode cX9_thing 2 = .ok (.invokevirtual 160, 3) := by decide +kernel
theorem dX9_thing_5 : decode cX9_thing 5 = .ok (.ifCond .eq 12, 3) := by decide +kernel
theorem dX9_thing_8 : decode cX9_thing 8 = .ok (.iload_n 2, 1) := by decide +kernel
theorem dX9_thing_9 : decode cX9_thing 9 = .ok (.iconst 0, 1) := by decide +kernel
theorem dX9_thing_10 : decode cX9_thing 10 = .ok (.iconst 3, 1) := by decide +kernel
theorem dX9_thing_11 : decode cX9_thing 11 = .ok (.invokestatic 70, 3) := by decide +kernel
theorem dX9_thing_14 : decode cX9_thing 14 = .ok (.ifCond .ne 5, 3) := by decide +kernel
theorem dX9_thing_17 : decode cX9_thing 17 = .ok (.iconst (-1), 1) := by decide +kernel
theorem dX9_thing_18 : decode cX9_thing 18 = .ok (.ireturn, 1) := by decide +kernel
theorem dX9_thing_19 : decode cX9_thing 19 = .ok (.iload_n 2, 1) := by decide +kernel
theorem dX9_thing_20 : decode cX9_thing 20 = .ok (.iconst 3, 1) := by decide +kernel
theorem dX9_thing_21 : decode cX9_thing 21 = .ok (.if_icmp .ne 16, 3) := by decide +kernel
theorem dX9_thing_24 : decode cX9_thing 24 = .ok (.aload_n 0, 1) := by decide +kernel
theorem dX9_thing_25 : decode cX9_thing 25 = .ok (.getfield 13, 3) := by decide +kernel
theorem dX9_thing_28 : decode cX9_thing 28 = .ok (.iconst 3, 1) := by decide +kernel
theorem dX9_thing_29 : decode cX9_thing 29 = .ok (.iaload, 1) := by decide +kernel
theorem dX9_thing_30 : decode cX9_thing 30 = .ok (.iload_n 1, 1) := by decide +kernel
theorem dX9_thing_31 : decode cX9_thing 31 = .ok (.ishr, 1) := by decide +kernel
theorem dX9_thing_32 : decode cX9_thing 32 = .ok (.iconst 1, 1) := by decide +kernel
theorem dX9_thing_33 : decode cX9_thing 33 = .ok (.iand, 1) := by decide +kernel
theorem dX9_thing_34 : decode cX9_thing 34 = .ok (.goto 16, 3) := by decide +kernel
theorem dX9_thing_37 : decode cX9_thing 37 = .ok (.aload_n 0, 1) := by decide +kernel
theorem dX9_thing_38 : decode cX9_thing 38 = .ok (.getfield 13, 3) := by decide +kernel
theorem dX9_thing_41 : decode cX9_thing 41 = .ok (.bipush 16, 2) := by decide +kernel
theorem dX9_thing_43 : decode cX9_thing 43 = .ok (.iconst 3, 1) := by decide +kernel
theorem dX9_thing_44 : decode cX9_thing 44 = .ok (.iload_n 1, 1) := by decide +kernel
theorem dX9_thing_45 : decode cX9_thing 45 = .ok (.imul, 1) := by decide +kernel
theorem dX9_thing_46 : decode cX9_thing 46 = .ok (.iadd, 1) := by decide +kernel
theorem dX9_thing_47 : decode cX9_thing 47 = .ok (.iload_n 2, 1) := by decide +kernel
theorem dX9_thing_48 : decode cX9_thing 48 = .ok (.iadd, 1) := by decide +kernel
theorem dX9_thing_49 : decode cX9_thing 49 = .ok (.iaload, 1) := by decide +kernel
theorem dX9_thing_50 : decode cX9_thing 50 = .ok (.ireturn, 1) := by decide +kernel
theorem dX9_remembers_0 : decode cX9_remembers 0 = .ok (.aload_n 0, 1) := by decide +kernel
theorem dX9_remembers_1 : decode cX9_remembers 1 = .ok (.getfield 121, 3) := by decide +kernel
theorem dX9_remembers_4 : decode cX9_remembers 4 = .ok (.bipush 8, 2) := by decide +kernel
theorem dX9_remembers_6 : decode cX9_remembers 6 = .ok (.if_icmp .ne 43, 3) := by decide +kernel
theorem dX9_remembers_9 : decode cX9_remembers 9 = .ok (.iconst 0, 1) := by decide +kernel
theorem dX9_remembers_10 : decode cX9_remembers 10 = .ok (.istore_n 1, 1) := by decide +kernel
theorem dX9_remembers_11 : decode cX9_remembers 11 = .ok (.iload_n 1, 1) := by decide +kernel
theorem dX9_remembers_12 : decode cX9_remembers 12 = .ok (.sipush 322, 3) := by decide +kernel
theorem dX9_remembers_15 : decode cX9_remembers 15 = .ok (.if_icmp .ge 24, 3) := by decide +kernel
theorem dX9_remembers_18 : decode cX9_remembers 18 = .ok (.aload_n 0, 1) := by decide +kernel
theorem dX9_remembers_19 : decode cX9_remembers 19 = .ok (.getfield 19, 3) := by decide +kernel
theorem dX9_remembers_22 : decode cX9_remembers 22 = .ok (.iload_n 1, 1) := by decide +kernel
theorem dX9_remembers_23 : decode cX9_remembers 23 = .ok (.aload_n 0, 1) := by decide +kernel
theorem dX9_remembers_24 : decode cX9_remembers 24 = .ok (.getfield 19, 3) := by decide +kernel
theorem dX9_remembers_27 : decode cX9_remembers 27 = .ok (.iload_n 1, 1) := by decide +kernel
theorem dX9_remembers_28 : decode cX9_remembers 28 = .ok (.bipush 46, 2) := by decide +kernel
theorem dX9_remembers_30 : decode cX9_remembers 30 = .ok (.iadd, 1) := by decide +kernel
theorem dX9_remembers_31 : decode cX9_remembers 31 = .ok (.iaload, 1) := by decide +kernel
theorem dX9_remembers_32 : decode cX9_remembers 32 = .ok (.iastore, 1) := by decide +kernel
theorem dX9_remembers_33 : decode cX9_remembers 33 = .ok (.iinc 1 1, 3) := by decide +kernel
theorem dX9_remembers_36 : decode cX9_remembers 36 = .ok (.goto (-25), 3) := by decide +kernel
theorem dX9_remembers_39 : decode cX9_remembers 39 = .ok (.aload_n 0, 1) := by decide +kernel
theorem dX9_remembers_40 : decode cX9_remembers 40 = .ok (.dup, 1) := by decide +kernel
theorem dX9_remembers_41 : decode cX9_remembers 41 = .ok (.getfield 121, 3) := by decide +kernel
theorem dX9_remembers_44 : decode cX9_remembers 44 = .ok (.iconst 1, 1) := by decide +kernel
theorem dX9_remembers_45 : decode cX9_remembers 45 = .ok (.isub, 1) := by decide +kernel
theorem dX9_remembers_46 : decode cX9_remembers 46 = .ok (.putfield 121, 3) := by decide +kernel
theorem dX9_remembers_49 : decode cX9_remembers 49 = .ok (.aload_n 0, 1) := by decide +kernel
theorem dX9_remembers_50 : decode cX9_remembers 50 = .ok (.getfield 19, 3) := by decide +kernel
theorem dX9_remembers_53 : decode cX9_remembers 53 = .ok (.bipush 46, 2) := by decide +kernel
theorem dX9_remembers_55 : decode cX9_remembers 55 = .ok (.aload_n 0, 1) := by decide +kernel
theorem dX9_remembers_56 : decode cX9_remembers 56 = .ok (.getfield 121, 3) := by decide +kernel
theorem dX9_remembers_59 : decode cX9_remembers 59 = .ok (.imul, 1) := by decide +kernel
theorem dX9_remembers_60 : decode cX9_remembers 60 = .ok (.aload_n 0, 1) := by decide +kernel
theorem dX9_remembers_61 : decode cX9_remembers 61 = .ok (.getfield 13, 3) := by decide +kernel
theorem dX9_remembers_64 : decode cX9_remembers 64 = .ok (.bipush 46, 2) := by decide +kernel
theorem dX9_remembers_66 : decode cX9_remembers 66 = .ok (.invokestatic 117, 3) := by decide +kernel
theorem dX9_remembers_69 : decode cX9_remembers 69 = .ok (.aload_n 0, 1) := by decide +kernel
theorem dX9_remembers_70 : decode cX9_remembers 70 = .ok (.dup, 1) := by decide +kernel
theorem dX9_remembers_71 : decode cX9_remembers 71 = .ok (.getfield 121, 3) := by decide +kernel
theorem dX9_remembers_74 : decode cX9_remembers 74 = .ok (.iconst 1, 1) := by decide +kernel
theorem dX9_remembers_75 : decode cX9_remembers 75 = .ok (.iadd, 1) := by decide +kernel
theorem dX9_remembers_76 : decode cX9_remembers 76 = .ok (.putfield 121, 3) := by decide +kernel
theorem dX9_remembers_79 : decode cX9_remembers 79 = .ok (.return_, 1) := by decide +kernel
theorem dX9_pass_0 : decode cX9_pass 0 = .ok (.iload_n 1, 1) := by decide +kernel
theorem dX9_pass_1 : decode cX9_pass 1 = .ok (.iconst 1, 1) := by decide +kernel
theorem dX9_pass_2 : decode cX9_pass 2 = .ok (.bipush 20, 2) := by decide +kernel
theorem dX9_pass_4 : decode cX9_pass 4 = .ok (.invokestatic 70, 3) := by decide +kernel
theorem dX9_pass_7 : decode cX9_pass 7 = .ok (.ifCond .ne 5, 3) := by decide +kernel
theorem dX9_pass_10 : decode cX9_pass 10 = .ok (.iconst (-1), 1) := by decide +kernel
theorem dX9_pass_11 : decode cX9_pass 11 = .ok (.ireturn, 1) := by decide +kernel
theorem dX9_pass_12 : decode cX9_pass 12 = .ok (.aload_n 0, 1) := by decide +kernel
theorem dX9_pass_13 : decode cX9_pass 13 = .ok (.getfield 13, 3) := by decide +kernel
theorem dX9_pass_16 : decode cX9_pass 16 = .ok (.iconst 0, 1) := by decide +kernel
theorem dX9_pass_17 : decode cX9_pass 17 = .ok (.iaload, 1) := by decide +kernel
theorem dX9_pass_18 : decode cX9_pass 18 = .ok (.iload_n 1, 1) := by decide +kernel
theorem dX9_pass_19 : decode cX9_pass 19 = .ok (.iadd, 1) := by decide +kernel
theorem dX9_pass_20 : decode cX9_pass 20 = .ok (.sipush 999, 3) := by decide +kernel
theorem dX9_pass_23 : decode cX9_pass 23 = .ok (.if_icmp .le 6, 3) := by decide +kernel
theorem dX9_pass_26 : decode cX9_pass 26 = .ok (.bipush (-2), 2) := by decide +kernel
theorem dX9_pass_28 : decode cX9_pass 28 = .ok (.ireturn, 1) := by decide +kernel
theorem dX9_pass_29 : decode cX9_pass 29 = .ok (.aload_n 0, 1) := by decide +kernel
theorem dX9_pass_30 : decode cX9_pass 30 = .ok (.invokevirtual 163, 3) := by decide +kernel
theorem dX9_pass_33 : decode cX9_pass 33 = .ok (.aload_n 0, 1) := by decide +kernel
theorem dX9_pass_34 : decode cX9_pass 34 = .ok (.aload_n 0, 1) := by decide +kernel
theorem dX9_pass_35 : decode cX9_pass 35 = .ok (.getfield 13, 3) := by decide +kernel
theorem dX9_pass_38 : decode cX9_pass 38 = .ok (.invokevirtual 166, 3) := by decide +kernel
theorem dX9_pass_41 : decode cX9_pass 41 = .ok (.aload_n 0, 1) := by decide +kernel
theorem dX9_pass_42 : decode cX9_pass 42 = .ok (.iload_n 1, 1) := by decide +kernel
theorem dX9_pass_43 : decode cX9_pass 43 = .ok (.invokevirtual 170, 3) := by decide +kernel
theorem dX9_pass_46 : decode cX9_pass 46 = .ok (.istore_n 2, 1) := by decide +kernel
theorem dX9_pass_47 : decode cX9_pass 47 = .ok (.aload_n 0, 1) := by decide +kernel
