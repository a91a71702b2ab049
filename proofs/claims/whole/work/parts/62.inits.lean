theorem iw_46 : inT (.initialized RX4) := inT_of 46 (by decide +kernel) (by decide +kernel)
theorem iw_47 : inT (.initialized RX0) := inT_of 47 (by decide +kernel) (by decide +kernel)
theorem iw_48 : inT (.initialized RX7) := inT_of 48 (by decide +kernel) (by decide +kernel)
theorem iw_49 : inT (.initialized RX1) := inT_of 49 (by decide +kernel) (by decide +kernel)
theorem iw_50 : inT (.initialized RX5) := inT_of 50 (by decide +kernel) (by decide +kernel)
theorem iw_51 : inT (.initialized "java/lang/Math") := inT_of 51 (by decide +kernel) (by decide +kernel)
theorem iw_52 : inT (.initialized RX6) := inT_of 52 (by decide +kernel) (by decide +kernel)
theorem iw_53 : inT (.initialized RX2) := inT_of 53 (by decide +kernel) (by decide +kernel)
theorem iw_54 : inT (.initialized RX3) := inT_of 54 (by decide +kernel) (by decide +kernel)
theorem iw_68 : inT (.methodLink RX8 1 objectInit) := inT_of 68 (by decide +kernel) (by decide +kernel)
theorem iw_69 : inT (.instanceMethod objectInit) := inT_of 69 (by decide +kernel) (by decide +kernel)
theorem iw_70 : inT (.code objectInit ⟨#[0xb1]⟩ 1 none) := inT_of 70 (by decide +kernel) (by decide +kernel)
theorem iw_71 : inT (.classLink RX8 7 RX4) := inT_of 71 (by decide +kernel) (by decide +kernel)
theorem iw_72 : inT (.instantiable RX4 2) := inT_of 72 (by decide +kernel) (by decide +kernel)
theorem iw_74 : inT (.instanceMethod yX4_init) := inT_of 74 (by decide +kernel) (by decide +kernel)
theorem iw_75 : inT (.code yX4_init cX4_init 1 none) := inT_of 75 (by decide +kernel) (by decide +kernel)
theorem iw_76 : inT (.methodLink RX4 3 objectInit) := inT_of 76 (by decide +kernel) (by decide +kernel)
theorem iw_86 : inT (.arrayClass .int) := inT_of 86 (by decide +kernel) (by decide +kernel)
theorem iw_87 : inT (.classLink RX8 16 RX0) := inT_of 87 (by decide +kernel) (by decide +kernel)
theorem iw_88 : inT (.instantiable RX0 7) := inT_of 88 (by decide +kernel) (by decide +kernel)
theorem iw_90 : inT (.instanceMethod yX0_init) := inT_of 90 (by decide +kernel) (by decide +kernel)
theorem iw_91 : inT (.code yX0_init cX0_init 1 none) := inT_of 91 (by decide +kernel) (by decide +kernel)
theorem iw_92 : inT (.methodLink RX0 3 objectInit) := inT_of 92 (by decide +kernel) (by decide +kernel)
theorem iw_93 : inT (.classLink RX0 21 RX7) := inT_of 93 (by decide +kernel) (by decide +kernel)
theorem iw_94 : inT (.instantiable RX7 4) := inT_of 94 (by decide +kernel) (by decide +kernel)
theorem iw_96 : inT (.instanceMethod yX7_init) := inT_of 96 (by decide +kernel) (by decide +kernel)
theorem iw_97 : inT (.code yX7_init cX7_init 1 none) := inT_of 97 (by decide +kernel) (by decide +kernel)
theorem iw_98 : inT (.methodLink RX7 3 objectInit) := inT_of 98 (by decide +kernel) (by decide +kernel)
theorem iw_153 : inT (.classLink RX8 26 RX1) := inT_of 153 (by decide +kernel) (by decide +kernel)
theorem iw_154 : inT (.instantiable RX1 6) := inT_of 154 (by decide +kernel) (by decide +kernel)
theorem iw_156 : inT (.instanceMethod yX1_init) := inT_of 156 (by decide +kernel) (by decide +kernel)
theorem iw_157 : inT (.code yX1_init cX1_init 1 none) := inT_of 157 (by decide +kernel) (by decide +kernel)
theorem iw_158 : inT (.methodLink RX1 3 objectInit) := inT_of 158 (by decide +kernel) (by decide +kernel)
theorem iw_159 : inT (.classLink RX1 15 RX7) := inT_of 159 (by decide +kernel) (by decide +kernel)
theorem iw_188 : inT (.classLink RX8 33 RX5) := inT_of 188 (by decide +kernel) (by decide +kernel)
theorem iw_189 : inT (.instantiable RX5 3) := inT_of 189 (by decide +kernel) (by decide +kernel)
theorem iw_191 : inT (.instanceMethod yX5_init) := inT_of 191 (by decide +kernel) (by decide +kernel)
theorem iw_192 : inT (.code yX5_init cX5_init 3 none) := inT_of 192 (by decide +kernel) (by decide +kernel)
theorem iw_193 : inT (.methodLink RX5 1 objectInit) := inT_of 193 (by decide +kernel) (by decide +kernel)
theorem iw_194 : inT (.methodLink RX5 7 Lib.Math.max.name) := inT_of 194 (by decide +kernel) (by decide +kernel)
theorem iw_195 : inT (.static Lib.Math.max.name) := inT_of 195 (by decide +kernel) (by decide +kernel)
theorem iw_196 : inT (.code Lib.Math.max.name Lib.Math.max.code 2 (some .int)) := inT_of 196 (by decide +kernel) (by decide +kernel)
theorem iw_197 : inT (.classLink RX5 13 RX1) := inT_of 197 (by decide +kernel) (by decide +kernel)
theorem iw_211 : inT (.classLink RX8 45 RX6) := inT_of 211 (by decide +kernel) (by decide +kernel)
theorem iw_212 : inT (.instantiable RX6 3) := inT_of 212 (by decide +kernel) (by decide +kernel)
theorem iw_214 : inT (.instanceMethod yX6_init) := inT_of 214 (by decide +kernel) (by decide +kernel)
theorem iw_215 : inT (.code yX6_init cX6_init 1 none) := inT_of 215 (by decide +kernel) (by decide +kernel)
theorem iw_216 : inT (.methodLink RX6 3 objectInit) := inT_of 216 (by decide +kernel) (by decide +kernel)
theorem iw_228 : inT (.classLink RX8 52 RX2) := inT_of 228 (by decide +kernel) (by decide +kernel)
theorem iw_229 : inT (.instantiable RX2 7) := inT_of 229 (by decide +kernel) (by decide +kernel)
theorem iw_231 : inT (.instanceMethod yX2_init) := inT_of 231 (by decide +kernel) (by decide +kernel)
theorem iw_232 : inT (.code yX2_init cX2_init 2 none) := inT_of 232 (by decide +kernel) (by decide +kernel)
theorem iw_233 : inT (.methodLink RX2 3 objectInit) := inT_of 233 (by decide +kernel) (by decide +kernel)
theorem iw_256 : inT (.classLink RX8 61 RX3) := inT_of 256 (by decide +kernel) (by decide +kernel)
theorem iw_257 : inT (.instantiable RX3 5) := inT_of 257 (by decide +kernel) (by decide +kernel)
theorem iw_259 : inT (.instanceMethod yX3_init) := inT_of 259 (by decide +kernel) (by decide +kernel)
theorem iw_260 : inT (.code yX3_init cX3_init 3 none) := inT_of 260 (by decide +kernel) (by decide +kernel)
theorem iw_261 : inT (.methodLink RX3 3 objectInit) := inT_of 261 (by decide +kernel) (by decide +kernel)
theorem iw_785 : inT (.methodLink RX9 1 objectInit) := inT_of 785 (by decide +kernel) (by decide +kernel)
theorem fo_X7_9 : FLo RX7 9 7 0 true (.array .int) := ⟨_, _, _, tyX7, rfl, Nat.le_of_ble_eq_true rfl, iuX7, tyX7_ok, nmX7, ⟨inT_of 99 (by decide +kernel) (by decide +kernel), rfl⟩, rfl, by decide +kernel⟩
theorem fo_X7_15 : FLo RX7 15 7 1 true (.array .int) := ⟨_, _, _, tyX7, rfl, Nat.le_of_ble_eq_true rfl, iuX7, tyX7_ok, nmX7, ⟨inT_of 102 (by decide +kernel) (by decide +kernel), rfl⟩, rfl, by decide +kernel⟩
theorem fo_X7_18 : FLo RX7 18 7 2 true (.array .int) := ⟨_, _, _, tyX7, rfl, Nat.le_of_ble_eq_true rfl, iuX7, tyX7_ok, nmX7, ⟨inT_of 105 (by decide +kernel) (by decide +kernel), rfl⟩, rfl, by decide +kernel⟩
theorem fo_X0_9 : FLo RX0 9 0 0 true (.array .int) := ⟨_, _, _, tyX0, rfl, Nat.le_of_ble_eq_true rfl, iuX0, tyX0_ok, nmX0, ⟨inT_of 120 (by decide +kernel) (by decide +kernel), rfl⟩, rfl, by decide +kernel⟩
theorem fo_X0_15 : FLo RX0 15 0 1 true (.array .int) := ⟨_, _, _, tyX0, rfl, Nat.le_of_ble_eq_true rfl, iuX0, tyX0_ok, nmX0, ⟨inT_of 123 (by decide +kernel) (by decide +kernel), rfl⟩, rfl, by decide +kernel⟩
theorem fo_X0_18 : FLo RX0 18 0 2 true (.array .int) := ⟨_, _, _, tyX0, rfl, Nat.le_of_ble_eq_true rfl, iuX0, tyX0_ok, nmX0, ⟨inT_of 126 (by decide +kernel) (by decide +kernel), rfl⟩, rfl, by decide +kernel⟩
theorem fo_X0_24 : FLo RX0 24 0 4 true (.object "BoredKings$Things") := ⟨_, _, _, tyX0, rfl, Nat.le_of_ble_eq_true rfl, iuX0, tyX0_ok, nmX0, ⟨inT_of 132 (by decide +kernel) (by decide +kernel), rfl⟩, rfl, by decide +kernel⟩
theorem fo_X0_28 : FLo RX0 28 0 5 false .int := ⟨_, _, _, tyX0, rfl, Nat.le_of_ble_eq_true rfl, iuX0, tyX0_ok, nmX0, ⟨inT_of 135 (by decide +kernel) (by decide +kernel), rfl⟩, rfl, by decide +kernel⟩
theorem fo_X0_32 : FLo RX0 32 0 6 true (.array .int) := ⟨_, _, _, tyX0, rfl, Nat.le_of_ble_eq_true rfl, iuX0, tyX0_ok, nmX0, ⟨inT_of 137 (by decide +kernel) (by decide +kernel), rfl⟩, rfl, by decide +kernel⟩
theorem fo_X1_9 : FLo RX1 9 1 4 true (.array .int) := ⟨_, _, _, tyX1, rfl, Nat.le_of_ble_eq_true rfl, iuX1, tyX1_ok, nmX1, ⟨inT_of 171 (by decide +kernel) (by decide +kernel), rfl⟩, rfl, by decide +kernel⟩
theorem fo_X1_18 : FLo RX1 18 1 5 true (.object "BoredKings$Things") := ⟨_, _, _, tyX1, rfl, Nat.le_of_ble_eq_true rfl, iuX1, tyX1_ok, nmX1, ⟨inT_of 173 (by decide +kernel) (by decide +kernel), rfl⟩, rfl, by decide +kernel⟩
theorem fo_X4_9 : FLo RX4 9 4 0 true (.array .int) := ⟨_, _, _, tyX4, rfl, Nat.le_of_ble_eq_true rfl, iuX4, tyX4_ok, nmX4, ⟨inT_of 77 (by decide +kernel) (by decide +kernel), rfl⟩, rfl, by decide +kernel⟩
theorem fo_X6_9 : FLo RX6 9 6 0 true (.array .int) := ⟨_, _, _, tyX6, rfl, Nat.le_of_ble_eq_true rfl, iuX6, tyX6_ok, nmX6, ⟨inT_of 217 (by decide +kernel) (by decide +kernel), rfl⟩, rfl, by decide +kernel⟩
theorem fo_X6_15 : FLo RX6 15 6 1 true (.array .int) := ⟨_, _, _, tyX6, rfl, Nat.le_of_ble_eq_true rfl, iuX6, tyX6_ok, nmX6, ⟨inT_of 218 (by decide +kernel) (by decide +kernel), rfl⟩, rfl, by decide +kernel⟩
theorem fo_X2_9 : FLo RX2 9 2 4 true (.array .int) := ⟨_, _, _, tyX2, rfl, Nat.le_of_ble_eq_true rfl, iuX2, tyX2_ok, nmX2, ⟨inT_of 238 (by decide +kernel) (by decide +kernel), rfl⟩, rfl, by decide +kernel⟩
theorem fo_X2_15 : FLo RX2 15 2 5 true (.array .int) := ⟨_, _, _, tyX2, rfl, Nat.le_of_ble_eq_true rfl, iuX2, tyX2_ok, nmX2, ⟨inT_of 239 (by decide +kernel) (by decide +kernel), rfl⟩, rfl, by decide +kernel⟩
theorem fo_X2_18 : FLo RX2 18 2 6 true (.array .int) := ⟨_, _, _, tyX2, rfl, Nat.le_of_ble_eq_true rfl, iuX2, tyX2_ok, nmX2, ⟨inT_of 240 (by decide +kernel) (by decide +kernel), rfl⟩, rfl, by decide +kernel⟩
theorem fo_X2_21 : FLo RX2 21 2 0 true (.object "BoredKings$Court") := ⟨_, _, _, tyX2, rfl, Nat.le_of_ble_eq_true rfl, iuX2, tyX2_ok, nmX2, ⟨inT_of 234 (by decide +kernel) (by decide +kernel), rfl⟩, rfl, by decide +kernel⟩
theorem fo_X3_9 : FLo RX3 9 3 2 true (.array .int) := ⟨_, _, _, tyX3, rfl, Nat.le_of_ble_eq_true rfl, iuX3, tyX3_ok, nmX3, ⟨inT_of 264 (by decide +kernel) (by decide +kernel), rfl⟩, rfl, by decide +kernel⟩
theorem fo_X3_15 : FLo RX3 15 3 0 true (.object "BoredKings$Court") := ⟨_, _, _, tyX3, rfl, Nat.le_of_ble_eq_true rfl, iuX3, tyX3_ok, nmX3, ⟨inT_of 262 (by decide +kernel) (by decide +kernel), rfl⟩, rfl, by decide +kernel⟩
theorem fo_X3_19 : FLo RX3 19 3 1 true (.object "BoredKings$Outlook") := ⟨_, _, _, tyX3, rfl, Nat.le_of_ble_eq_true rfl, iuX3, tyX3_ok, nmX3, ⟨inT_of 263 (by decide +kernel) (by decide +kernel), rfl⟩, rfl, by decide +kernel⟩
theorem fo_X5_15 : FLo RX5 15 5 0 true (.array (.object "BoredKings$Moment")) := ⟨_, _, _, tyX5, rfl, Nat.le_of_ble_eq_true rfl, iuX5, tyX5_ok, nmX5, ⟨inT_of 200 (by decide +kernel) (by decide +kernel), rfl⟩, rfl, by decide +kernel⟩
theorem fo_X8_10 : FLo RX8 10 8 0 true (.object "BoredKings$Script") := ⟨_, _, _, tyX8, rfl, Nat.le_of_ble_eq_true rfl, iuX8, tyX8_ok, nmX8, ⟨inT_of 407 (by decide +kernel) (by decide +kernel), rfl⟩, rfl, by decide +kernel⟩
theorem fo_X8_19 : FLo RX8 19 8 1 true (.object "BoredKings$Court") := ⟨_, _, _, tyX8, rfl, Nat.le_of_ble_eq_true rfl, iuX8, tyX8_ok, nmX8, ⟨inT_of 408 (by decide +kernel) (by decide +kernel), rfl⟩, rfl, by decide +kernel⟩
theorem fo_X8_23 : FLo RX8 23 8 2 true (.object "BoredKings$Court") := ⟨_, _, _, tyX8, rfl, Nat.le_of_ble_eq_true rfl, iuX8, tyX8_ok, nmX8, ⟨inT_of 409 (by decide +kernel) (by decide +kernel), rfl⟩, rfl, by decide +kernel⟩
theorem fo_X8_29 : FLo RX8 29 8 3 true (.object "BoredKings$Moment") := ⟨_, _, _, tyX8, rfl, Nat.le_of_ble_eq_true rfl, iuX8, tyX8_ok, nmX8, ⟨inT_of 410 (by decide +kernel) (by decide +kernel), rfl⟩, rfl, by decide +kernel⟩
theorem fo_X8_38 : FLo RX8 38 8 4 true (.object "BoredKings$Shelf") := ⟨_, _, _, tyX8, rfl, Nat.le_of_ble_eq_true rfl, iuX8, tyX8_ok, nmX8, ⟨inT_of 411 (by decide +kernel) (by decide +kernel), rfl⟩, rfl, by decide +kernel⟩
theorem fo_X8_42 : FLo RX8 42 8 5 true (.object "BoredKings$Shelf") := ⟨_, _, _, tyX8, rfl, Nat.le_of_ble_eq_true rfl, iuX8, tyX8_ok, nmX8, ⟨inT_of 412 (by decide +kernel) (by decide +kernel), rfl⟩, rfl, by decide +kernel⟩
theorem fo_X8_48 : FLo RX8 48 8 6 true (.object "BoredKings$Sightings") := ⟨_, _, _, tyX8, rfl, Nat.le_of_ble_eq_true rfl, iuX8, tyX8_ok, nmX8, ⟨inT_of 413 (by decide +kernel) (by decide +kernel), rfl⟩, rfl, by decide +kernel⟩
theorem fo_X8_57 : FLo RX8 57 8 7 true (.object "BoredKings$Outlook") := ⟨_, _, _, tyX8, rfl, Nat.le_of_ble_eq_true rfl, iuX8, tyX8_ok, nmX8, ⟨inT_of 414 (by decide +kernel) (by decide +kernel), rfl⟩, rfl, by decide +kernel⟩
theorem fo_X8_66 : FLo RX8 66 8 8 true (.object "BoredKings$Reign") := ⟨_, _, _, tyX8, rfl, Nat.le_of_ble_eq_true rfl, iuX8, tyX8_ok, nmX8, ⟨inT_of 415 (by decide +kernel) (by decide +kernel), rfl⟩, rfl, by decide +kernel⟩
theorem fo_X8_70 : FLo RX8 70 8 9 true (.array .int) := ⟨_, _, _, tyX8, rfl, Nat.le_of_ble_eq_true rfl, iuX8, tyX8_ok, nmX8, ⟨inT_of 416 (by decide +kernel) (by decide +kernel), rfl⟩, rfl, by decide +kernel⟩
theorem fo_X9_7 : FLo RX9 7 9 1 true (.array .int) := ⟨_, _, _, tyX9, rfl, Nat.le_of_ble_eq_true rfl, iuX9, tyX9_ok, nmX9, ⟨inT_of 805 (by decide +kernel) (by decide +kernel), rfl⟩, rfl, by decide +kernel⟩
theorem fo_X9_13 : FLo RX9 13 9 3 true (.array .int) := ⟨_, _, _, tyX9, rfl, Nat.le_of_ble_eq_true rfl, iuX9, tyX9_ok, nmX9, ⟨inT_of 807 (by decide +kernel) (by decide +kernel), rfl⟩, rfl, by decide +kernel⟩
theorem fo_X9_16 : FLo RX9 16 9 4 true (.array .int) := ⟨_, _, _, tyX9, rfl, Nat.le_of_ble_eq_true rfl, iuX9, tyX9_ok, nmX9, ⟨inT_of 808 (by decide +kernel) (by decide +kernel), rfl⟩, rfl, by decide +kernel⟩
theorem fo_X9_19 : FLo RX9 19 9 6 true (.array .int) := ⟨_, _, _, tyX9, rfl, Nat.le_of_ble_eq_true rfl, iuX9, tyX9_ok, nmX9, ⟨inT_of 810 (by decide +kernel) (by decide +kernel), rfl⟩, rfl, by decide +kernel⟩
theorem fo_X9_22 : FLo RX9 22 9 8 true (.array .int) := ⟨_, _, _, tyX9, rfl, Nat.le_of_ble_eq_true rfl, iuX9, tyX9_ok, nmX9, ⟨inT_of 812 (by decide +kernel) (by decide +kernel), rfl⟩, rfl, by decide +kernel⟩
theorem fo_X9_25 : FLo RX9 25 9 10 true (.array .int) := ⟨_, _, _, tyX9, rfl, Nat.le_of_ble_eq_true rfl, iuX9, tyX9_ok, nmX9, ⟨inT_of 814 (by decide +kernel) (by decide +kernel), rfl⟩, rfl, by decide +kernel⟩
theorem fo_X9_28 : FLo RX9 28 9 11 true (.array .int) := ⟨_, _, _, tyX9, rfl, Nat.le_of_ble_eq_true rfl, iuX9, tyX9_ok, nmX9, ⟨inT_of 815 (by decide +kernel) (by decide +kernel), rfl⟩, rfl, by decide +kernel⟩
theorem fo_X9_31 : FLo RX9 31 9 14 true (.array .int) := ⟨_, _, _, tyX9, rfl, Nat.le_of_ble_eq_true rfl, iuX9, tyX9_ok, nmX9, ⟨inT_of 818 (by decide +kernel) (by decide +kernel), rfl⟩, rfl, by decide +kernel⟩
theorem fo_X9_34 : FLo RX9 34 9 16 true (.array .int) := ⟨_, _, _, tyX9, rfl, Nat.le_of_ble_eq_true rfl, iuX9, tyX9_ok, nmX9, ⟨inT_of 820 (by decide +kernel) (by decide +kernel), rfl⟩, rfl, by decide +kernel⟩
theorem fo_X9_37 : FLo RX9 37 9 18 true (.array .int) := ⟨_, _, _, tyX9, rfl, Nat.le_of_ble_eq_true rfl, iuX9, tyX9_ok, nmX9, ⟨inT_of 822 (by decide +kernel) (by decide +kernel), rfl⟩, rfl, by decide +kernel⟩
theorem fo_X9_40 : FLo RX9 40 9 19 true (.array .int) := ⟨_, _, _, tyX9, rfl, Nat.le_of_ble_eq_true rfl, iuX9, tyX9_ok, nmX9, ⟨inT_of 823 (by decide +kernel) (by decide +kernel), rfl⟩, rfl, by decide +kernel⟩
theorem fo_X9_43 : FLo RX9 43 9 22 true (.array .int) := ⟨_, _, _, tyX9, rfl, Nat.le_of_ble_eq_true rfl, iuX9, tyX9_ok, nmX9, ⟨inT_of 826 (by decide +kernel) (by decide +kernel), rfl⟩, rfl, by decide +kernel⟩
theorem fo_X9_46 : FLo RX9 46 9 23 true (.array .int) := ⟨_, _, _, tyX9, rfl, Nat.le_of_ble_eq_true rfl, iuX9, tyX9_ok, nmX9, ⟨inT_of 827 (by decide +kernel) (by decide +kernel), rfl⟩, rfl, by decide +kernel⟩
theorem mi_X0_23 : MLI RX0 23 yX7_init cX7_init 1 0 := ⟨⟨iw_97, by decide +kernel, iw_48, by decide +kernel, by decide +kernel, by decide +kernel⟩, Or.inr ⟨"BoredKings", inT_of 95 (by decide +kernel) (by decide +kernel)⟩, iw_96, rfl⟩
theorem mi_X1_17 : MLI RX1 17 yX7_init cX7_init 1 0 := ⟨⟨iw_97, by decide +kernel, iw_48, by decide +kernel, by decide +kernel, by decide +kernel⟩, Or.inr ⟨"BoredKings", inT_of 160 (by decide +kernel) (by decide +kernel)⟩, iw_96, rfl⟩
theorem mi_X5_21 : MLI RX5 21 yX1_init cX1_init 1 0 := ⟨⟨iw_157, by decide +kernel, iw_49, by decide +kernel, by decide +kernel, by decide +kernel⟩, Or.inr ⟨"BoredKings", inT_of 199 (by decide +kernel) (by decide +kernel)⟩, iw_156, rfl⟩
theorem mi_X8_9 : MLI RX8 9 yX4_init cX4_init 1 0 := ⟨⟨iw_75, by decide +kernel, iw_46, by decide +kernel, by decide +kernel, by decide +kernel⟩, Or.inr ⟨"BoredKings", inT_of 73 (by decide +kernel) (by decide +kernel)⟩, iw_74, rfl⟩
theorem mi_X8_18 : MLI RX8 18 yX0_init cX0_init 1 0 := ⟨⟨iw_91, by decide +kernel, iw_47, by decide +kernel, by decide +kernel, by decide +kernel⟩, Or.inr ⟨"BoredKings", inT_of 89 (by decide +kernel) (by decide +kernel)⟩, iw_90, rfl⟩
theorem mi_X8_28 : MLI RX8 28 yX1_init cX1_init 1 0 := ⟨⟨iw_157, by decide +kernel, iw_49, by decide +kernel, by decide +kernel, by decide +kernel⟩, Or.inr ⟨"BoredKings", inT_of 155 (by decide +kernel) (by decide +kernel)⟩, iw_156, rfl⟩
theorem mi_X8_35 : MLI RX8 35 yX5_init cX5_init 3 1 := ⟨⟨iw_192, by decide +kernel, iw_50, by decide +kernel, by decide +kernel, by decide +kernel⟩, Or.inl (inT_of 190 (by decide +kernel) (by decide +kernel)), iw_191, rfl⟩
theorem mi_X8_47 : MLI RX8 47 yX6_init cX6_init 1 0 := ⟨⟨iw_215, by decide +kernel, iw_52, by decide +kernel, by decide +kernel, by decide +kernel⟩, Or.inr ⟨"BoredKings", inT_of 213 (by decide +kernel) (by decide +kernel)⟩, iw_214, rfl⟩
theorem mi_X8_54 : MLI RX8 54 yX2_init cX2_init 2 1 := ⟨⟨iw_232, by decide +kernel, iw_53, by decide +kernel, by decide +kernel, by decide +kernel⟩, Or.inl (inT_of 230 (by decide +kernel) (by decide +kernel)), iw_231, rfl⟩
theorem mi_X8_63 : MLI RX8 63 yX3_init cX3_init 3 2 := ⟨⟨iw_260, by decide +kernel, iw_54, by decide +kernel, by decide +kernel, by decide +kernel⟩, Or.inl (inT_of 258 (by decide +kernel) (by decide +kernel)), iw_259, rfl⟩
theorem bl_X7 : ∀ j, j < 4 → defaultValue (tyX7 j) = vp_V [.null, .null, .null, .int 0] j := by
  intro j hj
  rcases (show j = 0 ∨ j = 1 ∨ j = 2 ∨ j = 3 by omega) with rfl | rfl | rfl | rfl <;> rfl
theorem bl_X1 : ∀ j, j < 6 → defaultValue (tyX1 j) = vp_V [.int 0, .int 0, .int 0, .int 0, .null, .null] j := by
  intro j hj
  rcases (show j = 0 ∨ j = 1 ∨ j = 2 ∨ j = 3 ∨ j = 4 ∨ j = 5 by omega) with rfl | rfl | rfl | rfl | rfl | rfl <;> rfl
theorem bl_X4 : ∀ j, j < 2 → defaultValue (tyX4 j) = vp_V [.null, .int 0] j := by
  intro j hj
  rcases (show j = 0 ∨ j = 1 by omega) with rfl | rfl <;> rfl
theorem bl_X0 : ∀ j, j < 7 → defaultValue (tyX0 j) = vp_V [.null, .null, .null, .int 0, .null, .int 0, .null] j := by
  intro j hj
  rcases (show j = 0 ∨ j = 1 ∨ j = 2 ∨ j = 3 ∨ j = 4 ∨ j = 5 ∨ j = 6 by omega) with rfl | rfl | rfl | rfl | rfl | rfl | rfl <;> rfl
theorem bl_X5 : ∀ j, j < 3 → defaultValue (tyX5 j) = vp_V [.null, .int 0, .int 0] j := by
  intro j hj
  rcases (show j = 0 ∨ j = 1 ∨ j = 2 by omega) with rfl | rfl | rfl <;> rfl
theorem bl_X6 : ∀ j, j < 3 → defaultValue (tyX6 j) = vp_V [.null, .null, .int 0] j := by
  intro j hj
  rcases (show j = 0 ∨ j = 1 ∨ j = 2 by omega) with rfl | rfl | rfl <;> rfl
theorem bl_X2 : ∀ j, j < 7 → defaultValue (tyX2 j) = vp_V [.null, .null, .int 0, .int 0, .null, .null, .null] j := by
  intro j hj
  rcases (show j = 0 ∨ j = 1 ∨ j = 2 ∨ j = 3 ∨ j = 4 ∨ j = 5 ∨ j = 6 by omega) with rfl | rfl | rfl | rfl | rfl | rfl | rfl <;> rfl
theorem bl_X3 : ∀ j, j < 5 → defaultValue (tyX3 j) = vp_V [.null, .null, .null, .int 0, .int 0] j := by
  intro j hj
  rcases (show j = 0 ∨ j = 1 ∨ j = 2 ∨ j = 3 ∨ j = 4 by omega) with rfl | rfl | rfl | rfl | rfl <;> rfl
set_option maxRecDepth 20000 in
theorem i_X7 (l : Launch) (D : va_G) (cI cM : ClassId) (o : Nat) : Ct l D cI cM yX7_init cX7_init 1 1 12 3 27 [.ref o] o (.inr (7, [.null, .null, .null, .int 0])) [.inr (7, [.ref (o + 1), .ref (o + 2), .ref (o + 3), .int 0]), .inl (cI, 9, .inl (fun _ => 0)), .inl (cI, 9, .inl (fun _ => 0)), .inl (cI, 9, .inl (fun _ => 0))] := by
  refine Ct.of (by decide +kernel) rfl (cat_cons rfl cat_nil) [some (.ref (o))] rfl (Nat.le_of_ble_eq_true rfl) (fun V hV => ?_)
  refine q_aload_n hV dX7_init_0 rfl ?_
  refine q_objInit hV iw_98 iw_69 iw_70 ⟨by decide, by decide⟩ dX7_init_1 ?_
  refine q_aload_n hV dX7_init_4 rfl ?_
  refine q_bipush hV (v := 9) dX7_init_5 (by decide) ?_
  refine q_newa hV 9 (by decide) (by decide) iw_86 (by decide) rfl ⟨by decide, by decide⟩ dX7_init_7 ?_
  show V [.inr (7, [.null, .null, .null, .int 0]), .inl (cI, 9, .inl (fun _ => 0))] 1 9 9 [some (.ref (o))] [.ref (o + 1), .ref (o)]
  refine q_putF hV (i := 0) fo_X7_9 rfl rfl rfl (Nat.le_of_ble_eq_true rfl) dX7_init_9 rfl [.inr (7, [.ref (o + 1), .null, .null, .int 0]), .inl (cI, 9, .inl (fun _ => 0))] rfl ?_
  show V [.inr (7, [.ref (o + 1), .null, .null, .int 0]), .inl (cI, 9, .inl (fun _ => 0))] 1 9 12 [some (.ref (o))] []
  refine q_aload_n hV dX7_init_12 rfl ?_
  refine q_bipush hV (v := 9) dX7_init_13 (by decide) ?_
  refine q_newa hV 9 (by decide) (by decide) iw_86 (by decide) rfl ⟨by decide, by decide⟩ dX7_init_15 ?_
  show V [.inr (7, [.ref (o + 1), .null, .null, .int 0]), .inl (cI, 9, .inl (fun _ => 0)), .inl (cI, 9, .inl (fun _ => 0))] 2 18 17 [some (.ref (o))] [.ref (o + 2), .ref (o)]
  refine q_putF hV (i := 0) fo_X7_15 rfl rfl rfl (Nat.le_of_ble_eq_true rfl) dX7_init_17 rfl [.inr (7, [.ref (o + 1), .ref (o + 2), .null, .int 0]), .inl (cI, 9, .inl (fun _ => 0)), .inl (cI, 9, .inl (fun _ => 0))] rfl ?_
  show V [.inr (7, [.ref (o + 1), .ref (o + 2), .null, .int 0]), .inl (cI, 9, .inl (fun _ => 0)), .inl (cI, 9, .inl (fun _ => 0))] 2 18 20 [some (.ref (o))] []
  refine q_aload_n hV dX7_init_20 rfl ?_
  refine q_bipush hV (v := 9) dX7_init_21 (by decide) ?_
  refine q_newa hV 9 (by decide) (by decide) iw_86 (by decide) rfl ⟨by decide, by decide⟩ dX7_init_23 ?_
  show V [.inr (7, [.ref (o + 1), .ref (o + 2), .null, .int 0]), .inl (cI, 9, .inl (fun _ => 0)), .inl (cI, 9, .inl (fun _ => 0)), .inl (cI, 9, .inl (fun _ => 0))] 3 27 25 [some (.ref (o))] [.ref (o + 3), .ref (o)]
  refine q_putF hV (i := 0) fo_X7_18 rfl rfl rfl (Nat.le_of_ble_eq_true rfl) dX7_init_25 rfl [.inr (7, [.ref (o + 1), .ref (o + 2), .ref (o + 3), .int 0]), .inl (cI, 9, .inl (fun _ => 0)), .inl (cI, 9, .inl (fun _ => 0)), .inl (cI, 9, .inl (fun _ => 0))] rfl ?_
  show V [.inr (7, [.ref (o + 1), .ref (o + 2), .ref (o + 3), .int 0]), .inl (cI, 9, .inl (fun _ => 0)), .inl (cI, 9, .inl (fun _ => 0)), .inl (cI, 9, .inl (fun _ => 0))] 3 27 28 [some (.ref (o))] []
  exact q_vret hV dX7_init_28 rfl
set_option maxRecDepth 20000 in
theorem i_X0 (l : Launch) (D : va_G) (cI cM : ClassId) (o : Nat) : Ct l D cI cM yX0_init cX0_init 1 2 32 8 52 [.ref o] o (.inr (0, [.null, .null, .null, .int 0, .null, .int 0, .null])) [.inr (0, [.ref (o + 1), .ref (o + 2), .ref (o + 3), .int 0, .ref (o + 4), .int 2, .ref (o + 8)]), .inl (cI, 6, .inl (fun _ => 0)), .inl (cI, 6, .inl (fun _ => 0)), .inl (cI, 6, .inl (fun _ => 0)), .inr (7, [.ref (o + 5), .ref (o + 6), .ref (o + 7), .int 0]), .inl (cI, 9, .inl (fun _ => 0)), .inl (cI, 9, .inl (fun _ => 0)), .inl (cI, 9, .inl (fun _ => 0)), .inl (cI, 3, .inl (fun _ => 0))] := by
  refine Ct.of (by decide +kernel) rfl (cat_cons rfl cat_nil) [some (.ref (o))] rfl (Nat.le_of_ble_eq_true rfl) (fun V hV => ?_)
  refine q_aload_n hV dX0_init_0 rfl ?_
  refine q_objInit hV iw_92 iw_69 iw_70 ⟨by decide, by decide⟩ dX0_init_1 ?_
  refine q_aload_n hV dX0_init_4 rfl ?_
  refine q_bipush hV (v := 6) dX0_init_5 (by decide) ?_
  refine q_newa hV 6 (by decide) (by decide) iw_86 (by decide) rfl ⟨by decide, by decide⟩ dX0_init_7 ?_
  show V [.inr (0, [.null, .null, .null, .int 0, .null, .int 0, .null]), .inl (cI, 6, .inl (fun _ => 0))] 1 6 9 [some (.ref (o))] [.ref (o + 1), .ref (o)]
  refine q_putF hV (i := 0) fo_X0_9 rfl rfl rfl (Nat.le_of_ble_eq_true rfl) dX0_init_9 rfl [.inr (0, [.ref (o + 1), .null, .null, .int 0, .null, .int 0, .null]), .inl (cI, 6, .inl (fun _ => 0))] rfl ?_
  show V [.inr (0, [.ref (o + 1), .null, .null, .int 0, .null, .int 0, .null]), .inl (cI, 6, .inl (fun _ => 0))] 1 6 12 [some (.ref (o))] []
  refine q_aload_n hV dX0_init_12 rfl ?_
  refine q_bipush hV (v := 6) dX0_init_13 (by decide) ?_
  refine q_newa hV 6 (by decide) (by decide) iw_86 (by decide) rfl ⟨by decide, by decide⟩ dX0_init_15 ?_
  show V [.inr (0, [.ref (o + 1), .null, .null, .int 0, .null, .int 0, .null]), .inl (cI, 6, .inl (fun _ => 0)), .inl (cI, 6, .inl (fun _ => 0))] 2 12 17 [some (.ref (o))] [.ref (o + 2), .ref (o)]
  refine q_putF hV (i := 0) fo_X0_15 rfl rfl rfl (Nat.le_of_ble_eq_true rfl) dX0_init_17 rfl [.inr (0, [.ref (o + 1), .ref (o + 2), .null, .int 0, .null, .int 0, .null]), .inl (cI, 6, .inl (fun _ => 0)), .inl (cI, 6, .inl (fun _ => 0))] rfl ?_
  show V [.inr (0, [.ref (o + 1), .ref (o + 2), .null, .int 0, .null, .int 0, .null]), .inl (cI, 6, .inl (fun _ => 0)), .inl (cI, 6, .inl (fun _ => 0))] 2 12 20 [some (.ref (o))] []
  refine q_aload_n hV dX0_init_20 rfl ?_
  refine q_bipush hV (v := 6) dX0_init_21 (by decide) ?_
  refine q_newa hV 6 (by decide) (by decide) iw_86 (by decide) rfl ⟨by decide, by decide⟩ dX0_init_23 ?_
  show V [.inr (0, [.ref (o + 1), .ref (o + 2), .null, .int 0, .null, .int 0, .null]), .inl (cI, 6, .inl (fun _ => 0)), .inl (cI, 6, .inl (fun _ => 0)), .inl (cI, 6, .inl (fun _ => 0))] 3 18 25 [some (.ref (o))] [.ref (o + 3), .ref (o)]
  refine q_putF hV (i := 0) fo_X0_18 rfl rfl rfl (Nat.le_of_ble_eq_true rfl) dX0_init_25 rfl [.inr (0, [.ref (o + 1), .ref (o + 2), .ref (o + 3), .int 0, .null, .int 0, .null]), .inl (cI, 6, .inl (fun _ => 0)), .inl (cI, 6, .inl (fun _ => 0)), .inl (cI, 6, .inl (fun _ => 0))] rfl ?_
  show V [.inr (0, [.ref (o + 1), .ref (o + 2), .ref (o + 3), .int 0, .null, .int 0, .null]), .inl (cI, 6, .inl (fun _ => 0)), .inl (cI, 6, .inl (fun _ => 0)), .inl (cI, 6, .inl (fun _ => 0))] 3 18 28 [some (.ref (o))] []
  refine q_aload_n hV dX0_init_28 rfl ?_
  refine q_new hV (ci := 7) (N := 4) (C := RX7) (T := TX7) (fs := [.null, .null, .null, .int 0]) tyX7 rfl iuX7 tyX7_ok iw_93 iw_94 iw_48 bl_X7 rfl ⟨by decide, by decide⟩ dX0_init_29 ?_
  show V [.inr (0, [.ref (o + 1), .ref (o + 2), .ref (o + 3), .int 0, .null, .int 0, .null]), .inl (cI, 6, .inl (fun _ => 0)), .inl (cI, 6, .inl (fun _ => 0)), .inl (cI, 6, .inl (fun _ => 0)), .inr (7, [.null, .null, .null, .int 0])] 4 22 32 [some (.ref (o))] [.ref (o + 4), .ref (o)]
  refine q_dup hV dX0_init_32 rfl ?_
  refine q_callI hV (a := o + 4) [.inr (0, [.ref (o + 1), .ref (o + 2), .ref (o + 3), .int 0, .null, .int 0, .null]), .inl (cI, 6, .inl (fun _ => 0)), .inl (cI, 6, .inl (fun _ => 0)), .inl (cI, 6, .inl (fun _ => 0))] rfl rfl (i_X7 l D cI cM (o + 4)) mi_X0_23 rfl ⟨by decide, by decide⟩ (Nat.le_of_ble_eq_true rfl) rfl rfl ⟨by decide, by decide⟩ dX0_init_33 [.inr (0, [.ref (o + 1), .ref (o + 2), .ref (o + 3), .int 0, .null, .int 0, .null]), .inl (cI, 6, .inl (fun _ => 0)), .inl (cI, 6, .inl (fun _ => 0)), .inl (cI, 6, .inl (fun _ => 0)), .inr (7, [.ref (o + 5), .ref (o + 6), .ref (o + 7), .int 0]), .inl (cI, 9, .inl (fun _ => 0)), .inl (cI, 9, .inl (fun _ => 0)), .inl (cI, 9, .inl (fun _ => 0))] rfl ?_
  show V [.inr (0, [.ref (o + 1), .ref (o + 2), .ref (o + 3), .int 0, .null, .int 0, .null]), .inl (cI, 6, .inl (fun _ => 0)), .inl (cI, 6, .inl (fun _ => 0)), .inl (cI, 6, .inl (fun _ => 0)), .inr (7, [.ref (o + 5), .ref (o + 6), .ref (o + 7), .int 0]), .inl (cI, 9, .inl (fun _ => 0)), .inl (cI, 9, .inl (fun _ => 0)), .inl (cI, 9, .inl (fun _ => 0))] 7 49 36 [some (.ref (o))] [.ref (o + 4), .ref (o)]
  refine q_putF hV (i := 0) fo_X0_24 rfl rfl rfl (Nat.le_of_ble_eq_true rfl) dX0_init_36 rfl [.inr (0, [.ref (o + 1), .ref (o + 2), .ref (o + 3), .int 0, .ref (o + 4), .int 0, .null]), .inl (cI, 6, .inl (fun _ => 0)), .inl (cI, 6, .inl (fun _ => 0)), .inl (cI, 6, .inl (fun _ => 0)), .inr (7, [.ref (o + 5), .ref (o + 6), .ref (o + 7), .int 0]), .inl (cI, 9, .inl (fun _ => 0)), .inl (cI, 9, .inl (fun _ => 0)), .inl (cI, 9, .inl (fun _ => 0))] rfl ?_
  show V [.inr (0, [.ref (o + 1), .ref (o + 2), .ref (o + 3), .int 0, .ref (o + 4), .int 0, .null]), .inl (cI, 6, .inl (fun _ => 0)), .inl (cI, 6, .inl (fun _ => 0)), .inl (cI, 6, .inl (fun _ => 0)), .inr (7, [.ref (o + 5), .ref (o + 6), .ref (o + 7), .int 0]), .inl (cI, 9, .inl (fun _ => 0)), .inl (cI, 9, .inl (fun _ => 0)), .inl (cI, 9, .inl (fun _ => 0))] 7 49 39 [some (.ref (o))] []
  refine q_aload_n hV dX0_init_39 rfl ?_
  refine q_iconst hV (v := 2) dX0_init_40 (by decide) ?_
  refine q_puti hV (i := 0) fo_X0_28 rfl (Nat.le_of_ble_eq_true rfl) dX0_init_41 rfl [.inr (0, [.ref (o + 1), .ref (o + 2), .ref (o + 3), .int 0, .ref (o + 4), .int 2, .null]), .inl (cI, 6, .inl (fun _ => 0)), .inl (cI, 6, .inl (fun _ => 0)), .inl (cI, 6, .inl (fun _ => 0)), .inr (7, [.ref (o + 5), .ref (o + 6), .ref (o + 7), .int 0]), .inl (cI, 9, .inl (fun _ => 0)), .inl (cI, 9, .inl (fun _ => 0)), .inl (cI, 9, .inl (fun _ => 0))] rfl ?_
  show V [.inr (0, [.ref (o + 1), .ref (o + 2), .ref (o + 3), .int 0, .ref (o + 4), .int 2, .null]), .inl (cI, 6, .inl (fun _ => 0)), .inl (cI, 6, .inl (fun _ => 0)), .inl (cI, 6, .inl (fun _ => 0)), .inr (7, [.ref (o + 5), .ref (o + 6), .ref (o + 7), .int 0]), .inl (cI, 9, .inl (fun _ => 0)), .inl (cI, 9, .inl (fun _ => 0)), .inl (cI, 9, .inl (fun _ => 0))] 7 49 44 [some (.ref (o))] []
  refine q_aload_n hV dX0_init_44 rfl ?_
  refine q_iconst hV (v := 3) dX0_init_45 (by decide) ?_
  refine q_newa hV 3 (by decide) (by decide) iw_86 (by decide) rfl ⟨by decide, by decide⟩ dX0_init_46 ?_
  show V [.inr (0, [.ref (o + 1), .ref (o + 2), .ref (o + 3), .int 0, .ref (o + 4), .int 2, .null]), .inl (cI, 6, .inl (fun _ => 0)), .inl (cI, 6, .inl (fun _ => 0)), .inl (cI, 6, .inl (fun _ => 0)), .inr (7, [.ref (o + 5), .ref (o + 6), .ref (o + 7), .int 0]), .inl (cI, 9, .inl (fun _ => 0)), .inl (cI, 9, .inl (fun _ => 0)), .inl (cI, 9, .inl (fun _ => 0)), .inl (cI, 3, .inl (fun _ => 0))] 8 52 48 [some (.ref (o))] [.ref (o + 8), .ref (o)]
  refine q_putF hV (i := 0) fo_X0_32 rfl rfl rfl (Nat.le_of_ble_eq_true rfl) dX0_init_48 rfl [.inr (0, [.ref (o + 1), .ref (o + 2), .ref (o + 3), .int 0, .ref (o + 4), .int 2, .ref (o + 8)]), .inl (cI, 6, .inl (fun _ => 0)), .inl (cI, 6, .inl (fun _ => 0)), .inl (cI, 6, .inl (fun _ => 0)), .inr (7, [.ref (o + 5), .ref (o + 6), .ref (o + 7), .int 0]), .inl (cI, 9, .inl (fun _ => 0)), .inl (cI, 9, .inl (fun _ => 0)), .inl (cI, 9, .inl (fun _ => 0)), .inl (cI, 3, .inl (fun _ => 0))] rfl ?_
  show V [.inr (0, [.ref (o + 1), .ref (o + 2), .ref (o + 3), .int 0, .ref (o + 4), .int 2, .ref (o + 8)]), .inl (cI, 6, .inl (fun _ => 0)), .inl (cI, 6, .inl (fun _ => 0)), .inl (cI, 6, .inl (fun _ => 0)), .inr (7, [.ref (o + 5), .ref (o + 6), .ref (o + 7), .int 0]), .inl (cI, 9, .inl (fun _ => 0)), .inl (cI, 9, .inl (fun _ => 0)), .inl (cI, 9, .inl (fun _ => 0)), .inl (cI, 3, .inl (fun _ => 0))] 8 52 51 [some (.ref (o))] []
  exact q_vret hV dX0_init_51 rfl
set_option maxRecDepth 20000 in
theorem i_X1 (l : Launch) (D : va_G) (cI cM : ClassId) (o : Nat) : Ct l D cI cM yX1_init cX1_init 1 2 32 5 37 [.ref o] o (.inr (1, [.int 0, .int 0, .int 0, .int 0, .null, .null])) [.inr (1, [.int 0, .int 0, .int 0, .int 0, .ref (o + 1), .ref (o + 2)]), .inl (cI, 6, .inl (fun _ => 0)), .inr (7, [.ref (o + 3), .ref (o + 4), .ref (o + 5), .int 0]), .inl (cI, 9, .inl (fun _ => 0)), .inl (cI, 9, .inl (fun _ => 0)), .inl (cI, 9, .inl (fun _ => 0))] := by
  refine Ct.of (by decide +kernel) rfl (cat_cons rfl cat_nil) [some (.ref (o))] rfl (Nat.le_of_ble_eq_true rfl) (fun V hV => ?_)
  refine q_aload_n hV dX1_init_0 rfl ?_
  refine q_objInit hV iw_158 iw_69 iw_70 ⟨by decide, by decide⟩ dX1_init_1 ?_
  refine q_aload_n hV dX1_init_4 rfl ?_
  refine q_bipush hV (v := 6) dX1_init_5 (by decide) ?_
  refine q_newa hV 6 (by decide) (by decide) iw_86 (by decide) rfl ⟨by decide, by decide⟩ dX1_init_7 ?_
  show V [.inr (1, [.int 0, .int 0, .int 0, .int 0, .null, .null]), .inl (cI, 6, .inl (fun _ => 0))] 1 6 9 [some (.ref (o))] [.ref (o + 1), .ref (o)]
  refine q_putF hV (i := 0) fo_X1_9 rfl rfl rfl (Nat.le_of_ble_eq_true rfl) dX1_init_9 rfl [.inr (1, [.int 0, .int 0, .int 0, .int 0, .ref (o + 1), .null]), .inl (cI, 6, .inl (fun _ => 0))] rfl ?_
  show V [.inr (1, [.int 0, .int 0, .int 0, .int 0, .ref (o + 1), .null]), .inl (cI, 6, .inl (fun _ => 0))] 1 6 12 [some (.ref (o))] []
  refine q_aload_n hV dX1_init_12 rfl ?_
  refine q_new hV (ci := 7) (N := 4) (C := RX7) (T := TX7) (fs := [.null, .null, .null, .int 0]) tyX7 rfl iuX7 tyX7_ok iw_159 iw_94 iw_48 bl_X7 rfl ⟨by decide, by decide⟩ dX1_init_13 ?_
  show V [.inr (1, [.int 0, .int 0, .int 0, .int 0, .ref (o + 1), .null]), .inl (cI, 6, .inl (fun _ => 0)), .inr (7, [.null, .null, .null, .int 0])] 2 10 16 [some (.ref (o))] [.ref (o + 2), .ref (o)]
  refine q_dup hV dX1_init_16 rfl ?_
  refine q_callI hV (a := o + 2) [.inr (1, [.int 0, .int 0, .int 0, .int 0, .ref (o + 1), .null]), .inl (cI, 6, .inl (fun _ => 0))] rfl rfl (i_X7 l D cI cM (o + 2)) mi_X1_17 rfl ⟨by decide, by decide⟩ (Nat.le_of_ble_eq_true rfl) rfl rfl ⟨by decide, by decide⟩ dX1_init_17 [.inr (1, [.int 0, .int 0, .int 0, .int 0, .ref (o + 1), .null]), .inl (cI, 6, .inl (fun _ => 0)), .inr (7, [.ref (o + 3), .ref (o + 4), .ref (o + 5), .int 0]), .inl (cI, 9, .inl (fun _ => 0)), .inl (cI, 9, .inl (fun _ => 0)), .inl (cI, 9, .inl (fun _ => 0))] rfl ?_
  show V [.inr (1, [.int 0, .int 0, .int 0, .int 0, .ref (o + 1), .null]), .inl (cI, 6, .inl (fun _ => 0)), .inr (7, [.ref (o + 3), .ref (o + 4), .ref (o + 5), .int 0]), .inl (cI, 9, .inl (fun _ => 0)), .inl (cI, 9, .inl (fun _ => 0)), .inl (cI, 9, .inl (fun _ => 0))] 5 37 20 [some (.ref (o))] [.ref (o + 2), .ref (o)]
  refine q_putF hV (i := 0) fo_X1_18 rfl rfl rfl (Nat.le_of_ble_eq_true rfl) dX1_init_20 rfl [.inr (1, [.int 0, .int 0, .int 0, .int 0, .ref (o + 1), .ref (o + 2)]), .inl (cI, 6, .inl (fun _ => 0)), .inr (7, [.ref (o + 3), .ref (o + 4), .ref (o + 5), .int 0]), .inl (cI, 9, .inl (fun _ => 0)), .inl (cI, 9, .inl (fun _ => 0)), .inl (cI, 9, .inl (fun _ => 0))] rfl ?_
  show V [.inr (1, [.int 0, .int 0, .int 0, .int 0, .ref (o + 1), .ref (o + 2)]), .inl (cI, 6, .inl (fun _ => 0)), .inr (7, [.ref (o + 3), .ref (o + 4), .ref (o + 5), .int 0]), .inl (cI, 9, .inl (fun _ => 0)), .inl (cI, 9, .inl (fun _ => 0)), .inl (cI, 9, .inl (fun _ => 0))] 5 37 23 [some (.ref (o))] []
  exact q_vret hV dX1_init_23 rfl
set_option maxRecDepth 20000 in
theorem i_X4 (l : Launch) (D : va_G) (cI cM : ClassId) (o : Nat) : Ct l D cI cM yX4_init cX4_init 1 1 12 1 200 [.ref o] o (.inr (4, [.null, .int 0])) [.inr (4, [.ref (o + 1), .int 0]), .inl (cI, 200, .inl (fun _ => 0))] := by
  refine Ct.of (by decide +kernel) rfl (cat_cons rfl cat_nil) [some (.ref (o))] rfl (Nat.le_of_ble_eq_true rfl) (fun V hV => ?_)
  refine q_aload_n hV dX4_init_0 rfl ?_
  refine q_objInit hV iw_76 iw_69 iw_70 ⟨by decide, by decide⟩ dX4_init_1 ?_
  refine q_aload_n hV dX4_init_4 rfl ?_
  refine q_sipush hV (v := 200) dX4_init_5 (by decide) ?_
  refine q_newa hV 200 (by decide) (by decide) iw_86 (by decide) rfl ⟨by decide, by decide⟩ dX4_init_8 ?_
  show V [.inr (4, [.null, .int 0]), .inl (cI, 200, .inl (fun _ => 0))] 1 200 10 [some (.ref (o))] [.ref (o + 1), .ref (o)]
  refine q_putF hV (i := 0) fo_X4_9 rfl rfl rfl (Nat.le_of_ble_eq_true rfl) dX4_init_10 rfl [.inr (4, [.ref (o + 1), .int 0]), .inl (cI, 200, .inl (fun _ => 0))] rfl ?_
  show V [.inr (4, [.ref (o + 1), .int 0]), .inl (cI, 200, .inl (fun _ => 0))] 1 200 13 [some (.ref (o))] []
  exact q_vret hV dX4_init_13 rfl
set_option maxRecDepth 20000 in
theorem i_X6 (l : Launch) (D : va_G) (cI cM : ClassId) (o : Nat) : Ct l D cI cM yX6_init cX6_init 1 1 12 2 16 [.ref o] o (.inr (6, [.null, .null, .int 0])) [.inr (6, [.ref (o + 1), .ref (o + 2), .int 0]), .inl (cI, 8, .inl (fun _ => 0)), .inl (cI, 8, .inl (fun _ => 0))] := by
  refine Ct.of (by decide +kernel) rfl (cat_cons rfl cat_nil) [some (.ref (o))] rfl (Nat.le_of_ble_eq_true rfl) (fun V hV => ?_)
  refine q_aload_n hV dX6_init_0 rfl ?_
  refine q_objInit hV iw_216 iw_69 iw_70 ⟨by decide, by decide⟩ dX6_init_1 ?_
  refine q_aload_n hV dX6_init_4 rfl ?_
  refine q_bipush hV (v := 8) dX6_init_5 (by decide) ?_
  refine q_newa hV 8 (by decide) (by decide) iw_86 (by decide) rfl ⟨by decide, by decide⟩ dX6_init_7 ?_
  show V [.inr (6, [.null, .null, .int 0]), .inl (cI, 8, .inl (fun _ => 0))] 1 8 9 [some (.ref (o))] [.ref (o + 1), .ref (o)]
  refine q_putF hV (i := 0) fo_X6_9 rfl rfl rfl (Nat.le_of_ble_eq_true rfl) dX6_init_9 rfl [.inr (6, [.ref (o + 1), .null, .int 0]), .inl (cI, 8, .inl (fun _ => 0))] rfl ?_
  show V [.inr (6, [.ref (o + 1), .null, .int 0]), .inl (cI, 8, .inl (fun _ => 0))] 1 8 12 [some (.ref (o))] []
  refine q_aload_n hV dX6_init_12 rfl ?_
  refine q_bipush hV (v := 8) dX6_init_13 (by decide) ?_
  refine q_newa hV 8 (by decide) (by decide) iw_86 (by decide) rfl ⟨by decide, by decide⟩ dX6_init_15 ?_
  show V [.inr (6, [.ref (o + 1), .null, .int 0]), .inl (cI, 8, .inl (fun _ => 0)), .inl (cI, 8, .inl (fun _ => 0))] 2 16 17 [some (.ref (o))] [.ref (o + 2), .ref (o)]
  refine q_putF hV (i := 0) fo_X6_15 rfl rfl rfl (Nat.le_of_ble_eq_true rfl) dX6_init_17 rfl [.inr (6, [.ref (o + 1), .ref (o + 2), .int 0]), .inl (cI, 8, .inl (fun _ => 0)), .inl (cI, 8, .inl (fun _ => 0))] rfl ?_
  show V [.inr (6, [.ref (o + 1), .ref (o + 2), .int 0]), .inl (cI, 8, .inl (fun _ => 0)), .inl (cI, 8, .inl (fun _ => 0))] 2 16 20 [some (.ref (o))] []
  exact q_vret hV dX6_init_20 rfl
set_option maxRecDepth 20000 in
theorem i_X2 (l : Launch) (D : va_G) (cI cM : ClassId) (o : Nat) (c1 : Nat) : Ct l D cI cM yX2_init cX2_init 2 1 12 3 488 [.ref o, .ref c1] o (.inr (2, [.null, .null, .int 0, .int 0, .null, .null, .null])) [.inr (2, [.ref c1, .null, .int 0, .int 0, .ref (o + 1), .ref (o + 2), .ref (o + 3)]), .inl (cI, 61, .inl (fun _ => 0)), .inl (cI, 61, .inl (fun _ => 0)), .inl (cI, 366, .inl (fun _ => 0))] := by
  refine Ct.of (by decide +kernel) rfl (cat_cons rfl (cat_cons rfl cat_nil)) [some (.ref (o)), some (.ref c1)] rfl (Nat.le_of_ble_eq_true rfl) (fun V hV => ?_)
  refine q_aload_n hV dX2_init_0 rfl ?_
  refine q_objInit hV iw_233 iw_69 iw_70 ⟨by decide, by decide⟩ dX2_init_1 ?_
  refine q_aload_n hV dX2_init_4 rfl ?_
  refine q_bipush hV (v := 61) dX2_init_5 (by decide) ?_
  refine q_newa hV 61 (by decide) (by decide) iw_86 (by decide) rfl ⟨by decide, by decide⟩ dX2_init_7 ?_
  show V [.inr (2, [.null, .null, .int 0, .int 0, .null, .null, .null]), .inl (cI, 61, .inl (fun _ => 0))] 1 61 9 [some (.ref (o)), some (.ref c1)] [.ref (o + 1), .ref (o)]
  refine q_putF hV (i := 0) fo_X2_9 rfl rfl rfl (Nat.le_of_ble_eq_true rfl) dX2_init_9 rfl [.inr (2, [.null, .null, .int 0, .int 0, .ref (o + 1), .null, .null]), .inl (cI, 61, .inl (fun _ => 0))] rfl ?_
  show V [.inr (2, [.null, .null, .int 0, .int 0, .ref (o + 1), .null, .null]), .inl (cI, 61, .inl (fun _ => 0))] 1 61 12 [some (.ref (o)), some (.ref c1)] []
  refine q_aload_n hV dX2_init_12 rfl ?_
  refine q_bipush hV (v := 61) dX2_init_13 (by decide) ?_
  refine q_newa hV 61 (by decide) (by decide) iw_86 (by decide) rfl ⟨by decide, by decide⟩ dX2_init_15 ?_
  show V [.inr (2, [.null, .null, .int 0, .int 0, .ref (o + 1), .null, .null]), .inl (cI, 61, .inl (fun _ => 0)), .inl (cI, 61, .inl (fun _ => 0))] 2 122 17 [some (.ref (o)), some (.ref c1)] [.ref (o + 2), .ref (o)]
  refine q_putF hV (i := 0) fo_X2_15 rfl rfl rfl (Nat.le_of_ble_eq_true rfl) dX2_init_17 rfl [.inr (2, [.null, .null, .int 0, .int 0, .ref (o + 1), .ref (o + 2), .null]), .inl (cI, 61, .inl (fun _ => 0)), .inl (cI, 61, .inl (fun _ => 0))] rfl ?_
  show V [.inr (2, [.null, .null, .int 0, .int 0, .ref (o + 1), .ref (o + 2), .null]), .inl (cI, 61, .inl (fun _ => 0)), .inl (cI, 61, .inl (fun _ => 0))] 2 122 20 [some (.ref (o)), some (.ref c1)] []
  refine q_aload_n hV dX2_init_20 rfl ?_
  refine q_sipush hV (v := 366) dX2_init_21 (by decide) ?_
  refine q_newa hV 366 (by decide) (by decide) iw_86 (by decide) rfl ⟨by decide, by decide⟩ dX2_init_24 ?_
  show V [.inr (2, [.null, .null, .int 0, .int 0, .ref (o + 1), .ref (o + 2), .null]), .inl (cI, 61, .inl (fun _ => 0)), .inl (cI, 61, .inl (fun _ => 0)), .inl (cI, 366, .inl (fun _ => 0))] 3 488 26 [some (.ref (o)), some (.ref c1)] [.ref (o + 3), .ref (o)]
  refine q_putF hV (i := 0) fo_X2_18 rfl rfl rfl (Nat.le_of_ble_eq_true rfl) dX2_init_26 rfl [.inr (2, [.null, .null, .int 0, .int 0, .ref (o + 1), .ref (o + 2), .ref (o + 3)]), .inl (cI, 61, .inl (fun _ => 0)), .inl (cI, 61, .inl (fun _ => 0)), .inl (cI, 366, .inl (fun _ => 0))] rfl ?_
  show V [.inr (2, [.null, .null, .int 0, .int 0, .ref (o + 1), .ref (o + 2), .ref (o + 3)]), .inl (cI, 61, .inl (fun _ => 0)), .inl (cI, 61, .inl (fun _ => 0)), .inl (cI, 366, .inl (fun _ => 0))] 3 488 29 [some (.ref (o)), some (.ref c1)] []
  refine q_aload_n hV dX2_init_29 rfl ?_
  refine q_aload_n hV dX2_init_30 rfl ?_
  refine q_putF hV (i := 0) fo_X2_21 rfl rfl rfl (Nat.le_of_ble_eq_true rfl) dX2_init_31 rfl [.inr (2, [.ref c1, .null, .int 0, .int 0, .ref (o + 1), .ref (o + 2), .ref (o + 3)]), .inl (cI, 61, .inl (fun _ => 0)), .inl (cI, 61, .inl (fun _ => 0)), .inl (cI, 366, .inl (fun _ => 0))] rfl ?_
  show V [.inr (2, [.ref c1, .null, .int 0, .int 0, .ref (o + 1), .ref (o + 2), .ref (o + 3)]), .inl (cI, 61, .inl (fun _ => 0)), .inl (cI, 61, .inl (fun _ => 0)), .inl (cI, 366, .inl (fun _ => 0))] 3 488 34 [some (.ref (o)), some (.ref c1)] []
  exact q_vret hV dX2_init_34 rfl
set_option maxRecDepth 20000 in
theorem i_X3 (l : Launch) (D : va_G) (cI cM : ClassId) (o : Nat) (c1 : Nat) (c2 : Nat) : Ct l D cI cM yX3_init cX3_init 3 1 12 1 6 [.ref o, .ref c1, .ref c2] o (.inr (3, [.null, .null, .null, .int 0, .int 0])) [.inr (3, [.ref c1, .ref c2, .ref (o + 1), .int 0, .int 0]), .inl (cI, 6, .inl (fun _ => 0))] := by
  refine Ct.of (by decide +kernel) rfl (cat_cons rfl (cat_cons rfl (cat_cons rfl cat_nil))) [some (.ref (o)), some (.ref c1), some (.ref c2)] rfl (Nat.le_of_ble_eq_true rfl) (fun V hV => ?_)
  refine q_aload_n hV dX3_init_0 rfl ?_
  refine q_objInit hV iw_261 iw_69 iw_70 ⟨by decide, by decide⟩ dX3_init_1 ?_
  refine q_aload_n hV dX3_init_4 rfl ?_
  refine q_bipush hV (v := 6) dX3_init_5 (by decide) ?_
  refine q_newa hV 6 (by decide) (by decide) iw_86 (by decide) rfl ⟨by decide, by decide⟩ dX3_init_7 ?_
  show V [.inr (3, [.null, .null, .null, .int 0, .int 0]), .inl (cI, 6, .inl (fun _ => 0))] 1 6 9 [some (.ref (o)), some (.ref c1), some (.ref c2)] [.ref (o + 1), .ref (o)]
  refine q_putF hV (i := 0) fo_X3_9 rfl rfl rfl (Nat.le_of_ble_eq_true rfl) dX3_init_9 rfl [.inr (3, [.null, .null, .ref (o + 1), .int 0, .int 0]), .inl (cI, 6, .inl (fun _ => 0))] rfl ?_
  show V [.inr (3, [.null, .null, .ref (o + 1), .int 0, .int 0]), .inl (cI, 6, .inl (fun _ => 0))] 1 6 12 [some (.ref (o)), some (.ref c1), some (.ref c2)] []
  refine q_aload_n hV dX3_init_12 rfl ?_
  refine q_aload_n hV dX3_init_13 rfl ?_
  refine q_putF hV (i := 0) fo_X3_15 rfl rfl rfl (Nat.le_of_ble_eq_true rfl) dX3_init_14 rfl [.inr (3, [.ref c1, .null, .ref (o + 1), .int 0, .int 0]), .inl (cI, 6, .inl (fun _ => 0))] rfl ?_
  show V [.inr (3, [.ref c1, .null, .ref (o + 1), .int 0, .int 0]), .inl (cI, 6, .inl (fun _ => 0))] 1 6 17 [some (.ref (o)), some (.ref c1), some (.ref c2)] []
  refine q_aload_n hV dX3_init_17 rfl ?_
  refine q_aload_n hV dX3_init_18 rfl ?_
  refine q_putF hV (i := 0) fo_X3_19 rfl rfl rfl (Nat.le_of_ble_eq_true rfl) dX3_init_19 rfl [.inr (3, [.ref c1, .ref c2, .ref (o + 1), .int 0, .int 0]), .inl (cI, 6, .inl (fun _ => 0))] rfl ?_
  show V [.inr (3, [.ref c1, .ref c2, .ref (o + 1), .int 0, .int 0]), .inl (cI, 6, .inl (fun _ => 0))] 1 6 22 [some (.ref (o)), some (.ref c1), some (.ref c2)] []
  exact q_vret hV dX3_init_22 rfl
