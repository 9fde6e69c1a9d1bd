/-! THE CONSTRUCTORS, b: each makes its cells -/
section P45
variable {l : Launch} {D : va_G} {cA : Nat → ClassId}
theorem obj_i : Cond.instanceMethod objectInit ∈ TG := tg_1 25 (by decide +kernel) rfl
theorem obj_c : Cond.code objectInit ⟨#[0xb1]⟩ 1 none ∈ TG := tg_1 26 (by decide +kernel) rfl
theorem ac0 : Cond.arrayClass .int ∈ TG := tg_1 44 (by decide +kernel) rfl
theorem ac1 : Cond.arrayClass .boolean ∈ TG := tg_1 131 (by decide +kernel) rfl
theorem ac2 : Cond.arrayClass .char ∈ TG := tg_1 67 (by decide +kernel) rfl
theorem ac3 : Cond.arrayClass .byte ∈ TG := tg_3 31 (by decide +kernel) rfl
theorem oiX0 : Cond.methodLink RX0 5 objectInit ∈ TG := tg_1 32 (by decide +kernel) rfl
theorem kiX0 : MK uX0_init ∧ Cond.instanceMethod yX0_init ∈ TG := ⟨⟨tg_1 31 (by decide +kernel) rfl, tg_1 2 (by decide +kernel) rfl, by decide +kernel, by decide +kernel, by decide +kernel⟩, tg_1 30 (by decide +kernel) rfl⟩
theorem niX0 : Cond.initialized RX0 ∈ TG := tg_1 2 (by decide +kernel) rfl
theorem inX0 : Cond.instantiable RX0 1 ∈ TG := tg_1 28 (by decide +kernel) rfl
theorem oiX1 : Cond.methodLink RX1 3 objectInit ∈ TG := tg_1 88 (by decide +kernel) rfl
theorem kiX1 : MK uX1_init ∧ Cond.instanceMethod yX1_init ∈ TG := ⟨⟨tg_1 87 (by decide +kernel) rfl, tg_1 6 (by decide +kernel) rfl, by decide +kernel, by decide +kernel, by decide +kernel⟩, tg_1 86 (by decide +kernel) rfl⟩
theorem niX1 : Cond.initialized RX1 ∈ TG := tg_1 6 (by decide +kernel) rfl
theorem inX1 : Cond.instantiable RX1 8 ∈ TG := tg_1 84 (by decide +kernel) rfl
theorem oiX2 : Cond.methodLink RX2 3 objectInit ∈ TG := tg_1 229 (by decide +kernel) rfl
theorem kiX2 : MK uX2_init ∧ Cond.instanceMethod yX2_init ∈ TG := ⟨⟨tg_1 228 (by decide +kernel) rfl, tg_1 11 (by decide +kernel) rfl, by decide +kernel, by decide +kernel, by decide +kernel⟩, tg_1 227 (by decide +kernel) rfl⟩
theorem niX2 : Cond.initialized RX2 ∈ TG := tg_1 11 (by decide +kernel) rfl
theorem inX2 : Cond.instantiable RX2 3 ∈ TG := tg_1 225 (by decide +kernel) rfl
theorem oiX3 : Cond.methodLink RX3 3 objectInit ∈ TG := tg_1 210 (by decide +kernel) rfl
theorem kiX3 : MK uX3_init ∧ Cond.instanceMethod yX3_init ∈ TG := ⟨⟨tg_1 209 (by decide +kernel) rfl, tg_1 10 (by decide +kernel) rfl, by decide +kernel, by decide +kernel, by decide +kernel⟩, tg_1 208 (by decide +kernel) rfl⟩
theorem niX3 : Cond.initialized RX3 ∈ TG := tg_1 10 (by decide +kernel) rfl
theorem inX3 : Cond.instantiable RX3 4 ∈ TG := tg_1 206 (by decide +kernel) rfl
theorem oiX4 : Cond.methodLink RX4 3 objectInit ∈ TG := tg_1 73 (by decide +kernel) rfl
theorem kiX4 : MK uX4_init ∧ Cond.instanceMethod yX4_init ∈ TG := ⟨⟨tg_1 72 (by decide +kernel) rfl, tg_1 5 (by decide +kernel) rfl, by decide +kernel, by decide +kernel, by decide +kernel⟩, tg_1 71 (by decide +kernel) rfl⟩
theorem niX4 : Cond.initialized RX4 ∈ TG := tg_1 5 (by decide +kernel) rfl
theorem inX4 : Cond.instantiable RX4 2 ∈ TG := tg_1 69 (by decide +kernel) rfl
theorem oiX5 : Cond.methodLink RX5 3 objectInit ∈ TG := tg_1 137 (by decide +kernel) rfl
theorem kiX5 : MK uX5_init ∧ Cond.instanceMethod yX5_init ∈ TG := ⟨⟨tg_1 136 (by decide +kernel) rfl, tg_1 8 (by decide +kernel) rfl, by decide +kernel, by decide +kernel, by decide +kernel⟩, tg_1 135 (by decide +kernel) rfl⟩
theorem niX5 : Cond.initialized RX5 ∈ TG := tg_1 8 (by decide +kernel) rfl
theorem inX5 : Cond.instantiable RX5 15 ∈ TG := tg_1 133 (by decide +kernel) rfl
theorem oiX6 : Cond.methodLink RX6 3 objectInit ∈ TG := tg_1 191 (by decide +kernel) rfl
theorem kiX6 : MK uX6_init ∧ Cond.instanceMethod yX6_init ∈ TG := ⟨⟨tg_1 190 (by decide +kernel) rfl, tg_1 9 (by decide +kernel) rfl, by decide +kernel, by decide +kernel, by decide +kernel⟩, tg_1 189 (by decide +kernel) rfl⟩
theorem niX6 : Cond.initialized RX6 ∈ TG := tg_1 9 (by decide +kernel) rfl
theorem inX6 : Cond.instantiable RX6 4 ∈ TG := tg_1 187 (by decide +kernel) rfl
theorem oiX7 : Cond.methodLink RX7 3 objectInit ∈ TG := tg_1 50 (by decide +kernel) rfl
theorem kiX7 : MK uX7_init ∧ Cond.instanceMethod yX7_init ∈ TG := ⟨⟨tg_1 49 (by decide +kernel) rfl, tg_1 4 (by decide +kernel) rfl, by decide +kernel, by decide +kernel, by decide +kernel⟩, tg_1 48 (by decide +kernel) rfl⟩
theorem niX7 : Cond.initialized RX7 ∈ TG := tg_1 4 (by decide +kernel) rfl
theorem inX7 : Cond.instantiable RX7 5 ∈ TG := tg_1 46 (by decide +kernel) rfl
theorem oiX8 : Cond.methodLink RX8 3 objectInit ∈ TG := tg_1 94 (by decide +kernel) rfl
theorem kiX8 : MK uX8_init ∧ Cond.instanceMethod yX8_init ∈ TG := ⟨⟨tg_1 93 (by decide +kernel) rfl, tg_1 7 (by decide +kernel) rfl, by decide +kernel, by decide +kernel, by decide +kernel⟩, tg_1 92 (by decide +kernel) rfl⟩
theorem niX8 : Cond.initialized RX8 ∈ TG := tg_1 7 (by decide +kernel) rfl
theorem inX8 : Cond.instantiable RX8 3 ∈ TG := tg_1 90 (by decide +kernel) rfl
theorem oiX9 : Cond.methodLink RX9 3 objectInit ∈ TG := tg_1 24 (by decide +kernel) rfl
theorem kiX9 : MK uX9_init ∧ Cond.instanceMethod yX9_init ∈ TG := ⟨⟨tg_1 23 (by decide +kernel) rfl, tg_1 1 (by decide +kernel) rfl, by decide +kernel, by decide +kernel, by decide +kernel⟩, tg_1 22 (by decide +kernel) rfl⟩
theorem niX9 : Cond.initialized RX9 ∈ TG := tg_1 1 (by decide +kernel) rfl
theorem inX9 : Cond.instantiable RX9 10 ∈ TG := tg_1 20 (by decide +kernel) rfl
theorem oiX10 : Cond.methodLink RX10 1 objectInit ∈ TG := tg_4 171 (by decide +kernel) rfl
theorem kiX10 : MK uX10_init ∧ Cond.instanceMethod yX10_init ∈ TG := ⟨⟨tg_4 170 (by decide +kernel) rfl, tg_1 12 (by decide +kernel) rfl, by decide +kernel, by decide +kernel, by decide +kernel⟩, tg_4 169 (by decide +kernel) rfl⟩
theorem niX10 : Cond.initialized RX10 ∈ TG := tg_1 12 (by decide +kernel) rfl
theorem inX10 : Cond.instantiable RX10 35 ∈ TG := tg_4 167 (by decide +kernel) rfl
theorem clL_7 : Cond.classLink RL 7 RX9 ∈ TG := tg_1 19 (by decide +kernel) rfl
theorem clX9_9 : Cond.classLink RX9 9 RX0 ∈ TG := tg_1 27 (by decide +kernel) rfl
theorem clX9_16 : Cond.classLink RX9 16 RX7 ∈ TG := tg_1 45 (by decide +kernel) rfl
theorem clX9_23 : Cond.classLink RX9 23 RX4 ∈ TG := tg_1 68 (by decide +kernel) rfl
theorem clX4_9 : Cond.classLink RX4 9 RX0 ∈ TG := tg_1 74 (by decide +kernel) rfl
theorem clX9_30 : Cond.classLink RX9 30 RX1 ∈ TG := tg_1 83 (by decide +kernel) rfl
theorem clX1_9 : Cond.classLink RX1 9 RX8 ∈ TG := tg_1 89 (by decide +kernel) rfl
theorem clX9_37 : Cond.classLink RX9 37 RX5 ∈ TG := tg_1 132 (by decide +kernel) rfl
theorem clX5_9 : Cond.classLink RX5 9 RX8 ∈ TG := tg_1 138 (by decide +kernel) rfl
theorem clX9_44 : Cond.classLink RX9 44 RX6 ∈ TG := tg_1 186 (by decide +kernel) rfl
theorem clX9_51 : Cond.classLink RX9 51 RX3 ∈ TG := tg_1 205 (by decide +kernel) rfl
theorem clX9_58 : Cond.classLink RX9 58 RX2 ∈ TG := tg_1 224 (by decide +kernel) rfl
theorem clX2_11 : Cond.classLink RX2 11 "[[I" ∈ TG := tg_1 230 (by decide +kernel) rfl
theorem clX9_65 : Cond.classLink RX9 65 "[[I" ∈ TG := tg_2 2 (by decide +kernel) rfl
theorem clL_10 : Cond.classLink RL 10 RX10 ∈ TG := tg_4 166 (by decide +kernel) rfl
theorem mlX0_15 : Cond.methodLink RX0 15 yX0_start ∈ TG := tg_1 33 (by decide +kernel) rfl
theorem mlX0_18 : Cond.methodLink RX0 18 yJ7_fill_53178 ∈ TG := tg_1 37 (by decide +kernel) rfl
theorem mlX1_35 : Cond.methodLink RX1 35 yJ7_fill_53178 ∈ TG := tg_1 105 (by decide +kernel) rfl
theorem flX0_11 : Cond.fieldLink RX0 11 RX0 (TX0 0).2.1 (TX0 0).2.2.1 ∈ TG := tg_1 40 (by decide +kernel) rfl
theorem flX1_12 : Cond.fieldLink RX1 12 RX1 (TX1 0).2.1 (TX1 0).2.2.1 ∈ TG := tg_1 106 (by decide +kernel) rfl
theorem flX1_18 : Cond.fieldLink RX1 18 RX1 (TX1 1).2.1 (TX1 1).2.2.1 ∈ TG := tg_1 107 (by decide +kernel) rfl
theorem flX1_22 : Cond.fieldLink RX1 22 RX1 (TX1 2).2.1 (TX1 2).2.2.1 ∈ TG := tg_1 108 (by decide +kernel) rfl
theorem flX1_25 : Cond.fieldLink RX1 25 RX1 (TX1 3).2.1 (TX1 3).2.2.1 ∈ TG := tg_1 109 (by decide +kernel) rfl
theorem flX1_28 : Cond.fieldLink RX1 28 RX1 (TX1 4).2.1 (TX1 4).2.2.1 ∈ TG := tg_1 110 (by decide +kernel) rfl
theorem flX1_31 : Cond.fieldLink RX1 31 RX1 (TX1 5).2.1 (TX1 5).2.2.1 ∈ TG := tg_1 111 (by decide +kernel) rfl
theorem flX2_13 : Cond.fieldLink RX2 13 RX2 (TX2 0).2.1 (TX2 0).2.2.1 ∈ TG := tg_1 232 (by decide +kernel) rfl
theorem flX3_9 : Cond.fieldLink RX3 9 RX3 (TX3 0).2.1 (TX3 0).2.2.1 ∈ TG := tg_1 211 (by decide +kernel) rfl
theorem flX3_15 : Cond.fieldLink RX3 15 RX3 (TX3 1).2.1 (TX3 1).2.2.1 ∈ TG := tg_1 212 (by decide +kernel) rfl
theorem flX3_18 : Cond.fieldLink RX3 18 RX3 (TX3 2).2.1 (TX3 2).2.2.1 ∈ TG := tg_1 213 (by decide +kernel) rfl
theorem flX4_12 : Cond.fieldLink RX4 12 RX4 (TX4 0).2.1 (TX4 0).2.2.1 ∈ TG := tg_1 76 (by decide +kernel) rfl
theorem flX5_12 : Cond.fieldLink RX5 12 RX5 (TX5 0).2.1 (TX5 0).2.2.1 ∈ TG := tg_1 140 (by decide +kernel) rfl
theorem flX5_18 : Cond.fieldLink RX5 18 RX5 (TX5 1).2.1 (TX5 1).2.2.1 ∈ TG := tg_1 141 (by decide +kernel) rfl
theorem flX5_22 : Cond.fieldLink RX5 22 RX5 (TX5 2).2.1 (TX5 2).2.2.1 ∈ TG := tg_1 142 (by decide +kernel) rfl
theorem flX5_25 : Cond.fieldLink RX5 25 RX5 (TX5 3).2.1 (TX5 3).2.2.1 ∈ TG := tg_1 143 (by decide +kernel) rfl
theorem flX5_28 : Cond.fieldLink RX5 28 RX5 (TX5 4).2.1 (TX5 4).2.2.1 ∈ TG := tg_1 144 (by decide +kernel) rfl
theorem flX5_31 : Cond.fieldLink RX5 31 RX5 (TX5 5).2.1 (TX5 5).2.2.1 ∈ TG := tg_1 145 (by decide +kernel) rfl
theorem flX5_34 : Cond.fieldLink RX5 34 RX5 (TX5 6).2.1 (TX5 6).2.2.1 ∈ TG := tg_1 146 (by decide +kernel) rfl
theorem flX5_37 : Cond.fieldLink RX5 37 RX5 (TX5 7).2.1 (TX5 7).2.2.1 ∈ TG := tg_1 147 (by decide +kernel) rfl
theorem flX5_40 : Cond.fieldLink RX5 40 RX5 (TX5 8).2.1 (TX5 8).2.2.1 ∈ TG := tg_1 148 (by decide +kernel) rfl
theorem flX5_43 : Cond.fieldLink RX5 43 RX5 (TX5 9).2.1 (TX5 9).2.2.1 ∈ TG := tg_1 149 (by decide +kernel) rfl
theorem flX5_46 : Cond.fieldLink RX5 46 RX5 (TX5 10).2.1 (TX5 10).2.2.1 ∈ TG := tg_1 150 (by decide +kernel) rfl
theorem flX6_9 : Cond.fieldLink RX6 9 RX6 (TX6 0).2.1 (TX6 0).2.2.1 ∈ TG := tg_1 192 (by decide +kernel) rfl
theorem flX6_15 : Cond.fieldLink RX6 15 RX6 (TX6 1).2.1 (TX6 1).2.2.1 ∈ TG := tg_1 193 (by decide +kernel) rfl
theorem flX7_9 : Cond.fieldLink RX7 9 RX7 (TX7 0).2.1 (TX7 0).2.2.1 ∈ TG := tg_1 51 (by decide +kernel) rfl
theorem flX8_9 : Cond.fieldLink RX8 9 RX8 (TX8 0).2.1 (TX8 0).2.2.1 ∈ TG := tg_1 95 (by decide +kernel) rfl
theorem flX8_15 : Cond.fieldLink RX8 15 RX8 (TX8 1).2.1 (TX8 1).2.2.1 ∈ TG := tg_1 96 (by decide +kernel) rfl
theorem flX9_12 : Cond.fieldLink RX9 12 RX9 (TX9 0).2.1 (TX9 0).2.2.1 ∈ TG := tg_2 3 (by decide +kernel) rfl
theorem flX9_19 : Cond.fieldLink RX9 19 RX9 (TX9 1).2.1 (TX9 1).2.2.1 ∈ TG := tg_2 4 (by decide +kernel) rfl
theorem flX9_26 : Cond.fieldLink RX9 26 RX9 (TX9 2).2.1 (TX9 2).2.2.1 ∈ TG := tg_2 5 (by decide +kernel) rfl
theorem flX9_33 : Cond.fieldLink RX9 33 RX9 (TX9 3).2.1 (TX9 3).2.2.1 ∈ TG := tg_2 6 (by decide +kernel) rfl
theorem flX9_40 : Cond.fieldLink RX9 40 RX9 (TX9 4).2.1 (TX9 4).2.2.1 ∈ TG := tg_2 7 (by decide +kernel) rfl
theorem flX9_47 : Cond.fieldLink RX9 47 RX9 (TX9 5).2.1 (TX9 5).2.2.1 ∈ TG := tg_2 8 (by decide +kernel) rfl
theorem flX9_54 : Cond.fieldLink RX9 54 RX9 (TX9 6).2.1 (TX9 6).2.2.1 ∈ TG := tg_2 9 (by decide +kernel) rfl
theorem flX9_61 : Cond.fieldLink RX9 61 RX9 (TX9 7).2.1 (TX9 7).2.2.1 ∈ TG := tg_2 10 (by decide +kernel) rfl
theorem flX9_67 : Cond.fieldLink RX9 67 RX9 (TX9 8).2.1 (TX9 8).2.2.1 ∈ TG := tg_2 11 (by decide +kernel) rfl
theorem flX9_70 : Cond.fieldLink RX9 70 RX9 (TX9 9).2.1 (TX9 9).2.2.1 ∈ TG := tg_2 12 (by decide +kernel) rfl
theorem flX10_7 : Cond.fieldLink RX10 7 RX10 (TX10 1).2.1 (TX10 1).2.2.1 ∈ TG := tg_4 173 (by decide +kernel) rfl
theorem flX10_13 : Cond.fieldLink RX10 13 RX10 (TX10 2).2.1 (TX10 2).2.2.1 ∈ TG := tg_4 174 (by decide +kernel) rfl
theorem flX10_16 : Cond.fieldLink RX10 16 RX10 (TX10 3).2.1 (TX10 3).2.2.1 ∈ TG := tg_4 175 (by decide +kernel) rfl
theorem flX10_19 : Cond.fieldLink RX10 19 RX10 (TX10 5).2.1 (TX10 5).2.2.1 ∈ TG := tg_4 177 (by decide +kernel) rfl
theorem flX10_22 : Cond.fieldLink RX10 22 RX10 (TX10 6).2.1 (TX10 6).2.2.1 ∈ TG := tg_4 178 (by decide +kernel) rfl
theorem flX10_26 : Cond.fieldLink RX10 26 RX10 (TX10 7).2.1 (TX10 7).2.2.1 ∈ TG := tg_4 179 (by decide +kernel) rfl
theorem flX10_29 : Cond.fieldLink RX10 29 RX10 (TX10 9).2.1 (TX10 9).2.2.1 ∈ TG := tg_4 181 (by decide +kernel) rfl
theorem flX10_33 : Cond.fieldLink RX10 33 RX10 (TX10 15).2.1 (TX10 15).2.2.1 ∈ TG := tg_4 187 (by decide +kernel) rfl
theorem flX10_36 : Cond.fieldLink RX10 36 RX10 (TX10 18).2.1 (TX10 18).2.2.1 ∈ TG := tg_4 190 (by decide +kernel) rfl
theorem flX10_39 : Cond.fieldLink RX10 39 RX10 (TX10 19).2.1 (TX10 19).2.2.1 ∈ TG := tg_4 191 (by decide +kernel) rfl
theorem flX10_42 : Cond.fieldLink RX10 42 RX10 (TX10 20).2.1 (TX10 20).2.2.1 ∈ TG := tg_4 192 (by decide +kernel) rfl
theorem flX10_45 : Cond.fieldLink RX10 45 RX10 (TX10 21).2.1 (TX10 21).2.2.1 ∈ TG := tg_4 193 (by decide +kernel) rfl
theorem flX10_48 : Cond.fieldLink RX10 48 RX10 (TX10 22).2.1 (TX10 22).2.2.1 ∈ TG := tg_4 194 (by decide +kernel) rfl
theorem flX10_51 : Cond.fieldLink RX10 51 RX10 (TX10 23).2.1 (TX10 23).2.2.1 ∈ TG := tg_4 195 (by decide +kernel) rfl
theorem flX10_54 : Cond.fieldLink RX10 54 RX10 (TX10 24).2.1 (TX10 24).2.2.1 ∈ TG := tg_4 196 (by decide +kernel) rfl
theorem flX10_57 : Cond.fieldLink RX10 57 RX10 (TX10 26).2.1 (TX10 26).2.2.1 ∈ TG := tg_4 198 (by decide +kernel) rfl
theorem flX10_60 : Cond.fieldLink RX10 60 RX10 (TX10 27).2.1 (TX10 27).2.2.1 ∈ TG := tg_4 199 (by decide +kernel) rfl
theorem flX10_63 : Cond.fieldLink RX10 63 RX10 (TX10 28).2.1 (TX10 28).2.2.1 ∈ TG := tg_4 200 (by decide +kernel) rfl
theorem flX10_66 : Cond.fieldLink RX10 66 RX10 (TX10 30).2.1 (TX10 30).2.2.1 ∈ TG := tg_4 202 (by decide +kernel) rfl
theorem flX10_69 : Cond.fieldLink RX10 69 RX10 (TX10 31).2.1 (TX10 31).2.2.1 ∈ TG := tg_4 203 (by decide +kernel) rfl
theorem flX10_72 : Cond.fieldLink RX10 72 RX10 (TX10 32).2.1 (TX10 32).2.2.1 ∈ TG := tg_4 204 (by decide +kernel) rfl
theorem flX10_75 : Cond.fieldLink RX10 75 RX10 (TX10 33).2.1 (TX10 33).2.2.1 ∈ TG := tg_4 205 (by decide +kernel) rfl
theorem flX10_78 : Cond.fieldLink RX10 78 RX10 (TX10 34).2.1 (TX10 34).2.2.1 ∈ TG := tg_4 206 (by decide +kernel) rfl
theorem dfX0 : ∀ j, j < 1 → defaultValue (tyX0 j) = vp_V [.null] j := by
  intro j hj
  rcases (show j = 0 by omega) with rfl <;> rfl
theorem dfX1 : ∀ j, j < 8 → defaultValue (tyX1 j) = vp_V [.null, .null, .null, .null, .null, .null, .int 0, .int 0] j := by
  intro j hj
  rcases (show j = 0 ∨ j = 1 ∨ j = 2 ∨ j = 3 ∨ j = 4 ∨ j = 5 ∨ j = 6 ∨ j = 7 by omega) with rfl | rfl | rfl | rfl | rfl | rfl | rfl | rfl <;> rfl
theorem dfX2 : ∀ j, j < 3 → defaultValue (tyX2 j) = vp_V [.null, .int 0, .int 0] j := by
  intro j hj
  rcases (show j = 0 ∨ j = 1 ∨ j = 2 by omega) with rfl | rfl | rfl <;> rfl
theorem dfX3 : ∀ j, j < 4 → defaultValue (tyX3 j) = vp_V [.null, .null, .null, .int 0] j := by
  intro j hj
  rcases (show j = 0 ∨ j = 1 ∨ j = 2 ∨ j = 3 by omega) with rfl | rfl | rfl | rfl <;> rfl
theorem dfX4 : ∀ j, j < 2 → defaultValue (tyX4 j) = vp_V [.null, .int 0] j := by
  intro j hj
  rcases (show j = 0 ∨ j = 1 by omega) with rfl | rfl <;> rfl
theorem dfX5 : ∀ j, j < 15 → defaultValue (tyX5 j) = vp_V [.null, .null, .null, .null, .null, .null, .null, .null, .null, .null, .null, .int 0, .int 0, .int 0, .int 0] j := by
  intro j hj
  rcases (show j = 0 ∨ j = 1 ∨ j = 2 ∨ j = 3 ∨ j = 4 ∨ j = 5 ∨ j = 6 ∨ j = 7 ∨ j = 8 ∨ j = 9 ∨ j = 10 ∨ j = 11 ∨ j = 12 ∨ j = 13 ∨ j = 14 by omega) with rfl | rfl | rfl | rfl | rfl | rfl | rfl | rfl | rfl | rfl | rfl | rfl | rfl | rfl | rfl <;> rfl
theorem dfX6 : ∀ j, j < 4 → defaultValue (tyX6 j) = vp_V [.null, .null, .int 0, .int 0] j := by
  intro j hj
  rcases (show j = 0 ∨ j = 1 ∨ j = 2 ∨ j = 3 by omega) with rfl | rfl | rfl | rfl <;> rfl
theorem dfX7 : ∀ j, j < 5 → defaultValue (tyX7 j) = vp_V [.null, .int 0, .int 0, .int 0, .int 0] j := by
  intro j hj
  rcases (show j = 0 ∨ j = 1 ∨ j = 2 ∨ j = 3 ∨ j = 4 by omega) with rfl | rfl | rfl | rfl | rfl <;> rfl
theorem dfX8 : ∀ j, j < 3 → defaultValue (tyX8 j) = vp_V [.null, .null, .int 0] j := by
  intro j hj
  rcases (show j = 0 ∨ j = 1 ∨ j = 2 by omega) with rfl | rfl | rfl <;> rfl
theorem dfX9 : ∀ j, j < 10 → defaultValue (tyX9 j) = vp_V [.null, .null, .null, .null, .null, .null, .null, .null, .null, .null] j := by
  intro j hj
  rcases (show j = 0 ∨ j = 1 ∨ j = 2 ∨ j = 3 ∨ j = 4 ∨ j = 5 ∨ j = 6 ∨ j = 7 ∨ j = 8 ∨ j = 9 by omega) with rfl | rfl | rfl | rfl | rfl | rfl | rfl | rfl | rfl | rfl <;> rfl
theorem dfX10 : ∀ j, j < 35 → defaultValue (tyX10 j) = vp_V [.int 0, .null, .null, .null, .int 0, .null, .null, .null, .int 0, .null, .int 0, .int 0, .int 0, .int 0, .int 0, .null, .int 0, .int 0, .null, .null, .null, .null, .null, .null, .null, .int 0, .null, .null, .null, .int 0, .null, .null, .null, .null, .null] j := by
  intro j hj
  rcases (show j = 0 ∨ j = 1 ∨ j = 2 ∨ j = 3 ∨ j = 4 ∨ j = 5 ∨ j = 6 ∨ j = 7 ∨ j = 8 ∨ j = 9 ∨ j = 10 ∨ j = 11 ∨ j = 12 ∨ j = 13 ∨ j = 14 ∨ j = 15 ∨ j = 16 ∨ j = 17 ∨ j = 18 ∨ j = 19 ∨ j = 20 ∨ j = 21 ∨ j = 22 ∨ j = 23 ∨ j = 24 ∨ j = 25 ∨ j = 26 ∨ j = 27 ∨ j = 28 ∨ j = 29 ∨ j = 30 ∨ j = 31 ∨ j = 32 ∨ j = 33 ∨ j = 34 by omega) with rfl | rfl | rfl | rfl | rfl | rfl | rfl | rfl | rfl | rfl | rfl | rfl | rfl | rfl | rfl | rfl | rfl | rfl | rfl | rfl | rfl | rfl | rfl | rfl | rfl | rfl | rfl | rfl | rfl | rfl | rfl | rfl | rfl | rfl | rfl <;> rfl
theorem l_mfill {a n : Nat} {f : Nat → Int32} {v : Int32} (hn : n < 2 ^ 31) : ∀ k i : Nat, n - i = k → i ≤ n → UU l D cA uJ7_fill_53178 0 0 0 (exR uJ7_fill_53178 (fun u => u = [(a, .inl (cA 0, n, .inl (fil f n v)))])) 5 [(2, .int (nI i)), (3, .int (nI n)), (0, .ref a), (1, .int v)] [] [(a, .inl (cA 0, n, .inl (fil f i v)))] 0 0 := by
  intro k
  induction k using Nat.strongRecOn with
  | _ k ih => ?_
  intro i hk hi
  refine U_iload (t := 0) dJ7_fill_53178_5 rfl rfl ?_
  refine U_iload (t := 1) dJ7_fill_53178_6 rfl rfl ?_
  refine U_icmp_ge (tgt := 20) dJ7_fill_53178_7 (by decide) (fun h => ?_) (fun h => ?_)
  · have e : i = n := by have := (nI_leI hn (by omega)).mp h; omega
    subst e
    exact U_ret dJ7_fill_53178_20 rfl
  · have hlt : i < n := by
      rcases (show i < n ∨ i = n by omega) with z | z
      · exact z
      · exact absurd (by rw [z]; exact nI_le (Nat.le_refl _) hn) h
    refine U_aload (t := 2) dJ7_fill_53178_10 rfl rfl ?_
    refine U_iload (t := 0) dJ7_fill_53178_11 rfl rfl ?_
    refine U_iload (t := 3) dJ7_fill_53178_12 rfl rfl ?_
    refine U_iast (q0 := 0) dJ7_fill_53178_13 rfl (vp_in_nI hlt hn) ?_
    rw [nI_clamp (show i < 2 ^ 31 by omega)]
    refine U_iinc (t := 0) (v := nI (i + 1)) (L2 := [(2, .int (nI (i + 1))), (3, .int (nI n)), (0, .ref a), (1, .int v)]) dJ7_fill_53178_14 rfl (nI_1 _) (by decide) rfl ?_
    refine U_goto (tgt := 5) dJ7_fill_53178_17 (by decide) ?_
    show UU l D cA uJ7_fill_53178 0 0 0 _ 5 _ [] [(a, .inl (cA 0, n, .inl (upd (fil f i v) i v)))] 0 0
    rw [show upd (fil f i v) i v = fil f (i + 1) v from by
      funext x
      unfold upd fil
      by_cases e : x = i
      · rw [if_pos e, if_pos (by omega)]
      · rw [if_neg e]
        by_cases z : x < i
        · rw [if_pos z, if_pos (by omega)]
        · rw [if_neg z, if_neg (by omega)]]
    exact ih (n - (i + 1)) (by omega) (i + 1) rfl (by omega)
theorem mk_fill {a n : Nat} {f : Nat → Int32} {v : Int32} (hn : n < 2 ^ 31) : Mk l D cA uJ7_fill_53178 0 0 0 [.ref a, .int v] [(a, .inl (cA 0, n, .inl f))] (fun u => u = [(a, .inl (cA 0, n, .inl (fil f n v)))]) := by
  refine Mk.of kJ7_fill_53178.1 rfl (Nat.le_of_ble_eq_true rfl) ?_
  refine U_iconst (v := nI 0) dJ7_fill_53178_0 (by decide) ?_
  refine U_istore (L2 := [(2, .int (nI 0)), (0, .ref a), (1, .int v)]) dJ7_fill_53178_1 rfl (by decide) rfl ?_
  refine U_aload (t := 1) dJ7_fill_53178_2 rfl rfl ?_
  refine U_alen (q0 := 0) (t := 0) (v := nI n) dJ7_fill_53178_3 rfl rfl rfl ?_
  refine U_istore (L2 := [(3, .int (nI n)), (2, .int (nI 0)), (0, .ref a), (1, .int v)]) dJ7_fill_53178_4 rfl (by decide) rfl ?_
  have h := l_mfill (l := l) (D := D) (cA := cA) (a := a) (f := f) (v := v) hn n 0 rfl (Nat.zero_le _)
  rw [fil_0] at h
  intro p e s m args below meth c A R Qf C H locs ls hP hD hS hL
  exact h p e s m args below meth c A R Qf C H locs ls hP hD hS (lv_sub hL [1, 0, 2, 3] rfl)
/-- the numbers of a new cloth -/
def clV : Nat → Int32 := upd (upd (upd (fil (fun _ => 0) 60 (nI 0)) 0 (nI 1)) 1 (nI 1)) 2 (nI 3)
theorem mk_start {h0 a : Nat} : Mk l D cA uX0_start 1 0 0 [.ref h0] [(h0, .inr (0, [.ref a])), (a, .inl (cA 0, 60, .inl (fun _ => 0)))] (fun u => u = [(h0, .inr (0, [.ref a])), (a, .inl (cA 0, 60, .inl clV))]) := by
  refine Mk.of kX0_start.1 rfl (Nat.le_of_ble_eq_true rfl) ?_
  refine U_aload (t := 0) dX0_start_0 rfl rfl ?_
  refine U_getR (q0 := 0) (ci := 0) (kf := 0) dX0_start_1 rfl rfl wX0 rfl (by decide) flX0_11 rfl rfl ?_
  refine U_iconst (v := nI 0) dX0_start_4 (by decide) ?_
  refine U_callS (ν := uJ7_fill_53178) (wr := [(h0, .inr (0, [.ref a]))]) dX0_start_5 mlX0_18 kJ7_fill_53178 rfl rfl (mk_fill (by decide)) (Nat.le_of_ble_eq_true rfl) (Nat.le_of_ble_eq_true rfl) (Nat.le_of_ble_eq_true rfl) [1] [0] rfl (by decide) rfl rfl (by decide) (by decide) (Nat.le_of_ble_eq_true rfl) ?_
  rintro _ rfl
  refine U_aload (t := 0) dX0_start_8 rfl rfl ?_
  refine U_getR (q0 := 0) (ci := 0) (kf := 0) dX0_start_9 rfl rfl wX0 rfl (by decide) flX0_11 rfl rfl ?_
  refine U_iconst (v := nI 0) dX0_start_12 (by decide) ?_
  refine U_iconst (v := nI 1) dX0_start_13 (by decide) ?_
  refine U_iast (q0 := 1) dX0_start_14 rfl (vp_in_nI (by decide) (by decide)) ?_
  rw [show (nI 0).toNatClampNeg = 0 from nI_clamp (by decide)]
  refine U_aload (t := 0) dX0_start_15 rfl rfl ?_
  refine U_getR (q0 := 0) (ci := 0) (kf := 0) dX0_start_16 rfl rfl wX0 rfl (by decide) flX0_11 rfl rfl ?_
  refine U_iconst (v := nI 1) dX0_start_19 (by decide) ?_
  refine U_iconst (v := nI 1) dX0_start_20 (by decide) ?_
  refine U_iast (q0 := 1) dX0_start_21 rfl (vp_in_nI (by decide) (by decide)) ?_
  rw [show (nI 1).toNatClampNeg = 1 from nI_clamp (by decide)]
  refine U_aload (t := 0) dX0_start_22 rfl rfl ?_
  refine U_getR (q0 := 0) (ci := 0) (kf := 0) dX0_start_23 rfl rfl wX0 rfl (by decide) flX0_11 rfl rfl ?_
  refine U_iconst (v := nI 2) dX0_start_26 (by decide) ?_
  refine U_iconst (v := nI 3) dX0_start_27 (by decide) ?_
  refine U_iast (q0 := 1) dX0_start_28 rfl (vp_in_nI (by decide) (by decide)) ?_
  rw [show (nI 2).toNatClampNeg = 2 from nI_clamp (by decide)]
  exact U_ret dX0_start_29 rfl
theorem mkX0 {h0 : Nat} : Mk l D cA uX0_init 2 1 60 [.ref h0] [(h0, .inr (0, [.null]))] (fun u => ∃ (a0 : Nat), u = [(h0, .inr (0, [.ref a0])), (a0, .inl (cA 0, 60, .inl clV))]) := by
  refine Mk.of kiX0.1 rfl (Nat.le_of_ble_eq_true rfl) ?_
  refine U_aload (t := 0) dX0_init_0 rfl rfl ?_
  refine U_obj dX0_init_1 oiX0 obj_i obj_c (Nat.le_of_ble_eq_true rfl) ?_
  refine U_aload (t := 0) dX0_init_4 rfl rfl ?_
  refine U_bipush (v := (nI 60)) dX0_init_5 (by decide) ?_
  refine U_newa (t := 0) (N := 60) (bt := 4) (ty := .int) (nm := "[I") dX0_init_7 rfl ac0 (fun _ => rfl) (fun _ _ => va_nm_int) (fun _ => rfl) (nI_pos (by decide)) (nI_clamp (by decide)) rfl (Nat.le_of_ble_eq_true rfl) (Nat.le_of_ble_eq_true rfl) (Nat.le_of_ble_eq_true rfl) ?_
  intro q7
  change UU _ _ _ _ _ _ _ _ _ _ _ [(h0, .inr (0, [.null])), (q7, .inl (cA 0, 60, .inl (fun _ => 0)))] _ _
  refine U_putF (q0 := 0) (ci := 0) (kf := 0) (ty := .array .int) tyX0 dX0_init_9 rfl rfl wX0 tyX0_ok nmX0 rfl (by decide) flX0_11 rfl rfl rfl (by decide +kernel) rfl rfl (Nat.le_of_ble_eq_true rfl) ?_
  change UU _ _ _ _ _ _ _ _ _ _ _ [(h0, .inr (0, [.ref q7])), (q7, .inl (cA 0, 60, .inl (fun _ => 0)))] _ _
  refine U_aload (t := 0) dX0_init_12 rfl rfl ?_
  refine U_callV (ν := uX0_start) (wr := []) (q0 := 0) (ci := 0) dX0_init_13 mlX0_15 kX0_start rfl rfl rfl rfl mk_start (Nat.le_of_ble_eq_true rfl) (Nat.le_of_ble_eq_true rfl) (Nat.le_of_ble_eq_true rfl) [0, 1] [] rfl (by decide) rfl rfl (by decide) (by decide) (Nat.le_of_ble_eq_true rfl) ?_
  rintro _ rfl
  change UU _ _ _ _ _ _ _ _ _ _ _ [(h0, .inr (0, [.ref q7])), (q7, .inl (cA 0, 60, .inl clV))] _ _
  exact U_ret dX0_init_16 ⟨q7, rfl⟩
theorem mkX7 {h0 : Nat} : Mk l D cA uX7_init 1 1 120 [.ref h0] [(h0, .inr (7, [.null, .int 0, .int 0, .int 0, .int 0]))] (fun u => ∃ (a0 : Nat), u = [(h0, .inr (7, [.ref a0, .int 0, .int 0, .int 0, .int 0])), (a0, .inl (cA 2, 120, .inl (fun _ => 0)))]) := by
  refine Mk.of kiX7.1 rfl (Nat.le_of_ble_eq_true rfl) ?_
  refine U_aload (t := 0) dX7_init_0 rfl rfl ?_
  refine U_obj dX7_init_1 oiX7 obj_i obj_c (Nat.le_of_ble_eq_true rfl) ?_
  refine U_aload (t := 0) dX7_init_4 rfl rfl ?_
  refine U_bipush (v := (nI 120)) dX7_init_5 (by decide) ?_
  refine U_newa (t := 2) (N := 120) (bt := 2) (ty := .char) (nm := "[C") dX7_init_7 rfl ac2 (fun _ => rfl) (fun _ _ => va_nm_char) (fun _ => rfl) (nI_pos (by decide)) (nI_clamp (by decide)) rfl (Nat.le_of_ble_eq_true rfl) (Nat.le_of_ble_eq_true rfl) (Nat.le_of_ble_eq_true rfl) ?_
  intro q7
  change UU _ _ _ _ _ _ _ _ _ _ _ [(h0, .inr (7, [.null, .int 0, .int 0, .int 0, .int 0])), (q7, .inl (cA 2, 120, .inl (fun _ => 0)))] _ _
  refine U_putF (q0 := 0) (ci := 7) (kf := 0) (ty := .array .char) tyX7 dX7_init_9 rfl rfl wX7 tyX7_ok nmX7 rfl (by decide) flX7_9 rfl rfl rfl (by decide +kernel) rfl rfl (Nat.le_of_ble_eq_true rfl) ?_
  change UU _ _ _ _ _ _ _ _ _ _ _ [(h0, .inr (7, [.ref q7, .int 0, .int 0, .int 0, .int 0])), (q7, .inl (cA 2, 120, .inl (fun _ => 0)))] _ _
  exact U_ret dX7_init_12 ⟨q7, rfl⟩
theorem mkX8 {h0 : Nat} : Mk l D cA uX8_init 1 2 96 [.ref h0] [(h0, .inr (8, [.null, .null, .int 0]))] (fun u => ∃ (a0 : Nat) (a1 : Nat), u = [(h0, .inr (8, [.ref a0, .ref a1, .int 0])), (a0, .inl (cA 0, 48, .inl (fun _ => 0))), (a1, .inl (cA 0, 48, .inl (fun _ => 0)))]) := by
  refine Mk.of kiX8.1 rfl (Nat.le_of_ble_eq_true rfl) ?_
  refine U_aload (t := 0) dX8_init_0 rfl rfl ?_
  refine U_obj dX8_init_1 oiX8 obj_i obj_c (Nat.le_of_ble_eq_true rfl) ?_
  refine U_aload (t := 0) dX8_init_4 rfl rfl ?_
  refine U_bipush (v := (nI 48)) dX8_init_5 (by decide) ?_
  refine U_newa (t := 0) (N := 48) (bt := 4) (ty := .int) (nm := "[I") dX8_init_7 rfl ac0 (fun _ => rfl) (fun _ _ => va_nm_int) (fun _ => rfl) (nI_pos (by decide)) (nI_clamp (by decide)) rfl (Nat.le_of_ble_eq_true rfl) (Nat.le_of_ble_eq_true rfl) (Nat.le_of_ble_eq_true rfl) ?_
  intro q7
  change UU _ _ _ _ _ _ _ _ _ _ _ [(h0, .inr (8, [.null, .null, .int 0])), (q7, .inl (cA 0, 48, .inl (fun _ => 0)))] _ _
  refine U_putF (q0 := 0) (ci := 8) (kf := 0) (ty := .array .int) tyX8 dX8_init_9 rfl rfl wX8 tyX8_ok nmX8 rfl (by decide) flX8_9 rfl rfl rfl (by decide +kernel) rfl rfl (Nat.le_of_ble_eq_true rfl) ?_
  change UU _ _ _ _ _ _ _ _ _ _ _ [(h0, .inr (8, [.ref q7, .null, .int 0])), (q7, .inl (cA 0, 48, .inl (fun _ => 0)))] _ _
  refine U_aload (t := 0) dX8_init_12 rfl rfl ?_
  refine U_bipush (v := (nI 48)) dX8_init_13 (by decide) ?_
  refine U_newa (t := 0) (N := 48) (bt := 4) (ty := .int) (nm := "[I") dX8_init_15 rfl ac0 (fun _ => rfl) (fun _ _ => va_nm_int) (fun _ => rfl) (nI_pos (by decide)) (nI_clamp (by decide)) rfl (Nat.le_of_ble_eq_true rfl) (Nat.le_of_ble_eq_true rfl) (Nat.le_of_ble_eq_true rfl) ?_
  intro q15
  change UU _ _ _ _ _ _ _ _ _ _ _ [(h0, .inr (8, [.ref q7, .null, .int 0])), (q7, .inl (cA 0, 48, .inl (fun _ => 0))), (q15, .inl (cA 0, 48, .inl (fun _ => 0)))] _ _
  refine U_putF (q0 := 0) (ci := 8) (kf := 1) (ty := .array .int) tyX8 dX8_init_17 rfl rfl wX8 tyX8_ok nmX8 rfl (by decide) flX8_15 rfl rfl rfl (by decide +kernel) rfl rfl (Nat.le_of_ble_eq_true rfl) ?_
  change UU _ _ _ _ _ _ _ _ _ _ _ [(h0, .inr (8, [.ref q7, .ref q15, .int 0])), (q7, .inl (cA 0, 48, .inl (fun _ => 0))), (q15, .inl (cA 0, 48, .inl (fun _ => 0)))] _ _
  exact U_ret dX8_init_20 ⟨q7, q15, rfl⟩
theorem mkX3 {h0 : Nat} : Mk l D cA uX3_init 1 3 18 [.ref h0] [(h0, .inr (3, [.null, .null, .null, .int 0]))] (fun u => ∃ (a0 : Nat) (a1 : Nat) (a2 : Nat), u = [(h0, .inr (3, [.ref a0, .ref a1, .ref a2, .int 0])), (a0, .inl (cA 0, 6, .inl (fun _ => 0))), (a1, .inl (cA 0, 6, .inl (fun _ => 0))), (a2, .inl (cA 0, 6, .inl (fun _ => 0)))]) := by
  refine Mk.of kiX3.1 rfl (Nat.le_of_ble_eq_true rfl) ?_
  refine U_aload (t := 0) dX3_init_0 rfl rfl ?_
  refine U_obj dX3_init_1 oiX3 obj_i obj_c (Nat.le_of_ble_eq_true rfl) ?_
  refine U_aload (t := 0) dX3_init_4 rfl rfl ?_
  refine U_bipush (v := (nI 6)) dX3_init_5 (by decide) ?_
  refine U_newa (t := 0) (N := 6) (bt := 4) (ty := .int) (nm := "[I") dX3_init_7 rfl ac0 (fun _ => rfl) (fun _ _ => va_nm_int) (fun _ => rfl) (nI_pos (by decide)) (nI_clamp (by decide)) rfl (Nat.le_of_ble_eq_true rfl) (Nat.le_of_ble_eq_true rfl) (Nat.le_of_ble_eq_true rfl) ?_
  intro q7
  change UU _ _ _ _ _ _ _ _ _ _ _ [(h0, .inr (3, [.null, .null, .null, .int 0])), (q7, .inl (cA 0, 6, .inl (fun _ => 0)))] _ _
  refine U_putF (q0 := 0) (ci := 3) (kf := 0) (ty := .array .int) tyX3 dX3_init_9 rfl rfl wX3 tyX3_ok nmX3 rfl (by decide) flX3_9 rfl rfl rfl (by decide +kernel) rfl rfl (Nat.le_of_ble_eq_true rfl) ?_
  change UU _ _ _ _ _ _ _ _ _ _ _ [(h0, .inr (3, [.ref q7, .null, .null, .int 0])), (q7, .inl (cA 0, 6, .inl (fun _ => 0)))] _ _
  refine U_aload (t := 0) dX3_init_12 rfl rfl ?_
  refine U_bipush (v := (nI 6)) dX3_init_13 (by decide) ?_
  refine U_newa (t := 0) (N := 6) (bt := 4) (ty := .int) (nm := "[I") dX3_init_15 rfl ac0 (fun _ => rfl) (fun _ _ => va_nm_int) (fun _ => rfl) (nI_pos (by decide)) (nI_clamp (by decide)) rfl (Nat.le_of_ble_eq_true rfl) (Nat.le_of_ble_eq_true rfl) (Nat.le_of_ble_eq_true rfl) ?_
  intro q15
  change UU _ _ _ _ _ _ _ _ _ _ _ [(h0, .inr (3, [.ref q7, .null, .null, .int 0])), (q7, .inl (cA 0, 6, .inl (fun _ => 0))), (q15, .inl (cA 0, 6, .inl (fun _ => 0)))] _ _
  refine U_putF (q0 := 0) (ci := 3) (kf := 1) (ty := .array .int) tyX3 dX3_init_17 rfl rfl wX3 tyX3_ok nmX3 rfl (by decide) flX3_15 rfl rfl rfl (by decide +kernel) rfl rfl (Nat.le_of_ble_eq_true rfl) ?_
  change UU _ _ _ _ _ _ _ _ _ _ _ [(h0, .inr (3, [.ref q7, .ref q15, .null, .int 0])), (q7, .inl (cA 0, 6, .inl (fun _ => 0))), (q15, .inl (cA 0, 6, .inl (fun _ => 0)))] _ _
  refine U_aload (t := 0) dX3_init_20 rfl rfl ?_
  refine U_bipush (v := (nI 6)) dX3_init_21 (by decide) ?_
  refine U_newa (t := 0) (N := 6) (bt := 4) (ty := .int) (nm := "[I") dX3_init_23 rfl ac0 (fun _ => rfl) (fun _ _ => va_nm_int) (fun _ => rfl) (nI_pos (by decide)) (nI_clamp (by decide)) rfl (Nat.le_of_ble_eq_true rfl) (Nat.le_of_ble_eq_true rfl) (Nat.le_of_ble_eq_true rfl) ?_
  intro q23
  change UU _ _ _ _ _ _ _ _ _ _ _ [(h0, .inr (3, [.ref q7, .ref q15, .null, .int 0])), (q7, .inl (cA 0, 6, .inl (fun _ => 0))), (q15, .inl (cA 0, 6, .inl (fun _ => 0))), (q23, .inl (cA 0, 6, .inl (fun _ => 0)))] _ _
  refine U_putF (q0 := 0) (ci := 3) (kf := 2) (ty := .array .int) tyX3 dX3_init_25 rfl rfl wX3 tyX3_ok nmX3 rfl (by decide) flX3_18 rfl rfl rfl (by decide +kernel) rfl rfl (Nat.le_of_ble_eq_true rfl) ?_
  change UU _ _ _ _ _ _ _ _ _ _ _ [(h0, .inr (3, [.ref q7, .ref q15, .ref q23, .int 0])), (q7, .inl (cA 0, 6, .inl (fun _ => 0))), (q15, .inl (cA 0, 6, .inl (fun _ => 0))), (q23, .inl (cA 0, 6, .inl (fun _ => 0)))] _ _
  exact U_ret dX3_init_28 ⟨q7, q15, q23, rfl⟩
theorem mkX6 {h0 : Nat} : Mk l D cA uX6_init 1 2 14 [.ref h0] [(h0, .inr (6, [.null, .null, .int 0, .int 0]))] (fun u => ∃ (a0 : Nat) (a1 : Nat), u = [(h0, .inr (6, [.ref a0, .ref a1, .int 0, .int 0])), (a0, .inl (cA 0, 10, .inl (fun _ => 0))), (a1, .inl (cA 1, 4, .inl (fun _ => 0)))]) := by
  refine Mk.of kiX6.1 rfl (Nat.le_of_ble_eq_true rfl) ?_
  refine U_aload (t := 0) dX6_init_0 rfl rfl ?_
  refine U_obj dX6_init_1 oiX6 obj_i obj_c (Nat.le_of_ble_eq_true rfl) ?_
  refine U_aload (t := 0) dX6_init_4 rfl rfl ?_
  refine U_bipush (v := (nI 10)) dX6_init_5 (by decide) ?_
  refine U_newa (t := 0) (N := 10) (bt := 4) (ty := .int) (nm := "[I") dX6_init_7 rfl ac0 (fun _ => rfl) (fun _ _ => va_nm_int) (fun _ => rfl) (nI_pos (by decide)) (nI_clamp (by decide)) rfl (Nat.le_of_ble_eq_true rfl) (Nat.le_of_ble_eq_true rfl) (Nat.le_of_ble_eq_true rfl) ?_
  intro q7
  change UU _ _ _ _ _ _ _ _ _ _ _ [(h0, .inr (6, [.null, .null, .int 0, .int 0])), (q7, .inl (cA 0, 10, .inl (fun _ => 0)))] _ _
  refine U_putF (q0 := 0) (ci := 6) (kf := 0) (ty := .array .int) tyX6 dX6_init_9 rfl rfl wX6 tyX6_ok nmX6 rfl (by decide) flX6_9 rfl rfl rfl (by decide +kernel) rfl rfl (Nat.le_of_ble_eq_true rfl) ?_
  change UU _ _ _ _ _ _ _ _ _ _ _ [(h0, .inr (6, [.ref q7, .null, .int 0, .int 0])), (q7, .inl (cA 0, 10, .inl (fun _ => 0)))] _ _
  refine U_aload (t := 0) dX6_init_12 rfl rfl ?_
  refine U_iconst (v := (nI 4)) dX6_init_13 (by decide) ?_
  refine U_newa (t := 1) (N := 4) (bt := 1) (ty := .boolean) (nm := "[Z") dX6_init_14 rfl ac1 (fun _ => rfl) (fun _ _ => va_nm_boolean) (fun _ => rfl) (nI_pos (by decide)) (nI_clamp (by decide)) rfl (Nat.le_of_ble_eq_true rfl) (Nat.le_of_ble_eq_true rfl) (Nat.le_of_ble_eq_true rfl) ?_
  intro q14
  change UU _ _ _ _ _ _ _ _ _ _ _ [(h0, .inr (6, [.ref q7, .null, .int 0, .int 0])), (q7, .inl (cA 0, 10, .inl (fun _ => 0))), (q14, .inl (cA 1, 4, .inl (fun _ => 0)))] _ _
  refine U_putF (q0 := 0) (ci := 6) (kf := 1) (ty := .array .boolean) tyX6 dX6_init_16 rfl rfl wX6 tyX6_ok nmX6 rfl (by decide) flX6_15 rfl rfl rfl (by decide +kernel) rfl rfl (Nat.le_of_ble_eq_true rfl) ?_
  change UU _ _ _ _ _ _ _ _ _ _ _ [(h0, .inr (6, [.ref q7, .ref q14, .int 0, .int 0])), (q7, .inl (cA 0, 10, .inl (fun _ => 0))), (q14, .inl (cA 1, 4, .inl (fun _ => 0)))] _ _
  exact U_ret dX6_init_19 ⟨q7, q14, rfl⟩
theorem mkX2 {h0 : Nat} : Mk l D cA uX2_init 1 7 366 [.ref h0] [(h0, .inr (2, [.null, .int 0, .int 0]))] (fun u => ∃ (a0 : Nat) (a1 : Nat → Nat), u = [(h0, .inr (2, [.ref a0, .int 0, .int 0])), (a0, .inl (cA 4, 6, .inr (.inr (.inr (.inr (fun i => if i < 6 then some (a1 i) else none)))))), (a1 0, .inl (cA 0, 60, .inl (fun _ => 0))), (a1 1, .inl (cA 0, 60, .inl (fun _ => 0))), (a1 2, .inl (cA 0, 60, .inl (fun _ => 0))), (a1 3, .inl (cA 0, 60, .inl (fun _ => 0))), (a1 4, .inl (cA 0, 60, .inl (fun _ => 0))), (a1 5, .inl (cA 0, 60, .inl (fun _ => 0)))]) := by
  refine Mk.of kiX2.1 rfl (Nat.le_of_ble_eq_true rfl) ?_
  refine U_aload (t := 0) dX2_init_0 rfl rfl ?_
  refine U_obj dX2_init_1 oiX2 obj_i obj_c (Nat.le_of_ble_eq_true rfl) ?_
  refine U_aload (t := 0) dX2_init_4 rfl rfl ?_
  refine U_bipush (v := (nI 6)) dX2_init_5 (by decide) ?_
  refine U_bipush (v := (nI 60)) dX2_init_7 (by decide) ?_
  refine U_mna (N := 6) (K := 60) dX2_init_9 clX2_11 ac0 (nI_pos (by decide)) (nI_pos (by decide)) (nI_clamp (by decide)) (nI_clamp (by decide)) (Nat.le_of_ble_eq_true rfl) (Nat.le_of_ble_eq_true rfl) (Nat.le_of_ble_eq_true rfl) (Nat.le_of_ble_eq_true rfl) (Nat.le_of_ble_eq_true rfl) ?_
  intro q9 r9
  change UU _ _ _ _ _ _ _ _ _ _ _ [(h0, .inr (2, [.null, .int 0, .int 0])), (q9, .inl (cA 4, 6, .inr (.inr (.inr (.inr (fun i => if i < 6 then some (r9 i) else none)))))), (r9 0, .inl (cA 0, 60, .inl (fun _ => 0))), (r9 1, .inl (cA 0, 60, .inl (fun _ => 0))), (r9 2, .inl (cA 0, 60, .inl (fun _ => 0))), (r9 3, .inl (cA 0, 60, .inl (fun _ => 0))), (r9 4, .inl (cA 0, 60, .inl (fun _ => 0))), (r9 5, .inl (cA 0, 60, .inl (fun _ => 0)))] _ _
  refine U_putF (q0 := 0) (ci := 2) (kf := 0) (ty := .array (.array .int)) tyX2 dX2_init_13 rfl rfl wX2 tyX2_ok nmX2 rfl (by decide) flX2_13 rfl rfl rfl (by decide +kernel) rfl rfl (Nat.le_of_ble_eq_true rfl) ?_
  change UU _ _ _ _ _ _ _ _ _ _ _ [(h0, .inr (2, [.ref q9, .int 0, .int 0])), (q9, .inl (cA 4, 6, .inr (.inr (.inr (.inr (fun i => if i < 6 then some (r9 i) else none)))))), (r9 0, .inl (cA 0, 60, .inl (fun _ => 0))), (r9 1, .inl (cA 0, 60, .inl (fun _ => 0))), (r9 2, .inl (cA 0, 60, .inl (fun _ => 0))), (r9 3, .inl (cA 0, 60, .inl (fun _ => 0))), (r9 4, .inl (cA 0, 60, .inl (fun _ => 0))), (r9 5, .inl (cA 0, 60, .inl (fun _ => 0)))] _ _
  exact U_ret dX2_init_16 ⟨q9, r9, rfl⟩
theorem mkX4 {h0 : Nat} : Mk l D cA uX4_init 3 2 61 [.ref h0] [(h0, .inr (4, [.null, .int 0]))] (fun u => ∃ (a0 : Nat) (a1 : Nat), u = [(h0, .inr (4, [.ref a0, .int 0])), (a0, .inr (0, [.ref a1])), (a1, .inl (cA 0, 60, .inl clV))]) := by
  refine Mk.of kiX4.1 rfl (Nat.le_of_ble_eq_true rfl) ?_
  refine U_aload (t := 0) dX4_init_0 rfl rfl ?_
  refine U_obj dX4_init_1 oiX4 obj_i obj_c (Nat.le_of_ble_eq_true rfl) ?_
  refine U_aload (t := 0) dX4_init_4 rfl rfl ?_
  refine U_new (ci := 0) (fs := [.null]) tyX0 dX4_init_5 rfl wX0 tyX0_ok clX4_9 inX0 niX0 dfX0 (Nat.le_of_ble_eq_true rfl) (Nat.le_of_ble_eq_true rfl) ?_
  intro q5
  change UU _ _ _ _ _ _ _ _ _ _ _ [(h0, .inr (4, [.null, .int 0])), (q5, .inr (0, [.null]))] _ _
  refine U_dup dX4_init_8 ?_
  refine U_callI (ν := uX0_init) (wr := [(h0, .inr (4, [.null, .int 0]))]) dX4_init_9 nX4_11 kiX0.1 kiX0.2 rfl rfl rfl mkX0 (Nat.le_of_ble_eq_true rfl) (Nat.le_of_ble_eq_true rfl) (Nat.le_of_ble_eq_true rfl) [1] [0] rfl (by decide) rfl rfl (by decide) (by decide) (Nat.le_of_ble_eq_true rfl) ?_
  rintro _ ⟨b0_0_9, rfl⟩
  change UU _ _ _ _ _ _ _ _ _ _ _ [(h0, .inr (4, [.null, .int 0])), (q5, .inr (0, [.ref b0_0_9])), (b0_0_9, .inl (cA 0, 60, .inl clV))] _ _
  refine U_putF (q0 := 0) (ci := 4) (kf := 0) (ty := .object "SewnFields$Cloth") tyX4 dX4_init_12 rfl rfl wX4 tyX4_ok nmX4 rfl (by decide) flX4_12 rfl rfl rfl (by decide +kernel) rfl rfl (Nat.le_of_ble_eq_true rfl) ?_
  change UU _ _ _ _ _ _ _ _ _ _ _ [(h0, .inr (4, [.ref q5, .int 0])), (q5, .inr (0, [.ref b0_0_9])), (b0_0_9, .inl (cA 0, 60, .inl clV))] _ _
  exact U_ret dX4_init_15 ⟨q5, b0_0_9, rfl⟩
theorem mkX1 {h0 : Nat} : Mk l D cA uX1_init 2 8 339 [.ref h0] [(h0, .inr (1, [.null, .null, .null, .null, .null, .null, .int 0, .int 0]))] (fun u => ∃ (a0 : Nat) (a1 : Nat) (a2 : Nat) (a3 : Nat) (a4 : Nat) (a5 : Nat) (a6 : Nat) (a7 : Nat), u = [(h0, .inr (1, [.ref a0, .ref a7, .ref a3, .ref a4, .ref a5, .ref a6, .int 0, .int 0])), (a0, .inr (8, [.ref a1, .ref a2, .int 0])), (a1, .inl (cA 0, 48, .inl (fun _ => 0))), (a2, .inl (cA 0, 48, .inl (fun _ => 0))), (a3, .inl (cA 0, 48, .inl (fun _ => 0))), (a4, .inl (cA 0, 48, .inl (fun _ => 0))), (a5, .inl (cA 0, 48, .inl (fun _ => 0))), (a6, .inl (cA 1, 48, .inl (fun _ => 0))), (a7, .inl (cA 0, 48, .inl (fil (fun _ => 0) 48 (-9))))]) := by
  refine Mk.of kiX1.1 rfl (Nat.le_of_ble_eq_true rfl) ?_
  refine U_aload (t := 0) dX1_init_0 rfl rfl ?_
  refine U_obj dX1_init_1 oiX1 obj_i obj_c (Nat.le_of_ble_eq_true rfl) ?_
  refine U_aload (t := 0) dX1_init_4 rfl rfl ?_
  refine U_new (ci := 8) (fs := [.null, .null, .int 0]) tyX8 dX1_init_5 rfl wX8 tyX8_ok clX1_9 inX8 niX8 dfX8 (Nat.le_of_ble_eq_true rfl) (Nat.le_of_ble_eq_true rfl) ?_
  intro q5
  change UU _ _ _ _ _ _ _ _ _ _ _ [(h0, .inr (1, [.null, .null, .null, .null, .null, .null, .int 0, .int 0])), (q5, .inr (8, [.null, .null, .int 0]))] _ _
  refine U_dup dX1_init_8 ?_
  refine U_callI (ν := uX8_init) (wr := [(h0, .inr (1, [.null, .null, .null, .null, .null, .null, .int 0, .int 0]))]) dX1_init_9 nX1_11 kiX8.1 kiX8.2 rfl rfl rfl mkX8 (Nat.le_of_ble_eq_true rfl) (Nat.le_of_ble_eq_true rfl) (Nat.le_of_ble_eq_true rfl) [1] [0] rfl (by decide) rfl rfl (by decide) (by decide) (Nat.le_of_ble_eq_true rfl) ?_
  rintro _ ⟨b8_0_9, b8_1_9, rfl⟩
  change UU _ _ _ _ _ _ _ _ _ _ _ [(h0, .inr (1, [.null, .null, .null, .null, .null, .null, .int 0, .int 0])), (q5, .inr (8, [.ref b8_0_9, .ref b8_1_9, .int 0])), (b8_0_9, .inl (cA 0, 48, .inl (fun _ => 0))), (b8_1_9, .inl (cA 0, 48, .inl (fun _ => 0)))] _ _
  refine U_putF (q0 := 0) (ci := 1) (kf := 0) (ty := .object "SewnFields$Wave") tyX1 dX1_init_12 rfl rfl wX1 tyX1_ok nmX1 rfl (by decide) flX1_12 rfl rfl rfl (by decide +kernel) rfl rfl (Nat.le_of_ble_eq_true rfl) ?_
  change UU _ _ _ _ _ _ _ _ _ _ _ [(h0, .inr (1, [.ref q5, .null, .null, .null, .null, .null, .int 0, .int 0])), (q5, .inr (8, [.ref b8_0_9, .ref b8_1_9, .int 0])), (b8_0_9, .inl (cA 0, 48, .inl (fun _ => 0))), (b8_1_9, .inl (cA 0, 48, .inl (fun _ => 0)))] _ _
  refine U_aload (t := 0) dX1_init_15 rfl rfl ?_
  refine U_bipush (v := (nI 48)) dX1_init_16 (by decide) ?_
  refine U_newa (t := 0) (N := 48) (bt := 4) (ty := .int) (nm := "[I") dX1_init_18 rfl ac0 (fun _ => rfl) (fun _ _ => va_nm_int) (fun _ => rfl) (nI_pos (by decide)) (nI_clamp (by decide)) rfl (Nat.le_of_ble_eq_true rfl) (Nat.le_of_ble_eq_true rfl) (Nat.le_of_ble_eq_true rfl) ?_
  intro q18
  change UU _ _ _ _ _ _ _ _ _ _ _ [(h0, .inr (1, [.ref q5, .null, .null, .null, .null, .null, .int 0, .int 0])), (q5, .inr (8, [.ref b8_0_9, .ref b8_1_9, .int 0])), (b8_0_9, .inl (cA 0, 48, .inl (fun _ => 0))), (b8_1_9, .inl (cA 0, 48, .inl (fun _ => 0))), (q18, .inl (cA 0, 48, .inl (fun _ => 0)))] _ _
  refine U_putF (q0 := 0) (ci := 1) (kf := 1) (ty := .array .int) tyX1 dX1_init_20 rfl rfl wX1 tyX1_ok nmX1 rfl (by decide) flX1_18 rfl rfl rfl (by decide +kernel) rfl rfl (Nat.le_of_ble_eq_true rfl) ?_
  change UU _ _ _ _ _ _ _ _ _ _ _ [(h0, .inr (1, [.ref q5, .ref q18, .null, .null, .null, .null, .int 0, .int 0])), (q5, .inr (8, [.ref b8_0_9, .ref b8_1_9, .int 0])), (b8_0_9, .inl (cA 0, 48, .inl (fun _ => 0))), (b8_1_9, .inl (cA 0, 48, .inl (fun _ => 0))), (q18, .inl (cA 0, 48, .inl (fun _ => 0)))] _ _
  refine U_aload (t := 0) dX1_init_23 rfl rfl ?_
  refine U_bipush (v := (nI 48)) dX1_init_24 (by decide) ?_
  refine U_newa (t := 0) (N := 48) (bt := 4) (ty := .int) (nm := "[I") dX1_init_26 rfl ac0 (fun _ => rfl) (fun _ _ => va_nm_int) (fun _ => rfl) (nI_pos (by decide)) (nI_clamp (by decide)) rfl (Nat.le_of_ble_eq_true rfl) (Nat.le_of_ble_eq_true rfl) (Nat.le_of_ble_eq_true rfl) ?_
  intro q26
  change UU _ _ _ _ _ _ _ _ _ _ _ [(h0, .inr (1, [.ref q5, .ref q18, .null, .null, .null, .null, .int 0, .int 0])), (q5, .inr (8, [.ref b8_0_9, .ref b8_1_9, .int 0])), (b8_0_9, .inl (cA 0, 48, .inl (fun _ => 0))), (b8_1_9, .inl (cA 0, 48, .inl (fun _ => 0))), (q18, .inl (cA 0, 48, .inl (fun _ => 0))), (q26, .inl (cA 0, 48, .inl (fun _ => 0)))] _ _
  refine U_putF (q0 := 0) (ci := 1) (kf := 2) (ty := .array .int) tyX1 dX1_init_28 rfl rfl wX1 tyX1_ok nmX1 rfl (by decide) flX1_22 rfl rfl rfl (by decide +kernel) rfl rfl (Nat.le_of_ble_eq_true rfl) ?_
  change UU _ _ _ _ _ _ _ _ _ _ _ [(h0, .inr (1, [.ref q5, .ref q18, .ref q26, .null, .null, .null, .int 0, .int 0])), (q5, .inr (8, [.ref b8_0_9, .ref b8_1_9, .int 0])), (b8_0_9, .inl (cA 0, 48, .inl (fun _ => 0))), (b8_1_9, .inl (cA 0, 48, .inl (fun _ => 0))), (q18, .inl (cA 0, 48, .inl (fun _ => 0))), (q26, .inl (cA 0, 48, .inl (fun _ => 0)))] _ _
  refine U_aload (t := 0) dX1_init_31 rfl rfl ?_
  refine U_bipush (v := (nI 48)) dX1_init_32 (by decide) ?_
  refine U_newa (t := 0) (N := 48) (bt := 4) (ty := .int) (nm := "[I") dX1_init_34 rfl ac0 (fun _ => rfl) (fun _ _ => va_nm_int) (fun _ => rfl) (nI_pos (by decide)) (nI_clamp (by decide)) rfl (Nat.le_of_ble_eq_true rfl) (Nat.le_of_ble_eq_true rfl) (Nat.le_of_ble_eq_true rfl) ?_
  intro q34
  change UU _ _ _ _ _ _ _ _ _ _ _ [(h0, .inr (1, [.ref q5, .ref q18, .ref q26, .null, .null, .null, .int 0, .int 0])), (q5, .inr (8, [.ref b8_0_9, .ref b8_1_9, .int 0])), (b8_0_9, .inl (cA 0, 48, .inl (fun _ => 0))), (b8_1_9, .inl (cA 0, 48, .inl (fun _ => 0))), (q18, .inl (cA 0, 48, .inl (fun _ => 0))), (q26, .inl (cA 0, 48, .inl (fun _ => 0))), (q34, .inl (cA 0, 48, .inl (fun _ => 0)))] _ _
  refine U_putF (q0 := 0) (ci := 1) (kf := 3) (ty := .array .int) tyX1 dX1_init_36 rfl rfl wX1 tyX1_ok nmX1 rfl (by decide) flX1_25 rfl rfl rfl (by decide +kernel) rfl rfl (Nat.le_of_ble_eq_true rfl) ?_
  change UU _ _ _ _ _ _ _ _ _ _ _ [(h0, .inr (1, [.ref q5, .ref q18, .ref q26, .ref q34, .null, .null, .int 0, .int 0])), (q5, .inr (8, [.ref b8_0_9, .ref b8_1_9, .int 0])), (b8_0_9, .inl (cA 0, 48, .inl (fun _ => 0))), (b8_1_9, .inl (cA 0, 48, .inl (fun _ => 0))), (q18, .inl (cA 0, 48, .inl (fun _ => 0))), (q26, .inl (cA 0, 48, .inl (fun _ => 0))), (q34, .inl (cA 0, 48, .inl (fun _ => 0)))] _ _
  refine U_aload (t := 0) dX1_init_39 rfl rfl ?_
  refine U_bipush (v := (nI 48)) dX1_init_40 (by decide) ?_
  refine U_newa (t := 0) (N := 48) (bt := 4) (ty := .int) (nm := "[I") dX1_init_42 rfl ac0 (fun _ => rfl) (fun _ _ => va_nm_int) (fun _ => rfl) (nI_pos (by decide)) (nI_clamp (by decide)) rfl (Nat.le_of_ble_eq_true rfl) (Nat.le_of_ble_eq_true rfl) (Nat.le_of_ble_eq_true rfl) ?_
  intro q42
  change UU _ _ _ _ _ _ _ _ _ _ _ [(h0, .inr (1, [.ref q5, .ref q18, .ref q26, .ref q34, .null, .null, .int 0, .int 0])), (q5, .inr (8, [.ref b8_0_9, .ref b8_1_9, .int 0])), (b8_0_9, .inl (cA 0, 48, .inl (fun _ => 0))), (b8_1_9, .inl (cA 0, 48, .inl (fun _ => 0))), (q18, .inl (cA 0, 48, .inl (fun _ => 0))), (q26, .inl (cA 0, 48, .inl (fun _ => 0))), (q34, .inl (cA 0, 48, .inl (fun _ => 0))), (q42, .inl (cA 0, 48, .inl (fun _ => 0)))] _ _
  refine U_putF (q0 := 0) (ci := 1) (kf := 4) (ty := .array .int) tyX1 dX1_init_44 rfl rfl wX1 tyX1_ok nmX1 rfl (by decide) flX1_28 rfl rfl rfl (by decide +kernel) rfl rfl (Nat.le_of_ble_eq_true rfl) ?_
  change UU _ _ _ _ _ _ _ _ _ _ _ [(h0, .inr (1, [.ref q5, .ref q18, .ref q26, .ref q34, .ref q42, .null, .int 0, .int 0])), (q5, .inr (8, [.ref b8_0_9, .ref b8_1_9, .int 0])), (b8_0_9, .inl (cA 0, 48, .inl (fun _ => 0))), (b8_1_9, .inl (cA 0, 48, .inl (fun _ => 0))), (q18, .inl (cA 0, 48, .inl (fun _ => 0))), (q26, .inl (cA 0, 48, .inl (fun _ => 0))), (q34, .inl (cA 0, 48, .inl (fun _ => 0))), (q42, .inl (cA 0, 48, .inl (fun _ => 0)))] _ _
  refine U_aload (t := 0) dX1_init_47 rfl rfl ?_
  refine U_bipush (v := (nI 48)) dX1_init_48 (by decide) ?_
  refine U_newa (t := 1) (N := 48) (bt := 1) (ty := .boolean) (nm := "[Z") dX1_init_50 rfl ac1 (fun _ => rfl) (fun _ _ => va_nm_boolean) (fun _ => rfl) (nI_pos (by decide)) (nI_clamp (by decide)) rfl (Nat.le_of_ble_eq_true rfl) (Nat.le_of_ble_eq_true rfl) (Nat.le_of_ble_eq_true rfl) ?_
  intro q50
  change UU _ _ _ _ _ _ _ _ _ _ _ [(h0, .inr (1, [.ref q5, .ref q18, .ref q26, .ref q34, .ref q42, .null, .int 0, .int 0])), (q5, .inr (8, [.ref b8_0_9, .ref b8_1_9, .int 0])), (b8_0_9, .inl (cA 0, 48, .inl (fun _ => 0))), (b8_1_9, .inl (cA 0, 48, .inl (fun _ => 0))), (q18, .inl (cA 0, 48, .inl (fun _ => 0))), (q26, .inl (cA 0, 48, .inl (fun _ => 0))), (q34, .inl (cA 0, 48, .inl (fun _ => 0))), (q42, .inl (cA 0, 48, .inl (fun _ => 0))), (q50, .inl (cA 1, 48, .inl (fun _ => 0)))] _ _
  refine U_putF (q0 := 0) (ci := 1) (kf := 5) (ty := .array .boolean) tyX1 dX1_init_52 rfl rfl wX1 tyX1_ok nmX1 rfl (by decide) flX1_31 rfl rfl rfl (by decide +kernel) rfl rfl (Nat.le_of_ble_eq_true rfl) ?_
  change UU _ _ _ _ _ _ _ _ _ _ _ [(h0, .inr (1, [.ref q5, .ref q18, .ref q26, .ref q34, .ref q42, .ref q50, .int 0, .int 0])), (q5, .inr (8, [.ref b8_0_9, .ref b8_1_9, .int 0])), (b8_0_9, .inl (cA 0, 48, .inl (fun _ => 0))), (b8_1_9, .inl (cA 0, 48, .inl (fun _ => 0))), (q18, .inl (cA 0, 48, .inl (fun _ => 0))), (q26, .inl (cA 0, 48, .inl (fun _ => 0))), (q34, .inl (cA 0, 48, .inl (fun _ => 0))), (q42, .inl (cA 0, 48, .inl (fun _ => 0))), (q50, .inl (cA 1, 48, .inl (fun _ => 0)))] _ _
  refine U_aload (t := 0) dX1_init_55 rfl rfl ?_
  refine U_getR (q0 := 0) (ci := 1) (kf := 1) dX1_init_56 rfl rfl wX1 rfl (by decide) flX1_18 rfl rfl ?_
  refine U_bipush (v := (-9)) dX1_init_59 (by decide) ?_
  refine U_callS (ν := uJ7_fill_53178) (wr := [(h0, .inr (1, [.ref q5, .ref q18, .ref q26, .ref q34, .ref q42, .ref q50, .int 0, .int 0])), (q5, .inr (8, [.ref b8_0_9, .ref b8_1_9, .int 0])), (b8_0_9, .inl (cA 0, 48, .inl (fun _ => 0))), (b8_1_9, .inl (cA 0, 48, .inl (fun _ => 0))), (q26, .inl (cA 0, 48, .inl (fun _ => 0))), (q34, .inl (cA 0, 48, .inl (fun _ => 0))), (q42, .inl (cA 0, 48, .inl (fun _ => 0))), (q50, .inl (cA 1, 48, .inl (fun _ => 0)))]) dX1_init_61 mlX1_35 kJ7_fill_53178 rfl rfl (mk_fill (by decide)) (Nat.le_of_ble_eq_true rfl) (Nat.le_of_ble_eq_true rfl) (Nat.le_of_ble_eq_true rfl) [4] [0, 1, 2, 3, 5, 6, 7, 8] rfl (by decide) rfl rfl (by decide) (by decide) (Nat.le_of_ble_eq_true rfl) ?_
  rintro _ rfl
  change UU _ _ _ _ _ _ _ _ _ _ _ [(h0, .inr (1, [.ref q5, .ref q18, .ref q26, .ref q34, .ref q42, .ref q50, .int 0, .int 0])), (q5, .inr (8, [.ref b8_0_9, .ref b8_1_9, .int 0])), (b8_0_9, .inl (cA 0, 48, .inl (fun _ => 0))), (b8_1_9, .inl (cA 0, 48, .inl (fun _ => 0))), (q26, .inl (cA 0, 48, .inl (fun _ => 0))), (q34, .inl (cA 0, 48, .inl (fun _ => 0))), (q42, .inl (cA 0, 48, .inl (fun _ => 0))), (q50, .inl (cA 1, 48, .inl (fun _ => 0))), (q18, .inl (cA 0, 48, .inl (fil (fun _ => 0) 48 (-9))))] _ _
  exact U_ret dX1_init_64 ⟨q5, b8_0_9, b8_1_9, q26, q34, q42, q50, q18, rfl⟩
theorem mkX5 {h0 : Nat} : Mk l D cA uX5_init 2 13 579 [.ref h0] [(h0, .inr (5, [.null, .null, .null, .null, .null, .null, .null, .null, .null, .null, .null, .int 0, .int 0, .int 0, .int 0]))] (fun u => ∃ (a0 : Nat) (a1 : Nat) (a2 : Nat) (a3 : Nat) (a4 : Nat) (a5 : Nat) (a6 : Nat) (a7 : Nat) (a8 : Nat) (a9 : Nat) (a10 : Nat) (a11 : Nat) (a12 : Nat), u = [(h0, .inr (5, [.ref a0, .ref a3, .ref a4, .ref a5, .ref a6, .ref a7, .ref a8, .ref a9, .ref a10, .ref a11, .ref a12, .int 0, .int 0, .int 0, .int 0])), (a0, .inr (8, [.ref a1, .ref a2, .int 0])), (a1, .inl (cA 0, 48, .inl (fun _ => 0))), (a2, .inl (cA 0, 48, .inl (fun _ => 0))), (a3, .inl (cA 0, 48, .inl (fun _ => 0))), (a4, .inl (cA 0, 48, .inl (fun _ => 0))), (a5, .inl (cA 0, 48, .inl (fun _ => 0))), (a6, .inl (cA 0, 48, .inl (fun _ => 0))), (a7, .inl (cA 0, 48, .inl (fun _ => 0))), (a8, .inl (cA 0, 48, .inl (fun _ => 0))), (a9, .inl (cA 0, 48, .inl (fun _ => 0))), (a10, .inl (cA 0, 48, .inl (fun _ => 0))), (a11, .inl (cA 0, 48, .inl (fun _ => 0))), (a12, .inl (cA 1, 48, .inl (fun _ => 0)))]) := by
  refine Mk.of kiX5.1 rfl (Nat.le_of_ble_eq_true rfl) ?_
  refine U_aload (t := 0) dX5_init_0 rfl rfl ?_
  refine U_obj dX5_init_1 oiX5 obj_i obj_c (Nat.le_of_ble_eq_true rfl) ?_
  refine U_aload (t := 0) dX5_init_4 rfl rfl ?_
  refine U_new (ci := 8) (fs := [.null, .null, .int 0]) tyX8 dX5_init_5 rfl wX8 tyX8_ok clX5_9 inX8 niX8 dfX8 (Nat.le_of_ble_eq_true rfl) (Nat.le_of_ble_eq_true rfl) ?_
  intro q5
  change UU _ _ _ _ _ _ _ _ _ _ _ [(h0, .inr (5, [.null, .null, .null, .null, .null, .null, .null, .null, .null, .null, .null, .int 0, .int 0, .int 0, .int 0])), (q5, .inr (8, [.null, .null, .int 0]))] _ _
  refine U_dup dX5_init_8 ?_
  refine U_callI (ν := uX8_init) (wr := [(h0, .inr (5, [.null, .null, .null, .null, .null, .null, .null, .null, .null, .null, .null, .int 0, .int 0, .int 0, .int 0]))]) dX5_init_9 nX5_11 kiX8.1 kiX8.2 rfl rfl rfl mkX8 (Nat.le_of_ble_eq_true rfl) (Nat.le_of_ble_eq_true rfl) (Nat.le_of_ble_eq_true rfl) [1] [0] rfl (by decide) rfl rfl (by decide) (by decide) (Nat.le_of_ble_eq_true rfl) ?_
  rintro _ ⟨b8_0_9, b8_1_9, rfl⟩
  change UU _ _ _ _ _ _ _ _ _ _ _ [(h0, .inr (5, [.null, .null, .null, .null, .null, .null, .null, .null, .null, .null, .null, .int 0, .int 0, .int 0, .int 0])), (q5, .inr (8, [.ref b8_0_9, .ref b8_1_9, .int 0])), (b8_0_9, .inl (cA 0, 48, .inl (fun _ => 0))), (b8_1_9, .inl (cA 0, 48, .inl (fun _ => 0)))] _ _
  refine U_putF (q0 := 0) (ci := 5) (kf := 0) (ty := .object "SewnFields$Wave") tyX5 dX5_init_12 rfl rfl wX5 tyX5_ok nmX5 rfl (by decide) flX5_12 rfl rfl rfl (by decide +kernel) rfl rfl (Nat.le_of_ble_eq_true rfl) ?_
  change UU _ _ _ _ _ _ _ _ _ _ _ [(h0, .inr (5, [.ref q5, .null, .null, .null, .null, .null, .null, .null, .null, .null, .null, .int 0, .int 0, .int 0, .int 0])), (q5, .inr (8, [.ref b8_0_9, .ref b8_1_9, .int 0])), (b8_0_9, .inl (cA 0, 48, .inl (fun _ => 0))), (b8_1_9, .inl (cA 0, 48, .inl (fun _ => 0)))] _ _
  refine U_aload (t := 0) dX5_init_15 rfl rfl ?_
  refine U_bipush (v := (nI 48)) dX5_init_16 (by decide) ?_
  refine U_newa (t := 0) (N := 48) (bt := 4) (ty := .int) (nm := "[I") dX5_init_18 rfl ac0 (fun _ => rfl) (fun _ _ => va_nm_int) (fun _ => rfl) (nI_pos (by decide)) (nI_clamp (by decide)) rfl (Nat.le_of_ble_eq_true rfl) (Nat.le_of_ble_eq_true rfl) (Nat.le_of_ble_eq_true rfl) ?_
  intro q18
  change UU _ _ _ _ _ _ _ _ _ _ _ [(h0, .inr (5, [.ref q5, .null, .null, .null, .null, .null, .null, .null, .null, .null, .null, .int 0, .int 0, .int 0, .int 0])), (q5, .inr (8, [.ref b8_0_9, .ref b8_1_9, .int 0])), (b8_0_9, .inl (cA 0, 48, .inl (fun _ => 0))), (b8_1_9, .inl (cA 0, 48, .inl (fun _ => 0))), (q18, .inl (cA 0, 48, .inl (fun _ => 0)))] _ _
  refine U_putF (q0 := 0) (ci := 5) (kf := 1) (ty := .array .int) tyX5 dX5_init_20 rfl rfl wX5 tyX5_ok nmX5 rfl (by decide) flX5_18 rfl rfl rfl (by decide +kernel) rfl rfl (Nat.le_of_ble_eq_true rfl) ?_
  change UU _ _ _ _ _ _ _ _ _ _ _ [(h0, .inr (5, [.ref q5, .ref q18, .null, .null, .null, .null, .null, .null, .null, .null, .null, .int 0, .int 0, .int 0, .int 0])), (q5, .inr (8, [.ref b8_0_9, .ref b8_1_9, .int 0])), (b8_0_9, .inl (cA 0, 48, .inl (fun _ => 0))), (b8_1_9, .inl (cA 0, 48, .inl (fun _ => 0))), (q18, .inl (cA 0, 48, .inl (fun _ => 0)))] _ _
  refine U_aload (t := 0) dX5_init_23 rfl rfl ?_
  refine U_bipush (v := (nI 48)) dX5_init_24 (by decide) ?_
  refine U_newa (t := 0) (N := 48) (bt := 4) (ty := .int) (nm := "[I") dX5_init_26 rfl ac0 (fun _ => rfl) (fun _ _ => va_nm_int) (fun _ => rfl) (nI_pos (by decide)) (nI_clamp (by decide)) rfl (Nat.le_of_ble_eq_true rfl) (Nat.le_of_ble_eq_true rfl) (Nat.le_of_ble_eq_true rfl) ?_
  intro q26
  change UU _ _ _ _ _ _ _ _ _ _ _ [(h0, .inr (5, [.ref q5, .ref q18, .null, .null, .null, .null, .null, .null, .null, .null, .null, .int 0, .int 0, .int 0, .int 0])), (q5, .inr (8, [.ref b8_0_9, .ref b8_1_9, .int 0])), (b8_0_9, .inl (cA 0, 48, .inl (fun _ => 0))), (b8_1_9, .inl (cA 0, 48, .inl (fun _ => 0))), (q18, .inl (cA 0, 48, .inl (fun _ => 0))), (q26, .inl (cA 0, 48, .inl (fun _ => 0)))] _ _
  refine U_putF (q0 := 0) (ci := 5) (kf := 2) (ty := .array .int) tyX5 dX5_init_28 rfl rfl wX5 tyX5_ok nmX5 rfl (by decide) flX5_22 rfl rfl rfl (by decide +kernel) rfl rfl (Nat.le_of_ble_eq_true rfl) ?_
  change UU _ _ _ _ _ _ _ _ _ _ _ [(h0, .inr (5, [.ref q5, .ref q18, .ref q26, .null, .null, .null, .null, .null, .null, .null, .null, .int 0, .int 0, .int 0, .int 0])), (q5, .inr (8, [.ref b8_0_9, .ref b8_1_9, .int 0])), (b8_0_9, .inl (cA 0, 48, .inl (fun _ => 0))), (b8_1_9, .inl (cA 0, 48, .inl (fun _ => 0))), (q18, .inl (cA 0, 48, .inl (fun _ => 0))), (q26, .inl (cA 0, 48, .inl (fun _ => 0)))] _ _
  refine U_aload (t := 0) dX5_init_31 rfl rfl ?_
  refine U_bipush (v := (nI 48)) dX5_init_32 (by decide) ?_
  refine U_newa (t := 0) (N := 48) (bt := 4) (ty := .int) (nm := "[I") dX5_init_34 rfl ac0 (fun _ => rfl) (fun _ _ => va_nm_int) (fun _ => rfl) (nI_pos (by decide)) (nI_clamp (by decide)) rfl (Nat.le_of_ble_eq_true rfl) (Nat.le_of_ble_eq_true rfl) (Nat.le_of_ble_eq_true rfl) ?_
  intro q34
  change UU _ _ _ _ _ _ _ _ _ _ _ [(h0, .inr (5, [.ref q5, .ref q18, .ref q26, .null, .null, .null, .null, .null, .null, .null, .null, .int 0, .int 0, .int 0, .int 0])), (q5, .inr (8, [.ref b8_0_9, .ref b8_1_9, .int 0])), (b8_0_9, .inl (cA 0, 48, .inl (fun _ => 0))), (b8_1_9, .inl (cA 0, 48, .inl (fun _ => 0))), (q18, .inl (cA 0, 48, .inl (fun _ => 0))), (q26, .inl (cA 0, 48, .inl (fun _ => 0))), (q34, .inl (cA 0, 48, .inl (fun _ => 0)))] _ _
  refine U_putF (q0 := 0) (ci := 5) (kf := 3) (ty := .array .int) tyX5 dX5_init_36 rfl rfl wX5 tyX5_ok nmX5 rfl (by decide) flX5_25 rfl rfl rfl (by decide +kernel) rfl rfl (Nat.le_of_ble_eq_true rfl) ?_
  change UU _ _ _ _ _ _ _ _ _ _ _ [(h0, .inr (5, [.ref q5, .ref q18, .ref q26, .ref q34, .null, .null, .null, .null, .null, .null, .null, .int 0, .int 0, .int 0, .int 0])), (q5, .inr (8, [.ref b8_0_9, .ref b8_1_9, .int 0])), (b8_0_9, .inl (cA 0, 48, .inl (fun _ => 0))), (b8_1_9, .inl (cA 0, 48, .inl (fun _ => 0))), (q18, .inl (cA 0, 48, .inl (fun _ => 0))), (q26, .inl (cA 0, 48, .inl (fun _ => 0))), (q34, .inl (cA 0, 48, .inl (fun _ => 0)))] _ _
  refine U_aload (t := 0) dX5_init_39 rfl rfl ?_
  refine U_bipush (v := (nI 48)) dX5_init_40 (by decide) ?_
  refine U_newa (t := 0) (N := 48) (bt := 4) (ty := .int) (nm := "[I") dX5_init_42 rfl ac0 (fun _ => rfl) (fun _ _ => va_nm_int) (fun _ => rfl) (nI_pos (by decide)) (nI_clamp (by decide)) rfl (Nat.le_of_ble_eq_true rfl) (Nat.le_of_ble_eq_true rfl) (Nat.le_of_ble_eq_true rfl) ?_
  intro q42
  change UU _ _ _ _ _ _ _ _ _ _ _ [(h0, .inr (5, [.ref q5, .ref q18, .ref q26, .ref q34, .null, .null, .null, .null, .null, .null, .null, .int 0, .int 0, .int 0, .int 0])), (q5, .inr (8, [.ref b8_0_9, .ref b8_1_9, .int 0])), (b8_0_9, .inl (cA 0, 48, .inl (fun _ => 0))), (b8_1_9, .inl (cA 0, 48, .inl (fun _ => 0))), (q18, .inl (cA 0, 48, .inl (fun _ => 0))), (q26, .inl (cA 0, 48, .inl (fun _ => 0))), (q34, .inl (cA 0, 48, .inl (fun _ => 0))), (q42, .inl (cA 0, 48, .inl (fun _ => 0)))] _ _
  refine U_putF (q0 := 0) (ci := 5) (kf := 4) (ty := .array .int) tyX5 dX5_init_44 rfl rfl wX5 tyX5_ok nmX5 rfl (by decide) flX5_28 rfl rfl rfl (by decide +kernel) rfl rfl (Nat.le_of_ble_eq_true rfl) ?_
  change UU _ _ _ _ _ _ _ _ _ _ _ [(h0, .inr (5, [.ref q5, .ref q18, .ref q26, .ref q34, .ref q42, .null, .null, .null, .null, .null, .null, .int 0, .int 0, .int 0, .int 0])), (q5, .inr (8, [.ref b8_0_9, .ref b8_1_9, .int 0])), (b8_0_9, .inl (cA 0, 48, .inl (fun _ => 0))), (b8_1_9, .inl (cA 0, 48, .inl (fun _ => 0))), (q18, .inl (cA 0, 48, .inl (fun _ => 0))), (q26, .inl (cA 0, 48, .inl (fun _ => 0))), (q34, .inl (cA 0, 48, .inl (fun _ => 0))), (q42, .inl (cA 0, 48, .inl (fun _ => 0)))] _ _
  refine U_aload (t := 0) dX5_init_47 rfl rfl ?_
  refine U_bipush (v := (nI 48)) dX5_init_48 (by decide) ?_
  refine U_newa (t := 0) (N := 48) (bt := 4) (ty := .int) (nm := "[I") dX5_init_50 rfl ac0 (fun _ => rfl) (fun _ _ => va_nm_int) (fun _ => rfl) (nI_pos (by decide)) (nI_clamp (by decide)) rfl (Nat.le_of_ble_eq_true rfl) (Nat.le_of_ble_eq_true rfl) (Nat.le_of_ble_eq_true rfl) ?_
  intro q50
  change UU _ _ _ _ _ _ _ _ _ _ _ [(h0, .inr (5, [.ref q5, .ref q18, .ref q26, .ref q34, .ref q42, .null, .null, .null, .null, .null, .null, .int 0, .int 0, .int 0, .int 0])), (q5, .inr (8, [.ref b8_0_9, .ref b8_1_9, .int 0])), (b8_0_9, .inl (cA 0, 48, .inl (fun _ => 0))), (b8_1_9, .inl (cA 0, 48, .inl (fun _ => 0))), (q18, .inl (cA 0, 48, .inl (fun _ => 0))), (q26, .inl (cA 0, 48, .inl (fun _ => 0))), (q34, .inl (cA 0, 48, .inl (fun _ => 0))), (q42, .inl (cA 0, 48, .inl (fun _ => 0))), (q50, .inl (cA 0, 48, .inl (fun _ => 0)))] _ _
  refine U_putF (q0 := 0) (ci := 5) (kf := 5) (ty := .array .int) tyX5 dX5_init_52 rfl rfl wX5 tyX5_ok nmX5 rfl (by decide) flX5_31 rfl rfl rfl (by decide +kernel) rfl rfl (Nat.le_of_ble_eq_true rfl) ?_
  change UU _ _ _ _ _ _ _ _ _ _ _ [(h0, .inr (5, [.ref q5, .ref q18, .ref q26, .ref q34, .ref q42, .ref q50, .null, .null, .null, .null, .null, .int 0, .int 0, .int 0, .int 0])), (q5, .inr (8, [.ref b8_0_9, .ref b8_1_9, .int 0])), (b8_0_9, .inl (cA 0, 48, .inl (fun _ => 0))), (b8_1_9, .inl (cA 0, 48, .inl (fun _ => 0))), (q18, .inl (cA 0, 48, .inl (fun _ => 0))), (q26, .inl (cA 0, 48, .inl (fun _ => 0))), (q34, .inl (cA 0, 48, .inl (fun _ => 0))), (q42, .inl (cA 0, 48, .inl (fun _ => 0))), (q50, .inl (cA 0, 48, .inl (fun _ => 0)))] _ _
  refine U_aload (t := 0) dX5_init_55 rfl rfl ?_
  refine U_bipush (v := (nI 48)) dX5_init_56 (by decide) ?_
  refine U_newa (t := 0) (N := 48) (bt := 4) (ty := .int) (nm := "[I") dX5_init_58 rfl ac0 (fun _ => rfl) (fun _ _ => va_nm_int) (fun _ => rfl) (nI_pos (by decide)) (nI_clamp (by decide)) rfl (Nat.le_of_ble_eq_true rfl) (Nat.le_of_ble_eq_true rfl) (Nat.le_of_ble_eq_true rfl) ?_
  intro q58
  change UU _ _ _ _ _ _ _ _ _ _ _ [(h0, .inr (5, [.ref q5, .ref q18, .ref q26, .ref q34, .ref q42, .ref q50, .null, .null, .null, .null, .null, .int 0, .int 0, .int 0, .int 0])), (q5, .inr (8, [.ref b8_0_9, .ref b8_1_9, .int 0])), (b8_0_9, .inl (cA 0, 48, .inl (fun _ => 0))), (b8_1_9, .inl (cA 0, 48, .inl (fun _ => 0))), (q18, .inl (cA 0, 48, .inl (fun _ => 0))), (q26, .inl (cA 0, 48, .inl (fun _ => 0))), (q34, .inl (cA 0, 48, .inl (fun _ => 0))), (q42, .inl (cA 0, 48, .inl (fun _ => 0))), (q50, .inl (cA 0, 48, .inl (fun _ => 0))), (q58, .inl (cA 0, 48, .inl (fun _ => 0)))] _ _
  refine U_putF (q0 := 0) (ci := 5) (kf := 6) (ty := .array .int) tyX5 dX5_init_60 rfl rfl wX5 tyX5_ok nmX5 rfl (by decide) flX5_34 rfl rfl rfl (by decide +kernel) rfl rfl (Nat.le_of_ble_eq_true rfl) ?_
  change UU _ _ _ _ _ _ _ _ _ _ _ [(h0, .inr (5, [.ref q5, .ref q18, .ref q26, .ref q34, .ref q42, .ref q50, .ref q58, .null, .null, .null, .null, .int 0, .int 0, .int 0, .int 0])), (q5, .inr (8, [.ref b8_0_9, .ref b8_1_9, .int 0])), (b8_0_9, .inl (cA 0, 48, .inl (fun _ => 0))), (b8_1_9, .inl (cA 0, 48, .inl (fun _ => 0))), (q18, .inl (cA 0, 48, .inl (fun _ => 0))), (q26, .inl (cA 0, 48, .inl (fun _ => 0))), (q34, .inl (cA 0, 48, .inl (fun _ => 0))), (q42, .inl (cA 0, 48, .inl (fun _ => 0))), (q50, .inl (cA 0, 48, .inl (fun _ => 0))), (q58, .inl (cA 0, 48, .inl (fun _ => 0)))] _ _
  refine U_aload (t := 0) dX5_init_63 rfl rfl ?_
  refine U_bipush (v := (nI 48)) dX5_init_64 (by decide) ?_
  refine U_newa (t := 0) (N := 48) (bt := 4) (ty := .int) (nm := "[I") dX5_init_66 rfl ac0 (fun _ => rfl) (fun _ _ => va_nm_int) (fun _ => rfl) (nI_pos (by decide)) (nI_clamp (by decide)) rfl (Nat.le_of_ble_eq_true rfl) (Nat.le_of_ble_eq_true rfl) (Nat.le_of_ble_eq_true rfl) ?_
  intro q66
  change UU _ _ _ _ _ _ _ _ _ _ _ [(h0, .inr (5, [.ref q5, .ref q18, .ref q26, .ref q34, .ref q42, .ref q50, .ref q58, .null, .null, .null, .null, .int 0, .int 0, .int 0, .int 0])), (q5, .inr (8, [.ref b8_0_9, .ref b8_1_9, .int 0])), (b8_0_9, .inl (cA 0, 48, .inl (fun _ => 0))), (b8_1_9, .inl (cA 0, 48, .inl (fun _ => 0))), (q18, .inl (cA 0, 48, .inl (fun _ => 0))), (q26, .inl (cA 0, 48, .inl (fun _ => 0))), (q34, .inl (cA 0, 48, .inl (fun _ => 0))), (q42, .inl (cA 0, 48, .inl (fun _ => 0))), (q50, .inl (cA 0, 48, .inl (fun _ => 0))), (q58, .inl (cA 0, 48, .inl (fun _ => 0))), (q66, .inl (cA 0, 48, .inl (fun _ => 0)))] _ _
  refine U_putF (q0 := 0) (ci := 5) (kf := 7) (ty := .array .int) tyX5 dX5_init_68 rfl rfl wX5 tyX5_ok nmX5 rfl (by decide) flX5_37 rfl rfl rfl (by decide +kernel) rfl rfl (Nat.le_of_ble_eq_true rfl) ?_
  change UU _ _ _ _ _ _ _ _ _ _ _ [(h0, .inr (5, [.ref q5, .ref q18, .ref q26, .ref q34, .ref q42, .ref q50, .ref q58, .ref q66, .null, .null, .null, .int 0, .int 0, .int 0, .int 0])), (q5, .inr (8, [.ref b8_0_9, .ref b8_1_9, .int 0])), (b8_0_9, .inl (cA 0, 48, .inl (fun _ => 0))), (b8_1_9, .inl (cA 0, 48, .inl (fun _ => 0))), (q18, .inl (cA 0, 48, .inl (fun _ => 0))), (q26, .inl (cA 0, 48, .inl (fun _ => 0))), (q34, .inl (cA 0, 48, .inl (fun _ => 0))), (q42, .inl (cA 0, 48, .inl (fun _ => 0))), (q50, .inl (cA 0, 48, .inl (fun _ => 0))), (q58, .inl (cA 0, 48, .inl (fun _ => 0))), (q66, .inl (cA 0, 48, .inl (fun _ => 0)))] _ _
  refine U_aload (t := 0) dX5_init_71 rfl rfl ?_
  refine U_bipush (v := (nI 48)) dX5_init_72 (by decide) ?_
  refine U_newa (t := 0) (N := 48) (bt := 4) (ty := .int) (nm := "[I") dX5_init_74 rfl ac0 (fun _ => rfl) (fun _ _ => va_nm_int) (fun _ => rfl) (nI_pos (by decide)) (nI_clamp (by decide)) rfl (Nat.le_of_ble_eq_true rfl) (Nat.le_of_ble_eq_true rfl) (Nat.le_of_ble_eq_true rfl) ?_
  intro q74
  change UU _ _ _ _ _ _ _ _ _ _ _ [(h0, .inr (5, [.ref q5, .ref q18, .ref q26, .ref q34, .ref q42, .ref q50, .ref q58, .ref q66, .null, .null, .null, .int 0, .int 0, .int 0, .int 0])), (q5, .inr (8, [.ref b8_0_9, .ref b8_1_9, .int 0])), (b8_0_9, .inl (cA 0, 48, .inl (fun _ => 0))), (b8_1_9, .inl (cA 0, 48, .inl (fun _ => 0))), (q18, .inl (cA 0, 48, .inl (fun _ => 0))), (q26, .inl (cA 0, 48, .inl (fun _ => 0))), (q34, .inl (cA 0, 48, .inl (fun _ => 0))), (q42, .inl (cA 0, 48, .inl (fun _ => 0))), (q50, .inl (cA 0, 48, .inl (fun _ => 0))), (q58, .inl (cA 0, 48, .inl (fun _ => 0))), (q66, .inl (cA 0, 48, .inl (fun _ => 0))), (q74, .inl (cA 0, 48, .inl (fun _ => 0)))] _ _
  refine U_putF (q0 := 0) (ci := 5) (kf := 8) (ty := .array .int) tyX5 dX5_init_76 rfl rfl wX5 tyX5_ok nmX5 rfl (by decide) flX5_40 rfl rfl rfl (by decide +kernel) rfl rfl (Nat.le_of_ble_eq_true rfl) ?_
  change UU _ _ _ _ _ _ _ _ _ _ _ [(h0, .inr (5, [.ref q5, .ref q18, .ref q26, .ref q34, .ref q42, .ref q50, .ref q58, .ref q66, .ref q74, .null, .null, .int 0, .int 0, .int 0, .int 0])), (q5, .inr (8, [.ref b8_0_9, .ref b8_1_9, .int 0])), (b8_0_9, .inl (cA 0, 48, .inl (fun _ => 0))), (b8_1_9, .inl (cA 0, 48, .inl (fun _ => 0))), (q18, .inl (cA 0, 48, .inl (fun _ => 0))), (q26, .inl (cA 0, 48, .inl (fun _ => 0))), (q34, .inl (cA 0, 48, .inl (fun _ => 0))), (q42, .inl (cA 0, 48, .inl (fun _ => 0))), (q50, .inl (cA 0, 48, .inl (fun _ => 0))), (q58, .inl (cA 0, 48, .inl (fun _ => 0))), (q66, .inl (cA 0, 48, .inl (fun _ => 0))), (q74, .inl (cA 0, 48, .inl (fun _ => 0)))] _ _
  refine U_aload (t := 0) dX5_init_79 rfl rfl ?_
  refine U_bipush (v := (nI 48)) dX5_init_80 (by decide) ?_
  refine U_newa (t := 0) (N := 48) (bt := 4) (ty := .int) (nm := "[I") dX5_init_82 rfl ac0 (fun _ => rfl) (fun _ _ => va_nm_int) (fun _ => rfl) (nI_pos (by decide)) (nI_clamp (by decide)) rfl (Nat.le_of_ble_eq_true rfl) (Nat.le_of_ble_eq_true rfl) (Nat.le_of_ble_eq_true rfl) ?_
  intro q82
  change UU _ _ _ _ _ _ _ _ _ _ _ [(h0, .inr (5, [.ref q5, .ref q18, .ref q26, .ref q34, .ref q42, .ref q50, .ref q58, .ref q66, .ref q74, .null, .null, .int 0, .int 0, .int 0, .int 0])), (q5, .inr (8, [.ref b8_0_9, .ref b8_1_9, .int 0])), (b8_0_9, .inl (cA 0, 48, .inl (fun _ => 0))), (b8_1_9, .inl (cA 0, 48, .inl (fun _ => 0))), (q18, .inl (cA 0, 48, .inl (fun _ => 0))), (q26, .inl (cA 0, 48, .inl (fun _ => 0))), (q34, .inl (cA 0, 48, .inl (fun _ => 0))), (q42, .inl (cA 0, 48, .inl (fun _ => 0))), (q50, .inl (cA 0, 48, .inl (fun _ => 0))), (q58, .inl (cA 0, 48, .inl (fun _ => 0))), (q66, .inl (cA 0, 48, .inl (fun _ => 0))), (q74, .inl (cA 0, 48, .inl (fun _ => 0))), (q82, .inl (cA 0, 48, .inl (fun _ => 0)))] _ _
  refine U_putF (q0 := 0) (ci := 5) (kf := 9) (ty := .array .int) tyX5 dX5_init_84 rfl rfl wX5 tyX5_ok nmX5 rfl (by decide) flX5_43 rfl rfl rfl (by decide +kernel) rfl rfl (Nat.le_of_ble_eq_true rfl) ?_
  change UU _ _ _ _ _ _ _ _ _ _ _ [(h0, .inr (5, [.ref q5, .ref q18, .ref q26, .ref q34, .ref q42, .ref q50, .ref q58, .ref q66, .ref q74, .ref q82, .null, .int 0, .int 0, .int 0, .int 0])), (q5, .inr (8, [.ref b8_0_9, .ref b8_1_9, .int 0])), (b8_0_9, .inl (cA 0, 48, .inl (fun _ => 0))), (b8_1_9, .inl (cA 0, 48, .inl (fun _ => 0))), (q18, .inl (cA 0, 48, .inl (fun _ => 0))), (q26, .inl (cA 0, 48, .inl (fun _ => 0))), (q34, .inl (cA 0, 48, .inl (fun _ => 0))), (q42, .inl (cA 0, 48, .inl (fun _ => 0))), (q50, .inl (cA 0, 48, .inl (fun _ => 0))), (q58, .inl (cA 0, 48, .inl (fun _ => 0))), (q66, .inl (cA 0, 48, .inl (fun _ => 0))), (q74, .inl (cA 0, 48, .inl (fun _ => 0))), (q82, .inl (cA 0, 48, .inl (fun _ => 0)))] _ _
  refine U_aload (t := 0) dX5_init_87 rfl rfl ?_
  refine U_bipush (v := (nI 48)) dX5_init_88 (by decide) ?_
  refine U_newa (t := 1) (N := 48) (bt := 1) (ty := .boolean) (nm := "[Z") dX5_init_90 rfl ac1 (fun _ => rfl) (fun _ _ => va_nm_boolean) (fun _ => rfl) (nI_pos (by decide)) (nI_clamp (by decide)) rfl (Nat.le_of_ble_eq_true rfl) (Nat.le_of_ble_eq_true rfl) (Nat.le_of_ble_eq_true rfl) ?_
  intro q90
  change UU _ _ _ _ _ _ _ _ _ _ _ [(h0, .inr (5, [.ref q5, .ref q18, .ref q26, .ref q34, .ref q42, .ref q50, .ref q58, .ref q66, .ref q74, .ref q82, .null, .int 0, .int 0, .int 0, .int 0])), (q5, .inr (8, [.ref b8_0_9, .ref b8_1_9, .int 0])), (b8_0_9, .inl (cA 0, 48, .inl (fun _ => 0))), (b8_1_9, .inl (cA 0, 48, .inl (fun _ => 0))), (q18, .inl (cA 0, 48, .inl (fun _ => 0))), (q26, .inl (cA 0, 48, .inl (fun _ => 0))), (q34, .inl (cA 0, 48, .inl (fun _ => 0))), (q42, .inl (cA 0, 48, .inl (fun _ => 0))), (q50, .inl (cA 0, 48, .inl (fun _ => 0))), (q58, .inl (cA 0, 48, .inl (fun _ => 0))), (q66, .inl (cA 0, 48, .inl (fun _ => 0))), (q74, .inl (cA 0, 48, .inl (fun _ => 0))), (q82, .inl (cA 0, 48, .inl (fun _ => 0))), (q90, .inl (cA 1, 48, .inl (fun _ => 0)))] _ _
  refine U_putF (q0 := 0) (ci := 5) (kf := 10) (ty := .array .boolean) tyX5 dX5_init_92 rfl rfl wX5 tyX5_ok nmX5 rfl (by decide) flX5_46 rfl rfl rfl (by decide +kernel) rfl rfl (Nat.le_of_ble_eq_true rfl) ?_
  change UU _ _ _ _ _ _ _ _ _ _ _ [(h0, .inr (5, [.ref q5, .ref q18, .ref q26, .ref q34, .ref q42, .ref q50, .ref q58, .ref q66, .ref q74, .ref q82, .ref q90, .int 0, .int 0, .int 0, .int 0])), (q5, .inr (8, [.ref b8_0_9, .ref b8_1_9, .int 0])), (b8_0_9, .inl (cA 0, 48, .inl (fun _ => 0))), (b8_1_9, .inl (cA 0, 48, .inl (fun _ => 0))), (q18, .inl (cA 0, 48, .inl (fun _ => 0))), (q26, .inl (cA 0, 48, .inl (fun _ => 0))), (q34, .inl (cA 0, 48, .inl (fun _ => 0))), (q42, .inl (cA 0, 48, .inl (fun _ => 0))), (q50, .inl (cA 0, 48, .inl (fun _ => 0))), (q58, .inl (cA 0, 48, .inl (fun _ => 0))), (q66, .inl (cA 0, 48, .inl (fun _ => 0))), (q74, .inl (cA 0, 48, .inl (fun _ => 0))), (q82, .inl (cA 0, 48, .inl (fun _ => 0))), (q90, .inl (cA 1, 48, .inl (fun _ => 0)))] _ _
  exact U_ret dX5_init_95 ⟨q5, b8_0_9, b8_1_9, q18, q26, q34, q42, q50, q58, q66, q74, q82, q90, rfl⟩
end P45
