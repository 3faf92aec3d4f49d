/-! ===== constructors: facts ===== -/
set_option maxRecDepth 10000 in
theorem ic_0 : Cond.code mX0_init.1 mX0_init.2.1 mX0_init.2.2.1 mX0_init.2.2.2 ∈ tw_gT := gT_1 178 rfl rfl
set_option maxRecDepth 10000 in
theorem ii_0 : Cond.instanceMethod mX0_init.1 ∈ tw_gT := gT_1 177 rfl rfl
set_option maxRecDepth 10000 in
theorem in_0 : Cond.initialized RX0 ∈ tw_gT := gT_1 7 rfl rfl
set_option maxRecDepth 10000 in
theorem is_0 : Cond.instantiable RX0 3 ∈ tw_gT := gT_1 175 rfl rfl
set_option maxRecDepth 10000 in
theorem ic_1 : Cond.code mX1_init.1 mX1_init.2.1 mX1_init.2.2.1 mX1_init.2.2.2 ∈ tw_gT := gT_1 65 rfl rfl
set_option maxRecDepth 10000 in
theorem ii_1 : Cond.instanceMethod mX1_init.1 ∈ tw_gT := gT_1 64 rfl rfl
set_option maxRecDepth 10000 in
theorem in_1 : Cond.initialized RX1 ∈ tw_gT := gT_1 4 rfl rfl
set_option maxRecDepth 10000 in
theorem is_1 : Cond.instantiable RX1 2 ∈ tw_gT := gT_1 62 rfl rfl
set_option maxRecDepth 10000 in
theorem ic_2 : Cond.code mX2_init.1 mX2_init.2.1 mX2_init.2.2.1 mX2_init.2.2.2 ∈ tw_gT := gT_1 36 rfl rfl
set_option maxRecDepth 10000 in
theorem ii_2 : Cond.instanceMethod mX2_init.1 ∈ tw_gT := gT_1 35 rfl rfl
set_option maxRecDepth 10000 in
theorem in_2 : Cond.initialized RX2 ∈ tw_gT := gT_1 3 rfl rfl
set_option maxRecDepth 10000 in
theorem is_2 : Cond.instantiable RX2 5 ∈ tw_gT := gT_1 33 rfl rfl
set_option maxRecDepth 10000 in
theorem ic_3 : Cond.code mX3_init.1 mX3_init.2.1 mX3_init.2.2.1 mX3_init.2.2.2 ∈ tw_gT := gT_1 195 rfl rfl
set_option maxRecDepth 10000 in
theorem ii_3 : Cond.instanceMethod mX3_init.1 ∈ tw_gT := gT_1 194 rfl rfl
set_option maxRecDepth 10000 in
theorem in_3 : Cond.initialized RX3 ∈ tw_gT := gT_1 8 rfl rfl
set_option maxRecDepth 10000 in
theorem is_3 : Cond.instantiable RX3 5 ∈ tw_gT := gT_1 192 rfl rfl
set_option maxRecDepth 10000 in
theorem ic_4 : Cond.code mX4_init.1 mX4_init.2.1 mX4_init.2.2.1 mX4_init.2.2.2 ∈ tw_gT := gT_1 30 rfl rfl
set_option maxRecDepth 10000 in
theorem ii_4 : Cond.instanceMethod mX4_init.1 ∈ tw_gT := gT_1 29 rfl rfl
set_option maxRecDepth 10000 in
theorem in_4 : Cond.initialized RX4 ∈ tw_gT := gT_1 2 rfl rfl
set_option maxRecDepth 10000 in
theorem is_4 : Cond.instantiable RX4 4 ∈ tw_gT := gT_1 27 rfl rfl
set_option maxRecDepth 10000 in
theorem ic_5 : Cond.code mX5_init.1 mX5_init.2.1 mX5_init.2.2.1 mX5_init.2.2.2 ∈ tw_gT := gT_1 221 rfl rfl
set_option maxRecDepth 10000 in
theorem ii_5 : Cond.instanceMethod mX5_init.1 ∈ tw_gT := gT_1 220 rfl rfl
set_option maxRecDepth 10000 in
theorem in_5 : Cond.initialized RX5 ∈ tw_gT := gT_1 9 rfl rfl
set_option maxRecDepth 10000 in
theorem is_5 : Cond.instantiable RX5 3 ∈ tw_gT := gT_1 218 rfl rfl
set_option maxRecDepth 10000 in
theorem ic_6 : Cond.code mX6_init.1 mX6_init.2.1 mX6_init.2.2.1 mX6_init.2.2.2 ∈ tw_gT := gT_1 72 rfl rfl
set_option maxRecDepth 10000 in
theorem ii_6 : Cond.instanceMethod mX6_init.1 ∈ tw_gT := gT_1 71 rfl rfl
set_option maxRecDepth 10000 in
theorem in_6 : Cond.initialized RX6 ∈ tw_gT := gT_1 5 rfl rfl
set_option maxRecDepth 10000 in
theorem is_6 : Cond.instantiable RX6 7 ∈ tw_gT := gT_1 69 rfl rfl
set_option maxRecDepth 10000 in
theorem ic_7 : Cond.code mX7_init.1 mX7_init.2.1 mX7_init.2.2.1 mX7_init.2.2.2 ∈ tw_gT := gT_1 146 rfl rfl
set_option maxRecDepth 10000 in
theorem ii_7 : Cond.instanceMethod mX7_init.1 ∈ tw_gT := gT_1 145 rfl rfl
set_option maxRecDepth 10000 in
theorem in_7 : Cond.initialized RX7 ∈ tw_gT := gT_1 6 rfl rfl
set_option maxRecDepth 10000 in
theorem is_7 : Cond.instantiable RX7 6 ∈ tw_gT := gT_1 143 rfl rfl
set_option maxRecDepth 10000 in
theorem ic_8 : Cond.code mX8_init.1 mX8_init.2.1 mX8_init.2.2.1 mX8_init.2.2.2 ∈ tw_gT := gT_1 22 rfl rfl
set_option maxRecDepth 10000 in
theorem ii_8 : Cond.instanceMethod mX8_init.1 ∈ tw_gT := gT_1 21 rfl rfl
set_option maxRecDepth 10000 in
theorem in_8 : Cond.initialized RX8 ∈ tw_gT := gT_1 1 rfl rfl
set_option maxRecDepth 10000 in
theorem is_8 : Cond.instantiable RX8 13 ∈ tw_gT := gT_1 19 rfl rfl
set_option maxRecDepth 10000 in
theorem ic_9 : Cond.code mX9_init.1 mX9_init.2.1 mX9_init.2.2.1 mX9_init.2.2.2 ∈ tw_gT := gT_4 159 rfl rfl
set_option maxRecDepth 10000 in
theorem ii_9 : Cond.instanceMethod mX9_init.1 ∈ tw_gT := gT_4 158 rfl rfl
set_option maxRecDepth 10000 in
theorem in_9 : Cond.initialized RX9 ∈ tw_gT := gT_1 10 rfl rfl
set_option maxRecDepth 10000 in
theorem is_9 : Cond.instantiable RX9 20 ∈ tw_gT := gT_4 156 rfl rfl
set_option maxRecDepth 10000 in
theorem cl_L_7 : Cond.classLink mL_law.1.cls 7 "TwinLights" ∈ tw_gT := gT_1 18 rfl rfl
set_option maxRecDepth 10000 in
theorem mi_L_9 : Cond.methodLink mL_law.1.cls 9 mX8_init.1 ∈ tw_gT := gT_1 20 rfl rfl
set_option maxRecDepth 10000 in
theorem mo_RX8_3 : Cond.methodLink RX8 3 Lib.objectInit ∈ tw_gT := gT_1 23 rfl rfl
set_option maxRecDepth 10000 in
theorem cl_RX8_9 : Cond.classLink RX8 9 "TwinLights$Sea" ∈ tw_gT := gT_1 26 rfl rfl
set_option maxRecDepth 10000 in
theorem mi_RX8_11 : Cond.methodLink RX8 11 mX4_init.1 ∈ tw_gT := gT_1 28 rfl rfl
set_option maxRecDepth 10000 in
theorem mo_RX4_3 : Cond.methodLink RX4 3 Lib.objectInit ∈ tw_gT := gT_1 31 rfl rfl
set_option maxRecDepth 10000 in
theorem cl_RX4_9 : Cond.classLink RX4 9 "TwinLights$Lights" ∈ tw_gT := gT_1 32 rfl rfl
set_option maxRecDepth 10000 in
theorem mo_RX2_3 : Cond.methodLink RX2 3 Lib.objectInit ∈ tw_gT := gT_1 37 rfl rfl
set_option maxRecDepth 10000 in
theorem cl_RX4_18 : Cond.classLink RX4 18 "TwinLights$Fleet" ∈ tw_gT := gT_1 61 rfl rfl
set_option maxRecDepth 10000 in
theorem mi_RX4_20 : Cond.methodLink RX4 20 mX1_init.1 ∈ tw_gT := gT_1 63 rfl rfl
set_option maxRecDepth 10000 in
theorem mo_RX1_3 : Cond.methodLink RX1 3 Lib.objectInit ∈ tw_gT := gT_1 66 rfl rfl
set_option maxRecDepth 10000 in
theorem cl_RX1_9 : Cond.classLink RX1 9 "TwinLights$Ship" ∈ tw_gT := gT_1 67 rfl rfl
set_option maxRecDepth 10000 in
theorem mo_RX6_3 : Cond.methodLink RX6 3 Lib.objectInit ∈ tw_gT := gT_1 73 rfl rfl
set_option maxRecDepth 10000 in
theorem cl_RX8_23 : Cond.classLink RX8 23 "TwinLights$Tape" ∈ tw_gT := gT_1 142 rfl rfl
set_option maxRecDepth 10000 in
theorem mo_RX7_3 : Cond.methodLink RX7 3 Lib.objectInit ∈ tw_gT := gT_1 147 rfl rfl
set_option maxRecDepth 10000 in
theorem cl_RX8_30 : Cond.classLink RX8 30 "TwinLights$Sheet" ∈ tw_gT := gT_1 168 rfl rfl
set_option maxRecDepth 10000 in
theorem cl_RX8_43 : Cond.classLink RX8 43 "TwinLights$Lights" ∈ tw_gT := gT_1 170 rfl rfl
set_option maxRecDepth 10000 in
theorem cl_RX8_50 : Cond.classLink RX8 50 "TwinLights$Ship" ∈ tw_gT := gT_1 172 rfl rfl
set_option maxRecDepth 10000 in
theorem cl_RX8_63 : Cond.classLink RX8 63 "TwinLights$Demand" ∈ tw_gT := gT_1 174 rfl rfl
set_option maxRecDepth 10000 in
theorem mo_RX0_3 : Cond.methodLink RX0 3 Lib.objectInit ∈ tw_gT := gT_1 179 rfl rfl
set_option maxRecDepth 10000 in
theorem cl_RX8_70 : Cond.classLink RX8 70 "TwinLights$PatternSearch" ∈ tw_gT := gT_1 191 rfl rfl
set_option maxRecDepth 10000 in
theorem mi_RX8_72 : Cond.methodLink RX8 72 mX3_init.1 ∈ tw_gT := gT_1 193 rfl rfl
set_option maxRecDepth 10000 in
theorem mo_RX3_3 : Cond.methodLink RX3 3 Lib.objectInit ∈ tw_gT := gT_1 196 rfl rfl
set_option maxRecDepth 10000 in
theorem cl_RX3_9 : Cond.classLink RX3 9 "TwinLights$Lights" ∈ tw_gT := gT_1 197 rfl rfl
set_option maxRecDepth 10000 in
theorem cl_RX3_18 : Cond.classLink RX3 18 "TwinLights$Fleet" ∈ tw_gT := gT_1 199 rfl rfl
set_option maxRecDepth 10000 in
theorem mi_RX3_24 : Cond.methodLink RX3 24 mX1_init.1 ∈ tw_gT := gT_1 201 rfl rfl
set_option maxRecDepth 10000 in
theorem mo_RX5_3 : Cond.methodLink RX5 3 Lib.objectInit ∈ tw_gT := gT_1 222 rfl rfl
set_option maxRecDepth 10000 in
theorem cl_L_10 : Cond.classLink mL_law.1.cls 10 "TwinLightsModel" ∈ tw_gT := gT_4 155 rfl rfl
set_option maxRecDepth 10000 in
theorem mi_L_12 : Cond.methodLink mL_law.1.cls 12 mX9_init.1 ∈ tw_gT := gT_4 157 rfl rfl
set_option maxRecDepth 10000 in
theorem mo_RX9_1 : Cond.methodLink RX9 1 Lib.objectInit ∈ tw_gT := gT_4 160 rfl rfl
set_option maxRecDepth 10000 in
theorem cl_RX9_25 : Cond.classLink RX9 25 "java/lang/String" ∈ tw_gT := gT_4 161 rfl rfl
theorem ni_RX4_11 : (RX4, 11, mX2_init.1) ∈ tw_nest := List.mem_of_getElem? (i := 0) (by decide +kernel)
theorem ni_RX1_21 : (RX1, 21, mX6_init.1) ∈ tw_nest := List.mem_of_getElem? (i := 1) (by decide +kernel)
theorem ni_RX8_25 : (RX8, 25, mX7_init.1) ∈ tw_nest := List.mem_of_getElem? (i := 2) (by decide +kernel)
theorem ni_RX8_45 : (RX8, 45, mX2_init.1) ∈ tw_nest := List.mem_of_getElem? (i := 3) (by decide +kernel)
theorem ni_RX8_52 : (RX8, 52, mX6_init.1) ∈ tw_nest := List.mem_of_getElem? (i := 4) (by decide +kernel)
theorem ni_RX8_65 : (RX8, 65, mX0_init.1) ∈ tw_nest := List.mem_of_getElem? (i := 5) (by decide +kernel)
theorem ni_RX3_11 : (RX3, 11, mX2_init.1) ∈ tw_nest := List.mem_of_getElem? (i := 6) (by decide +kernel)
theorem ni_RX8_77 : (RX8, 77, mX5_init.1) ∈ tw_nest := List.mem_of_getElem? (i := 7) (by decide +kernel)
set_option maxRecDepth 10000 in
theorem o_i : Cond.instanceMethod Lib.objectInit ∈ tw_gT := gT_1 24 rfl rfl
set_option maxRecDepth 10000 in
theorem o_c : Cond.code Lib.objectInit ⟨#[0xb1]⟩ 1 none ∈ tw_gT := gT_1 25 rfl rfl
set_option maxRecDepth 10000 in
theorem fk_RX2_9 : Cond.fieldLink RX2 9 (TX2 0).1 (TX2 0).2.1 (TX2 0).2.2.1 ∈ tw_gT := gT_1 38 rfl rfl
set_option maxRecDepth 10000 in
theorem fk_RX3_71 : Cond.fieldLink RX3 71 (TX2 0).1 (TX2 0).2.1 (TX2 0).2.2.1 ∈ tw_gT := gT_1 39 rfl rfl
set_option maxRecDepth 10000 in
theorem fk_RX4_60 : Cond.fieldLink RX4 60 (TX2 0).1 (TX2 0).2.1 (TX2 0).2.2.1 ∈ tw_gT := gT_1 40 rfl rfl
set_option maxRecDepth 10000 in
theorem fk_RX8_200 : Cond.fieldLink RX8 200 (TX2 0).1 (TX2 0).2.1 (TX2 0).2.2.1 ∈ tw_gT := gT_1 41 rfl rfl
set_option maxRecDepth 10000 in
theorem fk_RX2_15 : Cond.fieldLink RX2 15 (TX2 1).1 (TX2 1).2.1 (TX2 1).2.2.1 ∈ tw_gT := gT_1 42 rfl rfl
set_option maxRecDepth 10000 in
theorem fk_RX8_207 : Cond.fieldLink RX8 207 (TX2 1).1 (TX2 1).2.1 (TX2 1).2.2.1 ∈ tw_gT := gT_1 43 rfl rfl
set_option maxRecDepth 10000 in
theorem fk_RX2_18 : Cond.fieldLink RX2 18 (TX2 2).1 (TX2 2).2.1 (TX2 2).2.2.1 ∈ tw_gT := gT_1 44 rfl rfl
set_option maxRecDepth 10000 in
theorem fk_RX2_21 : Cond.fieldLink RX2 21 (TX2 3).1 (TX2 3).2.1 (TX2 3).2.2.1 ∈ tw_gT := gT_1 45 rfl rfl
set_option maxRecDepth 10000 in
theorem fk_RX8_167 : Cond.fieldLink RX8 167 (TX2 3).1 (TX2 3).2.1 (TX2 3).2.2.1 ∈ tw_gT := gT_1 46 rfl rfl
set_option maxRecDepth 10000 in
theorem fk_RX2_24 : Cond.fieldLink RX2 24 (TX2 4).1 (TX2 4).2.1 (TX2 4).2.2.1 ∈ tw_gT := gT_1 47 rfl rfl
set_option maxRecDepth 10000 in
theorem fk_RX4_50 : Cond.fieldLink RX4 50 (TX2 4).1 (TX2 4).2.1 (TX2 4).2.2.1 ∈ tw_gT := gT_1 48 rfl rfl
set_option maxRecDepth 10000 in
theorem fk_RX8_127 : Cond.fieldLink RX8 127 (TX2 4).1 (TX2 4).2.1 (TX2 4).2.2.1 ∈ tw_gT := gT_1 49 rfl rfl
set_option maxRecDepth 10000 in
theorem fk_RX6_9 : Cond.fieldLink RX6 9 (TX6 0).1 (TX6 0).2.1 (TX6 0).2.2.1 ∈ tw_gT := gT_1 74 rfl rfl
set_option maxRecDepth 10000 in
theorem fk_RX8_248 : Cond.fieldLink RX8 248 (TX6 0).1 (TX6 0).2.1 (TX6 0).2.2.1 ∈ tw_gT := gT_1 75 rfl rfl
set_option maxRecDepth 10000 in
theorem fk_RX6_15 : Cond.fieldLink RX6 15 (TX6 1).1 (TX6 1).2.1 (TX6 1).2.2.1 ∈ tw_gT := gT_1 76 rfl rfl
set_option maxRecDepth 10000 in
theorem fk_RX1_56 : Cond.fieldLink RX1 56 (TX6 1).1 (TX6 1).2.1 (TX6 1).2.2.1 ∈ tw_gT := gT_1 77 rfl rfl
set_option maxRecDepth 10000 in
theorem fk_RX8_197 : Cond.fieldLink RX8 197 (TX6 1).1 (TX6 1).2.1 (TX6 1).2.2.1 ∈ tw_gT := gT_1 78 rfl rfl
set_option maxRecDepth 10000 in
theorem fk_RX6_18 : Cond.fieldLink RX6 18 (TX6 2).1 (TX6 2).2.1 (TX6 2).2.2.1 ∈ tw_gT := gT_1 79 rfl rfl
set_option maxRecDepth 10000 in
theorem fk_RX7_116 : Cond.fieldLink RX7 116 (TX6 2).1 (TX6 2).2.1 (TX6 2).2.2.1 ∈ tw_gT := gT_1 80 rfl rfl
set_option maxRecDepth 10000 in
theorem fk_RX6_21 : Cond.fieldLink RX6 21 (TX6 3).1 (TX6 3).2.1 (TX6 3).2.2.1 ∈ tw_gT := gT_1 81 rfl rfl
set_option maxRecDepth 10000 in
theorem fk_RX4_74 : Cond.fieldLink RX4 74 (TX6 3).1 (TX6 3).2.1 (TX6 3).2.2.1 ∈ tw_gT := gT_1 82 rfl rfl
set_option maxRecDepth 10000 in
theorem fk_RX8_314 : Cond.fieldLink RX8 314 (TX6 3).1 (TX6 3).2.1 (TX6 3).2.2.1 ∈ tw_gT := gT_1 83 rfl rfl
set_option maxRecDepth 10000 in
theorem fk_RX6_24 : Cond.fieldLink RX6 24 (TX6 4).1 (TX6 4).2.1 (TX6 4).2.2.1 ∈ tw_gT := gT_1 84 rfl rfl
set_option maxRecDepth 10000 in
theorem fk_RX7_125 : Cond.fieldLink RX7 125 (TX6 4).1 (TX6 4).2.1 (TX6 4).2.2.1 ∈ tw_gT := gT_1 85 rfl rfl
set_option maxRecDepth 10000 in
theorem fk_RX1_53 : Cond.fieldLink RX1 53 (TX6 4).1 (TX6 4).2.1 (TX6 4).2.2.1 ∈ tw_gT := gT_1 86 rfl rfl
set_option maxRecDepth 10000 in
theorem fk_RX6_27 : Cond.fieldLink RX6 27 (TX6 5).1 (TX6 5).2.1 (TX6 5).2.2.1 ∈ tw_gT := gT_1 87 rfl rfl
set_option maxRecDepth 10000 in
theorem fk_RX1_47 : Cond.fieldLink RX1 47 (TX6 5).1 (TX6 5).2.1 (TX6 5).2.2.1 ∈ tw_gT := gT_1 88 rfl rfl
set_option maxRecDepth 10000 in
theorem fk_RX8_189 : Cond.fieldLink RX8 189 (TX6 5).1 (TX6 5).2.1 (TX6 5).2.2.1 ∈ tw_gT := gT_1 89 rfl rfl
set_option maxRecDepth 10000 in
theorem fk_RX6_30 : Cond.fieldLink RX6 30 (TX6 6).1 (TX6 6).2.1 (TX6 6).2.2.1 ∈ tw_gT := gT_1 90 rfl rfl
set_option maxRecDepth 10000 in
theorem fk_RX1_50 : Cond.fieldLink RX1 50 (TX6 6).1 (TX6 6).2.1 (TX6 6).2.2.1 ∈ tw_gT := gT_1 91 rfl rfl
set_option maxRecDepth 10000 in
theorem fk_RX1_11 : Cond.fieldLink RX1 11 (TX1 0).1 (TX1 0).2.1 (TX1 0).2.2.1 ∈ tw_gT := gT_1 107 rfl rfl
set_option maxRecDepth 10000 in
theorem fk_RX4_70 : Cond.fieldLink RX4 70 (TX1 0).1 (TX1 0).2.1 (TX1 0).2.2.1 ∈ tw_gT := gT_1 108 rfl rfl
set_option maxRecDepth 10000 in
theorem fk_RX8_123 : Cond.fieldLink RX8 123 (TX1 0).1 (TX1 0).2.1 (TX1 0).2.2.1 ∈ tw_gT := gT_1 109 rfl rfl
set_option maxRecDepth 10000 in
theorem fk_RX7_100 : Cond.fieldLink RX7 100 (TX1 0).1 (TX1 0).2.1 (TX1 0).2.2.1 ∈ tw_gT := gT_1 110 rfl rfl
set_option maxRecDepth 10000 in
theorem fk_RX1_17 : Cond.fieldLink RX1 17 (TX1 1).1 (TX1 1).2.1 (TX1 1).2.2.1 ∈ tw_gT := gT_1 111 rfl rfl
set_option maxRecDepth 10000 in
theorem fk_RX4_67 : Cond.fieldLink RX4 67 (TX1 1).1 (TX1 1).2.1 (TX1 1).2.2.1 ∈ tw_gT := gT_1 112 rfl rfl
set_option maxRecDepth 10000 in
theorem fk_RX8_115 : Cond.fieldLink RX8 115 (TX1 1).1 (TX1 1).2.1 (TX1 1).2.2.1 ∈ tw_gT := gT_1 113 rfl rfl
set_option maxRecDepth 10000 in
theorem fk_RX7_104 : Cond.fieldLink RX7 104 (TX1 1).1 (TX1 1).2.1 (TX1 1).2.2.1 ∈ tw_gT := gT_1 114 rfl rfl
set_option maxRecDepth 10000 in
theorem fk_RX4_12 : Cond.fieldLink RX4 12 (TX4 0).1 (TX4 0).2.1 (TX4 0).2.2.1 ∈ tw_gT := gT_1 120 rfl rfl
set_option maxRecDepth 10000 in
theorem fk_RX3_25 : Cond.fieldLink RX3 25 (TX4 0).1 (TX4 0).2.1 (TX4 0).2.2.1 ∈ tw_gT := gT_1 121 rfl rfl
set_option maxRecDepth 10000 in
theorem fk_RX8_87 : Cond.fieldLink RX8 87 (TX4 0).1 (TX4 0).2.1 (TX4 0).2.2.1 ∈ tw_gT := gT_1 122 rfl rfl
set_option maxRecDepth 10000 in
theorem fk_RX7_55 : Cond.fieldLink RX7 55 (TX4 0).1 (TX4 0).2.1 (TX4 0).2.2.1 ∈ tw_gT := gT_1 123 rfl rfl
set_option maxRecDepth 10000 in
theorem fk_RX4_21 : Cond.fieldLink RX4 21 (TX4 1).1 (TX4 1).2.1 (TX4 1).2.2.1 ∈ tw_gT := gT_1 124 rfl rfl
set_option maxRecDepth 10000 in
theorem fk_RX3_32 : Cond.fieldLink RX3 32 (TX4 1).1 (TX4 1).2.1 (TX4 1).2.2.1 ∈ tw_gT := gT_1 125 rfl rfl
set_option maxRecDepth 10000 in
theorem fk_RX7_39 : Cond.fieldLink RX7 39 (TX4 1).1 (TX4 1).2.1 (TX4 1).2.2.1 ∈ tw_gT := gT_1 126 rfl rfl
set_option maxRecDepth 10000 in
theorem fk_RX8_101 : Cond.fieldLink RX8 101 (TX4 1).1 (TX4 1).2.1 (TX4 1).2.2.1 ∈ tw_gT := gT_1 127 rfl rfl
set_option maxRecDepth 10000 in
theorem fk_RX4_25 : Cond.fieldLink RX4 25 (TX4 2).1 (TX4 2).2.1 (TX4 2).2.2.1 ∈ tw_gT := gT_1 128 rfl rfl
set_option maxRecDepth 10000 in
theorem fk_RX8_280 : Cond.fieldLink RX8 280 (TX4 2).1 (TX4 2).2.1 (TX4 2).2.2.1 ∈ tw_gT := gT_1 129 rfl rfl
set_option maxRecDepth 10000 in
theorem fk_RX4_29 : Cond.fieldLink RX4 29 (TX4 3).1 (TX4 3).2.1 (TX4 3).2.2.1 ∈ tw_gT := gT_1 130 rfl rfl
set_option maxRecDepth 10000 in
theorem fk_RX8_265 : Cond.fieldLink RX8 265 (TX4 3).1 (TX4 3).2.1 (TX4 3).2.2.1 ∈ tw_gT := gT_1 131 rfl rfl
set_option maxRecDepth 10000 in
theorem fk_RX7_9 : Cond.fieldLink RX7 9 (TX7 0).1 (TX7 0).2.1 (TX7 0).2.2.1 ∈ tw_gT := gT_1 148 rfl rfl
set_option maxRecDepth 10000 in
theorem fk_RX7_15 : Cond.fieldLink RX7 15 (TX7 1).1 (TX7 1).2.1 (TX7 1).2.2.1 ∈ tw_gT := gT_1 149 rfl rfl
set_option maxRecDepth 10000 in
theorem fk_RX8_268 : Cond.fieldLink RX8 268 (TX7 1).1 (TX7 1).2.1 (TX7 1).2.2.1 ∈ tw_gT := gT_1 150 rfl rfl
set_option maxRecDepth 10000 in
theorem fk_RX7_29 : Cond.fieldLink RX7 29 (TX7 2).1 (TX7 2).2.1 (TX7 2).2.2.1 ∈ tw_gT := gT_1 151 rfl rfl
set_option maxRecDepth 10000 in
theorem fk_RX7_32 : Cond.fieldLink RX7 32 (TX7 3).1 (TX7 3).2.1 (TX7 3).2.2.1 ∈ tw_gT := gT_1 152 rfl rfl
set_option maxRecDepth 10000 in
theorem fk_RX7_19 : Cond.fieldLink RX7 19 (TX7 4).1 (TX7 4).2.1 (TX7 4).2.2.1 ∈ tw_gT := gT_1 153 rfl rfl
set_option maxRecDepth 10000 in
theorem fk_RX7_81 : Cond.fieldLink RX7 81 (TX7 5).1 (TX7 5).2.1 (TX7 5).2.2.1 ∈ tw_gT := gT_1 154 rfl rfl
set_option maxRecDepth 10000 in
theorem fk_RX0_9 : Cond.fieldLink RX0 9 (TX0 0).1 (TX0 0).2.1 (TX0 0).2.2.1 ∈ tw_gT := gT_1 180 rfl rfl
set_option maxRecDepth 10000 in
theorem fk_RX8_245 : Cond.fieldLink RX8 245 (TX0 0).1 (TX0 0).2.1 (TX0 0).2.2.1 ∈ tw_gT := gT_1 181 rfl rfl
set_option maxRecDepth 10000 in
theorem fk_RX0_15 : Cond.fieldLink RX0 15 (TX0 1).1 (TX0 1).2.1 (TX0 1).2.2.1 ∈ tw_gT := gT_1 182 rfl rfl
set_option maxRecDepth 10000 in
theorem fk_RX0_18 : Cond.fieldLink RX0 18 (TX0 2).1 (TX0 2).2.1 (TX0 2).2.2.1 ∈ tw_gT := gT_1 183 rfl rfl
set_option maxRecDepth 10000 in
theorem fk_RX3_12 : Cond.fieldLink RX3 12 (TX3 0).1 (TX3 0).2.1 (TX3 0).2.2.1 ∈ tw_gT := gT_1 202 rfl rfl
set_option maxRecDepth 10000 in
theorem fk_RX3_20 : Cond.fieldLink RX3 20 (TX3 1).1 (TX3 1).2.1 (TX3 1).2.2.1 ∈ tw_gT := gT_1 203 rfl rfl
set_option maxRecDepth 10000 in
theorem fk_RX3_45 : Cond.fieldLink RX3 45 (TX3 2).1 (TX3 2).2.1 (TX3 2).2.2.1 ∈ tw_gT := gT_1 204 rfl rfl
set_option maxRecDepth 10000 in
theorem fk_RX3_49 : Cond.fieldLink RX3 49 (TX3 3).1 (TX3 3).2.1 (TX3 3).2.2.1 ∈ tw_gT := gT_1 205 rfl rfl
set_option maxRecDepth 10000 in
theorem fk_RX3_53 : Cond.fieldLink RX3 53 (TX3 4).1 (TX3 4).2.1 (TX3 4).2.2.1 ∈ tw_gT := gT_1 206 rfl rfl
set_option maxRecDepth 10000 in
theorem fk_RX5_9 : Cond.fieldLink RX5 9 (TX5 0).1 (TX5 0).2.1 (TX5 0).2.2.1 ∈ tw_gT := gT_1 223 rfl rfl
set_option maxRecDepth 10000 in
theorem fk_RX0_27 : Cond.fieldLink RX0 27 (TX5 0).1 (TX5 0).2.1 (TX5 0).2.2.1 ∈ tw_gT := gT_1 224 rfl rfl
set_option maxRecDepth 10000 in
theorem fk_RX8_305 : Cond.fieldLink RX8 305 (TX5 0).1 (TX5 0).2.1 (TX5 0).2.2.1 ∈ tw_gT := gT_1 225 rfl rfl
set_option maxRecDepth 10000 in
theorem fk_RX5_15 : Cond.fieldLink RX5 15 (TX5 1).1 (TX5 1).2.1 (TX5 1).2.2.1 ∈ tw_gT := gT_1 226 rfl rfl
set_option maxRecDepth 10000 in
theorem fk_RX8_299 : Cond.fieldLink RX8 299 (TX5 1).1 (TX5 1).2.1 (TX5 1).2.2.1 ∈ tw_gT := gT_1 227 rfl rfl
set_option maxRecDepth 10000 in
theorem fk_RX5_19 : Cond.fieldLink RX5 19 (TX5 2).1 (TX5 2).2.1 (TX5 2).2.2.1 ∈ tw_gT := gT_1 228 rfl rfl
set_option maxRecDepth 10000 in
theorem fk_RX0_22 : Cond.fieldLink RX0 22 (TX5 2).1 (TX5 2).2.1 (TX5 2).2.2.1 ∈ tw_gT := gT_1 229 rfl rfl
set_option maxRecDepth 10000 in
theorem fk_RX8_292 : Cond.fieldLink RX8 292 (TX5 2).1 (TX5 2).2.1 (TX5 2).2.2.1 ∈ tw_gT := gT_1 230 rfl rfl
set_option maxRecDepth 10000 in
theorem fk_RX8_12 : Cond.fieldLink RX8 12 (TX8 0).1 (TX8 0).2.1 (TX8 0).2.2.1 ∈ tw_gT := gT_1 238 rfl rfl
set_option maxRecDepth 10000 in
theorem fk_RX8_16 : Cond.fieldLink RX8 16 (TX8 1).1 (TX8 1).2.1 (TX8 1).2.2.1 ∈ tw_gT := gT_1 239 rfl rfl
set_option maxRecDepth 10000 in
theorem fk_RX8_19 : Cond.fieldLink RX8 19 (TX8 2).1 (TX8 2).2.1 (TX8 2).2.2.1 ∈ tw_gT := gT_2 0 rfl rfl
set_option maxRecDepth 10000 in
theorem fk_RX8_26 : Cond.fieldLink RX8 26 (TX8 3).1 (TX8 3).2.1 (TX8 3).2.2.1 ∈ tw_gT := gT_2 1 rfl rfl
set_option maxRecDepth 10000 in
theorem fk_RX8_32 : Cond.fieldLink RX8 32 (TX8 4).1 (TX8 4).2.1 (TX8 4).2.2.1 ∈ tw_gT := gT_2 2 rfl rfl
set_option maxRecDepth 10000 in
theorem fk_RX8_36 : Cond.fieldLink RX8 36 (TX8 5).1 (TX8 5).2.1 (TX8 5).2.2.1 ∈ tw_gT := gT_2 3 rfl rfl
set_option maxRecDepth 10000 in
theorem fk_RX8_40 : Cond.fieldLink RX8 40 (TX8 6).1 (TX8 6).2.1 (TX8 6).2.2.1 ∈ tw_gT := gT_2 4 rfl rfl
set_option maxRecDepth 10000 in
theorem fk_RX8_46 : Cond.fieldLink RX8 46 (TX8 7).1 (TX8 7).2.1 (TX8 7).2.2.1 ∈ tw_gT := gT_2 5 rfl rfl
set_option maxRecDepth 10000 in
theorem fk_RX8_53 : Cond.fieldLink RX8 53 (TX8 8).1 (TX8 8).2.1 (TX8 8).2.2.1 ∈ tw_gT := gT_2 6 rfl rfl
set_option maxRecDepth 10000 in
theorem fk_RX8_57 : Cond.fieldLink RX8 57 (TX8 9).1 (TX8 9).2.1 (TX8 9).2.2.1 ∈ tw_gT := gT_2 7 rfl rfl
set_option maxRecDepth 10000 in
theorem fk_RX8_60 : Cond.fieldLink RX8 60 (TX8 10).1 (TX8 10).2.1 (TX8 10).2.2.1 ∈ tw_gT := gT_2 8 rfl rfl
set_option maxRecDepth 10000 in
theorem fk_RX8_66 : Cond.fieldLink RX8 66 (TX8 11).1 (TX8 11).2.1 (TX8 11).2.2.1 ∈ tw_gT := gT_2 9 rfl rfl
set_option maxRecDepth 10000 in
theorem fk_RX8_73 : Cond.fieldLink RX8 73 (TX8 12).1 (TX8 12).2.1 (TX8 12).2.2.1 ∈ tw_gT := gT_2 10 rfl rfl
set_option maxRecDepth 10000 in
theorem fk_RX9_9 : Cond.fieldLink RX9 9 (TX9 0).1 (TX9 0).2.1 (TX9 0).2.2.1 ∈ tw_gT := gT_4 170 rfl rfl
set_option maxRecDepth 10000 in
theorem fk_RX9_13 : Cond.fieldLink RX9 13 (TX9 1).1 (TX9 1).2.1 (TX9 1).2.2.1 ∈ tw_gT := gT_4 171 rfl rfl
set_option maxRecDepth 10000 in
theorem fk_RX9_16 : Cond.fieldLink RX9 16 (TX9 2).1 (TX9 2).2.1 (TX9 2).2.2.1 ∈ tw_gT := gT_4 172 rfl rfl
set_option maxRecDepth 10000 in
theorem fk_RX9_305 : Cond.fieldLink RX9 305 (TX9 3).1 (TX9 3).2.1 (TX9 3).2.2.1 ∈ tw_gT := gT_4 173 rfl rfl
set_option maxRecDepth 10000 in
theorem fk_RX9_19 : Cond.fieldLink RX9 19 (TX9 4).1 (TX9 4).2.1 (TX9 4).2.2.1 ∈ tw_gT := gT_4 174 rfl rfl
set_option maxRecDepth 10000 in
theorem fk_RX9_22 : Cond.fieldLink RX9 22 (TX9 5).1 (TX9 5).2.1 (TX9 5).2.2.1 ∈ tw_gT := gT_4 175 rfl rfl
set_option maxRecDepth 10000 in
theorem fk_RX9_211 : Cond.fieldLink RX9 211 (TX9 6).1 (TX9 6).2.1 (TX9 6).2.2.1 ∈ tw_gT := gT_4 176 rfl rfl
set_option maxRecDepth 10000 in
theorem fk_RX9_218 : Cond.fieldLink RX9 218 (TX9 7).1 (TX9 7).2.1 (TX9 7).2.2.1 ∈ tw_gT := gT_4 177 rfl rfl
set_option maxRecDepth 10000 in
theorem fk_RX9_215 : Cond.fieldLink RX9 215 (TX9 8).1 (TX9 8).2.1 (TX9 8).2.2.1 ∈ tw_gT := gT_4 178 rfl rfl
set_option maxRecDepth 10000 in
theorem fk_RX9_227 : Cond.fieldLink RX9 227 (TX9 9).1 (TX9 9).2.1 (TX9 9).2.2.1 ∈ tw_gT := gT_4 179 rfl rfl
set_option maxRecDepth 10000 in
theorem fk_RX9_224 : Cond.fieldLink RX9 224 (TX9 10).1 (TX9 10).2.1 (TX9 10).2.2.1 ∈ tw_gT := gT_4 180 rfl rfl
set_option maxRecDepth 10000 in
theorem fk_RX9_237 : Cond.fieldLink RX9 237 (TX9 11).1 (TX9 11).2.1 (TX9 11).2.2.1 ∈ tw_gT := gT_4 181 rfl rfl
set_option maxRecDepth 10000 in
theorem fk_RX9_41 : Cond.fieldLink RX9 41 (TX9 12).1 (TX9 12).2.1 (TX9 12).2.2.1 ∈ tw_gT := gT_4 182 rfl rfl
set_option maxRecDepth 10000 in
theorem fk_RX9_45 : Cond.fieldLink RX9 45 (TX9 13).1 (TX9 13).2.1 (TX9 13).2.2.1 ∈ tw_gT := gT_4 183 rfl rfl
set_option maxRecDepth 10000 in
theorem fk_RX9_248 : Cond.fieldLink RX9 248 (TX9 14).1 (TX9 14).2.1 (TX9 14).2.2.1 ∈ tw_gT := gT_4 184 rfl rfl
set_option maxRecDepth 10000 in
theorem fk_RX9_255 : Cond.fieldLink RX9 255 (TX9 15).1 (TX9 15).2.1 (TX9 15).2.2.1 ∈ tw_gT := gT_4 185 rfl rfl
set_option maxRecDepth 10000 in
theorem fk_RX9_48 : Cond.fieldLink RX9 48 (TX9 16).1 (TX9 16).2.1 (TX9 16).2.2.1 ∈ tw_gT := gT_4 186 rfl rfl
set_option maxRecDepth 10000 in
theorem fk_RX9_51 : Cond.fieldLink RX9 51 (TX9 17).1 (TX9 17).2.1 (TX9 17).2.2.1 ∈ tw_gT := gT_4 187 rfl rfl
set_option maxRecDepth 10000 in
theorem fk_RX9_54 : Cond.fieldLink RX9 54 (TX9 18).1 (TX9 18).2.1 (TX9 18).2.2.1 ∈ tw_gT := gT_4 188 rfl rfl
set_option maxRecDepth 10000 in
theorem fk_RX9_57 : Cond.fieldLink RX9 57 (TX9 19).1 (TX9 19).2.1 (TX9 19).2.2.1 ∈ tw_gT := gT_4 189 rfl rfl
