section SYP0
theorem wd_120 : Cond.methodLink RX2 3 Lib.objectInit ∈ sy_AL := sy_in 120 (by decide +kernel) (by decide +kernel)
theorem wd_113 : Cond.instanceMethod Lib.objectInit ∈ sy_AL := sy_in 113 (by decide +kernel) (by decide +kernel)
theorem wd_114 : Cond.code Lib.objectInit ⟨#[0xb1]⟩ 1 none ∈ sy_AL := sy_in 114 (by decide +kernel) (by decide +kernel)
theorem fc_X2_9 : sc_fC RX2 9 2 0 .int false := ⟨RX2, TX2, 9, tyX2, rfl, by decide, sy_kw2, sy_in 121 (by decide +kernel) (by decide +kernel), tyX2_ok, nmX2, rfl, by decide +kernel, rfl⟩
theorem wd_149 : Cond.arrayClass (newarray.typeOf .int) ∈ sy_AL := sy_in 149 (by decide +kernel) (by decide +kernel)
theorem fc_X2_15 : sc_fC RX2 15 2 1 (.array .int) true := ⟨RX2, TX2, 9, tyX2, rfl, by decide, sy_kw2, sy_in 122 (by decide +kernel) (by decide +kernel), tyX2_ok, nmX2, rfl, by decide +kernel, rfl⟩
theorem fc_X2_19 : sc_fC RX2 19 2 2 (.array .int) true := ⟨RX2, TX2, 9, tyX2, rfl, by decide, sy_kw2, sy_in 123 (by decide +kernel) (by decide +kernel), tyX2_ok, nmX2, rfl, by decide +kernel, rfl⟩
theorem fc_X2_22 : sc_fC RX2 22 2 3 (.array .int) true := ⟨RX2, TX2, 9, tyX2, rfl, by decide, sy_kw2, sy_in 124 (by decide +kernel) (by decide +kernel), tyX2_ok, nmX2, rfl, by decide +kernel, rfl⟩
theorem fc_X2_25 : sc_fC RX2 25 2 4 (.array .int) true := ⟨RX2, TX2, 9, tyX2, rfl, by decide, sy_kw2, sy_in 125 (by decide +kernel) (by decide +kernel), tyX2_ok, nmX2, rfl, by decide +kernel, rfl⟩
theorem fc_X2_28 : sc_fC RX2 28 2 5 (.array .int) true := ⟨RX2, TX2, 9, tyX2, rfl, by decide, sy_kw2, sy_in 126 (by decide +kernel) (by decide +kernel), tyX2_ok, nmX2, rfl, by decide +kernel, rfl⟩
theorem fc_X2_31 : sc_fC RX2 31 2 6 (.array .int) true := ⟨RX2, TX2, 9, tyX2, rfl, by decide, sy_kw2, sy_in 127 (by decide +kernel) (by decide +kernel), tyX2_ok, nmX2, rfl, by decide +kernel, rfl⟩
theorem fc_X2_34 : sc_fC RX2 34 2 7 (.array .int) true := ⟨RX2, TX2, 9, tyX2, rfl, by decide, sy_kw2, sy_in 128 (by decide +kernel) (by decide +kernel), tyX2_ok, nmX2, rfl, by decide +kernel, rfl⟩
theorem fc_X2_37 : sc_fC RX2 37 2 8 (.array .int) true := ⟨RX2, TX2, 9, tyX2, rfl, by decide, sy_kw2, sy_in 129 (by decide +kernel) (by decide +kernel), tyX2_ok, nmX2, rfl, by decide +kernel, rfl⟩
theorem wd_155 : Cond.methodLink RX3 3 Lib.objectInit ∈ sy_AL := sy_in 155 (by decide +kernel) (by decide +kernel)
theorem fc_X3_9 : sc_fC RX3 9 3 1 (.array .int) true := ⟨RX3, TX3, 10, tyX3, rfl, by decide, sy_kw3, sy_in 157 (by decide +kernel) (by decide +kernel), tyX3_ok, nmX3, rfl, by decide +kernel, rfl⟩
theorem fc_X3_15 : sc_fC RX3 15 3 2 (.array .int) true := ⟨RX3, TX3, 10, tyX3, rfl, by decide, sy_kw3, sy_in 158 (by decide +kernel) (by decide +kernel), tyX3_ok, nmX3, rfl, by decide +kernel, rfl⟩
theorem fc_X3_18 : sc_fC RX3 18 3 3 (.array .int) true := ⟨RX3, TX3, 10, tyX3, rfl, by decide, sy_kw3, sy_in 159 (by decide +kernel) (by decide +kernel), tyX3_ok, nmX3, rfl, by decide +kernel, rfl⟩
theorem fc_X3_21 : sc_fC RX3 21 3 4 (.array .int) true := ⟨RX3, TX3, 10, tyX3, rfl, by decide, sy_kw3, sy_in 160 (by decide +kernel) (by decide +kernel), tyX3_ok, nmX3, rfl, by decide +kernel, rfl⟩
theorem fc_X3_24 : sc_fC RX3 24 3 5 (.array .int) true := ⟨RX3, TX3, 10, tyX3, rfl, by decide, sy_kw3, sy_in 161 (by decide +kernel) (by decide +kernel), tyX3_ok, nmX3, rfl, by decide +kernel, rfl⟩
theorem fc_X3_27 : sc_fC RX3 27 3 6 (.array .int) true := ⟨RX3, TX3, 10, tyX3, rfl, by decide, sy_kw3, sy_in 162 (by decide +kernel) (by decide +kernel), tyX3_ok, nmX3, rfl, by decide +kernel, rfl⟩
theorem fc_X3_30 : sc_fC RX3 30 3 7 (.array .int) true := ⟨RX3, TX3, 10, tyX3, rfl, by decide, sy_kw3, sy_in 163 (by decide +kernel) (by decide +kernel), tyX3_ok, nmX3, rfl, by decide +kernel, rfl⟩
theorem wd_187 : Cond.arrayClass (newarray.typeOf .boolean) ∈ sy_AL := sy_in 187 (by decide +kernel) (by decide +kernel)
theorem fc_X3_33 : sc_fC RX3 33 3 8 (.array .boolean) true := ⟨RX3, TX3, 10, tyX3, rfl, by decide, sy_kw3, sy_in 164 (by decide +kernel) (by decide +kernel), tyX3_ok, nmX3, rfl, by decide +kernel, rfl⟩
theorem fc_X3_37 : sc_fC RX3 37 3 9 .int false := ⟨RX3, TX3, 10, tyX3, rfl, by decide, sy_kw3, sy_in 165 (by decide +kernel) (by decide +kernel), tyX3_ok, nmX3, rfl, by decide +kernel, rfl⟩
theorem fc_X3_41 : sc_fC RX3 41 3 0 (.object "SegmentYard$Schema") true := ⟨RX3, TX3, 10, tyX3, rfl, by decide, sy_kw3, sy_in 156 (by decide +kernel) (by decide +kernel), tyX3_ok, nmX3, rfl, by decide +kernel, rfl⟩
theorem wd_193 : Cond.methodLink RX0 3 Lib.objectInit ∈ sy_AL := sy_in 193 (by decide +kernel) (by decide +kernel)
theorem fc_X0_9 : sc_fC RX0 9 0 0 .int false := ⟨RX0, TX0, 8, tyX0, rfl, by decide, sy_kw0, sy_in 194 (by decide +kernel) (by decide +kernel), tyX0_ok, nmX0, rfl, by decide +kernel, rfl⟩
theorem fc_X0_15 : sc_fC RX0 15 0 1 (.array .int) true := ⟨RX0, TX0, 8, tyX0, rfl, by decide, sy_kw0, sy_in 195 (by decide +kernel) (by decide +kernel), tyX0_ok, nmX0, rfl, by decide +kernel, rfl⟩
theorem fc_X0_19 : sc_fC RX0 19 0 2 (.array .int) true := ⟨RX0, TX0, 8, tyX0, rfl, by decide, sy_kw0, sy_in 196 (by decide +kernel) (by decide +kernel), tyX0_ok, nmX0, rfl, by decide +kernel, rfl⟩
theorem fc_X0_22 : sc_fC RX0 22 0 3 (.array .int) true := ⟨RX0, TX0, 8, tyX0, rfl, by decide, sy_kw0, sy_in 197 (by decide +kernel) (by decide +kernel), tyX0_ok, nmX0, rfl, by decide +kernel, rfl⟩
theorem fc_X0_25 : sc_fC RX0 25 0 4 (.array .boolean) true := ⟨RX0, TX0, 8, tyX0, rfl, by decide, sy_kw0, sy_in 198 (by decide +kernel) (by decide +kernel), tyX0_ok, nmX0, rfl, by decide +kernel, rfl⟩
theorem fc_X0_29 : sc_fC RX0 29 0 5 (.array .int) true := ⟨RX0, TX0, 8, tyX0, rfl, by decide, sy_kw0, sy_in 199 (by decide +kernel) (by decide +kernel), tyX0_ok, nmX0, rfl, by decide +kernel, rfl⟩
theorem fc_X0_32 : sc_fC RX0 32 0 6 (.array .int) true := ⟨RX0, TX0, 8, tyX0, rfl, by decide, sy_kw0, sy_in 200 (by decide +kernel) (by decide +kernel), tyX0_ok, nmX0, rfl, by decide +kernel, rfl⟩
theorem fc_X0_35 : sc_fC RX0 35 0 7 (.array .int) true := ⟨RX0, TX0, 8, tyX0, rfl, by decide, sy_kw0, sy_in 201 (by decide +kernel) (by decide +kernel), tyX0_ok, nmX0, rfl, by decide +kernel, rfl⟩
theorem wd_224 : Cond.methodLink RX1 3 Lib.objectInit ∈ sy_AL := sy_in 224 (by decide +kernel) (by decide +kernel)
theorem fc_X1_9 : sc_fC RX1 9 1 0 .int false := ⟨RX1, TX1, 4, tyX1, rfl, by decide, sy_kw1, sy_in 225 (by decide +kernel) (by decide +kernel), tyX1_ok, nmX1, rfl, by decide +kernel, rfl⟩
theorem fc_X1_15 : sc_fC RX1 15 1 1 .boolean false := ⟨RX1, TX1, 4, tyX1, rfl, by decide, sy_kw1, sy_in 226 (by decide +kernel) (by decide +kernel), tyX1_ok, nmX1, rfl, by decide +kernel, rfl⟩
theorem fc_X1_19 : sc_fC RX1 19 1 2 (.array .int) true := ⟨RX1, TX1, 4, tyX1, rfl, by decide, sy_kw1, sy_in 227 (by decide +kernel) (by decide +kernel), tyX1_ok, nmX1, rfl, by decide +kernel, rfl⟩
theorem fc_X1_23 : sc_fC RX1 23 1 3 (.array .int) true := ⟨RX1, TX1, 4, tyX1, rfl, by decide, sy_kw1, sy_in 228 (by decide +kernel) (by decide +kernel), tyX1_ok, nmX1, rfl, by decide +kernel, rfl⟩
theorem wd_244 : Cond.methodLink RX4 3 Lib.objectInit ∈ sy_AL := sy_in 244 (by decide +kernel) (by decide +kernel)
theorem fc_X4_9 : sc_fC RX4 9 4 0 .int false := ⟨RX4, TX4, 9, tyX4, rfl, by decide, sy_kw4, sy_in 245 (by decide +kernel) (by decide +kernel), tyX4_ok, nmX4, rfl, by decide +kernel, rfl⟩
theorem fc_X4_15 : sc_fC RX4 15 4 1 .int false := ⟨RX4, TX4, 9, tyX4, rfl, by decide, sy_kw4, sy_in 246 (by decide +kernel) (by decide +kernel), tyX4_ok, nmX4, rfl, by decide +kernel, rfl⟩
theorem fc_X4_18 : sc_fC RX4 18 4 2 .int false := ⟨RX4, TX4, 9, tyX4, rfl, by decide, sy_kw4, sy_in 247 (by decide +kernel) (by decide +kernel), tyX4_ok, nmX4, rfl, by decide +kernel, rfl⟩
theorem fc_X4_21 : sc_fC RX4 21 4 3 .boolean false := ⟨RX4, TX4, 9, tyX4, rfl, by decide, sy_kw4, sy_in 248 (by decide +kernel) (by decide +kernel), tyX4_ok, nmX4, rfl, by decide +kernel, rfl⟩
theorem fc_X4_25 : sc_fC RX4 25 4 4 .boolean false := ⟨RX4, TX4, 9, tyX4, rfl, by decide, sy_kw4, sy_in 249 (by decide +kernel) (by decide +kernel), tyX4_ok, nmX4, rfl, by decide +kernel, rfl⟩
theorem fc_X4_28 : sc_fC RX4 28 4 5 .int false := ⟨RX4, TX4, 9, tyX4, rfl, by decide, sy_kw4, sy_in 250 (by decide +kernel) (by decide +kernel), tyX4_ok, nmX4, rfl, by decide +kernel, rfl⟩
theorem fc_X4_31 : sc_fC RX4 31 4 6 .int false := ⟨RX4, TX4, 9, tyX4, rfl, by decide, sy_kw4, sy_in 251 (by decide +kernel) (by decide +kernel), tyX4_ok, nmX4, rfl, by decide +kernel, rfl⟩
theorem fc_X4_34 : sc_fC RX4 34 4 7 (.array .int) true := ⟨RX4, TX4, 9, tyX4, rfl, by decide, sy_kw4, sy_in 252 (by decide +kernel) (by decide +kernel), tyX4_ok, nmX4, rfl, by decide +kernel, rfl⟩
theorem fc_X4_38 : sc_fC RX4 38 4 8 (.array .boolean) true := ⟨RX4, TX4, 9, tyX4, rfl, by decide, sy_kw4, sy_in 253 (by decide +kernel) (by decide +kernel), tyX4_ok, nmX4, rfl, by decide +kernel, rfl⟩
theorem wd_112 : Cond.methodLink RX5 1 Lib.objectInit ∈ sy_AL := sy_in 112 (by decide +kernel) (by decide +kernel)
theorem wd_115 : Cond.classLink RX5 7 RX2 ∈ sy_AL := sy_in 115 (by decide +kernel) (by decide +kernel)
theorem wd_116 : Cond.instantiable RX2 9 ∈ sy_AL := sy_in 116 (by decide +kernel) (by decide +kernel)
theorem wd_94 : Cond.initialized RX2 ∈ sy_AL := sy_in 94 (by decide +kernel) (by decide +kernel)
theorem wd_118 : Cond.instanceMethod yX2_init ∈ sy_AL := sy_in 118 (by decide +kernel) (by decide +kernel)
theorem wd_119 : Cond.code yX2_init cX2_init 1 none ∈ sy_AL := sy_in 119 (by decide +kernel) (by decide +kernel)
theorem fc_X5_10 : sc_fC RX5 10 5 0 (.object "SegmentYard$Schema") true := ⟨RX5, TX5, 6, tyX5, rfl, by decide, sy_kw5, sy_in 273 (by decide +kernel) (by decide +kernel), tyX5_ok, nmX5, rfl, by decide +kernel, rfl⟩
theorem wd_150 : Cond.classLink RX5 16 RX3 ∈ sy_AL := sy_in 150 (by decide +kernel) (by decide +kernel)
theorem wd_151 : Cond.instantiable RX3 10 ∈ sy_AL := sy_in 151 (by decide +kernel) (by decide +kernel)
theorem wd_95 : Cond.initialized RX3 ∈ sy_AL := sy_in 95 (by decide +kernel) (by decide +kernel)
theorem wd_152 : Cond.methodLink RX5 18 yX3_init ∈ sy_AL := sy_in 152 (by decide +kernel) (by decide +kernel)
theorem wd_153 : Cond.instanceMethod yX3_init ∈ sy_AL := sy_in 153 (by decide +kernel) (by decide +kernel)
theorem wd_154 : Cond.code yX3_init cX3_init 3 none ∈ sy_AL := sy_in 154 (by decide +kernel) (by decide +kernel)
theorem fc_X5_21 : sc_fC RX5 21 5 1 (.object "SegmentYard$Store") true := ⟨RX5, TX5, 6, tyX5, rfl, by decide, sy_kw5, sy_in 274 (by decide +kernel) (by decide +kernel), tyX5_ok, nmX5, rfl, by decide +kernel, rfl⟩
theorem wd_188 : Cond.classLink RX5 25 RX0 ∈ sy_AL := sy_in 188 (by decide +kernel) (by decide +kernel)
theorem wd_189 : Cond.instantiable RX0 8 ∈ sy_AL := sy_in 189 (by decide +kernel) (by decide +kernel)
theorem wd_96 : Cond.initialized RX0 ∈ sy_AL := sy_in 96 (by decide +kernel) (by decide +kernel)
theorem wd_191 : Cond.instanceMethod yX0_init ∈ sy_AL := sy_in 191 (by decide +kernel) (by decide +kernel)
theorem wd_192 : Cond.code yX0_init cX0_init 1 none ∈ sy_AL := sy_in 192 (by decide +kernel) (by decide +kernel)
theorem fc_X5_28 : sc_fC RX5 28 5 2 (.object "SegmentYard$Arguments") true := ⟨RX5, TX5, 6, tyX5, rfl, by decide, sy_kw5, sy_in 275 (by decide +kernel) (by decide +kernel), tyX5_ok, nmX5, rfl, by decide +kernel, rfl⟩
theorem wd_219 : Cond.classLink RX5 32 RX1 ∈ sy_AL := sy_in 219 (by decide +kernel) (by decide +kernel)
theorem wd_220 : Cond.instantiable RX1 4 ∈ sy_AL := sy_in 220 (by decide +kernel) (by decide +kernel)
theorem wd_97 : Cond.initialized RX1 ∈ sy_AL := sy_in 97 (by decide +kernel) (by decide +kernel)
theorem wd_222 : Cond.instanceMethod yX1_init ∈ sy_AL := sy_in 222 (by decide +kernel) (by decide +kernel)
theorem wd_223 : Cond.code yX1_init cX1_init 1 none ∈ sy_AL := sy_in 223 (by decide +kernel) (by decide +kernel)
theorem fc_X5_35 : sc_fC RX5 35 5 3 (.object "SegmentYard$Needs") true := ⟨RX5, TX5, 6, tyX5, rfl, by decide, sy_kw5, sy_in 276 (by decide +kernel) (by decide +kernel), tyX5_ok, nmX5, rfl, by decide +kernel, rfl⟩
theorem wd_238 : Cond.classLink RX5 39 RX4 ∈ sy_AL := sy_in 238 (by decide +kernel) (by decide +kernel)
theorem fc_X5_41 : sc_fC RX5 41 5 4 (.array (.object "SegmentYard$View")) true := ⟨RX5, TX5, 6, tyX5, rfl, by decide, sy_kw5, sy_in 277 (by decide +kernel) (by decide +kernel), tyX5_ok, nmX5, rfl, by decide +kernel, rfl⟩
theorem fc_X5_45 : sc_fC RX5 45 5 5 (.array .int) true := ⟨RX5, TX5, 6, tyX5, rfl, by decide, sy_kw5, sy_in 278 (by decide +kernel) (by decide +kernel), tyX5_ok, nmX5, rfl, by decide +kernel, rfl⟩
theorem wd_240 : Cond.instantiable RX4 9 ∈ sy_AL := sy_in 240 (by decide +kernel) (by decide +kernel)
theorem wd_98 : Cond.initialized RX4 ∈ sy_AL := sy_in 98 (by decide +kernel) (by decide +kernel)
theorem wd_242 : Cond.instanceMethod yX4_init ∈ sy_AL := sy_in 242 (by decide +kernel) (by decide +kernel)
theorem wd_243 : Cond.code yX4_init cX4_init 1 none ∈ sy_AL := sy_in 243 (by decide +kernel) (by decide +kernel)
theorem wd_1079 : Cond.methodLink RX6 1 Lib.objectInit ∈ sy_AL := sy_in 1079 (by decide +kernel) (by decide +kernel)
theorem fc_X6_7 : sc_fC RX6 7 6 1 (.array .int) true := ⟨RX6, TX6, 37, tyX6, rfl, by decide, sy_kw6, sy_in 1085 (by decide +kernel) (by decide +kernel), tyX6_ok, nmX6, rfl, by decide +kernel, rfl⟩
theorem fc_X6_13 : sc_fC RX6 13 6 2 (.array .int) true := ⟨RX6, TX6, 37, tyX6, rfl, by decide, sy_kw6, sy_in 1086 (by decide +kernel) (by decide +kernel), tyX6_ok, nmX6, rfl, by decide +kernel, rfl⟩
theorem fc_X6_16 : sc_fC RX6 16 6 3 (.array .int) true := ⟨RX6, TX6, 37, tyX6, rfl, by decide, sy_kw6, sy_in 1087 (by decide +kernel) (by decide +kernel), tyX6_ok, nmX6, rfl, by decide +kernel, rfl⟩
theorem fc_X6_19 : sc_fC RX6 19 6 4 (.array .int) true := ⟨RX6, TX6, 37, tyX6, rfl, by decide, sy_kw6, sy_in 1088 (by decide +kernel) (by decide +kernel), tyX6_ok, nmX6, rfl, by decide +kernel, rfl⟩
theorem fc_X6_22 : sc_fC RX6 22 6 5 (.array .int) true := ⟨RX6, TX6, 37, tyX6, rfl, by decide, sy_kw6, sy_in 1089 (by decide +kernel) (by decide +kernel), tyX6_ok, nmX6, rfl, by decide +kernel, rfl⟩
theorem fc_X6_25 : sc_fC RX6 25 6 6 (.array .int) true := ⟨RX6, TX6, 37, tyX6, rfl, by decide, sy_kw6, sy_in 1090 (by decide +kernel) (by decide +kernel), tyX6_ok, nmX6, rfl, by decide +kernel, rfl⟩
theorem fc_X6_28 : sc_fC RX6 28 6 7 (.array .int) true := ⟨RX6, TX6, 37, tyX6, rfl, by decide, sy_kw6, sy_in 1091 (by decide +kernel) (by decide +kernel), tyX6_ok, nmX6, rfl, by decide +kernel, rfl⟩
theorem fc_X6_31 : sc_fC RX6 31 6 8 (.array .int) true := ⟨RX6, TX6, 37, tyX6, rfl, by decide, sy_kw6, sy_in 1092 (by decide +kernel) (by decide +kernel), tyX6_ok, nmX6, rfl, by decide +kernel, rfl⟩
theorem fc_X6_34 : sc_fC RX6 34 6 9 (.array .int) true := ⟨RX6, TX6, 37, tyX6, rfl, by decide, sy_kw6, sy_in 1093 (by decide +kernel) (by decide +kernel), tyX6_ok, nmX6, rfl, by decide +kernel, rfl⟩
theorem fc_X6_37 : sc_fC RX6 37 6 10 (.array .int) true := ⟨RX6, TX6, 37, tyX6, rfl, by decide, sy_kw6, sy_in 1094 (by decide +kernel) (by decide +kernel), tyX6_ok, nmX6, rfl, by decide +kernel, rfl⟩
theorem fc_X6_40 : sc_fC RX6 40 6 11 (.array .int) true := ⟨RX6, TX6, 37, tyX6, rfl, by decide, sy_kw6, sy_in 1095 (by decide +kernel) (by decide +kernel), tyX6_ok, nmX6, rfl, by decide +kernel, rfl⟩
theorem fc_X6_43 : sc_fC RX6 43 6 12 (.array .boolean) true := ⟨RX6, TX6, 37, tyX6, rfl, by decide, sy_kw6, sy_in 1096 (by decide +kernel) (by decide +kernel), tyX6_ok, nmX6, rfl, by decide +kernel, rfl⟩
theorem fc_X6_47 : sc_fC RX6 47 6 13 (.array .int) true := ⟨RX6, TX6, 37, tyX6, rfl, by decide, sy_kw6, sy_in 1097 (by decide +kernel) (by decide +kernel), tyX6_ok, nmX6, rfl, by decide +kernel, rfl⟩
theorem fc_X6_50 : sc_fC RX6 50 6 14 (.array .int) true := ⟨RX6, TX6, 37, tyX6, rfl, by decide, sy_kw6, sy_in 1098 (by decide +kernel) (by decide +kernel), tyX6_ok, nmX6, rfl, by decide +kernel, rfl⟩
theorem fc_X6_53 : sc_fC RX6 53 6 15 (.array .int) true := ⟨RX6, TX6, 37, tyX6, rfl, by decide, sy_kw6, sy_in 1099 (by decide +kernel) (by decide +kernel), tyX6_ok, nmX6, rfl, by decide +kernel, rfl⟩
theorem fc_X6_56 : sc_fC RX6 56 6 16 (.array .int) true := ⟨RX6, TX6, 37, tyX6, rfl, by decide, sy_kw6, sy_in 1100 (by decide +kernel) (by decide +kernel), tyX6_ok, nmX6, rfl, by decide +kernel, rfl⟩
theorem fc_X6_59 : sc_fC RX6 59 6 17 (.array .int) true := ⟨RX6, TX6, 37, tyX6, rfl, by decide, sy_kw6, sy_in 1101 (by decide +kernel) (by decide +kernel), tyX6_ok, nmX6, rfl, by decide +kernel, rfl⟩
theorem fc_X6_62 : sc_fC RX6 62 6 18 (.array .int) true := ⟨RX6, TX6, 37, tyX6, rfl, by decide, sy_kw6, sy_in 1102 (by decide +kernel) (by decide +kernel), tyX6_ok, nmX6, rfl, by decide +kernel, rfl⟩
theorem fc_X6_65 : sc_fC RX6 65 6 19 (.array .int) true := ⟨RX6, TX6, 37, tyX6, rfl, by decide, sy_kw6, sy_in 1103 (by decide +kernel) (by decide +kernel), tyX6_ok, nmX6, rfl, by decide +kernel, rfl⟩
theorem fc_X6_68 : sc_fC RX6 68 6 20 (.array .int) true := ⟨RX6, TX6, 37, tyX6, rfl, by decide, sy_kw6, sy_in 1104 (by decide +kernel) (by decide +kernel), tyX6_ok, nmX6, rfl, by decide +kernel, rfl⟩
theorem fc_X6_71 : sc_fC RX6 71 6 21 (.array .int) true := ⟨RX6, TX6, 37, tyX6, rfl, by decide, sy_kw6, sy_in 1105 (by decide +kernel) (by decide +kernel), tyX6_ok, nmX6, rfl, by decide +kernel, rfl⟩
theorem fc_X6_74 : sc_fC RX6 74 6 22 (.array .int) true := ⟨RX6, TX6, 37, tyX6, rfl, by decide, sy_kw6, sy_in 1106 (by decide +kernel) (by decide +kernel), tyX6_ok, nmX6, rfl, by decide +kernel, rfl⟩
theorem fc_X6_77 : sc_fC RX6 77 6 25 (.array .int) true := ⟨RX6, TX6, 37, tyX6, rfl, by decide, sy_kw6, sy_in 1109 (by decide +kernel) (by decide +kernel), tyX6_ok, nmX6, rfl, by decide +kernel, rfl⟩
theorem fc_X6_80 : sc_fC RX6 80 6 26 (.array .int) true := ⟨RX6, TX6, 37, tyX6, rfl, by decide, sy_kw6, sy_in 1110 (by decide +kernel) (by decide +kernel), tyX6_ok, nmX6, rfl, by decide +kernel, rfl⟩
theorem fc_X6_83 : sc_fC RX6 83 6 27 (.array .int) true := ⟨RX6, TX6, 37, tyX6, rfl, by decide, sy_kw6, sy_in 1111 (by decide +kernel) (by decide +kernel), tyX6_ok, nmX6, rfl, by decide +kernel, rfl⟩
theorem fc_X6_86 : sc_fC RX6 86 6 28 (.array .boolean) true := ⟨RX6, TX6, 37, tyX6, rfl, by decide, sy_kw6, sy_in 1112 (by decide +kernel) (by decide +kernel), tyX6_ok, nmX6, rfl, by decide +kernel, rfl⟩
theorem fc_X6_89 : sc_fC RX6 89 6 29 (.array .int) true := ⟨RX6, TX6, 37, tyX6, rfl, by decide, sy_kw6, sy_in 1113 (by decide +kernel) (by decide +kernel), tyX6_ok, nmX6, rfl, by decide +kernel, rfl⟩
theorem fc_X6_92 : sc_fC RX6 92 6 30 (.array .int) true := ⟨RX6, TX6, 37, tyX6, rfl, by decide, sy_kw6, sy_in 1114 (by decide +kernel) (by decide +kernel), tyX6_ok, nmX6, rfl, by decide +kernel, rfl⟩
theorem fc_X6_95 : sc_fC RX6 95 6 31 (.array .int) true := ⟨RX6, TX6, 37, tyX6, rfl, by decide, sy_kw6, sy_in 1115 (by decide +kernel) (by decide +kernel), tyX6_ok, nmX6, rfl, by decide +kernel, rfl⟩
theorem fc_X6_98 : sc_fC RX6 98 6 32 (.array .int) true := ⟨RX6, TX6, 37, tyX6, rfl, by decide, sy_kw6, sy_in 1116 (by decide +kernel) (by decide +kernel), tyX6_ok, nmX6, rfl, by decide +kernel, rfl⟩
theorem fc_X6_101 : sc_fC RX6 101 6 34 (.array .int) true := ⟨RX6, TX6, 37, tyX6, rfl, by decide, sy_kw6, sy_in 1118 (by decide +kernel) (by decide +kernel), tyX6_ok, nmX6, rfl, by decide +kernel, rfl⟩
theorem fc_X6_104 : sc_fC RX6 104 6 35 (.array .int) true := ⟨RX6, TX6, 37, tyX6, rfl, by decide, sy_kw6, sy_in 1119 (by decide +kernel) (by decide +kernel), tyX6_ok, nmX6, rfl, by decide +kernel, rfl⟩
theorem wd_1080 : Cond.methodLink RX6 107 yX6_opens ∈ sy_AL := sy_in 1080 (by decide +kernel) (by decide +kernel)
theorem wd_1082 : Cond.instanceMethod yX6_opens ∈ sy_AL := sy_in 1082 (by decide +kernel) (by decide +kernel)
theorem wd_45 : Cond.selects yX6_opens.cls yX6_opens yX6_opens ∈ sy_AL := sy_in 45 (by decide +kernel) (by decide +kernel)
theorem wd_99 : Cond.initialized RX6 ∈ sy_AL := sy_in 99 (by decide +kernel) (by decide +kernel)
theorem wd_1083 : Cond.code yX6_opens cX6_opens 4 none ∈ sy_AL := sy_in 1083 (by decide +kernel) (by decide +kernel)
end SYP0
section SYP
def sc_P_Schema : sc_G := fun cA b F => sc_o F 1 2 [.int 0, .null, .null, .null, .null, .null, .null, .null, .null]
def sc_G_Schema : sc_G := fun cA b F => (sc_p (sc_r (sc_p (sc_r (sc_p (sc_r (sc_p (sc_r (sc_p (sc_r (sc_p (sc_r (sc_p (sc_r (sc_p (sc_r (sc_p (sc_P_Schema cA b F) 1 0 (.int 0)) 2 (.inl (cA 0, (12, (.inl (fun _ => 0)))))) 1 1 (.ref (b + 2))) 3 (.inl (cA 0, (12, (.inl (fun _ => 0)))))) 1 2 (.ref (b + 3))) 4 (.inl (cA 0, (12, (.inl (fun _ => 0)))))) 1 3 (.ref (b + 4))) 5 (.inl (cA 0, (12, (.inl (fun _ => 0)))))) 1 4 (.ref (b + 5))) 6 (.inl (cA 0, (12, (.inl (fun _ => 0)))))) 1 5 (.ref (b + 6))) 7 (.inl (cA 0, (12, (.inl (fun _ => 0)))))) 1 6 (.ref (b + 7))) 8 (.inl (cA 0, (12, (.inl (fun _ => 0)))))) 1 7 (.ref (b + 8))) 9 (.inl (cA 0, (12, (.inl (fun _ => 0)))))) 1 8 (.ref (b + 9)))
set_option maxRecDepth 100000 in
set_option maxHeartbeats 8000000 in
theorem sc_Schema : sc_M yX2_init cX2_init 1 2 (fun b => [.ref (b + 1)]) 2 10 96 (fun _ => True) (fun cA => []) sc_P_Schema sc_G_Schema (fun cA => [(cA 0, .int)]) := by
  intro l D cA b F
  refine Met.ofW (cc := cX2_init) (maxL := 1) (ret := none) (by decide) rfl ?_
  intro p e s m args below meth c s₁ B hml hv
  obtain ⟨rfl, hsz, hP, hK, hcA, hpr⟩ := hv
  have hx := B.exec
  have hb := B.bytes
  have hr := B.returns
  have hts0 := atoms_spec (ws := Cond.code yX2_init cX2_init 1 none :: sy_AL) B.pre
  have hts : ∀ w ∈ sy_AL, w.before _ s = true := fun w hw => hts0 w (List.mem_cons_of_mem _ hw)
  have hown : s.vm.findClass RX2 = some m.cls := findClass_of_methodNamed B.named
  have hlocks := B.notSynchronized
  have hin : meth.name = "<init>" := (name_of_methodNamed B.named B.method).1
  have hb0 : b ≤ s.heap.size := by omega
  have hS : va_S (sy_ab b) s.heap s.heap [] := va_S.rf
  have hl := lv_entry ([.ref (b + 1)]) (n := 1) (Nat.le_of_ble_eq_true rfl)
  rw [lg_entry_eq]
  generalize (lg_sl ([.ref (b + 1)]) ++ List.replicate (1 - (lg_sl ([.ref (b + 1)])).length) Slot.unset).toArray = ls at hl ⊢
  have hl : lv_has ls 1 [(0, .ref (b + 1))] := hl
  refine lv_aload_n hx hb dX2_init_0 rfl (lv_at hl 0 rfl) ?_
  refine W.objInit hx hb hown (hts _ wd_120) (hts _ wd_113) (hts _ wd_114) rfl (by rw [hml]; exact hl.1) rfl dX2_init_1 (Nat.le_of_ble_eq_true rfl) (Nat.le_of_ble_eq_true rfl) ?_
  refine W.eq (g2 := F0 m 4 ls []) rfl ?_
  refine lv_aload_n hx hb dX2_init_4 rfl (lv_at hl 0 rfl) ?_
  refine lv_iconst (v := 0) hx hb dX2_init_5 (by decide) ?_
  refine sc_put (k := 1) (fs := [.int 0, .null, .null, .null, .null, .null, .null, .null, .null]) (v := .int 0) hx hb hts fc_X2_9 hown hin hK hP hS rfl (by decide) rfl rfl (Nat.le_of_ble_eq_true rfl) dX2_init_6 (fun H locs hP hS => ?_)
  refine lv_aload_n hx hb dX2_init_9 rfl (lv_at hl 0 rfl) ?_
  refine lv_bipush (v := 12) hx hb dX2_init_10 (by decide) ?_
  refine sc_newa (atype := .int) (cA := cA) (kd := 0) (n := 2) (a0 := (12, (.inl (fun _ => 0)))) hx hb hts wd_149 hcA.1 (fun U x h => h) hK hP hS hb0 (by omega) (fun _ => rfl) (by decide) (by decide) (Nat.le_of_ble_eq_true rfl) (Nat.le_of_ble_eq_true rfl) (Nat.le_of_ble_eq_true rfl) dX2_init_12 (fun H hK1 hP hS => ?_)
  have hK_0 : va_K D vwCl [(cA 0, .int)] s := hK1
  refine sc_put (k := 1) (fs := [.int 0, .null, .null, .null, .null, .null, .null, .null, .null]) (v := .ref (b + 2)) hx hb hts fc_X2_15 hown hin hK hP hS rfl (by decide) rfl rfl (Nat.le_of_ble_eq_true rfl) dX2_init_14 (fun H locs hP hS => ?_)
  refine lv_aload_n hx hb dX2_init_17 rfl (lv_at hl 0 rfl) ?_
  refine lv_bipush (v := 12) hx hb dX2_init_18 (by decide) ?_
  refine sc_newa (atype := .int) (cA := cA) (kd := 0) (n := 3) (a0 := (12, (.inl (fun _ => 0)))) hx hb hts wd_149 hcA.1 (fun U x h => h) hK hP hS hb0 (by omega) (fun _ => rfl) (by decide) (by decide) (Nat.le_of_ble_eq_true rfl) (Nat.le_of_ble_eq_true rfl) (Nat.le_of_ble_eq_true rfl) dX2_init_20 (fun H hK1 hP hS => ?_)
  refine sc_put (k := 1) (fs := [.int 0, .ref (b + 2), .null, .null, .null, .null, .null, .null, .null]) (v := .ref (b + 3)) hx hb hts fc_X2_19 hown hin hK hP hS rfl (by decide) rfl rfl (Nat.le_of_ble_eq_true rfl) dX2_init_22 (fun H locs hP hS => ?_)
  refine lv_aload_n hx hb dX2_init_25 rfl (lv_at hl 0 rfl) ?_
  refine lv_bipush (v := 12) hx hb dX2_init_26 (by decide) ?_
  refine sc_newa (atype := .int) (cA := cA) (kd := 0) (n := 4) (a0 := (12, (.inl (fun _ => 0)))) hx hb hts wd_149 hcA.1 (fun U x h => h) hK hP hS hb0 (by omega) (fun _ => rfl) (by decide) (by decide) (Nat.le_of_ble_eq_true rfl) (Nat.le_of_ble_eq_true rfl) (Nat.le_of_ble_eq_true rfl) dX2_init_28 (fun H hK1 hP hS => ?_)
  refine sc_put (k := 1) (fs := [.int 0, .ref (b + 2), .ref (b + 3), .null, .null, .null, .null, .null, .null]) (v := .ref (b + 4)) hx hb hts fc_X2_22 hown hin hK hP hS rfl (by decide) rfl rfl (Nat.le_of_ble_eq_true rfl) dX2_init_30 (fun H locs hP hS => ?_)
  refine lv_aload_n hx hb dX2_init_33 rfl (lv_at hl 0 rfl) ?_
  refine lv_bipush (v := 12) hx hb dX2_init_34 (by decide) ?_
  refine sc_newa (atype := .int) (cA := cA) (kd := 0) (n := 5) (a0 := (12, (.inl (fun _ => 0)))) hx hb hts wd_149 hcA.1 (fun U x h => h) hK hP hS hb0 (by omega) (fun _ => rfl) (by decide) (by decide) (Nat.le_of_ble_eq_true rfl) (Nat.le_of_ble_eq_true rfl) (Nat.le_of_ble_eq_true rfl) dX2_init_36 (fun H hK1 hP hS => ?_)
  refine sc_put (k := 1) (fs := [.int 0, .ref (b + 2), .ref (b + 3), .ref (b + 4), .null, .null, .null, .null, .null]) (v := .ref (b + 5)) hx hb hts fc_X2_25 hown hin hK hP hS rfl (by decide) rfl rfl (Nat.le_of_ble_eq_true rfl) dX2_init_38 (fun H locs hP hS => ?_)
  refine lv_aload_n hx hb dX2_init_41 rfl (lv_at hl 0 rfl) ?_
  refine lv_bipush (v := 12) hx hb dX2_init_42 (by decide) ?_
  refine sc_newa (atype := .int) (cA := cA) (kd := 0) (n := 6) (a0 := (12, (.inl (fun _ => 0)))) hx hb hts wd_149 hcA.1 (fun U x h => h) hK hP hS hb0 (by omega) (fun _ => rfl) (by decide) (by decide) (Nat.le_of_ble_eq_true rfl) (Nat.le_of_ble_eq_true rfl) (Nat.le_of_ble_eq_true rfl) dX2_init_44 (fun H hK1 hP hS => ?_)
  refine sc_put (k := 1) (fs := [.int 0, .ref (b + 2), .ref (b + 3), .ref (b + 4), .ref (b + 5), .null, .null, .null, .null]) (v := .ref (b + 6)) hx hb hts fc_X2_28 hown hin hK hP hS rfl (by decide) rfl rfl (Nat.le_of_ble_eq_true rfl) dX2_init_46 (fun H locs hP hS => ?_)
  refine lv_aload_n hx hb dX2_init_49 rfl (lv_at hl 0 rfl) ?_
  refine lv_bipush (v := 12) hx hb dX2_init_50 (by decide) ?_
  refine sc_newa (atype := .int) (cA := cA) (kd := 0) (n := 7) (a0 := (12, (.inl (fun _ => 0)))) hx hb hts wd_149 hcA.1 (fun U x h => h) hK hP hS hb0 (by omega) (fun _ => rfl) (by decide) (by decide) (Nat.le_of_ble_eq_true rfl) (Nat.le_of_ble_eq_true rfl) (Nat.le_of_ble_eq_true rfl) dX2_init_52 (fun H hK1 hP hS => ?_)
  refine sc_put (k := 1) (fs := [.int 0, .ref (b + 2), .ref (b + 3), .ref (b + 4), .ref (b + 5), .ref (b + 6), .null, .null, .null]) (v := .ref (b + 7)) hx hb hts fc_X2_31 hown hin hK hP hS rfl (by decide) rfl rfl (Nat.le_of_ble_eq_true rfl) dX2_init_54 (fun H locs hP hS => ?_)
  refine lv_aload_n hx hb dX2_init_57 rfl (lv_at hl 0 rfl) ?_
  refine lv_bipush (v := 12) hx hb dX2_init_58 (by decide) ?_
  refine sc_newa (atype := .int) (cA := cA) (kd := 0) (n := 8) (a0 := (12, (.inl (fun _ => 0)))) hx hb hts wd_149 hcA.1 (fun U x h => h) hK hP hS hb0 (by omega) (fun _ => rfl) (by decide) (by decide) (Nat.le_of_ble_eq_true rfl) (Nat.le_of_ble_eq_true rfl) (Nat.le_of_ble_eq_true rfl) dX2_init_60 (fun H hK1 hP hS => ?_)
  refine sc_put (k := 1) (fs := [.int 0, .ref (b + 2), .ref (b + 3), .ref (b + 4), .ref (b + 5), .ref (b + 6), .ref (b + 7), .null, .null]) (v := .ref (b + 8)) hx hb hts fc_X2_34 hown hin hK hP hS rfl (by decide) rfl rfl (Nat.le_of_ble_eq_true rfl) dX2_init_62 (fun H locs hP hS => ?_)
  refine lv_aload_n hx hb dX2_init_65 rfl (lv_at hl 0 rfl) ?_
  refine lv_bipush (v := 12) hx hb dX2_init_66 (by decide) ?_
  refine sc_newa (atype := .int) (cA := cA) (kd := 0) (n := 9) (a0 := (12, (.inl (fun _ => 0)))) hx hb hts wd_149 hcA.1 (fun U x h => h) hK hP hS hb0 (by omega) (fun _ => rfl) (by decide) (by decide) (Nat.le_of_ble_eq_true rfl) (Nat.le_of_ble_eq_true rfl) (Nat.le_of_ble_eq_true rfl) dX2_init_68 (fun H hK1 hP hS => ?_)
  refine sc_put (k := 1) (fs := [.int 0, .ref (b + 2), .ref (b + 3), .ref (b + 4), .ref (b + 5), .ref (b + 6), .ref (b + 7), .ref (b + 8), .null]) (v := .ref (b + 9)) hx hb hts fc_X2_37 hown hin hK hP hS rfl (by decide) rfl rfl (Nat.le_of_ble_eq_true rfl) dX2_init_70 (fun H locs hP hS => ?_)
  exact W.vret hx hb hr (fun t ht hW => ⟨⟨(), rfl, trivial, by rw [ht]; exact hP, va_K.moved hW.alike hK_0⟩, hS.F ht⟩) hS.2.2 dX2_init_73

end SYP
