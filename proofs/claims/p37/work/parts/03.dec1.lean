theorem dX0_init_0 : decode cX0_init 0 = .ok (.aload_n 0, 1) := by decide +kernel
theorem dX0_init_1 : decode cX0_init 1 = .ok (.invokespecial 3, 3) := by decide +kernel
theorem dX0_init_4 : decode cX0_init 4 = .ok (.aload_n 0, 1) := by decide +kernel
theorem dX0_init_5 : decode cX0_init 5 = .ok (.bipush 64, 2) := by decide +kernel
theorem dX0_init_7 : decode cX0_init 7 = .ok (.newarray .int, 2) := by decide +kernel
theorem dX0_init_9 : decode cX0_init 9 = .ok (.putfield 9, 3) := by decide +kernel
theorem dX0_init_12 : decode cX0_init 12 = .ok (.aload_n 0, 1) := by decide +kernel
theorem dX0_init_13 : decode cX0_init 13 = .ok (.sipush 256, 3) := by decide +kernel
theorem dX0_init_16 : decode cX0_init 16 = .ok (.newarray .int, 2) := by decide +kernel
theorem dX0_init_18 : decode cX0_init 18 = .ok (.putfield 15, 3) := by decide +kernel
theorem dX0_init_21 : decode cX0_init 21 = .ok (.aload_n 0, 1) := by decide +kernel
theorem dX0_init_22 : decode cX0_init 22 = .ok (.iconst 0, 1) := by decide +kernel
theorem dX0_init_23 : decode cX0_init 23 = .ok (.putfield 18, 3) := by decide +kernel
theorem dX0_init_26 : decode cX0_init 26 = .ok (.return_, 1) := by decide +kernel
theorem dX0_claims_0 : decode cX0_claims 0 = .ok (.aload_n 0, 1) := by decide +kernel
theorem dX0_claims_1 : decode cX0_claims 1 = .ok (.getfield 18, 3) := by decide +kernel
theorem dX0_claims_4 : decode cX0_claims 4 = .ok (.ireturn, 1) := by decide +kernel
theorem dX1_init_0 : decode cX1_init 0 = .ok (.aload_n 0, 1) := by decide +kernel
theorem dX1_init_1 : decode cX1_init 1 = .ok (.invokespecial 3, 3) := by decide +kernel
theorem dX1_init_4 : decode cX1_init 4 = .ok (.aload_n 0, 1) := by decide +kernel
theorem dX1_init_5 : decode cX1_init 5 = .ok (.bipush 80, 2) := by decide +kernel
theorem dX1_init_7 : decode cX1_init 7 = .ok (.newarray .int, 2) := by decide +kernel
theorem dX1_init_9 : decode cX1_init 9 = .ok (.putfield 9, 3) := by decide +kernel
theorem dX1_init_12 : decode cX1_init 12 = .ok (.aload_n 0, 1) := by decide +kernel
theorem dX1_init_13 : decode cX1_init 13 = .ok (.invokevirtual 15, 3) := by decide +kernel
theorem dX1_init_16 : decode cX1_init 16 = .ok (.return_, 1) := by decide +kernel
theorem dX1_become_0 : decode cX1_become 0 = .ok (.aload_n 1, 1) := by decide +kernel
theorem dX1_become_1 : decode cX1_become 1 = .ok (.ifnull 18, 3) := by decide +kernel
theorem dX1_become_4 : decode cX1_become 4 = .ok (.aload_n 1, 1) := by decide +kernel
theorem dX1_become_5 : decode cX1_become 5 = .ok (.getfield 9, 3) := by decide +kernel
theorem dX1_become_8 : decode cX1_become 8 = .ok (.iconst 0, 1) := by decide +kernel
theorem dX1_become_9 : decode cX1_become 9 = .ok (.aload_n 0, 1) := by decide +kernel
theorem dX1_become_10 : decode cX1_become 10 = .ok (.getfield 9, 3) := by decide +kernel
theorem dX1_become_13 : decode cX1_become 13 = .ok (.iconst 0, 1) := by decide +kernel
theorem dX1_become_14 : decode cX1_become 14 = .ok (.bipush 80, 2) := by decide +kernel
theorem dX1_become_16 : decode cX1_become 16 = .ok (.invokestatic 18, 3) := by decide +kernel
theorem dX1_become_19 : decode cX1_become 19 = .ok (.return_, 1) := by decide +kernel
theorem dX1_begin_0 : decode cX1_begin 0 = .ok (.aload_n 0, 1) := by decide +kernel
theorem dX1_begin_1 : decode cX1_begin 1 = .ok (.getfield 9, 3) := by decide +kernel
theorem dX1_begin_4 : decode cX1_begin 4 = .ok (.iconst 0, 1) := by decide +kernel
theorem dX1_begin_5 : decode cX1_begin 5 = .ok (.bipush 40, 2) := by decide +kernel
theorem dX1_begin_7 : decode cX1_begin 7 = .ok (.bipush 15, 2) := by decide +kernel
theorem dX1_begin_9 : decode cX1_begin 9 = .ok (.invokestatic 22, 3) := by decide +kernel
theorem dX1_begin_12 : decode cX1_begin 12 = .ok (.aload_n 0, 1) := by decide +kernel
theorem dX1_begin_13 : decode cX1_begin 13 = .ok (.getfield 9, 3) := by decide +kernel
theorem dX1_begin_16 : decode cX1_begin 16 = .ok (.bipush 40, 2) := by decide +kernel
theorem dX1_begin_18 : decode cX1_begin 18 = .ok (.bipush 80, 2) := by decide +kernel
theorem dX1_begin_20 : decode cX1_begin 20 = .ok (.iconst (-1), 1) := by decide +kernel
theorem dX1_begin_21 : decode cX1_begin 21 = .ok (.invokestatic 22, 3) := by decide +kernel
theorem dX1_begin_24 : decode cX1_begin 24 = .ok (.return_, 1) := by decide +kernel
theorem dX1_tell_0 : decode cX1_tell 0 = .ok (.aload_n 0, 1) := by decide +kernel
theorem dX1_tell_1 : decode cX1_tell 1 = .ok (.invokevirtual 15, 3) := by decide +kernel
theorem dX1_tell_4 : decode cX1_tell 4 = .ok (.iconst 0, 1) := by decide +kernel
theorem dX1_tell_5 : decode cX1_tell 5 = .ok (.istore 4, 2) := by decide +kernel
theorem dX1_tell_7 : decode cX1_tell 7 = .ok (.iload 4, 2) := by decide +kernel
theorem dX1_tell_9 : decode cX1_tell 9 = .ok (.iload_n 2, 1) := by decide +kernel
theorem dX1_tell_10 : decode cX1_tell 10 = .ok (.if_icmp .ge 17, 3) := by decide +kernel
theorem dX1_tell_13 : decode cX1_tell 13 = .ok (.aload_n 0, 1) := by decide +kernel
theorem dX1_tell_14 : decode cX1_tell 14 = .ok (.aload_n 1, 1) := by decide +kernel
theorem dX1_tell_15 : decode cX1_tell 15 = .ok (.iload 4, 2) := by decide +kernel
theorem dX1_tell_17 : decode cX1_tell 17 = .ok (.iload_n 3, 1) := by decide +kernel
theorem dX1_tell_18 : decode cX1_tell 18 = .ok (.invokevirtual 26, 3) := by decide +kernel
theorem dX1_tell_21 : decode cX1_tell 21 = .ok (.iinc 4 1, 3) := by decide +kernel
theorem dX1_tell_24 : decode cX1_tell 24 = .ok (.goto (-17), 3) := by decide +kernel
theorem dX1_tell_27 : decode cX1_tell 27 = .ok (.return_, 1) := by decide +kernel
theorem dX1_goOnFrom_0 : decode cX1_goOnFrom 0 = .ok (.aload_n 0, 1) := by decide +kernel
theorem dX1_goOnFrom_1 : decode cX1_goOnFrom 1 = .ok (.aload_n 1, 1) := by decide +kernel
theorem dX1_goOnFrom_2 : decode cX1_goOnFrom 2 = .ok (.invokevirtual 30, 3) := by decide +kernel
theorem dX1_goOnFrom_5 : decode cX1_goOnFrom 5 = .ok (.iload_n 3, 1) := by decide +kernel
theorem dX1_goOnFrom_6 : decode cX1_goOnFrom 6 = .ok (.istore 6, 2) := by decide +kernel
theorem dX1_goOnFrom_8 : decode cX1_goOnFrom 8 = .ok (.iload 6, 2) := by decide +kernel
theorem dX1_goOnFrom_10 : decode cX1_goOnFrom 10 = .ok (.iload 4, 2) := by decide +kernel
theorem dX1_goOnFrom_12 : decode cX1_goOnFrom 12 = .ok (.if_icmp .ge 18, 3) := by decide +kernel
theorem dX1_goOnFrom_15 : decode cX1_goOnFrom 15 = .ok (.aload_n 0, 1) := by decide +kernel
theorem dX1_goOnFrom_16 : decode cX1_goOnFrom 16 = .ok (.aload_n 2, 1) := by decide +kernel
theorem dX1_goOnFrom_17 : decode cX1_goOnFrom 17 = .ok (.iload 6, 2) := by decide +kernel
theorem dX1_goOnFrom_19 : decode cX1_goOnFrom 19 = .ok (.iload 5, 2) := by decide +kernel
theorem dX1_goOnFrom_21 : decode cX1_goOnFrom 21 = .ok (.invokevirtual 26, 3) := by decide +kernel
theorem dX1_goOnFrom_24 : decode cX1_goOnFrom 24 = .ok (.iinc 6 1, 3) := by decide +kernel
theorem dX1_goOnFrom_27 : decode cX1_goOnFrom 27 = .ok (.goto (-19), 3) := by decide +kernel
theorem dX1_goOnFrom_30 : decode cX1_goOnFrom 30 = .ok (.return_, 1) := by decide +kernel
theorem dX1_befall_0 : decode cX1_befall 0 = .ok (.aload_n 1, 1) := by decide +kernel
theorem dX1_befall_1 : decode cX1_befall 1 = .ok (.ifnonnull 4, 3) := by decide +kernel
theorem dX1_befall_4 : decode cX1_befall 4 = .ok (.return_, 1) := by decide +kernel
theorem dX1_befall_5 : decode cX1_befall 5 = .ok (.iload_n 3, 1) := by decide +kernel
theorem dX1_befall_6 : decode cX1_befall 6 = .ok (.invokestatic 34, 3) := by decide +kernel
theorem dX1_befall_9 : decode cX1_befall 9 = .ok (.istore 4, 2) := by decide +kernel
theorem dX1_befall_11 : decode cX1_befall 11 = .ok (.iload_n 3, 1) := by decide +kernel
theorem dX1_befall_12 : decode cX1_befall 12 = .ok (.invokestatic 38, 3) := by decide +kernel
theorem dX1_befall_15 : decode cX1_befall 15 = .ok (.istore 5, 2) := by decide +kernel
theorem dX1_befall_17 : decode cX1_befall 17 = .ok (.aload_n 1, 1) := by decide +kernel
theorem dX1_befall_18 : decode cX1_befall 18 = .ok (.iload_n 2, 1) := by decide +kernel
theorem dX1_befall_19 : decode cX1_befall 19 = .ok (.iconst 0, 1) := by decide +kernel
theorem dX1_befall_20 : decode cX1_befall 20 = .ok (.invokevirtual 41, 3) := by decide +kernel
theorem dX1_befall_23 : decode cX1_befall 23 = .ok (.istore 6, 2) := by decide +kernel
theorem dX1_befall_25 : decode cX1_befall 25 = .ok (.aload_n 1, 1) := by decide +kernel
theorem dX1_befall_26 : decode cX1_befall 26 = .ok (.iload_n 2, 1) := by decide +kernel
theorem dX1_befall_27 : decode cX1_befall 27 = .ok (.iconst 1, 1) := by decide +kernel
theorem dX1_befall_28 : decode cX1_befall 28 = .ok (.invokevirtual 41, 3) := by decide +kernel
theorem dX1_befall_31 : decode cX1_befall 31 = .ok (.istore 7, 2) := by decide +kernel
theorem dX1_befall_33 : decode cX1_befall 33 = .ok (.aload_n 1, 1) := by decide +kernel
theorem dX1_befall_34 : decode cX1_befall 34 = .ok (.iload_n 2, 1) := by decide +kernel
theorem dX1_befall_35 : decode cX1_befall 35 = .ok (.iconst 2, 1) := by decide +kernel
theorem dX1_befall_36 : decode cX1_befall 36 = .ok (.invokevirtual 41, 3) := by decide +kernel
theorem dX1_befall_39 : decode cX1_befall 39 = .ok (.istore 8, 2) := by decide +kernel
theorem dX1_befall_41 : decode cX1_befall 41 = .ok (.aload_n 1, 1) := by decide +kernel
theorem dX1_befall_42 : decode cX1_befall 42 = .ok (.iload_n 2, 1) := by decide +kernel
theorem dX1_befall_43 : decode cX1_befall 43 = .ok (.iconst 3, 1) := by decide +kernel
theorem dX1_befall_44 : decode cX1_befall 44 = .ok (.invokevirtual 41, 3) := by decide +kernel
theorem dX1_befall_47 : decode cX1_befall 47 = .ok (.istore 9, 2) := by decide +kernel
theorem dX1_befall_49 : decode cX1_befall 49 = .ok (.aload_n 1, 1) := by decide +kernel
theorem dX1_befall_50 : decode cX1_befall 50 = .ok (.iload_n 2, 1) := by decide +kernel
theorem dX1_befall_51 : decode cX1_befall 51 = .ok (.invokevirtual 47, 3) := by decide +kernel
theorem dX1_befall_54 : decode cX1_befall 54 = .ok (.iconst 5, 1) := by decide +kernel
theorem dX1_befall_55 : decode cX1_befall 55 = .ok (.if_icmp .ne 8, 3) := by decide +kernel
theorem dX1_befall_58 : decode cX1_befall 58 = .ok (.iload 7, 2) := by decide +kernel
theorem dX1_befall_60 : decode cX1_befall 60 = .ok (.goto 5, 3) := by decide +kernel
theorem dX1_befall_63 : decode cX1_befall 63 = .ok (.iload 6, 2) := by decide +kernel
theorem dX1_befall_65 : decode cX1_befall 65 = .ok (.iload 4, 2) := by decide +kernel
theorem dX1_befall_67 : decode cX1_befall 67 = .ok (.iload 5, 2) := by decide +kernel
theorem dX1_befall_69 : decode cX1_befall 69 = .ok (.invokestatic 52, 3) := by decide +kernel
theorem dX1_befall_72 : decode cX1_befall 72 = .ok (.istore 10, 2) := by decide +kernel
theorem dX1_befall_74 : decode cX1_befall 74 = .ok (.aload_n 1, 1) := by decide +kernel
theorem dX1_befall_75 : decode cX1_befall 75 = .ok (.iload_n 2, 1) := by decide +kernel
theorem dX1_befall_76 : decode cX1_befall 76 = .ok (.invokevirtual 47, 3) := by decide +kernel
theorem dX1_befall_79 : decode cX1_befall 79 = .ok (.tableswitch 174 0 5 #[37, 48, 70, 92, 121, 145], 37) := by decide +kernel
theorem dX1_befall_116 : decode cX1_befall 116 = .ok (.aload_n 0, 1) := by decide +kernel
theorem dX1_befall_117 : decode cX1_befall 117 = .ok (.iload 6, 2) := by decide +kernel
theorem dX1_befall_119 : decode cX1_befall 119 = .ok (.iload 7, 2) := by decide +kernel
theorem dX1_befall_121 : decode cX1_befall 121 = .ok (.invokevirtual 56, 3) := by decide +kernel
theorem dX1_befall_124 : decode cX1_befall 124 = .ok (.goto 129, 3) := by decide +kernel
theorem dX1_befall_127 : decode cX1_befall 127 = .ok (.aload_n 0, 1) := by decide +kernel
theorem dX1_befall_128 : decode cX1_befall 128 = .ok (.bipush (-40), 2) := by decide +kernel
theorem dX1_befall_130 : decode cX1_befall 130 = .ok (.bipush 39, 2) := by decide +kernel
theorem dX1_befall_132 : decode cX1_befall 132 = .ok (.iload 6, 2) := by decide +kernel
theorem dX1_befall_134 : decode cX1_befall 134 = .ok (.iload 7, 2) := by decide +kernel
theorem dX1_befall_136 : decode cX1_befall 136 = .ok (.iload 4, 2) := by decide +kernel
theorem dX1_befall_138 : decode cX1_befall 138 = .ok (.iload 5, 2) := by decide +kernel
theorem dX1_befall_140 : decode cX1_befall 140 = .ok (.invokestatic 60, 3) := by decide +kernel
theorem dX1_befall_143 : decode cX1_befall 143 = .ok (.invokevirtual 64, 3) := by decide +kernel
theorem dX1_befall_146 : decode cX1_befall 146 = .ok (.goto 107, 3) := by decide +kernel
theorem dX1_befall_149 : decode cX1_befall 149 = .ok (.aload_n 0, 1) := by decide +kernel
theorem dX1_befall_150 : decode cX1_befall 150 = .ok (.bipush (-40), 2) := by decide +kernel
theorem dX1_befall_152 : decode cX1_befall 152 = .ok (.bipush 39, 2) := by decide +kernel
theorem dX1_befall_154 : decode cX1_befall 154 = .ok (.iload 7, 2) := by decide +kernel
theorem dX1_befall_156 : decode cX1_befall 156 = .ok (.iload 8, 2) := by decide +kernel
theorem dX1_befall_158 : decode cX1_befall 158 = .ok (.iload 9, 2) := by decide +kernel
theorem dX1_befall_160 : decode cX1_befall 160 = .ok (.iload 10, 2) := by decide +kernel
theorem dX1_befall_162 : decode cX1_befall 162 = .ok (.invokestatic 68, 3) := by decide +kernel
theorem dX1_befall_165 : decode cX1_befall 165 = .ok (.invokevirtual 64, 3) := by decide +kernel
theorem dX1_befall_168 : decode cX1_befall 168 = .ok (.goto 85, 3) := by decide +kernel
theorem dX1_befall_171 : decode cX1_befall 171 = .ok (.aload_n 0, 1) := by decide +kernel
theorem dX1_befall_172 : decode cX1_befall 172 = .ok (.iload 7, 2) := by decide +kernel
theorem dX1_befall_174 : decode cX1_befall 174 = .ok (.iload 10, 2) := by decide +kernel
theorem dX1_befall_176 : decode cX1_befall 176 = .ok (.isub, 1) := by decide +kernel
theorem dX1_befall_177 : decode cX1_befall 177 = .ok (.iload 9, 2) := by decide +kernel
theorem dX1_befall_179 : decode cX1_befall 179 = .ok (.invokestatic 71, 3) := by decide +kernel
theorem dX1_befall_182 : decode cX1_befall 182 = .ok (.iload 7, 2) := by decide +kernel
theorem dX1_befall_184 : decode cX1_befall 184 = .ok (.iload 10, 2) := by decide +kernel
theorem dX1_befall_186 : decode cX1_befall 186 = .ok (.isub, 1) := by decide +kernel
theorem dX1_befall_187 : decode cX1_befall 187 = .ok (.iload 9, 2) := by decide +kernel
theorem dX1_befall_189 : decode cX1_befall 189 = .ok (.invokestatic 74, 3) := by decide +kernel
theorem dX1_befall_192 : decode cX1_befall 192 = .ok (.iload 8, 2) := by decide +kernel
theorem dX1_befall_194 : decode cX1_befall 194 = .ok (.invokevirtual 64, 3) := by decide +kernel
theorem dX1_befall_197 : decode cX1_befall 197 = .ok (.goto 56, 3) := by decide +kernel
theorem dX1_befall_200 : decode cX1_befall 200 = .ok (.aload_n 0, 1) := by decide +kernel
theorem dX1_befall_201 : decode cX1_befall 201 = .ok (.iload 6, 2) := by decide +kernel
theorem dX1_befall_203 : decode cX1_befall 203 = .ok (.iload 7, 2) := by decide +kernel
theorem dX1_befall_205 : decode cX1_befall 205 = .ok (.iload 8, 2) := by decide +kernel
theorem dX1_befall_207 : decode cX1_befall 207 = .ok (.iload 4, 2) := by decide +kernel
theorem dX1_befall_209 : decode cX1_befall 209 = .ok (.iload 5, 2) := by decide +kernel
theorem dX1_befall_211 : decode cX1_befall 211 = .ok (.invokestatic 60, 3) := by decide +kernel
theorem dX1_befall_214 : decode cX1_befall 214 = .ok (.iadd, 1) := by decide +kernel
theorem dX1_befall_215 : decode cX1_befall 215 = .ok (.bipush 39, 2) := by decide +kernel
theorem dX1_befall_217 : decode cX1_befall 217 = .ok (.iconst (-1), 1) := by decide +kernel
theorem dX1_befall_218 : decode cX1_befall 218 = .ok (.invokevirtual 77, 3) := by decide +kernel
theorem dX1_befall_221 : decode cX1_befall 221 = .ok (.goto 32, 3) := by decide +kernel
theorem dX1_befall_224 : decode cX1_befall 224 = .ok (.iload 10, 2) := by decide +kernel
theorem dX1_befall_226 : decode cX1_befall 226 = .ok (.iload 8, 2) := by decide +kernel
theorem dX1_befall_228 : decode cX1_befall 228 = .ok (.if_icmp .lt 25, 3) := by decide +kernel
theorem dX1_befall_231 : decode cX1_befall 231 = .ok (.iload 10, 2) := by decide +kernel
theorem dX1_befall_233 : decode cX1_befall 233 = .ok (.iload 9, 2) := by decide +kernel
theorem dX1_befall_235 : decode cX1_befall 235 = .ok (.if_icmp .gt 18, 3) := by decide +kernel
theorem dX1_befall_238 : decode cX1_befall 238 = .ok (.aload_n 0, 1) := by decide +kernel
theorem dX1_befall_239 : decode cX1_befall 239 = .ok (.iload 6, 2) := by decide +kernel
theorem dX1_befall_241 : decode cX1_befall 241 = .ok (.aload_n 1, 1) := by decide +kernel
theorem dX1_befall_242 : decode cX1_befall 242 = .ok (.iload_n 2, 1) := by decide +kernel
theorem dX1_befall_243 : decode cX1_befall 243 = .ok (.iconst 4, 1) := by decide +kernel
theorem dX1_befall_244 : decode cX1_befall 244 = .ok (.invokevirtual 41, 3) := by decide +kernel
theorem dX1_befall_247 : decode cX1_befall 247 = .ok (.invokevirtual 80, 3) := by decide +kernel
theorem dX1_befall_250 : decode cX1_befall 250 = .ok (.goto 3, 3) := by decide +kernel
theorem dX1_befall_253 : decode cX1_befall 253 = .ok (.return_, 1) := by decide +kernel
theorem dX1_stepOf_0 : decode cX1_stepOf 0 = .ok (.iload_n 0, 1) := by decide +kernel
theorem dX1_stepOf_1 : decode cX1_stepOf 1 = .ok (.ifCond .ne 7, 3) := by decide +kernel
theorem dX1_stepOf_4 : decode cX1_stepOf 4 = .ok (.iload_n 1, 1) := by decide +kernel
theorem dX1_stepOf_5 : decode cX1_stepOf 5 = .ok (.goto 4, 3) := by decide +kernel
theorem dX1_stepOf_8 : decode cX1_stepOf 8 = .ok (.iload_n 2, 1) := by decide +kernel
theorem dX1_stepOf_9 : decode cX1_stepOf 9 = .ok (.ireturn, 1) := by decide +kernel
theorem dX1_slope_0 : decode cX1_slope 0 = .ok (.iload_n 0, 1) := by decide +kernel
theorem dX1_slope_1 : decode cX1_slope 1 = .ok (.iload_n 2, 1) := by decide +kernel
theorem dX1_slope_2 : decode cX1_slope 2 = .ok (.imul, 1) := by decide +kernel
theorem dX1_slope_3 : decode cX1_slope 3 = .ok (.iload_n 1, 1) := by decide +kernel
theorem dX1_slope_4 : decode cX1_slope 4 = .ok (.iload_n 3, 1) := by decide +kernel
theorem dX1_slope_5 : decode cX1_slope 5 = .ok (.imul, 1) := by decide +kernel
theorem dX1_slope_6 : decode cX1_slope 6 = .ok (.iadd, 1) := by decide +kernel
theorem dX1_slope_7 : decode cX1_slope 7 = .ok (.iconst 4, 1) := by decide +kernel
theorem dX1_slope_8 : decode cX1_slope 8 = .ok (.invokestatic 83, 3) := by decide +kernel
theorem dX1_slope_11 : decode cX1_slope 11 = .ok (.ireturn, 1) := by decide +kernel
theorem dX1_foldRise_0 : decode cX1_foldRise 0 = .ok (.iload_n 1, 1) := by decide +kernel
theorem dX1_foldRise_1 : decode cX1_foldRise 1 = .ok (.iconst 1, 1) := by decide +kernel
theorem dX1_foldRise_2 : decode cX1_foldRise 2 = .ok (.if_icmp .ge 5, 3) := by decide +kernel
theorem dX1_foldRise_5 : decode cX1_foldRise 5 = .ok (.iconst 0, 1) := by decide +kernel
theorem dX1_foldRise_6 : decode cX1_foldRise 6 = .ok (.ireturn, 1) := by decide +kernel
theorem dX1_foldRise_7 : decode cX1_foldRise 7 = .ok (.iload_n 3, 1) := by decide +kernel
theorem dX1_foldRise_8 : decode cX1_foldRise 8 = .ok (.iload_n 2, 1) := by decide +kernel
theorem dX1_foldRise_9 : decode cX1_foldRise 9 = .ok (.iadd, 1) := by decide +kernel
theorem dX1_foldRise_10 : decode cX1_foldRise 10 = .ok (.iload_n 1, 1) := by decide +kernel
theorem dX1_foldRise_11 : decode cX1_foldRise 11 = .ok (.invokestatic 88, 3) := by decide +kernel
theorem dX1_foldRise_14 : decode cX1_foldRise 14 = .ok (.istore 4, 2) := by decide +kernel
theorem dX1_foldRise_16 : decode cX1_foldRise 16 = .ok (.iload_n 0, 1) := by decide +kernel
theorem dX1_foldRise_17 : decode cX1_foldRise 17 = .ok (.iload 4, 2) := by decide +kernel
theorem dX1_foldRise_19 : decode cX1_foldRise 19 = .ok (.iload_n 1, 1) := by decide +kernel
theorem dX1_foldRise_20 : decode cX1_foldRise 20 = .ok (.iload 4, 2) := by decide +kernel
theorem dX1_foldRise_22 : decode cX1_foldRise 22 = .ok (.isub, 1) := by decide +kernel
theorem dX1_foldRise_23 : decode cX1_foldRise 23 = .ok (.invokestatic 91, 3) := by decide +kernel
theorem dX1_foldRise_26 : decode cX1_foldRise 26 = .ok (.imul, 1) := by decide +kernel
theorem dX1_foldRise_27 : decode cX1_foldRise 27 = .ok (.iconst 2, 1) := by decide +kernel
theorem dX1_foldRise_28 : decode cX1_foldRise 28 = .ok (.invokestatic 83, 3) := by decide +kernel
theorem dX1_foldRise_31 : decode cX1_foldRise 31 = .ok (.ireturn, 1) := by decide +kernel
theorem dX1_lay_0 : decode cX1_lay 0 = .ok (.aload_n 0, 1) := by decide +kernel
theorem dX1_lay_1 : decode cX1_lay 1 = .ok (.invokevirtual 94, 3) := by decide +kernel
theorem dX1_lay_4 : decode cX1_lay 4 = .ok (.istore_n 3, 1) := by decide +kernel
theorem dX1_lay_5 : decode cX1_lay 5 = .ok (.aload_n 0, 1) := by decide +kernel
theorem dX1_lay_6 : decode cX1_lay 6 = .ok (.iload_n 3, 1) := by decide +kernel
theorem dX1_lay_7 : decode cX1_lay 7 = .ok (.iconst 1, 1) := by decide +kernel
theorem dX1_lay_8 : decode cX1_lay 8 = .ok (.iadd, 1) := by decide +kernel
theorem dX1_lay_9 : decode cX1_lay 9 = .ok (.iload_n 3, 1) := by decide +kernel
theorem dX1_lay_10 : decode cX1_lay 10 = .ok (.iload_n 2, 1) := by decide +kernel
theorem dX1_lay_11 : decode cX1_lay 11 = .ok (.iadd, 1) := by decide +kernel
theorem dX1_lay_12 : decode cX1_lay 12 = .ok (.iload_n 1, 1) := by decide +kernel
theorem dX1_lay_13 : decode cX1_lay 13 = .ok (.invokevirtual 77, 3) := by decide +kernel
theorem dX1_lay_16 : decode cX1_lay 16 = .ok (.return_, 1) := by decide +kernel
theorem dX1_firstBeyond_0 : decode cX1_firstBeyond 0 = .ok (.iload_n 1, 1) := by decide +kernel
theorem dX1_firstBeyond_1 : decode cX1_firstBeyond 1 = .ok (.ifCond .le 13, 3) := by decide +kernel
theorem dX1_firstBeyond_4 : decode cX1_firstBeyond 4 = .ok (.bipush (-4), 2) := by decide +kernel
theorem dX1_firstBeyond_6 : decode cX1_firstBeyond 6 = .ok (.iload_n 0, 1) := by decide +kernel
theorem dX1_firstBeyond_7 : decode cX1_firstBeyond 7 = .ok (.imul, 1) := by decide +kernel
theorem dX1_firstBeyond_8 : decode cX1_firstBeyond 8 = .ok (.iload_n 1, 1) := by decide +kernel
theorem dX1_firstBeyond_9 : decode cX1_firstBeyond 9 = .ok (.invokestatic 83, 3) := by decide +kernel
theorem dX1_firstBeyond_12 : decode cX1_firstBeyond 12 = .ok (.ineg, 1) := by decide +kernel
theorem dX1_firstBeyond_13 : decode cX1_firstBeyond 13 = .ok (.ireturn, 1) := by decide +kernel
theorem dX1_firstBeyond_14 : decode cX1_firstBeyond 14 = .ok (.iload_n 1, 1) := by decide +kernel
theorem dX1_firstBeyond_15 : decode cX1_firstBeyond 15 = .ok (.ifCond .ne 12, 3) := by decide +kernel
theorem dX1_firstBeyond_18 : decode cX1_firstBeyond 18 = .ok (.iload_n 0, 1) := by decide +kernel
theorem dX1_firstBeyond_19 : decode cX1_firstBeyond 19 = .ok (.ifCond .le 8, 3) := by decide +kernel
theorem dX1_firstBeyond_22 : decode cX1_firstBeyond 22 = .ok (.bipush 40, 2) := by decide +kernel
theorem dX1_firstBeyond_24 : decode cX1_firstBeyond 24 = .ok (.goto 5, 3) := by decide +kernel
theorem dX1_firstBeyond_27 : decode cX1_firstBeyond 27 = .ok (.bipush (-40), 2) := by decide +kernel
theorem dX1_firstBeyond_29 : decode cX1_firstBeyond 29 = .ok (.ireturn, 1) := by decide +kernel
theorem dX1_lastBeyond_0 : decode cX1_lastBeyond 0 = .ok (.iload_n 1, 1) := by decide +kernel
theorem dX1_lastBeyond_1 : decode cX1_lastBeyond 1 = .ok (.ifCond .ge 13, 3) := by decide +kernel
theorem dX1_lastBeyond_4 : decode cX1_lastBeyond 4 = .ok (.iconst 4, 1) := by decide +kernel
theorem dX1_lastBeyond_5 : decode cX1_lastBeyond 5 = .ok (.iload_n 0, 1) := by decide +kernel
theorem dX1_lastBeyond_6 : decode cX1_lastBeyond 6 = .ok (.imul, 1) := by decide +kernel
theorem dX1_lastBeyond_7 : decode cX1_lastBeyond 7 = .ok (.iload_n 1, 1) := by decide +kernel
theorem dX1_lastBeyond_8 : decode cX1_lastBeyond 8 = .ok (.invokestatic 83, 3) := by decide +kernel
theorem dX1_lastBeyond_11 : decode cX1_lastBeyond 11 = .ok (.goto 5, 3) := by decide +kernel
theorem dX1_lastBeyond_14 : decode cX1_lastBeyond 14 = .ok (.bipush 39, 2) := by decide +kernel
theorem dX1_lastBeyond_16 : decode cX1_lastBeyond 16 = .ok (.ireturn, 1) := by decide +kernel
theorem dX1_move_0 : decode cX1_move 0 = .ok (.iload_n 1, 1) := by decide +kernel
theorem dX1_move_1 : decode cX1_move 1 = .ok (.bipush (-40), 2) := by decide +kernel
theorem dX1_move_3 : decode cX1_move 3 = .ok (.invokestatic 98, 3) := by decide +kernel
theorem dX1_move_6 : decode cX1_move 6 = .ok (.istore 4, 2) := by decide +kernel
theorem dX1_move_8 : decode cX1_move 8 = .ok (.iload_n 2, 1) := by decide +kernel
theorem dX1_move_9 : decode cX1_move 9 = .ok (.bipush 39, 2) := by decide +kernel
theorem dX1_move_11 : decode cX1_move 11 = .ok (.invokestatic 91, 3) := by decide +kernel
theorem dX1_move_14 : decode cX1_move 14 = .ok (.istore 5, 2) := by decide +kernel
theorem dX1_move_16 : decode cX1_move 16 = .ok (.iload 4, 2) := by decide +kernel
theorem dX1_move_18 : decode cX1_move 18 = .ok (.bipush (-40), 2) := by decide +kernel
theorem dX1_move_20 : decode cX1_move 20 = .ok (.iload_n 3, 1) := by decide +kernel
theorem dX1_move_21 : decode cX1_move 21 = .ok (.iadd, 1) := by decide +kernel
theorem dX1_move_22 : decode cX1_move 22 = .ok (.invokestatic 98, 3) := by decide +kernel
theorem dX1_move_25 : decode cX1_move 25 = .ok (.istore 6, 2) := by decide +kernel
theorem dX1_move_27 : decode cX1_move 27 = .ok (.iload 5, 2) := by decide +kernel
theorem dX1_move_29 : decode cX1_move 29 = .ok (.bipush 39, 2) := by decide +kernel
theorem dX1_move_31 : decode cX1_move 31 = .ok (.iload_n 3, 1) := by decide +kernel
theorem dX1_move_32 : decode cX1_move 32 = .ok (.iadd, 1) := by decide +kernel
theorem dX1_move_33 : decode cX1_move 33 = .ok (.invokestatic 91, 3) := by decide +kernel
theorem dX1_move_36 : decode cX1_move 36 = .ok (.istore 7, 2) := by decide +kernel
theorem dX1_move_38 : decode cX1_move 38 = .ok (.aload_n 0, 1) := by decide +kernel
theorem dX1_move_39 : decode cX1_move 39 = .ok (.getfield 9, 3) := by decide +kernel
theorem dX1_move_42 : decode cX1_move 42 = .ok (.iload 6, 2) := by decide +kernel
theorem dX1_move_44 : decode cX1_move 44 = .ok (.iload_n 3, 1) := by decide +kernel
theorem dX1_move_45 : decode cX1_move 45 = .ok (.isub, 1) := by decide +kernel
theorem dX1_move_46 : decode cX1_move 46 = .ok (.bipush (-40), 2) := by decide +kernel
theorem dX1_move_48 : decode cX1_move 48 = .ok (.isub, 1) := by decide +kernel
theorem dX1_move_49 : decode cX1_move 49 = .ok (.aload_n 0, 1) := by decide +kernel
theorem dX1_move_50 : decode cX1_move 50 = .ok (.getfield 9, 3) := by decide +kernel
theorem dX1_move_53 : decode cX1_move 53 = .ok (.iload 6, 2) := by decide +kernel
theorem dX1_move_55 : decode cX1_move 55 = .ok (.bipush (-40), 2) := by decide +kernel
theorem dX1_move_57 : decode cX1_move 57 = .ok (.isub, 1) := by decide +kernel
theorem dX1_move_58 : decode cX1_move 58 = .ok (.iload 7, 2) := by decide +kernel
theorem dX1_move_60 : decode cX1_move 60 = .ok (.iload 6, 2) := by decide +kernel
theorem dX1_move_62 : decode cX1_move 62 = .ok (.isub, 1) := by decide +kernel
theorem dX1_move_63 : decode cX1_move 63 = .ok (.iconst 1, 1) := by decide +kernel
theorem dX1_move_64 : decode cX1_move 64 = .ok (.iadd, 1) := by decide +kernel
theorem dX1_move_65 : decode cX1_move 65 = .ok (.invokestatic 18, 3) := by decide +kernel
theorem dX1_move_68 : decode cX1_move 68 = .ok (.aload_n 0, 1) := by decide +kernel
theorem dX1_move_69 : decode cX1_move 69 = .ok (.iload 4, 2) := by decide +kernel
theorem dX1_move_71 : decode cX1_move 71 = .ok (.iload 5, 2) := by decide +kernel
theorem dX1_move_73 : decode cX1_move 73 = .ok (.bipush (-40), 2) := by decide +kernel
theorem dX1_move_75 : decode cX1_move 75 = .ok (.iload_n 3, 1) := by decide +kernel
theorem dX1_move_76 : decode cX1_move 76 = .ok (.iadd, 1) := by decide +kernel
theorem dX1_move_77 : decode cX1_move 77 = .ok (.iconst 1, 1) := by decide +kernel
theorem dX1_move_78 : decode cX1_move 78 = .ok (.isub, 1) := by decide +kernel
theorem dX1_move_79 : decode cX1_move 79 = .ok (.invokestatic 91, 3) := by decide +kernel
theorem dX1_move_82 : decode cX1_move 82 = .ok (.bipush 15, 2) := by decide +kernel
theorem dX1_move_84 : decode cX1_move 84 = .ok (.invokevirtual 77, 3) := by decide +kernel
theorem dX1_move_87 : decode cX1_move 87 = .ok (.aload_n 0, 1) := by decide +kernel
theorem dX1_move_88 : decode cX1_move 88 = .ok (.iload 4, 2) := by decide +kernel
theorem dX1_move_90 : decode cX1_move 90 = .ok (.bipush 39, 2) := by decide +kernel
theorem dX1_move_92 : decode cX1_move 92 = .ok (.iload_n 3, 1) := by decide +kernel
theorem dX1_move_93 : decode cX1_move 93 = .ok (.iadd, 1) := by decide +kernel
theorem dX1_move_94 : decode cX1_move 94 = .ok (.iconst 1, 1) := by decide +kernel
theorem dX1_move_95 : decode cX1_move 95 = .ok (.iadd, 1) := by decide +kernel
theorem dX1_move_96 : decode cX1_move 96 = .ok (.invokestatic 98, 3) := by decide +kernel
theorem dX1_move_99 : decode cX1_move 99 = .ok (.iload 5, 2) := by decide +kernel
theorem dX1_move_101 : decode cX1_move 101 = .ok (.iconst (-1), 1) := by decide +kernel
theorem dX1_move_102 : decode cX1_move 102 = .ok (.invokevirtual 77, 3) := by decide +kernel
theorem dX1_move_105 : decode cX1_move 105 = .ok (.return_, 1) := by decide +kernel
theorem dX1_intrude_0 : decode cX1_intrude 0 = .ok (.iconst 0, 1) := by decide +kernel
theorem dX1_intrude_1 : decode cX1_intrude 1 = .ok (.istore_n 3, 1) := by decide +kernel
theorem dX1_intrude_2 : decode cX1_intrude 2 = .ok (.iload_n 3, 1) := by decide +kernel
theorem dX1_intrude_3 : decode cX1_intrude 3 = .ok (.iload_n 2, 1) := by decide +kernel
theorem dX1_intrude_4 : decode cX1_intrude 4 = .ok (.bipush (-40), 2) := by decide +kernel
theorem dX1_intrude_6 : decode cX1_intrude 6 = .ok (.isub, 1) := by decide +kernel
theorem dX1_intrude_7 : decode cX1_intrude 7 = .ok (.if_icmp .gt 35, 3) := by decide +kernel
theorem dX1_intrude_10 : decode cX1_intrude 10 = .ok (.iload_n 3, 1) := by decide +kernel
theorem dX1_intrude_11 : decode cX1_intrude 11 = .ok (.aload_n 0, 1) := by decide +kernel
theorem dX1_intrude_12 : decode cX1_intrude 12 = .ok (.getfield 9, 3) := by decide +kernel
theorem dX1_intrude_15 : decode cX1_intrude 15 = .ok (.arraylength, 1) := by decide +kernel
theorem dX1_intrude_16 : decode cX1_intrude 16 = .ok (.if_icmp .ge 26, 3) := by decide +kernel
theorem dX1_intrude_19 : decode cX1_intrude 19 = .ok (.aload_n 0, 1) := by decide +kernel
theorem dX1_intrude_20 : decode cX1_intrude 20 = .ok (.getfield 9, 3) := by decide +kernel
theorem dX1_intrude_23 : decode cX1_intrude 23 = .ok (.iload_n 3, 1) := by decide +kernel
theorem dX1_intrude_24 : decode cX1_intrude 24 = .ok (.iaload, 1) := by decide +kernel
theorem dX1_intrude_25 : decode cX1_intrude 25 = .ok (.iconst (-1), 1) := by decide +kernel
theorem dX1_intrude_26 : decode cX1_intrude 26 = .ok (.if_icmp .eq 10, 3) := by decide +kernel
theorem dX1_intrude_29 : decode cX1_intrude 29 = .ok (.aload_n 0, 1) := by decide +kernel
theorem dX1_intrude_30 : decode cX1_intrude 30 = .ok (.getfield 9, 3) := by decide +kernel
theorem dX1_intrude_33 : decode cX1_intrude 33 = .ok (.iload_n 3, 1) := by decide +kernel
theorem dX1_intrude_34 : decode cX1_intrude 34 = .ok (.iload_n 1, 1) := by decide +kernel
theorem dX1_intrude_35 : decode cX1_intrude 35 = .ok (.iastore, 1) := by decide +kernel
theorem dX1_intrude_36 : decode cX1_intrude 36 = .ok (.iinc 3 1, 3) := by decide +kernel
theorem dX1_intrude_39 : decode cX1_intrude 39 = .ok (.goto (-37), 3) := by decide +kernel
theorem dX1_intrude_42 : decode cX1_intrude 42 = .ok (.return_, 1) := by decide +kernel
theorem dX1_fillHeights_0 : decode cX1_fillHeights 0 = .ok (.iconst 0, 1) := by decide +kernel
theorem dX1_fillHeights_1 : decode cX1_fillHeights 1 = .ok (.iload_n 1, 1) := by decide +kernel
theorem dX1_fillHeights_2 : decode cX1_fillHeights 2 = .ok (.bipush (-40), 2) := by decide +kernel
theorem dX1_fillHeights_4 : decode cX1_fillHeights 4 = .ok (.isub, 1) := by decide +kernel
theorem dX1_fillHeights_5 : decode cX1_fillHeights 5 = .ok (.invokestatic 98, 3) := by decide +kernel
theorem dX1_fillHeights_8 : decode cX1_fillHeights 8 = .ok (.istore 4, 2) := by decide +kernel
theorem dX1_fillHeights_10 : decode cX1_fillHeights 10 = .ok (.iload 4, 2) := by decide +kernel
theorem dX1_fillHeights_12 : decode cX1_fillHeights 12 = .ok (.iload_n 2, 1) := by decide +kernel
theorem dX1_fillHeights_13 : decode cX1_fillHeights 13 = .ok (.bipush (-40), 2) := by decide +kernel
theorem dX1_fillHeights_15 : decode cX1_fillHeights 15 = .ok (.isub, 1) := by decide +kernel
theorem dX1_fillHeights_16 : decode cX1_fillHeights 16 = .ok (.if_icmp .gt 27, 3) := by decide +kernel
theorem dX1_fillHeights_19 : decode cX1_fillHeights 19 = .ok (.iload 4, 2) := by decide +kernel
theorem dX1_fillHeights_21 : decode cX1_fillHeights 21 = .ok (.aload_n 0, 1) := by decide +kernel
theorem dX1_fillHeights_22 : decode cX1_fillHeights 22 = .ok (.getfield 9, 3) := by decide +kernel
theorem dX1_fillHeights_25 : decode cX1_fillHeights 25 = .ok (.arraylength, 1) := by decide +kernel
theorem dX1_fillHeights_26 : decode cX1_fillHeights 26 = .ok (.if_icmp .ge 17, 3) := by decide +kernel
theorem dX1_fillHeights_29 : decode cX1_fillHeights 29 = .ok (.aload_n 0, 1) := by decide +kernel
theorem dX1_fillHeights_30 : decode cX1_fillHeights 30 = .ok (.getfield 9, 3) := by decide +kernel
theorem dX1_fillHeights_33 : decode cX1_fillHeights 33 = .ok (.iload 4, 2) := by decide +kernel
theorem dX1_fillHeights_35 : decode cX1_fillHeights 35 = .ok (.iload_n 3, 1) := by decide +kernel
theorem dX1_fillHeights_36 : decode cX1_fillHeights 36 = .ok (.iastore, 1) := by decide +kernel
theorem dX1_fillHeights_37 : decode cX1_fillHeights 37 = .ok (.iinc 4 1, 3) := by decide +kernel
theorem dX1_fillHeights_40 : decode cX1_fillHeights 40 = .ok (.goto (-30), 3) := by decide +kernel
theorem dX1_fillHeights_43 : decode cX1_fillHeights 43 = .ok (.return_, 1) := by decide +kernel
theorem dX1_bedAt_0 : decode cX1_bedAt 0 = .ok (.aload_n 0, 1) := by decide +kernel
theorem dX1_bedAt_1 : decode cX1_bedAt 1 = .ok (.getfield 9, 3) := by decide +kernel
theorem dX1_bedAt_4 : decode cX1_bedAt 4 = .ok (.iload_n 1, 1) := by decide +kernel
theorem dX1_bedAt_5 : decode cX1_bedAt 5 = .ok (.bipush (-40), 2) := by decide +kernel
theorem dX1_bedAt_7 : decode cX1_bedAt 7 = .ok (.isub, 1) := by decide +kernel
theorem dX1_bedAt_8 : decode cX1_bedAt 8 = .ok (.invokestatic 101, 3) := by decide +kernel
theorem dX1_bedAt_11 : decode cX1_bedAt 11 = .ok (.ireturn, 1) := by decide +kernel
theorem dX1_skinHeight_0 : decode cX1_skinHeight 0 = .ok (.aload_n 0, 1) := by decide +kernel
theorem dX1_skinHeight_1 : decode cX1_skinHeight 1 = .ok (.getfield 9, 3) := by decide +kernel
theorem dX1_skinHeight_4 : decode cX1_skinHeight 4 = .ok (.arraylength, 1) := by decide +kernel
theorem dX1_skinHeight_5 : decode cX1_skinHeight 5 = .ok (.iconst 1, 1) := by decide +kernel
theorem dX1_skinHeight_6 : decode cX1_skinHeight 6 = .ok (.isub, 1) := by decide +kernel
theorem dX1_skinHeight_7 : decode cX1_skinHeight 7 = .ok (.istore_n 1, 1) := by decide +kernel
theorem dX1_skinHeight_8 : decode cX1_skinHeight 8 = .ok (.iload_n 1, 1) := by decide +kernel
theorem dX1_skinHeight_9 : decode cX1_skinHeight 9 = .ok (.ifCond .lt 24, 3) := by decide +kernel
theorem dX1_skinHeight_12 : decode cX1_skinHeight 12 = .ok (.aload_n 0, 1) := by decide +kernel
theorem dX1_skinHeight_13 : decode cX1_skinHeight 13 = .ok (.getfield 9, 3) := by decide +kernel
theorem dX1_skinHeight_16 : decode cX1_skinHeight 16 = .ok (.iload_n 1, 1) := by decide +kernel
theorem dX1_skinHeight_17 : decode cX1_skinHeight 17 = .ok (.iaload, 1) := by decide +kernel
theorem dX1_skinHeight_18 : decode cX1_skinHeight 18 = .ok (.iconst (-1), 1) := by decide +kernel
theorem dX1_skinHeight_19 : decode cX1_skinHeight 19 = .ok (.if_icmp .eq 8, 3) := by decide +kernel
theorem dX1_skinHeight_22 : decode cX1_skinHeight 22 = .ok (.iload_n 1, 1) := by decide +kernel
theorem dX1_skinHeight_23 : decode cX1_skinHeight 23 = .ok (.bipush (-40), 2) := by decide +kernel
theorem dX1_skinHeight_25 : decode cX1_skinHeight 25 = .ok (.iadd, 1) := by decide +kernel
theorem dX1_skinHeight_26 : decode cX1_skinHeight 26 = .ok (.ireturn, 1) := by decide +kernel
theorem dX1_skinHeight_27 : decode cX1_skinHeight 27 = .ok (.iinc 1 (-1), 3) := by decide +kernel
theorem dX1_skinHeight_30 : decode cX1_skinHeight 30 = .ok (.goto (-22), 3) := by decide +kernel
theorem dX1_skinHeight_33 : decode cX1_skinHeight 33 = .ok (.bipush (-41), 2) := by decide +kernel
theorem dX1_skinHeight_35 : decode cX1_skinHeight 35 = .ok (.ireturn, 1) := by decide +kernel
theorem dX1_skinBed_0 : decode cX1_skinBed 0 = .ok (.aload_n 0, 1) := by decide +kernel
theorem dX1_skinBed_1 : decode cX1_skinBed 1 = .ok (.invokevirtual 94, 3) := by decide +kernel
theorem dX1_skinBed_4 : decode cX1_skinBed 4 = .ok (.istore_n 1, 1) := by decide +kernel
theorem dX1_skinBed_5 : decode cX1_skinBed 5 = .ok (.iload_n 1, 1) := by decide +kernel
theorem dX1_skinBed_6 : decode cX1_skinBed 6 = .ok (.bipush (-41), 2) := by decide +kernel
theorem dX1_skinBed_8 : decode cX1_skinBed 8 = .ok (.if_icmp .ne 7, 3) := by decide +kernel
theorem dX1_skinBed_11 : decode cX1_skinBed 11 = .ok (.iconst (-1), 1) := by decide +kernel
theorem dX1_skinBed_12 : decode cX1_skinBed 12 = .ok (.goto 8, 3) := by decide +kernel
theorem dX1_skinBed_15 : decode cX1_skinBed 15 = .ok (.aload_n 0, 1) := by decide +kernel
theorem dX1_skinBed_16 : decode cX1_skinBed 16 = .ok (.iload_n 1, 1) := by decide +kernel
theorem dX1_skinBed_17 : decode cX1_skinBed 17 = .ok (.invokevirtual 105, 3) := by decide +kernel
theorem dX1_skinBed_20 : decode cX1_skinBed 20 = .ok (.ireturn, 1) := by decide +kernel
theorem dX1_topOf_0 : decode cX1_topOf 0 = .ok (.aload_n 0, 1) := by decide +kernel
theorem dX1_topOf_1 : decode cX1_topOf 1 = .ok (.getfield 9, 3) := by decide +kernel
theorem dX1_topOf_4 : decode cX1_topOf 4 = .ok (.arraylength, 1) := by decide +kernel
theorem dX1_topOf_5 : decode cX1_topOf 5 = .ok (.iconst 1, 1) := by decide +kernel
theorem dX1_topOf_6 : decode cX1_topOf 6 = .ok (.isub, 1) := by decide +kernel
theorem dX1_topOf_7 : decode cX1_topOf 7 = .ok (.istore_n 2, 1) := by decide +kernel
theorem dX1_topOf_8 : decode cX1_topOf 8 = .ok (.iload_n 2, 1) := by decide +kernel
theorem dX1_topOf_9 : decode cX1_topOf 9 = .ok (.ifCond .lt 24, 3) := by decide +kernel
theorem dX1_topOf_12 : decode cX1_topOf 12 = .ok (.aload_n 0, 1) := by decide +kernel
theorem dX1_topOf_13 : decode cX1_topOf 13 = .ok (.getfield 9, 3) := by decide +kernel
theorem dX1_topOf_16 : decode cX1_topOf 16 = .ok (.iload_n 2, 1) := by decide +kernel
theorem dX1_topOf_17 : decode cX1_topOf 17 = .ok (.iaload, 1) := by decide +kernel
theorem dX1_topOf_18 : decode cX1_topOf 18 = .ok (.iload_n 1, 1) := by decide +kernel
theorem dX1_topOf_19 : decode cX1_topOf 19 = .ok (.if_icmp .ne 8, 3) := by decide +kernel
theorem dX1_topOf_22 : decode cX1_topOf 22 = .ok (.iload_n 2, 1) := by decide +kernel
theorem dX1_topOf_23 : decode cX1_topOf 23 = .ok (.bipush (-40), 2) := by decide +kernel
theorem dX1_topOf_25 : decode cX1_topOf 25 = .ok (.iadd, 1) := by decide +kernel
theorem dX1_topOf_26 : decode cX1_topOf 26 = .ok (.ireturn, 1) := by decide +kernel
theorem dX1_topOf_27 : decode cX1_topOf 27 = .ok (.iinc 2 (-1), 3) := by decide +kernel
theorem dX1_topOf_30 : decode cX1_topOf 30 = .ok (.goto (-22), 3) := by decide +kernel
theorem dX1_topOf_33 : decode cX1_topOf 33 = .ok (.bipush (-41), 2) := by decide +kernel
theorem dX1_topOf_35 : decode cX1_topOf 35 = .ok (.ireturn, 1) := by decide +kernel
theorem dX1_cellsOf_0 : decode cX1_cellsOf 0 = .ok (.iconst 0, 1) := by decide +kernel
theorem dX1_cellsOf_1 : decode cX1_cellsOf 1 = .ok (.istore_n 2, 1) := by decide +kernel
theorem dX1_cellsOf_2 : decode cX1_cellsOf 2 = .ok (.iconst 0, 1) := by decide +kernel
theorem dX1_cellsOf_3 : decode cX1_cellsOf 3 = .ok (.istore_n 3, 1) := by decide +kernel
theorem dX1_cellsOf_4 : decode cX1_cellsOf 4 = .ok (.iload_n 3, 1) := by decide +kernel
theorem dX1_cellsOf_5 : decode cX1_cellsOf 5 = .ok (.aload_n 0, 1) := by decide +kernel
theorem dX1_cellsOf_6 : decode cX1_cellsOf 6 = .ok (.getfield 9, 3) := by decide +kernel
theorem dX1_cellsOf_9 : decode cX1_cellsOf 9 = .ok (.arraylength, 1) := by decide +kernel
theorem dX1_cellsOf_10 : decode cX1_cellsOf 10 = .ok (.if_icmp .ge 22, 3) := by decide +kernel
theorem dX1_cellsOf_13 : decode cX1_cellsOf 13 = .ok (.aload_n 0, 1) := by decide +kernel
theorem dX1_cellsOf_14 : decode cX1_cellsOf 14 = .ok (.getfield 9, 3) := by decide +kernel
theorem dX1_cellsOf_17 : decode cX1_cellsOf 17 = .ok (.iload_n 3, 1) := by decide +kernel
theorem dX1_cellsOf_18 : decode cX1_cellsOf 18 = .ok (.iaload, 1) := by decide +kernel
theorem dX1_cellsOf_19 : decode cX1_cellsOf 19 = .ok (.iload_n 1, 1) := by decide +kernel
theorem dX1_cellsOf_20 : decode cX1_cellsOf 20 = .ok (.if_icmp .ne 6, 3) := by decide +kernel
theorem dX1_cellsOf_23 : decode cX1_cellsOf 23 = .ok (.iinc 2 1, 3) := by decide +kernel
theorem dX1_cellsOf_26 : decode cX1_cellsOf 26 = .ok (.iinc 3 1, 3) := by decide +kernel
theorem dX1_cellsOf_29 : decode cX1_cellsOf 29 = .ok (.goto (-25), 3) := by decide +kernel
theorem dX1_cellsOf_32 : decode cX1_cellsOf 32 = .ok (.iload_n 2, 1) := by decide +kernel
theorem dX1_cellsOf_33 : decode cX1_cellsOf 33 = .ok (.ireturn, 1) := by decide +kernel
theorem dX1_isLying_0 : decode cX1_isLying 0 = .ok (.iconst 1, 1) := by decide +kernel
theorem dX1_isLying_1 : decode cX1_isLying 1 = .ok (.istore_n 3, 1) := by decide +kernel
theorem dX1_isLying_2 : decode cX1_isLying 2 = .ok (.iload_n 3, 1) := by decide +kernel
theorem dX1_isLying_3 : decode cX1_isLying 3 = .ok (.aload_n 0, 1) := by decide +kernel
theorem dX1_isLying_4 : decode cX1_isLying 4 = .ok (.getfield 9, 3) := by decide +kernel
theorem dX1_isLying_7 : decode cX1_isLying 7 = .ok (.arraylength, 1) := by decide +kernel
theorem dX1_isLying_8 : decode cX1_isLying 8 = .ok (.if_icmp .ge 33, 3) := by decide +kernel
theorem dX1_isLying_11 : decode cX1_isLying 11 = .ok (.aload_n 0, 1) := by decide +kernel
theorem dX1_isLying_12 : decode cX1_isLying 12 = .ok (.getfield 9, 3) := by decide +kernel
theorem dX1_isLying_15 : decode cX1_isLying 15 = .ok (.iload_n 3, 1) := by decide +kernel
theorem dX1_isLying_16 : decode cX1_isLying 16 = .ok (.iaload, 1) := by decide +kernel
theorem dX1_isLying_17 : decode cX1_isLying 17 = .ok (.iload_n 1, 1) := by decide +kernel
theorem dX1_isLying_18 : decode cX1_isLying 18 = .ok (.if_icmp .ne 17, 3) := by decide +kernel
theorem dX1_isLying_21 : decode cX1_isLying 21 = .ok (.aload_n 0, 1) := by decide +kernel
theorem dX1_isLying_22 : decode cX1_isLying 22 = .ok (.getfield 9, 3) := by decide +kernel
theorem dX1_isLying_25 : decode cX1_isLying 25 = .ok (.iload_n 3, 1) := by decide +kernel
theorem dX1_isLying_26 : decode cX1_isLying 26 = .ok (.iconst 1, 1) := by decide +kernel
theorem dX1_isLying_27 : decode cX1_isLying 27 = .ok (.isub, 1) := by decide +kernel
theorem dX1_isLying_28 : decode cX1_isLying 28 = .ok (.iaload, 1) := by decide +kernel
theorem dX1_isLying_29 : decode cX1_isLying 29 = .ok (.iload_n 2, 1) := by decide +kernel
theorem dX1_isLying_30 : decode cX1_isLying 30 = .ok (.if_icmp .ne 5, 3) := by decide +kernel
theorem dX1_isLying_33 : decode cX1_isLying 33 = .ok (.iconst 1, 1) := by decide +kernel
theorem dX1_isLying_34 : decode cX1_isLying 34 = .ok (.ireturn, 1) := by decide +kernel
theorem dX1_isLying_35 : decode cX1_isLying 35 = .ok (.iinc 3 1, 3) := by decide +kernel
theorem dX1_isLying_38 : decode cX1_isLying 38 = .ok (.goto (-36), 3) := by decide +kernel
theorem dX1_isLying_41 : decode cX1_isLying 41 = .ok (.iconst 0, 1) := by decide +kernel
theorem dX1_isLying_42 : decode cX1_isLying 42 = .ok (.ireturn, 1) := by decide +kernel
theorem dX1_countInto_0 : decode cX1_countInto 0 = .ok (.aload_n 1, 1) := by decide +kernel
theorem dX1_countInto_1 : decode cX1_countInto 1 = .ok (.ifnonnull 4, 3) := by decide +kernel
theorem dX1_countInto_4 : decode cX1_countInto 4 = .ok (.return_, 1) := by decide +kernel
theorem dX1_countInto_5 : decode cX1_countInto 5 = .ok (.iconst 0, 1) := by decide +kernel
theorem dX1_countInto_6 : decode cX1_countInto 6 = .ok (.istore_n 3, 1) := by decide +kernel
theorem dX1_countInto_7 : decode cX1_countInto 7 = .ok (.iload_n 3, 1) := by decide +kernel
theorem dX1_countInto_8 : decode cX1_countInto 8 = .ok (.aload_n 0, 1) := by decide +kernel
theorem dX1_countInto_9 : decode cX1_countInto 9 = .ok (.getfield 9, 3) := by decide +kernel
theorem dX1_countInto_12 : decode cX1_countInto 12 = .ok (.arraylength, 1) := by decide +kernel
theorem dX1_countInto_13 : decode cX1_countInto 13 = .ok (.if_icmp .ge 49, 3) := by decide +kernel
theorem dX1_countInto_16 : decode cX1_countInto 16 = .ok (.iload_n 2, 1) := by decide +kernel
theorem dX1_countInto_17 : decode cX1_countInto 17 = .ok (.aload_n 0, 1) := by decide +kernel
theorem dX1_countInto_18 : decode cX1_countInto 18 = .ok (.getfield 9, 3) := by decide +kernel
theorem dX1_countInto_21 : decode cX1_countInto 21 = .ok (.iload_n 3, 1) := by decide +kernel
theorem dX1_countInto_22 : decode cX1_countInto 22 = .ok (.iaload, 1) := by decide +kernel
theorem dX1_countInto_23 : decode cX1_countInto 23 = .ok (.iadd, 1) := by decide +kernel
theorem dX1_countInto_24 : decode cX1_countInto 24 = .ok (.istore 4, 2) := by decide +kernel
theorem dX1_countInto_26 : decode cX1_countInto 26 = .ok (.aload_n 0, 1) := by decide +kernel
theorem dX1_countInto_27 : decode cX1_countInto 27 = .ok (.getfield 9, 3) := by decide +kernel
theorem dX1_countInto_30 : decode cX1_countInto 30 = .ok (.iload_n 3, 1) := by decide +kernel
theorem dX1_countInto_31 : decode cX1_countInto 31 = .ok (.iaload, 1) := by decide +kernel
theorem dX1_countInto_32 : decode cX1_countInto 32 = .ok (.iconst (-1), 1) := by decide +kernel
theorem dX1_countInto_33 : decode cX1_countInto 33 = .ok (.if_icmp .eq 23, 3) := by decide +kernel
theorem dX1_countInto_36 : decode cX1_countInto 36 = .ok (.iload 4, 2) := by decide +kernel
theorem dX1_countInto_38 : decode cX1_countInto 38 = .ok (.ifCond .lt 18, 3) := by decide +kernel
theorem dX1_countInto_41 : decode cX1_countInto 41 = .ok (.iload 4, 2) := by decide +kernel
theorem dX1_countInto_43 : decode cX1_countInto 43 = .ok (.aload_n 1, 1) := by decide +kernel
theorem dX1_countInto_44 : decode cX1_countInto 44 = .ok (.arraylength, 1) := by decide +kernel
theorem dX1_countInto_45 : decode cX1_countInto 45 = .ok (.if_icmp .ge 11, 3) := by decide +kernel
theorem dX1_countInto_48 : decode cX1_countInto 48 = .ok (.aload_n 1, 1) := by decide +kernel
theorem dX1_countInto_49 : decode cX1_countInto 49 = .ok (.iload 4, 2) := by decide +kernel
theorem dX1_countInto_51 : decode cX1_countInto 51 = .ok (.dup2, 1) := by decide +kernel
theorem dX1_countInto_52 : decode cX1_countInto 52 = .ok (.iaload, 1) := by decide +kernel
theorem dX1_countInto_53 : decode cX1_countInto 53 = .ok (.iconst 1, 1) := by decide +kernel
theorem dX1_countInto_54 : decode cX1_countInto 54 = .ok (.iadd, 1) := by decide +kernel
theorem dX1_countInto_55 : decode cX1_countInto 55 = .ok (.iastore, 1) := by decide +kernel
theorem dX1_countInto_56 : decode cX1_countInto 56 = .ok (.iinc 3 1, 3) := by decide +kernel
theorem dX1_countInto_59 : decode cX1_countInto 59 = .ok (.goto (-52), 3) := by decide +kernel
theorem dX1_countInto_62 : decode cX1_countInto 62 = .ok (.return_, 1) := by decide +kernel
theorem dX1_crossings_0 : decode cX1_crossings 0 = .ok (.aload_n 1, 1) := by decide +kernel
theorem dX1_crossings_1 : decode cX1_crossings 1 = .ok (.ifnonnull 5, 3) := by decide +kernel
theorem dX1_crossings_4 : decode cX1_crossings 4 = .ok (.iconst 0, 1) := by decide +kernel
theorem dX1_crossings_5 : decode cX1_crossings 5 = .ok (.ireturn, 1) := by decide +kernel
theorem dX1_crossings_6 : decode cX1_crossings 6 = .ok (.iconst 0, 1) := by decide +kernel
theorem dX1_crossings_7 : decode cX1_crossings 7 = .ok (.istore_n 2, 1) := by decide +kernel
theorem dX1_crossings_8 : decode cX1_crossings 8 = .ok (.iconst 1, 1) := by decide +kernel
theorem dX1_crossings_9 : decode cX1_crossings 9 = .ok (.istore_n 3, 1) := by decide +kernel
theorem dX1_crossings_10 : decode cX1_crossings 10 = .ok (.iload_n 3, 1) := by decide +kernel
theorem dX1_crossings_11 : decode cX1_crossings 11 = .ok (.aload_n 0, 1) := by decide +kernel
theorem dX1_crossings_12 : decode cX1_crossings 12 = .ok (.getfield 9, 3) := by decide +kernel
theorem dX1_crossings_15 : decode cX1_crossings 15 = .ok (.arraylength, 1) := by decide +kernel
theorem dX1_crossings_16 : decode cX1_crossings 16 = .ok (.if_icmp .ge 64, 3) := by decide +kernel
theorem dX1_crossings_19 : decode cX1_crossings 19 = .ok (.aload_n 0, 1) := by decide +kernel
theorem dX1_crossings_20 : decode cX1_crossings 20 = .ok (.getfield 9, 3) := by decide +kernel
theorem dX1_crossings_23 : decode cX1_crossings 23 = .ok (.iload_n 3, 1) := by decide +kernel
theorem dX1_crossings_24 : decode cX1_crossings 24 = .ok (.iaload, 1) := by decide +kernel
theorem dX1_crossings_25 : decode cX1_crossings 25 = .ok (.istore 4, 2) := by decide +kernel
theorem dX1_crossings_27 : decode cX1_crossings 27 = .ok (.aload_n 0, 1) := by decide +kernel
theorem dX1_crossings_28 : decode cX1_crossings 28 = .ok (.getfield 9, 3) := by decide +kernel
theorem dX1_crossings_31 : decode cX1_crossings 31 = .ok (.iload_n 3, 1) := by decide +kernel
theorem dX1_crossings_32 : decode cX1_crossings 32 = .ok (.iconst 1, 1) := by decide +kernel
theorem dX1_crossings_33 : decode cX1_crossings 33 = .ok (.isub, 1) := by decide +kernel
theorem dX1_crossings_34 : decode cX1_crossings 34 = .ok (.iaload, 1) := by decide +kernel
theorem dX1_crossings_35 : decode cX1_crossings 35 = .ok (.istore 5, 2) := by decide +kernel
theorem dX1_crossings_37 : decode cX1_crossings 37 = .ok (.iload 4, 2) := by decide +kernel
theorem dX1_crossings_39 : decode cX1_crossings 39 = .ok (.iconst (-1), 1) := by decide +kernel
theorem dX1_crossings_40 : decode cX1_crossings 40 = .ok (.if_icmp .eq 34, 3) := by decide +kernel
theorem dX1_crossings_43 : decode cX1_crossings 43 = .ok (.iload 5, 2) := by decide +kernel
theorem dX1_crossings_45 : decode cX1_crossings 45 = .ok (.iconst (-1), 1) := by decide +kernel
theorem dX1_crossings_46 : decode cX1_crossings 46 = .ok (.if_icmp .eq 28, 3) := by decide +kernel
theorem dX1_crossings_49 : decode cX1_crossings 49 = .ok (.iload 4, 2) := by decide +kernel
theorem dX1_crossings_51 : decode cX1_crossings 51 = .ok (.iload 5, 2) := by decide +kernel
theorem dX1_crossings_53 : decode cX1_crossings 53 = .ok (.if_icmp .eq 21, 3) := by decide +kernel
theorem dX1_crossings_56 : decode cX1_crossings 56 = .ok (.aload_n 1, 1) := by decide +kernel
theorem dX1_crossings_57 : decode cX1_crossings 57 = .ok (.iload 4, 2) := by decide +kernel
theorem dX1_crossings_59 : decode cX1_crossings 59 = .ok (.invokevirtual 108, 3) := by decide +kernel
theorem dX1_crossings_62 : decode cX1_crossings 62 = .ok (.aload_n 1, 1) := by decide +kernel
theorem dX1_crossings_63 : decode cX1_crossings 63 = .ok (.iload 5, 2) := by decide +kernel
theorem dX1_crossings_65 : decode cX1_crossings 65 = .ok (.invokevirtual 108, 3) := by decide +kernel
theorem dX1_crossings_68 : decode cX1_crossings 68 = .ok (.if_icmp .ge 6, 3) := by decide +kernel
theorem dX1_crossings_71 : decode cX1_crossings 71 = .ok (.iinc 2 1, 3) := by decide +kernel
theorem dX1_crossings_74 : decode cX1_crossings 74 = .ok (.iinc 3 1, 3) := by decide +kernel
theorem dX1_crossings_77 : decode cX1_crossings 77 = .ok (.goto (-67), 3) := by decide +kernel
theorem dX1_crossings_80 : decode cX1_crossings 80 = .ok (.iload_n 2, 1) := by decide +kernel
theorem dX1_crossings_81 : decode cX1_crossings 81 = .ok (.ireturn, 1) := by decide +kernel
theorem dX1_isLike_0 : decode cX1_isLike 0 = .ok (.aload_n 1, 1) := by decide +kernel
theorem dX1_isLike_1 : decode cX1_isLike 1 = .ok (.ifnonnull 5, 3) := by decide +kernel
theorem dX1_isLike_4 : decode cX1_isLike 4 = .ok (.iconst 0, 1) := by decide +kernel
theorem dX1_isLike_5 : decode cX1_isLike 5 = .ok (.ireturn, 1) := by decide +kernel
theorem dX1_isLike_6 : decode cX1_isLike 6 = .ok (.aload_n 1, 1) := by decide +kernel
theorem dX1_isLike_7 : decode cX1_isLike 7 = .ok (.getfield 9, 3) := by decide +kernel
theorem dX1_isLike_10 : decode cX1_isLike 10 = .ok (.astore_n 2, 1) := by decide +kernel
theorem dX1_isLike_11 : decode cX1_isLike 11 = .ok (.iconst 0, 1) := by decide +kernel
theorem dX1_isLike_12 : decode cX1_isLike 12 = .ok (.istore_n 3, 1) := by decide +kernel
theorem dX1_isLike_13 : decode cX1_isLike 13 = .ok (.iload_n 3, 1) := by decide +kernel
theorem dX1_isLike_14 : decode cX1_isLike 14 = .ok (.aload_n 0, 1) := by decide +kernel
theorem dX1_isLike_15 : decode cX1_isLike 15 = .ok (.getfield 9, 3) := by decide +kernel
theorem dX1_isLike_18 : decode cX1_isLike 18 = .ok (.arraylength, 1) := by decide +kernel
theorem dX1_isLike_19 : decode cX1_isLike 19 = .ok (.if_icmp .ge 29, 3) := by decide +kernel
theorem dX1_isLike_22 : decode cX1_isLike 22 = .ok (.iload_n 3, 1) := by decide +kernel
theorem dX1_isLike_23 : decode cX1_isLike 23 = .ok (.aload_n 2, 1) := by decide +kernel
theorem dX1_isLike_24 : decode cX1_isLike 24 = .ok (.arraylength, 1) := by decide +kernel
theorem dX1_isLike_25 : decode cX1_isLike 25 = .ok (.if_icmp .ge 23, 3) := by decide +kernel
theorem dX1_isLike_28 : decode cX1_isLike 28 = .ok (.aload_n 0, 1) := by decide +kernel
theorem dX1_isLike_29 : decode cX1_isLike 29 = .ok (.getfield 9, 3) := by decide +kernel
theorem dX1_isLike_32 : decode cX1_isLike 32 = .ok (.iload_n 3, 1) := by decide +kernel
theorem dX1_isLike_33 : decode cX1_isLike 33 = .ok (.iaload, 1) := by decide +kernel
theorem dX1_isLike_34 : decode cX1_isLike 34 = .ok (.aload_n 2, 1) := by decide +kernel
theorem dX1_isLike_35 : decode cX1_isLike 35 = .ok (.iload_n 3, 1) := by decide +kernel
theorem dX1_isLike_36 : decode cX1_isLike 36 = .ok (.iaload, 1) := by decide +kernel
theorem dX1_isLike_37 : decode cX1_isLike 37 = .ok (.if_icmp .eq 5, 3) := by decide +kernel
theorem dX1_isLike_40 : decode cX1_isLike 40 = .ok (.iconst 0, 1) := by decide +kernel
theorem dX1_isLike_41 : decode cX1_isLike 41 = .ok (.ireturn, 1) := by decide +kernel
theorem dX1_isLike_42 : decode cX1_isLike 42 = .ok (.iinc 3 1, 3) := by decide +kernel
theorem dX1_isLike_45 : decode cX1_isLike 45 = .ok (.goto (-32), 3) := by decide +kernel
theorem dX1_isLike_48 : decode cX1_isLike 48 = .ok (.iconst 1, 1) := by decide +kernel
theorem dX1_isLike_49 : decode cX1_isLike 49 = .ok (.ireturn, 1) := by decide +kernel
theorem dX2_init_0 : decode cX2_init 0 = .ok (.aload_n 0, 1) := by decide +kernel
theorem dX2_init_1 : decode cX2_init 1 = .ok (.invokespecial 1, 3) := by decide +kernel
theorem dX2_init_4 : decode cX2_init 4 = .ok (.aload_n 0, 1) := by decide +kernel
theorem dX2_init_5 : decode cX2_init 5 = .ok (.new 7, 3) := by decide +kernel
theorem dX2_init_8 : decode cX2_init 8 = .ok (.dup, 1) := by decide +kernel
theorem dX2_init_9 : decode cX2_init 9 = .ok (.invokespecial 9, 3) := by decide +kernel
theorem dX2_init_12 : decode cX2_init 12 = .ok (.putfield 10, 3) := by decide +kernel
theorem dX2_init_15 : decode cX2_init 15 = .ok (.aload_n 0, 1) := by decide +kernel
theorem dX2_init_16 : decode cX2_init 16 = .ok (.iconst 0, 1) := by decide +kernel
theorem dX2_init_17 : decode cX2_init 17 = .ok (.iload_n 1, 1) := by decide +kernel
theorem dX2_init_18 : decode cX2_init 18 = .ok (.invokestatic 16, 3) := by decide +kernel
theorem dX2_init_21 : decode cX2_init 21 = .ok (.anewarray 7, 3) := by decide +kernel
theorem dX2_init_24 : decode cX2_init 24 = .ok (.putfield 22, 3) := by decide +kernel
theorem dX2_init_27 : decode cX2_init 27 = .ok (.iconst 0, 1) := by decide +kernel
theorem dX2_init_28 : decode cX2_init 28 = .ok (.istore_n 2, 1) := by decide +kernel
theorem dX2_init_29 : decode cX2_init 29 = .ok (.iload_n 2, 1) := by decide +kernel
theorem dX2_init_30 : decode cX2_init 30 = .ok (.aload_n 0, 1) := by decide +kernel
theorem dX2_init_31 : decode cX2_init 31 = .ok (.getfield 22, 3) := by decide +kernel
theorem dX2_init_34 : decode cX2_init 34 = .ok (.arraylength, 1) := by decide +kernel
theorem dX2_init_35 : decode cX2_init 35 = .ok (.if_icmp .ge 22, 3) := by decide +kernel
theorem dX2_init_38 : decode cX2_init 38 = .ok (.aload_n 0, 1) := by decide +kernel
theorem dX2_init_39 : decode cX2_init 39 = .ok (.getfield 22, 3) := by decide +kernel
theorem dX2_init_42 : decode cX2_init 42 = .ok (.iload_n 2, 1) := by decide +kernel
theorem dX2_init_43 : decode cX2_init 43 = .ok (.new 7, 3) := by decide +kernel
theorem dX2_init_46 : decode cX2_init 46 = .ok (.dup, 1) := by decide +kernel
theorem dX2_init_47 : decode cX2_init 47 = .ok (.invokespecial 9, 3) := by decide +kernel
theorem dX2_init_50 : decode cX2_init 50 = .ok (.aastore, 1) := by decide +kernel
theorem dX2_init_51 : decode cX2_init 51 = .ok (.iinc 2 1, 3) := by decide +kernel
theorem dX2_init_54 : decode cX2_init 54 = .ok (.goto (-25), 3) := by decide +kernel
theorem dX2_init_57 : decode cX2_init 57 = .ok (.return_, 1) := by decide +kernel
theorem dX2_of_0 : decode cX2_of 0 = .ok (.iload_n 1, 1) := by decide +kernel
theorem dX2_of_1 : decode cX2_of 1 = .ok (.ifCond .lt 21, 3) := by decide +kernel
theorem dX2_of_4 : decode cX2_of 4 = .ok (.iload_n 1, 1) := by decide +kernel
theorem dX2_of_5 : decode cX2_of 5 = .ok (.aload_n 0, 1) := by decide +kernel
theorem dX2_of_6 : decode cX2_of 6 = .ok (.getfield 22, 3) := by decide +kernel
theorem dX2_of_9 : decode cX2_of 9 = .ok (.arraylength, 1) := by decide +kernel
theorem dX2_of_10 : decode cX2_of 10 = .ok (.if_icmp .ge 12, 3) := by decide +kernel
theorem dX2_of_13 : decode cX2_of 13 = .ok (.aload_n 0, 1) := by decide +kernel
theorem dX2_of_14 : decode cX2_of 14 = .ok (.getfield 22, 3) := by decide +kernel
theorem dX2_of_17 : decode cX2_of 17 = .ok (.iload_n 1, 1) := by decide +kernel
theorem dX2_of_18 : decode cX2_of 18 = .ok (.aaload, 1) := by decide +kernel
theorem dX2_of_19 : decode cX2_of 19 = .ok (.ifnonnull 8, 3) := by decide +kernel
theorem dX2_of_22 : decode cX2_of 22 = .ok (.aload_n 0, 1) := by decide +kernel
theorem dX2_of_23 : decode cX2_of 23 = .ok (.getfield 10, 3) := by decide +kernel
theorem dX2_of_26 : decode cX2_of 26 = .ok (.areturn, 1) := by decide +kernel
theorem dX2_of_27 : decode cX2_of 27 = .ok (.aload_n 0, 1) := by decide +kernel
theorem dX2_of_28 : decode cX2_of 28 = .ok (.getfield 22, 3) := by decide +kernel
theorem dX2_of_31 : decode cX2_of 31 = .ok (.iload_n 1, 1) := by decide +kernel
theorem dX2_of_32 : decode cX2_of 32 = .ok (.aaload, 1) := by decide +kernel
theorem dX2_of_33 : decode cX2_of 33 = .ok (.areturn, 1) := by decide +kernel
theorem dX2_tell_0 : decode cX2_tell 0 = .ok (.iconst 0, 1) := by decide +kernel
theorem dX2_tell_1 : decode cX2_tell 1 = .ok (.istore_n 3, 1) := by decide +kernel
theorem dX2_tell_2 : decode cX2_tell 2 = .ok (.iload_n 3, 1) := by decide +kernel
theorem dX2_tell_3 : decode cX2_tell 3 = .ok (.aload_n 0, 1) := by decide +kernel
theorem dX2_tell_4 : decode cX2_tell 4 = .ok (.getfield 22, 3) := by decide +kernel
theorem dX2_tell_7 : decode cX2_tell 7 = .ok (.arraylength, 1) := by decide +kernel
theorem dX2_tell_8 : decode cX2_tell 8 = .ok (.if_icmp .ge 20, 3) := by decide +kernel
theorem dX2_tell_11 : decode cX2_tell 11 = .ok (.aload_n 0, 1) := by decide +kernel
theorem dX2_tell_12 : decode cX2_tell 12 = .ok (.iload_n 3, 1) := by decide +kernel
theorem dX2_tell_13 : decode cX2_tell 13 = .ok (.invokevirtual 26, 3) := by decide +kernel
theorem dX2_tell_16 : decode cX2_tell 16 = .ok (.aload_n 1, 1) := by decide +kernel
theorem dX2_tell_17 : decode cX2_tell 17 = .ok (.iload_n 2, 1) := by decide +kernel
theorem dX2_tell_18 : decode cX2_tell 18 = .ok (.iload_n 3, 1) := by decide +kernel
theorem dX2_tell_19 : decode cX2_tell 19 = .ok (.invokevirtual 30, 3) := by decide +kernel
theorem dX2_tell_22 : decode cX2_tell 22 = .ok (.iinc 3 1, 3) := by decide +kernel
theorem dX2_tell_25 : decode cX2_tell 25 = .ok (.goto (-23), 3) := by decide +kernel
theorem dX2_tell_28 : decode cX2_tell 28 = .ok (.return_, 1) := by decide +kernel
theorem dX2_cellsOf_0 : decode cX2_cellsOf 0 = .ok (.iconst 0, 1) := by decide +kernel
theorem dX2_cellsOf_1 : decode cX2_cellsOf 1 = .ok (.istore_n 2, 1) := by decide +kernel
theorem dX2_cellsOf_2 : decode cX2_cellsOf 2 = .ok (.iconst 0, 1) := by decide +kernel
theorem dX2_cellsOf_3 : decode cX2_cellsOf 3 = .ok (.istore_n 3, 1) := by decide +kernel
theorem dX2_cellsOf_4 : decode cX2_cellsOf 4 = .ok (.iload_n 3, 1) := by decide +kernel
theorem dX2_cellsOf_5 : decode cX2_cellsOf 5 = .ok (.aload_n 0, 1) := by decide +kernel
theorem dX2_cellsOf_6 : decode cX2_cellsOf 6 = .ok (.getfield 22, 3) := by decide +kernel
theorem dX2_cellsOf_9 : decode cX2_cellsOf 9 = .ok (.arraylength, 1) := by decide +kernel
theorem dX2_cellsOf_10 : decode cX2_cellsOf 10 = .ok (.if_icmp .ge 21, 3) := by decide +kernel
theorem dX2_cellsOf_13 : decode cX2_cellsOf 13 = .ok (.iload_n 2, 1) := by decide +kernel
theorem dX2_cellsOf_14 : decode cX2_cellsOf 14 = .ok (.aload_n 0, 1) := by decide +kernel
theorem dX2_cellsOf_15 : decode cX2_cellsOf 15 = .ok (.iload_n 3, 1) := by decide +kernel
theorem dX2_cellsOf_16 : decode cX2_cellsOf 16 = .ok (.invokevirtual 26, 3) := by decide +kernel
theorem dX2_cellsOf_19 : decode cX2_cellsOf 19 = .ok (.iload_n 1, 1) := by decide +kernel
theorem dX2_cellsOf_20 : decode cX2_cellsOf 20 = .ok (.invokevirtual 34, 3) := by decide +kernel
theorem dX2_cellsOf_23 : decode cX2_cellsOf 23 = .ok (.iadd, 1) := by decide +kernel
theorem dX2_cellsOf_24 : decode cX2_cellsOf 24 = .ok (.istore_n 2, 1) := by decide +kernel
theorem dX2_cellsOf_25 : decode cX2_cellsOf 25 = .ok (.iinc 3 1, 3) := by decide +kernel
theorem dX2_cellsOf_28 : decode cX2_cellsOf 28 = .ok (.goto (-24), 3) := by decide +kernel
theorem dX2_cellsOf_31 : decode cX2_cellsOf 31 = .ok (.iload_n 2, 1) := by decide +kernel
theorem dX2_cellsOf_32 : decode cX2_cellsOf 32 = .ok (.ireturn, 1) := by decide +kernel
theorem dX2_crossings_0 : decode cX2_crossings 0 = .ok (.iconst 0, 1) := by decide +kernel
theorem dX2_crossings_1 : decode cX2_crossings 1 = .ok (.istore_n 2, 1) := by decide +kernel
theorem dX2_crossings_2 : decode cX2_crossings 2 = .ok (.iconst 0, 1) := by decide +kernel
theorem dX2_crossings_3 : decode cX2_crossings 3 = .ok (.istore_n 3, 1) := by decide +kernel
theorem dX2_crossings_4 : decode cX2_crossings 4 = .ok (.iload_n 3, 1) := by decide +kernel
theorem dX2_crossings_5 : decode cX2_crossings 5 = .ok (.aload_n 0, 1) := by decide +kernel
theorem dX2_crossings_6 : decode cX2_crossings 6 = .ok (.getfield 22, 3) := by decide +kernel
theorem dX2_crossings_9 : decode cX2_crossings 9 = .ok (.arraylength, 1) := by decide +kernel
theorem dX2_crossings_10 : decode cX2_crossings 10 = .ok (.if_icmp .ge 21, 3) := by decide +kernel
theorem dX2_crossings_13 : decode cX2_crossings 13 = .ok (.iload_n 2, 1) := by decide +kernel
theorem dX2_crossings_14 : decode cX2_crossings 14 = .ok (.aload_n 0, 1) := by decide +kernel
theorem dX2_crossings_15 : decode cX2_crossings 15 = .ok (.iload_n 3, 1) := by decide +kernel
theorem dX2_crossings_16 : decode cX2_crossings 16 = .ok (.invokevirtual 26, 3) := by decide +kernel
theorem dX2_crossings_19 : decode cX2_crossings 19 = .ok (.aload_n 1, 1) := by decide +kernel
theorem dX2_crossings_20 : decode cX2_crossings 20 = .ok (.invokevirtual 38, 3) := by decide +kernel
theorem dX2_crossings_23 : decode cX2_crossings 23 = .ok (.iadd, 1) := by decide +kernel
theorem dX2_crossings_24 : decode cX2_crossings 24 = .ok (.istore_n 2, 1) := by decide +kernel
theorem dX2_crossings_25 : decode cX2_crossings 25 = .ok (.iinc 3 1, 3) := by decide +kernel
theorem dX2_crossings_28 : decode cX2_crossings 28 = .ok (.goto (-24), 3) := by decide +kernel
theorem dX2_crossings_31 : decode cX2_crossings 31 = .ok (.iload_n 2, 1) := by decide +kernel
theorem dX2_crossings_32 : decode cX2_crossings 32 = .ok (.ireturn, 1) := by decide +kernel
theorem dX3_init_0 : decode cX3_init 0 = .ok (.aload_n 0, 1) := by decide +kernel
theorem dX3_init_1 : decode cX3_init 1 = .ok (.invokespecial 3, 3) := by decide +kernel
theorem dX3_init_4 : decode cX3_init 4 = .ok (.aload_n 0, 1) := by decide +kernel
theorem dX3_init_5 : decode cX3_init 5 = .ok (.bipush 8, 2) := by decide +kernel
theorem dX3_init_7 : decode cX3_init 7 = .ok (.newarray .int, 2) := by decide +kernel
theorem dX3_init_9 : decode cX3_init 9 = .ok (.putfield 9, 3) := by decide +kernel
theorem dX3_init_12 : decode cX3_init 12 = .ok (.aload_n 0, 1) := by decide +kernel
theorem dX3_init_13 : decode cX3_init 13 = .ok (.bipush 8, 2) := by decide +kernel
theorem dX3_init_15 : decode cX3_init 15 = .ok (.newarray .int, 2) := by decide +kernel
theorem dX3_init_17 : decode cX3_init 17 = .ok (.putfield 15, 3) := by decide +kernel
theorem dX3_init_20 : decode cX3_init 20 = .ok (.aload_n 0, 1) := by decide +kernel
theorem dX3_init_21 : decode cX3_init 21 = .ok (.bipush 8, 2) := by decide +kernel
theorem dX3_init_23 : decode cX3_init 23 = .ok (.newarray .int, 2) := by decide +kernel
theorem dX3_init_25 : decode cX3_init 25 = .ok (.putfield 18, 3) := by decide +kernel
theorem dX3_init_28 : decode cX3_init 28 = .ok (.aload_n 0, 1) := by decide +kernel
theorem dX3_init_29 : decode cX3_init 29 = .ok (.bipush 8, 2) := by decide +kernel
theorem dX3_init_31 : decode cX3_init 31 = .ok (.newarray .int, 2) := by decide +kernel
theorem dX3_init_33 : decode cX3_init 33 = .ok (.putfield 21, 3) := by decide +kernel
theorem dX3_init_36 : decode cX3_init 36 = .ok (.aload_n 0, 1) := by decide +kernel
theorem dX3_init_37 : decode cX3_init 37 = .ok (.sipush 13448, 3) := by decide +kernel
theorem dX3_init_40 : decode cX3_init 40 = .ok (.newarray .int, 2) := by decide +kernel
theorem dX3_init_42 : decode cX3_init 42 = .ok (.putfield 24, 3) := by decide +kernel
theorem dX3_init_45 : decode cX3_init 45 = .ok (.aload_n 0, 1) := by decide +kernel
theorem dX3_init_46 : decode cX3_init 46 = .ok (.bipush 8, 2) := by decide +kernel
theorem dX3_init_48 : decode cX3_init 48 = .ok (.newarray .int, 2) := by decide +kernel
theorem dX3_init_50 : decode cX3_init 50 = .ok (.putfield 27, 3) := by decide +kernel
theorem dX3_init_53 : decode cX3_init 53 = .ok (.aload_n 0, 1) := by decide +kernel
theorem dX3_init_54 : decode cX3_init 54 = .ok (.iconst 0, 1) := by decide +kernel
theorem dX3_init_55 : decode cX3_init 55 = .ok (.putfield 30, 3) := by decide +kernel
theorem dX3_init_58 : decode cX3_init 58 = .ok (.aload_n 0, 1) := by decide +kernel
theorem dX3_init_59 : decode cX3_init 59 = .ok (.iconst 0, 1) := by decide +kernel
theorem dX3_init_60 : decode cX3_init 60 = .ok (.putfield 34, 3) := by decide +kernel
theorem dX3_init_63 : decode cX3_init 63 = .ok (.return_, 1) := by decide +kernel
theorem dX4_init_0 : decode cX4_init 0 = .ok (.aload_n 0, 1) := by decide +kernel
theorem dX4_init_1 : decode cX4_init 1 = .ok (.invokespecial 3, 3) := by decide +kernel
theorem dX4_init_4 : decode cX4_init 4 = .ok (.aload_n 0, 1) := by decide +kernel
theorem dX4_init_5 : decode cX4_init 5 = .ok (.new 9, 3) := by decide +kernel
theorem dX4_init_8 : decode cX4_init 8 = .ok (.dup, 1) := by decide +kernel
theorem dX4_init_9 : decode cX4_init 9 = .ok (.invokespecial 11, 3) := by decide +kernel
theorem dX4_init_12 : decode cX4_init 12 = .ok (.putfield 12, 3) := by decide +kernel
theorem dX4_init_15 : decode cX4_init 15 = .ok (.aload_n 0, 1) := by decide +kernel
theorem dX4_init_16 : decode cX4_init 16 = .ok (.new 18, 3) := by decide +kernel
theorem dX4_init_19 : decode cX4_init 19 = .ok (.dup, 1) := by decide +kernel
theorem dX4_init_20 : decode cX4_init 20 = .ok (.iconst 5, 1) := by decide +kernel
theorem dX4_init_21 : decode cX4_init 21 = .ok (.invokespecial 20, 3) := by decide +kernel
theorem dX4_init_24 : decode cX4_init 24 = .ok (.putfield 23, 3) := by decide +kernel
theorem dX4_init_27 : decode cX4_init 27 = .ok (.aload_n 0, 1) := by decide +kernel
theorem dX4_init_28 : decode cX4_init 28 = .ok (.iconst 4, 1) := by decide +kernel
theorem dX4_init_29 : decode cX4_init 29 = .ok (.newarray .int, 2) := by decide +kernel
theorem dX4_init_31 : decode cX4_init 31 = .ok (.putfield 27, 3) := by decide +kernel
theorem dX4_init_34 : decode cX4_init 34 = .ok (.aload_n 0, 1) := by decide +kernel
theorem dX4_init_35 : decode cX4_init 35 = .ok (.sipush 1296, 3) := by decide +kernel
theorem dX4_init_38 : decode cX4_init 38 = .ok (.newarray .int, 2) := by decide +kernel
theorem dX4_init_40 : decode cX4_init 40 = .ok (.putfield 31, 3) := by decide +kernel
theorem dX4_init_43 : decode cX4_init 43 = .ok (.aload_n 0, 1) := by decide +kernel
theorem dX4_init_44 : decode cX4_init 44 = .ok (.bipush 16, 2) := by decide +kernel
theorem dX4_init_46 : decode cX4_init 46 = .ok (.newarray .int, 2) := by decide +kernel
theorem dX4_init_48 : decode cX4_init 48 = .ok (.putfield 34, 3) := by decide +kernel
theorem dX4_init_51 : decode cX4_init 51 = .ok (.aload_n 0, 1) := by decide +kernel
theorem dX4_init_52 : decode cX4_init 52 = .ok (.bipush 16, 2) := by decide +kernel
theorem dX4_init_54 : decode cX4_init 54 = .ok (.newarray .int, 2) := by decide +kernel
theorem dX4_init_56 : decode cX4_init 56 = .ok (.putfield 37, 3) := by decide +kernel
theorem dX4_init_59 : decode cX4_init 59 = .ok (.aload_n 0, 1) := by decide +kernel
theorem dX4_init_60 : decode cX4_init 60 = .ok (.iconst 0, 1) := by decide +kernel
theorem dX4_init_61 : decode cX4_init 61 = .ok (.putfield 40, 3) := by decide +kernel
theorem dX4_init_64 : decode cX4_init 64 = .ok (.aload_n 0, 1) := by decide +kernel
theorem dX4_init_65 : decode cX4_init 65 = .ok (.iconst 0, 1) := by decide +kernel
theorem dX4_init_66 : decode cX4_init 66 = .ok (.putfield 44, 3) := by decide +kernel
theorem dX4_init_69 : decode cX4_init 69 = .ok (.aload_n 0, 1) := by decide +kernel
theorem dX4_init_70 : decode cX4_init 70 = .ok (.iconst 0, 1) := by decide +kernel
theorem dX4_init_71 : decode cX4_init 71 = .ok (.putfield 47, 3) := by decide +kernel
theorem dX4_init_74 : decode cX4_init 74 = .ok (.return_, 1) := by decide +kernel
theorem dX4_doubt_0 : decode cX4_doubt 0 = .ok (.aload_n 0, 1) := by decide +kernel
theorem dX4_doubt_1 : decode cX4_doubt 1 = .ok (.iconst 0, 1) := by decide +kernel
theorem dX4_doubt_2 : decode cX4_doubt 2 = .ok (.putfield 47, 3) := by decide +kernel
theorem dX4_doubt_5 : decode cX4_doubt 5 = .ok (.return_, 1) := by decide +kernel
theorem dX4_least_0 : decode cX4_least 0 = .ok (.aload_n 0, 1) := by decide +kernel
theorem dX4_least_1 : decode cX4_least 1 = .ok (.getfield 34, 3) := by decide +kernel
theorem dX4_least_4 : decode cX4_least 4 = .ok (.iload_n 1, 1) := by decide +kernel
theorem dX4_least_5 : decode cX4_least 5 = .ok (.invokestatic 51, 3) := by decide +kernel
theorem dX4_least_8 : decode cX4_least 8 = .ok (.ireturn, 1) := by decide +kernel
theorem dX4_greatest_0 : decode cX4_greatest 0 = .ok (.aload_n 0, 1) := by decide +kernel
theorem dX4_greatest_1 : decode cX4_greatest 1 = .ok (.getfield 37, 3) := by decide +kernel
theorem dX4_greatest_4 : decode cX4_greatest 4 = .ok (.iload_n 1, 1) := by decide +kernel
theorem dX4_greatest_5 : decode cX4_greatest 5 = .ok (.invokestatic 51, 3) := by decide +kernel
theorem dX4_greatest_8 : decode cX4_greatest 8 = .ok (.ireturn, 1) := by decide +kernel
theorem dX4_know_0 : decode cX4_know 0 = .ok (.aload_n 0, 1) := by decide +kernel
theorem dX4_know_1 : decode cX4_know 1 = .ok (.getfield 47, 3) := by decide +kernel
theorem dX4_know_4 : decode cX4_know 4 = .ok (.ifCond .ne 7, 3) := by decide +kernel
theorem dX4_know_7 : decode cX4_know 7 = .ok (.aload_n 1, 1) := by decide +kernel
theorem dX4_know_8 : decode cX4_know 8 = .ok (.ifnonnull 4, 3) := by decide +kernel
theorem dX4_know_11 : decode cX4_know 11 = .ok (.return_, 1) := by decide +kernel
theorem dX4_know_12 : decode cX4_know 12 = .ok (.aload_n 0, 1) := by decide +kernel
theorem dX4_know_13 : decode cX4_know 13 = .ok (.getfield 12, 3) := by decide +kernel
theorem dX4_know_16 : decode cX4_know 16 = .ok (.aload_n 1, 1) := by decide +kernel
theorem dX4_know_17 : decode cX4_know 17 = .ok (.invokevirtual 55, 3) := by decide +kernel
theorem dX4_know_20 : decode cX4_know 20 = .ok (.aload_n 0, 1) := by decide +kernel
theorem dX4_know_21 : decode cX4_know 21 = .ok (.invokevirtual 59, 3) := by decide +kernel
theorem dX4_know_24 : decode cX4_know 24 = .ok (.aload_n 0, 1) := by decide +kernel
theorem dX4_know_25 : decode cX4_know 25 = .ok (.getfield 31, 3) := by decide +kernel
theorem dX4_know_28 : decode cX4_know 28 = .ok (.iconst 0, 1) := by decide +kernel
theorem dX4_know_29 : decode cX4_know 29 = .ok (.aload_n 0, 1) := by decide +kernel
theorem dX4_know_30 : decode cX4_know 30 = .ok (.getfield 31, 3) := by decide +kernel
theorem dX4_know_33 : decode cX4_know 33 = .ok (.arraylength, 1) := by decide +kernel
theorem dX4_know_34 : decode cX4_know 34 = .ok (.iconst 0, 1) := by decide +kernel
theorem dX4_know_35 : decode cX4_know 35 = .ok (.invokestatic 62, 3) := by decide +kernel
theorem dX4_know_38 : decode cX4_know 38 = .ok (.iconst 0, 1) := by decide +kernel
theorem dX4_know_39 : decode cX4_know 39 = .ok (.istore_n 2, 1) := by decide +kernel
theorem dX4_know_40 : decode cX4_know 40 = .ok (.iload_n 2, 1) := by decide +kernel
theorem dX4_know_41 : decode cX4_know 41 = .ok (.bipush 64, 2) := by decide +kernel
theorem dX4_know_43 : decode cX4_know 43 = .ok (.if_icmp .ge 41, 3) := by decide +kernel
theorem dX4_know_46 : decode cX4_know 46 = .ok (.aload_n 0, 1) := by decide +kernel
theorem dX4_know_47 : decode cX4_know 47 = .ok (.iconst 0, 1) := by decide +kernel
theorem dX4_know_48 : decode cX4_know 48 = .ok (.putfield 44, 3) := by decide +kernel
theorem dX4_know_51 : decode cX4_know 51 = .ok (.aload_n 0, 1) := by decide +kernel
theorem dX4_know_52 : decode cX4_know 52 = .ok (.getfield 23, 3) := by decide +kernel
theorem dX4_know_55 : decode cX4_know 55 = .ok (.iconst 0, 1) := by decide +kernel
theorem dX4_know_56 : decode cX4_know 56 = .ok (.invokevirtual 66, 3) := by decide +kernel
theorem dX4_know_59 : decode cX4_know 59 = .ok (.aload_n 0, 1) := by decide +kernel
theorem dX4_know_60 : decode cX4_know 60 = .ok (.getfield 12, 3) := by decide +kernel
theorem dX4_know_63 : decode cX4_know 63 = .ok (.aload_n 0, 1) := by decide +kernel
theorem dX4_know_64 : decode cX4_know 64 = .ok (.iconst 0, 1) := by decide +kernel
theorem dX4_know_65 : decode cX4_know 65 = .ok (.invokevirtual 70, 3) := by decide +kernel
theorem dX4_know_68 : decode cX4_know 68 = .ok (.iload_n 2, 1) := by decide +kernel
theorem dX4_know_69 : decode cX4_know 69 = .ok (.invokevirtual 74, 3) := by decide +kernel
theorem dX4_know_72 : decode cX4_know 72 = .ok (.aload_n 0, 1) := by decide +kernel
theorem dX4_know_73 : decode cX4_know 73 = .ok (.iconst 0, 1) := by decide +kernel
theorem dX4_know_74 : decode cX4_know 74 = .ok (.iload_n 2, 1) := by decide +kernel
theorem dX4_know_75 : decode cX4_know 75 = .ok (.invokevirtual 80, 3) := by decide +kernel
theorem dX4_know_78 : decode cX4_know 78 = .ok (.iinc 2 1, 3) := by decide +kernel
theorem dX4_know_81 : decode cX4_know 81 = .ok (.goto (-41), 3) := by decide +kernel
theorem dX4_know_84 : decode cX4_know 84 = .ok (.aload_n 0, 1) := by decide +kernel
theorem dX4_know_85 : decode cX4_know 85 = .ok (.invokevirtual 84, 3) := by decide +kernel
theorem dX4_know_88 : decode cX4_know 88 = .ok (.aload_n 0, 1) := by decide +kernel
theorem dX4_know_89 : decode cX4_know 89 = .ok (.iconst 1, 1) := by decide +kernel
theorem dX4_know_90 : decode cX4_know 90 = .ok (.putfield 47, 3) := by decide +kernel
theorem dX4_know_93 : decode cX4_know 93 = .ok (.return_, 1) := by decide +kernel
theorem dX4_findLoose_0 : decode cX4_findLoose 0 = .ok (.aload_n 0, 1) := by decide +kernel
theorem dX4_findLoose_1 : decode cX4_findLoose 1 = .ok (.iconst 0, 1) := by decide +kernel
theorem dX4_findLoose_2 : decode cX4_findLoose 2 = .ok (.putfield 40, 3) := by decide +kernel
theorem dX4_findLoose_5 : decode cX4_findLoose 5 = .ok (.iconst 0, 1) := by decide +kernel
theorem dX4_findLoose_6 : decode cX4_findLoose 6 = .ok (.istore_n 1, 1) := by decide +kernel
theorem dX4_findLoose_7 : decode cX4_findLoose 7 = .ok (.iload_n 1, 1) := by decide +kernel
theorem dX4_findLoose_8 : decode cX4_findLoose 8 = .ok (.aload_n 0, 1) := by decide +kernel
theorem dX4_findLoose_9 : decode cX4_findLoose 9 = .ok (.getfield 12, 3) := by decide +kernel
theorem dX4_findLoose_12 : decode cX4_findLoose 12 = .ok (.invokevirtual 87, 3) := by decide +kernel
theorem dX4_findLoose_15 : decode cX4_findLoose 15 = .ok (.if_icmp .ge 53, 3) := by decide +kernel
theorem dX4_findLoose_18 : decode cX4_findLoose 18 = .ok (.aload_n 0, 1) := by decide +kernel
theorem dX4_findLoose_19 : decode cX4_findLoose 19 = .ok (.getfield 12, 3) := by decide +kernel
theorem dX4_findLoose_22 : decode cX4_findLoose 22 = .ok (.iload_n 1, 1) := by decide +kernel
theorem dX4_findLoose_23 : decode cX4_findLoose 23 = .ok (.invokevirtual 91, 3) := by decide +kernel
theorem dX4_findLoose_26 : decode cX4_findLoose 26 = .ok (.ifCond .eq 36, 3) := by decide +kernel
theorem dX4_findLoose_29 : decode cX4_findLoose 29 = .ok (.aload_n 0, 1) := by decide +kernel
theorem dX4_findLoose_30 : decode cX4_findLoose 30 = .ok (.getfield 40, 3) := by decide +kernel
theorem dX4_findLoose_33 : decode cX4_findLoose 33 = .ok (.iconst 4, 1) := by decide +kernel
theorem dX4_findLoose_34 : decode cX4_findLoose 34 = .ok (.if_icmp .lt 6, 3) := by decide +kernel
theorem dX4_findLoose_37 : decode cX4_findLoose 37 = .ok (.goto 25, 3) := by decide +kernel
theorem dX4_findLoose_40 : decode cX4_findLoose 40 = .ok (.aload_n 0, 1) := by decide +kernel
theorem dX4_findLoose_41 : decode cX4_findLoose 41 = .ok (.getfield 27, 3) := by decide +kernel
theorem dX4_findLoose_44 : decode cX4_findLoose 44 = .ok (.aload_n 0, 1) := by decide +kernel
theorem dX4_findLoose_45 : decode cX4_findLoose 45 = .ok (.getfield 40, 3) := by decide +kernel
theorem dX4_findLoose_48 : decode cX4_findLoose 48 = .ok (.iload_n 1, 1) := by decide +kernel
theorem dX4_findLoose_49 : decode cX4_findLoose 49 = .ok (.invokestatic 95, 3) := by decide +kernel
theorem dX4_findLoose_52 : decode cX4_findLoose 52 = .ok (.aload_n 0, 1) := by decide +kernel
theorem dX4_findLoose_53 : decode cX4_findLoose 53 = .ok (.dup, 1) := by decide +kernel
theorem dX4_findLoose_54 : decode cX4_findLoose 54 = .ok (.getfield 40, 3) := by decide +kernel
theorem dX4_findLoose_57 : decode cX4_findLoose 57 = .ok (.iconst 1, 1) := by decide +kernel
theorem dX4_findLoose_58 : decode cX4_findLoose 58 = .ok (.iadd, 1) := by decide +kernel
theorem dX4_findLoose_59 : decode cX4_findLoose 59 = .ok (.putfield 40, 3) := by decide +kernel
theorem dX4_findLoose_62 : decode cX4_findLoose 62 = .ok (.iinc 1 1, 3) := by decide +kernel
theorem dX4_findLoose_65 : decode cX4_findLoose 65 = .ok (.goto (-58), 3) := by decide +kernel
theorem dX4_findLoose_68 : decode cX4_findLoose 68 = .ok (.return_, 1) := by decide +kernel
theorem dX4_looseIndex_0 : decode cX4_looseIndex 0 = .ok (.iload_n 1, 1) := by decide +kernel
theorem dX4_looseIndex_1 : decode cX4_looseIndex 1 = .ok (.aload_n 0, 1) := by decide +kernel
theorem dX4_looseIndex_2 : decode cX4_looseIndex 2 = .ok (.getfield 40, 3) := by decide +kernel
theorem dX4_looseIndex_5 : decode cX4_looseIndex 5 = .ok (.if_icmp .ge 14, 3) := by decide +kernel
theorem dX4_looseIndex_8 : decode cX4_looseIndex 8 = .ok (.aload_n 0, 1) := by decide +kernel
theorem dX4_looseIndex_9 : decode cX4_looseIndex 9 = .ok (.getfield 27, 3) := by decide +kernel
theorem dX4_looseIndex_12 : decode cX4_looseIndex 12 = .ok (.iload_n 1, 1) := by decide +kernel
theorem dX4_looseIndex_13 : decode cX4_looseIndex 13 = .ok (.invokestatic 51, 3) := by decide +kernel
theorem dX4_looseIndex_16 : decode cX4_looseIndex 16 = .ok (.goto 10, 3) := by decide +kernel
theorem dX4_looseIndex_19 : decode cX4_looseIndex 19 = .ok (.aload_n 0, 1) := by decide +kernel
theorem dX4_looseIndex_20 : decode cX4_looseIndex 20 = .ok (.getfield 12, 3) := by decide +kernel
theorem dX4_looseIndex_23 : decode cX4_looseIndex 23 = .ok (.invokevirtual 87, 3) := by decide +kernel
theorem dX4_looseIndex_26 : decode cX4_looseIndex 26 = .ok (.ireturn, 1) := by decide +kernel
theorem dX4_vary_0 : decode cX4_vary 0 = .ok (.iload_n 1, 1) := by decide +kernel
theorem dX4_vary_1 : decode cX4_vary 1 = .ok (.aload_n 0, 1) := by decide +kernel
theorem dX4_vary_2 : decode cX4_vary 2 = .ok (.getfield 40, 3) := by decide +kernel
theorem dX4_vary_5 : decode cX4_vary 5 = .ok (.if_icmp .ge 8, 3) := by decide +kernel
theorem dX4_vary_8 : decode cX4_vary 8 = .ok (.iload_n 1, 1) := by decide +kernel
theorem dX4_vary_9 : decode cX4_vary 9 = .ok (.iconst 4, 1) := by decide +kernel
theorem dX4_vary_10 : decode cX4_vary 10 = .ok (.if_icmp .lt 36, 3) := by decide +kernel
theorem dX4_vary_13 : decode cX4_vary 13 = .ok (.aload_n 0, 1) := by decide +kernel
theorem dX4_vary_14 : decode cX4_vary 14 = .ok (.getfield 23, 3) := by decide +kernel
theorem dX4_vary_17 : decode cX4_vary 17 = .ok (.iload_n 1, 1) := by decide +kernel
theorem dX4_vary_18 : decode cX4_vary 18 = .ok (.invokevirtual 66, 3) := by decide +kernel
theorem dX4_vary_21 : decode cX4_vary 21 = .ok (.aload_n 0, 1) := by decide +kernel
theorem dX4_vary_22 : decode cX4_vary 22 = .ok (.getfield 31, 3) := by decide +kernel
theorem dX4_vary_25 : decode cX4_vary 25 = .ok (.aload_n 0, 1) := by decide +kernel
theorem dX4_vary_26 : decode cX4_vary 26 = .ok (.getfield 44, 3) := by decide +kernel
theorem dX4_vary_29 : decode cX4_vary 29 = .ok (.bipush 16, 2) := by decide +kernel
theorem dX4_vary_31 : decode cX4_vary 31 = .ok (.imul, 1) := by decide +kernel
theorem dX4_vary_32 : decode cX4_vary 32 = .ok (.invokevirtual 99, 3) := by decide +kernel
theorem dX4_vary_35 : decode cX4_vary 35 = .ok (.aload_n 0, 1) := by decide +kernel
theorem dX4_vary_36 : decode cX4_vary 36 = .ok (.dup, 1) := by decide +kernel
theorem dX4_vary_37 : decode cX4_vary 37 = .ok (.getfield 44, 3) := by decide +kernel
theorem dX4_vary_40 : decode cX4_vary 40 = .ok (.iconst 1, 1) := by decide +kernel
theorem dX4_vary_41 : decode cX4_vary 41 = .ok (.iadd, 1) := by decide +kernel
theorem dX4_vary_42 : decode cX4_vary 42 = .ok (.putfield 44, 3) := by decide +kernel
theorem dX4_vary_45 : decode cX4_vary 45 = .ok (.return_, 1) := by decide +kernel
theorem dX4_vary_46 : decode cX4_vary 46 = .ok (.aload_n 0, 1) := by decide +kernel
theorem dX4_vary_47 : decode cX4_vary 47 = .ok (.iload_n 1, 1) := by decide +kernel
theorem dX4_vary_48 : decode cX4_vary 48 = .ok (.invokevirtual 70, 3) := by decide +kernel
theorem dX4_vary_51 : decode cX4_vary 51 = .ok (.istore_n 3, 1) := by decide +kernel
theorem dX4_vary_52 : decode cX4_vary 52 = .ok (.aload_n 0, 1) := by decide +kernel
theorem dX4_vary_53 : decode cX4_vary 53 = .ok (.getfield 12, 3) := by decide +kernel
theorem dX4_vary_56 : decode cX4_vary 56 = .ok (.iload_n 3, 1) := by decide +kernel
theorem dX4_vary_57 : decode cX4_vary 57 = .ok (.invokevirtual 103, 3) := by decide +kernel
theorem dX4_vary_60 : decode cX4_vary 60 = .ok (.istore 4, 2) := by decide +kernel
theorem dX4_vary_62 : decode cX4_vary 62 = .ok (.iload 4, 2) := by decide +kernel
theorem dX4_vary_64 : decode cX4_vary 64 = .ok (.invokestatic 106, 3) := by decide +kernel
theorem dX4_vary_67 : decode cX4_vary 67 = .ok (.istore 5, 2) := by decide +kernel
theorem dX4_vary_69 : decode cX4_vary 69 = .ok (.aload_n 0, 1) := by decide +kernel
theorem dX4_vary_70 : decode cX4_vary 70 = .ok (.getfield 12, 3) := by decide +kernel
theorem dX4_vary_73 : decode cX4_vary 73 = .ok (.iload_n 3, 1) := by decide +kernel
theorem dX4_vary_74 : decode cX4_vary 74 = .ok (.iload 5, 2) := by decide +kernel
theorem dX4_vary_76 : decode cX4_vary 76 = .ok (.invokevirtual 111, 3) := by decide +kernel
theorem dX4_vary_79 : decode cX4_vary 79 = .ok (.istore 6, 2) := by decide +kernel
theorem dX4_vary_81 : decode cX4_vary 81 = .ok (.iconst (-1), 1) := by decide +kernel
theorem dX4_vary_82 : decode cX4_vary 82 = .ok (.istore 7, 2) := by decide +kernel
theorem dX4_vary_84 : decode cX4_vary 84 = .ok (.iload 7, 2) := by decide +kernel
theorem dX4_vary_86 : decode cX4_vary 86 = .ok (.iconst 1, 1) := by decide +kernel
theorem dX4_vary_87 : decode cX4_vary 87 = .ok (.if_icmp .gt 84, 3) := by decide +kernel
theorem dX4_vary_90 : decode cX4_vary 90 = .ok (.iload 4, 2) := by decide +kernel
theorem dX4_vary_92 : decode cX4_vary 92 = .ok (.iload 5, 2) := by decide +kernel
theorem dX4_vary_94 : decode cX4_vary 94 = .ok (.iload 6, 2) := by decide +kernel
theorem dX4_vary_96 : decode cX4_vary 96 = .ok (.iload 7, 2) := by decide +kernel
theorem dX4_vary_98 : decode cX4_vary 98 = .ok (.iadd, 1) := by decide +kernel
theorem dX4_vary_99 : decode cX4_vary 99 = .ok (.invokestatic 115, 3) := by decide +kernel
theorem dX4_vary_102 : decode cX4_vary 102 = .ok (.ifCond .ne 6, 3) := by decide +kernel
theorem dX4_vary_105 : decode cX4_vary 105 = .ok (.goto 60, 3) := by decide +kernel
theorem dX4_vary_108 : decode cX4_vary 108 = .ok (.aload_n 0, 1) := by decide +kernel
theorem dX4_vary_109 : decode cX4_vary 109 = .ok (.getfield 12, 3) := by decide +kernel
theorem dX4_vary_112 : decode cX4_vary 112 = .ok (.iload_n 3, 1) := by decide +kernel
theorem dX4_vary_113 : decode cX4_vary 113 = .ok (.iload 5, 2) := by decide +kernel
theorem dX4_vary_115 : decode cX4_vary 115 = .ok (.iload 6, 2) := by decide +kernel
theorem dX4_vary_117 : decode cX4_vary 117 = .ok (.iload 7, 2) := by decide +kernel
theorem dX4_vary_119 : decode cX4_vary 119 = .ok (.iadd, 1) := by decide +kernel
theorem dX4_vary_120 : decode cX4_vary 120 = .ok (.invokevirtual 119, 3) := by decide +kernel
theorem dX4_vary_123 : decode cX4_vary 123 = .ok (.aload_n 0, 1) := by decide +kernel
theorem dX4_vary_124 : decode cX4_vary 124 = .ok (.getfield 23, 3) := by decide +kernel
theorem dX4_vary_127 : decode cX4_vary 127 = .ok (.iload_n 1, 1) := by decide +kernel
theorem dX4_vary_128 : decode cX4_vary 128 = .ok (.iconst 1, 1) := by decide +kernel
theorem dX4_vary_129 : decode cX4_vary 129 = .ok (.iadd, 1) := by decide +kernel
theorem dX4_vary_130 : decode cX4_vary 130 = .ok (.invokevirtual 66, 3) := by decide +kernel
theorem dX4_vary_133 : decode cX4_vary 133 = .ok (.aload_n 0, 1) := by decide +kernel
theorem dX4_vary_134 : decode cX4_vary 134 = .ok (.getfield 23, 3) := by decide +kernel
theorem dX4_vary_137 : decode cX4_vary 137 = .ok (.iload_n 1, 1) := by decide +kernel
theorem dX4_vary_138 : decode cX4_vary 138 = .ok (.invokevirtual 66, 3) := by decide +kernel
theorem dX4_vary_141 : decode cX4_vary 141 = .ok (.aload_n 0, 1) := by decide +kernel
theorem dX4_vary_142 : decode cX4_vary 142 = .ok (.getfield 12, 3) := by decide +kernel
theorem dX4_vary_145 : decode cX4_vary 145 = .ok (.iload_n 3, 1) := by decide +kernel
theorem dX4_vary_146 : decode cX4_vary 146 = .ok (.aload_n 0, 1) := by decide +kernel
theorem dX4_vary_147 : decode cX4_vary 147 = .ok (.iload_n 1, 1) := by decide +kernel
theorem dX4_vary_148 : decode cX4_vary 148 = .ok (.iconst 1, 1) := by decide +kernel
theorem dX4_vary_149 : decode cX4_vary 149 = .ok (.iadd, 1) := by decide +kernel
theorem dX4_vary_150 : decode cX4_vary 150 = .ok (.invokevirtual 70, 3) := by decide +kernel
theorem dX4_vary_153 : decode cX4_vary 153 = .ok (.iload_n 2, 1) := by decide +kernel
theorem dX4_vary_154 : decode cX4_vary 154 = .ok (.invokevirtual 123, 3) := by decide +kernel
theorem dX4_vary_157 : decode cX4_vary 157 = .ok (.aload_n 0, 1) := by decide +kernel
theorem dX4_vary_158 : decode cX4_vary 158 = .ok (.iload_n 1, 1) := by decide +kernel
theorem dX4_vary_159 : decode cX4_vary 159 = .ok (.iconst 1, 1) := by decide +kernel
theorem dX4_vary_160 : decode cX4_vary 160 = .ok (.iadd, 1) := by decide +kernel
theorem dX4_vary_161 : decode cX4_vary 161 = .ok (.iload_n 2, 1) := by decide +kernel
theorem dX4_vary_162 : decode cX4_vary 162 = .ok (.invokevirtual 80, 3) := by decide +kernel
theorem dX4_vary_165 : decode cX4_vary 165 = .ok (.iinc 7 1, 3) := by decide +kernel
theorem dX4_vary_168 : decode cX4_vary 168 = .ok (.goto (-84), 3) := by decide +kernel
theorem dX4_vary_171 : decode cX4_vary 171 = .ok (.aload_n 0, 1) := by decide +kernel
theorem dX4_vary_172 : decode cX4_vary 172 = .ok (.getfield 12, 3) := by decide +kernel
theorem dX4_vary_175 : decode cX4_vary 175 = .ok (.iload_n 3, 1) := by decide +kernel
theorem dX4_vary_176 : decode cX4_vary 176 = .ok (.iload 5, 2) := by decide +kernel
theorem dX4_vary_178 : decode cX4_vary 178 = .ok (.iload 6, 2) := by decide +kernel
theorem dX4_vary_180 : decode cX4_vary 180 = .ok (.invokevirtual 119, 3) := by decide +kernel
theorem dX4_vary_183 : decode cX4_vary 183 = .ok (.return_, 1) := by decide +kernel
theorem dX4_measure_0 : decode cX4_measure 0 = .ok (.iconst 0, 1) := by decide +kernel
theorem dX4_measure_1 : decode cX4_measure 1 = .ok (.istore_n 1, 1) := by decide +kernel
theorem dX4_measure_2 : decode cX4_measure 2 = .ok (.iload_n 1, 1) := by decide +kernel
theorem dX4_measure_3 : decode cX4_measure 3 = .ok (.bipush 16, 2) := by decide +kernel
theorem dX4_measure_5 : decode cX4_measure 5 = .ok (.if_icmp .ge 94, 3) := by decide +kernel
theorem dX4_measure_8 : decode cX4_measure 8 = .ok (.aload_n 0, 1) := by decide +kernel
theorem dX4_measure_9 : decode cX4_measure 9 = .ok (.getfield 31, 3) := by decide +kernel
theorem dX4_measure_12 : decode cX4_measure 12 = .ok (.iload_n 1, 1) := by decide +kernel
theorem dX4_measure_13 : decode cX4_measure 13 = .ok (.invokestatic 51, 3) := by decide +kernel
theorem dX4_measure_16 : decode cX4_measure 16 = .ok (.istore_n 2, 1) := by decide +kernel
theorem dX4_measure_17 : decode cX4_measure 17 = .ok (.iload_n 2, 1) := by decide +kernel
theorem dX4_measure_18 : decode cX4_measure 18 = .ok (.istore_n 3, 1) := by decide +kernel
theorem dX4_measure_19 : decode cX4_measure 19 = .ok (.iconst 1, 1) := by decide +kernel
theorem dX4_measure_20 : decode cX4_measure 20 = .ok (.istore 4, 2) := by decide +kernel
theorem dX4_measure_22 : decode cX4_measure 22 = .ok (.iload 4, 2) := by decide +kernel
theorem dX4_measure_24 : decode cX4_measure 24 = .ok (.aload_n 0, 1) := by decide +kernel
theorem dX4_measure_25 : decode cX4_measure 25 = .ok (.getfield 44, 3) := by decide +kernel
theorem dX4_measure_28 : decode cX4_measure 28 = .ok (.if_icmp .ge 47, 3) := by decide +kernel
theorem dX4_measure_31 : decode cX4_measure 31 = .ok (.iload_n 2, 1) := by decide +kernel
theorem dX4_measure_32 : decode cX4_measure 32 = .ok (.aload_n 0, 1) := by decide +kernel
theorem dX4_measure_33 : decode cX4_measure 33 = .ok (.getfield 31, 3) := by decide +kernel
theorem dX4_measure_36 : decode cX4_measure 36 = .ok (.iload 4, 2) := by decide +kernel
theorem dX4_measure_38 : decode cX4_measure 38 = .ok (.bipush 16, 2) := by decide +kernel
theorem dX4_measure_40 : decode cX4_measure 40 = .ok (.imul, 1) := by decide +kernel
theorem dX4_measure_41 : decode cX4_measure 41 = .ok (.iload_n 1, 1) := by decide +kernel
theorem dX4_measure_42 : decode cX4_measure 42 = .ok (.iadd, 1) := by decide +kernel
theorem dX4_measure_43 : decode cX4_measure 43 = .ok (.invokestatic 51, 3) := by decide +kernel
theorem dX4_measure_46 : decode cX4_measure 46 = .ok (.invokestatic 127, 3) := by decide +kernel
theorem dX4_measure_49 : decode cX4_measure 49 = .ok (.istore_n 2, 1) := by decide +kernel
theorem dX4_measure_50 : decode cX4_measure 50 = .ok (.iload_n 3, 1) := by decide +kernel
theorem dX4_measure_51 : decode cX4_measure 51 = .ok (.aload_n 0, 1) := by decide +kernel
theorem dX4_measure_52 : decode cX4_measure 52 = .ok (.getfield 31, 3) := by decide +kernel
theorem dX4_measure_55 : decode cX4_measure 55 = .ok (.iload 4, 2) := by decide +kernel
theorem dX4_measure_57 : decode cX4_measure 57 = .ok (.bipush 16, 2) := by decide +kernel
theorem dX4_measure_59 : decode cX4_measure 59 = .ok (.imul, 1) := by decide +kernel
theorem dX4_measure_60 : decode cX4_measure 60 = .ok (.iload_n 1, 1) := by decide +kernel
theorem dX4_measure_61 : decode cX4_measure 61 = .ok (.iadd, 1) := by decide +kernel
theorem dX4_measure_62 : decode cX4_measure 62 = .ok (.invokestatic 51, 3) := by decide +kernel
theorem dX4_measure_65 : decode cX4_measure 65 = .ok (.invokestatic 132, 3) := by decide +kernel
theorem dX4_measure_68 : decode cX4_measure 68 = .ok (.istore_n 3, 1) := by decide +kernel
theorem dX4_measure_69 : decode cX4_measure 69 = .ok (.iinc 4 1, 3) := by decide +kernel
theorem dX4_measure_72 : decode cX4_measure 72 = .ok (.goto (-50), 3) := by decide +kernel
theorem dX4_measure_75 : decode cX4_measure 75 = .ok (.aload_n 0, 1) := by decide +kernel
theorem dX4_measure_76 : decode cX4_measure 76 = .ok (.getfield 34, 3) := by decide +kernel
theorem dX4_measure_79 : decode cX4_measure 79 = .ok (.iload_n 1, 1) := by decide +kernel
theorem dX4_measure_80 : decode cX4_measure 80 = .ok (.iload_n 2, 1) := by decide +kernel
theorem dX4_measure_81 : decode cX4_measure 81 = .ok (.invokestatic 95, 3) := by decide +kernel
theorem dX4_measure_84 : decode cX4_measure 84 = .ok (.aload_n 0, 1) := by decide +kernel
theorem dX4_measure_85 : decode cX4_measure 85 = .ok (.getfield 37, 3) := by decide +kernel
theorem dX4_measure_88 : decode cX4_measure 88 = .ok (.iload_n 1, 1) := by decide +kernel
theorem dX4_measure_89 : decode cX4_measure 89 = .ok (.iload_n 3, 1) := by decide +kernel
theorem dX4_measure_90 : decode cX4_measure 90 = .ok (.invokestatic 95, 3) := by decide +kernel
theorem dX4_measure_93 : decode cX4_measure 93 = .ok (.iinc 1 1, 3) := by decide +kernel
theorem dX4_measure_96 : decode cX4_measure 96 = .ok (.goto (-94), 3) := by decide +kernel
theorem dX4_measure_99 : decode cX4_measure 99 = .ok (.return_, 1) := by decide +kernel
theorem dX5_allow_0 : decode cX5_allow 0 = .ok (.iload_n 0, 1) := by decide +kernel
theorem dX5_allow_1 : decode cX5_allow 1 = .ok (.bipush 6, 2) := by decide +kernel
theorem dX5_allow_3 : decode cX5_allow 3 = .ok (.invokestatic 9, 3) := by decide +kernel
theorem dX5_allow_6 : decode cX5_allow 6 = .ok (.ifCond .ne 5, 3) := by decide +kernel
theorem dX5_allow_9 : decode cX5_allow 9 = .ok (.iconst 0, 1) := by decide +kernel
theorem dX5_allow_10 : decode cX5_allow 10 = .ok (.ireturn, 1) := by decide +kernel
theorem dX5_allow_11 : decode cX5_allow 11 = .ok (.iload_n 0, 1) := by decide +kernel
theorem dX5_allow_12 : decode cX5_allow 12 = .ok (.iconst 5, 1) := by decide +kernel
theorem dX5_allow_13 : decode cX5_allow 13 = .ok (.if_icmp .ne 11, 3) := by decide +kernel
theorem dX5_allow_16 : decode cX5_allow 16 = .ok (.iload 4, 2) := by decide +kernel
theorem dX5_allow_18 : decode cX5_allow 18 = .ok (.iload_n 3, 1) := by decide +kernel
theorem dX5_allow_19 : decode cX5_allow 19 = .ok (.if_icmp .ge 5, 3) := by decide +kernel
theorem dX5_allow_22 : decode cX5_allow 22 = .ok (.iconst 0, 1) := by decide +kernel
theorem dX5_allow_23 : decode cX5_allow 23 = .ok (.ireturn, 1) := by decide +kernel
theorem dX5_allow_24 : decode cX5_allow 24 = .ok (.iload_n 0, 1) := by decide +kernel
theorem dX5_allow_25 : decode cX5_allow 25 = .ok (.iconst 0, 1) := by decide +kernel
theorem dX5_allow_26 : decode cX5_allow 26 = .ok (.iload_n 1, 1) := by decide +kernel
theorem dX5_allow_27 : decode cX5_allow 27 = .ok (.invokestatic 15, 3) := by decide +kernel
theorem dX5_allow_30 : decode cX5_allow 30 = .ok (.ifCond .eq 45, 3) := by decide +kernel
theorem dX5_allow_33 : decode cX5_allow 33 = .ok (.iload_n 0, 1) := by decide +kernel
theorem dX5_allow_34 : decode cX5_allow 34 = .ok (.iconst 1, 1) := by decide +kernel
theorem dX5_allow_35 : decode cX5_allow 35 = .ok (.iload_n 2, 1) := by decide +kernel
theorem dX5_allow_36 : decode cX5_allow 36 = .ok (.invokestatic 15, 3) := by decide +kernel
theorem dX5_allow_39 : decode cX5_allow 39 = .ok (.ifCond .eq 36, 3) := by decide +kernel
theorem dX5_allow_42 : decode cX5_allow 42 = .ok (.iload_n 0, 1) := by decide +kernel
theorem dX5_allow_43 : decode cX5_allow 43 = .ok (.iconst 2, 1) := by decide +kernel
theorem dX5_allow_44 : decode cX5_allow 44 = .ok (.iload_n 3, 1) := by decide +kernel
theorem dX5_allow_45 : decode cX5_allow 45 = .ok (.invokestatic 15, 3) := by decide +kernel
theorem dX5_allow_48 : decode cX5_allow 48 = .ok (.ifCond .eq 27, 3) := by decide +kernel
theorem dX5_allow_51 : decode cX5_allow 51 = .ok (.iload_n 0, 1) := by decide +kernel
theorem dX5_allow_52 : decode cX5_allow 52 = .ok (.iconst 3, 1) := by decide +kernel
theorem dX5_allow_53 : decode cX5_allow 53 = .ok (.iload 4, 2) := by decide +kernel
theorem dX5_allow_55 : decode cX5_allow 55 = .ok (.invokestatic 15, 3) := by decide +kernel
theorem dX5_allow_58 : decode cX5_allow 58 = .ok (.ifCond .eq 17, 3) := by decide +kernel
theorem dX5_allow_61 : decode cX5_allow 61 = .ok (.iload_n 0, 1) := by decide +kernel
theorem dX5_allow_62 : decode cX5_allow 62 = .ok (.iconst 4, 1) := by decide +kernel
theorem dX5_allow_63 : decode cX5_allow 63 = .ok (.iload 5, 2) := by decide +kernel
theorem dX5_allow_65 : decode cX5_allow 65 = .ok (.invokestatic 15, 3) := by decide +kernel
theorem dX5_allow_68 : decode cX5_allow 68 = .ok (.ifCond .eq 7, 3) := by decide +kernel
theorem dX5_allow_71 : decode cX5_allow 71 = .ok (.iconst 1, 1) := by decide +kernel
theorem dX5_allow_72 : decode cX5_allow 72 = .ok (.goto 4, 3) := by decide +kernel
theorem dX5_allow_75 : decode cX5_allow 75 = .ok (.iconst 0, 1) := by decide +kernel
theorem dX5_allow_76 : decode cX5_allow 76 = .ok (.ireturn, 1) := by decide +kernel
theorem dX5_suits_0 : decode cX5_suits 0 = .ok (.iload_n 1, 1) := by decide +kernel
theorem dX5_suits_1 : decode cX5_suits 1 = .ok (.iload_n 0, 1) := by decide +kernel
theorem dX5_suits_2 : decode cX5_suits 2 = .ok (.invokestatic 19, 3) := by decide +kernel
theorem dX5_suits_5 : decode cX5_suits 5 = .ok (.if_icmp .lt 5, 3) := by decide +kernel
theorem dX5_suits_8 : decode cX5_suits 8 = .ok (.iconst 1, 1) := by decide +kernel
theorem dX5_suits_9 : decode cX5_suits 9 = .ok (.ireturn, 1) := by decide +kernel
theorem dX5_suits_10 : decode cX5_suits 10 = .ok (.iload_n 0, 1) := by decide +kernel
theorem dX5_suits_11 : decode cX5_suits 11 = .ok (.iconst 5, 1) := by decide +kernel
theorem dX5_suits_12 : decode cX5_suits 12 = .ok (.imul, 1) := by decide +kernel
theorem dX5_suits_13 : decode cX5_suits 13 = .ok (.iload_n 1, 1) := by decide +kernel
theorem dX5_suits_14 : decode cX5_suits 14 = .ok (.iadd, 1) := by decide +kernel
theorem dX5_suits_15 : decode cX5_suits 15 = .ok (.istore_n 3, 1) := by decide +kernel
theorem dX5_suits_16 : decode cX5_suits 16 = .ok (.iload_n 2, 1) := by decide +kernel
theorem dX5_suits_17 : decode cX5_suits 17 = .ok (.getstatic 23, 3) := by decide +kernel
theorem dX5_suits_20 : decode cX5_suits 20 = .ok (.iload_n 3, 1) := by decide +kernel
theorem dX5_suits_21 : decode cX5_suits 21 = .ok (.invokestatic 27, 3) := by decide +kernel
theorem dX5_suits_24 : decode cX5_suits 24 = .ok (.if_icmp .lt 18, 3) := by decide +kernel
theorem dX5_suits_27 : decode cX5_suits 27 = .ok (.iload_n 2, 1) := by decide +kernel
theorem dX5_suits_28 : decode cX5_suits 28 = .ok (.getstatic 31, 3) := by decide +kernel
theorem dX5_suits_31 : decode cX5_suits 31 = .ok (.iload_n 3, 1) := by decide +kernel
theorem dX5_suits_32 : decode cX5_suits 32 = .ok (.invokestatic 27, 3) := by decide +kernel
theorem dX5_suits_35 : decode cX5_suits 35 = .ok (.if_icmp .gt 7, 3) := by decide +kernel
theorem dX5_suits_38 : decode cX5_suits 38 = .ok (.iconst 1, 1) := by decide +kernel
theorem dX5_suits_39 : decode cX5_suits 39 = .ok (.goto 4, 3) := by decide +kernel
theorem dX5_suits_42 : decode cX5_suits 42 = .ok (.iconst 0, 1) := by decide +kernel
theorem dX5_suits_43 : decode cX5_suits 43 = .ok (.ireturn, 1) := by decide +kernel
theorem dX5_numbers_0 : decode cX5_numbers 0 = .ok (.getstatic 34, 3) := by decide +kernel
theorem dX5_numbers_3 : decode cX5_numbers 3 = .ok (.iload_n 0, 1) := by decide +kernel
theorem dX5_numbers_4 : decode cX5_numbers 4 = .ok (.invokestatic 27, 3) := by decide +kernel
theorem dX5_numbers_7 : decode cX5_numbers 7 = .ok (.ireturn, 1) := by decide +kernel
theorem dX5_mainPlace_0 : decode cX5_mainPlace 0 = .ok (.getstatic 37, 3) := by decide +kernel
theorem dX5_mainPlace_3 : decode cX5_mainPlace 3 = .ok (.iload_n 0, 1) := by decide +kernel
theorem dX5_mainPlace_4 : decode cX5_mainPlace 4 = .ok (.invokestatic 27, 3) := by decide +kernel
theorem dX5_mainPlace_7 : decode cX5_mainPlace 7 = .ok (.ireturn, 1) := by decide +kernel
theorem dX6_init_0 : decode cX6_init 0 = .ok (.aload_n 0, 1) := by decide +kernel
theorem dX6_init_1 : decode cX6_init 1 = .ok (.invokespecial 3, 3) := by decide +kernel
theorem dX6_init_4 : decode cX6_init 4 = .ok (.aload_n 0, 1) := by decide +kernel
theorem dX6_init_5 : decode cX6_init 5 = .ok (.bipush 65, 2) := by decide +kernel
theorem dX6_init_7 : decode cX6_init 7 = .ok (.newarray .int, 2) := by decide +kernel
theorem dX6_init_9 : decode cX6_init 9 = .ok (.putfield 9, 3) := by decide +kernel
theorem dX6_init_12 : decode cX6_init 12 = .ok (.aload_n 0, 1) := by decide +kernel
theorem dX6_init_13 : decode cX6_init 13 = .ok (.bipush 65, 2) := by decide +kernel
theorem dX6_init_15 : decode cX6_init 15 = .ok (.newarray .int, 2) := by decide +kernel
theorem dX6_init_17 : decode cX6_init 17 = .ok (.putfield 15, 3) := by decide +kernel
theorem dX6_init_20 : decode cX6_init 20 = .ok (.aload_n 0, 1) := by decide +kernel
theorem dX6_init_21 : decode cX6_init 21 = .ok (.iconst 0, 1) := by decide +kernel
theorem dX6_init_22 : decode cX6_init 22 = .ok (.putfield 18, 3) := by decide +kernel
theorem dX6_init_25 : decode cX6_init 25 = .ok (.aload_n 0, 1) := by decide +kernel
theorem dX6_init_26 : decode cX6_init 26 = .ok (.iconst (-1), 1) := by decide +kernel
theorem dX6_init_27 : decode cX6_init 27 = .ok (.putfield 22, 3) := by decide +kernel
theorem dX6_init_30 : decode cX6_init 30 = .ok (.aload_n 0, 1) := by decide +kernel
theorem dX6_init_31 : decode cX6_init 31 = .ok (.iconst 0, 1) := by decide +kernel
theorem dX6_init_32 : decode cX6_init 32 = .ok (.putfield 25, 3) := by decide +kernel
theorem dX6_init_35 : decode cX6_init 35 = .ok (.aload_n 0, 1) := by decide +kernel
theorem dX6_init_36 : decode cX6_init 36 = .ok (.iconst 0, 1) := by decide +kernel
theorem dX6_init_37 : decode cX6_init 37 = .ok (.putfield 28, 3) := by decide +kernel
theorem dX6_init_40 : decode cX6_init 40 = .ok (.aload_n 0, 1) := by decide +kernel
theorem dX6_init_41 : decode cX6_init 41 = .ok (.iconst (-1), 1) := by decide +kernel
theorem dX6_init_42 : decode cX6_init 42 = .ok (.putfield 31, 3) := by decide +kernel
theorem dX6_init_45 : decode cX6_init 45 = .ok (.return_, 1) := by decide +kernel
theorem dX6_column_0 : decode cX6_column 0 = .ok (.aload_n 0, 1) := by decide +kernel
theorem dX6_column_1 : decode cX6_column 1 = .ok (.getfield 22, 3) := by decide +kernel
theorem dX6_column_4 : decode cX6_column 4 = .ok (.ireturn, 1) := by decide +kernel
theorem dX6_unlike_0 : decode cX6_unlike 0 = .ok (.aload_n 0, 1) := by decide +kernel
theorem dX6_unlike_1 : decode cX6_unlike 1 = .ok (.getfield 25, 3) := by decide +kernel
theorem dX6_unlike_4 : decode cX6_unlike 4 = .ok (.ireturn, 1) := by decide +kernel
theorem dX6_greatest_0 : decode cX6_greatest 0 = .ok (.aload_n 0, 1) := by decide +kernel
theorem dX6_greatest_1 : decode cX6_greatest 1 = .ok (.getfield 28, 3) := by decide +kernel
theorem dX6_greatest_4 : decode cX6_greatest 4 = .ok (.ireturn, 1) := by decide +kernel
theorem dX6_know_0 : decode cX6_know 0 = .ok (.aload_n 1, 1) := by decide +kernel
theorem dX6_know_1 : decode cX6_know 1 = .ok (.ifnull 14, 3) := by decide +kernel
theorem dX6_know_4 : decode cX6_know 4 = .ok (.aload_n 1, 1) := by decide +kernel
theorem dX6_know_5 : decode cX6_know 5 = .ok (.invokevirtual 34, 3) := by decide +kernel
theorem dX6_know_8 : decode cX6_know 8 = .ok (.aload_n 0, 1) := by decide +kernel
theorem dX6_know_9 : decode cX6_know 9 = .ok (.getfield 31, 3) := by decide +kernel
theorem dX6_know_12 : decode cX6_know 12 = .ok (.if_icmp .ne 4, 3) := by decide +kernel
theorem dX6_know_15 : decode cX6_know 15 = .ok (.return_, 1) := by decide +kernel
theorem dX6_know_16 : decode cX6_know 16 = .ok (.aload_n 0, 1) := by decide +kernel
theorem dX6_know_17 : decode cX6_know 17 = .ok (.iconst (-1), 1) := by decide +kernel
theorem dX6_know_18 : decode cX6_know 18 = .ok (.putfield 22, 3) := by decide +kernel
theorem dX6_know_21 : decode cX6_know 21 = .ok (.aload_n 0, 1) := by decide +kernel
theorem dX6_know_22 : decode cX6_know 22 = .ok (.iconst 0, 1) := by decide +kernel
theorem dX6_know_23 : decode cX6_know 23 = .ok (.putfield 25, 3) := by decide +kernel
theorem dX6_know_26 : decode cX6_know 26 = .ok (.aload_n 0, 1) := by decide +kernel
theorem dX6_know_27 : decode cX6_know 27 = .ok (.iconst 0, 1) := by decide +kernel
theorem dX6_know_28 : decode cX6_know 28 = .ok (.putfield 28, 3) := by decide +kernel
theorem dX6_know_31 : decode cX6_know 31 = .ok (.iconst 0, 1) := by decide +kernel
theorem dX6_know_32 : decode cX6_know 32 = .ok (.istore 4, 2) := by decide +kernel
theorem dX6_know_34 : decode cX6_know 34 = .ok (.iload 4, 2) := by decide +kernel
theorem dX6_know_36 : decode cX6_know 36 = .ok (.bipush 64, 2) := by decide +kernel
theorem dX6_know_38 : decode cX6_know 38 = .ok (.if_icmp .ge 82, 3) := by decide +kernel
theorem dX6_know_41 : decode cX6_know 41 = .ok (.aload_n 1, 1) := by decide +kernel
theorem dX6_know_42 : decode cX6_know 42 = .ok (.aload_n 2, 1) := by decide +kernel
theorem dX6_know_43 : decode cX6_know 43 = .ok (.aload_n 3, 1) := by decide +kernel
theorem dX6_know_44 : decode cX6_know 44 = .ok (.iload 4, 2) := by decide +kernel
theorem dX6_know_46 : decode cX6_know 46 = .ok (.invokevirtual 40, 3) := by decide +kernel
theorem dX6_know_49 : decode cX6_know 49 = .ok (.aload_n 0, 1) := by decide +kernel
theorem dX6_know_50 : decode cX6_know 50 = .ok (.aload_n 1, 1) := by decide +kernel
theorem dX6_know_51 : decode cX6_know 51 = .ok (.invokevirtual 44, 3) := by decide +kernel
theorem dX6_know_54 : decode cX6_know 54 = .ok (.aload_n 0, 1) := by decide +kernel
theorem dX6_know_55 : decode cX6_know 55 = .ok (.invokevirtual 48, 3) := by decide +kernel
theorem dX6_know_58 : decode cX6_know 58 = .ok (.istore 5, 2) := by decide +kernel
theorem dX6_know_60 : decode cX6_know 60 = .ok (.aload_n 0, 1) := by decide +kernel
theorem dX6_know_61 : decode cX6_know 61 = .ok (.getfield 18, 3) := by decide +kernel
theorem dX6_know_64 : decode cX6_know 64 = .ok (.aload_n 0, 1) := by decide +kernel
theorem dX6_know_65 : decode cX6_know 65 = .ok (.getfield 25, 3) := by decide +kernel
theorem dX6_know_68 : decode cX6_know 68 = .ok (.if_icmp .lt 46, 3) := by decide +kernel
theorem dX6_know_71 : decode cX6_know 71 = .ok (.aload_n 0, 1) := by decide +kernel
theorem dX6_know_72 : decode cX6_know 72 = .ok (.getfield 18, 3) := by decide +kernel
theorem dX6_know_75 : decode cX6_know 75 = .ok (.aload_n 0, 1) := by decide +kernel
theorem dX6_know_76 : decode cX6_know 76 = .ok (.getfield 25, 3) := by decide +kernel
theorem dX6_know_79 : decode cX6_know 79 = .ok (.if_icmp .ne 15, 3) := by decide +kernel
theorem dX6_know_82 : decode cX6_know 82 = .ok (.iload 5, 2) := by decide +kernel
theorem dX6_know_84 : decode cX6_know 84 = .ok (.aload_n 0, 1) := by decide +kernel
theorem dX6_know_85 : decode cX6_know 85 = .ok (.getfield 28, 3) := by decide +kernel
theorem dX6_know_88 : decode cX6_know 88 = .ok (.if_icmp .lt 6, 3) := by decide +kernel
theorem dX6_know_91 : decode cX6_know 91 = .ok (.goto 23, 3) := by decide +kernel
theorem dX6_know_94 : decode cX6_know 94 = .ok (.aload_n 0, 1) := by decide +kernel
theorem dX6_know_95 : decode cX6_know 95 = .ok (.iload 4, 2) := by decide +kernel
theorem dX6_know_97 : decode cX6_know 97 = .ok (.putfield 22, 3) := by decide +kernel
theorem dX6_know_100 : decode cX6_know 100 = .ok (.aload_n 0, 1) := by decide +kernel
theorem dX6_know_101 : decode cX6_know 101 = .ok (.aload_n 0, 1) := by decide +kernel
theorem dX6_know_102 : decode cX6_know 102 = .ok (.getfield 18, 3) := by decide +kernel
theorem dX6_know_105 : decode cX6_know 105 = .ok (.putfield 25, 3) := by decide +kernel
theorem dX6_know_108 : decode cX6_know 108 = .ok (.aload_n 0, 1) := by decide +kernel
theorem dX6_know_109 : decode cX6_know 109 = .ok (.iload 5, 2) := by decide +kernel
theorem dX6_know_111 : decode cX6_know 111 = .ok (.putfield 28, 3) := by decide +kernel
theorem dX6_know_114 : decode cX6_know 114 = .ok (.iinc 4 1, 3) := by decide +kernel
theorem dX6_know_117 : decode cX6_know 117 = .ok (.goto (-83), 3) := by decide +kernel
theorem dX6_know_120 : decode cX6_know 120 = .ok (.aload_n 0, 1) := by decide +kernel
theorem dX6_know_121 : decode cX6_know 121 = .ok (.aload_n 1, 1) := by decide +kernel
theorem dX6_know_122 : decode cX6_know 122 = .ok (.invokevirtual 34, 3) := by decide +kernel
theorem dX6_know_125 : decode cX6_know 125 = .ok (.putfield 31, 3) := by decide +kernel
theorem dX6_know_128 : decode cX6_know 128 = .ok (.return_, 1) := by decide +kernel
theorem dX6_divide_0 : decode cX6_divide 0 = .ok (.aload_n 0, 1) := by decide +kernel
theorem dX6_divide_1 : decode cX6_divide 1 = .ok (.iconst 0, 1) := by decide +kernel
theorem dX6_divide_2 : decode cX6_divide 2 = .ok (.putfield 18, 3) := by decide +kernel
theorem dX6_divide_5 : decode cX6_divide 5 = .ok (.iconst 0, 1) := by decide +kernel
theorem dX6_divide_6 : decode cX6_divide 6 = .ok (.istore_n 2, 1) := by decide +kernel
theorem dX6_divide_7 : decode cX6_divide 7 = .ok (.iload_n 2, 1) := by decide +kernel
theorem dX6_divide_8 : decode cX6_divide 8 = .ok (.aload_n 1, 1) := by decide +kernel
theorem dX6_divide_9 : decode cX6_divide 9 = .ok (.invokevirtual 51, 3) := by decide +kernel
theorem dX6_divide_12 : decode cX6_divide 12 = .ok (.if_icmp .ge 82, 3) := by decide +kernel
theorem dX6_divide_15 : decode cX6_divide 15 = .ok (.aload_n 1, 1) := by decide +kernel
theorem dX6_divide_16 : decode cX6_divide 16 = .ok (.iload_n 2, 1) := by decide +kernel
theorem dX6_divide_17 : decode cX6_divide 17 = .ok (.invokevirtual 54, 3) := by decide +kernel
theorem dX6_divide_20 : decode cX6_divide 20 = .ok (.istore_n 3, 1) := by decide +kernel
theorem dX6_divide_21 : decode cX6_divide 21 = .ok (.aload_n 0, 1) := by decide +kernel
theorem dX6_divide_22 : decode cX6_divide 22 = .ok (.aload_n 1, 1) := by decide +kernel
theorem dX6_divide_23 : decode cX6_divide 23 = .ok (.iload_n 3, 1) := by decide +kernel
theorem dX6_divide_24 : decode cX6_divide 24 = .ok (.invokevirtual 58, 3) := by decide +kernel
theorem dX6_divide_27 : decode cX6_divide 27 = .ok (.istore 4, 2) := by decide +kernel
theorem dX6_divide_29 : decode cX6_divide 29 = .ok (.iload 4, 2) := by decide +kernel
theorem dX6_divide_31 : decode cX6_divide 31 = .ok (.aload_n 0, 1) := by decide +kernel
theorem dX6_divide_32 : decode cX6_divide 32 = .ok (.getfield 18, 3) := by decide +kernel
theorem dX6_divide_35 : decode cX6_divide 35 = .ok (.if_icmp .ne 33, 3) := by decide +kernel
theorem dX6_divide_38 : decode cX6_divide 38 = .ok (.aload_n 0, 1) := by decide +kernel
theorem dX6_divide_39 : decode cX6_divide 39 = .ok (.getfield 9, 3) := by decide +kernel
theorem dX6_divide_42 : decode cX6_divide 42 = .ok (.iload 4, 2) := by decide +kernel
theorem dX6_divide_44 : decode cX6_divide 44 = .ok (.iload_n 3, 1) := by decide +kernel
theorem dX6_divide_45 : decode cX6_divide 45 = .ok (.invokestatic 62, 3) := by decide +kernel
theorem dX6_divide_48 : decode cX6_divide 48 = .ok (.aload_n 0, 1) := by decide +kernel
theorem dX6_divide_49 : decode cX6_divide 49 = .ok (.getfield 15, 3) := by decide +kernel
theorem dX6_divide_52 : decode cX6_divide 52 = .ok (.iload 4, 2) := by decide +kernel
theorem dX6_divide_54 : decode cX6_divide 54 = .ok (.iconst 0, 1) := by decide +kernel
theorem dX6_divide_55 : decode cX6_divide 55 = .ok (.invokestatic 62, 3) := by decide +kernel
theorem dX6_divide_58 : decode cX6_divide 58 = .ok (.aload_n 0, 1) := by decide +kernel
theorem dX6_divide_59 : decode cX6_divide 59 = .ok (.dup, 1) := by decide +kernel
theorem dX6_divide_60 : decode cX6_divide 60 = .ok (.getfield 18, 3) := by decide +kernel
theorem dX6_divide_63 : decode cX6_divide 63 = .ok (.iconst 1, 1) := by decide +kernel
theorem dX6_divide_64 : decode cX6_divide 64 = .ok (.iadd, 1) := by decide +kernel
theorem dX6_divide_65 : decode cX6_divide 65 = .ok (.putfield 18, 3) := by decide +kernel
theorem dX6_divide_68 : decode cX6_divide 68 = .ok (.aload_n 0, 1) := by decide +kernel
theorem dX6_divide_69 : decode cX6_divide 69 = .ok (.getfield 15, 3) := by decide +kernel
theorem dX6_divide_72 : decode cX6_divide 72 = .ok (.iload 4, 2) := by decide +kernel
theorem dX6_divide_74 : decode cX6_divide 74 = .ok (.aload_n 0, 1) := by decide +kernel
theorem dX6_divide_75 : decode cX6_divide 75 = .ok (.getfield 15, 3) := by decide +kernel
theorem dX6_divide_78 : decode cX6_divide 78 = .ok (.iload 4, 2) := by decide +kernel
theorem dX6_divide_80 : decode cX6_divide 80 = .ok (.invokestatic 66, 3) := by decide +kernel
theorem dX6_divide_83 : decode cX6_divide 83 = .ok (.iconst 1, 1) := by decide +kernel
theorem dX6_divide_84 : decode cX6_divide 84 = .ok (.iadd, 1) := by decide +kernel
theorem dX6_divide_85 : decode cX6_divide 85 = .ok (.invokestatic 62, 3) := by decide +kernel
theorem dX6_divide_88 : decode cX6_divide 88 = .ok (.iinc 2 1, 3) := by decide +kernel
theorem dX6_divide_91 : decode cX6_divide 91 = .ok (.goto (-84), 3) := by decide +kernel
theorem dX6_divide_94 : decode cX6_divide 94 = .ok (.return_, 1) := by decide +kernel
theorem dX6_setOf_0 : decode cX6_setOf 0 = .ok (.iconst 0, 1) := by decide +kernel
theorem dX6_setOf_1 : decode cX6_setOf 1 = .ok (.istore_n 3, 1) := by decide +kernel
theorem dX6_setOf_2 : decode cX6_setOf 2 = .ok (.iload_n 3, 1) := by decide +kernel
theorem dX6_setOf_3 : decode cX6_setOf 3 = .ok (.aload_n 0, 1) := by decide +kernel
theorem dX6_setOf_4 : decode cX6_setOf 4 = .ok (.getfield 18, 3) := by decide +kernel
theorem dX6_setOf_7 : decode cX6_setOf 7 = .ok (.if_icmp .ge 32, 3) := by decide +kernel
theorem dX6_setOf_10 : decode cX6_setOf 10 = .ok (.aload_n 1, 1) := by decide +kernel
theorem dX6_setOf_11 : decode cX6_setOf 11 = .ok (.aload_n 0, 1) := by decide +kernel
theorem dX6_setOf_12 : decode cX6_setOf 12 = .ok (.getfield 9, 3) := by decide +kernel
theorem dX6_setOf_15 : decode cX6_setOf 15 = .ok (.iload_n 3, 1) := by decide +kernel
theorem dX6_setOf_16 : decode cX6_setOf 16 = .ok (.invokestatic 66, 3) := by decide +kernel
theorem dX6_setOf_19 : decode cX6_setOf 19 = .ok (.invokevirtual 70, 3) := by decide +kernel
theorem dX6_setOf_22 : decode cX6_setOf 22 = .ok (.aload_n 1, 1) := by decide +kernel
theorem dX6_setOf_23 : decode cX6_setOf 23 = .ok (.iload_n 2, 1) := by decide +kernel
theorem dX6_setOf_24 : decode cX6_setOf 24 = .ok (.invokevirtual 70, 3) := by decide +kernel
theorem dX6_setOf_27 : decode cX6_setOf 27 = .ok (.invokevirtual 74, 3) := by decide +kernel
theorem dX6_setOf_30 : decode cX6_setOf 30 = .ok (.ifCond .ne 9, 3) := by decide +kernel
theorem dX6_setOf_33 : decode cX6_setOf 33 = .ok (.iinc 3 1, 3) := by decide +kernel
theorem dX6_setOf_36 : decode cX6_setOf 36 = .ok (.goto (-34), 3) := by decide +kernel
theorem dX6_setOf_39 : decode cX6_setOf 39 = .ok (.iload_n 3, 1) := by decide +kernel
theorem dX6_setOf_40 : decode cX6_setOf 40 = .ok (.ireturn, 1) := by decide +kernel
theorem dX6_mostOfSets_0 : decode cX6_mostOfSets 0 = .ok (.iconst 0, 1) := by decide +kernel
theorem dX6_mostOfSets_1 : decode cX6_mostOfSets 1 = .ok (.istore_n 1, 1) := by decide +kernel
theorem dX6_mostOfSets_2 : decode cX6_mostOfSets 2 = .ok (.iconst 0, 1) := by decide +kernel
theorem dX6_mostOfSets_3 : decode cX6_mostOfSets 3 = .ok (.istore_n 2, 1) := by decide +kernel
theorem dX6_mostOfSets_4 : decode cX6_mostOfSets 4 = .ok (.iload_n 2, 1) := by decide +kernel
theorem dX6_mostOfSets_5 : decode cX6_mostOfSets 5 = .ok (.aload_n 0, 1) := by decide +kernel
theorem dX6_mostOfSets_6 : decode cX6_mostOfSets 6 = .ok (.getfield 18, 3) := by decide +kernel
theorem dX6_mostOfSets_9 : decode cX6_mostOfSets 9 = .ok (.if_icmp .ge 22, 3) := by decide +kernel
theorem dX6_mostOfSets_12 : decode cX6_mostOfSets 12 = .ok (.iload_n 1, 1) := by decide +kernel
theorem dX6_mostOfSets_13 : decode cX6_mostOfSets 13 = .ok (.aload_n 0, 1) := by decide +kernel
theorem dX6_mostOfSets_14 : decode cX6_mostOfSets 14 = .ok (.getfield 15, 3) := by decide +kernel
theorem dX6_mostOfSets_17 : decode cX6_mostOfSets 17 = .ok (.iload_n 2, 1) := by decide +kernel
theorem dX6_mostOfSets_18 : decode cX6_mostOfSets 18 = .ok (.invokestatic 66, 3) := by decide +kernel
theorem dX6_mostOfSets_21 : decode cX6_mostOfSets 21 = .ok (.invokestatic 80, 3) := by decide +kernel
theorem dX6_mostOfSets_24 : decode cX6_mostOfSets 24 = .ok (.istore_n 1, 1) := by decide +kernel
theorem dX6_mostOfSets_25 : decode cX6_mostOfSets 25 = .ok (.iinc 2 1, 3) := by decide +kernel
theorem dX6_mostOfSets_28 : decode cX6_mostOfSets 28 = .ok (.goto (-24), 3) := by decide +kernel
theorem dX6_mostOfSets_31 : decode cX6_mostOfSets 31 = .ok (.iload_n 1, 1) := by decide +kernel
theorem dX6_mostOfSets_32 : decode cX6_mostOfSets 32 = .ok (.ireturn, 1) := by decide +kernel
theorem dX7_init_0 : decode cX7_init 0 = .ok (.aload_n 0, 1) := by decide +kernel
theorem dX7_init_1 : decode cX7_init 1 = .ok (.invokespecial 3, 3) := by decide +kernel
theorem dX7_init_4 : decode cX7_init 4 = .ok (.aload_n 0, 1) := by decide +kernel
theorem dX7_init_5 : decode cX7_init 5 = .ok (.sipush 150, 3) := by decide +kernel
theorem dX7_init_8 : decode cX7_init 8 = .ok (.newarray .int, 2) := by decide +kernel
theorem dX7_init_10 : decode cX7_init 10 = .ok (.putfield 11, 3) := by decide +kernel
theorem dX7_init_13 : decode cX7_init 13 = .ok (.aload_n 0, 1) := by decide +kernel
theorem dX7_init_14 : decode cX7_init 14 = .ok (.iconst 0, 1) := by decide +kernel
theorem dX7_init_15 : decode cX7_init 15 = .ok (.putfield 15, 3) := by decide +kernel
theorem dX7_init_18 : decode cX7_init 18 = .ok (.return_, 1) := by decide +kernel
theorem dX7_allow_0 : decode cX7_allow 0 = .ok (.iload_n 0, 1) := by decide +kernel
theorem dX7_allow_1 : decode cX7_allow 1 = .ok (.ifCond .lt 22, 3) := by decide +kernel
theorem dX7_allow_4 : decode cX7_allow 4 = .ok (.iload_n 0, 1) := by decide +kernel
theorem dX7_allow_5 : decode cX7_allow 5 = .ok (.iconst 4, 1) := by decide +kernel
theorem dX7_allow_6 : decode cX7_allow 6 = .ok (.if_icmp .gt 17, 3) := by decide +kernel
theorem dX7_allow_9 : decode cX7_allow 9 = .ok (.iload_n 1, 1) := by decide +kernel
theorem dX7_allow_10 : decode cX7_allow 10 = .ok (.invokestatic 19, 3) := by decide +kernel
theorem dX7_allow_13 : decode cX7_allow 13 = .ok (.ifCond .eq 10, 3) := by decide +kernel
theorem dX7_allow_16 : decode cX7_allow 16 = .ok (.iload_n 2, 1) := by decide +kernel
theorem dX7_allow_17 : decode cX7_allow 17 = .ok (.invokestatic 19, 3) := by decide +kernel
theorem dX7_allow_20 : decode cX7_allow 20 = .ok (.ifCond .ne 5, 3) := by decide +kernel
theorem dX7_allow_23 : decode cX7_allow 23 = .ok (.iconst 0, 1) := by decide +kernel
theorem dX7_allow_24 : decode cX7_allow 24 = .ok (.ireturn, 1) := by decide +kernel
theorem dX7_allow_25 : decode cX7_allow 25 = .ok (.iload_n 3, 1) := by decide +kernel
theorem dX7_allow_26 : decode cX7_allow 26 = .ok (.invokestatic 23, 3) := by decide +kernel
theorem dX7_allow_29 : decode cX7_allow 29 = .ok (.ifCond .ne 15, 3) := by decide +kernel
theorem dX7_allow_32 : decode cX7_allow 32 = .ok (.iload_n 3, 1) := by decide +kernel
theorem dX7_allow_33 : decode cX7_allow 33 = .ok (.iconst (-1), 1) := by decide +kernel
theorem dX7_allow_34 : decode cX7_allow 34 = .ok (.if_icmp .ne 8, 3) := by decide +kernel
theorem dX7_allow_37 : decode cX7_allow 37 = .ok (.iload_n 0, 1) := by decide +kernel
theorem dX7_allow_38 : decode cX7_allow 38 = .ok (.iconst 1, 1) := by decide +kernel
theorem dX7_allow_39 : decode cX7_allow 39 = .ok (.if_icmp .le 5, 3) := by decide +kernel
theorem dX7_allow_42 : decode cX7_allow 42 = .ok (.iconst 0, 1) := by decide +kernel
theorem dX7_allow_43 : decode cX7_allow 43 = .ok (.ireturn, 1) := by decide +kernel
theorem dX7_allow_44 : decode cX7_allow 44 = .ok (.iload_n 0, 1) := by decide +kernel
theorem dX7_allow_45 : decode cX7_allow 45 = .ok (.tableswitch 112 1 4 #[31, 37, 66, 106], 31) := by decide +kernel
theorem dX7_allow_76 : decode cX7_allow 76 = .ok (.iload 4, 2) := by decide +kernel
theorem dX7_allow_78 : decode cX7_allow 78 = .ok (.invokestatic 26, 3) := by decide +kernel
theorem dX7_allow_81 : decode cX7_allow 81 = .ok (.ireturn, 1) := by decide +kernel
theorem dX7_allow_82 : decode cX7_allow 82 = .ok (.iload 4, 2) := by decide +kernel
theorem dX7_allow_84 : decode cX7_allow 84 = .ok (.invokestatic 26, 3) := by decide +kernel
theorem dX7_allow_87 : decode cX7_allow 87 = .ok (.ifCond .eq 22, 3) := by decide +kernel
theorem dX7_allow_90 : decode cX7_allow 90 = .ok (.iload 5, 2) := by decide +kernel
theorem dX7_allow_92 : decode cX7_allow 92 = .ok (.invokestatic 26, 3) := by decide +kernel
theorem dX7_allow_95 : decode cX7_allow 95 = .ok (.ifCond .eq 14, 3) := by decide +kernel
theorem dX7_allow_98 : decode cX7_allow 98 = .ok (.iload 4, 2) := by decide +kernel
theorem dX7_allow_100 : decode cX7_allow 100 = .ok (.iload 5, 2) := by decide +kernel
theorem dX7_allow_102 : decode cX7_allow 102 = .ok (.if_icmp .gt 7, 3) := by decide +kernel
theorem dX7_allow_105 : decode cX7_allow 105 = .ok (.iconst 1, 1) := by decide +kernel
theorem dX7_allow_106 : decode cX7_allow 106 = .ok (.goto 4, 3) := by decide +kernel
theorem dX7_allow_109 : decode cX7_allow 109 = .ok (.iconst 0, 1) := by decide +kernel
theorem dX7_allow_110 : decode cX7_allow 110 = .ok (.ireturn, 1) := by decide +kernel
theorem dX7_allow_111 : decode cX7_allow 111 = .ok (.iload 4, 2) := by decide +kernel
theorem dX7_allow_113 : decode cX7_allow 113 = .ok (.invokestatic 29, 3) := by decide +kernel
theorem dX7_allow_116 : decode cX7_allow 116 = .ok (.ifCond .eq 33, 3) := by decide +kernel
theorem dX7_allow_119 : decode cX7_allow 119 = .ok (.iload 5, 2) := by decide +kernel
theorem dX7_allow_121 : decode cX7_allow 121 = .ok (.bipush (-79), 2) := by decide +kernel
theorem dX7_allow_123 : decode cX7_allow 123 = .ok (.if_icmp .lt 26, 3) := by decide +kernel
theorem dX7_allow_126 : decode cX7_allow 126 = .ok (.iload 5, 2) := by decide +kernel
theorem dX7_allow_128 : decode cX7_allow 128 = .ok (.bipush 79, 2) := by decide +kernel
theorem dX7_allow_130 : decode cX7_allow 130 = .ok (.if_icmp .gt 19, 3) := by decide +kernel
theorem dX7_allow_133 : decode cX7_allow 133 = .ok (.iload 4, 2) := by decide +kernel
theorem dX7_allow_135 : decode cX7_allow 135 = .ok (.iload_n 1, 1) := by decide +kernel
theorem dX7_allow_136 : decode cX7_allow 136 = .ok (.iload_n 2, 1) := by decide +kernel
theorem dX7_allow_137 : decode cX7_allow 137 = .ok (.invokestatic 32, 3) := by decide +kernel
theorem dX7_allow_140 : decode cX7_allow 140 = .ok (.bipush 7, 2) := by decide +kernel
theorem dX7_allow_142 : decode cX7_allow 142 = .ok (.if_icmp .ge 7, 3) := by decide +kernel
theorem dX7_allow_145 : decode cX7_allow 145 = .ok (.iconst 1, 1) := by decide +kernel
theorem dX7_allow_146 : decode cX7_allow 146 = .ok (.goto 4, 3) := by decide +kernel
theorem dX7_allow_149 : decode cX7_allow 149 = .ok (.iconst 0, 1) := by decide +kernel
theorem dX7_allow_150 : decode cX7_allow 150 = .ok (.ireturn, 1) := by decide +kernel
theorem dX7_allow_151 : decode cX7_allow 151 = .ok (.iload 4, 2) := by decide +kernel
theorem dX7_allow_153 : decode cX7_allow 153 = .ok (.invokestatic 23, 3) := by decide +kernel
theorem dX7_allow_156 : decode cX7_allow 156 = .ok (.ireturn, 1) := by decide +kernel
theorem dX7_allow_157 : decode cX7_allow 157 = .ok (.iconst 1, 1) := by decide +kernel
theorem dX7_allow_158 : decode cX7_allow 158 = .ok (.ireturn, 1) := by decide +kernel
theorem dX7_size_0 : decode cX7_size 0 = .ok (.aload_n 0, 1) := by decide +kernel
theorem dX7_size_1 : decode cX7_size 1 = .ok (.getfield 15, 3) := by decide +kernel
theorem dX7_size_4 : decode cX7_size 4 = .ok (.ireturn, 1) := by decide +kernel
theorem dX7_add_0 : decode cX7_add 0 = .ok (.aload_n 0, 1) := by decide +kernel
theorem dX7_add_1 : decode cX7_add 1 = .ok (.getfield 15, 3) := by decide +kernel
theorem dX7_add_4 : decode cX7_add 4 = .ok (.bipush 30, 2) := by decide +kernel
theorem dX7_add_6 : decode cX7_add 6 = .ok (.if_icmp .lt 4, 3) := by decide +kernel
theorem dX7_add_9 : decode cX7_add 9 = .ok (.return_, 1) := by decide +kernel
theorem dX7_add_10 : decode cX7_add 10 = .ok (.aload_n 0, 1) := by decide +kernel
theorem dX7_add_11 : decode cX7_add 11 = .ok (.getfield 15, 3) := by decide +kernel
theorem dX7_add_14 : decode cX7_add 14 = .ok (.iconst 5, 1) := by decide +kernel
theorem dX7_add_15 : decode cX7_add 15 = .ok (.imul, 1) := by decide +kernel
theorem dX7_add_16 : decode cX7_add 16 = .ok (.istore 7, 2) := by decide +kernel
theorem dX7_add_18 : decode cX7_add 18 = .ok (.aload_n 0, 1) := by decide +kernel
theorem dX7_add_19 : decode cX7_add 19 = .ok (.getfield 11, 3) := by decide +kernel
theorem dX7_add_22 : decode cX7_add 22 = .ok (.iload 7, 2) := by decide +kernel
theorem dX7_add_24 : decode cX7_add 24 = .ok (.iload_n 1, 1) := by decide +kernel
theorem dX7_add_25 : decode cX7_add 25 = .ok (.invokestatic 42, 3) := by decide +kernel
theorem dX7_add_28 : decode cX7_add 28 = .ok (.aload_n 0, 1) := by decide +kernel
theorem dX7_add_29 : decode cX7_add 29 = .ok (.getfield 11, 3) := by decide +kernel
theorem dX7_add_32 : decode cX7_add 32 = .ok (.iload 7, 2) := by decide +kernel
theorem dX7_add_34 : decode cX7_add 34 = .ok (.iconst 1, 1) := by decide +kernel
theorem dX7_add_35 : decode cX7_add 35 = .ok (.iadd, 1) := by decide +kernel
theorem dX7_add_36 : decode cX7_add 36 = .ok (.iload_n 2, 1) := by decide +kernel
theorem dX7_add_37 : decode cX7_add 37 = .ok (.iload_n 3, 1) := by decide +kernel
theorem dX7_add_38 : decode cX7_add 38 = .ok (.invokestatic 46, 3) := by decide +kernel
theorem dX7_add_41 : decode cX7_add 41 = .ok (.invokestatic 42, 3) := by decide +kernel
theorem dX7_add_44 : decode cX7_add 44 = .ok (.aload_n 0, 1) := by decide +kernel
theorem dX7_add_45 : decode cX7_add 45 = .ok (.getfield 11, 3) := by decide +kernel
theorem dX7_add_48 : decode cX7_add 48 = .ok (.iload 7, 2) := by decide +kernel
theorem dX7_add_50 : decode cX7_add 50 = .ok (.iconst 2, 1) := by decide +kernel
theorem dX7_add_51 : decode cX7_add 51 = .ok (.iadd, 1) := by decide +kernel
theorem dX7_add_52 : decode cX7_add 52 = .ok (.iload 4, 2) := by decide +kernel
theorem dX7_add_54 : decode cX7_add 54 = .ok (.invokestatic 42, 3) := by decide +kernel
theorem dX7_add_57 : decode cX7_add 57 = .ok (.aload_n 0, 1) := by decide +kernel
theorem dX7_add_58 : decode cX7_add 58 = .ok (.getfield 11, 3) := by decide +kernel
theorem dX7_add_61 : decode cX7_add 61 = .ok (.iload 7, 2) := by decide +kernel
theorem dX7_add_63 : decode cX7_add 63 = .ok (.iconst 3, 1) := by decide +kernel
theorem dX7_add_64 : decode cX7_add 64 = .ok (.iadd, 1) := by decide +kernel
theorem dX7_add_65 : decode cX7_add 65 = .ok (.iload 5, 2) := by decide +kernel
theorem dX7_add_67 : decode cX7_add 67 = .ok (.invokestatic 42, 3) := by decide +kernel
theorem dX7_add_70 : decode cX7_add 70 = .ok (.aload_n 0, 1) := by decide +kernel
theorem dX7_add_71 : decode cX7_add 71 = .ok (.getfield 11, 3) := by decide +kernel
theorem dX7_add_74 : decode cX7_add 74 = .ok (.iload 7, 2) := by decide +kernel
theorem dX7_add_76 : decode cX7_add 76 = .ok (.iconst 4, 1) := by decide +kernel
theorem dX7_add_77 : decode cX7_add 77 = .ok (.iadd, 1) := by decide +kernel
theorem dX7_add_78 : decode cX7_add 78 = .ok (.iload 6, 2) := by decide +kernel
theorem dX7_add_80 : decode cX7_add 80 = .ok (.invokestatic 42, 3) := by decide +kernel
theorem dX7_add_83 : decode cX7_add 83 = .ok (.aload_n 0, 1) := by decide +kernel
theorem dX7_add_84 : decode cX7_add 84 = .ok (.dup, 1) := by decide +kernel
theorem dX7_add_85 : decode cX7_add 85 = .ok (.getfield 15, 3) := by decide +kernel
theorem dX7_add_88 : decode cX7_add 88 = .ok (.iconst 1, 1) := by decide +kernel
theorem dX7_add_89 : decode cX7_add 89 = .ok (.iadd, 1) := by decide +kernel
theorem dX7_add_90 : decode cX7_add 90 = .ok (.putfield 15, 3) := by decide +kernel
theorem dX7_add_93 : decode cX7_add 93 = .ok (.return_, 1) := by decide +kernel
theorem dX7_kind_0 : decode cX7_kind 0 = .ok (.aload_n 0, 1) := by decide +kernel
theorem dX7_kind_1 : decode cX7_kind 1 = .ok (.getfield 11, 3) := by decide +kernel
theorem dX7_kind_4 : decode cX7_kind 4 = .ok (.iload_n 1, 1) := by decide +kernel
theorem dX7_kind_5 : decode cX7_kind 5 = .ok (.iconst 5, 1) := by decide +kernel
theorem dX7_kind_6 : decode cX7_kind 6 = .ok (.imul, 1) := by decide +kernel
theorem dX7_kind_7 : decode cX7_kind 7 = .ok (.invokestatic 50, 3) := by decide +kernel
theorem dX7_kind_10 : decode cX7_kind 10 = .ok (.ireturn, 1) := by decide +kernel
theorem dX7_column_0 : decode cX7_column 0 = .ok (.aload_n 0, 1) := by decide +kernel
theorem dX7_column_1 : decode cX7_column 1 = .ok (.getfield 11, 3) := by decide +kernel
theorem dX7_column_4 : decode cX7_column 4 = .ok (.iload_n 1, 1) := by decide +kernel
theorem dX7_column_5 : decode cX7_column 5 = .ok (.iconst 5, 1) := by decide +kernel
theorem dX7_column_6 : decode cX7_column 6 = .ok (.imul, 1) := by decide +kernel
theorem dX7_column_7 : decode cX7_column 7 = .ok (.iconst 1, 1) := by decide +kernel
theorem dX7_column_8 : decode cX7_column 8 = .ok (.iadd, 1) := by decide +kernel
theorem dX7_column_9 : decode cX7_column 9 = .ok (.invokestatic 50, 3) := by decide +kernel
theorem dX7_column_12 : decode cX7_column 12 = .ok (.ireturn, 1) := by decide +kernel
theorem dX7_bed_0 : decode cX7_bed 0 = .ok (.aload_n 0, 1) := by decide +kernel
theorem dX7_bed_1 : decode cX7_bed 1 = .ok (.getfield 11, 3) := by decide +kernel
theorem dX7_bed_4 : decode cX7_bed 4 = .ok (.iload_n 1, 1) := by decide +kernel
theorem dX7_bed_5 : decode cX7_bed 5 = .ok (.iconst 5, 1) := by decide +kernel
theorem dX7_bed_6 : decode cX7_bed 6 = .ok (.imul, 1) := by decide +kernel
theorem dX7_bed_7 : decode cX7_bed 7 = .ok (.iconst 2, 1) := by decide +kernel
theorem dX7_bed_8 : decode cX7_bed 8 = .ok (.iadd, 1) := by decide +kernel
theorem dX7_bed_9 : decode cX7_bed 9 = .ok (.invokestatic 50, 3) := by decide +kernel
theorem dX7_bed_12 : decode cX7_bed 12 = .ok (.ireturn, 1) := by decide +kernel
theorem dX7_p_0 : decode cX7_p 0 = .ok (.aload_n 0, 1) := by decide +kernel
theorem dX7_p_1 : decode cX7_p 1 = .ok (.getfield 11, 3) := by decide +kernel
theorem dX7_p_4 : decode cX7_p 4 = .ok (.iload_n 1, 1) := by decide +kernel
theorem dX7_p_5 : decode cX7_p 5 = .ok (.iconst 5, 1) := by decide +kernel
theorem dX7_p_6 : decode cX7_p 6 = .ok (.imul, 1) := by decide +kernel
theorem dX7_p_7 : decode cX7_p 7 = .ok (.iconst 3, 1) := by decide +kernel
theorem dX7_p_8 : decode cX7_p 8 = .ok (.iadd, 1) := by decide +kernel
theorem dX7_p_9 : decode cX7_p 9 = .ok (.invokestatic 50, 3) := by decide +kernel
theorem dX7_p_12 : decode cX7_p 12 = .ok (.ireturn, 1) := by decide +kernel
theorem dX7_q_0 : decode cX7_q 0 = .ok (.aload_n 0, 1) := by decide +kernel
theorem dX7_q_1 : decode cX7_q 1 = .ok (.getfield 11, 3) := by decide +kernel
theorem dX7_q_4 : decode cX7_q 4 = .ok (.iload_n 1, 1) := by decide +kernel
theorem dX7_q_5 : decode cX7_q 5 = .ok (.iconst 5, 1) := by decide +kernel
theorem dX7_q_6 : decode cX7_q 6 = .ok (.imul, 1) := by decide +kernel
theorem dX7_q_7 : decode cX7_q 7 = .ok (.iconst 4, 1) := by decide +kernel
theorem dX7_q_8 : decode cX7_q 8 = .ok (.iadd, 1) := by decide +kernel
theorem dX7_q_9 : decode cX7_q 9 = .ok (.invokestatic 50, 3) := by decide +kernel
theorem dX7_q_12 : decode cX7_q 12 = .ok (.ireturn, 1) := by decide +kernel
theorem dX7_isDip_0 : decode cX7_isDip 0 = .ok (.aload_n 0, 1) := by decide +kernel
theorem dX7_isDip_1 : decode cX7_isDip 1 = .ok (.iload_n 1, 1) := by decide +kernel
theorem dX7_isDip_2 : decode cX7_isDip 2 = .ok (.invokevirtual 54, 3) := by decide +kernel
theorem dX7_isDip_5 : decode cX7_isDip 5 = .ok (.iconst 3, 1) := by decide +kernel
theorem dX7_isDip_6 : decode cX7_isDip 6 = .ok (.if_icmp .ne 7, 3) := by decide +kernel
theorem dX7_isDip_9 : decode cX7_isDip 9 = .ok (.iconst 1, 1) := by decide +kernel
theorem dX7_isDip_10 : decode cX7_isDip 10 = .ok (.goto 4, 3) := by decide +kernel
theorem dX7_isDip_13 : decode cX7_isDip 13 = .ok (.iconst 0, 1) := by decide +kernel
theorem dX7_isDip_14 : decode cX7_isDip 14 = .ok (.ireturn, 1) := by decide +kernel
theorem dX7_nextColumn_0 : decode cX7_nextColumn 0 = .ok (.aload_n 0, 1) := by decide +kernel
theorem dX7_nextColumn_1 : decode cX7_nextColumn 1 = .ok (.iload_n 1, 1) := by decide +kernel
theorem dX7_nextColumn_2 : decode cX7_nextColumn 2 = .ok (.invokevirtual 58, 3) := by decide +kernel
theorem dX7_nextColumn_5 : decode cX7_nextColumn 5 = .ok (.ifCond .ne 9, 3) := by decide +kernel
theorem dX7_nextColumn_8 : decode cX7_nextColumn 8 = .ok (.aload_n 0, 1) := by decide +kernel
theorem dX7_nextColumn_9 : decode cX7_nextColumn 9 = .ok (.iload_n 1, 1) := by decide +kernel
theorem dX7_nextColumn_10 : decode cX7_nextColumn 10 = .ok (.invokevirtual 61, 3) := by decide +kernel
theorem dX7_nextColumn_13 : decode cX7_nextColumn 13 = .ok (.ireturn, 1) := by decide +kernel
theorem dX7_nextColumn_14 : decode cX7_nextColumn 14 = .ok (.aload_n 0, 1) := by decide +kernel
theorem dX7_nextColumn_15 : decode cX7_nextColumn 15 = .ok (.iload_n 1, 1) := by decide +kernel
theorem dX7_nextColumn_16 : decode cX7_nextColumn 16 = .ok (.invokevirtual 61, 3) := by decide +kernel
theorem dX7_nextColumn_19 : decode cX7_nextColumn 19 = .ok (.aload_n 0, 1) := by decide +kernel
theorem dX7_nextColumn_20 : decode cX7_nextColumn 20 = .ok (.iload_n 1, 1) := by decide +kernel
theorem dX7_nextColumn_21 : decode cX7_nextColumn 21 = .ok (.invokevirtual 64, 3) := by decide +kernel
theorem dX7_nextColumn_24 : decode cX7_nextColumn 24 = .ok (.ifCond .ne 7, 3) := by decide +kernel
theorem dX7_nextColumn_27 : decode cX7_nextColumn 27 = .ok (.iconst 1, 1) := by decide +kernel
theorem dX7_nextColumn_28 : decode cX7_nextColumn 28 = .ok (.goto 5, 3) := by decide +kernel
theorem dX7_nextColumn_31 : decode cX7_nextColumn 31 = .ok (.bipush 8, 2) := by decide +kernel
theorem dX7_nextColumn_33 : decode cX7_nextColumn 33 = .ok (.iadd, 1) := by decide +kernel
theorem dX7_nextColumn_34 : decode cX7_nextColumn 34 = .ok (.ireturn, 1) := by decide +kernel
theorem dX7_isMet_0 : decode cX7_isMet 0 = .ok (.aload_n 2, 1) := by decide +kernel
theorem dX7_isMet_1 : decode cX7_isMet 1 = .ok (.ifnull 7, 3) := by decide +kernel
theorem dX7_isMet_4 : decode cX7_isMet 4 = .ok (.aload_n 3, 1) := by decide +kernel
theorem dX7_isMet_5 : decode cX7_isMet 5 = .ok (.ifnonnull 5, 3) := by decide +kernel
theorem dX7_isMet_8 : decode cX7_isMet 8 = .ok (.iconst 0, 1) := by decide +kernel
theorem dX7_isMet_9 : decode cX7_isMet 9 = .ok (.ireturn, 1) := by decide +kernel
theorem dX7_isMet_10 : decode cX7_isMet 10 = .ok (.aload_n 0, 1) := by decide +kernel
theorem dX7_isMet_11 : decode cX7_isMet 11 = .ok (.iload_n 1, 1) := by decide +kernel
theorem dX7_isMet_12 : decode cX7_isMet 12 = .ok (.invokevirtual 67, 3) := by decide +kernel
theorem dX7_isMet_15 : decode cX7_isMet 15 = .ok (.istore 4, 2) := by decide +kernel
theorem dX7_isMet_17 : decode cX7_isMet 17 = .ok (.aload_n 0, 1) := by decide +kernel
theorem dX7_isMet_18 : decode cX7_isMet 18 = .ok (.iload_n 1, 1) := by decide +kernel
theorem dX7_isMet_19 : decode cX7_isMet 19 = .ok (.invokevirtual 64, 3) := by decide +kernel
theorem dX7_isMet_22 : decode cX7_isMet 22 = .ok (.istore 5, 2) := by decide +kernel
theorem dX7_isMet_24 : decode cX7_isMet 24 = .ok (.aload_n 0, 1) := by decide +kernel
theorem dX7_isMet_25 : decode cX7_isMet 25 = .ok (.iload_n 1, 1) := by decide +kernel
theorem dX7_isMet_26 : decode cX7_isMet 26 = .ok (.invokevirtual 70, 3) := by decide +kernel
theorem dX7_isMet_29 : decode cX7_isMet 29 = .ok (.istore 6, 2) := by decide +kernel
theorem dX7_isMet_31 : decode cX7_isMet 31 = .ok (.aload_n 0, 1) := by decide +kernel
theorem dX7_isMet_32 : decode cX7_isMet 32 = .ok (.iload_n 1, 1) := by decide +kernel
theorem dX7_isMet_33 : decode cX7_isMet 33 = .ok (.invokevirtual 54, 3) := by decide +kernel
theorem dX7_isMet_36 : decode cX7_isMet 36 = .ok (.tableswitch 121 0 3 #[32, 47, 64, 103], 32) := by decide +kernel
theorem dX7_isMet_68 : decode cX7_isMet 68 = .ok (.aload_n 2, 1) := by decide +kernel
theorem dX7_isMet_69 : decode cX7_isMet 69 = .ok (.invokevirtual 73, 3) := by decide +kernel
theorem dX7_isMet_72 : decode cX7_isMet 72 = .ok (.iload 4, 2) := by decide +kernel
theorem dX7_isMet_74 : decode cX7_isMet 74 = .ok (.if_icmp .ne 7, 3) := by decide +kernel
theorem dX7_isMet_77 : decode cX7_isMet 77 = .ok (.iconst 1, 1) := by decide +kernel
theorem dX7_isMet_78 : decode cX7_isMet 78 = .ok (.goto 4, 3) := by decide +kernel
theorem dX7_isMet_81 : decode cX7_isMet 81 = .ok (.iconst 0, 1) := by decide +kernel
theorem dX7_isMet_82 : decode cX7_isMet 82 = .ok (.ireturn, 1) := by decide +kernel
theorem dX7_isMet_83 : decode cX7_isMet 83 = .ok (.aload_n 2, 1) := by decide +kernel
theorem dX7_isMet_84 : decode cX7_isMet 84 = .ok (.iload 5, 2) := by decide +kernel
theorem dX7_isMet_86 : decode cX7_isMet 86 = .ok (.invokevirtual 77, 3) := by decide +kernel
theorem dX7_isMet_89 : decode cX7_isMet 89 = .ok (.iload 4, 2) := by decide +kernel
theorem dX7_isMet_91 : decode cX7_isMet 91 = .ok (.if_icmp .ne 7, 3) := by decide +kernel
theorem dX7_isMet_94 : decode cX7_isMet 94 = .ok (.iconst 1, 1) := by decide +kernel
theorem dX7_isMet_95 : decode cX7_isMet 95 = .ok (.goto 4, 3) := by decide +kernel
theorem dX7_isMet_98 : decode cX7_isMet 98 = .ok (.iconst 0, 1) := by decide +kernel
theorem dX7_isMet_99 : decode cX7_isMet 99 = .ok (.ireturn, 1) := by decide +kernel
theorem dX7_isMet_100 : decode cX7_isMet 100 = .ok (.aload_n 2, 1) := by decide +kernel
theorem dX7_isMet_101 : decode cX7_isMet 101 = .ok (.iload 4, 2) := by decide +kernel
theorem dX7_isMet_103 : decode cX7_isMet 103 = .ok (.invokevirtual 80, 3) := by decide +kernel
theorem dX7_isMet_106 : decode cX7_isMet 106 = .ok (.bipush (-41), 2) := by decide +kernel
theorem dX7_isMet_108 : decode cX7_isMet 108 = .ok (.if_icmp .eq 29, 3) := by decide +kernel
theorem dX7_isMet_111 : decode cX7_isMet 111 = .ok (.aload_n 2, 1) := by decide +kernel
theorem dX7_isMet_112 : decode cX7_isMet 112 = .ok (.iload 4, 2) := by decide +kernel
theorem dX7_isMet_114 : decode cX7_isMet 114 = .ok (.invokevirtual 80, 3) := by decide +kernel
theorem dX7_isMet_117 : decode cX7_isMet 117 = .ok (.iload 5, 2) := by decide +kernel
theorem dX7_isMet_119 : decode cX7_isMet 119 = .ok (.if_icmp .lt 18, 3) := by decide +kernel
theorem dX7_isMet_122 : decode cX7_isMet 122 = .ok (.aload_n 2, 1) := by decide +kernel
theorem dX7_isMet_123 : decode cX7_isMet 123 = .ok (.iload 4, 2) := by decide +kernel
theorem dX7_isMet_125 : decode cX7_isMet 125 = .ok (.invokevirtual 80, 3) := by decide +kernel
theorem dX7_isMet_128 : decode cX7_isMet 128 = .ok (.iload 6, 2) := by decide +kernel
theorem dX7_isMet_130 : decode cX7_isMet 130 = .ok (.if_icmp .gt 7, 3) := by decide +kernel
theorem dX7_isMet_133 : decode cX7_isMet 133 = .ok (.iconst 1, 1) := by decide +kernel
theorem dX7_isMet_134 : decode cX7_isMet 134 = .ok (.goto 4, 3) := by decide +kernel
theorem dX7_isMet_137 : decode cX7_isMet 137 = .ok (.iconst 0, 1) := by decide +kernel
theorem dX7_isMet_138 : decode cX7_isMet 138 = .ok (.ireturn, 1) := by decide +kernel
theorem dX7_isMet_139 : decode cX7_isMet 139 = .ok (.aload_n 2, 1) := by decide +kernel
theorem dX7_isMet_140 : decode cX7_isMet 140 = .ok (.iload 4, 2) := by decide +kernel
theorem dX7_isMet_142 : decode cX7_isMet 142 = .ok (.invokevirtual 80, 3) := by decide +kernel
theorem dX7_isMet_145 : decode cX7_isMet 145 = .ok (.aload_n 3, 1) := by decide +kernel
theorem dX7_isMet_146 : decode cX7_isMet 146 = .ok (.iload 4, 2) := by decide +kernel
theorem dX7_isMet_148 : decode cX7_isMet 148 = .ok (.invokevirtual 80, 3) := by decide +kernel
theorem dX7_isMet_151 : decode cX7_isMet 151 = .ok (.iload 6, 2) := by decide +kernel
theorem dX7_isMet_153 : decode cX7_isMet 153 = .ok (.invokestatic 83, 3) := by decide +kernel
theorem dX7_isMet_156 : decode cX7_isMet 156 = .ok (.ireturn, 1) := by decide +kernel
theorem dX7_isMet_157 : decode cX7_isMet 157 = .ok (.aload_n 2, 1) := by decide +kernel
theorem dX7_isMet_158 : decode cX7_isMet 158 = .ok (.iload 4, 2) := by decide +kernel
theorem dX7_isMet_160 : decode cX7_isMet 160 = .ok (.iload 5, 2) := by decide +kernel
theorem dX7_isMet_162 : decode cX7_isMet 162 = .ok (.invokevirtual 87, 3) := by decide +kernel
theorem dX7_isMet_165 : decode cX7_isMet 165 = .ok (.ireturn, 1) := by decide +kernel
theorem dX7_isDipMet_0 : decode cX7_isDipMet 0 = .ok (.iload_n 0, 1) := by decide +kernel
theorem dX7_isDipMet_1 : decode cX7_isDipMet 1 = .ok (.bipush (-41), 2) := by decide +kernel
theorem dX7_isDipMet_3 : decode cX7_isDipMet 3 = .ok (.if_icmp .eq 20, 3) := by decide +kernel
theorem dX7_isDipMet_6 : decode cX7_isDipMet 6 = .ok (.iload_n 1, 1) := by decide +kernel
theorem dX7_isDipMet_7 : decode cX7_isDipMet 7 = .ok (.bipush (-41), 2) := by decide +kernel
theorem dX7_isDipMet_9 : decode cX7_isDipMet 9 = .ok (.if_icmp .eq 14, 3) := by decide +kernel
theorem dX7_isDipMet_12 : decode cX7_isDipMet 12 = .ok (.iload_n 1, 1) := by decide +kernel
theorem dX7_isDipMet_13 : decode cX7_isDipMet 13 = .ok (.iload_n 0, 1) := by decide +kernel
theorem dX7_isDipMet_14 : decode cX7_isDipMet 14 = .ok (.isub, 1) := by decide +kernel
theorem dX7_isDipMet_15 : decode cX7_isDipMet 15 = .ok (.iload_n 2, 1) := by decide +kernel
theorem dX7_isDipMet_16 : decode cX7_isDipMet 16 = .ok (.if_icmp .ne 7, 3) := by decide +kernel
theorem dX7_isDipMet_19 : decode cX7_isDipMet 19 = .ok (.iconst 1, 1) := by decide +kernel
theorem dX7_isDipMet_20 : decode cX7_isDipMet 20 = .ok (.goto 4, 3) := by decide +kernel
theorem dX7_isDipMet_23 : decode cX7_isDipMet 23 = .ok (.iconst 0, 1) := by decide +kernel
theorem dX7_isDipMet_24 : decode cX7_isDipMet 24 = .ok (.ireturn, 1) := by decide +kernel
theorem dX7_isMetBy_0 : decode cX7_isMetBy 0 = .ok (.aload_n 1, 1) := by decide +kernel
theorem dX7_isMetBy_1 : decode cX7_isMetBy 1 = .ok (.ifnull 33, 3) := by decide +kernel
theorem dX7_isMetBy_4 : decode cX7_isMetBy 4 = .ok (.aload_n 0, 1) := by decide +kernel
theorem dX7_isMetBy_5 : decode cX7_isMetBy 5 = .ok (.iload_n 2, 1) := by decide +kernel
theorem dX7_isMetBy_6 : decode cX7_isMetBy 6 = .ok (.aload_n 1, 1) := by decide +kernel
theorem dX7_isMetBy_7 : decode cX7_isMetBy 7 = .ok (.aload_n 0, 1) := by decide +kernel
theorem dX7_isMetBy_8 : decode cX7_isMetBy 8 = .ok (.iload_n 2, 1) := by decide +kernel
theorem dX7_isMetBy_9 : decode cX7_isMetBy 9 = .ok (.invokevirtual 61, 3) := by decide +kernel
theorem dX7_isMetBy_12 : decode cX7_isMetBy 12 = .ok (.invokevirtual 90, 3) := by decide +kernel
theorem dX7_isMetBy_15 : decode cX7_isMetBy 15 = .ok (.aload_n 1, 1) := by decide +kernel
theorem dX7_isMetBy_16 : decode cX7_isMetBy 16 = .ok (.aload_n 0, 1) := by decide +kernel
theorem dX7_isMetBy_17 : decode cX7_isMetBy 17 = .ok (.iload_n 2, 1) := by decide +kernel
theorem dX7_isMetBy_18 : decode cX7_isMetBy 18 = .ok (.invokevirtual 96, 3) := by decide +kernel
theorem dX7_isMetBy_21 : decode cX7_isMetBy 21 = .ok (.invokevirtual 90, 3) := by decide +kernel
theorem dX7_isMetBy_24 : decode cX7_isMetBy 24 = .ok (.invokevirtual 99, 3) := by decide +kernel
theorem dX7_isMetBy_27 : decode cX7_isMetBy 27 = .ok (.ifCond .eq 7, 3) := by decide +kernel
theorem dX7_isMetBy_30 : decode cX7_isMetBy 30 = .ok (.iconst 1, 1) := by decide +kernel
theorem dX7_isMetBy_31 : decode cX7_isMetBy 31 = .ok (.goto 4, 3) := by decide +kernel
theorem dX7_isMetBy_34 : decode cX7_isMetBy 34 = .ok (.iconst 0, 1) := by decide +kernel
theorem dX7_isMetBy_35 : decode cX7_isMetBy 35 = .ok (.ireturn, 1) := by decide +kernel
theorem dX7_unmetOf_0 : decode cX7_unmetOf 0 = .ok (.iconst 0, 1) := by decide +kernel
theorem dX7_unmetOf_1 : decode cX7_unmetOf 1 = .ok (.istore_n 2, 1) := by decide +kernel
theorem dX7_unmetOf_2 : decode cX7_unmetOf 2 = .ok (.iconst 0, 1) := by decide +kernel
theorem dX7_unmetOf_3 : decode cX7_unmetOf 3 = .ok (.istore_n 3, 1) := by decide +kernel
theorem dX7_unmetOf_4 : decode cX7_unmetOf 4 = .ok (.iload_n 3, 1) := by decide +kernel
theorem dX7_unmetOf_5 : decode cX7_unmetOf 5 = .ok (.aload_n 0, 1) := by decide +kernel
theorem dX7_unmetOf_6 : decode cX7_unmetOf 6 = .ok (.getfield 15, 3) := by decide +kernel
theorem dX7_unmetOf_9 : decode cX7_unmetOf 9 = .ok (.if_icmp .ge 21, 3) := by decide +kernel
theorem dX7_unmetOf_12 : decode cX7_unmetOf 12 = .ok (.aload_n 0, 1) := by decide +kernel
theorem dX7_unmetOf_13 : decode cX7_unmetOf 13 = .ok (.aload_n 1, 1) := by decide +kernel
theorem dX7_unmetOf_14 : decode cX7_unmetOf 14 = .ok (.iload_n 3, 1) := by decide +kernel
theorem dX7_unmetOf_15 : decode cX7_unmetOf 15 = .ok (.invokevirtual 103, 3) := by decide +kernel
theorem dX7_unmetOf_18 : decode cX7_unmetOf 18 = .ok (.ifCond .ne 6, 3) := by decide +kernel
theorem dX7_unmetOf_21 : decode cX7_unmetOf 21 = .ok (.iinc 2 1, 3) := by decide +kernel
theorem dX7_unmetOf_24 : decode cX7_unmetOf 24 = .ok (.iinc 3 1, 3) := by decide +kernel
theorem dX7_unmetOf_27 : decode cX7_unmetOf 27 = .ok (.goto (-23), 3) := by decide +kernel
theorem dX7_unmetOf_30 : decode cX7_unmetOf 30 = .ok (.iload_n 2, 1) := by decide +kernel
theorem dX7_unmetOf_31 : decode cX7_unmetOf 31 = .ok (.ireturn, 1) := by decide +kernel
theorem dX8_init_0 : decode cX8_init 0 = .ok (.aload_n 0, 1) := by decide +kernel
theorem dX8_init_1 : decode cX8_init 1 = .ok (.invokespecial 3, 3) := by decide +kernel
theorem dX8_init_4 : decode cX8_init 4 = .ok (.aload_n 0, 1) := by decide +kernel
theorem dX8_init_5 : decode cX8_init 5 = .ok (.bipush 112, 2) := by decide +kernel
theorem dX8_init_7 : decode cX8_init 7 = .ok (.newarray .int, 2) := by decide +kernel
theorem dX8_init_9 : decode cX8_init 9 = .ok (.putfield 11, 3) := by decide +kernel
theorem dX8_init_12 : decode cX8_init 12 = .ok (.aload_n 0, 1) := by decide +kernel
theorem dX8_init_13 : decode cX8_init 13 = .ok (.bipush 7, 2) := by decide +kernel
theorem dX8_init_15 : decode cX8_init 15 = .ok (.newarray .int, 2) := by decide +kernel
theorem dX8_init_17 : decode cX8_init 17 = .ok (.putfield 15, 3) := by decide +kernel
theorem dX8_init_20 : decode cX8_init 20 = .ok (.aload_n 0, 1) := by decide +kernel
theorem dX8_init_21 : decode cX8_init 21 = .ok (.iconst 0, 1) := by decide +kernel
theorem dX8_init_22 : decode cX8_init 22 = .ok (.putfield 18, 3) := by decide +kernel
theorem dX8_init_25 : decode cX8_init 25 = .ok (.return_, 1) := by decide +kernel
theorem dX8_size_0 : decode cX8_size 0 = .ok (.aload_n 0, 1) := by decide +kernel
theorem dX8_size_1 : decode cX8_size 1 = .ok (.getfield 18, 3) := by decide +kernel
theorem dX8_size_4 : decode cX8_size 4 = .ok (.ireturn, 1) := by decide +kernel
theorem dX8_has_0 : decode cX8_has 0 = .ok (.iload_n 1, 1) := by decide +kernel
theorem dX8_has_1 : decode cX8_has 1 = .ok (.aload_n 0, 1) := by decide +kernel
theorem dX8_has_2 : decode cX8_has 2 = .ok (.getfield 18, 3) := by decide +kernel
theorem dX8_has_5 : decode cX8_has 5 = .ok (.invokestatic 22, 3) := by decide +kernel
theorem dX8_has_8 : decode cX8_has 8 = .ok (.ireturn, 1) := by decide +kernel
theorem dX8_kind_0 : decode cX8_kind 0 = .ok (.aload_n 0, 1) := by decide +kernel
theorem dX8_kind_1 : decode cX8_kind 1 = .ok (.getfield 11, 3) := by decide +kernel
theorem dX8_kind_4 : decode cX8_kind 4 = .ok (.iload_n 1, 1) := by decide +kernel
theorem dX8_kind_5 : decode cX8_kind 5 = .ok (.bipush 7, 2) := by decide +kernel
theorem dX8_kind_7 : decode cX8_kind 7 = .ok (.imul, 1) := by decide +kernel
theorem dX8_kind_8 : decode cX8_kind 8 = .ok (.invokestatic 26, 3) := by decide +kernel
theorem dX8_kind_11 : decode cX8_kind 11 = .ok (.ireturn, 1) := by decide +kernel
theorem dX8_number_0 : decode cX8_number 0 = .ok (.aload_n 0, 1) := by decide +kernel
theorem dX8_number_1 : decode cX8_number 1 = .ok (.getfield 11, 3) := by decide +kernel
theorem dX8_number_4 : decode cX8_number 4 = .ok (.iload_n 1, 1) := by decide +kernel
theorem dX8_number_5 : decode cX8_number 5 = .ok (.bipush 7, 2) := by decide +kernel
theorem dX8_number_7 : decode cX8_number 7 = .ok (.imul, 1) := by decide +kernel
theorem dX8_number_8 : decode cX8_number 8 = .ok (.iconst 1, 1) := by decide +kernel
theorem dX8_number_9 : decode cX8_number 9 = .ok (.iadd, 1) := by decide +kernel
theorem dX8_number_10 : decode cX8_number 10 = .ok (.iload_n 2, 1) := by decide +kernel
theorem dX8_number_11 : decode cX8_number 11 = .ok (.iadd, 1) := by decide +kernel
theorem dX8_number_12 : decode cX8_number 12 = .ok (.invokestatic 26, 3) := by decide +kernel
theorem dX8_number_15 : decode cX8_number 15 = .ok (.ireturn, 1) := by decide +kernel
theorem dX8_setNumber_0 : decode cX8_setNumber 0 = .ok (.aload_n 0, 1) := by decide +kernel
theorem dX8_setNumber_1 : decode cX8_setNumber 1 = .ok (.getfield 11, 3) := by decide +kernel
theorem dX8_setNumber_4 : decode cX8_setNumber 4 = .ok (.iload_n 1, 1) := by decide +kernel
theorem dX8_setNumber_5 : decode cX8_setNumber 5 = .ok (.bipush 7, 2) := by decide +kernel
theorem dX8_setNumber_7 : decode cX8_setNumber 7 = .ok (.imul, 1) := by decide +kernel
theorem dX8_setNumber_8 : decode cX8_setNumber 8 = .ok (.iconst 1, 1) := by decide +kernel
theorem dX8_setNumber_9 : decode cX8_setNumber 9 = .ok (.iadd, 1) := by decide +kernel
theorem dX8_setNumber_10 : decode cX8_setNumber 10 = .ok (.iload_n 2, 1) := by decide +kernel
theorem dX8_setNumber_11 : decode cX8_setNumber 11 = .ok (.iadd, 1) := by decide +kernel
theorem dX8_setNumber_12 : decode cX8_setNumber 12 = .ok (.iload_n 3, 1) := by decide +kernel
theorem dX8_setNumber_13 : decode cX8_setNumber 13 = .ok (.invokestatic 30, 3) := by decide +kernel
theorem dX8_setNumber_16 : decode cX8_setNumber 16 = .ok (.return_, 1) := by decide +kernel
theorem dX8_isLoose_0 : decode cX8_isLoose 0 = .ok (.aload_n 0, 1) := by decide +kernel
theorem dX8_isLoose_1 : decode cX8_isLoose 1 = .ok (.getfield 11, 3) := by decide +kernel
theorem dX8_isLoose_4 : decode cX8_isLoose 4 = .ok (.iload_n 1, 1) := by decide +kernel
theorem dX8_isLoose_5 : decode cX8_isLoose 5 = .ok (.bipush 7, 2) := by decide +kernel
theorem dX8_isLoose_7 : decode cX8_isLoose 7 = .ok (.imul, 1) := by decide +kernel
theorem dX8_isLoose_8 : decode cX8_isLoose 8 = .ok (.bipush 6, 2) := by decide +kernel
theorem dX8_isLoose_10 : decode cX8_isLoose 10 = .ok (.iadd, 1) := by decide +kernel
theorem dX8_isLoose_11 : decode cX8_isLoose 11 = .ok (.invokestatic 26, 3) := by decide +kernel
theorem dX8_isLoose_14 : decode cX8_isLoose 14 = .ok (.ifCond .eq 7, 3) := by decide +kernel
theorem dX8_isLoose_17 : decode cX8_isLoose 17 = .ok (.iconst 1, 1) := by decide +kernel
theorem dX8_isLoose_18 : decode cX8_isLoose 18 = .ok (.goto 4, 3) := by decide +kernel
theorem dX8_isLoose_21 : decode cX8_isLoose 21 = .ok (.iconst 0, 1) := by decide +kernel
theorem dX8_isLoose_22 : decode cX8_isLoose 22 = .ok (.ireturn, 1) := by decide +kernel
theorem dX8_setLoose_0 : decode cX8_setLoose 0 = .ok (.aload_n 0, 1) := by decide +kernel
theorem dX8_setLoose_1 : decode cX8_setLoose 1 = .ok (.getfield 11, 3) := by decide +kernel
theorem dX8_setLoose_4 : decode cX8_setLoose 4 = .ok (.iload_n 1, 1) := by decide +kernel
theorem dX8_setLoose_5 : decode cX8_setLoose 5 = .ok (.bipush 7, 2) := by decide +kernel
theorem dX8_setLoose_7 : decode cX8_setLoose 7 = .ok (.imul, 1) := by decide +kernel
theorem dX8_setLoose_8 : decode cX8_setLoose 8 = .ok (.bipush 6, 2) := by decide +kernel
theorem dX8_setLoose_10 : decode cX8_setLoose 10 = .ok (.iadd, 1) := by decide +kernel
theorem dX8_setLoose_11 : decode cX8_setLoose 11 = .ok (.iload_n 2, 1) := by decide +kernel
theorem dX8_setLoose_12 : decode cX8_setLoose 12 = .ok (.invokestatic 34, 3) := by decide +kernel
theorem dX8_setLoose_15 : decode cX8_setLoose 15 = .ok (.invokestatic 30, 3) := by decide +kernel
theorem dX8_setLoose_18 : decode cX8_setLoose 18 = .ok (.return_, 1) := by decide +kernel
theorem dX8_looseOnes_0 : decode cX8_looseOnes 0 = .ok (.iconst 0, 1) := by decide +kernel
theorem dX8_looseOnes_1 : decode cX8_looseOnes 1 = .ok (.istore_n 1, 1) := by decide +kernel
theorem dX8_looseOnes_2 : decode cX8_looseOnes 2 = .ok (.iconst 0, 1) := by decide +kernel
theorem dX8_looseOnes_3 : decode cX8_looseOnes 3 = .ok (.istore_n 2, 1) := by decide +kernel
theorem dX8_looseOnes_4 : decode cX8_looseOnes 4 = .ok (.iload_n 2, 1) := by decide +kernel
theorem dX8_looseOnes_5 : decode cX8_looseOnes 5 = .ok (.aload_n 0, 1) := by decide +kernel
theorem dX8_looseOnes_6 : decode cX8_looseOnes 6 = .ok (.getfield 18, 3) := by decide +kernel
theorem dX8_looseOnes_9 : decode cX8_looseOnes 9 = .ok (.if_icmp .ge 20, 3) := by decide +kernel
theorem dX8_looseOnes_12 : decode cX8_looseOnes 12 = .ok (.aload_n 0, 1) := by decide +kernel
theorem dX8_looseOnes_13 : decode cX8_looseOnes 13 = .ok (.iload_n 2, 1) := by decide +kernel
theorem dX8_looseOnes_14 : decode cX8_looseOnes 14 = .ok (.invokevirtual 38, 3) := by decide +kernel
theorem dX8_looseOnes_17 : decode cX8_looseOnes 17 = .ok (.ifCond .eq 6, 3) := by decide +kernel
theorem dX8_looseOnes_20 : decode cX8_looseOnes 20 = .ok (.iinc 1 1, 3) := by decide +kernel
theorem dX8_looseOnes_23 : decode cX8_looseOnes 23 = .ok (.iinc 2 1, 3) := by decide +kernel
theorem dX8_looseOnes_26 : decode cX8_looseOnes 26 = .ok (.goto (-22), 3) := by decide +kernel
theorem dX8_looseOnes_29 : decode cX8_looseOnes 29 = .ok (.iload_n 1, 1) := by decide +kernel
theorem dX8_looseOnes_30 : decode cX8_looseOnes 30 = .ok (.ireturn, 1) := by decide +kernel
theorem dX8_add_0 : decode cX8_add 0 = .ok (.aload_n 0, 1) := by decide +kernel
theorem dX8_add_1 : decode cX8_add 1 = .ok (.getfield 18, 3) := by decide +kernel
theorem dX8_add_4 : decode cX8_add 4 = .ok (.bipush 16, 2) := by decide +kernel
theorem dX8_add_6 : decode cX8_add 6 = .ok (.if_icmp .lt 4, 3) := by decide +kernel
theorem dX8_add_9 : decode cX8_add 9 = .ok (.return_, 1) := by decide +kernel
theorem dX8_add_10 : decode cX8_add 10 = .ok (.iload_n 1, 1) := by decide +kernel
theorem dX8_add_11 : decode cX8_add 11 = .ok (.invokestatic 42, 3) := by decide +kernel
theorem dX8_add_14 : decode cX8_add 14 = .ok (.istore 7, 2) := by decide +kernel
theorem dX8_add_16 : decode cX8_add 16 = .ok (.aload_n 0, 1) := by decide +kernel
theorem dX8_add_17 : decode cX8_add 17 = .ok (.getfield 18, 3) := by decide +kernel
theorem dX8_add_20 : decode cX8_add 20 = .ok (.bipush 7, 2) := by decide +kernel
theorem dX8_add_22 : decode cX8_add 22 = .ok (.imul, 1) := by decide +kernel
theorem dX8_add_23 : decode cX8_add 23 = .ok (.istore 8, 2) := by decide +kernel
theorem dX8_add_25 : decode cX8_add 25 = .ok (.aload_n 0, 1) := by decide +kernel
theorem dX8_add_26 : decode cX8_add 26 = .ok (.getfield 11, 3) := by decide +kernel
theorem dX8_add_29 : decode cX8_add 29 = .ok (.iload 8, 2) := by decide +kernel
theorem dX8_add_31 : decode cX8_add 31 = .ok (.iload 8, 2) := by decide +kernel
theorem dX8_add_33 : decode cX8_add 33 = .ok (.bipush 7, 2) := by decide +kernel
theorem dX8_add_35 : decode cX8_add 35 = .ok (.iadd, 1) := by decide +kernel
theorem dX8_add_36 : decode cX8_add 36 = .ok (.iconst 0, 1) := by decide +kernel
theorem dX8_add_37 : decode cX8_add 37 = .ok (.invokestatic 48, 3) := by decide +kernel
theorem dX8_add_40 : decode cX8_add 40 = .ok (.aload_n 0, 1) := by decide +kernel
theorem dX8_add_41 : decode cX8_add 41 = .ok (.getfield 11, 3) := by decide +kernel
theorem dX8_add_44 : decode cX8_add 44 = .ok (.iload 8, 2) := by decide +kernel
theorem dX8_add_46 : decode cX8_add 46 = .ok (.iload_n 1, 1) := by decide +kernel
theorem dX8_add_47 : decode cX8_add 47 = .ok (.invokestatic 30, 3) := by decide +kernel
theorem dX8_add_50 : decode cX8_add 50 = .ok (.iload 7, 2) := by decide +kernel
theorem dX8_add_52 : decode cX8_add 52 = .ok (.ifCond .le 13, 3) := by decide +kernel
theorem dX8_add_55 : decode cX8_add 55 = .ok (.aload_n 0, 1) := by decide +kernel
theorem dX8_add_56 : decode cX8_add 56 = .ok (.aload_n 0, 1) := by decide +kernel
theorem dX8_add_57 : decode cX8_add 57 = .ok (.getfield 18, 3) := by decide +kernel
theorem dX8_add_60 : decode cX8_add 60 = .ok (.iconst 0, 1) := by decide +kernel
theorem dX8_add_61 : decode cX8_add 61 = .ok (.iload_n 2, 1) := by decide +kernel
theorem dX8_add_62 : decode cX8_add 62 = .ok (.invokevirtual 52, 3) := by decide +kernel
theorem dX8_add_65 : decode cX8_add 65 = .ok (.iload 7, 2) := by decide +kernel
theorem dX8_add_67 : decode cX8_add 67 = .ok (.iconst 1, 1) := by decide +kernel
theorem dX8_add_68 : decode cX8_add 68 = .ok (.if_icmp .le 13, 3) := by decide +kernel
theorem dX8_add_71 : decode cX8_add 71 = .ok (.aload_n 0, 1) := by decide +kernel
theorem dX8_add_72 : decode cX8_add 72 = .ok (.aload_n 0, 1) := by decide +kernel
theorem dX8_add_73 : decode cX8_add 73 = .ok (.getfield 18, 3) := by decide +kernel
theorem dX8_add_76 : decode cX8_add 76 = .ok (.iconst 1, 1) := by decide +kernel
theorem dX8_add_77 : decode cX8_add 77 = .ok (.iload_n 3, 1) := by decide +kernel
theorem dX8_add_78 : decode cX8_add 78 = .ok (.invokevirtual 52, 3) := by decide +kernel
theorem dX8_add_81 : decode cX8_add 81 = .ok (.iload 7, 2) := by decide +kernel
theorem dX8_add_83 : decode cX8_add 83 = .ok (.iconst 2, 1) := by decide +kernel
theorem dX8_add_84 : decode cX8_add 84 = .ok (.if_icmp .le 14, 3) := by decide +kernel
theorem dX8_add_87 : decode cX8_add 87 = .ok (.aload_n 0, 1) := by decide +kernel
theorem dX8_add_88 : decode cX8_add 88 = .ok (.aload_n 0, 1) := by decide +kernel
theorem dX8_add_89 : decode cX8_add 89 = .ok (.getfield 18, 3) := by decide +kernel
theorem dX8_add_92 : decode cX8_add 92 = .ok (.iconst 2, 1) := by decide +kernel
theorem dX8_add_93 : decode cX8_add 93 = .ok (.iload 4, 2) := by decide +kernel
theorem dX8_add_95 : decode cX8_add 95 = .ok (.invokevirtual 52, 3) := by decide +kernel
theorem dX8_add_98 : decode cX8_add 98 = .ok (.iload 7, 2) := by decide +kernel
theorem dX8_add_100 : decode cX8_add 100 = .ok (.iconst 3, 1) := by decide +kernel
theorem dX8_add_101 : decode cX8_add 101 = .ok (.if_icmp .le 14, 3) := by decide +kernel
theorem dX8_add_104 : decode cX8_add 104 = .ok (.aload_n 0, 1) := by decide +kernel
theorem dX8_add_105 : decode cX8_add 105 = .ok (.aload_n 0, 1) := by decide +kernel
theorem dX8_add_106 : decode cX8_add 106 = .ok (.getfield 18, 3) := by decide +kernel
theorem dX8_add_109 : decode cX8_add 109 = .ok (.iconst 3, 1) := by decide +kernel
theorem dX8_add_110 : decode cX8_add 110 = .ok (.iload 5, 2) := by decide +kernel
theorem dX8_add_112 : decode cX8_add 112 = .ok (.invokevirtual 52, 3) := by decide +kernel
theorem dX8_add_115 : decode cX8_add 115 = .ok (.iload 7, 2) := by decide +kernel
theorem dX8_add_117 : decode cX8_add 117 = .ok (.iconst 4, 1) := by decide +kernel
theorem dX8_add_118 : decode cX8_add 118 = .ok (.if_icmp .le 14, 3) := by decide +kernel
theorem dX8_add_121 : decode cX8_add 121 = .ok (.aload_n 0, 1) := by decide +kernel
theorem dX8_add_122 : decode cX8_add 122 = .ok (.aload_n 0, 1) := by decide +kernel
theorem dX8_add_123 : decode cX8_add 123 = .ok (.getfield 18, 3) := by decide +kernel
theorem dX8_add_126 : decode cX8_add 126 = .ok (.iconst 4, 1) := by decide +kernel
theorem dX8_add_127 : decode cX8_add 127 = .ok (.iload 6, 2) := by decide +kernel
theorem dX8_add_129 : decode cX8_add 129 = .ok (.invokevirtual 52, 3) := by decide +kernel
theorem dX8_add_132 : decode cX8_add 132 = .ok (.aload_n 0, 1) := by decide +kernel
theorem dX8_add_133 : decode cX8_add 133 = .ok (.dup, 1) := by decide +kernel
theorem dX8_add_134 : decode cX8_add 134 = .ok (.getfield 18, 3) := by decide +kernel
theorem dX8_add_137 : decode cX8_add 137 = .ok (.iconst 1, 1) := by decide +kernel
theorem dX8_add_138 : decode cX8_add 138 = .ok (.iadd, 1) := by decide +kernel
theorem dX8_add_139 : decode cX8_add 139 = .ok (.putfield 18, 3) := by decide +kernel
theorem dX8_add_142 : decode cX8_add 142 = .ok (.return_, 1) := by decide +kernel
theorem dX8_addFrom_0 : decode cX8_addFrom 0 = .ok (.aload_n 1, 1) := by decide +kernel
theorem dX8_addFrom_1 : decode cX8_addFrom 1 = .ok (.ifnull 11, 3) := by decide +kernel
theorem dX8_addFrom_4 : decode cX8_addFrom 4 = .ok (.aload_n 1, 1) := by decide +kernel
theorem dX8_addFrom_5 : decode cX8_addFrom 5 = .ok (.iload_n 2, 1) := by decide +kernel
theorem dX8_addFrom_6 : decode cX8_addFrom 6 = .ok (.invokevirtual 56, 3) := by decide +kernel
theorem dX8_addFrom_9 : decode cX8_addFrom 9 = .ok (.ifCond .ne 4, 3) := by decide +kernel
theorem dX8_addFrom_12 : decode cX8_addFrom 12 = .ok (.return_, 1) := by decide +kernel
theorem dX8_addFrom_13 : decode cX8_addFrom 13 = .ok (.aload_n 0, 1) := by decide +kernel
theorem dX8_addFrom_14 : decode cX8_addFrom 14 = .ok (.aload_n 1, 1) := by decide +kernel
theorem dX8_addFrom_15 : decode cX8_addFrom 15 = .ok (.iload_n 2, 1) := by decide +kernel
theorem dX8_addFrom_16 : decode cX8_addFrom 16 = .ok (.invokevirtual 59, 3) := by decide +kernel
theorem dX8_addFrom_19 : decode cX8_addFrom 19 = .ok (.aload_n 1, 1) := by decide +kernel
theorem dX8_addFrom_20 : decode cX8_addFrom 20 = .ok (.iload_n 2, 1) := by decide +kernel
theorem dX8_addFrom_21 : decode cX8_addFrom 21 = .ok (.iconst 0, 1) := by decide +kernel
theorem dX8_addFrom_22 : decode cX8_addFrom 22 = .ok (.invokevirtual 62, 3) := by decide +kernel
theorem dX8_addFrom_25 : decode cX8_addFrom 25 = .ok (.aload_n 1, 1) := by decide +kernel
theorem dX8_addFrom_26 : decode cX8_addFrom 26 = .ok (.iload_n 2, 1) := by decide +kernel
theorem dX8_addFrom_27 : decode cX8_addFrom 27 = .ok (.iconst 1, 1) := by decide +kernel
theorem dX8_addFrom_28 : decode cX8_addFrom 28 = .ok (.invokevirtual 62, 3) := by decide +kernel
theorem dX8_addFrom_31 : decode cX8_addFrom 31 = .ok (.aload_n 1, 1) := by decide +kernel
theorem dX8_addFrom_32 : decode cX8_addFrom 32 = .ok (.iload_n 2, 1) := by decide +kernel
theorem dX8_addFrom_33 : decode cX8_addFrom 33 = .ok (.iconst 2, 1) := by decide +kernel
theorem dX8_addFrom_34 : decode cX8_addFrom 34 = .ok (.invokevirtual 62, 3) := by decide +kernel
theorem dX8_addFrom_37 : decode cX8_addFrom 37 = .ok (.aload_n 1, 1) := by decide +kernel
theorem dX8_addFrom_38 : decode cX8_addFrom 38 = .ok (.iload_n 2, 1) := by decide +kernel
theorem dX8_addFrom_39 : decode cX8_addFrom 39 = .ok (.iconst 3, 1) := by decide +kernel
theorem dX8_addFrom_40 : decode cX8_addFrom 40 = .ok (.invokevirtual 62, 3) := by decide +kernel
theorem dX8_addFrom_43 : decode cX8_addFrom 43 = .ok (.aload_n 1, 1) := by decide +kernel
theorem dX8_addFrom_44 : decode cX8_addFrom 44 = .ok (.iload_n 2, 1) := by decide +kernel
theorem dX8_addFrom_45 : decode cX8_addFrom 45 = .ok (.iconst 4, 1) := by decide +kernel
theorem dX8_addFrom_46 : decode cX8_addFrom 46 = .ok (.invokevirtual 62, 3) := by decide +kernel
theorem dX8_addFrom_49 : decode cX8_addFrom 49 = .ok (.invokevirtual 66, 3) := by decide +kernel
theorem dX8_addFrom_52 : decode cX8_addFrom 52 = .ok (.return_, 1) := by decide +kernel
theorem dX8_become_0 : decode cX8_become 0 = .ok (.aload_n 1, 1) := by decide +kernel
theorem dX8_become_1 : decode cX8_become 1 = .ok (.ifnonnull 4, 3) := by decide +kernel
theorem dX8_become_4 : decode cX8_become 4 = .ok (.return_, 1) := by decide +kernel
theorem dX8_become_5 : decode cX8_become 5 = .ok (.aload_n 1, 1) := by decide +kernel
theorem dX8_become_6 : decode cX8_become 6 = .ok (.getfield 11, 3) := by decide +kernel
theorem dX8_become_9 : decode cX8_become 9 = .ok (.iconst 0, 1) := by decide +kernel
theorem dX8_become_10 : decode cX8_become 10 = .ok (.aload_n 0, 1) := by decide +kernel
theorem dX8_become_11 : decode cX8_become 11 = .ok (.getfield 11, 3) := by decide +kernel
theorem dX8_become_14 : decode cX8_become 14 = .ok (.iconst 0, 1) := by decide +kernel
theorem dX8_become_15 : decode cX8_become 15 = .ok (.aload_n 0, 1) := by decide +kernel
theorem dX8_become_16 : decode cX8_become 16 = .ok (.getfield 11, 3) := by decide +kernel
theorem dX8_become_19 : decode cX8_become 19 = .ok (.arraylength, 1) := by decide +kernel
theorem dX8_become_20 : decode cX8_become 20 = .ok (.invokestatic 70, 3) := by decide +kernel
theorem dX8_become_23 : decode cX8_become 23 = .ok (.aload_n 0, 1) := by decide +kernel
theorem dX8_become_24 : decode cX8_become 24 = .ok (.aload_n 1, 1) := by decide +kernel
theorem dX8_become_25 : decode cX8_become 25 = .ok (.getfield 18, 3) := by decide +kernel
theorem dX8_become_28 : decode cX8_become 28 = .ok (.putfield 18, 3) := by decide +kernel
theorem dX8_become_31 : decode cX8_become 31 = .ok (.return_, 1) := by decide +kernel
theorem dX8_empty_0 : decode cX8_empty 0 = .ok (.aload_n 0, 1) := by decide +kernel
theorem dX8_empty_1 : decode cX8_empty 1 = .ok (.iconst 0, 1) := by decide +kernel
theorem dX8_empty_2 : decode cX8_empty 2 = .ok (.putfield 18, 3) := by decide +kernel
theorem dX8_empty_5 : decode cX8_empty 5 = .ok (.return_, 1) := by decide +kernel
theorem dX8_birthOf_0 : decode cX8_birthOf 0 = .ok (.iconst 0, 1) := by decide +kernel
theorem dX8_birthOf_1 : decode cX8_birthOf 1 = .ok (.istore_n 2, 1) := by decide +kernel
theorem dX8_birthOf_2 : decode cX8_birthOf 2 = .ok (.iload_n 2, 1) := by decide +kernel
theorem dX8_birthOf_3 : decode cX8_birthOf 3 = .ok (.aload_n 0, 1) := by decide +kernel
theorem dX8_birthOf_4 : decode cX8_birthOf 4 = .ok (.getfield 18, 3) := by decide +kernel
theorem dX8_birthOf_7 : decode cX8_birthOf 7 = .ok (.if_icmp .ge 36, 3) := by decide +kernel
theorem dX8_birthOf_10 : decode cX8_birthOf 10 = .ok (.aload_n 0, 1) := by decide +kernel
theorem dX8_birthOf_11 : decode cX8_birthOf 11 = .ok (.iload_n 2, 1) := by decide +kernel
theorem dX8_birthOf_12 : decode cX8_birthOf 12 = .ok (.invokevirtual 59, 3) := by decide +kernel
theorem dX8_birthOf_15 : decode cX8_birthOf 15 = .ok (.istore_n 3, 1) := by decide +kernel
theorem dX8_birthOf_16 : decode cX8_birthOf 16 = .ok (.iload_n 3, 1) := by decide +kernel
theorem dX8_birthOf_17 : decode cX8_birthOf 17 = .ok (.ifCond .eq 8, 3) := by decide +kernel
theorem dX8_birthOf_20 : decode cX8_birthOf 20 = .ok (.iload_n 3, 1) := by decide +kernel
theorem dX8_birthOf_21 : decode cX8_birthOf 21 = .ok (.iconst 5, 1) := by decide +kernel
theorem dX8_birthOf_22 : decode cX8_birthOf 22 = .ok (.if_icmp .ne 15, 3) := by decide +kernel
theorem dX8_birthOf_25 : decode cX8_birthOf 25 = .ok (.aload_n 0, 1) := by decide +kernel
theorem dX8_birthOf_26 : decode cX8_birthOf 26 = .ok (.iload_n 2, 1) := by decide +kernel
theorem dX8_birthOf_27 : decode cX8_birthOf 27 = .ok (.iconst 0, 1) := by decide +kernel
theorem dX8_birthOf_28 : decode cX8_birthOf 28 = .ok (.invokevirtual 62, 3) := by decide +kernel
theorem dX8_birthOf_31 : decode cX8_birthOf 31 = .ok (.iload_n 1, 1) := by decide +kernel
theorem dX8_birthOf_32 : decode cX8_birthOf 32 = .ok (.if_icmp .ne 5, 3) := by decide +kernel
theorem dX8_birthOf_35 : decode cX8_birthOf 35 = .ok (.iload_n 2, 1) := by decide +kernel
theorem dX8_birthOf_36 : decode cX8_birthOf 36 = .ok (.ireturn, 1) := by decide +kernel
theorem dX8_birthOf_37 : decode cX8_birthOf 37 = .ok (.iinc 2 1, 3) := by decide +kernel
theorem dX8_birthOf_40 : decode cX8_birthOf 40 = .ok (.goto (-38), 3) := by decide +kernel
theorem dX8_birthOf_43 : decode cX8_birthOf 43 = .ok (.iconst (-1), 1) := by decide +kernel
theorem dX8_birthOf_44 : decode cX8_birthOf 44 = .ok (.ireturn, 1) := by decide +kernel
theorem dX9_init_0 : decode cX9_init 0 = .ok (.aload_n 0, 1) := by decide +kernel
theorem dX9_init_1 : decode cX9_init 1 = .ok (.invokespecial 3, 3) := by decide +kernel
theorem dX9_init_4 : decode cX9_init 4 = .ok (.aload_n 0, 1) := by decide +kernel
theorem dX9_init_5 : decode cX9_init 5 = .ok (.bipush 65, 2) := by decide +kernel
theorem dX9_init_7 : decode cX9_init 7 = .ok (.newarray .int, 2) := by decide +kernel
theorem dX9_init_9 : decode cX9_init 9 = .ok (.putfield 9, 3) := by decide +kernel
theorem dX9_init_12 : decode cX9_init 12 = .ok (.aload_n 0, 1) := by decide +kernel
theorem dX9_init_13 : decode cX9_init 13 = .ok (.bipush 65, 2) := by decide +kernel
theorem dX9_init_15 : decode cX9_init 15 = .ok (.newarray .int, 2) := by decide +kernel
theorem dX9_init_17 : decode cX9_init 17 = .ok (.putfield 15, 3) := by decide +kernel
theorem dX9_init_20 : decode cX9_init 20 = .ok (.aload_n 0, 1) := by decide +kernel
theorem dX9_init_21 : decode cX9_init 21 = .ok (.bipush 65, 2) := by decide +kernel
theorem dX9_init_23 : decode cX9_init 23 = .ok (.newarray .int, 2) := by decide +kernel
theorem dX9_init_25 : decode cX9_init 25 = .ok (.putfield 18, 3) := by decide +kernel
theorem dX9_init_28 : decode cX9_init 28 = .ok (.aload_n 0, 1) := by decide +kernel
theorem dX9_init_29 : decode cX9_init 29 = .ok (.bipush 65, 2) := by decide +kernel
theorem dX9_init_31 : decode cX9_init 31 = .ok (.newarray .int, 2) := by decide +kernel
theorem dX9_init_33 : decode cX9_init 33 = .ok (.putfield 21, 3) := by decide +kernel
theorem dX9_init_36 : decode cX9_init 36 = .ok (.aload_n 0, 1) := by decide +kernel
theorem dX9_init_37 : decode cX9_init 37 = .ok (.bipush 65, 2) := by decide +kernel
theorem dX9_init_39 : decode cX9_init 39 = .ok (.newarray .int, 2) := by decide +kernel
theorem dX9_init_41 : decode cX9_init 41 = .ok (.putfield 24, 3) := by decide +kernel
theorem dX9_init_44 : decode cX9_init 44 = .ok (.aload_n 0, 1) := by decide +kernel
theorem dX9_init_45 : decode cX9_init 45 = .ok (.bipush 65, 2) := by decide +kernel
theorem dX9_init_47 : decode cX9_init 47 = .ok (.newarray .int, 2) := by decide +kernel
theorem dX9_init_49 : decode cX9_init 49 = .ok (.putfield 27, 3) := by decide +kernel
theorem dX9_init_52 : decode cX9_init 52 = .ok (.aload_n 0, 1) := by decide +kernel
theorem dX9_init_53 : decode cX9_init 53 = .ok (.new 30, 3) := by decide +kernel
theorem dX9_init_56 : decode cX9_init 56 = .ok (.dup, 1) := by decide +kernel
theorem dX9_init_57 : decode cX9_init 57 = .ok (.bipush 65, 2) := by decide +kernel
theorem dX9_init_59 : decode cX9_init 59 = .ok (.invokespecial 32, 3) := by decide +kernel
theorem dX9_init_62 : decode cX9_init 62 = .ok (.putfield 35, 3) := by decide +kernel
theorem dX9_init_65 : decode cX9_init 65 = .ok (.aload_n 0, 1) := by decide +kernel
theorem dX9_init_66 : decode cX9_init 66 = .ok (.new 30, 3) := by decide +kernel
theorem dX9_init_69 : decode cX9_init 69 = .ok (.dup, 1) := by decide +kernel
theorem dX9_init_70 : decode cX9_init 70 = .ok (.bipush 65, 2) := by decide +kernel
theorem dX9_init_72 : decode cX9_init 72 = .ok (.invokespecial 32, 3) := by decide +kernel
theorem dX9_init_75 : decode cX9_init 75 = .ok (.putfield 39, 3) := by decide +kernel
theorem dX9_init_78 : decode cX9_init 78 = .ok (.aload_n 0, 1) := by decide +kernel
theorem dX9_init_79 : decode cX9_init 79 = .ok (.iconst 0, 1) := by decide +kernel
theorem dX9_init_80 : decode cX9_init 80 = .ok (.putfield 42, 3) := by decide +kernel
theorem dX9_init_83 : decode cX9_init 83 = .ok (.aload_n 0, 1) := by decide +kernel
theorem dX9_init_84 : decode cX9_init 84 = .ok (.iconst 0, 1) := by decide +kernel
theorem dX9_init_85 : decode cX9_init 85 = .ok (.putfield 46, 3) := by decide +kernel
theorem dX9_init_88 : decode cX9_init 88 = .ok (.aload_n 0, 1) := by decide +kernel
theorem dX9_init_89 : decode cX9_init 89 = .ok (.iconst (-1), 1) := by decide +kernel
theorem dX9_init_90 : decode cX9_init 90 = .ok (.putfield 49, 3) := by decide +kernel
theorem dX9_init_93 : decode cX9_init 93 = .ok (.aload_n 0, 1) := by decide +kernel
theorem dX9_init_94 : decode cX9_init 94 = .ok (.iconst 0, 1) := by decide +kernel
theorem dX9_init_95 : decode cX9_init 95 = .ok (.putfield 52, 3) := by decide +kernel
theorem dX9_init_98 : decode cX9_init 98 = .ok (.aload_n 0, 1) := by decide +kernel
theorem dX9_init_99 : decode cX9_init 99 = .ok (.iconst 0, 1) := by decide +kernel
theorem dX9_init_100 : decode cX9_init 100 = .ok (.putfield 55, 3) := by decide +kernel
theorem dX9_init_103 : decode cX9_init 103 = .ok (.return_, 1) := by decide +kernel
theorem dX9_doubt_0 : decode cX9_doubt 0 = .ok (.aload_n 0, 1) := by decide +kernel
theorem dX9_doubt_1 : decode cX9_doubt 1 = .ok (.iconst 0, 1) := by decide +kernel
theorem dX9_doubt_2 : decode cX9_doubt 2 = .ok (.putfield 55, 3) := by decide +kernel
theorem dX9_doubt_5 : decode cX9_doubt 5 = .ok (.return_, 1) := by decide +kernel
theorem dX9_round_0 : decode cX9_round 0 = .ok (.aload_n 0, 1) := by decide +kernel
theorem dX9_round_1 : decode cX9_round 1 = .ok (.getfield 52, 3) := by decide +kernel
theorem dX9_round_4 : decode cX9_round 4 = .ok (.ireturn, 1) := by decide +kernel
theorem dX9_fits_0 : decode cX9_fits 0 = .ok (.aload_n 0, 1) := by decide +kernel
theorem dX9_fits_1 : decode cX9_fits 1 = .ok (.getfield 46, 3) := by decide +kernel
theorem dX9_fits_4 : decode cX9_fits 4 = .ok (.ireturn, 1) := by decide +kernel
theorem dX9_fitting_0 : decode cX9_fitting 0 = .ok (.aload_n 0, 1) := by decide +kernel
theorem dX9_fitting_1 : decode cX9_fitting 1 = .ok (.getfield 27, 3) := by decide +kernel
theorem dX9_fitting_4 : decode cX9_fitting 4 = .ok (.iload_n 1, 1) := by decide +kernel
theorem dX9_fitting_5 : decode cX9_fitting 5 = .ok (.invokestatic 59, 3) := by decide +kernel
theorem dX9_fitting_8 : decode cX9_fitting 8 = .ok (.ireturn, 1) := by decide +kernel
theorem dX9_length_0 : decode cX9_length 0 = .ok (.aload_n 0, 1) := by decide +kernel
theorem dX9_length_1 : decode cX9_length 1 = .ok (.getfield 21, 3) := by decide +kernel
theorem dX9_length_4 : decode cX9_length 4 = .ok (.iload_n 1, 1) := by decide +kernel
theorem dX9_length_5 : decode cX9_length 5 = .ok (.invokestatic 59, 3) := by decide +kernel
theorem dX9_length_8 : decode cX9_length 8 = .ok (.ireturn, 1) := by decide +kernel
theorem dX9_part_0 : decode cX9_part 0 = .ok (.iload_n 2, 1) := by decide +kernel
theorem dX9_part_1 : decode cX9_part 1 = .ok (.aload_n 0, 1) := by decide +kernel
theorem dX9_part_2 : decode cX9_part 2 = .ok (.iload_n 1, 1) := by decide +kernel
theorem dX9_part_3 : decode cX9_part 3 = .ok (.invokevirtual 63, 3) := by decide +kernel
theorem dX9_part_6 : decode cX9_part 6 = .ok (.invokestatic 67, 3) := by decide +kernel
theorem dX9_part_9 : decode cX9_part 9 = .ok (.ifCond .ne 5, 3) := by decide +kernel
theorem dX9_part_12 : decode cX9_part 12 = .ok (.iconst (-1), 1) := by decide +kernel
theorem dX9_part_13 : decode cX9_part 13 = .ok (.ireturn, 1) := by decide +kernel
theorem dX9_part_14 : decode cX9_part 14 = .ok (.iload_n 1, 1) := by decide +kernel
theorem dX9_part_15 : decode cX9_part 15 = .ok (.istore_n 3, 1) := by decide +kernel
theorem dX9_part_16 : decode cX9_part 16 = .ok (.aload_n 0, 1) := by decide +kernel
theorem dX9_part_17 : decode cX9_part 17 = .ok (.iload_n 1, 1) := by decide +kernel
theorem dX9_part_18 : decode cX9_part 18 = .ok (.invokevirtual 63, 3) := by decide +kernel
theorem dX9_part_21 : decode cX9_part 21 = .ok (.iconst 1, 1) := by decide +kernel
theorem dX9_part_22 : decode cX9_part 22 = .ok (.isub, 1) := by decide +kernel
theorem dX9_part_23 : decode cX9_part 23 = .ok (.istore 4, 2) := by decide +kernel
theorem dX9_part_25 : decode cX9_part 25 = .ok (.iload 4, 2) := by decide +kernel
theorem dX9_part_27 : decode cX9_part 27 = .ok (.iload_n 2, 1) := by decide +kernel
theorem dX9_part_28 : decode cX9_part 28 = .ok (.if_icmp .le 18, 3) := by decide +kernel
theorem dX9_part_31 : decode cX9_part 31 = .ok (.aload_n 0, 1) := by decide +kernel
theorem dX9_part_32 : decode cX9_part 32 = .ok (.getfield 9, 3) := by decide +kernel
theorem dX9_part_35 : decode cX9_part 35 = .ok (.iload_n 3, 1) := by decide +kernel
theorem dX9_part_36 : decode cX9_part 36 = .ok (.invokestatic 59, 3) := by decide +kernel
theorem dX9_part_39 : decode cX9_part 39 = .ok (.istore_n 3, 1) := by decide +kernel
theorem dX9_part_40 : decode cX9_part 40 = .ok (.iinc 4 (-1), 3) := by decide +kernel
theorem dX9_part_43 : decode cX9_part 43 = .ok (.goto (-18), 3) := by decide +kernel
theorem dX9_part_46 : decode cX9_part 46 = .ok (.aload_n 0, 1) := by decide +kernel
theorem dX9_part_47 : decode cX9_part 47 = .ok (.getfield 15, 3) := by decide +kernel
theorem dX9_part_50 : decode cX9_part 50 = .ok (.iload_n 3, 1) := by decide +kernel
theorem dX9_part_51 : decode cX9_part 51 = .ok (.invokestatic 59, 3) := by decide +kernel
theorem dX9_part_54 : decode cX9_part 54 = .ok (.ireturn, 1) := by decide +kernel
theorem dX9_know_0 : decode cX9_know 0 = .ok (.aload_n 1, 1) := by decide +kernel
theorem dX9_know_1 : decode cX9_know 1 = .ok (.ifnull 11, 3) := by decide +kernel
theorem dX9_know_4 : decode cX9_know 4 = .ok (.aload_n 2, 1) := by decide +kernel
theorem dX9_know_5 : decode cX9_know 5 = .ok (.ifnull 7, 3) := by decide +kernel
theorem dX9_know_8 : decode cX9_know 8 = .ok (.aload_n 3, 1) := by decide +kernel
theorem dX9_know_9 : decode cX9_know 9 = .ok (.ifnonnull 4, 3) := by decide +kernel
theorem dX9_know_12 : decode cX9_know 12 = .ok (.return_, 1) := by decide +kernel
theorem dX9_know_13 : decode cX9_know 13 = .ok (.aload_n 0, 1) := by decide +kernel
theorem dX9_know_14 : decode cX9_know 14 = .ok (.getfield 55, 3) := by decide +kernel
theorem dX9_know_17 : decode cX9_know 17 = .ok (.ifCond .eq 13, 3) := by decide +kernel
theorem dX9_know_20 : decode cX9_know 20 = .ok (.aload_n 0, 1) := by decide +kernel
theorem dX9_know_21 : decode cX9_know 21 = .ok (.getfield 49, 3) := by decide +kernel
theorem dX9_know_24 : decode cX9_know 24 = .ok (.iload 4, 2) := by decide +kernel
theorem dX9_know_26 : decode cX9_know 26 = .ok (.if_icmp .ne 4, 3) := by decide +kernel
theorem dX9_know_29 : decode cX9_know 29 = .ok (.return_, 1) := by decide +kernel
theorem dX9_know_30 : decode cX9_know 30 = .ok (.aload_n 0, 1) := by decide +kernel
theorem dX9_know_31 : decode cX9_know 31 = .ok (.aload_n 2, 1) := by decide +kernel
theorem dX9_know_32 : decode cX9_know 32 = .ok (.invokevirtual 71, 3) := by decide +kernel
theorem dX9_know_35 : decode cX9_know 35 = .ok (.invokevirtual 76, 3) := by decide +kernel
theorem dX9_know_38 : decode cX9_know 38 = .ok (.aload_n 0, 1) := by decide +kernel
theorem dX9_know_39 : decode cX9_know 39 = .ok (.getfield 24, 3) := by decide +kernel
theorem dX9_know_42 : decode cX9_know 42 = .ok (.iconst 0, 1) := by decide +kernel
theorem dX9_know_43 : decode cX9_know 43 = .ok (.bipush 65, 2) := by decide +kernel
theorem dX9_know_45 : decode cX9_know 45 = .ok (.iconst 0, 1) := by decide +kernel
theorem dX9_know_46 : decode cX9_know 46 = .ok (.invokestatic 79, 3) := by decide +kernel
theorem dX9_know_49 : decode cX9_know 49 = .ok (.iconst 0, 1) := by decide +kernel
theorem dX9_know_50 : decode cX9_know 50 = .ok (.istore 5, 2) := by decide +kernel
theorem dX9_know_52 : decode cX9_know 52 = .ok (.iload 5, 2) := by decide +kernel
theorem dX9_know_54 : decode cX9_know 54 = .ok (.iload 4, 2) := by decide +kernel
theorem dX9_know_56 : decode cX9_know 56 = .ok (.if_icmp .ge 57, 3) := by decide +kernel
theorem dX9_know_59 : decode cX9_know 59 = .ok (.aload_n 0, 1) := by decide +kernel
theorem dX9_know_60 : decode cX9_know 60 = .ok (.aload_n 0, 1) := by decide +kernel
theorem dX9_know_61 : decode cX9_know 61 = .ok (.getfield 35, 3) := by decide +kernel
theorem dX9_know_64 : decode cX9_know 64 = .ok (.aload_n 1, 1) := by decide +kernel
theorem dX9_know_65 : decode cX9_know 65 = .ok (.aload_n 2, 1) := by decide +kernel
theorem dX9_know_66 : decode cX9_know 66 = .ok (.aload_n 3, 1) := by decide +kernel
theorem dX9_know_67 : decode cX9_know 67 = .ok (.iload 5, 2) := by decide +kernel
theorem dX9_know_69 : decode cX9_know 69 = .ok (.invokevirtual 83, 3) := by decide +kernel
theorem dX9_know_72 : decode cX9_know 72 = .ok (.invokevirtual 88, 3) := by decide +kernel
theorem dX9_know_75 : decode cX9_know 75 = .ok (.aload_n 3, 1) := by decide +kernel
theorem dX9_know_76 : decode cX9_know 76 = .ok (.iload 5, 2) := by decide +kernel
theorem dX9_know_78 : decode cX9_know 78 = .ok (.invokevirtual 92, 3) := by decide +kernel
theorem dX9_know_81 : decode cX9_know 81 = .ok (.ifCond .eq 19, 3) := by decide +kernel
theorem dX9_know_84 : decode cX9_know 84 = .ok (.aload_n 0, 1) := by decide +kernel
theorem dX9_know_85 : decode cX9_know 85 = .ok (.aload_n 0, 1) := by decide +kernel
theorem dX9_know_86 : decode cX9_know 86 = .ok (.getfield 39, 3) := by decide +kernel
theorem dX9_know_89 : decode cX9_know 89 = .ok (.aload_n 1, 1) := by decide +kernel
theorem dX9_know_90 : decode cX9_know 90 = .ok (.aload_n 2, 1) := by decide +kernel
theorem dX9_know_91 : decode cX9_know 91 = .ok (.aload_n 3, 1) := by decide +kernel
theorem dX9_know_92 : decode cX9_know 92 = .ok (.iload 5, 2) := by decide +kernel
theorem dX9_know_94 : decode cX9_know 94 = .ok (.invokevirtual 96, 3) := by decide +kernel
theorem dX9_know_97 : decode cX9_know 97 = .ok (.invokevirtual 88, 3) := by decide +kernel
theorem dX9_know_100 : decode cX9_know 100 = .ok (.aload_n 0, 1) := by decide +kernel
theorem dX9_know_101 : decode cX9_know 101 = .ok (.aload_n 3, 1) := by decide +kernel
theorem dX9_know_102 : decode cX9_know 102 = .ok (.iload 5, 2) := by decide +kernel
theorem dX9_know_104 : decode cX9_know 104 = .ok (.invokevirtual 99, 3) := by decide +kernel
theorem dX9_know_107 : decode cX9_know 107 = .ok (.iinc 5 1, 3) := by decide +kernel
theorem dX9_know_110 : decode cX9_know 110 = .ok (.goto (-58), 3) := by decide +kernel
theorem dX9_know_113 : decode cX9_know 113 = .ok (.aload_n 0, 1) := by decide +kernel
theorem dX9_know_114 : decode cX9_know 114 = .ok (.invokevirtual 103, 3) := by decide +kernel
theorem dX9_know_117 : decode cX9_know 117 = .ok (.aload_n 0, 1) := by decide +kernel
theorem dX9_know_118 : decode cX9_know 118 = .ok (.iconst 1, 1) := by decide +kernel
theorem dX9_know_119 : decode cX9_know 119 = .ok (.putfield 55, 3) := by decide +kernel
theorem dX9_know_122 : decode cX9_know 122 = .ok (.aload_n 0, 1) := by decide +kernel
theorem dX9_know_123 : decode cX9_know 123 = .ok (.iload 4, 2) := by decide +kernel
theorem dX9_know_125 : decode cX9_know 125 = .ok (.putfield 49, 3) := by decide +kernel
theorem dX9_know_128 : decode cX9_know 128 = .ok (.aload_n 0, 1) := by decide +kernel
theorem dX9_know_129 : decode cX9_know 129 = .ok (.dup, 1) := by decide +kernel
theorem dX9_know_130 : decode cX9_know 130 = .ok (.getfield 52, 3) := by decide +kernel
theorem dX9_know_133 : decode cX9_know 133 = .ok (.iconst 1, 1) := by decide +kernel
theorem dX9_know_134 : decode cX9_know 134 = .ok (.iadd, 1) := by decide +kernel
theorem dX9_know_135 : decode cX9_know 135 = .ok (.putfield 52, 3) := by decide +kernel
theorem dX9_know_138 : decode cX9_know 138 = .ok (.return_, 1) := by decide +kernel
theorem dX9_order_0 : decode cX9_order 0 = .ok (.aload_n 0, 1) := by decide +kernel
theorem dX9_order_1 : decode cX9_order 1 = .ok (.iconst 0, 1) := by decide +kernel
theorem dX9_order_2 : decode cX9_order 2 = .ok (.putfield 42, 3) := by decide +kernel
theorem dX9_order_5 : decode cX9_order 5 = .ok (.aload_n 0, 1) := by decide +kernel
theorem dX9_order_6 : decode cX9_order 6 = .ok (.iconst 0, 1) := by decide +kernel
theorem dX9_order_7 : decode cX9_order 7 = .ok (.iconst (-1), 1) := by decide +kernel
theorem dX9_order_8 : decode cX9_order 8 = .ok (.iconst 0, 1) := by decide +kernel
theorem dX9_order_9 : decode cX9_order 9 = .ok (.iconst 0, 1) := by decide +kernel
theorem dX9_order_10 : decode cX9_order 10 = .ok (.invokevirtual 106, 3) := by decide +kernel
theorem dX9_order_13 : decode cX9_order 13 = .ok (.iconst 0, 1) := by decide +kernel
theorem dX9_order_14 : decode cX9_order 14 = .ok (.istore_n 2, 1) := by decide +kernel
theorem dX9_order_15 : decode cX9_order 15 = .ok (.iload_n 2, 1) := by decide +kernel
theorem dX9_order_16 : decode cX9_order 16 = .ok (.aload_n 0, 1) := by decide +kernel
theorem dX9_order_17 : decode cX9_order 17 = .ok (.getfield 42, 3) := by decide +kernel
theorem dX9_order_20 : decode cX9_order 20 = .ok (.if_icmp .ge 66, 3) := by decide +kernel
theorem dX9_order_23 : decode cX9_order 23 = .ok (.iload_n 2, 1) := by decide +kernel
theorem dX9_order_24 : decode cX9_order 24 = .ok (.bipush 65, 2) := by decide +kernel
theorem dX9_order_26 : decode cX9_order 26 = .ok (.if_icmp .ge 60, 3) := by decide +kernel
theorem dX9_order_29 : decode cX9_order 29 = .ok (.iconst 0, 1) := by decide +kernel
theorem dX9_order_30 : decode cX9_order 30 = .ok (.istore_n 3, 1) := by decide +kernel
theorem dX9_order_31 : decode cX9_order 31 = .ok (.iload_n 3, 1) := by decide +kernel
theorem dX9_order_32 : decode cX9_order 32 = .ok (.iload_n 1, 1) := by decide +kernel
theorem dX9_order_33 : decode cX9_order 33 = .ok (.if_icmp .ge 47, 3) := by decide +kernel
theorem dX9_order_36 : decode cX9_order 36 = .ok (.aload_n 0, 1) := by decide +kernel
theorem dX9_order_37 : decode cX9_order 37 = .ok (.getfield 18, 3) := by decide +kernel
theorem dX9_order_40 : decode cX9_order 40 = .ok (.iload_n 2, 1) := by decide +kernel
theorem dX9_order_41 : decode cX9_order 41 = .ok (.invokestatic 59, 3) := by decide +kernel
theorem dX9_order_44 : decode cX9_order 44 = .ok (.istore 4, 2) := by decide +kernel
theorem dX9_order_46 : decode cX9_order 46 = .ok (.iload 4, 2) := by decide +kernel
theorem dX9_order_48 : decode cX9_order 48 = .ok (.iload_n 3, 1) := by decide +kernel
theorem dX9_order_49 : decode cX9_order 49 = .ok (.ishr, 1) := by decide +kernel
theorem dX9_order_50 : decode cX9_order 50 = .ok (.iconst 1, 1) := by decide +kernel
theorem dX9_order_51 : decode cX9_order 51 = .ok (.iand, 1) := by decide +kernel
theorem dX9_order_52 : decode cX9_order 52 = .ok (.ifCond .ne 22, 3) := by decide +kernel
theorem dX9_order_55 : decode cX9_order 55 = .ok (.aload_n 0, 1) := by decide +kernel
theorem dX9_order_56 : decode cX9_order 56 = .ok (.iload_n 2, 1) := by decide +kernel
theorem dX9_order_57 : decode cX9_order 57 = .ok (.iload_n 3, 1) := by decide +kernel
theorem dX9_order_58 : decode cX9_order 58 = .ok (.iload 4, 2) := by decide +kernel
theorem dX9_order_60 : decode cX9_order 60 = .ok (.iconst 1, 1) := by decide +kernel
theorem dX9_order_61 : decode cX9_order 61 = .ok (.iload_n 3, 1) := by decide +kernel
theorem dX9_order_62 : decode cX9_order 62 = .ok (.ishl, 1) := by decide +kernel
theorem dX9_order_63 : decode cX9_order 63 = .ok (.ior, 1) := by decide +kernel
theorem dX9_order_64 : decode cX9_order 64 = .ok (.aload_n 0, 1) := by decide +kernel
theorem dX9_order_65 : decode cX9_order 65 = .ok (.iload_n 2, 1) := by decide +kernel
theorem dX9_order_66 : decode cX9_order 66 = .ok (.invokevirtual 63, 3) := by decide +kernel
theorem dX9_order_69 : decode cX9_order 69 = .ok (.iconst 1, 1) := by decide +kernel
theorem dX9_order_70 : decode cX9_order 70 = .ok (.iadd, 1) := by decide +kernel
theorem dX9_order_71 : decode cX9_order 71 = .ok (.invokevirtual 106, 3) := by decide +kernel
theorem dX9_order_74 : decode cX9_order 74 = .ok (.iinc 3 1, 3) := by decide +kernel
theorem dX9_order_77 : decode cX9_order 77 = .ok (.goto (-46), 3) := by decide +kernel
theorem dX9_order_80 : decode cX9_order 80 = .ok (.iinc 2 1, 3) := by decide +kernel
theorem dX9_order_83 : decode cX9_order 83 = .ok (.goto (-68), 3) := by decide +kernel
theorem dX9_order_86 : decode cX9_order 86 = .ok (.return_, 1) := by decide +kernel
theorem dX9_append_0 : decode cX9_append 0 = .ok (.aload_n 0, 1) := by decide +kernel
theorem dX9_append_1 : decode cX9_append 1 = .ok (.getfield 42, 3) := by decide +kernel
theorem dX9_append_4 : decode cX9_append 4 = .ok (.bipush 65, 2) := by decide +kernel
theorem dX9_append_6 : decode cX9_append 6 = .ok (.if_icmp .lt 4, 3) := by decide +kernel
theorem dX9_append_9 : decode cX9_append 9 = .ok (.return_, 1) := by decide +kernel
theorem dX9_append_10 : decode cX9_append 10 = .ok (.aload_n 0, 1) := by decide +kernel
theorem dX9_append_11 : decode cX9_append 11 = .ok (.getfield 9, 3) := by decide +kernel
theorem dX9_append_14 : decode cX9_append 14 = .ok (.aload_n 0, 1) := by decide +kernel
theorem dX9_append_15 : decode cX9_append 15 = .ok (.getfield 42, 3) := by decide +kernel
theorem dX9_append_18 : decode cX9_append 18 = .ok (.iload_n 1, 1) := by decide +kernel
theorem dX9_append_19 : decode cX9_append 19 = .ok (.invokestatic 110, 3) := by decide +kernel
theorem dX9_append_22 : decode cX9_append 22 = .ok (.aload_n 0, 1) := by decide +kernel
theorem dX9_append_23 : decode cX9_append 23 = .ok (.getfield 15, 3) := by decide +kernel
theorem dX9_append_26 : decode cX9_append 26 = .ok (.aload_n 0, 1) := by decide +kernel
theorem dX9_append_27 : decode cX9_append 27 = .ok (.getfield 42, 3) := by decide +kernel
theorem dX9_append_30 : decode cX9_append 30 = .ok (.iload_n 2, 1) := by decide +kernel
theorem dX9_append_31 : decode cX9_append 31 = .ok (.invokestatic 110, 3) := by decide +kernel
theorem dX9_append_34 : decode cX9_append 34 = .ok (.aload_n 0, 1) := by decide +kernel
theorem dX9_append_35 : decode cX9_append 35 = .ok (.getfield 18, 3) := by decide +kernel
theorem dX9_append_38 : decode cX9_append 38 = .ok (.aload_n 0, 1) := by decide +kernel
theorem dX9_append_39 : decode cX9_append 39 = .ok (.getfield 42, 3) := by decide +kernel
theorem dX9_append_42 : decode cX9_append 42 = .ok (.iload_n 3, 1) := by decide +kernel
theorem dX9_append_43 : decode cX9_append 43 = .ok (.invokestatic 110, 3) := by decide +kernel
theorem dX9_append_46 : decode cX9_append 46 = .ok (.aload_n 0, 1) := by decide +kernel
theorem dX9_append_47 : decode cX9_append 47 = .ok (.getfield 21, 3) := by decide +kernel
theorem dX9_append_50 : decode cX9_append 50 = .ok (.aload_n 0, 1) := by decide +kernel
theorem dX9_append_51 : decode cX9_append 51 = .ok (.getfield 42, 3) := by decide +kernel
theorem dX9_append_54 : decode cX9_append 54 = .ok (.iload 4, 2) := by decide +kernel
theorem dX9_append_56 : decode cX9_append 56 = .ok (.invokestatic 110, 3) := by decide +kernel
theorem dX9_append_59 : decode cX9_append 59 = .ok (.aload_n 0, 1) := by decide +kernel
theorem dX9_append_60 : decode cX9_append 60 = .ok (.dup, 1) := by decide +kernel
theorem dX9_append_61 : decode cX9_append 61 = .ok (.getfield 42, 3) := by decide +kernel
theorem dX9_append_64 : decode cX9_append 64 = .ok (.iconst 1, 1) := by decide +kernel
theorem dX9_append_65 : decode cX9_append 65 = .ok (.iadd, 1) := by decide +kernel
theorem dX9_append_66 : decode cX9_append 66 = .ok (.putfield 42, 3) := by decide +kernel
theorem dX9_append_69 : decode cX9_append 69 = .ok (.return_, 1) := by decide +kernel
theorem dX9_tellColumn_0 : decode cX9_tellColumn 0 = .ok (.aload_n 1, 1) := by decide +kernel
theorem dX9_tellColumn_1 : decode cX9_tellColumn 1 = .ok (.iconst 0, 1) := by decide +kernel
theorem dX9_tellColumn_2 : decode cX9_tellColumn 2 = .ok (.invokevirtual 114, 3) := by decide +kernel
theorem dX9_tellColumn_5 : decode cX9_tellColumn 5 = .ok (.aload_n 2, 1) := by decide +kernel
theorem dX9_tellColumn_6 : decode cX9_tellColumn 6 = .ok (.iload 4, 2) := by decide +kernel
theorem dX9_tellColumn_8 : decode cX9_tellColumn 8 = .ok (.invokevirtual 114, 3) := by decide +kernel
theorem dX9_tellColumn_11 : decode cX9_tellColumn 11 = .ok (.invokevirtual 118, 3) := by decide +kernel
theorem dX9_tellColumn_14 : decode cX9_tellColumn 14 = .ok (.iconst 1, 1) := by decide +kernel
theorem dX9_tellColumn_15 : decode cX9_tellColumn 15 = .ok (.istore 5, 2) := by decide +kernel
theorem dX9_tellColumn_17 : decode cX9_tellColumn 17 = .ok (.iload 5, 2) := by decide +kernel
theorem dX9_tellColumn_19 : decode cX9_tellColumn 19 = .ok (.aload_n 0, 1) := by decide +kernel
theorem dX9_tellColumn_20 : decode cX9_tellColumn 20 = .ok (.getfield 42, 3) := by decide +kernel
theorem dX9_tellColumn_23 : decode cX9_tellColumn 23 = .ok (.if_icmp .ge 54, 3) := by decide +kernel
theorem dX9_tellColumn_26 : decode cX9_tellColumn 26 = .ok (.aload_n 1, 1) := by decide +kernel
theorem dX9_tellColumn_27 : decode cX9_tellColumn 27 = .ok (.iload 5, 2) := by decide +kernel
theorem dX9_tellColumn_29 : decode cX9_tellColumn 29 = .ok (.invokevirtual 114, 3) := by decide +kernel
theorem dX9_tellColumn_32 : decode cX9_tellColumn 32 = .ok (.aload_n 1, 1) := by decide +kernel
theorem dX9_tellColumn_33 : decode cX9_tellColumn 33 = .ok (.aload_n 0, 1) := by decide +kernel
theorem dX9_tellColumn_34 : decode cX9_tellColumn 34 = .ok (.getfield 9, 3) := by decide +kernel
theorem dX9_tellColumn_37 : decode cX9_tellColumn 37 = .ok (.iload 5, 2) := by decide +kernel
theorem dX9_tellColumn_39 : decode cX9_tellColumn 39 = .ok (.invokestatic 59, 3) := by decide +kernel
theorem dX9_tellColumn_42 : decode cX9_tellColumn 42 = .ok (.invokevirtual 114, 3) := by decide +kernel
theorem dX9_tellColumn_45 : decode cX9_tellColumn 45 = .ok (.aload_n 3, 1) := by decide +kernel
theorem dX9_tellColumn_46 : decode cX9_tellColumn 46 = .ok (.aload_n 0, 1) := by decide +kernel
theorem dX9_tellColumn_47 : decode cX9_tellColumn 47 = .ok (.getfield 15, 3) := by decide +kernel
theorem dX9_tellColumn_50 : decode cX9_tellColumn 50 = .ok (.iload 5, 2) := by decide +kernel
theorem dX9_tellColumn_52 : decode cX9_tellColumn 52 = .ok (.invokestatic 59, 3) := by decide +kernel
theorem dX9_tellColumn_55 : decode cX9_tellColumn 55 = .ok (.aload_n 0, 1) := by decide +kernel
theorem dX9_tellColumn_56 : decode cX9_tellColumn 56 = .ok (.getfield 15, 3) := by decide +kernel
theorem dX9_tellColumn_59 : decode cX9_tellColumn 59 = .ok (.iload 5, 2) := by decide +kernel
theorem dX9_tellColumn_61 : decode cX9_tellColumn 61 = .ok (.invokestatic 59, 3) := by decide +kernel
theorem dX9_tellColumn_64 : decode cX9_tellColumn 64 = .ok (.iconst 1, 1) := by decide +kernel
theorem dX9_tellColumn_65 : decode cX9_tellColumn 65 = .ok (.iadd, 1) := by decide +kernel
theorem dX9_tellColumn_66 : decode cX9_tellColumn 66 = .ok (.iload 4, 2) := by decide +kernel
theorem dX9_tellColumn_68 : decode cX9_tellColumn 68 = .ok (.invokevirtual 124, 3) := by decide +kernel
theorem dX9_tellColumn_71 : decode cX9_tellColumn 71 = .ok (.iinc 5 1, 3) := by decide +kernel
theorem dX9_tellColumn_74 : decode cX9_tellColumn 74 = .ok (.goto (-57), 3) := by decide +kernel
theorem dX9_tellColumn_77 : decode cX9_tellColumn 77 = .ok (.return_, 1) := by decide +kernel
theorem dX9_hold_0 : decode cX9_hold 0 = .ok (.iconst 0, 1) := by decide +kernel
theorem dX9_hold_1 : decode cX9_hold 1 = .ok (.istore_n 3, 1) := by decide +kernel
theorem dX9_hold_2 : decode cX9_hold 2 = .ok (.iload_n 3, 1) := by decide +kernel
theorem dX9_hold_3 : decode cX9_hold 3 = .ok (.aload_n 0, 1) := by decide +kernel
theorem dX9_hold_4 : decode cX9_hold 4 = .ok (.getfield 42, 3) := by decide +kernel
theorem dX9_hold_7 : decode cX9_hold 7 = .ok (.if_icmp .ge 51, 3) := by decide +kernel
theorem dX9_hold_10 : decode cX9_hold 10 = .ok (.aload_n 1, 1) := by decide +kernel
theorem dX9_hold_11 : decode cX9_hold 11 = .ok (.iload_n 2, 1) := by decide +kernel
theorem dX9_hold_12 : decode cX9_hold 12 = .ok (.aload_n 0, 1) := by decide +kernel
theorem dX9_hold_13 : decode cX9_hold 13 = .ok (.getfield 35, 3) := by decide +kernel
theorem dX9_hold_16 : decode cX9_hold 16 = .ok (.iload_n 3, 1) := by decide +kernel
theorem dX9_hold_17 : decode cX9_hold 17 = .ok (.invokevirtual 114, 3) := by decide +kernel
theorem dX9_hold_20 : decode cX9_hold 20 = .ok (.aload_n 0, 1) := by decide +kernel
theorem dX9_hold_21 : decode cX9_hold 21 = .ok (.getfield 39, 3) := by decide +kernel
theorem dX9_hold_24 : decode cX9_hold 24 = .ok (.iload_n 3, 1) := by decide +kernel
theorem dX9_hold_25 : decode cX9_hold 25 = .ok (.invokevirtual 114, 3) := by decide +kernel
theorem dX9_hold_28 : decode cX9_hold 28 = .ok (.invokevirtual 128, 3) := by decide +kernel
theorem dX9_hold_31 : decode cX9_hold 31 = .ok (.ifCond .ne 21, 3) := by decide +kernel
theorem dX9_hold_34 : decode cX9_hold 34 = .ok (.aload_n 0, 1) := by decide +kernel
theorem dX9_hold_35 : decode cX9_hold 35 = .ok (.getfield 24, 3) := by decide +kernel
theorem dX9_hold_38 : decode cX9_hold 38 = .ok (.iload_n 3, 1) := by decide +kernel
theorem dX9_hold_39 : decode cX9_hold 39 = .ok (.aload_n 0, 1) := by decide +kernel
theorem dX9_hold_40 : decode cX9_hold 40 = .ok (.getfield 24, 3) := by decide +kernel
theorem dX9_hold_43 : decode cX9_hold 43 = .ok (.iload_n 3, 1) := by decide +kernel
theorem dX9_hold_44 : decode cX9_hold 44 = .ok (.invokestatic 59, 3) := by decide +kernel
theorem dX9_hold_47 : decode cX9_hold 47 = .ok (.iconst 1, 1) := by decide +kernel
theorem dX9_hold_48 : decode cX9_hold 48 = .ok (.iadd, 1) := by decide +kernel
theorem dX9_hold_49 : decode cX9_hold 49 = .ok (.invokestatic 110, 3) := by decide +kernel
theorem dX9_hold_52 : decode cX9_hold 52 = .ok (.iinc 3 1, 3) := by decide +kernel
theorem dX9_hold_55 : decode cX9_hold 55 = .ok (.goto (-53), 3) := by decide +kernel
theorem dX9_hold_58 : decode cX9_hold 58 = .ok (.return_, 1) := by decide +kernel
theorem dX9_gather_0 : decode cX9_gather 0 = .ok (.aload_n 0, 1) := by decide +kernel
theorem dX9_gather_1 : decode cX9_gather 1 = .ok (.iconst 0, 1) := by decide +kernel
theorem dX9_gather_2 : decode cX9_gather 2 = .ok (.putfield 46, 3) := by decide +kernel
theorem dX9_gather_5 : decode cX9_gather 5 = .ok (.iconst 0, 1) := by decide +kernel
theorem dX9_gather_6 : decode cX9_gather 6 = .ok (.istore_n 1, 1) := by decide +kernel
theorem dX9_gather_7 : decode cX9_gather 7 = .ok (.iload_n 1, 1) := by decide +kernel
theorem dX9_gather_8 : decode cX9_gather 8 = .ok (.aload_n 0, 1) := by decide +kernel
theorem dX9_gather_9 : decode cX9_gather 9 = .ok (.getfield 42, 3) := by decide +kernel
theorem dX9_gather_12 : decode cX9_gather 12 = .ok (.if_icmp .ge 45, 3) := by decide +kernel
theorem dX9_gather_15 : decode cX9_gather 15 = .ok (.aload_n 0, 1) := by decide +kernel
theorem dX9_gather_16 : decode cX9_gather 16 = .ok (.getfield 24, 3) := by decide +kernel
theorem dX9_gather_19 : decode cX9_gather 19 = .ok (.iload_n 1, 1) := by decide +kernel
theorem dX9_gather_20 : decode cX9_gather 20 = .ok (.invokestatic 59, 3) := by decide +kernel
theorem dX9_gather_23 : decode cX9_gather 23 = .ok (.ifCond .eq 6, 3) := by decide +kernel
theorem dX9_gather_26 : decode cX9_gather 26 = .ok (.goto 25, 3) := by decide +kernel
theorem dX9_gather_29 : decode cX9_gather 29 = .ok (.aload_n 0, 1) := by decide +kernel
theorem dX9_gather_30 : decode cX9_gather 30 = .ok (.getfield 27, 3) := by decide +kernel
theorem dX9_gather_33 : decode cX9_gather 33 = .ok (.aload_n 0, 1) := by decide +kernel
theorem dX9_gather_34 : decode cX9_gather 34 = .ok (.getfield 46, 3) := by decide +kernel
theorem dX9_gather_37 : decode cX9_gather 37 = .ok (.iload_n 1, 1) := by decide +kernel
theorem dX9_gather_38 : decode cX9_gather 38 = .ok (.invokestatic 110, 3) := by decide +kernel
theorem dX9_gather_41 : decode cX9_gather 41 = .ok (.aload_n 0, 1) := by decide +kernel
theorem dX9_gather_42 : decode cX9_gather 42 = .ok (.dup, 1) := by decide +kernel
theorem dX9_gather_43 : decode cX9_gather 43 = .ok (.getfield 46, 3) := by decide +kernel
theorem dX9_gather_46 : decode cX9_gather 46 = .ok (.iconst 1, 1) := by decide +kernel
theorem dX9_gather_47 : decode cX9_gather 47 = .ok (.iadd, 1) := by decide +kernel
theorem dX9_gather_48 : decode cX9_gather 48 = .ok (.putfield 46, 3) := by decide +kernel
theorem dX9_gather_51 : decode cX9_gather 51 = .ok (.iinc 1 1, 3) := by decide +kernel
theorem dX9_gather_54 : decode cX9_gather 54 = .ok (.goto (-47), 3) := by decide +kernel
theorem dX9_gather_57 : decode cX9_gather 57 = .ok (.return_, 1) := by decide +kernel
theorem dX9_look_0 : decode cX9_look 0 = .ok (.aload_n 1, 1) := by decide +kernel
theorem dX9_look_1 : decode cX9_look 1 = .ok (.ifnull 14, 3) := by decide +kernel
theorem dX9_look_4 : decode cX9_look 4 = .ok (.aload_n 0, 1) := by decide +kernel
theorem dX9_look_5 : decode cX9_look 5 = .ok (.aload_n 0, 1) := by decide +kernel
theorem dX9_look_6 : decode cX9_look 6 = .ok (.getfield 35, 3) := by decide +kernel
theorem dX9_look_9 : decode cX9_look 9 = .ok (.aload_n 1, 1) := by decide +kernel
theorem dX9_look_10 : decode cX9_look 10 = .ok (.aload_n 2, 1) := by decide +kernel
theorem dX9_look_11 : decode cX9_look 11 = .ok (.iload_n 3, 1) := by decide +kernel
theorem dX9_look_12 : decode cX9_look 12 = .ok (.invokevirtual 88, 3) := by decide +kernel
theorem dX9_look_15 : decode cX9_look 15 = .ok (.return_, 1) := by decide +kernel
theorem dX9_looked_0 : decode cX9_looked 0 = .ok (.aload_n 0, 1) := by decide +kernel
theorem dX9_looked_1 : decode cX9_looked 1 = .ok (.getfield 35, 3) := by decide +kernel
theorem dX9_looked_4 : decode cX9_looked 4 = .ok (.iload_n 1, 1) := by decide +kernel
theorem dX9_looked_5 : decode cX9_looked 5 = .ok (.invokevirtual 114, 3) := by decide +kernel
theorem dX9_looked_8 : decode cX9_looked 8 = .ok (.areturn, 1) := by decide +kernel
theorem dX10_init_0 : decode cX10_init 0 = .ok (.aload_n 0, 1) := by decide +kernel
theorem dX10_init_1 : decode cX10_init 1 = .ok (.invokespecial 3, 3) := by decide +kernel
theorem dX10_init_4 : decode cX10_init 4 = .ok (.aload_n 0, 1) := by decide +kernel
theorem dX10_init_5 : decode cX10_init 5 = .ok (.sipush 300, 3) := by decide +kernel
theorem dX10_init_8 : decode cX10_init 8 = .ok (.newarray .int, 2) := by decide +kernel
theorem dX10_init_10 : decode cX10_init 10 = .ok (.putfield 9, 3) := by decide +kernel
theorem dX10_init_13 : decode cX10_init 13 = .ok (.aload_n 0, 1) := by decide +kernel
theorem dX10_init_14 : decode cX10_init 14 = .ok (.iconst 5, 1) := by decide +kernel
theorem dX10_init_15 : decode cX10_init 15 = .ok (.newarray .int, 2) := by decide +kernel
theorem dX10_init_17 : decode cX10_init 17 = .ok (.putfield 17, 3) := by decide +kernel
theorem dX10_init_20 : decode cX10_init 20 = .ok (.aload_n 0, 1) := by decide +kernel
theorem dX10_init_21 : decode cX10_init 21 = .ok (.iconst 0, 1) := by decide +kernel
theorem dX10_init_22 : decode cX10_init 22 = .ok (.putfield 20, 3) := by decide +kernel
theorem dX10_init_25 : decode cX10_init 25 = .ok (.aload_n 0, 1) := by decide +kernel
theorem dX10_init_26 : decode cX10_init 26 = .ok (.iconst 0, 1) := by decide +kernel
theorem dX10_init_27 : decode cX10_init 27 = .ok (.putfield 24, 3) := by decide +kernel
theorem dX10_init_30 : decode cX10_init 30 = .ok (.aload_n 0, 1) := by decide +kernel
theorem dX10_init_31 : decode cX10_init 31 = .ok (.iconst (-1), 1) := by decide +kernel
theorem dX10_init_32 : decode cX10_init 32 = .ok (.putfield 27, 3) := by decide +kernel
theorem dX10_init_35 : decode cX10_init 35 = .ok (.aload_n 0, 1) := by decide +kernel
theorem dX10_init_36 : decode cX10_init 36 = .ok (.iconst 0, 1) := by decide +kernel
theorem dX10_init_37 : decode cX10_init 37 = .ok (.putfield 30, 3) := by decide +kernel
theorem dX10_init_40 : decode cX10_init 40 = .ok (.return_, 1) := by decide +kernel
theorem dX10_size_0 : decode cX10_size 0 = .ok (.aload_n 0, 1) := by decide +kernel
theorem dX10_size_1 : decode cX10_size 1 = .ok (.getfield 20, 3) := by decide +kernel
theorem dX10_size_4 : decode cX10_size 4 = .ok (.ireturn, 1) := by decide +kernel
theorem dX11_init_0 : decode cX11_init 0 = .ok (.aload_n 0, 1) := by decide +kernel
theorem dX11_init_1 : decode cX11_init 1 = .ok (.invokespecial 1, 3) := by decide +kernel
theorem dX11_init_4 : decode cX11_init 4 = .ok (.aload_n 0, 1) := by decide +kernel
theorem dX11_init_5 : decode cX11_init 5 = .ok (.new 7, 3) := by decide +kernel
theorem dX11_init_8 : decode cX11_init 8 = .ok (.dup, 1) := by decide +kernel
theorem dX11_init_9 : decode cX11_init 9 = .ok (.invokespecial 9, 3) := by decide +kernel
theorem dX11_init_12 : decode cX11_init 12 = .ok (.putfield 10, 3) := by decide +kernel
theorem dX11_init_15 : decode cX11_init 15 = .ok (.aload_n 0, 1) := by decide +kernel
theorem dX11_init_16 : decode cX11_init 16 = .ok (.new 7, 3) := by decide +kernel
theorem dX11_init_19 : decode cX11_init 19 = .ok (.dup, 1) := by decide +kernel
theorem dX11_init_20 : decode cX11_init 20 = .ok (.invokespecial 9, 3) := by decide +kernel
theorem dX11_init_23 : decode cX11_init 23 = .ok (.putfield 16, 3) := by decide +kernel
theorem dX11_init_26 : decode cX11_init 26 = .ok (.aload_n 0, 1) := by decide +kernel
theorem dX11_init_27 : decode cX11_init 27 = .ok (.new 7, 3) := by decide +kernel
theorem dX11_init_30 : decode cX11_init 30 = .ok (.dup, 1) := by decide +kernel
theorem dX11_init_31 : decode cX11_init 31 = .ok (.invokespecial 9, 3) := by decide +kernel
theorem dX11_init_34 : decode cX11_init 34 = .ok (.putfield 19, 3) := by decide +kernel
theorem dX11_init_37 : decode cX11_init 37 = .ok (.aload_n 0, 1) := by decide +kernel
theorem dX11_init_38 : decode cX11_init 38 = .ok (.iconst 4, 1) := by decide +kernel
theorem dX11_init_39 : decode cX11_init 39 = .ok (.anewarray 7, 3) := by decide +kernel
theorem dX11_init_42 : decode cX11_init 42 = .ok (.putfield 22, 3) := by decide +kernel
theorem dX11_init_45 : decode cX11_init 45 = .ok (.aload_n 0, 1) := by decide +kernel
theorem dX11_init_46 : decode cX11_init 46 = .ok (.iconst 4, 1) := by decide +kernel
theorem dX11_init_47 : decode cX11_init 47 = .ok (.newarray .boolean, 2) := by decide +kernel
theorem dX11_init_49 : decode cX11_init 49 = .ok (.putfield 26, 3) := by decide +kernel
theorem dX11_init_52 : decode cX11_init 52 = .ok (.aload_n 0, 1) := by decide +kernel
theorem dX11_init_53 : decode cX11_init 53 = .ok (.new 30, 3) := by decide +kernel
theorem dX11_init_56 : decode cX11_init 56 = .ok (.dup, 1) := by decide +kernel
theorem dX11_init_57 : decode cX11_init 57 = .ok (.invokespecial 32, 3) := by decide +kernel
theorem dX11_init_60 : decode cX11_init 60 = .ok (.putfield 33, 3) := by decide +kernel
theorem dX11_init_63 : decode cX11_init 63 = .ok (.aload_n 0, 1) := by decide +kernel
theorem dX11_init_64 : decode cX11_init 64 = .ok (.new 37, 3) := by decide +kernel
theorem dX11_init_67 : decode cX11_init 67 = .ok (.dup, 1) := by decide +kernel
theorem dX11_init_68 : decode cX11_init 68 = .ok (.bipush 64, 2) := by decide +kernel
theorem dX11_init_70 : decode cX11_init 70 = .ok (.invokespecial 39, 3) := by decide +kernel
theorem dX11_init_73 : decode cX11_init 73 = .ok (.putfield 42, 3) := by decide +kernel
theorem dX11_init_76 : decode cX11_init 76 = .ok (.aload_n 0, 1) := by decide +kernel
theorem dX11_init_77 : decode cX11_init 77 = .ok (.new 46, 3) := by decide +kernel
theorem dX11_init_80 : decode cX11_init 80 = .ok (.dup, 1) := by decide +kernel
theorem dX11_init_81 : decode cX11_init 81 = .ok (.invokespecial 48, 3) := by decide +kernel
theorem dX11_init_84 : decode cX11_init 84 = .ok (.putfield 49, 3) := by decide +kernel
theorem dX11_init_87 : decode cX11_init 87 = .ok (.aload_n 0, 1) := by decide +kernel
theorem dX11_init_88 : decode cX11_init 88 = .ok (.new 53, 3) := by decide +kernel
theorem dX11_init_91 : decode cX11_init 91 = .ok (.dup, 1) := by decide +kernel
theorem dX11_init_92 : decode cX11_init 92 = .ok (.invokespecial 55, 3) := by decide +kernel
theorem dX11_init_95 : decode cX11_init 95 = .ok (.putfield 56, 3) := by decide +kernel
theorem dX11_init_98 : decode cX11_init 98 = .ok (.aload_n 0, 1) := by decide +kernel
theorem dX11_init_99 : decode cX11_init 99 = .ok (.new 60, 3) := by decide +kernel
theorem dX11_init_102 : decode cX11_init 102 = .ok (.dup, 1) := by decide +kernel
theorem dX11_init_103 : decode cX11_init 103 = .ok (.invokespecial 62, 3) := by decide +kernel
theorem dX11_init_106 : decode cX11_init 106 = .ok (.putfield 63, 3) := by decide +kernel
theorem dX11_init_109 : decode cX11_init 109 = .ok (.aload_n 0, 1) := by decide +kernel
theorem dX11_init_110 : decode cX11_init 110 = .ok (.new 67, 3) := by decide +kernel
theorem dX11_init_113 : decode cX11_init 113 = .ok (.dup, 1) := by decide +kernel
theorem dX11_init_114 : decode cX11_init 114 = .ok (.invokespecial 69, 3) := by decide +kernel
theorem dX11_init_117 : decode cX11_init 117 = .ok (.putfield 70, 3) := by decide +kernel
theorem dX11_init_120 : decode cX11_init 120 = .ok (.aload_n 0, 1) := by decide +kernel
theorem dX11_init_121 : decode cX11_init 121 = .ok (.new 74, 3) := by decide +kernel
theorem dX11_init_124 : decode cX11_init 124 = .ok (.dup, 1) := by decide +kernel
theorem dX11_init_125 : decode cX11_init 125 = .ok (.invokespecial 76, 3) := by decide +kernel
theorem dX11_init_128 : decode cX11_init 128 = .ok (.putfield 77, 3) := by decide +kernel
theorem dX11_init_131 : decode cX11_init 131 = .ok (.aload_n 0, 1) := by decide +kernel
theorem dX11_init_132 : decode cX11_init 132 = .ok (.new 81, 3) := by decide +kernel
theorem dX11_init_135 : decode cX11_init 135 = .ok (.dup, 1) := by decide +kernel
theorem dX11_init_136 : decode cX11_init 136 = .ok (.invokespecial 83, 3) := by decide +kernel
theorem dX11_init_139 : decode cX11_init 139 = .ok (.putfield 84, 3) := by decide +kernel
theorem dX11_init_142 : decode cX11_init 142 = .ok (.aload_n 0, 1) := by decide +kernel
theorem dX11_init_143 : decode cX11_init 143 = .ok (.new 88, 3) := by decide +kernel
theorem dX11_init_146 : decode cX11_init 146 = .ok (.dup, 1) := by decide +kernel
theorem dX11_init_147 : decode cX11_init 147 = .ok (.invokespecial 90, 3) := by decide +kernel
theorem dX11_init_150 : decode cX11_init 150 = .ok (.putfield 91, 3) := by decide +kernel
theorem dX11_init_153 : decode cX11_init 153 = .ok (.iconst 0, 1) := by decide +kernel
theorem dX11_init_154 : decode cX11_init 154 = .ok (.istore_n 1, 1) := by decide +kernel
theorem dX11_init_155 : decode cX11_init 155 = .ok (.iload_n 1, 1) := by decide +kernel
theorem dX11_init_156 : decode cX11_init 156 = .ok (.aload_n 0, 1) := by decide +kernel
theorem dX11_init_157 : decode cX11_init 157 = .ok (.getfield 22, 3) := by decide +kernel
theorem dX11_init_160 : decode cX11_init 160 = .ok (.arraylength, 1) := by decide +kernel
theorem dX11_init_161 : decode cX11_init 161 = .ok (.if_icmp .ge 22, 3) := by decide +kernel
theorem dX11_init_164 : decode cX11_init 164 = .ok (.aload_n 0, 1) := by decide +kernel
theorem dX11_init_165 : decode cX11_init 165 = .ok (.getfield 22, 3) := by decide +kernel
theorem dX11_init_168 : decode cX11_init 168 = .ok (.iload_n 1, 1) := by decide +kernel
theorem dX11_init_169 : decode cX11_init 169 = .ok (.new 7, 3) := by decide +kernel
theorem dX11_init_172 : decode cX11_init 172 = .ok (.dup, 1) := by decide +kernel
theorem dX11_init_173 : decode cX11_init 173 = .ok (.invokespecial 9, 3) := by decide +kernel
theorem dX11_init_176 : decode cX11_init 176 = .ok (.aastore, 1) := by decide +kernel
theorem dX11_init_177 : decode cX11_init 177 = .ok (.iinc 1 1, 3) := by decide +kernel
theorem dX11_init_180 : decode cX11_init 180 = .ok (.goto (-25), 3) := by decide +kernel
theorem dX11_init_183 : decode cX11_init 183 = .ok (.return_, 1) := by decide +kernel
theorem dX11_event_0 : decode cX11_event 0 = .ok (.iload_n 1, 1) := by decide +kernel
theorem dX11_event_1 : decode cX11_event 1 = .ok (.iload_n 2, 1) := by decide +kernel
theorem dX11_event_2 : decode cX11_event 2 = .ok (.iload_n 3, 1) := by decide +kernel
theorem dX11_event_3 : decode cX11_event 3 = .ok (.iload 4, 2) := by decide +kernel
theorem dX11_event_5 : decode cX11_event 5 = .ok (.iload 5, 2) := by decide +kernel
theorem dX11_event_7 : decode cX11_event 7 = .ok (.iload 6, 2) := by decide +kernel
theorem dX11_event_9 : decode cX11_event 9 = .ok (.invokestatic 95, 3) := by decide +kernel
theorem dX11_event_12 : decode cX11_event 12 = .ok (.ifCond .ne 6, 3) := by decide +kernel
theorem dX11_event_15 : decode cX11_event 15 = .ok (.ldc 101, 2) := by decide +kernel
theorem dX11_event_17 : decode cX11_event 17 = .ok (.ireturn, 1) := by decide +kernel
theorem dX11_event_18 : decode cX11_event 18 = .ok (.aload_n 0, 1) := by decide +kernel
theorem dX11_event_19 : decode cX11_event 19 = .ok (.getfield 10, 3) := by decide +kernel
theorem dX11_event_22 : decode cX11_event 22 = .ok (.invokevirtual 102, 3) := by decide +kernel
theorem dX11_event_25 : decode cX11_event 25 = .ok (.bipush 16, 2) := by decide +kernel
theorem dX11_event_27 : decode cX11_event 27 = .ok (.if_icmp .lt 6, 3) := by decide +kernel
theorem dX11_event_30 : decode cX11_event 30 = .ok (.ldc 106, 2) := by decide +kernel
theorem dX11_event_32 : decode cX11_event 32 = .ok (.ireturn, 1) := by decide +kernel
theorem dX11_event_33 : decode cX11_event 33 = .ok (.aload_n 0, 1) := by decide +kernel
theorem dX11_event_34 : decode cX11_event 34 = .ok (.getfield 10, 3) := by decide +kernel
theorem dX11_event_37 : decode cX11_event 37 = .ok (.iload_n 1, 1) := by decide +kernel
theorem dX11_event_38 : decode cX11_event 38 = .ok (.iload_n 2, 1) := by decide +kernel
theorem dX11_event_39 : decode cX11_event 39 = .ok (.iload_n 3, 1) := by decide +kernel
theorem dX11_event_40 : decode cX11_event 40 = .ok (.iload 4, 2) := by decide +kernel
theorem dX11_event_42 : decode cX11_event 42 = .ok (.iload 5, 2) := by decide +kernel
theorem dX11_event_44 : decode cX11_event 44 = .ok (.iload 6, 2) := by decide +kernel
theorem dX11_event_46 : decode cX11_event 46 = .ok (.invokevirtual 107, 3) := by decide +kernel
theorem dX11_event_49 : decode cX11_event 49 = .ok (.aload_n 0, 1) := by decide +kernel
theorem dX11_event_50 : decode cX11_event 50 = .ok (.invokevirtual 111, 3) := by decide +kernel
theorem dX11_event_53 : decode cX11_event 53 = .ok (.aload_n 0, 1) := by decide +kernel
theorem dX11_event_54 : decode cX11_event 54 = .ok (.getfield 10, 3) := by decide +kernel
theorem dX11_event_57 : decode cX11_event 57 = .ok (.invokevirtual 102, 3) := by decide +kernel
theorem dX11_event_60 : decode cX11_event 60 = .ok (.iconst 1, 1) := by decide +kernel
theorem dX11_event_61 : decode cX11_event 61 = .ok (.isub, 1) := by decide +kernel
theorem dX11_event_62 : decode cX11_event 62 = .ok (.ireturn, 1) := by decide +kernel
theorem dX11_clear_0 : decode cX11_clear 0 = .ok (.aload_n 0, 1) := by decide +kernel
theorem dX11_clear_1 : decode cX11_clear 1 = .ok (.getfield 10, 3) := by decide +kernel
theorem dX11_clear_4 : decode cX11_clear 4 = .ok (.invokevirtual 102, 3) := by decide +kernel
theorem dX11_clear_7 : decode cX11_clear 7 = .ok (.istore_n 1, 1) := by decide +kernel
theorem dX11_clear_8 : decode cX11_clear 8 = .ok (.aload_n 0, 1) := by decide +kernel
theorem dX11_clear_9 : decode cX11_clear 9 = .ok (.getfield 10, 3) := by decide +kernel
theorem dX11_clear_12 : decode cX11_clear 12 = .ok (.invokevirtual 118, 3) := by decide +kernel
theorem dX11_clear_15 : decode cX11_clear 15 = .ok (.aload_n 0, 1) := by decide +kernel
theorem dX11_clear_16 : decode cX11_clear 16 = .ok (.invokevirtual 111, 3) := by decide +kernel
theorem dX11_clear_19 : decode cX11_clear 19 = .ok (.iload_n 1, 1) := by decide +kernel
theorem dX11_clear_20 : decode cX11_clear 20 = .ok (.ireturn, 1) := by decide +kernel
theorem dX11_told_0 : decode cX11_told 0 = .ok (.aload_n 0, 1) := by decide +kernel
theorem dX11_told_1 : decode cX11_told 1 = .ok (.getfield 10, 3) := by decide +kernel
theorem dX11_told_4 : decode cX11_told 4 = .ok (.iload_n 1, 1) := by decide +kernel
theorem dX11_told_5 : decode cX11_told 5 = .ok (.invokevirtual 121, 3) := by decide +kernel
theorem dX11_told_8 : decode cX11_told 8 = .ok (.ifCond .ne 6, 3) := by decide +kernel
theorem dX11_told_11 : decode cX11_told 11 = .ok (.ldc 125, 2) := by decide +kernel
theorem dX11_told_13 : decode cX11_told 13 = .ok (.ireturn, 1) := by decide +kernel
theorem dX11_told_14 : decode cX11_told 14 = .ok (.iload_n 2, 1) := by decide +kernel
theorem dX11_told_15 : decode cX11_told 15 = .ok (.ifCond .lt 9, 3) := by decide +kernel
theorem dX11_told_18 : decode cX11_told 18 = .ok (.iload_n 2, 1) := by decide +kernel
theorem dX11_told_19 : decode cX11_told 19 = .ok (.bipush 6, 2) := by decide +kernel
theorem dX11_told_21 : decode cX11_told 21 = .ok (.if_icmp .le 6, 3) := by decide +kernel
theorem dX11_told_24 : decode cX11_told 24 = .ok (.ldc 101, 2) := by decide +kernel
theorem dX11_told_26 : decode cX11_told 26 = .ok (.ireturn, 1) := by decide +kernel
theorem dX11_told_27 : decode cX11_told 27 = .ok (.iload_n 2, 1) := by decide +kernel
theorem dX11_told_28 : decode cX11_told 28 = .ok (.ifCond .ne 12, 3) := by decide +kernel
theorem dX11_told_31 : decode cX11_told 31 = .ok (.aload_n 0, 1) := by decide +kernel
theorem dX11_told_32 : decode cX11_told 32 = .ok (.getfield 10, 3) := by decide +kernel
theorem dX11_told_35 : decode cX11_told 35 = .ok (.iload_n 1, 1) := by decide +kernel
theorem dX11_told_36 : decode cX11_told 36 = .ok (.invokevirtual 126, 3) := by decide +kernel
theorem dX11_told_39 : decode cX11_told 39 = .ok (.ireturn, 1) := by decide +kernel
theorem dX11_told_40 : decode cX11_told 40 = .ok (.iload_n 2, 1) := by decide +kernel
theorem dX11_told_41 : decode cX11_told 41 = .ok (.bipush 6, 2) := by decide +kernel
theorem dX11_told_43 : decode cX11_told 43 = .ok (.if_icmp .ne 17, 3) := by decide +kernel
theorem dX11_told_46 : decode cX11_told 46 = .ok (.aload_n 0, 1) := by decide +kernel
theorem dX11_told_47 : decode cX11_told 47 = .ok (.getfield 10, 3) := by decide +kernel
theorem dX11_told_50 : decode cX11_told 50 = .ok (.iload_n 1, 1) := by decide +kernel
theorem dX11_told_51 : decode cX11_told 51 = .ok (.invokevirtual 130, 3) := by decide +kernel
theorem dX11_told_54 : decode cX11_told 54 = .ok (.invokestatic 133, 3) := by decide +kernel
theorem dX11_told_57 : decode cX11_told 57 = .ok (.goto 14, 3) := by decide +kernel
theorem dX11_told_60 : decode cX11_told 60 = .ok (.aload_n 0, 1) := by decide +kernel
theorem dX11_told_61 : decode cX11_told 61 = .ok (.getfield 10, 3) := by decide +kernel
theorem dX11_told_64 : decode cX11_told 64 = .ok (.iload_n 1, 1) := by decide +kernel
theorem dX11_told_65 : decode cX11_told 65 = .ok (.iload_n 2, 1) := by decide +kernel
theorem dX11_told_66 : decode cX11_told 66 = .ok (.iconst 1, 1) := by decide +kernel
theorem dX11_told_67 : decode cX11_told 67 = .ok (.isub, 1) := by decide +kernel
theorem dX11_told_68 : decode cX11_told 68 = .ok (.invokevirtual 137, 3) := by decide +kernel
theorem dX11_told_71 : decode cX11_told 71 = .ok (.ireturn, 1) := by decide +kernel
theorem dX11_loose_0 : decode cX11_loose 0 = .ok (.aload_n 0, 1) := by decide +kernel
theorem dX11_loose_1 : decode cX11_loose 1 = .ok (.getfield 10, 3) := by decide +kernel
theorem dX11_loose_4 : decode cX11_loose 4 = .ok (.iload_n 1, 1) := by decide +kernel
theorem dX11_loose_5 : decode cX11_loose 5 = .ok (.invokevirtual 121, 3) := by decide +kernel
theorem dX11_loose_8 : decode cX11_loose 8 = .ok (.ifCond .ne 6, 3) := by decide +kernel
theorem dX11_loose_11 : decode cX11_loose 11 = .ok (.ldc 125, 2) := by decide +kernel
theorem dX11_loose_13 : decode cX11_loose 13 = .ok (.ireturn, 1) := by decide +kernel
theorem dX11_loose_14 : decode cX11_loose 14 = .ok (.aload_n 0, 1) := by decide +kernel
theorem dX11_loose_15 : decode cX11_loose 15 = .ok (.getfield 10, 3) := by decide +kernel
theorem dX11_loose_18 : decode cX11_loose 18 = .ok (.iload_n 1, 1) := by decide +kernel
theorem dX11_loose_19 : decode cX11_loose 19 = .ok (.invokevirtual 130, 3) := by decide +kernel
theorem dX11_loose_22 : decode cX11_loose 22 = .ok (.invokestatic 133, 3) := by decide +kernel
theorem dX11_loose_25 : decode cX11_loose 25 = .ok (.istore_n 3, 1) := by decide +kernel
theorem dX11_loose_26 : decode cX11_loose 26 = .ok (.aload_n 0, 1) := by decide +kernel
theorem dX11_loose_27 : decode cX11_loose 27 = .ok (.getfield 10, 3) := by decide +kernel
theorem dX11_loose_30 : decode cX11_loose 30 = .ok (.iload_n 1, 1) := by decide +kernel
theorem dX11_loose_31 : decode cX11_loose 31 = .ok (.iload_n 2, 1) := by decide +kernel
theorem dX11_loose_32 : decode cX11_loose 32 = .ok (.invokevirtual 141, 3) := by decide +kernel
theorem dX11_loose_35 : decode cX11_loose 35 = .ok (.aload_n 0, 1) := by decide +kernel
theorem dX11_loose_36 : decode cX11_loose 36 = .ok (.getfield 56, 3) := by decide +kernel
theorem dX11_loose_39 : decode cX11_loose 39 = .ok (.invokevirtual 145, 3) := by decide +kernel
theorem dX11_loose_42 : decode cX11_loose 42 = .ok (.iload_n 3, 1) := by decide +kernel
theorem dX11_loose_43 : decode cX11_loose 43 = .ok (.ireturn, 1) := by decide +kernel
theorem dX11_count_0 : decode cX11_count 0 = .ok (.iload_n 1, 1) := by decide +kernel
theorem dX11_count_1 : decode cX11_count 1 = .ok (.tableswitch 128 0 8 #[51, 59, 67, 75, 83, 91, 96, 104, 116], 51) := by decide +kernel
theorem dX11_count_52 : decode cX11_count 52 = .ok (.aload_n 0, 1) := by decide +kernel
theorem dX11_count_53 : decode cX11_count 53 = .ok (.getfield 10, 3) := by decide +kernel
theorem dX11_count_56 : decode cX11_count 56 = .ok (.invokevirtual 102, 3) := by decide +kernel
theorem dX11_count_59 : decode cX11_count 59 = .ok (.ireturn, 1) := by decide +kernel
theorem dX11_count_60 : decode cX11_count 60 = .ok (.aload_n 0, 1) := by decide +kernel
theorem dX11_count_61 : decode cX11_count 61 = .ok (.getfield 10, 3) := by decide +kernel
theorem dX11_count_64 : decode cX11_count 64 = .ok (.invokevirtual 155, 3) := by decide +kernel
theorem dX11_count_67 : decode cX11_count 67 = .ok (.ireturn, 1) := by decide +kernel
theorem dX11_count_68 : decode cX11_count 68 = .ok (.aload_n 0, 1) := by decide +kernel
theorem dX11_count_69 : decode cX11_count 69 = .ok (.getfield 63, 3) := by decide +kernel
theorem dX11_count_72 : decode cX11_count 72 = .ok (.invokevirtual 158, 3) := by decide +kernel
theorem dX11_count_75 : decode cX11_count 75 = .ok (.ireturn, 1) := by decide +kernel
theorem dX11_count_76 : decode cX11_count 76 = .ok (.aload_n 0, 1) := by decide +kernel
theorem dX11_count_77 : decode cX11_count 77 = .ok (.getfield 70, 3) := by decide +kernel
theorem dX11_count_80 : decode cX11_count 80 = .ok (.invokevirtual 159, 3) := by decide +kernel
theorem dX11_count_83 : decode cX11_count 83 = .ok (.ireturn, 1) := by decide +kernel
theorem dX11_count_84 : decode cX11_count 84 = .ok (.aload_n 0, 1) := by decide +kernel
theorem dX11_count_85 : decode cX11_count 85 = .ok (.getfield 16, 3) := by decide +kernel
theorem dX11_count_88 : decode cX11_count 88 = .ok (.invokevirtual 102, 3) := by decide +kernel
theorem dX11_count_91 : decode cX11_count 91 = .ok (.ireturn, 1) := by decide +kernel
theorem dX11_count_92 : decode cX11_count 92 = .ok (.aload_n 0, 1) := by decide +kernel
theorem dX11_count_93 : decode cX11_count 93 = .ok (.invokevirtual 162, 3) := by decide +kernel
theorem dX11_count_96 : decode cX11_count 96 = .ok (.ireturn, 1) := by decide +kernel
theorem dX11_count_97 : decode cX11_count 97 = .ok (.aload_n 0, 1) := by decide +kernel
theorem dX11_count_98 : decode cX11_count 98 = .ok (.getfield 33, 3) := by decide +kernel
theorem dX11_count_101 : decode cX11_count 101 = .ok (.invokevirtual 165, 3) := by decide +kernel
theorem dX11_count_104 : decode cX11_count 104 = .ok (.ireturn, 1) := by decide +kernel
theorem dX11_count_105 : decode cX11_count 105 = .ok (.aload_n 0, 1) := by decide +kernel
theorem dX11_count_106 : decode cX11_count 106 = .ok (.getfield 42, 3) := by decide +kernel
theorem dX11_count_109 : decode cX11_count 109 = .ok (.aload_n 0, 1) := by decide +kernel
theorem dX11_count_110 : decode cX11_count 110 = .ok (.getfield 10, 3) := by decide +kernel
theorem dX11_count_113 : decode cX11_count 113 = .ok (.invokevirtual 166, 3) := by decide +kernel
theorem dX11_count_116 : decode cX11_count 116 = .ok (.ireturn, 1) := by decide +kernel
theorem dX11_count_117 : decode cX11_count 117 = .ok (.aload_n 0, 1) := by decide +kernel
theorem dX11_count_118 : decode cX11_count 118 = .ok (.getfield 63, 3) := by decide +kernel
theorem dX11_count_121 : decode cX11_count 121 = .ok (.aload_n 0, 1) := by decide +kernel
theorem dX11_count_122 : decode cX11_count 122 = .ok (.getfield 42, 3) := by decide +kernel
theorem dX11_count_125 : decode cX11_count 125 = .ok (.invokevirtual 169, 3) := by decide +kernel
theorem dX11_count_128 : decode cX11_count 128 = .ok (.ireturn, 1) := by decide +kernel
theorem dX11_count_129 : decode cX11_count 129 = .ok (.ldc 101, 2) := by decide +kernel
theorem dX11_count_131 : decode cX11_count 131 = .ok (.ireturn, 1) := by decide +kernel
theorem dX11_skin_0 : decode cX11_skin 0 = .ok (.iload_n 1, 1) := by decide +kernel
theorem dX11_skin_1 : decode cX11_skin 1 = .ok (.invokestatic 186, 3) := by decide +kernel
theorem dX11_skin_4 : decode cX11_skin 4 = .ok (.ifCond .eq 19, 3) := by decide +kernel
theorem dX11_skin_7 : decode cX11_skin 7 = .ok (.iload_n 2, 1) := by decide +kernel
theorem dX11_skin_8 : decode cX11_skin 8 = .ok (.invokestatic 186, 3) := by decide +kernel
theorem dX11_skin_11 : decode cX11_skin 11 = .ok (.ifCond .eq 12, 3) := by decide +kernel
theorem dX11_skin_14 : decode cX11_skin 14 = .ok (.iload_n 3, 1) := by decide +kernel
theorem dX11_skin_15 : decode cX11_skin 15 = .ok (.ifCond .lt 8, 3) := by decide +kernel
theorem dX11_skin_18 : decode cX11_skin 18 = .ok (.iload_n 3, 1) := by decide +kernel
theorem dX11_skin_19 : decode cX11_skin 19 = .ok (.iconst 1, 1) := by decide +kernel
theorem dX11_skin_20 : decode cX11_skin 20 = .ok (.if_icmp .le 6, 3) := by decide +kernel
theorem dX11_skin_23 : decode cX11_skin 23 = .ok (.ldc 101, 2) := by decide +kernel
theorem dX11_skin_25 : decode cX11_skin 25 = .ok (.ireturn, 1) := by decide +kernel
theorem dX11_skin_26 : decode cX11_skin 26 = .ok (.aload_n 0, 1) := by decide +kernel
theorem dX11_skin_27 : decode cX11_skin 27 = .ok (.getfield 42, 3) := by decide +kernel
theorem dX11_skin_30 : decode cX11_skin 30 = .ok (.iload_n 1, 1) := by decide +kernel
theorem dX11_skin_31 : decode cX11_skin 31 = .ok (.iload_n 2, 1) := by decide +kernel
theorem dX11_skin_32 : decode cX11_skin 32 = .ok (.invokestatic 192, 3) := by decide +kernel
theorem dX11_skin_35 : decode cX11_skin 35 = .ok (.invokevirtual 195, 3) := by decide +kernel
theorem dX11_skin_38 : decode cX11_skin 38 = .ok (.astore 4, 2) := by decide +kernel
theorem dX11_skin_40 : decode cX11_skin 40 = .ok (.iload_n 3, 1) := by decide +kernel
theorem dX11_skin_41 : decode cX11_skin 41 = .ok (.ifCond .ne 11, 3) := by decide +kernel
theorem dX11_skin_44 : decode cX11_skin 44 = .ok (.aload 4, 2) := by decide +kernel
theorem dX11_skin_46 : decode cX11_skin 46 = .ok (.invokevirtual 202, 3) := by decide +kernel
theorem dX11_skin_49 : decode cX11_skin 49 = .ok (.goto 8, 3) := by decide +kernel
theorem dX11_skin_52 : decode cX11_skin 52 = .ok (.aload 4, 2) := by decide +kernel
theorem dX11_skin_54 : decode cX11_skin 54 = .ok (.invokevirtual 205, 3) := by decide +kernel
theorem dX11_skin_57 : decode cX11_skin 57 = .ok (.ireturn, 1) := by decide +kernel
theorem dX11_amount_0 : decode cX11_amount 0 = .ok (.iload_n 1, 1) := by decide +kernel
theorem dX11_amount_1 : decode cX11_amount 1 = .ok (.invokestatic 208, 3) := by decide +kernel
theorem dX11_amount_4 : decode cX11_amount 4 = .ok (.ifCond .eq 12, 3) := by decide +kernel
theorem dX11_amount_7 : decode cX11_amount 7 = .ok (.iload_n 2, 1) := by decide +kernel
theorem dX11_amount_8 : decode cX11_amount 8 = .ok (.ifCond .lt 8, 3) := by decide +kernel
theorem dX11_amount_11 : decode cX11_amount 11 = .ok (.iload_n 2, 1) := by decide +kernel
theorem dX11_amount_12 : decode cX11_amount 12 = .ok (.iconst 2, 1) := by decide +kernel
theorem dX11_amount_13 : decode cX11_amount 13 = .ok (.if_icmp .le 6, 3) := by decide +kernel
theorem dX11_amount_16 : decode cX11_amount 16 = .ok (.ldc 101, 2) := by decide +kernel
theorem dX11_amount_18 : decode cX11_amount 18 = .ok (.ireturn, 1) := by decide +kernel
theorem dX11_amount_19 : decode cX11_amount 19 = .ok (.iload_n 2, 1) := by decide +kernel
theorem dX11_amount_20 : decode cX11_amount 20 = .ok (.ifCond .ne 12, 3) := by decide +kernel
theorem dX11_amount_23 : decode cX11_amount 23 = .ok (.aload_n 0, 1) := by decide +kernel
theorem dX11_amount_24 : decode cX11_amount 24 = .ok (.getfield 42, 3) := by decide +kernel
theorem dX11_amount_27 : decode cX11_amount 27 = .ok (.iload_n 1, 1) := by decide +kernel
theorem dX11_amount_28 : decode cX11_amount 28 = .ok (.invokevirtual 221, 3) := by decide +kernel
theorem dX11_amount_31 : decode cX11_amount 31 = .ok (.ireturn, 1) := by decide +kernel
theorem dX11_amount_32 : decode cX11_amount 32 = .ok (.aload_n 0, 1) := by decide +kernel
theorem dX11_amount_33 : decode cX11_amount 33 = .ok (.getfield 10, 3) := by decide +kernel
theorem dX11_amount_36 : decode cX11_amount 36 = .ok (.invokevirtual 155, 3) := by decide +kernel
theorem dX11_amount_39 : decode cX11_amount 39 = .ok (.iconst 4, 1) := by decide +kernel
theorem dX11_amount_40 : decode cX11_amount 40 = .ok (.if_icmp .le 6, 3) := by decide +kernel
theorem dX11_amount_43 : decode cX11_amount 43 = .ok (.ldc 222, 2) := by decide +kernel
theorem dX11_amount_45 : decode cX11_amount 45 = .ok (.ireturn, 1) := by decide +kernel
theorem dX11_amount_46 : decode cX11_amount 46 = .ok (.aload_n 0, 1) := by decide +kernel
theorem dX11_amount_47 : decode cX11_amount 47 = .ok (.getfield 56, 3) := by decide +kernel
theorem dX11_amount_50 : decode cX11_amount 50 = .ok (.aload_n 0, 1) := by decide +kernel
theorem dX11_amount_51 : decode cX11_amount 51 = .ok (.getfield 10, 3) := by decide +kernel
theorem dX11_amount_54 : decode cX11_amount 54 = .ok (.invokevirtual 223, 3) := by decide +kernel
theorem dX11_amount_57 : decode cX11_amount 57 = .ok (.iload_n 2, 1) := by decide +kernel
theorem dX11_amount_58 : decode cX11_amount 58 = .ok (.iconst 1, 1) := by decide +kernel
theorem dX11_amount_59 : decode cX11_amount 59 = .ok (.if_icmp .ne 14, 3) := by decide +kernel
theorem dX11_amount_62 : decode cX11_amount 62 = .ok (.aload_n 0, 1) := by decide +kernel
theorem dX11_amount_63 : decode cX11_amount 63 = .ok (.getfield 56, 3) := by decide +kernel
theorem dX11_amount_66 : decode cX11_amount 66 = .ok (.iload_n 1, 1) := by decide +kernel
theorem dX11_amount_67 : decode cX11_amount 67 = .ok (.invokevirtual 226, 3) := by decide +kernel
theorem dX11_amount_70 : decode cX11_amount 70 = .ok (.goto 11, 3) := by decide +kernel
theorem dX11_amount_73 : decode cX11_amount 73 = .ok (.aload_n 0, 1) := by decide +kernel
theorem dX11_amount_74 : decode cX11_amount 74 = .ok (.getfield 56, 3) := by decide +kernel
theorem dX11_amount_77 : decode cX11_amount 77 = .ok (.iload_n 1, 1) := by decide +kernel
theorem dX11_amount_78 : decode cX11_amount 78 = .ok (.invokevirtual 229, 3) := by decide +kernel
theorem dX11_amount_81 : decode cX11_amount 81 = .ok (.ireturn, 1) := by decide +kernel
theorem dX11_sight_0 : decode cX11_sight 0 = .ok (.iload_n 1, 1) := by decide +kernel
theorem dX11_sight_1 : decode cX11_sight 1 = .ok (.iload_n 2, 1) := by decide +kernel
theorem dX11_sight_2 : decode cX11_sight 2 = .ok (.iload_n 3, 1) := by decide +kernel
theorem dX11_sight_3 : decode cX11_sight 3 = .ok (.iload 4, 2) := by decide +kernel
theorem dX11_sight_5 : decode cX11_sight 5 = .ok (.iload 5, 2) := by decide +kernel
theorem dX11_sight_7 : decode cX11_sight 7 = .ok (.iload 6, 2) := by decide +kernel
theorem dX11_sight_9 : decode cX11_sight 9 = .ok (.invokestatic 251, 3) := by decide +kernel
theorem dX11_sight_12 : decode cX11_sight 12 = .ok (.ifCond .ne 6, 3) := by decide +kernel
theorem dX11_sight_15 : decode cX11_sight 15 = .ok (.ldc 101, 2) := by decide +kernel
theorem dX11_sight_17 : decode cX11_sight 17 = .ok (.ireturn, 1) := by decide +kernel
theorem dX11_sight_18 : decode cX11_sight 18 = .ok (.aload_n 0, 1) := by decide +kernel
theorem dX11_sight_19 : decode cX11_sight 19 = .ok (.getfield 63, 3) := by decide +kernel
theorem dX11_sight_22 : decode cX11_sight 22 = .ok (.invokevirtual 158, 3) := by decide +kernel
theorem dX11_sight_25 : decode cX11_sight 25 = .ok (.bipush 30, 2) := by decide +kernel
theorem dX11_sight_27 : decode cX11_sight 27 = .ok (.if_icmp .lt 6, 3) := by decide +kernel
theorem dX11_sight_30 : decode cX11_sight 30 = .ok (.ldc 106, 2) := by decide +kernel
theorem dX11_sight_32 : decode cX11_sight 32 = .ok (.ireturn, 1) := by decide +kernel
theorem dX11_sight_33 : decode cX11_sight 33 = .ok (.aload_n 0, 1) := by decide +kernel
theorem dX11_sight_34 : decode cX11_sight 34 = .ok (.getfield 63, 3) := by decide +kernel
theorem dX11_sight_37 : decode cX11_sight 37 = .ok (.iload_n 1, 1) := by decide +kernel
theorem dX11_sight_38 : decode cX11_sight 38 = .ok (.iload_n 2, 1) := by decide +kernel
theorem dX11_sight_39 : decode cX11_sight 39 = .ok (.iload_n 3, 1) := by decide +kernel
theorem dX11_sight_40 : decode cX11_sight 40 = .ok (.iload 4, 2) := by decide +kernel
theorem dX11_sight_42 : decode cX11_sight 42 = .ok (.iload 5, 2) := by decide +kernel
theorem dX11_sight_44 : decode cX11_sight 44 = .ok (.iload 6, 2) := by decide +kernel
theorem dX11_sight_46 : decode cX11_sight 46 = .ok (.invokevirtual 252, 3) := by decide +kernel
theorem dX11_sight_49 : decode cX11_sight 49 = .ok (.aload_n 0, 1) := by decide +kernel
theorem dX11_sight_50 : decode cX11_sight 50 = .ok (.getfield 84, 3) := by decide +kernel
theorem dX11_sight_53 : decode cX11_sight 53 = .ok (.invokevirtual 253, 3) := by decide +kernel
theorem dX11_sight_56 : decode cX11_sight 56 = .ok (.aload_n 0, 1) := by decide +kernel
theorem dX11_sight_57 : decode cX11_sight 57 = .ok (.getfield 63, 3) := by decide +kernel
theorem dX11_sight_60 : decode cX11_sight 60 = .ok (.invokevirtual 158, 3) := by decide +kernel
theorem dX11_sight_63 : decode cX11_sight 63 = .ok (.iconst 1, 1) := by decide +kernel
theorem dX11_sight_64 : decode cX11_sight 64 = .ok (.isub, 1) := by decide +kernel
theorem dX11_sight_65 : decode cX11_sight 65 = .ok (.ireturn, 1) := by decide +kernel
theorem dX11_maybe_0 : decode cX11_maybe 0 = .ok (.iload_n 1, 1) := by decide +kernel
theorem dX11_maybe_1 : decode cX11_maybe 1 = .ok (.iload_n 2, 1) := by decide +kernel
theorem dX11_maybe_2 : decode cX11_maybe 2 = .ok (.iload_n 3, 1) := by decide +kernel
theorem dX11_maybe_3 : decode cX11_maybe 3 = .ok (.iload 4, 2) := by decide +kernel
theorem dX11_maybe_5 : decode cX11_maybe 5 = .ok (.iload 5, 2) := by decide +kernel
theorem dX11_maybe_7 : decode cX11_maybe 7 = .ok (.iload 6, 2) := by decide +kernel
theorem dX11_maybe_9 : decode cX11_maybe 9 = .ok (.invokestatic 95, 3) := by decide +kernel
theorem dX11_maybe_12 : decode cX11_maybe 12 = .ok (.ifCond .ne 6, 3) := by decide +kernel
theorem dX11_maybe_15 : decode cX11_maybe 15 = .ok (.ldc 101, 2) := by decide +kernel
theorem dX11_maybe_17 : decode cX11_maybe 17 = .ok (.ireturn, 1) := by decide +kernel
theorem dX11_maybe_18 : decode cX11_maybe 18 = .ok (.aload_n 0, 1) := by decide +kernel
theorem dX11_maybe_19 : decode cX11_maybe 19 = .ok (.getfield 16, 3) := by decide +kernel
theorem dX11_maybe_22 : decode cX11_maybe 22 = .ok (.invokevirtual 102, 3) := by decide +kernel
theorem dX11_maybe_25 : decode cX11_maybe 25 = .ok (.iconst 4, 1) := by decide +kernel
theorem dX11_maybe_26 : decode cX11_maybe 26 = .ok (.if_icmp .lt 6, 3) := by decide +kernel
theorem dX11_maybe_29 : decode cX11_maybe 29 = .ok (.ldc 106, 2) := by decide +kernel
theorem dX11_maybe_31 : decode cX11_maybe 31 = .ok (.ireturn, 1) := by decide +kernel
theorem dX11_maybe_32 : decode cX11_maybe 32 = .ok (.aload_n 0, 1) := by decide +kernel
theorem dX11_maybe_33 : decode cX11_maybe 33 = .ok (.getfield 16, 3) := by decide +kernel
theorem dX11_maybe_36 : decode cX11_maybe 36 = .ok (.iload_n 1, 1) := by decide +kernel
theorem dX11_maybe_37 : decode cX11_maybe 37 = .ok (.iload_n 2, 1) := by decide +kernel
theorem dX11_maybe_38 : decode cX11_maybe 38 = .ok (.iload_n 3, 1) := by decide +kernel
theorem dX11_maybe_39 : decode cX11_maybe 39 = .ok (.iload 4, 2) := by decide +kernel
theorem dX11_maybe_41 : decode cX11_maybe 41 = .ok (.iload 5, 2) := by decide +kernel
theorem dX11_maybe_43 : decode cX11_maybe 43 = .ok (.iload 6, 2) := by decide +kernel
theorem dX11_maybe_45 : decode cX11_maybe 45 = .ok (.invokevirtual 107, 3) := by decide +kernel
theorem dX11_maybe_48 : decode cX11_maybe 48 = .ok (.aload_n 0, 1) := by decide +kernel
theorem dX11_maybe_49 : decode cX11_maybe 49 = .ok (.getfield 84, 3) := by decide +kernel
theorem dX11_maybe_52 : decode cX11_maybe 52 = .ok (.invokevirtual 253, 3) := by decide +kernel
theorem dX11_maybe_55 : decode cX11_maybe 55 = .ok (.aload_n 0, 1) := by decide +kernel
theorem dX11_maybe_56 : decode cX11_maybe 56 = .ok (.getfield 16, 3) := by decide +kernel
theorem dX11_maybe_59 : decode cX11_maybe 59 = .ok (.invokevirtual 102, 3) := by decide +kernel
theorem dX11_maybe_62 : decode cX11_maybe 62 = .ok (.iconst 1, 1) := by decide +kernel
theorem dX11_maybe_63 : decode cX11_maybe 63 = .ok (.isub, 1) := by decide +kernel
theorem dX11_maybe_64 : decode cX11_maybe 64 = .ok (.ireturn, 1) := by decide +kernel
theorem dX11_never_0 : decode cX11_never 0 = .ok (.aload_n 0, 1) := by decide +kernel
theorem dX11_never_1 : decode cX11_never 1 = .ok (.getfield 16, 3) := by decide +kernel
theorem dX11_never_4 : decode cX11_never 4 = .ok (.invokevirtual 102, 3) := by decide +kernel
theorem dX11_never_7 : decode cX11_never 7 = .ok (.istore_n 1, 1) := by decide +kernel
theorem dX11_never_8 : decode cX11_never 8 = .ok (.aload_n 0, 1) := by decide +kernel
theorem dX11_never_9 : decode cX11_never 9 = .ok (.getfield 16, 3) := by decide +kernel
theorem dX11_never_12 : decode cX11_never 12 = .ok (.invokevirtual 118, 3) := by decide +kernel
theorem dX11_never_15 : decode cX11_never 15 = .ok (.aload_n 0, 1) := by decide +kernel
theorem dX11_never_16 : decode cX11_never 16 = .ok (.getfield 84, 3) := by decide +kernel
theorem dX11_never_19 : decode cX11_never 19 = .ok (.invokevirtual 253, 3) := by decide +kernel
theorem dX11_never_22 : decode cX11_never 22 = .ok (.iload_n 1, 1) := by decide +kernel
theorem dX11_never_23 : decode cX11_never 23 = .ok (.ireturn, 1) := by decide +kernel
theorem dX11_stories_0 : decode cX11_stories 0 = .ok (.aload_n 0, 1) := by decide +kernel
theorem dX11_stories_1 : decode cX11_stories 1 = .ok (.iload_n 1, 1) := by decide +kernel
theorem dX11_stories_2 : decode cX11_stories 2 = .ok (.invokevirtual 312, 3) := by decide +kernel
theorem dX11_stories_5 : decode cX11_stories 5 = .ok (.istore_n 2, 1) := by decide +kernel
theorem dX11_stories_6 : decode cX11_stories 6 = .ok (.iload_n 2, 1) := by decide +kernel
theorem dX11_stories_7 : decode cX11_stories 7 = .ok (.ifCond .eq 7, 3) := by decide +kernel
theorem dX11_stories_10 : decode cX11_stories 10 = .ok (.iload_n 2, 1) := by decide +kernel
theorem dX11_stories_11 : decode cX11_stories 11 = .ok (.goto 10, 3) := by decide +kernel
theorem dX11_stories_14 : decode cX11_stories 14 = .ok (.aload_n 0, 1) := by decide +kernel
theorem dX11_stories_15 : decode cX11_stories 15 = .ok (.getfield 84, 3) := by decide +kernel
theorem dX11_stories_18 : decode cX11_stories 18 = .ok (.invokevirtual 315, 3) := by decide +kernel
theorem dX11_stories_21 : decode cX11_stories 21 = .ok (.ireturn, 1) := by decide +kernel
theorem dX11_story_0 : decode cX11_story 0 = .ok (.aload_n 0, 1) := by decide +kernel
theorem dX11_story_1 : decode cX11_story 1 = .ok (.iload_n 1, 1) := by decide +kernel
theorem dX11_story_2 : decode cX11_story 2 = .ok (.invokevirtual 312, 3) := by decide +kernel
theorem dX11_story_5 : decode cX11_story 5 = .ok (.istore 4, 2) := by decide +kernel
theorem dX11_story_7 : decode cX11_story 7 = .ok (.iload 4, 2) := by decide +kernel
theorem dX11_story_9 : decode cX11_story 9 = .ok (.ifCond .eq 6, 3) := by decide +kernel
theorem dX11_story_12 : decode cX11_story 12 = .ok (.iload 4, 2) := by decide +kernel
theorem dX11_story_14 : decode cX11_story 14 = .ok (.ireturn, 1) := by decide +kernel
theorem dX11_story_15 : decode cX11_story 15 = .ok (.iload_n 2, 1) := by decide +kernel
theorem dX11_story_16 : decode cX11_story 16 = .ok (.aload_n 0, 1) := by decide +kernel
theorem dX11_story_17 : decode cX11_story 17 = .ok (.getfield 84, 3) := by decide +kernel
theorem dX11_story_20 : decode cX11_story 20 = .ok (.invokevirtual 315, 3) := by decide +kernel
theorem dX11_story_23 : decode cX11_story 23 = .ok (.invokestatic 270, 3) := by decide +kernel
theorem dX11_story_26 : decode cX11_story 26 = .ok (.ifCond .ne 5, 3) := by decide +kernel
theorem dX11_story_29 : decode cX11_story 29 = .ok (.iconst (-1), 1) := by decide +kernel
theorem dX11_story_30 : decode cX11_story 30 = .ok (.ireturn, 1) := by decide +kernel
theorem dX11_story_31 : decode cX11_story 31 = .ok (.iload_n 3, 1) := by decide +kernel
theorem dX11_story_32 : decode cX11_story 32 = .ok (.iconst (-1), 1) := by decide +kernel
theorem dX11_story_33 : decode cX11_story 33 = .ok (.if_icmp .ne 21, 3) := by decide +kernel
theorem dX11_story_36 : decode cX11_story 36 = .ok (.aload_n 0, 1) := by decide +kernel
theorem dX11_story_37 : decode cX11_story 37 = .ok (.getfield 84, 3) := by decide +kernel
theorem dX11_story_40 : decode cX11_story 40 = .ok (.aload_n 0, 1) := by decide +kernel
theorem dX11_story_41 : decode cX11_story 41 = .ok (.getfield 84, 3) := by decide +kernel
theorem dX11_story_44 : decode cX11_story 44 = .ok (.iload_n 2, 1) := by decide +kernel
theorem dX11_story_45 : decode cX11_story 45 = .ok (.invokevirtual 318, 3) := by decide +kernel
theorem dX11_story_48 : decode cX11_story 48 = .ok (.invokevirtual 321, 3) := by decide +kernel
theorem dX11_story_51 : decode cX11_story 51 = .ok (.goto 19, 3) := by decide +kernel
theorem dX11_story_54 : decode cX11_story 54 = .ok (.aload_n 0, 1) := by decide +kernel
theorem dX11_story_55 : decode cX11_story 55 = .ok (.getfield 84, 3) := by decide +kernel
theorem dX11_story_58 : decode cX11_story 58 = .ok (.aload_n 0, 1) := by decide +kernel
theorem dX11_story_59 : decode cX11_story 59 = .ok (.getfield 84, 3) := by decide +kernel
theorem dX11_story_62 : decode cX11_story 62 = .ok (.iload_n 2, 1) := by decide +kernel
theorem dX11_story_63 : decode cX11_story 63 = .ok (.invokevirtual 318, 3) := by decide +kernel
theorem dX11_story_66 : decode cX11_story 66 = .ok (.iload_n 3, 1) := by decide +kernel
theorem dX11_story_67 : decode cX11_story 67 = .ok (.invokevirtual 324, 3) := by decide +kernel
theorem dX11_story_70 : decode cX11_story 70 = .ok (.ireturn, 1) := by decide +kernel
theorem dX11_next_0 : decode cX11_next 0 = .ok (.iload_n 2, 1) := by decide +kernel
theorem dX11_next_1 : decode cX11_next 1 = .ok (.ifCond .lt 8, 3) := by decide +kernel
theorem dX11_next_4 : decode cX11_next 4 = .ok (.iload_n 2, 1) := by decide +kernel
theorem dX11_next_5 : decode cX11_next 5 = .ok (.iconst 2, 1) := by decide +kernel
theorem dX11_next_6 : decode cX11_next 6 = .ok (.if_icmp .le 6, 3) := by decide +kernel
theorem dX11_next_9 : decode cX11_next 9 = .ok (.ldc 101, 2) := by decide +kernel
theorem dX11_next_11 : decode cX11_next 11 = .ok (.ireturn, 1) := by decide +kernel
theorem dX11_next_12 : decode cX11_next 12 = .ok (.aload_n 0, 1) := by decide +kernel
theorem dX11_next_13 : decode cX11_next 13 = .ok (.iload_n 1, 1) := by decide +kernel
theorem dX11_next_14 : decode cX11_next 14 = .ok (.invokevirtual 312, 3) := by decide +kernel
theorem dX11_next_17 : decode cX11_next 17 = .ok (.istore_n 3, 1) := by decide +kernel
theorem dX11_next_18 : decode cX11_next 18 = .ok (.iload_n 3, 1) := by decide +kernel
theorem dX11_next_19 : decode cX11_next 19 = .ok (.ifCond .eq 5, 3) := by decide +kernel
theorem dX11_next_22 : decode cX11_next 22 = .ok (.iload_n 3, 1) := by decide +kernel
theorem dX11_next_23 : decode cX11_next 23 = .ok (.ireturn, 1) := by decide +kernel
theorem dX11_next_24 : decode cX11_next 24 = .ok (.aload_n 0, 1) := by decide +kernel
theorem dX11_next_25 : decode cX11_next 25 = .ok (.getfield 84, 3) := by decide +kernel
theorem dX11_next_28 : decode cX11_next 28 = .ok (.invokevirtual 315, 3) := by decide +kernel
theorem dX11_next_31 : decode cX11_next 31 = .ok (.ifCond .ne 6, 3) := by decide +kernel
theorem dX11_next_34 : decode cX11_next 34 = .ok (.ldc 114, 2) := by decide +kernel
theorem dX11_next_36 : decode cX11_next 36 = .ok (.ireturn, 1) := by decide +kernel
theorem dX11_next_37 : decode cX11_next 37 = .ok (.aload_n 0, 1) := by decide +kernel
theorem dX11_next_38 : decode cX11_next 38 = .ok (.getfield 91, 3) := by decide +kernel
theorem dX11_next_41 : decode cX11_next 41 = .ok (.aload_n 0, 1) := by decide +kernel
theorem dX11_next_42 : decode cX11_next 42 = .ok (.getfield 84, 3) := by decide +kernel
theorem dX11_next_45 : decode cX11_next 45 = .ok (.aload_n 0, 1) := by decide +kernel
theorem dX11_next_46 : decode cX11_next 46 = .ok (.getfield 42, 3) := by decide +kernel
theorem dX11_next_49 : decode cX11_next 49 = .ok (.aload_n 0, 1) := by decide +kernel
theorem dX11_next_50 : decode cX11_next 50 = .ok (.getfield 16, 3) := by decide +kernel
theorem dX11_next_53 : decode cX11_next 53 = .ok (.invokevirtual 327, 3) := by decide +kernel
theorem dX11_next_56 : decode cX11_next 56 = .ok (.iload_n 2, 1) := by decide +kernel
theorem dX11_next_57 : decode cX11_next 57 = .ok (.ifCond .ne 11, 3) := by decide +kernel
theorem dX11_next_60 : decode cX11_next 60 = .ok (.aload_n 0, 1) := by decide +kernel
theorem dX11_next_61 : decode cX11_next 61 = .ok (.getfield 91, 3) := by decide +kernel
theorem dX11_next_64 : decode cX11_next 64 = .ok (.invokevirtual 330, 3) := by decide +kernel
theorem dX11_next_67 : decode cX11_next 67 = .ok (.ireturn, 1) := by decide +kernel
theorem dX11_next_68 : decode cX11_next 68 = .ok (.iload_n 2, 1) := by decide +kernel
theorem dX11_next_69 : decode cX11_next 69 = .ok (.iconst 1, 1) := by decide +kernel
theorem dX11_next_70 : decode cX11_next 70 = .ok (.if_icmp .ne 13, 3) := by decide +kernel
theorem dX11_next_73 : decode cX11_next 73 = .ok (.aload_n 0, 1) := by decide +kernel
theorem dX11_next_74 : decode cX11_next 74 = .ok (.getfield 91, 3) := by decide +kernel
theorem dX11_next_77 : decode cX11_next 77 = .ok (.invokevirtual 333, 3) := by decide +kernel
theorem dX11_next_80 : decode cX11_next 80 = .ok (.goto 10, 3) := by decide +kernel
theorem dX11_next_83 : decode cX11_next 83 = .ok (.aload_n 0, 1) := by decide +kernel
theorem dX11_next_84 : decode cX11_next 84 = .ok (.getfield 91, 3) := by decide +kernel
theorem dX11_next_87 : decode cX11_next 87 = .ok (.invokevirtual 336, 3) := by decide +kernel
theorem dX11_next_90 : decode cX11_next 90 = .ok (.ireturn, 1) := by decide +kernel
theorem dX11_take_0 : decode cX11_take 0 = .ok (.aload_n 0, 1) := by decide +kernel
theorem dX11_take_1 : decode cX11_take 1 = .ok (.iload_n 1, 1) := by decide +kernel
theorem dX11_take_2 : decode cX11_take 2 = .ok (.invokevirtual 312, 3) := by decide +kernel
theorem dX11_take_5 : decode cX11_take 5 = .ok (.istore_n 3, 1) := by decide +kernel
theorem dX11_take_6 : decode cX11_take 6 = .ok (.iload_n 3, 1) := by decide +kernel
theorem dX11_take_7 : decode cX11_take 7 = .ok (.ifCond .eq 5, 3) := by decide +kernel
theorem dX11_take_10 : decode cX11_take 10 = .ok (.iload_n 3, 1) := by decide +kernel
theorem dX11_take_11 : decode cX11_take 11 = .ok (.ireturn, 1) := by decide +kernel
theorem dX11_take_12 : decode cX11_take 12 = .ok (.iload_n 2, 1) := by decide +kernel
theorem dX11_take_13 : decode cX11_take 13 = .ok (.aload_n 0, 1) := by decide +kernel
theorem dX11_take_14 : decode cX11_take 14 = .ok (.getfield 84, 3) := by decide +kernel
theorem dX11_take_17 : decode cX11_take 17 = .ok (.invokevirtual 315, 3) := by decide +kernel
theorem dX11_take_20 : decode cX11_take 20 = .ok (.invokestatic 270, 3) := by decide +kernel
theorem dX11_take_23 : decode cX11_take 23 = .ok (.ifCond .ne 6, 3) := by decide +kernel
theorem dX11_take_26 : decode cX11_take 26 = .ok (.ldc 114, 2) := by decide +kernel
theorem dX11_take_28 : decode cX11_take 28 = .ok (.ireturn, 1) := by decide +kernel
theorem dX11_take_29 : decode cX11_take 29 = .ok (.aload_n 0, 1) := by decide +kernel
theorem dX11_take_30 : decode cX11_take 30 = .ok (.getfield 84, 3) := by decide +kernel
theorem dX11_take_33 : decode cX11_take 33 = .ok (.iload_n 2, 1) := by decide +kernel
theorem dX11_take_34 : decode cX11_take 34 = .ok (.invokevirtual 318, 3) := by decide +kernel
theorem dX11_take_37 : decode cX11_take 37 = .ok (.istore 4, 2) := by decide +kernel
theorem dX11_take_39 : decode cX11_take 39 = .ok (.iconst 0, 1) := by decide +kernel
theorem dX11_take_40 : decode cX11_take 40 = .ok (.istore 5, 2) := by decide +kernel
theorem dX11_take_42 : decode cX11_take 42 = .ok (.iload 5, 2) := by decide +kernel
theorem dX11_take_44 : decode cX11_take 44 = .ok (.aload_n 0, 1) := by decide +kernel
theorem dX11_take_45 : decode cX11_take 45 = .ok (.getfield 84, 3) := by decide +kernel
theorem dX11_take_48 : decode cX11_take 48 = .ok (.iload 4, 2) := by decide +kernel
theorem dX11_take_50 : decode cX11_take 50 = .ok (.invokevirtual 321, 3) := by decide +kernel
theorem dX11_take_53 : decode cX11_take 53 = .ok (.if_icmp .ge 31, 3) := by decide +kernel
theorem dX11_take_56 : decode cX11_take 56 = .ok (.aload_n 0, 1) := by decide +kernel
theorem dX11_take_57 : decode cX11_take 57 = .ok (.getfield 10, 3) := by decide +kernel
theorem dX11_take_60 : decode cX11_take 60 = .ok (.aload_n 0, 1) := by decide +kernel
theorem dX11_take_61 : decode cX11_take 61 = .ok (.getfield 16, 3) := by decide +kernel
theorem dX11_take_64 : decode cX11_take 64 = .ok (.aload_n 0, 1) := by decide +kernel
theorem dX11_take_65 : decode cX11_take 65 = .ok (.getfield 84, 3) := by decide +kernel
theorem dX11_take_68 : decode cX11_take 68 = .ok (.iload 4, 2) := by decide +kernel
theorem dX11_take_70 : decode cX11_take 70 = .ok (.iload 5, 2) := by decide +kernel
theorem dX11_take_72 : decode cX11_take 72 = .ok (.invokevirtual 324, 3) := by decide +kernel
theorem dX11_take_75 : decode cX11_take 75 = .ok (.invokevirtual 338, 3) := by decide +kernel
theorem dX11_take_78 : decode cX11_take 78 = .ok (.iinc 5 1, 3) := by decide +kernel
theorem dX11_take_81 : decode cX11_take 81 = .ok (.goto (-39), 3) := by decide +kernel
theorem dX11_take_84 : decode cX11_take 84 = .ok (.aload_n 0, 1) := by decide +kernel
theorem dX11_take_85 : decode cX11_take 85 = .ok (.invokevirtual 111, 3) := by decide +kernel
theorem dX11_take_88 : decode cX11_take 88 = .ok (.aload_n 0, 1) := by decide +kernel
theorem dX11_take_89 : decode cX11_take 89 = .ok (.getfield 10, 3) := by decide +kernel
theorem dX11_take_92 : decode cX11_take 92 = .ok (.invokevirtual 102, 3) := by decide +kernel
theorem dX11_take_95 : decode cX11_take 95 = .ok (.ireturn, 1) := by decide +kernel
theorem dX11_renew_0 : decode cX11_renew 0 = .ok (.aload_n 0, 1) := by decide +kernel
theorem dX11_renew_1 : decode cX11_renew 1 = .ok (.getfield 42, 3) := by decide +kernel
theorem dX11_renew_4 : decode cX11_renew 4 = .ok (.aload_n 0, 1) := by decide +kernel
theorem dX11_renew_5 : decode cX11_renew 5 = .ok (.getfield 10, 3) := by decide +kernel
theorem dX11_renew_8 : decode cX11_renew 8 = .ok (.aload_n 0, 1) := by decide +kernel
theorem dX11_renew_9 : decode cX11_renew 9 = .ok (.getfield 10, 3) := by decide +kernel
theorem dX11_renew_12 : decode cX11_renew 12 = .ok (.invokevirtual 102, 3) := by decide +kernel
theorem dX11_renew_15 : decode cX11_renew 15 = .ok (.invokevirtual 342, 3) := by decide +kernel
theorem dX11_renew_18 : decode cX11_renew 18 = .ok (.aload_n 0, 1) := by decide +kernel
theorem dX11_renew_19 : decode cX11_renew 19 = .ok (.getfield 56, 3) := by decide +kernel
theorem dX11_renew_22 : decode cX11_renew 22 = .ok (.invokevirtual 145, 3) := by decide +kernel
theorem dX11_renew_25 : decode cX11_renew 25 = .ok (.aload_n 0, 1) := by decide +kernel
theorem dX11_renew_26 : decode cX11_renew 26 = .ok (.getfield 84, 3) := by decide +kernel
theorem dX11_renew_29 : decode cX11_renew 29 = .ok (.invokevirtual 253, 3) := by decide +kernel
theorem dX11_renew_32 : decode cX11_renew 32 = .ok (.return_, 1) := by decide +kernel
theorem dX11_tellStories_0 : decode cX11_tellStories 0 = .ok (.aload_n 0, 1) := by decide +kernel
theorem dX11_tellStories_1 : decode cX11_tellStories 1 = .ok (.iload_n 1, 1) := by decide +kernel
theorem dX11_tellStories_2 : decode cX11_tellStories 2 = .ok (.invokevirtual 259, 3) := by decide +kernel
theorem dX11_tellStories_5 : decode cX11_tellStories 5 = .ok (.ifCond .ne 6, 3) := by decide +kernel
theorem dX11_tellStories_8 : decode cX11_tellStories 8 = .ok (.ldc 101, 2) := by decide +kernel
theorem dX11_tellStories_10 : decode cX11_tellStories 10 = .ok (.ireturn, 1) := by decide +kernel
theorem dX11_tellStories_11 : decode cX11_tellStories 11 = .ok (.aload_n 0, 1) := by decide +kernel
theorem dX11_tellStories_12 : decode cX11_tellStories 12 = .ok (.getfield 10, 3) := by decide +kernel
theorem dX11_tellStories_15 : decode cX11_tellStories 15 = .ok (.invokevirtual 102, 3) := by decide +kernel
theorem dX11_tellStories_18 : decode cX11_tellStories 18 = .ok (.aload_n 0, 1) := by decide +kernel
theorem dX11_tellStories_19 : decode cX11_tellStories 19 = .ok (.getfield 16, 3) := by decide +kernel
theorem dX11_tellStories_22 : decode cX11_tellStories 22 = .ok (.invokevirtual 102, 3) := by decide +kernel
theorem dX11_tellStories_25 : decode cX11_tellStories 25 = .ok (.iadd, 1) := by decide +kernel
theorem dX11_tellStories_26 : decode cX11_tellStories 26 = .ok (.bipush 16, 2) := by decide +kernel
theorem dX11_tellStories_28 : decode cX11_tellStories 28 = .ok (.if_icmp .le 6, 3) := by decide +kernel
theorem dX11_tellStories_31 : decode cX11_tellStories 31 = .ok (.ldc 106, 2) := by decide +kernel
theorem dX11_tellStories_33 : decode cX11_tellStories 33 = .ok (.ireturn, 1) := by decide +kernel
theorem dX11_tellStories_34 : decode cX11_tellStories 34 = .ok (.aload_n 0, 1) := by decide +kernel
theorem dX11_tellStories_35 : decode cX11_tellStories 35 = .ok (.getfield 84, 3) := by decide +kernel
theorem dX11_tellStories_38 : decode cX11_tellStories 38 = .ok (.aload_n 0, 1) := by decide +kernel
theorem dX11_tellStories_39 : decode cX11_tellStories 39 = .ok (.getfield 42, 3) := by decide +kernel
theorem dX11_tellStories_42 : decode cX11_tellStories 42 = .ok (.aload_n 0, 1) := by decide +kernel
theorem dX11_tellStories_43 : decode cX11_tellStories 43 = .ok (.getfield 16, 3) := by decide +kernel
theorem dX11_tellStories_46 : decode cX11_tellStories 46 = .ok (.aload_n 0, 1) := by decide +kernel
theorem dX11_tellStories_47 : decode cX11_tellStories 47 = .ok (.getfield 63, 3) := by decide +kernel
theorem dX11_tellStories_50 : decode cX11_tellStories 50 = .ok (.aload_n 0, 1) := by decide +kernel
theorem dX11_tellStories_51 : decode cX11_tellStories 51 = .ok (.iload_n 1, 1) := by decide +kernel
theorem dX11_tellStories_52 : decode cX11_tellStories 52 = .ok (.invokevirtual 262, 3) := by decide +kernel
theorem dX11_tellStories_55 : decode cX11_tellStories 55 = .ok (.invokevirtual 344, 3) := by decide +kernel
theorem dX11_tellStories_58 : decode cX11_tellStories 58 = .ok (.iconst 0, 1) := by decide +kernel
theorem dX11_tellStories_59 : decode cX11_tellStories 59 = .ok (.ireturn, 1) := by decide +kernel
theorem dX11_isKnown_0 : decode cX11_isKnown 0 = .ok (.iload_n 1, 1) := by decide +kernel
theorem dX11_isKnown_1 : decode cX11_isKnown 1 = .ok (.iconst (-1), 1) := by decide +kernel
theorem dX11_isKnown_2 : decode cX11_isKnown 2 = .ok (.if_icmp .lt 18, 3) := by decide +kernel
theorem dX11_isKnown_5 : decode cX11_isKnown 5 = .ok (.iload_n 1, 1) := by decide +kernel
theorem dX11_isKnown_6 : decode cX11_isKnown 6 = .ok (.aload_n 0, 1) := by decide +kernel
theorem dX11_isKnown_7 : decode cX11_isKnown 7 = .ok (.getfield 63, 3) := by decide +kernel
theorem dX11_isKnown_10 : decode cX11_isKnown 10 = .ok (.invokevirtual 158, 3) := by decide +kernel
theorem dX11_isKnown_13 : decode cX11_isKnown 13 = .ok (.if_icmp .gt 7, 3) := by decide +kernel
theorem dX11_isKnown_16 : decode cX11_isKnown 16 = .ok (.iconst 1, 1) := by decide +kernel
theorem dX11_isKnown_17 : decode cX11_isKnown 17 = .ok (.goto 4, 3) := by decide +kernel
theorem dX11_isKnown_20 : decode cX11_isKnown 20 = .ok (.iconst 0, 1) := by decide +kernel
theorem dX11_isKnown_21 : decode cX11_isKnown 21 = .ok (.ireturn, 1) := by decide +kernel
theorem dX11_knownOf_0 : decode cX11_knownOf 0 = .ok (.iload_n 1, 1) := by decide +kernel
theorem dX11_knownOf_1 : decode cX11_knownOf 1 = .ok (.iconst (-1), 1) := by decide +kernel
theorem dX11_knownOf_2 : decode cX11_knownOf 2 = .ok (.if_icmp .ne 13, 3) := by decide +kernel
theorem dX11_knownOf_5 : decode cX11_knownOf 5 = .ok (.aload_n 0, 1) := by decide +kernel
theorem dX11_knownOf_6 : decode cX11_knownOf 6 = .ok (.getfield 63, 3) := by decide +kernel
theorem dX11_knownOf_9 : decode cX11_knownOf 9 = .ok (.invokevirtual 158, 3) := by decide +kernel
theorem dX11_knownOf_12 : decode cX11_knownOf 12 = .ok (.goto 4, 3) := by decide +kernel
theorem dX11_knownOf_15 : decode cX11_knownOf 15 = .ok (.iload_n 1, 1) := by decide +kernel
theorem dX11_knownOf_16 : decode cX11_knownOf 16 = .ok (.ireturn, 1) := by decide +kernel
theorem dX11_keptVersions_0 : decode cX11_keptVersions 0 = .ok (.iconst 0, 1) := by decide +kernel
theorem dX11_keptVersions_1 : decode cX11_keptVersions 1 = .ok (.istore_n 1, 1) := by decide +kernel
theorem dX11_keptVersions_2 : decode cX11_keptVersions 2 = .ok (.iconst 0, 1) := by decide +kernel
theorem dX11_keptVersions_3 : decode cX11_keptVersions 3 = .ok (.istore_n 2, 1) := by decide +kernel
theorem dX11_keptVersions_4 : decode cX11_keptVersions 4 = .ok (.iload_n 2, 1) := by decide +kernel
theorem dX11_keptVersions_5 : decode cX11_keptVersions 5 = .ok (.aload_n 0, 1) := by decide +kernel
theorem dX11_keptVersions_6 : decode cX11_keptVersions 6 = .ok (.getfield 26, 3) := by decide +kernel
theorem dX11_keptVersions_9 : decode cX11_keptVersions 9 = .ok (.arraylength, 1) := by decide +kernel
theorem dX11_keptVersions_10 : decode cX11_keptVersions 10 = .ok (.if_icmp .ge 21, 3) := by decide +kernel
theorem dX11_keptVersions_13 : decode cX11_keptVersions 13 = .ok (.aload_n 0, 1) := by decide +kernel
theorem dX11_keptVersions_14 : decode cX11_keptVersions 14 = .ok (.getfield 26, 3) := by decide +kernel
theorem dX11_keptVersions_17 : decode cX11_keptVersions 17 = .ok (.iload_n 2, 1) := by decide +kernel
theorem dX11_keptVersions_18 : decode cX11_keptVersions 18 = .ok (.baload, 1) := by decide +kernel
theorem dX11_keptVersions_19 : decode cX11_keptVersions 19 = .ok (.ifCond .eq 6, 3) := by decide +kernel
theorem dX11_keptVersions_22 : decode cX11_keptVersions 22 = .ok (.iinc 1 1, 3) := by decide +kernel
theorem dX11_keptVersions_25 : decode cX11_keptVersions 25 = .ok (.iinc 2 1, 3) := by decide +kernel
theorem dX11_keptVersions_28 : decode cX11_keptVersions 28 = .ok (.goto (-24), 3) := by decide +kernel
theorem dX11_keptVersions_31 : decode cX11_keptVersions 31 = .ok (.iload_n 1, 1) := by decide +kernel
theorem dX11_keptVersions_32 : decode cX11_keptVersions 32 = .ok (.ireturn, 1) := by decide +kernel
theorem dX11_flag_0 : decode cX11_flag 0 = .ok (.iload_n 0, 1) := by decide +kernel
theorem dX11_flag_1 : decode cX11_flag 1 = .ok (.ifCond .eq 7, 3) := by decide +kernel
theorem dX11_flag_4 : decode cX11_flag 4 = .ok (.iconst 1, 1) := by decide +kernel
theorem dX11_flag_5 : decode cX11_flag 5 = .ok (.goto 4, 3) := by decide +kernel
theorem dX11_flag_8 : decode cX11_flag 8 = .ok (.iconst 0, 1) := by decide +kernel
theorem dX11_flag_9 : decode cX11_flag 9 = .ok (.ireturn, 1) := by decide +kernel
theorem dX11_isBelow_0 : decode cX11_isBelow 0 = .ok (.iload_n 0, 1) := by decide +kernel
theorem dX11_isBelow_1 : decode cX11_isBelow 1 = .ok (.ifCond .lt 12, 3) := by decide +kernel
theorem dX11_isBelow_4 : decode cX11_isBelow 4 = .ok (.iload_n 0, 1) := by decide +kernel
theorem dX11_isBelow_5 : decode cX11_isBelow 5 = .ok (.iload_n 1, 1) := by decide +kernel
theorem dX11_isBelow_6 : decode cX11_isBelow 6 = .ok (.if_icmp .ge 7, 3) := by decide +kernel
theorem dX11_isBelow_9 : decode cX11_isBelow 9 = .ok (.iconst 1, 1) := by decide +kernel
theorem dX11_isBelow_10 : decode cX11_isBelow 10 = .ok (.goto 4, 3) := by decide +kernel
theorem dX11_isBelow_13 : decode cX11_isBelow 13 = .ok (.iconst 0, 1) := by decide +kernel
theorem dX11_isBelow_14 : decode cX11_isBelow 14 = .ok (.ireturn, 1) := by decide +kernel
theorem dX11_isStep_0 : decode cX11_isStep 0 = .ok (.iload_n 0, 1) := by decide +kernel
theorem dX11_isStep_1 : decode cX11_isStep 1 = .ok (.bipush 8, 2) := by decide +kernel
theorem dX11_isStep_3 : decode cX11_isStep 3 = .ok (.invokestatic 270, 3) := by decide +kernel
theorem dX11_isStep_6 : decode cX11_isStep 6 = .ok (.ireturn, 1) := by decide +kernel
theorem dX11_isBed_0 : decode cX11_isBed 0 = .ok (.iload_n 0, 1) := by decide +kernel
theorem dX11_isBed_1 : decode cX11_isBed 1 = .ok (.bipush 16, 2) := by decide +kernel
theorem dX11_isBed_3 : decode cX11_isBed 3 = .ok (.invokestatic 270, 3) := by decide +kernel
theorem dX11_isBed_6 : decode cX11_isBed 6 = .ok (.ireturn, 1) := by decide +kernel
theorem dX11_isAxis_0 : decode cX11_isAxis 0 = .ok (.iload_n 0, 1) := by decide +kernel
theorem dX11_isAxis_1 : decode cX11_isAxis 1 = .ok (.ifCond .eq 8, 3) := by decide +kernel
theorem dX11_isAxis_4 : decode cX11_isAxis 4 = .ok (.iload_n 0, 1) := by decide +kernel
theorem dX11_isAxis_5 : decode cX11_isAxis 5 = .ok (.iconst 1, 1) := by decide +kernel
theorem dX11_isAxis_6 : decode cX11_isAxis 6 = .ok (.if_icmp .ne 7, 3) := by decide +kernel
theorem dX11_isAxis_9 : decode cX11_isAxis 9 = .ok (.iconst 1, 1) := by decide +kernel
theorem dX11_isAxis_10 : decode cX11_isAxis 10 = .ok (.goto 4, 3) := by decide +kernel
theorem dX11_isAxis_13 : decode cX11_isAxis 13 = .ok (.iconst 0, 1) := by decide +kernel
theorem dX11_isAxis_14 : decode cX11_isAxis 14 = .ok (.ireturn, 1) := by decide +kernel
theorem dX11_isHeight_0 : decode cX11_isHeight 0 = .ok (.iload_n 0, 1) := by decide +kernel
theorem dX11_isHeight_1 : decode cX11_isHeight 1 = .ok (.bipush (-40), 2) := by decide +kernel
theorem dX11_isHeight_3 : decode cX11_isHeight 3 = .ok (.if_icmp .lt 13, 3) := by decide +kernel
theorem dX11_isHeight_6 : decode cX11_isHeight 6 = .ok (.iload_n 0, 1) := by decide +kernel
theorem dX11_isHeight_7 : decode cX11_isHeight 7 = .ok (.bipush 39, 2) := by decide +kernel
theorem dX11_isHeight_9 : decode cX11_isHeight 9 = .ok (.if_icmp .gt 7, 3) := by decide +kernel
theorem dX11_isHeight_12 : decode cX11_isHeight 12 = .ok (.iconst 1, 1) := by decide +kernel
theorem dX11_isHeight_13 : decode cX11_isHeight 13 = .ok (.goto 4, 3) := by decide +kernel
theorem dX11_isHeight_16 : decode cX11_isHeight 16 = .ok (.iconst 0, 1) := by decide +kernel
theorem dX11_isHeight_17 : decode cX11_isHeight 17 = .ok (.ireturn, 1) := by decide +kernel
theorem dX11_columnNumber_0 : decode cX11_columnNumber 0 = .ok (.bipush 8, 2) := by decide +kernel
theorem dX11_columnNumber_2 : decode cX11_columnNumber 2 = .ok (.iload_n 1, 1) := by decide +kernel
theorem dX11_columnNumber_3 : decode cX11_columnNumber 3 = .ok (.imul, 1) := by decide +kernel
theorem dX11_columnNumber_4 : decode cX11_columnNumber 4 = .ok (.iload_n 0, 1) := by decide +kernel
theorem dX11_columnNumber_5 : decode cX11_columnNumber 5 = .ok (.iadd, 1) := by decide +kernel
theorem dX11_columnNumber_6 : decode cX11_columnNumber 6 = .ok (.ireturn, 1) := by decide +kernel
theorem dX11_columnX_0 : decode cX11_columnX 0 = .ok (.iload_n 0, 1) := by decide +kernel
theorem dX11_columnX_1 : decode cX11_columnX 1 = .ok (.bipush 8, 2) := by decide +kernel
theorem dX11_columnX_3 : decode cX11_columnX 3 = .ok (.invokestatic 354, 3) := by decide +kernel
theorem dX11_columnX_6 : decode cX11_columnX 6 = .ok (.ireturn, 1) := by decide +kernel
theorem dX11_columnY_0 : decode cX11_columnY 0 = .ok (.iload_n 0, 1) := by decide +kernel
theorem dX11_columnY_1 : decode cX11_columnY 1 = .ok (.bipush 8, 2) := by decide +kernel
theorem dX11_columnY_3 : decode cX11_columnY 3 = .ok (.invokestatic 359, 3) := by decide +kernel
theorem dX11_columnY_6 : decode cX11_columnY 6 = .ok (.ireturn, 1) := by decide +kernel
theorem dX11_get_0 : decode cX11_get 0 = .ok (.aload_n 0, 1) := by decide +kernel
theorem dX11_get_1 : decode cX11_get 1 = .ok (.ifnull 13, 3) := by decide +kernel
theorem dX11_get_4 : decode cX11_get 4 = .ok (.iload_n 1, 1) := by decide +kernel
theorem dX11_get_5 : decode cX11_get 5 = .ok (.ifCond .lt 9, 3) := by decide +kernel
theorem dX11_get_8 : decode cX11_get 8 = .ok (.iload_n 1, 1) := by decide +kernel
theorem dX11_get_9 : decode cX11_get 9 = .ok (.aload_n 0, 1) := by decide +kernel
theorem dX11_get_10 : decode cX11_get 10 = .ok (.arraylength, 1) := by decide +kernel
theorem dX11_get_11 : decode cX11_get 11 = .ok (.if_icmp .lt 5, 3) := by decide +kernel
theorem dX11_get_14 : decode cX11_get 14 = .ok (.iconst 0, 1) := by decide +kernel
theorem dX11_get_15 : decode cX11_get 15 = .ok (.ireturn, 1) := by decide +kernel
theorem dX11_get_16 : decode cX11_get 16 = .ok (.aload_n 0, 1) := by decide +kernel
theorem dX11_get_17 : decode cX11_get 17 = .ok (.iload_n 1, 1) := by decide +kernel
theorem dX11_get_18 : decode cX11_get 18 = .ok (.iaload, 1) := by decide +kernel
theorem dX11_get_19 : decode cX11_get 19 = .ok (.ireturn, 1) := by decide +kernel
theorem dX11_put_0 : decode cX11_put 0 = .ok (.aload_n 0, 1) := by decide +kernel
theorem dX11_put_1 : decode cX11_put 1 = .ok (.ifnull 17, 3) := by decide +kernel
theorem dX11_put_4 : decode cX11_put 4 = .ok (.iload_n 1, 1) := by decide +kernel
theorem dX11_put_5 : decode cX11_put 5 = .ok (.ifCond .lt 13, 3) := by decide +kernel
theorem dX11_put_8 : decode cX11_put 8 = .ok (.iload_n 1, 1) := by decide +kernel
theorem dX11_put_9 : decode cX11_put 9 = .ok (.aload_n 0, 1) := by decide +kernel
theorem dX11_put_10 : decode cX11_put 10 = .ok (.arraylength, 1) := by decide +kernel
theorem dX11_put_11 : decode cX11_put 11 = .ok (.if_icmp .ge 7, 3) := by decide +kernel
theorem dX11_put_14 : decode cX11_put 14 = .ok (.aload_n 0, 1) := by decide +kernel
theorem dX11_put_15 : decode cX11_put 15 = .ok (.iload_n 1, 1) := by decide +kernel
theorem dX11_put_16 : decode cX11_put 16 = .ok (.iload_n 2, 1) := by decide +kernel
theorem dX11_put_17 : decode cX11_put 17 = .ok (.iastore, 1) := by decide +kernel
theorem dX11_put_18 : decode cX11_put 18 = .ok (.return_, 1) := by decide +kernel
theorem dX11_fill_0 : decode cX11_fill 0 = .ok (.aload_n 0, 1) := by decide +kernel
theorem dX11_fill_1 : decode cX11_fill 1 = .ok (.ifnonnull 4, 3) := by decide +kernel
theorem dX11_fill_4 : decode cX11_fill 4 = .ok (.return_, 1) := by decide +kernel
theorem dX11_fill_5 : decode cX11_fill 5 = .ok (.iconst 0, 1) := by decide +kernel
theorem dX11_fill_6 : decode cX11_fill 6 = .ok (.iload_n 1, 1) := by decide +kernel
theorem dX11_fill_7 : decode cX11_fill 7 = .ok (.invokestatic 362, 3) := by decide +kernel
theorem dX11_fill_10 : decode cX11_fill 10 = .ok (.istore 4, 2) := by decide +kernel
theorem dX11_fill_12 : decode cX11_fill 12 = .ok (.iload 4, 2) := by decide +kernel
theorem dX11_fill_14 : decode cX11_fill 14 = .ok (.iload_n 2, 1) := by decide +kernel
theorem dX11_fill_15 : decode cX11_fill 15 = .ok (.if_icmp .ge 21, 3) := by decide +kernel
theorem dX11_fill_18 : decode cX11_fill 18 = .ok (.iload 4, 2) := by decide +kernel
theorem dX11_fill_20 : decode cX11_fill 20 = .ok (.aload_n 0, 1) := by decide +kernel
theorem dX11_fill_21 : decode cX11_fill 21 = .ok (.arraylength, 1) := by decide +kernel
theorem dX11_fill_22 : decode cX11_fill 22 = .ok (.if_icmp .ge 14, 3) := by decide +kernel
theorem dX11_fill_25 : decode cX11_fill 25 = .ok (.aload_n 0, 1) := by decide +kernel
theorem dX11_fill_26 : decode cX11_fill 26 = .ok (.iload 4, 2) := by decide +kernel
theorem dX11_fill_28 : decode cX11_fill 28 = .ok (.iload_n 3, 1) := by decide +kernel
theorem dX11_fill_29 : decode cX11_fill 29 = .ok (.iastore, 1) := by decide +kernel
theorem dX11_fill_30 : decode cX11_fill 30 = .ok (.iinc 4 1, 3) := by decide +kernel
theorem dX11_fill_33 : decode cX11_fill 33 = .ok (.goto (-21), 3) := by decide +kernel
theorem dX11_fill_36 : decode cX11_fill 36 = .ok (.return_, 1) := by decide +kernel
theorem dX11_copy_0 : decode cX11_copy 0 = .ok (.aload_n 0, 1) := by decide +kernel
theorem dX11_copy_1 : decode cX11_copy 1 = .ok (.ifnull 20, 3) := by decide +kernel
theorem dX11_copy_4 : decode cX11_copy 4 = .ok (.aload_n 2, 1) := by decide +kernel
theorem dX11_copy_5 : decode cX11_copy 5 = .ok (.ifnull 16, 3) := by decide +kernel
theorem dX11_copy_8 : decode cX11_copy 8 = .ok (.iload_n 1, 1) := by decide +kernel
theorem dX11_copy_9 : decode cX11_copy 9 = .ok (.ifCond .lt 12, 3) := by decide +kernel
theorem dX11_copy_12 : decode cX11_copy 12 = .ok (.iload_n 3, 1) := by decide +kernel
theorem dX11_copy_13 : decode cX11_copy 13 = .ok (.ifCond .lt 8, 3) := by decide +kernel
theorem dX11_copy_16 : decode cX11_copy 16 = .ok (.iload 4, 2) := by decide +kernel
theorem dX11_copy_18 : decode cX11_copy 18 = .ok (.ifCond .gt 4, 3) := by decide +kernel
theorem dX11_copy_21 : decode cX11_copy 21 = .ok (.return_, 1) := by decide +kernel
theorem dX11_copy_22 : decode cX11_copy 22 = .ok (.iload_n 1, 1) := by decide +kernel
theorem dX11_copy_23 : decode cX11_copy 23 = .ok (.aload_n 0, 1) := by decide +kernel
theorem dX11_copy_24 : decode cX11_copy 24 = .ok (.arraylength, 1) := by decide +kernel
theorem dX11_copy_25 : decode cX11_copy 25 = .ok (.iload 4, 2) := by decide +kernel
theorem dX11_copy_27 : decode cX11_copy 27 = .ok (.isub, 1) := by decide +kernel
theorem dX11_copy_28 : decode cX11_copy 28 = .ok (.if_icmp .gt 12, 3) := by decide +kernel
theorem dX11_copy_31 : decode cX11_copy 31 = .ok (.iload_n 3, 1) := by decide +kernel
theorem dX11_copy_32 : decode cX11_copy 32 = .ok (.aload_n 2, 1) := by decide +kernel
theorem dX11_copy_33 : decode cX11_copy 33 = .ok (.arraylength, 1) := by decide +kernel
theorem dX11_copy_34 : decode cX11_copy 34 = .ok (.iload 4, 2) := by decide +kernel
theorem dX11_copy_36 : decode cX11_copy 36 = .ok (.isub, 1) := by decide +kernel
theorem dX11_copy_37 : decode cX11_copy 37 = .ok (.if_icmp .le 4, 3) := by decide +kernel
theorem dX11_copy_40 : decode cX11_copy 40 = .ok (.return_, 1) := by decide +kernel
theorem dX11_copy_41 : decode cX11_copy 41 = .ok (.aload_n 0, 1) := by decide +kernel
theorem dX11_copy_42 : decode cX11_copy 42 = .ok (.iload_n 1, 1) := by decide +kernel
theorem dX11_copy_43 : decode cX11_copy 43 = .ok (.aload_n 2, 1) := by decide +kernel
theorem dX11_copy_44 : decode cX11_copy 44 = .ok (.iload_n 3, 1) := by decide +kernel
theorem dX11_copy_45 : decode cX11_copy 45 = .ok (.iload 4, 2) := by decide +kernel
theorem dX11_copy_47 : decode cX11_copy 47 = .ok (.invokestatic 365, 3) := by decide +kernel
theorem dX11_copy_50 : decode cX11_copy 50 = .ok (.return_, 1) := by decide +kernel
theorem dJ9_floorDiv_7cf53_0 : decode cJ9_floorDiv_7cf53 0 = .ok (.iload_n 0, 1) := by decide +kernel
theorem dJ9_floorDiv_7cf53_1 : decode cJ9_floorDiv_7cf53 1 = .ok (.iload_n 1, 1) := by decide +kernel
theorem dJ9_floorDiv_7cf53_2 : decode cJ9_floorDiv_7cf53 2 = .ok (.idiv, 1) := by decide +kernel
theorem dJ9_floorDiv_7cf53_3 : decode cJ9_floorDiv_7cf53 3 = .ok (.istore_n 2, 1) := by decide +kernel
theorem dJ9_floorDiv_7cf53_4 : decode cJ9_floorDiv_7cf53 4 = .ok (.iload_n 0, 1) := by decide +kernel
theorem dJ9_floorDiv_7cf53_5 : decode cJ9_floorDiv_7cf53 5 = .ok (.iload_n 1, 1) := by decide +kernel
theorem dJ9_floorDiv_7cf53_6 : decode cJ9_floorDiv_7cf53 6 = .ok (.ixor, 1) := by decide +kernel
theorem dJ9_floorDiv_7cf53_7 : decode cJ9_floorDiv_7cf53 7 = .ok (.ifCond .ge 14, 3) := by decide +kernel
theorem dJ9_floorDiv_7cf53_10 : decode cJ9_floorDiv_7cf53 10 = .ok (.iload_n 2, 1) := by decide +kernel
theorem dJ9_floorDiv_7cf53_11 : decode cJ9_floorDiv_7cf53 11 = .ok (.iload_n 1, 1) := by decide +kernel
theorem dJ9_floorDiv_7cf53_12 : decode cJ9_floorDiv_7cf53 12 = .ok (.imul, 1) := by decide +kernel
theorem dJ9_floorDiv_7cf53_13 : decode cJ9_floorDiv_7cf53 13 = .ok (.iload_n 0, 1) := by decide +kernel
theorem dJ9_floorDiv_7cf53_14 : decode cJ9_floorDiv_7cf53 14 = .ok (.if_icmp .eq 7, 3) := by decide +kernel
theorem dJ9_floorDiv_7cf53_17 : decode cJ9_floorDiv_7cf53 17 = .ok (.iload_n 2, 1) := by decide +kernel
theorem dJ9_floorDiv_7cf53_18 : decode cJ9_floorDiv_7cf53 18 = .ok (.iconst 1, 1) := by decide +kernel
theorem dJ9_floorDiv_7cf53_19 : decode cJ9_floorDiv_7cf53 19 = .ok (.isub, 1) := by decide +kernel
theorem dJ9_floorDiv_7cf53_20 : decode cJ9_floorDiv_7cf53 20 = .ok (.ireturn, 1) := by decide +kernel
theorem dJ9_floorDiv_7cf53_21 : decode cJ9_floorDiv_7cf53 21 = .ok (.iload_n 2, 1) := by decide +kernel
theorem dJ9_floorDiv_7cf53_22 : decode cJ9_floorDiv_7cf53 22 = .ok (.ireturn, 1) := by decide +kernel
theorem dJ9_floorMod_7cf53_0 : decode cJ9_floorMod_7cf53 0 = .ok (.iload_n 0, 1) := by decide +kernel
theorem dJ9_floorMod_7cf53_1 : decode cJ9_floorMod_7cf53 1 = .ok (.iload_n 1, 1) := by decide +kernel
theorem dJ9_floorMod_7cf53_2 : decode cJ9_floorMod_7cf53 2 = .ok (.irem, 1) := by decide +kernel
theorem dJ9_floorMod_7cf53_3 : decode cJ9_floorMod_7cf53 3 = .ok (.istore_n 2, 1) := by decide +kernel
theorem dJ9_floorMod_7cf53_4 : decode cJ9_floorMod_7cf53 4 = .ok (.iload_n 0, 1) := by decide +kernel
theorem dJ9_floorMod_7cf53_5 : decode cJ9_floorMod_7cf53 5 = .ok (.iload_n 1, 1) := by decide +kernel
theorem dJ9_floorMod_7cf53_6 : decode cJ9_floorMod_7cf53 6 = .ok (.ixor, 1) := by decide +kernel
theorem dJ9_floorMod_7cf53_7 : decode cJ9_floorMod_7cf53 7 = .ok (.ifCond .ge 11, 3) := by decide +kernel
theorem dJ9_floorMod_7cf53_10 : decode cJ9_floorMod_7cf53 10 = .ok (.iload_n 2, 1) := by decide +kernel
theorem dJ9_floorMod_7cf53_11 : decode cJ9_floorMod_7cf53 11 = .ok (.ifCond .eq 7, 3) := by decide +kernel
theorem dJ9_floorMod_7cf53_14 : decode cJ9_floorMod_7cf53 14 = .ok (.iload_n 2, 1) := by decide +kernel
theorem dJ9_floorMod_7cf53_15 : decode cJ9_floorMod_7cf53 15 = .ok (.iload_n 1, 1) := by decide +kernel
theorem dJ9_floorMod_7cf53_16 : decode cJ9_floorMod_7cf53 16 = .ok (.iadd, 1) := by decide +kernel
theorem dJ9_floorMod_7cf53_17 : decode cJ9_floorMod_7cf53 17 = .ok (.ireturn, 1) := by decide +kernel
theorem dJ9_floorMod_7cf53_18 : decode cJ9_floorMod_7cf53 18 = .ok (.iload_n 2, 1) := by decide +kernel
theorem dJ9_floorMod_7cf53_19 : decode cJ9_floorMod_7cf53 19 = .ok (.ireturn, 1) := by decide +kernel
theorem dJ9_max_7cf53_0 : decode cJ9_max_7cf53 0 = .ok (.iload_n 0, 1) := by decide +kernel
theorem dJ9_max_7cf53_1 : decode cJ9_max_7cf53 1 = .ok (.iload_n 1, 1) := by decide +kernel
theorem dJ9_max_7cf53_2 : decode cJ9_max_7cf53 2 = .ok (.if_icmp .lt 7, 3) := by decide +kernel
theorem dJ9_max_7cf53_5 : decode cJ9_max_7cf53 5 = .ok (.iload_n 0, 1) := by decide +kernel
theorem dJ9_max_7cf53_6 : decode cJ9_max_7cf53 6 = .ok (.goto 4, 3) := by decide +kernel
theorem dJ9_max_7cf53_9 : decode cJ9_max_7cf53 9 = .ok (.iload_n 1, 1) := by decide +kernel
theorem dJ9_max_7cf53_10 : decode cJ9_max_7cf53 10 = .ok (.ireturn, 1) := by decide +kernel
theorem dJ9_min_7cf53_0 : decode cJ9_min_7cf53 0 = .ok (.iload_n 0, 1) := by decide +kernel
theorem dJ9_min_7cf53_1 : decode cJ9_min_7cf53 1 = .ok (.iload_n 1, 1) := by decide +kernel
theorem dJ9_min_7cf53_2 : decode cJ9_min_7cf53 2 = .ok (.if_icmp .gt 7, 3) := by decide +kernel
theorem dJ9_min_7cf53_5 : decode cJ9_min_7cf53 5 = .ok (.iload_n 0, 1) := by decide +kernel
theorem dJ9_min_7cf53_6 : decode cJ9_min_7cf53 6 = .ok (.goto 4, 3) := by decide +kernel
theorem dJ9_min_7cf53_9 : decode cJ9_min_7cf53 9 = .ok (.iload_n 1, 1) := by decide +kernel
theorem dJ9_min_7cf53_10 : decode cJ9_min_7cf53 10 = .ok (.ireturn, 1) := by decide +kernel
theorem dL_cell_0 : decode cL_cell 0 = .ok (.iload_n 1, 1) := by decide +kernel
theorem dL_cell_1 : decode cL_cell 1 = .ok (.aload_n 0, 1) := by decide +kernel
theorem dL_cell_2 : decode cL_cell 2 = .ok (.arraylength, 1) := by decide +kernel
theorem dL_cell_3 : decode cL_cell 3 = .ok (.if_icmp .ge 9, 3) := by decide +kernel
theorem dL_cell_6 : decode cL_cell 6 = .ok (.aload_n 0, 1) := by decide +kernel
theorem dL_cell_7 : decode cL_cell 7 = .ok (.iload_n 1, 1) := by decide +kernel
theorem dL_cell_8 : decode cL_cell 8 = .ok (.iaload, 1) := by decide +kernel
theorem dL_cell_9 : decode cL_cell 9 = .ok (.goto 9, 3) := by decide +kernel
theorem dL_cell_12 : decode cL_cell 12 = .ok (.ldc 7, 2) := by decide +kernel
theorem dL_cell_14 : decode cL_cell 14 = .ok (.iload_n 1, 1) := by decide +kernel
theorem dL_cell_15 : decode cL_cell 15 = .ok (.iconst 1, 1) := by decide +kernel
theorem dL_cell_16 : decode cL_cell 16 = .ok (.iadd, 1) := by decide +kernel
theorem dL_cell_17 : decode cL_cell 17 = .ok (.imul, 1) := by decide +kernel
theorem dL_cell_18 : decode cL_cell 18 = .ok (.ireturn, 1) := by decide +kernel
theorem dL_low_0 : decode cL_low 0 = .ok (.iload_n 0, 1) := by decide +kernel
theorem dL_low_1 : decode cL_low 1 = .ok (.ldc 8, 2) := by decide +kernel
theorem dL_low_3 : decode cL_low 3 = .ok (.iand, 1) := by decide +kernel
theorem dL_low_4 : decode cL_low 4 = .ok (.iload_n 1, 1) := by decide +kernel
theorem dL_low_5 : decode cL_low 5 = .ok (.irem, 1) := by decide +kernel
theorem dL_low_6 : decode cL_low 6 = .ok (.ireturn, 1) := by decide +kernel
theorem dL_draw_0 : decode cL_draw 0 = .ok (.bipush 10, 2) := by decide +kernel
theorem dL_draw_2 : decode cL_draw 2 = .ok (.iload_n 0, 1) := by decide +kernel
theorem dL_draw_3 : decode cL_draw 3 = .ok (.imul, 1) := by decide +kernel
theorem dL_draw_4 : decode cL_draw 4 = .ok (.iload_n 1, 1) := by decide +kernel
theorem dL_draw_5 : decode cL_draw 5 = .ok (.iadd, 1) := by decide +kernel
theorem dL_draw_6 : decode cL_draw 6 = .ok (.tableswitch 324 0 54 #[234, 241, 324, 324, 324, 324, 324, 324, 324, 324, 324, 324, 324, 324, 324, 324, 324, 324, 324, 324, 250, 324, 256, 265, 324, 324, 324, 324, 324, 324, 250, 265, 272, 282, 324, 324, 324, 324, 324, 324, 290, 324, 324, 324, 324, 324, 324, 324, 324, 324, 234, 250, 300, 306, 314], 234) := by decide +kernel
theorem dL_draw_240 : decode cL_draw 240 = .ok (.iload_n 2, 1) := by decide +kernel
theorem dL_draw_241 : decode cL_draw 241 = .ok (.bipush 15, 2) := by decide +kernel
theorem dL_draw_243 : decode cL_draw 243 = .ok (.invokestatic 19, 3) := by decide +kernel
theorem dL_draw_246 : decode cL_draw 246 = .ok (.ireturn, 1) := by decide +kernel
theorem dL_draw_247 : decode cL_draw 247 = .ok (.iconst 1, 1) := by decide +kernel
theorem dL_draw_248 : decode cL_draw 248 = .ok (.iload_n 2, 1) := by decide +kernel
theorem dL_draw_249 : decode cL_draw 249 = .ok (.bipush 8, 2) := by decide +kernel
theorem dL_draw_251 : decode cL_draw 251 = .ok (.invokestatic 19, 3) := by decide +kernel
theorem dL_draw_254 : decode cL_draw 254 = .ok (.iadd, 1) := by decide +kernel
theorem dL_draw_255 : decode cL_draw 255 = .ok (.ireturn, 1) := by decide +kernel
theorem dL_draw_256 : decode cL_draw 256 = .ok (.iload_n 2, 1) := by decide +kernel
theorem dL_draw_257 : decode cL_draw 257 = .ok (.iconst 2, 1) := by decide +kernel
theorem dL_draw_258 : decode cL_draw 258 = .ok (.invokestatic 19, 3) := by decide +kernel
theorem dL_draw_261 : decode cL_draw 261 = .ok (.ireturn, 1) := by decide +kernel
theorem dL_draw_262 : decode cL_draw 262 = .ok (.iconst 2, 1) := by decide +kernel
theorem dL_draw_263 : decode cL_draw 263 = .ok (.iload_n 2, 1) := by decide +kernel
theorem dL_draw_264 : decode cL_draw 264 = .ok (.bipush 7, 2) := by decide +kernel
theorem dL_draw_266 : decode cL_draw 266 = .ok (.invokestatic 19, 3) := by decide +kernel
theorem dL_draw_269 : decode cL_draw 269 = .ok (.iadd, 1) := by decide +kernel
theorem dL_draw_270 : decode cL_draw 270 = .ok (.ireturn, 1) := by decide +kernel
theorem dL_draw_271 : decode cL_draw 271 = .ok (.iload_n 2, 1) := by decide +kernel
theorem dL_draw_272 : decode cL_draw 272 = .ok (.bipush 8, 2) := by decide +kernel
theorem dL_draw_274 : decode cL_draw 274 = .ok (.invokestatic 19, 3) := by decide +kernel
theorem dL_draw_277 : decode cL_draw 277 = .ok (.ireturn, 1) := by decide +kernel
theorem dL_draw_278 : decode cL_draw 278 = .ok (.iload_n 2, 1) := by decide +kernel
theorem dL_draw_279 : decode cL_draw 279 = .ok (.bipush 33, 2) := by decide +kernel
theorem dL_draw_281 : decode cL_draw 281 = .ok (.invokestatic 19, 3) := by decide +kernel
theorem dL_draw_284 : decode cL_draw 284 = .ok (.bipush 16, 2) := by decide +kernel
theorem dL_draw_286 : decode cL_draw 286 = .ok (.isub, 1) := by decide +kernel
theorem dL_draw_287 : decode cL_draw 287 = .ok (.ireturn, 1) := by decide +kernel
theorem dL_draw_288 : decode cL_draw 288 = .ok (.iload_n 2, 1) := by decide +kernel
theorem dL_draw_289 : decode cL_draw 289 = .ok (.iconst 5, 1) := by decide +kernel
theorem dL_draw_290 : decode cL_draw 290 = .ok (.invokestatic 19, 3) := by decide +kernel
theorem dL_draw_293 : decode cL_draw 293 = .ok (.iconst 2, 1) := by decide +kernel
theorem dL_draw_294 : decode cL_draw 294 = .ok (.isub, 1) := by decide +kernel
theorem dL_draw_295 : decode cL_draw 295 = .ok (.ireturn, 1) := by decide +kernel
theorem dL_draw_296 : decode cL_draw 296 = .ok (.iload_n 2, 1) := by decide +kernel
theorem dL_draw_297 : decode cL_draw 297 = .ok (.bipush 70, 2) := by decide +kernel
theorem dL_draw_299 : decode cL_draw 299 = .ok (.invokestatic 19, 3) := by decide +kernel
theorem dL_draw_302 : decode cL_draw 302 = .ok (.bipush 30, 2) := by decide +kernel
theorem dL_draw_304 : decode cL_draw 304 = .ok (.isub, 1) := by decide +kernel
theorem dL_draw_305 : decode cL_draw 305 = .ok (.ireturn, 1) := by decide +kernel
theorem dL_draw_306 : decode cL_draw 306 = .ok (.iload_n 2, 1) := by decide +kernel
theorem dL_draw_307 : decode cL_draw 307 = .ok (.iconst 4, 1) := by decide +kernel
theorem dL_draw_308 : decode cL_draw 308 = .ok (.invokestatic 19, 3) := by decide +kernel
theorem dL_draw_311 : decode cL_draw 311 = .ok (.ireturn, 1) := by decide +kernel
theorem dL_draw_312 : decode cL_draw 312 = .ok (.iconst 4, 1) := by decide +kernel
theorem dL_draw_313 : decode cL_draw 313 = .ok (.iload_n 2, 1) := by decide +kernel
theorem dL_draw_314 : decode cL_draw 314 = .ok (.iconst 4, 1) := by decide +kernel
theorem dL_draw_315 : decode cL_draw 315 = .ok (.invokestatic 19, 3) := by decide +kernel
theorem dL_draw_318 : decode cL_draw 318 = .ok (.iadd, 1) := by decide +kernel
theorem dL_draw_319 : decode cL_draw 319 = .ok (.ireturn, 1) := by decide +kernel
theorem dL_draw_320 : decode cL_draw 320 = .ok (.iload_n 2, 1) := by decide +kernel
theorem dL_draw_321 : decode cL_draw 321 = .ok (.bipush 80, 2) := by decide +kernel
theorem dL_draw_323 : decode cL_draw 323 = .ok (.invokestatic 19, 3) := by decide +kernel
theorem dL_draw_326 : decode cL_draw 326 = .ok (.bipush 40, 2) := by decide +kernel
theorem dL_draw_328 : decode cL_draw 328 = .ok (.isub, 1) := by decide +kernel
theorem dL_draw_329 : decode cL_draw 329 = .ok (.ireturn, 1) := by decide +kernel
theorem dL_draw_330 : decode cL_draw 330 = .ok (.iload_n 2, 1) := by decide +kernel
theorem dL_draw_331 : decode cL_draw 331 = .ok (.bipush 17, 2) := by decide +kernel
theorem dL_draw_333 : decode cL_draw 333 = .ok (.invokestatic 19, 3) := by decide +kernel
theorem dL_draw_336 : decode cL_draw 336 = .ok (.bipush 8, 2) := by decide +kernel
theorem dL_draw_338 : decode cL_draw 338 = .ok (.isub, 1) := by decide +kernel
theorem dL_draw_339 : decode cL_draw 339 = .ok (.ireturn, 1) := by decide +kernel
theorem dL_law_0 : decode cL_law 0 = .ok (.new 22, 3) := by decide +kernel
theorem dL_law_3 : decode cL_law 3 = .ok (.dup, 1) := by decide +kernel
theorem dL_law_4 : decode cL_law 4 = .ok (.invokespecial 24, 3) := by decide +kernel
theorem dL_law_7 : decode cL_law 7 = .ok (.astore_n 1, 1) := by decide +kernel
theorem dL_law_8 : decode cL_law 8 = .ok (.aload_n 0, 1) := by decide +kernel
theorem dL_law_9 : decode cL_law 9 = .ok (.iconst 0, 1) := by decide +kernel
theorem dL_law_10 : decode cL_law 10 = .ok (.invokestatic 25, 3) := by decide +kernel
theorem dL_law_13 : decode cL_law 13 = .ok (.iconst 4, 1) := by decide +kernel
theorem dL_law_14 : decode cL_law 14 = .ok (.invokestatic 19, 3) := by decide +kernel
theorem dL_law_17 : decode cL_law 17 = .ok (.istore_n 2, 1) := by decide +kernel
theorem dL_law_18 : decode cL_law 18 = .ok (.iconst 0, 1) := by decide +kernel
theorem dL_law_19 : decode cL_law 19 = .ok (.istore_n 3, 1) := by decide +kernel
theorem dL_law_20 : decode cL_law 20 = .ok (.iload_n 3, 1) := by decide +kernel
theorem dL_law_21 : decode cL_law 21 = .ok (.iload_n 2, 1) := by decide +kernel
theorem dL_law_22 : decode cL_law 22 = .ok (.if_icmp .ge 124, 3) := by decide +kernel
theorem dL_law_25 : decode cL_law 25 = .ok (.aload_n 0, 1) := by decide +kernel
theorem dL_law_26 : decode cL_law 26 = .ok (.iconst 1, 1) := by decide +kernel
theorem dL_law_27 : decode cL_law 27 = .ok (.bipush 6, 2) := by decide +kernel
theorem dL_law_29 : decode cL_law 29 = .ok (.iload_n 3, 1) := by decide +kernel
theorem dL_law_30 : decode cL_law 30 = .ok (.imul, 1) := by decide +kernel
theorem dL_law_31 : decode cL_law 31 = .ok (.iadd, 1) := by decide +kernel
theorem dL_law_32 : decode cL_law 32 = .ok (.invokestatic 25, 3) := by decide +kernel
theorem dL_law_35 : decode cL_law 35 = .ok (.iconst 5, 1) := by decide +kernel
theorem dL_law_36 : decode cL_law 36 = .ok (.invokestatic 19, 3) := by decide +kernel
theorem dL_law_39 : decode cL_law 39 = .ok (.istore 4, 2) := by decide +kernel
theorem dL_law_41 : decode cL_law 41 = .ok (.aload_n 1, 1) := by decide +kernel
theorem dL_law_42 : decode cL_law 42 = .ok (.iload 4, 2) := by decide +kernel
theorem dL_law_44 : decode cL_law 44 = .ok (.iload 4, 2) := by decide +kernel
theorem dL_law_46 : decode cL_law 46 = .ok (.ifCond .ne 20, 3) := by decide +kernel
theorem dL_law_49 : decode cL_law 49 = .ok (.aload_n 0, 1) := by decide +kernel
theorem dL_law_50 : decode cL_law 50 = .ok (.iconst 2, 1) := by decide +kernel
theorem dL_law_51 : decode cL_law 51 = .ok (.bipush 6, 2) := by decide +kernel
theorem dL_law_53 : decode cL_law 53 = .ok (.iload_n 3, 1) := by decide +kernel
theorem dL_law_54 : decode cL_law 54 = .ok (.imul, 1) := by decide +kernel
theorem dL_law_55 : decode cL_law 55 = .ok (.iadd, 1) := by decide +kernel
theorem dL_law_56 : decode cL_law 56 = .ok (.invokestatic 25, 3) := by decide +kernel
theorem dL_law_59 : decode cL_law 59 = .ok (.iconst 3, 1) := by decide +kernel
theorem dL_law_60 : decode cL_law 60 = .ok (.invokestatic 19, 3) := by decide +kernel
theorem dL_law_63 : decode cL_law 63 = .ok (.goto 19, 3) := by decide +kernel
theorem dL_law_66 : decode cL_law 66 = .ok (.iload 4, 2) := by decide +kernel
theorem dL_law_68 : decode cL_law 68 = .ok (.iconst 0, 1) := by decide +kernel
theorem dL_law_69 : decode cL_law 69 = .ok (.aload_n 0, 1) := by decide +kernel
theorem dL_law_70 : decode cL_law 70 = .ok (.iconst 2, 1) := by decide +kernel
theorem dL_law_71 : decode cL_law 71 = .ok (.bipush 6, 2) := by decide +kernel
theorem dL_law_73 : decode cL_law 73 = .ok (.iload_n 3, 1) := by decide +kernel
theorem dL_law_74 : decode cL_law 74 = .ok (.imul, 1) := by decide +kernel
theorem dL_law_75 : decode cL_law 75 = .ok (.iadd, 1) := by decide +kernel
theorem dL_law_76 : decode cL_law 76 = .ok (.invokestatic 25, 3) := by decide +kernel
theorem dL_law_79 : decode cL_law 79 = .ok (.invokestatic 29, 3) := by decide +kernel
theorem dL_law_82 : decode cL_law 82 = .ok (.iload 4, 2) := by decide +kernel
theorem dL_law_84 : decode cL_law 84 = .ok (.iconst 1, 1) := by decide +kernel
theorem dL_law_85 : decode cL_law 85 = .ok (.aload_n 0, 1) := by decide +kernel
theorem dL_law_86 : decode cL_law 86 = .ok (.iconst 3, 1) := by decide +kernel
theorem dL_law_87 : decode cL_law 87 = .ok (.bipush 6, 2) := by decide +kernel
theorem dL_law_89 : decode cL_law 89 = .ok (.iload_n 3, 1) := by decide +kernel
theorem dL_law_90 : decode cL_law 90 = .ok (.imul, 1) := by decide +kernel
theorem dL_law_91 : decode cL_law 91 = .ok (.iadd, 1) := by decide +kernel
theorem dL_law_92 : decode cL_law 92 = .ok (.invokestatic 25, 3) := by decide +kernel
theorem dL_law_95 : decode cL_law 95 = .ok (.invokestatic 29, 3) := by decide +kernel
theorem dL_law_98 : decode cL_law 98 = .ok (.iload 4, 2) := by decide +kernel
theorem dL_law_100 : decode cL_law 100 = .ok (.iconst 2, 1) := by decide +kernel
theorem dL_law_101 : decode cL_law 101 = .ok (.aload_n 0, 1) := by decide +kernel
theorem dL_law_102 : decode cL_law 102 = .ok (.iconst 4, 1) := by decide +kernel
theorem dL_law_103 : decode cL_law 103 = .ok (.bipush 6, 2) := by decide +kernel
theorem dL_law_105 : decode cL_law 105 = .ok (.iload_n 3, 1) := by decide +kernel
theorem dL_law_106 : decode cL_law 106 = .ok (.imul, 1) := by decide +kernel
theorem dL_law_107 : decode cL_law 107 = .ok (.iadd, 1) := by decide +kernel
theorem dL_law_108 : decode cL_law 108 = .ok (.invokestatic 25, 3) := by decide +kernel
theorem dL_law_111 : decode cL_law 111 = .ok (.invokestatic 29, 3) := by decide +kernel
theorem dL_law_114 : decode cL_law 114 = .ok (.iload 4, 2) := by decide +kernel
theorem dL_law_116 : decode cL_law 116 = .ok (.iconst 3, 1) := by decide +kernel
theorem dL_law_117 : decode cL_law 117 = .ok (.aload_n 0, 1) := by decide +kernel
theorem dL_law_118 : decode cL_law 118 = .ok (.iconst 5, 1) := by decide +kernel
theorem dL_law_119 : decode cL_law 119 = .ok (.bipush 6, 2) := by decide +kernel
theorem dL_law_121 : decode cL_law 121 = .ok (.iload_n 3, 1) := by decide +kernel
theorem dL_law_122 : decode cL_law 122 = .ok (.imul, 1) := by decide +kernel
theorem dL_law_123 : decode cL_law 123 = .ok (.iadd, 1) := by decide +kernel
theorem dL_law_124 : decode cL_law 124 = .ok (.invokestatic 25, 3) := by decide +kernel
theorem dL_law_127 : decode cL_law 127 = .ok (.invokestatic 29, 3) := by decide +kernel
theorem dL_law_130 : decode cL_law 130 = .ok (.iconst 0, 1) := by decide +kernel
theorem dL_law_131 : decode cL_law 131 = .ok (.invokevirtual 33, 3) := by decide +kernel
theorem dL_law_134 : decode cL_law 134 = .ok (.iload_n 3, 1) := by decide +kernel
theorem dL_law_135 : decode cL_law 135 = .ok (.if_icmp .eq 5, 3) := by decide +kernel
theorem dL_law_138 : decode cL_law 138 = .ok (.iconst 0, 1) := by decide +kernel
theorem dL_law_139 : decode cL_law 139 = .ok (.ireturn, 1) := by decide +kernel
theorem dL_law_140 : decode cL_law 140 = .ok (.iinc 3 1, 3) := by decide +kernel
theorem dL_law_143 : decode cL_law 143 = .ok (.goto (-123), 3) := by decide +kernel
theorem dL_law_146 : decode cL_law 146 = .ok (.aload_n 0, 1) := by decide +kernel
theorem dL_law_147 : decode cL_law 147 = .ok (.bipush 30, 2) := by decide +kernel
theorem dL_law_149 : decode cL_law 149 = .ok (.invokestatic 25, 3) := by decide +kernel
theorem dL_law_152 : decode cL_law 152 = .ok (.iconst 3, 1) := by decide +kernel
theorem dL_law_153 : decode cL_law 153 = .ok (.invokestatic 19, 3) := by decide +kernel
theorem dL_law_156 : decode cL_law 156 = .ok (.istore_n 3, 1) := by decide +kernel
theorem dL_law_157 : decode cL_law 157 = .ok (.iconst 2, 1) := by decide +kernel
theorem dL_law_158 : decode cL_law 158 = .ok (.newarray .int, 2) := by decide +kernel
theorem dL_law_160 : decode cL_law 160 = .ok (.astore 4, 2) := by decide +kernel
theorem dL_law_162 : decode cL_law 162 = .ok (.iconst 2, 1) := by decide +kernel
theorem dL_law_163 : decode cL_law 163 = .ok (.newarray .int, 2) := by decide +kernel
theorem dL_law_165 : decode cL_law 165 = .ok (.astore 5, 2) := by decide +kernel
theorem dL_law_167 : decode cL_law 167 = .ok (.iconst 2, 1) := by decide +kernel
theorem dL_law_168 : decode cL_law 168 = .ok (.newarray .int, 2) := by decide +kernel
theorem dL_law_170 : decode cL_law 170 = .ok (.astore 6, 2) := by decide +kernel
theorem dL_law_172 : decode cL_law 172 = .ok (.iconst 2, 1) := by decide +kernel
theorem dL_law_173 : decode cL_law 173 = .ok (.newarray .int, 2) := by decide +kernel
theorem dL_law_175 : decode cL_law 175 = .ok (.astore 7, 2) := by decide +kernel
theorem dL_law_177 : decode cL_law 177 = .ok (.iconst 2, 1) := by decide +kernel
theorem dL_law_178 : decode cL_law 178 = .ok (.newarray .int, 2) := by decide +kernel
theorem dL_law_180 : decode cL_law 180 = .ok (.astore 8, 2) := by decide +kernel
theorem dL_law_182 : decode cL_law 182 = .ok (.iconst 0, 1) := by decide +kernel
theorem dL_law_183 : decode cL_law 183 = .ok (.istore 9, 2) := by decide +kernel
theorem dL_law_185 : decode cL_law 185 = .ok (.iload 9, 2) := by decide +kernel
theorem dL_law_187 : decode cL_law 187 = .ok (.iload_n 3, 1) := by decide +kernel
theorem dL_law_188 : decode cL_law 188 = .ok (.if_icmp .ge 198, 3) := by decide +kernel
theorem dL_law_191 : decode cL_law 191 = .ok (.aload 4, 2) := by decide +kernel
theorem dL_law_193 : decode cL_law 193 = .ok (.iload 9, 2) := by decide +kernel
theorem dL_law_195 : decode cL_law 195 = .ok (.aload_n 0, 1) := by decide +kernel
theorem dL_law_196 : decode cL_law 196 = .ok (.bipush 31, 2) := by decide +kernel
theorem dL_law_198 : decode cL_law 198 = .ok (.bipush 6, 2) := by decide +kernel
theorem dL_law_200 : decode cL_law 200 = .ok (.iload 9, 2) := by decide +kernel
theorem dL_law_202 : decode cL_law 202 = .ok (.imul, 1) := by decide +kernel
theorem dL_law_203 : decode cL_law 203 = .ok (.iadd, 1) := by decide +kernel
theorem dL_law_204 : decode cL_law 204 = .ok (.invokestatic 25, 3) := by decide +kernel
theorem dL_law_207 : decode cL_law 207 = .ok (.iconst 5, 1) := by decide +kernel
theorem dL_law_208 : decode cL_law 208 = .ok (.invokestatic 19, 3) := by decide +kernel
theorem dL_law_211 : decode cL_law 211 = .ok (.iastore, 1) := by decide +kernel
theorem dL_law_212 : decode cL_law 212 = .ok (.aload 5, 2) := by decide +kernel
theorem dL_law_214 : decode cL_law 214 = .ok (.iload 9, 2) := by decide +kernel
theorem dL_law_216 : decode cL_law 216 = .ok (.aload 4, 2) := by decide +kernel
theorem dL_law_218 : decode cL_law 218 = .ok (.iload 9, 2) := by decide +kernel
theorem dL_law_220 : decode cL_law 220 = .ok (.iaload, 1) := by decide +kernel
theorem dL_law_221 : decode cL_law 221 = .ok (.ifCond .ne 22, 3) := by decide +kernel
theorem dL_law_224 : decode cL_law 224 = .ok (.aload_n 0, 1) := by decide +kernel
theorem dL_law_225 : decode cL_law 225 = .ok (.bipush 32, 2) := by decide +kernel
theorem dL_law_227 : decode cL_law 227 = .ok (.bipush 6, 2) := by decide +kernel
theorem dL_law_229 : decode cL_law 229 = .ok (.iload 9, 2) := by decide +kernel
theorem dL_law_231 : decode cL_law 231 = .ok (.imul, 1) := by decide +kernel
theorem dL_law_232 : decode cL_law 232 = .ok (.iadd, 1) := by decide +kernel
theorem dL_law_233 : decode cL_law 233 = .ok (.invokestatic 25, 3) := by decide +kernel
theorem dL_law_236 : decode cL_law 236 = .ok (.iconst 3, 1) := by decide +kernel
theorem dL_law_237 : decode cL_law 237 = .ok (.invokestatic 19, 3) := by decide +kernel
theorem dL_law_240 : decode cL_law 240 = .ok (.goto 24, 3) := by decide +kernel
theorem dL_law_243 : decode cL_law 243 = .ok (.aload 4, 2) := by decide +kernel
theorem dL_law_245 : decode cL_law 245 = .ok (.iload 9, 2) := by decide +kernel
theorem dL_law_247 : decode cL_law 247 = .ok (.iaload, 1) := by decide +kernel
theorem dL_law_248 : decode cL_law 248 = .ok (.iconst 0, 1) := by decide +kernel
theorem dL_law_249 : decode cL_law 249 = .ok (.aload_n 0, 1) := by decide +kernel
theorem dL_law_250 : decode cL_law 250 = .ok (.bipush 32, 2) := by decide +kernel
theorem dL_law_252 : decode cL_law 252 = .ok (.bipush 6, 2) := by decide +kernel
theorem dL_law_254 : decode cL_law 254 = .ok (.iload 9, 2) := by decide +kernel
theorem dL_law_256 : decode cL_law 256 = .ok (.imul, 1) := by decide +kernel
theorem dL_law_257 : decode cL_law 257 = .ok (.iadd, 1) := by decide +kernel
theorem dL_law_258 : decode cL_law 258 = .ok (.invokestatic 25, 3) := by decide +kernel
theorem dL_law_261 : decode cL_law 261 = .ok (.invokestatic 29, 3) := by decide +kernel
theorem dL_law_264 : decode cL_law 264 = .ok (.iastore, 1) := by decide +kernel
theorem dL_law_265 : decode cL_law 265 = .ok (.aload 6, 2) := by decide +kernel
theorem dL_law_267 : decode cL_law 267 = .ok (.iload 9, 2) := by decide +kernel
theorem dL_law_269 : decode cL_law 269 = .ok (.aload 4, 2) := by decide +kernel
theorem dL_law_271 : decode cL_law 271 = .ok (.iload 9, 2) := by decide +kernel
theorem dL_law_273 : decode cL_law 273 = .ok (.iaload, 1) := by decide +kernel
theorem dL_law_274 : decode cL_law 274 = .ok (.iconst 1, 1) := by decide +kernel
theorem dL_law_275 : decode cL_law 275 = .ok (.aload_n 0, 1) := by decide +kernel
theorem dL_law_276 : decode cL_law 276 = .ok (.bipush 33, 2) := by decide +kernel
theorem dL_law_278 : decode cL_law 278 = .ok (.bipush 6, 2) := by decide +kernel
theorem dL_law_280 : decode cL_law 280 = .ok (.iload 9, 2) := by decide +kernel
theorem dL_law_282 : decode cL_law 282 = .ok (.imul, 1) := by decide +kernel
theorem dL_law_283 : decode cL_law 283 = .ok (.iadd, 1) := by decide +kernel
theorem dL_law_284 : decode cL_law 284 = .ok (.invokestatic 25, 3) := by decide +kernel
theorem dL_law_287 : decode cL_law 287 = .ok (.invokestatic 29, 3) := by decide +kernel
theorem dL_law_290 : decode cL_law 290 = .ok (.iastore, 1) := by decide +kernel
theorem dL_law_291 : decode cL_law 291 = .ok (.aload 7, 2) := by decide +kernel
theorem dL_law_293 : decode cL_law 293 = .ok (.iload 9, 2) := by decide +kernel
theorem dL_law_295 : decode cL_law 295 = .ok (.aload 4, 2) := by decide +kernel
theorem dL_law_297 : decode cL_law 297 = .ok (.iload 9, 2) := by decide +kernel
theorem dL_law_299 : decode cL_law 299 = .ok (.iaload, 1) := by decide +kernel
theorem dL_law_300 : decode cL_law 300 = .ok (.iconst 2, 1) := by decide +kernel
theorem dL_law_301 : decode cL_law 301 = .ok (.aload_n 0, 1) := by decide +kernel
theorem dL_law_302 : decode cL_law 302 = .ok (.bipush 34, 2) := by decide +kernel
theorem dL_law_304 : decode cL_law 304 = .ok (.bipush 6, 2) := by decide +kernel
theorem dL_law_306 : decode cL_law 306 = .ok (.iload 9, 2) := by decide +kernel
theorem dL_law_308 : decode cL_law 308 = .ok (.imul, 1) := by decide +kernel
theorem dL_law_309 : decode cL_law 309 = .ok (.iadd, 1) := by decide +kernel
theorem dL_law_310 : decode cL_law 310 = .ok (.invokestatic 25, 3) := by decide +kernel
theorem dL_law_313 : decode cL_law 313 = .ok (.invokestatic 29, 3) := by decide +kernel
theorem dL_law_316 : decode cL_law 316 = .ok (.iastore, 1) := by decide +kernel
theorem dL_law_317 : decode cL_law 317 = .ok (.aload 8, 2) := by decide +kernel
theorem dL_law_319 : decode cL_law 319 = .ok (.iload 9, 2) := by decide +kernel
theorem dL_law_321 : decode cL_law 321 = .ok (.aload 4, 2) := by decide +kernel
theorem dL_law_323 : decode cL_law 323 = .ok (.iload 9, 2) := by decide +kernel
theorem dL_law_325 : decode cL_law 325 = .ok (.iaload, 1) := by decide +kernel
theorem dL_law_326 : decode cL_law 326 = .ok (.iconst 3, 1) := by decide +kernel
theorem dL_law_327 : decode cL_law 327 = .ok (.aload_n 0, 1) := by decide +kernel
theorem dL_law_328 : decode cL_law 328 = .ok (.bipush 35, 2) := by decide +kernel
theorem dL_law_330 : decode cL_law 330 = .ok (.bipush 6, 2) := by decide +kernel
theorem dL_law_332 : decode cL_law 332 = .ok (.iload 9, 2) := by decide +kernel
theorem dL_law_334 : decode cL_law 334 = .ok (.imul, 1) := by decide +kernel
theorem dL_law_335 : decode cL_law 335 = .ok (.iadd, 1) := by decide +kernel
theorem dL_law_336 : decode cL_law 336 = .ok (.invokestatic 25, 3) := by decide +kernel
theorem dL_law_339 : decode cL_law 339 = .ok (.invokestatic 29, 3) := by decide +kernel
theorem dL_law_342 : decode cL_law 342 = .ok (.iastore, 1) := by decide +kernel
theorem dL_law_343 : decode cL_law 343 = .ok (.aload_n 1, 1) := by decide +kernel
theorem dL_law_344 : decode cL_law 344 = .ok (.aload 4, 2) := by decide +kernel
theorem dL_law_346 : decode cL_law 346 = .ok (.iload 9, 2) := by decide +kernel
theorem dL_law_348 : decode cL_law 348 = .ok (.iaload, 1) := by decide +kernel
theorem dL_law_349 : decode cL_law 349 = .ok (.aload 5, 2) := by decide +kernel
theorem dL_law_351 : decode cL_law 351 = .ok (.iload 9, 2) := by decide +kernel
theorem dL_law_353 : decode cL_law 353 = .ok (.iaload, 1) := by decide +kernel
theorem dL_law_354 : decode cL_law 354 = .ok (.aload 6, 2) := by decide +kernel
theorem dL_law_356 : decode cL_law 356 = .ok (.iload 9, 2) := by decide +kernel
theorem dL_law_358 : decode cL_law 358 = .ok (.iaload, 1) := by decide +kernel
theorem dL_law_359 : decode cL_law 359 = .ok (.aload 7, 2) := by decide +kernel
theorem dL_law_361 : decode cL_law 361 = .ok (.iload 9, 2) := by decide +kernel
theorem dL_law_363 : decode cL_law 363 = .ok (.iaload, 1) := by decide +kernel
theorem dL_law_364 : decode cL_law 364 = .ok (.aload 8, 2) := by decide +kernel
theorem dL_law_366 : decode cL_law 366 = .ok (.iload 9, 2) := by decide +kernel
theorem dL_law_368 : decode cL_law 368 = .ok (.iaload, 1) := by decide +kernel
theorem dL_law_369 : decode cL_law 369 = .ok (.iconst 0, 1) := by decide +kernel
theorem dL_law_370 : decode cL_law 370 = .ok (.invokevirtual 37, 3) := by decide +kernel
theorem dL_law_373 : decode cL_law 373 = .ok (.iload 9, 2) := by decide +kernel
theorem dL_law_375 : decode cL_law 375 = .ok (.if_icmp .eq 5, 3) := by decide +kernel
theorem dL_law_378 : decode cL_law 378 = .ok (.iconst 0, 1) := by decide +kernel
theorem dL_law_379 : decode cL_law 379 = .ok (.ireturn, 1) := by decide +kernel
theorem dL_law_380 : decode cL_law 380 = .ok (.iinc 9 1, 3) := by decide +kernel
theorem dL_law_383 : decode cL_law 383 = .ok (.goto (-198), 3) := by decide +kernel
theorem dL_law_386 : decode cL_law 386 = .ok (.aload_n 0, 1) := by decide +kernel
theorem dL_law_387 : decode cL_law 387 = .ok (.bipush 50, 2) := by decide +kernel
theorem dL_law_389 : decode cL_law 389 = .ok (.invokestatic 25, 3) := by decide +kernel
theorem dL_law_392 : decode cL_law 392 = .ok (.bipush 8, 2) := by decide +kernel
theorem dL_law_394 : decode cL_law 394 = .ok (.invokestatic 19, 3) := by decide +kernel
theorem dL_law_397 : decode cL_law 397 = .ok (.istore 9, 2) := by decide +kernel
theorem dL_law_399 : decode cL_law 399 = .ok (.aload_n 0, 1) := by decide +kernel
theorem dL_law_400 : decode cL_law 400 = .ok (.bipush 51, 2) := by decide +kernel
theorem dL_law_402 : decode cL_law 402 = .ok (.invokestatic 25, 3) := by decide +kernel
theorem dL_law_405 : decode cL_law 405 = .ok (.bipush 8, 2) := by decide +kernel
theorem dL_law_407 : decode cL_law 407 = .ok (.invokestatic 19, 3) := by decide +kernel
theorem dL_law_410 : decode cL_law 410 = .ok (.istore 10, 2) := by decide +kernel
theorem dL_law_412 : decode cL_law 412 = .ok (.aload_n 0, 1) := by decide +kernel
theorem dL_law_413 : decode cL_law 413 = .ok (.bipush 52, 2) := by decide +kernel
theorem dL_law_415 : decode cL_law 415 = .ok (.invokestatic 25, 3) := by decide +kernel
theorem dL_law_418 : decode cL_law 418 = .ok (.iconst 5, 1) := by decide +kernel
theorem dL_law_419 : decode cL_law 419 = .ok (.invokestatic 19, 3) := by decide +kernel
theorem dL_law_422 : decode cL_law 422 = .ok (.istore 11, 2) := by decide +kernel
theorem dL_law_424 : decode cL_law 424 = .ok (.aload_n 1, 1) := by decide +kernel
theorem dL_law_425 : decode cL_law 425 = .ok (.iconst 0, 1) := by decide +kernel
theorem dL_law_426 : decode cL_law 426 = .ok (.iload 9, 2) := by decide +kernel
theorem dL_law_428 : decode cL_law 428 = .ok (.iload 10, 2) := by decide +kernel
theorem dL_law_430 : decode cL_law 430 = .ok (.iload 11, 2) := by decide +kernel
theorem dL_law_432 : decode cL_law 432 = .ok (.iconst 3, 1) := by decide +kernel
theorem dL_law_433 : decode cL_law 433 = .ok (.if_icmp .ne 8, 3) := by decide +kernel
theorem dL_law_436 : decode cL_law 436 = .ok (.bipush 15, 2) := by decide +kernel
theorem dL_law_438 : decode cL_law 438 = .ok (.goto 15, 3) := by decide +kernel
theorem dL_law_441 : decode cL_law 441 = .ok (.iload 11, 2) := by decide +kernel
theorem dL_law_443 : decode cL_law 443 = .ok (.iconst 4, 1) := by decide +kernel
theorem dL_law_444 : decode cL_law 444 = .ok (.if_icmp .ne 7, 3) := by decide +kernel
theorem dL_law_447 : decode cL_law 447 = .ok (.iconst (-1), 1) := by decide +kernel
theorem dL_law_448 : decode cL_law 448 = .ok (.goto 5, 3) := by decide +kernel
theorem dL_law_451 : decode cL_law 451 = .ok (.iload 11, 2) := by decide +kernel
theorem dL_law_453 : decode cL_law 453 = .ok (.iconst 0, 1) := by decide +kernel
theorem dL_law_454 : decode cL_law 454 = .ok (.iconst 0, 1) := by decide +kernel
theorem dL_law_455 : decode cL_law 455 = .ok (.invokevirtual 40, 3) := by decide +kernel
theorem dL_law_458 : decode cL_law 458 = .ok (.ifCond .eq 5, 3) := by decide +kernel
theorem dL_law_461 : decode cL_law 461 = .ok (.iconst 0, 1) := by decide +kernel
theorem dL_law_462 : decode cL_law 462 = .ok (.ireturn, 1) := by decide +kernel
theorem dL_law_463 : decode cL_law 463 = .ok (.iload_n 3, 1) := by decide +kernel
theorem dL_law_464 : decode cL_law 464 = .ok (.ifCond .ne 7, 3) := by decide +kernel
theorem dL_law_467 : decode cL_law 467 = .ok (.iconst 1, 1) := by decide +kernel
theorem dL_law_468 : decode cL_law 468 = .ok (.goto 13, 3) := by decide +kernel
theorem dL_law_471 : decode cL_law 471 = .ok (.iload_n 3, 1) := by decide +kernel
theorem dL_law_472 : decode cL_law 472 = .ok (.iconst 1, 1) := by decide +kernel
theorem dL_law_473 : decode cL_law 473 = .ok (.if_icmp .ne 7, 3) := by decide +kernel
theorem dL_law_476 : decode cL_law 476 = .ok (.iconst 2, 1) := by decide +kernel
theorem dL_law_477 : decode cL_law 477 = .ok (.goto 4, 3) := by decide +kernel
theorem dL_law_480 : decode cL_law 480 = .ok (.iconst 5, 1) := by decide +kernel
theorem dL_law_481 : decode cL_law 481 = .ok (.istore 12, 2) := by decide +kernel
theorem dL_law_483 : decode cL_law 483 = .ok (.aload_n 1, 1) := by decide +kernel
theorem dL_law_484 : decode cL_law 484 = .ok (.iconst 0, 1) := by decide +kernel
theorem dL_law_485 : decode cL_law 485 = .ok (.invokevirtual 43, 3) := by decide +kernel
theorem dL_law_488 : decode cL_law 488 = .ok (.iload 12, 2) := by decide +kernel
theorem dL_law_490 : decode cL_law 490 = .ok (.if_icmp .eq 5, 3) := by decide +kernel
theorem dL_law_493 : decode cL_law 493 = .ok (.iconst 0, 1) := by decide +kernel
theorem dL_law_494 : decode cL_law 494 = .ok (.ireturn, 1) := by decide +kernel
theorem dL_law_495 : decode cL_law 495 = .ok (.iconst 0, 1) := by decide +kernel
theorem dL_law_496 : decode cL_law 496 = .ok (.istore 13, 2) := by decide +kernel
theorem dL_law_498 : decode cL_law 498 = .ok (.iconst 0, 1) := by decide +kernel
theorem dL_law_499 : decode cL_law 499 = .ok (.istore 14, 2) := by decide +kernel
theorem dL_law_501 : decode cL_law 501 = .ok (.iload 14, 2) := by decide +kernel
theorem dL_law_503 : decode cL_law 503 = .ok (.iload 12, 2) := by decide +kernel
theorem dL_law_505 : decode cL_law 505 = .ok (.if_icmp .ge 356, 3) := by decide +kernel
theorem dL_law_508 : decode cL_law 508 = .ok (.iload 14, 2) := by decide +kernel
theorem dL_law_510 : decode cL_law 510 = .ok (.ifCond .ne 7, 3) := by decide +kernel
theorem dL_law_513 : decode cL_law 513 = .ok (.iconst 0, 1) := by decide +kernel
theorem dL_law_514 : decode cL_law 514 = .ok (.goto 14, 3) := by decide +kernel
theorem dL_law_517 : decode cL_law 517 = .ok (.iload 14, 2) := by decide +kernel
theorem dL_law_519 : decode cL_law 519 = .ok (.iconst 3, 1) := by decide +kernel
theorem dL_law_520 : decode cL_law 520 = .ok (.if_icmp .ge 7, 3) := by decide +kernel
theorem dL_law_523 : decode cL_law 523 = .ok (.iconst 1, 1) := by decide +kernel
theorem dL_law_524 : decode cL_law 524 = .ok (.goto 4, 3) := by decide +kernel
theorem dL_law_527 : decode cL_law 527 = .ok (.iconst 2, 1) := by decide +kernel
theorem dL_law_528 : decode cL_law 528 = .ok (.istore 15, 2) := by decide +kernel
theorem dL_law_530 : decode cL_law 530 = .ok (.iload 14, 2) := by decide +kernel
theorem dL_law_532 : decode cL_law 532 = .ok (.iconst 1, 1) := by decide +kernel
theorem dL_law_533 : decode cL_law 533 = .ok (.if_icmp .eq 9, 3) := by decide +kernel
theorem dL_law_536 : decode cL_law 536 = .ok (.iload 14, 2) := by decide +kernel
theorem dL_law_538 : decode cL_law 538 = .ok (.iconst 3, 1) := by decide +kernel
theorem dL_law_539 : decode cL_law 539 = .ok (.if_icmp .ne 7, 3) := by decide +kernel
theorem dL_law_542 : decode cL_law 542 = .ok (.iconst 0, 1) := by decide +kernel
theorem dL_law_543 : decode cL_law 543 = .ok (.goto 4, 3) := by decide +kernel
theorem dL_law_546 : decode cL_law 546 = .ok (.iconst 1, 1) := by decide +kernel
theorem dL_law_547 : decode cL_law 547 = .ok (.istore 16, 2) := by decide +kernel
theorem dL_law_549 : decode cL_law 549 = .ok (.aload_n 1, 1) := by decide +kernel
theorem dL_law_550 : decode cL_law 550 = .ok (.iconst 0, 1) := by decide +kernel
theorem dL_law_551 : decode cL_law 551 = .ok (.iload 14, 2) := by decide +kernel
theorem dL_law_553 : decode cL_law 553 = .ok (.iconst (-1), 1) := by decide +kernel
theorem dL_law_554 : decode cL_law 554 = .ok (.invokevirtual 47, 3) := by decide +kernel
theorem dL_law_557 : decode cL_law 557 = .ok (.iload 15, 2) := by decide +kernel
theorem dL_law_559 : decode cL_law 559 = .ok (.if_icmp .ne 62, 3) := by decide +kernel
theorem dL_law_562 : decode cL_law 562 = .ok (.aload_n 1, 1) := by decide +kernel
theorem dL_law_563 : decode cL_law 563 = .ok (.iconst 0, 1) := by decide +kernel
theorem dL_law_564 : decode cL_law 564 = .ok (.iload 14, 2) := by decide +kernel
theorem dL_law_566 : decode cL_law 566 = .ok (.iconst 0, 1) := by decide +kernel
theorem dL_law_567 : decode cL_law 567 = .ok (.invokevirtual 47, 3) := by decide +kernel
theorem dL_law_570 : decode cL_law 570 = .ok (.iload 15, 2) := by decide +kernel
theorem dL_law_572 : decode cL_law 572 = .ok (.ifCond .ne 7, 3) := by decide +kernel
theorem dL_law_575 : decode cL_law 575 = .ok (.iconst (-1), 1) := by decide +kernel
theorem dL_law_576 : decode cL_law 576 = .ok (.goto 5, 3) := by decide +kernel
theorem dL_law_579 : decode cL_law 579 = .ok (.iload 16, 2) := by decide +kernel
theorem dL_law_581 : decode cL_law 581 = .ok (.if_icmp .ne 40, 3) := by decide +kernel
theorem dL_law_584 : decode cL_law 584 = .ok (.aload_n 1, 1) := by decide +kernel
theorem dL_law_585 : decode cL_law 585 = .ok (.iconst 0, 1) := by decide +kernel
theorem dL_law_586 : decode cL_law 586 = .ok (.iload 14, 2) := by decide +kernel
theorem dL_law_588 : decode cL_law 588 = .ok (.iconst 1, 1) := by decide +kernel
theorem dL_law_589 : decode cL_law 589 = .ok (.invokevirtual 47, 3) := by decide +kernel
theorem dL_law_592 : decode cL_law 592 = .ok (.iload 15, 2) := by decide +kernel
theorem dL_law_594 : decode cL_law 594 = .ok (.iconst 2, 1) := by decide +kernel
theorem dL_law_595 : decode cL_law 595 = .ok (.if_icmp .ge 7, 3) := by decide +kernel
theorem dL_law_598 : decode cL_law 598 = .ok (.iconst (-1), 1) := by decide +kernel
theorem dL_law_599 : decode cL_law 599 = .ok (.goto 7, 3) := by decide +kernel
theorem dL_law_602 : decode cL_law 602 = .ok (.iconst 1, 1) := by decide +kernel
theorem dL_law_603 : decode cL_law 603 = .ok (.iload 16, 2) := by decide +kernel
theorem dL_law_605 : decode cL_law 605 = .ok (.isub, 1) := by decide +kernel
theorem dL_law_606 : decode cL_law 606 = .ok (.if_icmp .ne 15, 3) := by decide +kernel
theorem dL_law_609 : decode cL_law 609 = .ok (.aload_n 1, 1) := by decide +kernel
theorem dL_law_610 : decode cL_law 610 = .ok (.iconst 0, 1) := by decide +kernel
theorem dL_law_611 : decode cL_law 611 = .ok (.iload 14, 2) := by decide +kernel
theorem dL_law_613 : decode cL_law 613 = .ok (.iconst 2, 1) := by decide +kernel
theorem dL_law_614 : decode cL_law 614 = .ok (.invokevirtual 47, 3) := by decide +kernel
theorem dL_law_617 : decode cL_law 617 = .ok (.iconst (-1), 1) := by decide +kernel
theorem dL_law_618 : decode cL_law 618 = .ok (.if_icmp .eq 5, 3) := by decide +kernel
theorem dL_law_621 : decode cL_law 621 = .ok (.iconst 0, 1) := by decide +kernel
theorem dL_law_622 : decode cL_law 622 = .ok (.ireturn, 1) := by decide +kernel
theorem dL_law_623 : decode cL_law 623 = .ok (.new 22, 3) := by decide +kernel
theorem dL_law_626 : decode cL_law 626 = .ok (.dup, 1) := by decide +kernel
theorem dL_law_627 : decode cL_law 627 = .ok (.invokespecial 24, 3) := by decide +kernel
theorem dL_law_630 : decode cL_law 630 = .ok (.astore 17, 2) := by decide +kernel
theorem dL_law_632 : decode cL_law 632 = .ok (.iconst 0, 1) := by decide +kernel
theorem dL_law_633 : decode cL_law 633 = .ok (.istore 18, 2) := by decide +kernel
theorem dL_law_635 : decode cL_law 635 = .ok (.iload 18, 2) := by decide +kernel
theorem dL_law_637 : decode cL_law 637 = .ok (.iload_n 2, 1) := by decide +kernel
theorem dL_law_638 : decode cL_law 638 = .ok (.if_icmp .ge 57, 3) := by decide +kernel
theorem dL_law_641 : decode cL_law 641 = .ok (.aload 17, 2) := by decide +kernel
theorem dL_law_643 : decode cL_law 643 = .ok (.aload_n 1, 1) := by decide +kernel
theorem dL_law_644 : decode cL_law 644 = .ok (.iload 18, 2) := by decide +kernel
theorem dL_law_646 : decode cL_law 646 = .ok (.iconst 0, 1) := by decide +kernel
theorem dL_law_647 : decode cL_law 647 = .ok (.invokevirtual 50, 3) := by decide +kernel
theorem dL_law_650 : decode cL_law 650 = .ok (.aload_n 1, 1) := by decide +kernel
theorem dL_law_651 : decode cL_law 651 = .ok (.iload 18, 2) := by decide +kernel
theorem dL_law_653 : decode cL_law 653 = .ok (.iconst 1, 1) := by decide +kernel
theorem dL_law_654 : decode cL_law 654 = .ok (.invokevirtual 50, 3) := by decide +kernel
theorem dL_law_657 : decode cL_law 657 = .ok (.aload_n 1, 1) := by decide +kernel
theorem dL_law_658 : decode cL_law 658 = .ok (.iload 18, 2) := by decide +kernel
theorem dL_law_660 : decode cL_law 660 = .ok (.iconst 2, 1) := by decide +kernel
theorem dL_law_661 : decode cL_law 661 = .ok (.invokevirtual 50, 3) := by decide +kernel
theorem dL_law_664 : decode cL_law 664 = .ok (.aload_n 1, 1) := by decide +kernel
theorem dL_law_665 : decode cL_law 665 = .ok (.iload 18, 2) := by decide +kernel
theorem dL_law_667 : decode cL_law 667 = .ok (.iconst 3, 1) := by decide +kernel
theorem dL_law_668 : decode cL_law 668 = .ok (.invokevirtual 50, 3) := by decide +kernel
theorem dL_law_671 : decode cL_law 671 = .ok (.aload_n 1, 1) := by decide +kernel
theorem dL_law_672 : decode cL_law 672 = .ok (.iload 18, 2) := by decide +kernel
theorem dL_law_674 : decode cL_law 674 = .ok (.iconst 4, 1) := by decide +kernel
theorem dL_law_675 : decode cL_law 675 = .ok (.invokevirtual 50, 3) := by decide +kernel
theorem dL_law_678 : decode cL_law 678 = .ok (.iconst 0, 1) := by decide +kernel
theorem dL_law_679 : decode cL_law 679 = .ok (.invokevirtual 33, 3) := by decide +kernel
theorem dL_law_682 : decode cL_law 682 = .ok (.iload 18, 2) := by decide +kernel
theorem dL_law_684 : decode cL_law 684 = .ok (.if_icmp .eq 5, 3) := by decide +kernel
theorem dL_law_687 : decode cL_law 687 = .ok (.iconst 0, 1) := by decide +kernel
theorem dL_law_688 : decode cL_law 688 = .ok (.ireturn, 1) := by decide +kernel
theorem dL_law_689 : decode cL_law 689 = .ok (.iinc 18 1, 3) := by decide +kernel
theorem dL_law_692 : decode cL_law 692 = .ok (.goto (-57), 3) := by decide +kernel
theorem dL_law_695 : decode cL_law 695 = .ok (.iconst 0, 1) := by decide +kernel
theorem dL_law_696 : decode cL_law 696 = .ok (.istore 18, 2) := by decide +kernel
theorem dL_law_698 : decode cL_law 698 = .ok (.iload 18, 2) := by decide +kernel
theorem dL_law_700 : decode cL_law 700 = .ok (.iload 15, 2) := by decide +kernel
theorem dL_law_702 : decode cL_law 702 = .ok (.if_icmp .ge 65, 3) := by decide +kernel
theorem dL_law_705 : decode cL_law 705 = .ok (.iload 18, 2) := by decide +kernel
theorem dL_law_707 : decode cL_law 707 = .ok (.ifCond .ne 8, 3) := by decide +kernel
theorem dL_law_710 : decode cL_law 710 = .ok (.iload 16, 2) := by decide +kernel
theorem dL_law_712 : decode cL_law 712 = .ok (.goto 7, 3) := by decide +kernel
theorem dL_law_715 : decode cL_law 715 = .ok (.iconst 1, 1) := by decide +kernel
theorem dL_law_716 : decode cL_law 716 = .ok (.iload 16, 2) := by decide +kernel
theorem dL_law_718 : decode cL_law 718 = .ok (.isub, 1) := by decide +kernel
