theorem d_M_init_0 : decode b_M_init 0 = .ok (.aload_n 0, 1) := by decide +kernel
theorem d_M_init_1 : decode b_M_init 1 = .ok (.invokespecial 1, 3) := by decide +kernel
theorem d_M_init_4 : decode b_M_init 4 = .ok (.aload_n 0, 1) := by decide +kernel
theorem d_M_init_5 : decode b_M_init 5 = .ok (.bipush 48, 2) := by decide +kernel
theorem d_M_init_7 : decode b_M_init 7 = .ok (.newarray .int, 2) := by decide +kernel
theorem d_M_init_9 : decode b_M_init 9 = .ok (.putfield 7, 3) := by decide +kernel
theorem d_M_init_12 : decode b_M_init 12 = .ok (.aload_n 0, 1) := by decide +kernel
theorem d_M_init_13 : decode b_M_init 13 = .ok (.bipush 48, 2) := by decide +kernel
theorem d_M_init_15 : decode b_M_init 15 = .ok (.newarray .int, 2) := by decide +kernel
theorem d_M_init_17 : decode b_M_init 17 = .ok (.putfield 13, 3) := by decide +kernel
theorem d_M_init_20 : decode b_M_init 20 = .ok (.aload_n 0, 1) := by decide +kernel
theorem d_M_init_21 : decode b_M_init 21 = .ok (.bipush 48, 2) := by decide +kernel
theorem d_M_init_23 : decode b_M_init 23 = .ok (.newarray .int, 2) := by decide +kernel
theorem d_M_init_25 : decode b_M_init 25 = .ok (.putfield 16, 3) := by decide +kernel
theorem d_M_init_28 : decode b_M_init 28 = .ok (.aload_n 0, 1) := by decide +kernel
theorem d_M_init_29 : decode b_M_init 29 = .ok (.iconst 4, 1) := by decide +kernel
theorem d_M_init_30 : decode b_M_init 30 = .ok (.newarray .int, 2) := by decide +kernel
theorem d_M_init_32 : decode b_M_init 32 = .ok (.putfield 19, 3) := by decide +kernel
theorem d_M_init_35 : decode b_M_init 35 = .ok (.aload_n 0, 1) := by decide +kernel
theorem d_M_init_36 : decode b_M_init 36 = .ok (.bipush 8, 2) := by decide +kernel
theorem d_M_init_38 : decode b_M_init 38 = .ok (.newarray .int, 2) := by decide +kernel
theorem d_M_init_40 : decode b_M_init 40 = .ok (.putfield 22, 3) := by decide +kernel
theorem d_M_init_43 : decode b_M_init 43 = .ok (.aload_n 0, 1) := by decide +kernel
theorem d_M_init_44 : decode b_M_init 44 = .ok (.bipush 32, 2) := by decide +kernel
theorem d_M_init_46 : decode b_M_init 46 = .ok (.newarray .int, 2) := by decide +kernel
theorem d_M_init_48 : decode b_M_init 48 = .ok (.putfield 25, 3) := by decide +kernel
theorem d_M_init_51 : decode b_M_init 51 = .ok (.aload_n 0, 1) := by decide +kernel
theorem d_M_init_52 : decode b_M_init 52 = .ok (.bipush 8, 2) := by decide +kernel
theorem d_M_init_54 : decode b_M_init 54 = .ok (.newarray .int, 2) := by decide +kernel
theorem d_M_init_56 : decode b_M_init 56 = .ok (.putfield 28, 3) := by decide +kernel
theorem d_M_init_59 : decode b_M_init 59 = .ok (.aload_n 0, 1) := by decide +kernel
theorem d_M_init_60 : decode b_M_init 60 = .ok (.bipush 8, 2) := by decide +kernel
theorem d_M_init_62 : decode b_M_init 62 = .ok (.newarray .int, 2) := by decide +kernel
theorem d_M_init_64 : decode b_M_init 64 = .ok (.putfield 31, 3) := by decide +kernel
theorem d_M_init_67 : decode b_M_init 67 = .ok (.aload_n 0, 1) := by decide +kernel
theorem d_M_init_68 : decode b_M_init 68 = .ok (.bipush 8, 2) := by decide +kernel
theorem d_M_init_70 : decode b_M_init 70 = .ok (.newarray .int, 2) := by decide +kernel
theorem d_M_init_72 : decode b_M_init 72 = .ok (.putfield 34, 3) := by decide +kernel
theorem d_M_init_75 : decode b_M_init 75 = .ok (.aload_n 0, 1) := by decide +kernel
theorem d_M_init_76 : decode b_M_init 76 = .ok (.bipush 8, 2) := by decide +kernel
theorem d_M_init_78 : decode b_M_init 78 = .ok (.newarray .int, 2) := by decide +kernel
theorem d_M_init_80 : decode b_M_init 80 = .ok (.putfield 37, 3) := by decide +kernel
theorem d_M_init_83 : decode b_M_init 83 = .ok (.aload_n 0, 1) := by decide +kernel
theorem d_M_init_84 : decode b_M_init 84 = .ok (.bipush 8, 2) := by decide +kernel
theorem d_M_init_86 : decode b_M_init 86 = .ok (.newarray .int, 2) := by decide +kernel
theorem d_M_init_88 : decode b_M_init 88 = .ok (.putfield 40, 3) := by decide +kernel
theorem d_M_init_91 : decode b_M_init 91 = .ok (.aload_n 0, 1) := by decide +kernel
theorem d_M_init_92 : decode b_M_init 92 = .ok (.bipush 8, 2) := by decide +kernel
theorem d_M_init_94 : decode b_M_init 94 = .ok (.newarray .int, 2) := by decide +kernel
theorem d_M_init_96 : decode b_M_init 96 = .ok (.putfield 43, 3) := by decide +kernel
theorem d_M_init_99 : decode b_M_init 99 = .ok (.aload_n 0, 1) := by decide +kernel
theorem d_M_init_100 : decode b_M_init 100 = .ok (.bipush 8, 2) := by decide +kernel
theorem d_M_init_102 : decode b_M_init 102 = .ok (.newarray .int, 2) := by decide +kernel
theorem d_M_init_104 : decode b_M_init 104 = .ok (.putfield 46, 3) := by decide +kernel
theorem d_M_init_107 : decode b_M_init 107 = .ok (.aload_n 0, 1) := by decide +kernel
theorem d_M_init_108 : decode b_M_init 108 = .ok (.bipush 8, 2) := by decide +kernel
theorem d_M_init_110 : decode b_M_init 110 = .ok (.newarray .int, 2) := by decide +kernel
theorem d_M_init_112 : decode b_M_init 112 = .ok (.dup, 1) := by decide +kernel
theorem d_M_init_113 : decode b_M_init 113 = .ok (.iconst 0, 1) := by decide +kernel
theorem d_M_init_114 : decode b_M_init 114 = .ok (.bipush 8, 2) := by decide +kernel
theorem d_M_init_116 : decode b_M_init 116 = .ok (.iastore, 1) := by decide +kernel
theorem d_M_init_117 : decode b_M_init 117 = .ok (.dup, 1) := by decide +kernel
theorem d_M_init_118 : decode b_M_init 118 = .ok (.iconst 1, 1) := by decide +kernel
theorem d_M_init_119 : decode b_M_init 119 = .ok (.bipush 8, 2) := by decide +kernel
theorem d_M_init_121 : decode b_M_init 121 = .ok (.iastore, 1) := by decide +kernel
theorem d_M_init_122 : decode b_M_init 122 = .ok (.dup, 1) := by decide +kernel
theorem d_M_init_123 : decode b_M_init 123 = .ok (.iconst 2, 1) := by decide +kernel
theorem d_M_init_124 : decode b_M_init 124 = .ok (.bipush 8, 2) := by decide +kernel
theorem d_M_init_126 : decode b_M_init 126 = .ok (.iastore, 1) := by decide +kernel
theorem d_M_init_127 : decode b_M_init 127 = .ok (.dup, 1) := by decide +kernel
theorem d_M_init_128 : decode b_M_init 128 = .ok (.iconst 3, 1) := by decide +kernel
theorem d_M_init_129 : decode b_M_init 129 = .ok (.bipush 8, 2) := by decide +kernel
theorem d_M_init_131 : decode b_M_init 131 = .ok (.iastore, 1) := by decide +kernel
theorem d_M_init_132 : decode b_M_init 132 = .ok (.dup, 1) := by decide +kernel
theorem d_M_init_133 : decode b_M_init 133 = .ok (.iconst 4, 1) := by decide +kernel
theorem d_M_init_134 : decode b_M_init 134 = .ok (.bipush 8, 2) := by decide +kernel
theorem d_M_init_136 : decode b_M_init 136 = .ok (.iastore, 1) := by decide +kernel
theorem d_M_init_137 : decode b_M_init 137 = .ok (.dup, 1) := by decide +kernel
theorem d_M_init_138 : decode b_M_init 138 = .ok (.iconst 5, 1) := by decide +kernel
theorem d_M_init_139 : decode b_M_init 139 = .ok (.bipush 8, 2) := by decide +kernel
theorem d_M_init_141 : decode b_M_init 141 = .ok (.iastore, 1) := by decide +kernel
theorem d_M_init_142 : decode b_M_init 142 = .ok (.dup, 1) := by decide +kernel
theorem d_M_init_143 : decode b_M_init 143 = .ok (.bipush 6, 2) := by decide +kernel
theorem d_M_init_145 : decode b_M_init 145 = .ok (.bipush 8, 2) := by decide +kernel
theorem d_M_init_147 : decode b_M_init 147 = .ok (.iastore, 1) := by decide +kernel
theorem d_M_init_148 : decode b_M_init 148 = .ok (.dup, 1) := by decide +kernel
theorem d_M_init_149 : decode b_M_init 149 = .ok (.bipush 7, 2) := by decide +kernel
theorem d_M_init_151 : decode b_M_init 151 = .ok (.bipush 8, 2) := by decide +kernel
theorem d_M_init_153 : decode b_M_init 153 = .ok (.iastore, 1) := by decide +kernel
theorem d_M_init_154 : decode b_M_init 154 = .ok (.putfield 49, 3) := by decide +kernel
theorem d_M_init_157 : decode b_M_init 157 = .ok (.aload_n 0, 1) := by decide +kernel
theorem d_M_init_158 : decode b_M_init 158 = .ok (.bipush 8, 2) := by decide +kernel
theorem d_M_init_160 : decode b_M_init 160 = .ok (.newarray .int, 2) := by decide +kernel
theorem d_M_init_162 : decode b_M_init 162 = .ok (.putfield 52, 3) := by decide +kernel
theorem d_M_init_165 : decode b_M_init 165 = .ok (.aload_n 0, 1) := by decide +kernel
theorem d_M_init_166 : decode b_M_init 166 = .ok (.bipush 8, 2) := by decide +kernel
theorem d_M_init_168 : decode b_M_init 168 = .ok (.newarray .int, 2) := by decide +kernel
theorem d_M_init_170 : decode b_M_init 170 = .ok (.putfield 55, 3) := by decide +kernel
theorem d_M_init_173 : decode b_M_init 173 = .ok (.aload_n 0, 1) := by decide +kernel
theorem d_M_init_174 : decode b_M_init 174 = .ok (.bipush 8, 2) := by decide +kernel
theorem d_M_init_176 : decode b_M_init 176 = .ok (.newarray .boolean, 2) := by decide +kernel
theorem d_M_init_178 : decode b_M_init 178 = .ok (.putfield 58, 3) := by decide +kernel
theorem d_M_init_181 : decode b_M_init 181 = .ok (.aload_n 0, 1) := by decide +kernel
theorem d_M_init_182 : decode b_M_init 182 = .ok (.bipush 32, 2) := by decide +kernel
theorem d_M_init_184 : decode b_M_init 184 = .ok (.newarray .int, 2) := by decide +kernel
theorem d_M_init_186 : decode b_M_init 186 = .ok (.putfield 62, 3) := by decide +kernel
theorem d_M_init_189 : decode b_M_init 189 = .ok (.aload_n 0, 1) := by decide +kernel
theorem d_M_init_190 : decode b_M_init 190 = .ok (.bipush 24, 2) := by decide +kernel
theorem d_M_init_192 : decode b_M_init 192 = .ok (.newarray .int, 2) := by decide +kernel
theorem d_M_init_194 : decode b_M_init 194 = .ok (.putfield 65, 3) := by decide +kernel
theorem d_M_init_197 : decode b_M_init 197 = .ok (.aload_n 0, 1) := by decide +kernel
theorem d_M_init_198 : decode b_M_init 198 = .ok (.bipush 24, 2) := by decide +kernel
theorem d_M_init_200 : decode b_M_init 200 = .ok (.newarray .int, 2) := by decide +kernel
theorem d_M_init_202 : decode b_M_init 202 = .ok (.putfield 68, 3) := by decide +kernel
theorem d_M_init_205 : decode b_M_init 205 = .ok (.aload_n 0, 1) := by decide +kernel
theorem d_M_init_206 : decode b_M_init 206 = .ok (.bipush 8, 2) := by decide +kernel
theorem d_M_init_208 : decode b_M_init 208 = .ok (.newarray .int, 2) := by decide +kernel
theorem d_M_init_210 : decode b_M_init 210 = .ok (.dup, 1) := by decide +kernel
theorem d_M_init_211 : decode b_M_init 211 = .ok (.iconst 0, 1) := by decide +kernel
theorem d_M_init_212 : decode b_M_init 212 = .ok (.iconst 3, 1) := by decide +kernel
theorem d_M_init_213 : decode b_M_init 213 = .ok (.iastore, 1) := by decide +kernel
theorem d_M_init_214 : decode b_M_init 214 = .ok (.dup, 1) := by decide +kernel
theorem d_M_init_215 : decode b_M_init 215 = .ok (.iconst 1, 1) := by decide +kernel
theorem d_M_init_216 : decode b_M_init 216 = .ok (.iconst 3, 1) := by decide +kernel
theorem d_M_init_217 : decode b_M_init 217 = .ok (.iastore, 1) := by decide +kernel
theorem d_M_init_218 : decode b_M_init 218 = .ok (.dup, 1) := by decide +kernel
theorem d_M_init_219 : decode b_M_init 219 = .ok (.iconst 2, 1) := by decide +kernel
theorem d_M_init_220 : decode b_M_init 220 = .ok (.iconst 3, 1) := by decide +kernel
theorem d_M_init_221 : decode b_M_init 221 = .ok (.iastore, 1) := by decide +kernel
theorem d_M_init_222 : decode b_M_init 222 = .ok (.dup, 1) := by decide +kernel
theorem d_M_init_223 : decode b_M_init 223 = .ok (.iconst 3, 1) := by decide +kernel
theorem d_M_init_224 : decode b_M_init 224 = .ok (.iconst 3, 1) := by decide +kernel
theorem d_M_init_225 : decode b_M_init 225 = .ok (.iastore, 1) := by decide +kernel
theorem d_M_init_226 : decode b_M_init 226 = .ok (.dup, 1) := by decide +kernel
theorem d_M_init_227 : decode b_M_init 227 = .ok (.iconst 4, 1) := by decide +kernel
theorem d_M_init_228 : decode b_M_init 228 = .ok (.iconst 3, 1) := by decide +kernel
theorem d_M_init_229 : decode b_M_init 229 = .ok (.iastore, 1) := by decide +kernel
theorem d_M_init_230 : decode b_M_init 230 = .ok (.dup, 1) := by decide +kernel
theorem d_M_init_231 : decode b_M_init 231 = .ok (.iconst 5, 1) := by decide +kernel
theorem d_M_init_232 : decode b_M_init 232 = .ok (.iconst 3, 1) := by decide +kernel
theorem d_M_init_233 : decode b_M_init 233 = .ok (.iastore, 1) := by decide +kernel
theorem d_M_init_234 : decode b_M_init 234 = .ok (.dup, 1) := by decide +kernel
theorem d_M_init_235 : decode b_M_init 235 = .ok (.bipush 6, 2) := by decide +kernel
theorem d_M_init_237 : decode b_M_init 237 = .ok (.iconst 3, 1) := by decide +kernel
theorem d_M_init_238 : decode b_M_init 238 = .ok (.iastore, 1) := by decide +kernel
theorem d_M_init_239 : decode b_M_init 239 = .ok (.dup, 1) := by decide +kernel
theorem d_M_init_240 : decode b_M_init 240 = .ok (.bipush 7, 2) := by decide +kernel
theorem d_M_init_242 : decode b_M_init 242 = .ok (.iconst 3, 1) := by decide +kernel
theorem d_M_init_243 : decode b_M_init 243 = .ok (.iastore, 1) := by decide +kernel
theorem d_M_init_244 : decode b_M_init 244 = .ok (.putfield 71, 3) := by decide +kernel
theorem d_M_init_247 : decode b_M_init 247 = .ok (.aload_n 0, 1) := by decide +kernel
theorem d_M_init_248 : decode b_M_init 248 = .ok (.bipush 24, 2) := by decide +kernel
theorem d_M_init_250 : decode b_M_init 250 = .ok (.newarray .int, 2) := by decide +kernel
theorem d_M_init_252 : decode b_M_init 252 = .ok (.putfield 74, 3) := by decide +kernel
theorem d_M_init_255 : decode b_M_init 255 = .ok (.return_, 1) := by decide +kernel
theorem d_M_tick_0 : decode b_M_tick 0 = .ok (.aload_n 0, 1) := by decide +kernel
theorem d_M_tick_1 : decode b_M_tick 1 = .ok (.dup, 1) := by decide +kernel
theorem d_M_tick_2 : decode b_M_tick 2 = .ok (.getfield 77, 3) := by decide +kernel
theorem d_M_tick_5 : decode b_M_tick 5 = .ok (.iconst 1, 1) := by decide +kernel
theorem d_M_tick_6 : decode b_M_tick 6 = .ok (.iadd, 1) := by decide +kernel
theorem d_M_tick_7 : decode b_M_tick 7 = .ok (.putfield 77, 3) := by decide +kernel
theorem d_M_tick_10 : decode b_M_tick 10 = .ok (.aload_n 0, 1) := by decide +kernel
theorem d_M_tick_11 : decode b_M_tick 11 = .ok (.getfield 77, 3) := by decide +kernel
theorem d_M_tick_14 : decode b_M_tick 14 = .ok (.ireturn, 1) := by decide +kernel
theorem d_M_out_0 : decode b_M_out 0 = .ok (.iload_n 0, 1) := by decide +kernel
theorem d_M_out_1 : decode b_M_out 1 = .ok (.ifCond .lt 8, 3) := by decide +kernel
theorem d_M_out_4 : decode b_M_out 4 = .ok (.iload_n 0, 1) := by decide +kernel
theorem d_M_out_5 : decode b_M_out 5 = .ok (.iload_n 1, 1) := by decide +kernel
theorem d_M_out_6 : decode b_M_out 6 = .ok (.if_icmp .le 7, 3) := by decide +kernel
theorem d_M_out_9 : decode b_M_out 9 = .ok (.iconst 1, 1) := by decide +kernel
theorem d_M_out_10 : decode b_M_out 10 = .ok (.goto 4, 3) := by decide +kernel
theorem d_M_out_13 : decode b_M_out 13 = .ok (.iconst 0, 1) := by decide +kernel
theorem d_M_out_14 : decode b_M_out 14 = .ok (.ireturn, 1) := by decide +kernel
theorem d_M_noProcess_0 : decode b_M_noProcess 0 = .ok (.iload_n 1, 1) := by decide +kernel
theorem d_M_noProcess_1 : decode b_M_noProcess 1 = .ok (.ifCond .lt 11, 3) := by decide +kernel
theorem d_M_noProcess_4 : decode b_M_noProcess 4 = .ok (.iload_n 1, 1) := by decide +kernel
theorem d_M_noProcess_5 : decode b_M_noProcess 5 = .ok (.aload_n 0, 1) := by decide +kernel
theorem d_M_noProcess_6 : decode b_M_noProcess 6 = .ok (.getfield 81, 3) := by decide +kernel
theorem d_M_noProcess_9 : decode b_M_noProcess 9 = .ok (.if_icmp .lt 7, 3) := by decide +kernel
theorem d_M_noProcess_12 : decode b_M_noProcess 12 = .ok (.iconst 1, 1) := by decide +kernel
theorem d_M_noProcess_13 : decode b_M_noProcess 13 = .ok (.goto 4, 3) := by decide +kernel
theorem d_M_noProcess_16 : decode b_M_noProcess 16 = .ok (.iconst 0, 1) := by decide +kernel
theorem d_M_noProcess_17 : decode b_M_noProcess 17 = .ok (.ireturn, 1) := by decide +kernel
theorem d_M_instr_0 : decode b_M_instr 0 = .ok (.iload_n 1, 1) := by decide +kernel
theorem d_M_instr_1 : decode b_M_instr 1 = .ok (.iconst 3, 1) := by decide +kernel
theorem d_M_instr_2 : decode b_M_instr 2 = .ok (.invokestatic 84, 3) := by decide +kernel
theorem d_M_instr_5 : decode b_M_instr 5 = .ok (.ifCond .ne 20, 3) := by decide +kernel
theorem d_M_instr_8 : decode b_M_instr 8 = .ok (.iload_n 2, 1) := by decide +kernel
theorem d_M_instr_9 : decode b_M_instr 9 = .ok (.bipush 12, 2) := by decide +kernel
theorem d_M_instr_11 : decode b_M_instr 11 = .ok (.invokestatic 84, 3) := by decide +kernel
theorem d_M_instr_14 : decode b_M_instr 14 = .ok (.ifCond .ne 11, 3) := by decide +kernel
theorem d_M_instr_17 : decode b_M_instr 17 = .ok (.iload_n 3, 1) := by decide +kernel
theorem d_M_instr_18 : decode b_M_instr 18 = .ok (.iconst 3, 1) := by decide +kernel
theorem d_M_instr_19 : decode b_M_instr 19 = .ok (.invokestatic 84, 3) := by decide +kernel
theorem d_M_instr_22 : decode b_M_instr 22 = .ok (.ifCond .eq 5, 3) := by decide +kernel
theorem d_M_instr_25 : decode b_M_instr 25 = .ok (.iconst (-1), 1) := by decide +kernel
theorem d_M_instr_26 : decode b_M_instr 26 = .ok (.ireturn, 1) := by decide +kernel
theorem d_M_instr_27 : decode b_M_instr 27 = .ok (.iload_n 2, 1) := by decide +kernel
theorem d_M_instr_28 : decode b_M_instr 28 = .ok (.ifCond .ne 27, 3) := by decide +kernel
theorem d_M_instr_31 : decode b_M_instr 31 = .ok (.iload 4, 2) := by decide +kernel
theorem d_M_instr_33 : decode b_M_instr 33 = .ok (.sipush (-1000), 3) := by decide +kernel
theorem d_M_instr_36 : decode b_M_instr 36 = .ok (.if_icmp .lt 11, 3) := by decide +kernel
theorem d_M_instr_39 : decode b_M_instr 39 = .ok (.iload 4, 2) := by decide +kernel
theorem d_M_instr_41 : decode b_M_instr 41 = .ok (.sipush 1000, 3) := by decide +kernel
theorem d_M_instr_44 : decode b_M_instr 44 = .ok (.if_icmp .le 7, 3) := by decide +kernel
theorem d_M_instr_47 : decode b_M_instr 47 = .ok (.iconst 1, 1) := by decide +kernel
theorem d_M_instr_48 : decode b_M_instr 48 = .ok (.goto 28, 3) := by decide +kernel
theorem d_M_instr_51 : decode b_M_instr 51 = .ok (.iconst 0, 1) := by decide +kernel
theorem d_M_instr_52 : decode b_M_instr 52 = .ok (.goto 24, 3) := by decide +kernel
theorem d_M_instr_55 : decode b_M_instr 55 = .ok (.iload_n 2, 1) := by decide +kernel
theorem d_M_instr_56 : decode b_M_instr 56 = .ok (.iconst 5, 1) := by decide +kernel
theorem d_M_instr_57 : decode b_M_instr 57 = .ok (.if_icmp .ne 13, 3) := by decide +kernel
theorem d_M_instr_60 : decode b_M_instr 60 = .ok (.iload 4, 2) := by decide +kernel
theorem d_M_instr_62 : decode b_M_instr 62 = .ok (.bipush 11, 2) := by decide +kernel
theorem d_M_instr_64 : decode b_M_instr 64 = .ok (.invokestatic 84, 3) := by decide +kernel
theorem d_M_instr_67 : decode b_M_instr 67 = .ok (.goto 9, 3) := by decide +kernel
theorem d_M_instr_70 : decode b_M_instr 70 = .ok (.iload 4, 2) := by decide +kernel
theorem d_M_instr_72 : decode b_M_instr 72 = .ok (.iconst 3, 1) := by decide +kernel
theorem d_M_instr_73 : decode b_M_instr 73 = .ok (.invokestatic 84, 3) := by decide +kernel
theorem d_M_instr_76 : decode b_M_instr 76 = .ok (.istore 5, 2) := by decide +kernel
theorem d_M_instr_78 : decode b_M_instr 78 = .ok (.iload 5, 2) := by decide +kernel
theorem d_M_instr_80 : decode b_M_instr 80 = .ok (.ifCond .eq 5, 3) := by decide +kernel
theorem d_M_instr_83 : decode b_M_instr 83 = .ok (.iconst (-1), 1) := by decide +kernel
theorem d_M_instr_84 : decode b_M_instr 84 = .ok (.ireturn, 1) := by decide +kernel
theorem d_M_instr_85 : decode b_M_instr 85 = .ok (.aload_n 0, 1) := by decide +kernel
theorem d_M_instr_86 : decode b_M_instr 86 = .ok (.getfield 19, 3) := by decide +kernel
theorem d_M_instr_89 : decode b_M_instr 89 = .ok (.iload_n 1, 1) := by decide +kernel
theorem d_M_instr_90 : decode b_M_instr 90 = .ok (.iaload, 1) := by decide +kernel
theorem d_M_instr_91 : decode b_M_instr 91 = .ok (.bipush 12, 2) := by decide +kernel
theorem d_M_instr_93 : decode b_M_instr 93 = .ok (.if_icmp .ne 6, 3) := by decide +kernel
theorem d_M_instr_96 : decode b_M_instr 96 = .ok (.bipush (-2), 2) := by decide +kernel
theorem d_M_instr_98 : decode b_M_instr 98 = .ok (.ireturn, 1) := by decide +kernel
theorem d_M_instr_99 : decode b_M_instr 99 = .ok (.bipush 12, 2) := by decide +kernel
theorem d_M_instr_101 : decode b_M_instr 101 = .ok (.iload_n 1, 1) := by decide +kernel
theorem d_M_instr_102 : decode b_M_instr 102 = .ok (.imul, 1) := by decide +kernel
theorem d_M_instr_103 : decode b_M_instr 103 = .ok (.aload_n 0, 1) := by decide +kernel
theorem d_M_instr_104 : decode b_M_instr 104 = .ok (.getfield 19, 3) := by decide +kernel
theorem d_M_instr_107 : decode b_M_instr 107 = .ok (.iload_n 1, 1) := by decide +kernel
theorem d_M_instr_108 : decode b_M_instr 108 = .ok (.iaload, 1) := by decide +kernel
theorem d_M_instr_109 : decode b_M_instr 109 = .ok (.iadd, 1) := by decide +kernel
theorem d_M_instr_110 : decode b_M_instr 110 = .ok (.istore 6, 2) := by decide +kernel
theorem d_M_instr_112 : decode b_M_instr 112 = .ok (.aload_n 0, 1) := by decide +kernel
theorem d_M_instr_113 : decode b_M_instr 113 = .ok (.getfield 7, 3) := by decide +kernel
theorem d_M_instr_116 : decode b_M_instr 116 = .ok (.iload 6, 2) := by decide +kernel
theorem d_M_instr_118 : decode b_M_instr 118 = .ok (.iload_n 2, 1) := by decide +kernel
theorem d_M_instr_119 : decode b_M_instr 119 = .ok (.iastore, 1) := by decide +kernel
theorem d_M_instr_120 : decode b_M_instr 120 = .ok (.aload_n 0, 1) := by decide +kernel
theorem d_M_instr_121 : decode b_M_instr 121 = .ok (.getfield 13, 3) := by decide +kernel
theorem d_M_instr_124 : decode b_M_instr 124 = .ok (.iload 6, 2) := by decide +kernel
theorem d_M_instr_126 : decode b_M_instr 126 = .ok (.iload_n 3, 1) := by decide +kernel
theorem d_M_instr_127 : decode b_M_instr 127 = .ok (.iastore, 1) := by decide +kernel
theorem d_M_instr_128 : decode b_M_instr 128 = .ok (.aload_n 0, 1) := by decide +kernel
theorem d_M_instr_129 : decode b_M_instr 129 = .ok (.getfield 16, 3) := by decide +kernel
theorem d_M_instr_132 : decode b_M_instr 132 = .ok (.iload 6, 2) := by decide +kernel
theorem d_M_instr_134 : decode b_M_instr 134 = .ok (.iload 4, 2) := by decide +kernel
theorem d_M_instr_136 : decode b_M_instr 136 = .ok (.iastore, 1) := by decide +kernel
theorem d_M_instr_137 : decode b_M_instr 137 = .ok (.aload_n 0, 1) := by decide +kernel
theorem d_M_instr_138 : decode b_M_instr 138 = .ok (.getfield 19, 3) := by decide +kernel
theorem d_M_instr_141 : decode b_M_instr 141 = .ok (.iload_n 1, 1) := by decide +kernel
theorem d_M_instr_142 : decode b_M_instr 142 = .ok (.dup2, 1) := by decide +kernel
theorem d_M_instr_143 : decode b_M_instr 143 = .ok (.iaload, 1) := by decide +kernel
theorem d_M_instr_144 : decode b_M_instr 144 = .ok (.iconst 1, 1) := by decide +kernel
theorem d_M_instr_145 : decode b_M_instr 145 = .ok (.iadd, 1) := by decide +kernel
theorem d_M_instr_146 : decode b_M_instr 146 = .ok (.iastore, 1) := by decide +kernel
theorem d_M_instr_147 : decode b_M_instr 147 = .ok (.aload_n 0, 1) := by decide +kernel
theorem d_M_instr_148 : decode b_M_instr 148 = .ok (.getfield 19, 3) := by decide +kernel
theorem d_M_instr_151 : decode b_M_instr 151 = .ok (.iload_n 1, 1) := by decide +kernel
theorem d_M_instr_152 : decode b_M_instr 152 = .ok (.iaload, 1) := by decide +kernel
theorem d_M_instr_153 : decode b_M_instr 153 = .ok (.ireturn, 1) := by decide +kernel
theorem d_M_ready_0 : decode b_M_ready 0 = .ok (.aload_n 0, 1) := by decide +kernel
theorem d_M_ready_1 : decode b_M_ready 1 = .ok (.getfield 34, 3) := by decide +kernel
theorem d_M_ready_4 : decode b_M_ready 4 = .ok (.iload_n 1, 1) := by decide +kernel
theorem d_M_ready_5 : decode b_M_ready 5 = .ok (.iconst 1, 1) := by decide +kernel
theorem d_M_ready_6 : decode b_M_ready 6 = .ok (.iastore, 1) := by decide +kernel
theorem d_M_ready_7 : decode b_M_ready 7 = .ok (.aload_n 0, 1) := by decide +kernel
theorem d_M_ready_8 : decode b_M_ready 8 = .ok (.getfield 37, 3) := by decide +kernel
theorem d_M_ready_11 : decode b_M_ready 11 = .ok (.iload_n 1, 1) := by decide +kernel
theorem d_M_ready_12 : decode b_M_ready 12 = .ok (.aload_n 0, 1) := by decide +kernel
theorem d_M_ready_13 : decode b_M_ready 13 = .ok (.invokevirtual 88, 3) := by decide +kernel
theorem d_M_ready_16 : decode b_M_ready 16 = .ok (.iastore, 1) := by decide +kernel
theorem d_M_ready_17 : decode b_M_ready 17 = .ok (.aload_n 0, 1) := by decide +kernel
theorem d_M_ready_18 : decode b_M_ready 18 = .ok (.getfield 40, 3) := by decide +kernel
theorem d_M_ready_21 : decode b_M_ready 21 = .ok (.iload_n 1, 1) := by decide +kernel
theorem d_M_ready_22 : decode b_M_ready 22 = .ok (.iconst 0, 1) := by decide +kernel
theorem d_M_ready_23 : decode b_M_ready 23 = .ok (.iastore, 1) := by decide +kernel
theorem d_M_ready_24 : decode b_M_ready 24 = .ok (.aload_n 0, 1) := by decide +kernel
theorem d_M_ready_25 : decode b_M_ready 25 = .ok (.getfield 49, 3) := by decide +kernel
theorem d_M_ready_28 : decode b_M_ready 28 = .ok (.iload_n 1, 1) := by decide +kernel
theorem d_M_ready_29 : decode b_M_ready 29 = .ok (.bipush 8, 2) := by decide +kernel
theorem d_M_ready_31 : decode b_M_ready 31 = .ok (.iastore, 1) := by decide +kernel
theorem d_M_ready_32 : decode b_M_ready 32 = .ok (.return_, 1) := by decide +kernel
theorem d_M_make_0 : decode b_M_make 0 = .ok (.aload_n 0, 1) := by decide +kernel
theorem d_M_make_1 : decode b_M_make 1 = .ok (.getfield 81, 3) := by decide +kernel
theorem d_M_make_4 : decode b_M_make 4 = .ok (.bipush 8, 2) := by decide +kernel
theorem d_M_make_6 : decode b_M_make 6 = .ok (.if_icmp .ne 5, 3) := by decide +kernel
theorem d_M_make_9 : decode b_M_make 9 = .ok (.iconst (-1), 1) := by decide +kernel
theorem d_M_make_10 : decode b_M_make 10 = .ok (.ireturn, 1) := by decide +kernel
theorem d_M_make_11 : decode b_M_make 11 = .ok (.aload_n 0, 1) := by decide +kernel
theorem d_M_make_12 : decode b_M_make 12 = .ok (.getfield 81, 3) := by decide +kernel
theorem d_M_make_15 : decode b_M_make 15 = .ok (.istore_n 3, 1) := by decide +kernel
theorem d_M_make_16 : decode b_M_make 16 = .ok (.aload_n 0, 1) := by decide +kernel
theorem d_M_make_17 : decode b_M_make 17 = .ok (.dup, 1) := by decide +kernel
theorem d_M_make_18 : decode b_M_make 18 = .ok (.getfield 81, 3) := by decide +kernel
theorem d_M_make_21 : decode b_M_make 21 = .ok (.iconst 1, 1) := by decide +kernel
theorem d_M_make_22 : decode b_M_make 22 = .ok (.iadd, 1) := by decide +kernel
theorem d_M_make_23 : decode b_M_make 23 = .ok (.putfield 81, 3) := by decide +kernel
theorem d_M_make_26 : decode b_M_make 26 = .ok (.aload_n 0, 1) := by decide +kernel
theorem d_M_make_27 : decode b_M_make 27 = .ok (.getfield 22, 3) := by decide +kernel
theorem d_M_make_30 : decode b_M_make 30 = .ok (.iload_n 3, 1) := by decide +kernel
theorem d_M_make_31 : decode b_M_make 31 = .ok (.iload_n 1, 1) := by decide +kernel
theorem d_M_make_32 : decode b_M_make 32 = .ok (.iastore, 1) := by decide +kernel
theorem d_M_make_33 : decode b_M_make 33 = .ok (.aload_n 0, 1) := by decide +kernel
theorem d_M_make_34 : decode b_M_make 34 = .ok (.getfield 31, 3) := by decide +kernel
theorem d_M_make_37 : decode b_M_make 37 = .ok (.iload_n 3, 1) := by decide +kernel
theorem d_M_make_38 : decode b_M_make 38 = .ok (.iload_n 2, 1) := by decide +kernel
theorem d_M_make_39 : decode b_M_make 39 = .ok (.iastore, 1) := by decide +kernel
theorem d_M_make_40 : decode b_M_make 40 = .ok (.iconst 0, 1) := by decide +kernel
theorem d_M_make_41 : decode b_M_make 41 = .ok (.istore 4, 2) := by decide +kernel
theorem d_M_make_43 : decode b_M_make 43 = .ok (.iload 4, 2) := by decide +kernel
theorem d_M_make_45 : decode b_M_make 45 = .ok (.iconst 3, 1) := by decide +kernel
theorem d_M_make_46 : decode b_M_make 46 = .ok (.if_icmp .ge 22, 3) := by decide +kernel
theorem d_M_make_49 : decode b_M_make 49 = .ok (.aload_n 0, 1) := by decide +kernel
theorem d_M_make_50 : decode b_M_make 50 = .ok (.getfield 74, 3) := by decide +kernel
theorem d_M_make_53 : decode b_M_make 53 = .ok (.bipush 8, 2) := by decide +kernel
theorem d_M_make_55 : decode b_M_make 55 = .ok (.iload 4, 2) := by decide +kernel
theorem d_M_make_57 : decode b_M_make 57 = .ok (.imul, 1) := by decide +kernel
theorem d_M_make_58 : decode b_M_make 58 = .ok (.iload_n 3, 1) := by decide +kernel
theorem d_M_make_59 : decode b_M_make 59 = .ok (.iadd, 1) := by decide +kernel
theorem d_M_make_60 : decode b_M_make 60 = .ok (.iload_n 2, 1) := by decide +kernel
theorem d_M_make_61 : decode b_M_make 61 = .ok (.iastore, 1) := by decide +kernel
theorem d_M_make_62 : decode b_M_make 62 = .ok (.iinc 4 1, 3) := by decide +kernel
theorem d_M_make_65 : decode b_M_make 65 = .ok (.goto (-22), 3) := by decide +kernel
theorem d_M_make_68 : decode b_M_make 68 = .ok (.aload_n 0, 1) := by decide +kernel
theorem d_M_make_69 : decode b_M_make 69 = .ok (.iload_n 3, 1) := by decide +kernel
theorem d_M_make_70 : decode b_M_make 70 = .ok (.invokevirtual 92, 3) := by decide +kernel
theorem d_M_make_73 : decode b_M_make 73 = .ok (.iload_n 3, 1) := by decide +kernel
theorem d_M_make_74 : decode b_M_make 74 = .ok (.ireturn, 1) := by decide +kernel
theorem d_M_spawn_0 : decode b_M_spawn 0 = .ok (.iload_n 1, 1) := by decide +kernel
theorem d_M_spawn_1 : decode b_M_spawn 1 = .ok (.iconst 3, 1) := by decide +kernel
theorem d_M_spawn_2 : decode b_M_spawn 2 = .ok (.invokestatic 84, 3) := by decide +kernel
theorem d_M_spawn_5 : decode b_M_spawn 5 = .ok (.ifCond .ne 11, 3) := by decide +kernel
theorem d_M_spawn_8 : decode b_M_spawn 8 = .ok (.iload_n 2, 1) := by decide +kernel
theorem d_M_spawn_9 : decode b_M_spawn 9 = .ok (.iconst 2, 1) := by decide +kernel
theorem d_M_spawn_10 : decode b_M_spawn 10 = .ok (.invokestatic 84, 3) := by decide +kernel
theorem d_M_spawn_13 : decode b_M_spawn 13 = .ok (.ifCond .eq 5, 3) := by decide +kernel
theorem d_M_spawn_16 : decode b_M_spawn 16 = .ok (.iconst (-1), 1) := by decide +kernel
theorem d_M_spawn_17 : decode b_M_spawn 17 = .ok (.ireturn, 1) := by decide +kernel
theorem d_M_spawn_18 : decode b_M_spawn 18 = .ok (.aload_n 0, 1) := by decide +kernel
theorem d_M_spawn_19 : decode b_M_spawn 19 = .ok (.iload_n 1, 1) := by decide +kernel
theorem d_M_spawn_20 : decode b_M_spawn 20 = .ok (.iload_n 2, 1) := by decide +kernel
theorem d_M_spawn_21 : decode b_M_spawn 21 = .ok (.invokevirtual 96, 3) := by decide +kernel
theorem d_M_spawn_24 : decode b_M_spawn 24 = .ok (.istore_n 3, 1) := by decide +kernel
theorem d_M_spawn_25 : decode b_M_spawn 25 = .ok (.iload_n 3, 1) := by decide +kernel
theorem d_M_spawn_26 : decode b_M_spawn 26 = .ok (.ifCond .ge 8, 3) := by decide +kernel
theorem d_M_spawn_29 : decode b_M_spawn 29 = .ok (.bipush (-2), 2) := by decide +kernel
theorem d_M_spawn_31 : decode b_M_spawn 31 = .ok (.goto 4, 3) := by decide +kernel
theorem d_M_spawn_34 : decode b_M_spawn 34 = .ok (.iload_n 3, 1) := by decide +kernel
theorem d_M_spawn_35 : decode b_M_spawn 35 = .ok (.ireturn, 1) := by decide +kernel
theorem d_M_standing_0 : decode b_M_standing 0 = .ok (.iconst 0, 1) := by decide +kernel
theorem d_M_standing_1 : decode b_M_standing 1 = .ok (.istore_n 3, 1) := by decide +kernel
theorem d_M_standing_2 : decode b_M_standing 2 = .ok (.iload_n 3, 1) := by decide +kernel
theorem d_M_standing_3 : decode b_M_standing 3 = .ok (.aload_n 0, 1) := by decide +kernel
theorem d_M_standing_4 : decode b_M_standing 4 = .ok (.getfield 81, 3) := by decide +kernel
theorem d_M_standing_7 : decode b_M_standing 7 = .ok (.if_icmp .ge 102, 3) := by decide +kernel
theorem d_M_standing_10 : decode b_M_standing 10 = .ok (.aload_n 0, 1) := by decide +kernel
theorem d_M_standing_11 : decode b_M_standing 11 = .ok (.getfield 34, 3) := by decide +kernel
theorem d_M_standing_14 : decode b_M_standing 14 = .ok (.iload_n 3, 1) := by decide +kernel
theorem d_M_standing_15 : decode b_M_standing 15 = .ok (.iaload, 1) := by decide +kernel
theorem d_M_standing_16 : decode b_M_standing 16 = .ok (.iconst 1, 1) := by decide +kernel
theorem d_M_standing_17 : decode b_M_standing 17 = .ok (.if_icmp .ne 86, 3) := by decide +kernel
theorem d_M_standing_20 : decode b_M_standing 20 = .ok (.aload_n 0, 1) := by decide +kernel
theorem d_M_standing_21 : decode b_M_standing 21 = .ok (.getfield 31, 3) := by decide +kernel
theorem d_M_standing_24 : decode b_M_standing 24 = .ok (.iload_n 3, 1) := by decide +kernel
theorem d_M_standing_25 : decode b_M_standing 25 = .ok (.iaload, 1) := by decide +kernel
theorem d_M_standing_26 : decode b_M_standing 26 = .ok (.iload_n 1, 1) := by decide +kernel
theorem d_M_standing_27 : decode b_M_standing 27 = .ok (.if_icmp .eq 6, 3) := by decide +kernel
theorem d_M_standing_30 : decode b_M_standing 30 = .ok (.goto 73, 3) := by decide +kernel
theorem d_M_standing_33 : decode b_M_standing 33 = .ok (.iconst 0, 1) := by decide +kernel
theorem d_M_standing_34 : decode b_M_standing 34 = .ok (.istore 4, 2) := by decide +kernel
theorem d_M_standing_36 : decode b_M_standing 36 = .ok (.iconst 0, 1) := by decide +kernel
theorem d_M_standing_37 : decode b_M_standing 37 = .ok (.istore 5, 2) := by decide +kernel
theorem d_M_standing_39 : decode b_M_standing 39 = .ok (.iload 5, 2) := by decide +kernel
theorem d_M_standing_41 : decode b_M_standing 41 = .ok (.aload_n 0, 1) := by decide +kernel
theorem d_M_standing_42 : decode b_M_standing 42 = .ok (.getfield 81, 3) := by decide +kernel
theorem d_M_standing_45 : decode b_M_standing 45 = .ok (.if_icmp .ge 50, 3) := by decide +kernel
theorem d_M_standing_48 : decode b_M_standing 48 = .ok (.aload_n 0, 1) := by decide +kernel
theorem d_M_standing_49 : decode b_M_standing 49 = .ok (.getfield 34, 3) := by decide +kernel
theorem d_M_standing_52 : decode b_M_standing 52 = .ok (.iload 5, 2) := by decide +kernel
theorem d_M_standing_54 : decode b_M_standing 54 = .ok (.iaload, 1) := by decide +kernel
theorem d_M_standing_55 : decode b_M_standing 55 = .ok (.iconst 1, 1) := by decide +kernel
theorem d_M_standing_56 : decode b_M_standing 56 = .ok (.if_icmp .ne 33, 3) := by decide +kernel
theorem d_M_standing_59 : decode b_M_standing 59 = .ok (.aload_n 0, 1) := by decide +kernel
theorem d_M_standing_60 : decode b_M_standing 60 = .ok (.getfield 31, 3) := by decide +kernel
theorem d_M_standing_63 : decode b_M_standing 63 = .ok (.iload 5, 2) := by decide +kernel
theorem d_M_standing_65 : decode b_M_standing 65 = .ok (.iaload, 1) := by decide +kernel
theorem d_M_standing_66 : decode b_M_standing 66 = .ok (.iload_n 1, 1) := by decide +kernel
theorem d_M_standing_67 : decode b_M_standing 67 = .ok (.if_icmp .ne 22, 3) := by decide +kernel
theorem d_M_standing_70 : decode b_M_standing 70 = .ok (.aload_n 0, 1) := by decide +kernel
theorem d_M_standing_71 : decode b_M_standing 71 = .ok (.getfield 37, 3) := by decide +kernel
theorem d_M_standing_74 : decode b_M_standing 74 = .ok (.iload 5, 2) := by decide +kernel
theorem d_M_standing_76 : decode b_M_standing 76 = .ok (.iaload, 1) := by decide +kernel
theorem d_M_standing_77 : decode b_M_standing 77 = .ok (.aload_n 0, 1) := by decide +kernel
theorem d_M_standing_78 : decode b_M_standing 78 = .ok (.getfield 37, 3) := by decide +kernel
theorem d_M_standing_81 : decode b_M_standing 81 = .ok (.iload_n 3, 1) := by decide +kernel
theorem d_M_standing_82 : decode b_M_standing 82 = .ok (.iaload, 1) := by decide +kernel
theorem d_M_standing_83 : decode b_M_standing 83 = .ok (.if_icmp .ge 6, 3) := by decide +kernel
theorem d_M_standing_86 : decode b_M_standing 86 = .ok (.iinc 4 1, 3) := by decide +kernel
theorem d_M_standing_89 : decode b_M_standing 89 = .ok (.iinc 5 1, 3) := by decide +kernel
theorem d_M_standing_92 : decode b_M_standing 92 = .ok (.goto (-53), 3) := by decide +kernel
theorem d_M_standing_95 : decode b_M_standing 95 = .ok (.iload 4, 2) := by decide +kernel
theorem d_M_standing_97 : decode b_M_standing 97 = .ok (.iload_n 2, 1) := by decide +kernel
theorem d_M_standing_98 : decode b_M_standing 98 = .ok (.if_icmp .ne 5, 3) := by decide +kernel
theorem d_M_standing_101 : decode b_M_standing 101 = .ok (.iload_n 3, 1) := by decide +kernel
theorem d_M_standing_102 : decode b_M_standing 102 = .ok (.ireturn, 1) := by decide +kernel
theorem d_M_standing_103 : decode b_M_standing 103 = .ok (.iinc 3 1, 3) := by decide +kernel
theorem d_M_standing_106 : decode b_M_standing 106 = .ok (.goto (-104), 3) := by decide +kernel
theorem d_M_standing_109 : decode b_M_standing 109 = .ok (.bipush 8, 2) := by decide +kernel
theorem d_M_standing_111 : decode b_M_standing 111 = .ok (.ireturn, 1) := by decide +kernel
theorem d_M_end_0 : decode b_M_end 0 = .ok (.aload_n 0, 1) := by decide +kernel
theorem d_M_end_1 : decode b_M_end 1 = .ok (.getfield 34, 3) := by decide +kernel
theorem d_M_end_4 : decode b_M_end 4 = .ok (.iload_n 1, 1) := by decide +kernel
theorem d_M_end_5 : decode b_M_end 5 = .ok (.iconst 4, 1) := by decide +kernel
theorem d_M_end_6 : decode b_M_end 6 = .ok (.iastore, 1) := by decide +kernel
theorem d_M_end_7 : decode b_M_end 7 = .ok (.aload_n 0, 1) := by decide +kernel
theorem d_M_end_8 : decode b_M_end 8 = .ok (.getfield 43, 3) := by decide +kernel
theorem d_M_end_11 : decode b_M_end 11 = .ok (.iload_n 1, 1) := by decide +kernel
theorem d_M_end_12 : decode b_M_end 12 = .ok (.iload_n 2, 1) := by decide +kernel
theorem d_M_end_13 : decode b_M_end 13 = .ok (.iastore, 1) := by decide +kernel
theorem d_M_end_14 : decode b_M_end 14 = .ok (.aload_n 0, 1) := by decide +kernel
theorem d_M_end_15 : decode b_M_end 15 = .ok (.getfield 49, 3) := by decide +kernel
theorem d_M_end_18 : decode b_M_end 18 = .ok (.iload_n 1, 1) := by decide +kernel
theorem d_M_end_19 : decode b_M_end 19 = .ok (.bipush 8, 2) := by decide +kernel
theorem d_M_end_21 : decode b_M_end 21 = .ok (.iastore, 1) := by decide +kernel
theorem d_M_end_22 : decode b_M_end 22 = .ok (.iconst 0, 1) := by decide +kernel
theorem d_M_end_23 : decode b_M_end 23 = .ok (.istore_n 3, 1) := by decide +kernel
theorem d_M_end_24 : decode b_M_end 24 = .ok (.iload_n 3, 1) := by decide +kernel
theorem d_M_end_25 : decode b_M_end 25 = .ok (.aload_n 0, 1) := by decide +kernel
theorem d_M_end_26 : decode b_M_end 26 = .ok (.getfield 81, 3) := by decide +kernel
theorem d_M_end_29 : decode b_M_end 29 = .ok (.if_icmp .ge 34, 3) := by decide +kernel
theorem d_M_end_32 : decode b_M_end 32 = .ok (.aload_n 0, 1) := by decide +kernel
theorem d_M_end_33 : decode b_M_end 33 = .ok (.getfield 34, 3) := by decide +kernel
theorem d_M_end_36 : decode b_M_end 36 = .ok (.iload_n 3, 1) := by decide +kernel
theorem d_M_end_37 : decode b_M_end 37 = .ok (.iaload, 1) := by decide +kernel
theorem d_M_end_38 : decode b_M_end 38 = .ok (.iconst 3, 1) := by decide +kernel
theorem d_M_end_39 : decode b_M_end 39 = .ok (.if_icmp .ne 18, 3) := by decide +kernel
theorem d_M_end_42 : decode b_M_end 42 = .ok (.aload_n 0, 1) := by decide +kernel
theorem d_M_end_43 : decode b_M_end 43 = .ok (.getfield 46, 3) := by decide +kernel
theorem d_M_end_46 : decode b_M_end 46 = .ok (.iload_n 3, 1) := by decide +kernel
theorem d_M_end_47 : decode b_M_end 47 = .ok (.iaload, 1) := by decide +kernel
theorem d_M_end_48 : decode b_M_end 48 = .ok (.iload_n 1, 1) := by decide +kernel
theorem d_M_end_49 : decode b_M_end 49 = .ok (.if_icmp .ne 8, 3) := by decide +kernel
theorem d_M_end_52 : decode b_M_end 52 = .ok (.aload_n 0, 1) := by decide +kernel
theorem d_M_end_53 : decode b_M_end 53 = .ok (.iload_n 3, 1) := by decide +kernel
theorem d_M_end_54 : decode b_M_end 54 = .ok (.invokevirtual 92, 3) := by decide +kernel
theorem d_M_end_57 : decode b_M_end 57 = .ok (.iinc 3 1, 3) := by decide +kernel
theorem d_M_end_60 : decode b_M_end 60 = .ok (.goto (-36), 3) := by decide +kernel
theorem d_M_end_63 : decode b_M_end 63 = .ok (.return_, 1) := by decide +kernel
theorem d_M_ended_0 : decode b_M_ended 0 = .ok (.aload_n 0, 1) := by decide +kernel
theorem d_M_ended_1 : decode b_M_ended 1 = .ok (.iload_n 1, 1) := by decide +kernel
theorem d_M_ended_2 : decode b_M_ended 2 = .ok (.invokevirtual 100, 3) := by decide +kernel
theorem d_M_ended_5 : decode b_M_ended 5 = .ok (.ifCond .ne 17, 3) := by decide +kernel
theorem d_M_ended_8 : decode b_M_ended 8 = .ok (.aload_n 0, 1) := by decide +kernel
theorem d_M_ended_9 : decode b_M_ended 9 = .ok (.getfield 34, 3) := by decide +kernel
theorem d_M_ended_12 : decode b_M_ended 12 = .ok (.iload_n 1, 1) := by decide +kernel
theorem d_M_ended_13 : decode b_M_ended 13 = .ok (.iaload, 1) := by decide +kernel
theorem d_M_ended_14 : decode b_M_ended 14 = .ok (.iconst 4, 1) := by decide +kernel
theorem d_M_ended_15 : decode b_M_ended 15 = .ok (.if_icmp .ne 7, 3) := by decide +kernel
theorem d_M_ended_18 : decode b_M_ended 18 = .ok (.iconst 1, 1) := by decide +kernel
theorem d_M_ended_19 : decode b_M_ended 19 = .ok (.goto 4, 3) := by decide +kernel
theorem d_M_ended_22 : decode b_M_ended 22 = .ok (.iconst 0, 1) := by decide +kernel
theorem d_M_ended_23 : decode b_M_ended 23 = .ok (.ireturn, 1) := by decide +kernel
theorem d_M_fault_0 : decode b_M_fault 0 = .ok (.iload_n 2, 1) := by decide +kernel
theorem d_M_fault_1 : decode b_M_fault 1 = .ok (.iconst 2, 1) := by decide +kernel
theorem d_M_fault_2 : decode b_M_fault 2 = .ok (.if_icmp .lt 8, 3) := by decide +kernel
theorem d_M_fault_5 : decode b_M_fault 5 = .ok (.iload_n 2, 1) := by decide +kernel
theorem d_M_fault_6 : decode b_M_fault 6 = .ok (.iconst 4, 1) := by decide +kernel
theorem d_M_fault_7 : decode b_M_fault 7 = .ok (.if_icmp .le 5, 3) := by decide +kernel
theorem d_M_fault_10 : decode b_M_fault 10 = .ok (.iconst 0, 1) := by decide +kernel
theorem d_M_fault_11 : decode b_M_fault 11 = .ok (.ireturn, 1) := by decide +kernel
theorem d_M_fault_12 : decode b_M_fault 12 = .ok (.aload_n 0, 1) := by decide +kernel
theorem d_M_fault_13 : decode b_M_fault 13 = .ok (.getfield 65, 3) := by decide +kernel
theorem d_M_fault_16 : decode b_M_fault 16 = .ok (.bipush 8, 2) := by decide +kernel
theorem d_M_fault_18 : decode b_M_fault 18 = .ok (.aload_n 0, 1) := by decide +kernel
theorem d_M_fault_19 : decode b_M_fault 19 = .ok (.getfield 31, 3) := by decide +kernel
theorem d_M_fault_22 : decode b_M_fault 22 = .ok (.iload_n 1, 1) := by decide +kernel
theorem d_M_fault_23 : decode b_M_fault 23 = .ok (.iaload, 1) := by decide +kernel
theorem d_M_fault_24 : decode b_M_fault 24 = .ok (.imul, 1) := by decide +kernel
theorem d_M_fault_25 : decode b_M_fault 25 = .ok (.iload_n 3, 1) := by decide +kernel
theorem d_M_fault_26 : decode b_M_fault 26 = .ok (.iconst 4, 1) := by decide +kernel
theorem d_M_fault_27 : decode b_M_fault 27 = .ok (.idiv, 1) := by decide +kernel
theorem d_M_fault_28 : decode b_M_fault 28 = .ok (.iadd, 1) := by decide +kernel
theorem d_M_fault_29 : decode b_M_fault 29 = .ok (.iaload, 1) := by decide +kernel
theorem d_M_fault_30 : decode b_M_fault 30 = .ok (.istore 4, 2) := by decide +kernel
theorem d_M_fault_32 : decode b_M_fault 32 = .ok (.iload 4, 2) := by decide +kernel
theorem d_M_fault_34 : decode b_M_fault 34 = .ok (.iconst 2, 1) := by decide +kernel
theorem d_M_fault_35 : decode b_M_fault 35 = .ok (.if_icmp .eq 14, 3) := by decide +kernel
theorem d_M_fault_38 : decode b_M_fault 38 = .ok (.iload 4, 2) := by decide +kernel
theorem d_M_fault_40 : decode b_M_fault 40 = .ok (.iconst 1, 1) := by decide +kernel
theorem d_M_fault_41 : decode b_M_fault 41 = .ok (.if_icmp .ne 10, 3) := by decide +kernel
theorem d_M_fault_44 : decode b_M_fault 44 = .ok (.iload_n 2, 1) := by decide +kernel
theorem d_M_fault_45 : decode b_M_fault 45 = .ok (.iconst 2, 1) := by decide +kernel
theorem d_M_fault_46 : decode b_M_fault 46 = .ok (.if_icmp .ne 5, 3) := by decide +kernel
theorem d_M_fault_49 : decode b_M_fault 49 = .ok (.iconst 0, 1) := by decide +kernel
theorem d_M_fault_50 : decode b_M_fault 50 = .ok (.ireturn, 1) := by decide +kernel
theorem d_M_fault_51 : decode b_M_fault 51 = .ok (.aload_n 0, 1) := by decide +kernel
theorem d_M_fault_52 : decode b_M_fault 52 = .ok (.dup, 1) := by decide +kernel
theorem d_M_fault_53 : decode b_M_fault 53 = .ok (.getfield 104, 3) := by decide +kernel
theorem d_M_fault_56 : decode b_M_fault 56 = .ok (.iconst 1, 1) := by decide +kernel
theorem d_M_fault_57 : decode b_M_fault 57 = .ok (.iadd, 1) := by decide +kernel
theorem d_M_fault_58 : decode b_M_fault 58 = .ok (.putfield 104, 3) := by decide +kernel
theorem d_M_fault_61 : decode b_M_fault 61 = .ok (.aload_n 0, 1) := by decide +kernel
theorem d_M_fault_62 : decode b_M_fault 62 = .ok (.getfield 34, 3) := by decide +kernel
theorem d_M_fault_65 : decode b_M_fault 65 = .ok (.iload_n 1, 1) := by decide +kernel
theorem d_M_fault_66 : decode b_M_fault 66 = .ok (.iconst 2, 1) := by decide +kernel
theorem d_M_fault_67 : decode b_M_fault 67 = .ok (.iastore, 1) := by decide +kernel
theorem d_M_fault_68 : decode b_M_fault 68 = .ok (.aload_n 0, 1) := by decide +kernel
theorem d_M_fault_69 : decode b_M_fault 69 = .ok (.getfield 49, 3) := by decide +kernel
theorem d_M_fault_72 : decode b_M_fault 72 = .ok (.iload_n 1, 1) := by decide +kernel
theorem d_M_fault_73 : decode b_M_fault 73 = .ok (.iload_n 3, 1) := by decide +kernel
theorem d_M_fault_74 : decode b_M_fault 74 = .ok (.iconst 4, 1) := by decide +kernel
theorem d_M_fault_75 : decode b_M_fault 75 = .ok (.idiv, 1) := by decide +kernel
theorem d_M_fault_76 : decode b_M_fault 76 = .ok (.iastore, 1) := by decide +kernel
theorem d_M_fault_77 : decode b_M_fault 77 = .ok (.aload_n 0, 1) := by decide +kernel
theorem d_M_fault_78 : decode b_M_fault 78 = .ok (.getfield 52, 3) := by decide +kernel
theorem d_M_fault_81 : decode b_M_fault 81 = .ok (.iload_n 1, 1) := by decide +kernel
theorem d_M_fault_82 : decode b_M_fault 82 = .ok (.aload_n 0, 1) := by decide +kernel
theorem d_M_fault_83 : decode b_M_fault 83 = .ok (.invokevirtual 88, 3) := by decide +kernel
theorem d_M_fault_86 : decode b_M_fault 86 = .ok (.iastore, 1) := by decide +kernel
theorem d_M_fault_87 : decode b_M_fault 87 = .ok (.aload_n 0, 1) := by decide +kernel
theorem d_M_fault_88 : decode b_M_fault 88 = .ok (.getfield 55, 3) := by decide +kernel
theorem d_M_fault_91 : decode b_M_fault 91 = .ok (.iload_n 1, 1) := by decide +kernel
theorem d_M_fault_92 : decode b_M_fault 92 = .ok (.iload_n 3, 1) := by decide +kernel
theorem d_M_fault_93 : decode b_M_fault 93 = .ok (.iconst 4, 1) := by decide +kernel
theorem d_M_fault_94 : decode b_M_fault 94 = .ok (.idiv, 1) := by decide +kernel
theorem d_M_fault_95 : decode b_M_fault 95 = .ok (.iastore, 1) := by decide +kernel
theorem d_M_fault_96 : decode b_M_fault 96 = .ok (.aload_n 0, 1) := by decide +kernel
theorem d_M_fault_97 : decode b_M_fault 97 = .ok (.getfield 58, 3) := by decide +kernel
theorem d_M_fault_100 : decode b_M_fault 100 = .ok (.iload_n 1, 1) := by decide +kernel
theorem d_M_fault_101 : decode b_M_fault 101 = .ok (.iload_n 2, 1) := by decide +kernel
theorem d_M_fault_102 : decode b_M_fault 102 = .ok (.iconst 2, 1) := by decide +kernel
theorem d_M_fault_103 : decode b_M_fault 103 = .ok (.if_icmp .eq 7, 3) := by decide +kernel
theorem d_M_fault_106 : decode b_M_fault 106 = .ok (.iconst 1, 1) := by decide +kernel
theorem d_M_fault_107 : decode b_M_fault 107 = .ok (.goto 4, 3) := by decide +kernel
theorem d_M_fault_110 : decode b_M_fault 110 = .ok (.iconst 0, 1) := by decide +kernel
theorem d_M_fault_111 : decode b_M_fault 111 = .ok (.bastore, 1) := by decide +kernel
theorem d_M_fault_112 : decode b_M_fault 112 = .ok (.iconst 1, 1) := by decide +kernel
theorem d_M_fault_113 : decode b_M_fault 113 = .ok (.ireturn, 1) := by decide +kernel
theorem d_M_touch_0 : decode b_M_touch 0 = .ok (.iload_n 2, 1) := by decide +kernel
theorem d_M_touch_1 : decode b_M_touch 1 = .ok (.iconst 2, 1) := by decide +kernel
theorem d_M_touch_2 : decode b_M_touch 2 = .ok (.if_icmp .ne 19, 3) := by decide +kernel
theorem d_M_touch_5 : decode b_M_touch 5 = .ok (.aload_n 0, 1) := by decide +kernel
theorem d_M_touch_6 : decode b_M_touch 6 = .ok (.getfield 25, 3) := by decide +kernel
theorem d_M_touch_9 : decode b_M_touch 9 = .ok (.iload_n 3, 1) := by decide +kernel
theorem d_M_touch_10 : decode b_M_touch 10 = .ok (.aload_n 0, 1) := by decide +kernel
theorem d_M_touch_11 : decode b_M_touch 11 = .ok (.getfield 62, 3) := by decide +kernel
theorem d_M_touch_14 : decode b_M_touch 14 = .ok (.iload 4, 2) := by decide +kernel
theorem d_M_touch_16 : decode b_M_touch 16 = .ok (.iaload, 1) := by decide +kernel
theorem d_M_touch_17 : decode b_M_touch 17 = .ok (.iastore, 1) := by decide +kernel
theorem d_M_touch_18 : decode b_M_touch 18 = .ok (.goto 90, 3) := by decide +kernel
theorem d_M_touch_21 : decode b_M_touch 21 = .ok (.iload_n 2, 1) := by decide +kernel
theorem d_M_touch_22 : decode b_M_touch 22 = .ok (.iconst 3, 1) := by decide +kernel
theorem d_M_touch_23 : decode b_M_touch 23 = .ok (.if_icmp .ne 19, 3) := by decide +kernel
theorem d_M_touch_26 : decode b_M_touch 26 = .ok (.aload_n 0, 1) := by decide +kernel
theorem d_M_touch_27 : decode b_M_touch 27 = .ok (.getfield 62, 3) := by decide +kernel
theorem d_M_touch_30 : decode b_M_touch 30 = .ok (.iload 4, 2) := by decide +kernel
theorem d_M_touch_32 : decode b_M_touch 32 = .ok (.aload_n 0, 1) := by decide +kernel
theorem d_M_touch_33 : decode b_M_touch 33 = .ok (.getfield 25, 3) := by decide +kernel
theorem d_M_touch_36 : decode b_M_touch 36 = .ok (.iload_n 3, 1) := by decide +kernel
theorem d_M_touch_37 : decode b_M_touch 37 = .ok (.iaload, 1) := by decide +kernel
theorem d_M_touch_38 : decode b_M_touch 38 = .ok (.iastore, 1) := by decide +kernel
theorem d_M_touch_39 : decode b_M_touch 39 = .ok (.goto 69, 3) := by decide +kernel
theorem d_M_touch_42 : decode b_M_touch 42 = .ok (.iconst 4, 1) := by decide +kernel
theorem d_M_touch_43 : decode b_M_touch 43 = .ok (.iload_n 1, 1) := by decide +kernel
theorem d_M_touch_44 : decode b_M_touch 44 = .ok (.imul, 1) := by decide +kernel
theorem d_M_touch_45 : decode b_M_touch 45 = .ok (.iconst 3, 1) := by decide +kernel
theorem d_M_touch_46 : decode b_M_touch 46 = .ok (.iadd, 1) := by decide +kernel
theorem d_M_touch_47 : decode b_M_touch 47 = .ok (.istore 5, 2) := by decide +kernel
theorem d_M_touch_49 : decode b_M_touch 49 = .ok (.aload_n 0, 1) := by decide +kernel
theorem d_M_touch_50 : decode b_M_touch 50 = .ok (.getfield 62, 3) := by decide +kernel
theorem d_M_touch_53 : decode b_M_touch 53 = .ok (.iload 4, 2) := by decide +kernel
theorem d_M_touch_55 : decode b_M_touch 55 = .ok (.iaload, 1) := by decide +kernel
theorem d_M_touch_56 : decode b_M_touch 56 = .ok (.aload_n 0, 1) := by decide +kernel
theorem d_M_touch_57 : decode b_M_touch 57 = .ok (.getfield 25, 3) := by decide +kernel
theorem d_M_touch_60 : decode b_M_touch 60 = .ok (.iload 5, 2) := by decide +kernel
theorem d_M_touch_62 : decode b_M_touch 62 = .ok (.iaload, 1) := by decide +kernel
theorem d_M_touch_63 : decode b_M_touch 63 = .ok (.if_icmp .ne 7, 3) := by decide +kernel
theorem d_M_touch_66 : decode b_M_touch 66 = .ok (.iconst 1, 1) := by decide +kernel
theorem d_M_touch_67 : decode b_M_touch 67 = .ok (.goto 4, 3) := by decide +kernel
theorem d_M_touch_70 : decode b_M_touch 70 = .ok (.iconst 0, 1) := by decide +kernel
theorem d_M_touch_71 : decode b_M_touch 71 = .ok (.istore 6, 2) := by decide +kernel
theorem d_M_touch_73 : decode b_M_touch 73 = .ok (.iload 6, 2) := by decide +kernel
theorem d_M_touch_75 : decode b_M_touch 75 = .ok (.ifCond .eq 16, 3) := by decide +kernel
theorem d_M_touch_78 : decode b_M_touch 78 = .ok (.aload_n 0, 1) := by decide +kernel
theorem d_M_touch_79 : decode b_M_touch 79 = .ok (.getfield 62, 3) := by decide +kernel
theorem d_M_touch_82 : decode b_M_touch 82 = .ok (.iload 4, 2) := by decide +kernel
theorem d_M_touch_84 : decode b_M_touch 84 = .ok (.aload_n 0, 1) := by decide +kernel
theorem d_M_touch_85 : decode b_M_touch 85 = .ok (.getfield 25, 3) := by decide +kernel
theorem d_M_touch_88 : decode b_M_touch 88 = .ok (.iload_n 3, 1) := by decide +kernel
theorem d_M_touch_89 : decode b_M_touch 89 = .ok (.iaload, 1) := by decide +kernel
theorem d_M_touch_90 : decode b_M_touch 90 = .ok (.iastore, 1) := by decide +kernel
theorem d_M_touch_91 : decode b_M_touch 91 = .ok (.aload_n 0, 1) := by decide +kernel
theorem d_M_touch_92 : decode b_M_touch 92 = .ok (.getfield 25, 3) := by decide +kernel
theorem d_M_touch_95 : decode b_M_touch 95 = .ok (.iload 5, 2) := by decide +kernel
theorem d_M_touch_97 : decode b_M_touch 97 = .ok (.iload 6, 2) := by decide +kernel
theorem d_M_touch_99 : decode b_M_touch 99 = .ok (.ifCond .eq 7, 3) := by decide +kernel
theorem d_M_touch_102 : decode b_M_touch 102 = .ok (.iconst 1, 1) := by decide +kernel
theorem d_M_touch_103 : decode b_M_touch 103 = .ok (.goto 4, 3) := by decide +kernel
theorem d_M_touch_106 : decode b_M_touch 106 = .ok (.iconst 0, 1) := by decide +kernel
theorem d_M_touch_107 : decode b_M_touch 107 = .ok (.iastore, 1) := by decide +kernel
theorem d_M_touch_108 : decode b_M_touch 108 = .ok (.aload_n 0, 1) := by decide +kernel
theorem d_M_touch_109 : decode b_M_touch 109 = .ok (.getfield 68, 3) := by decide +kernel
theorem d_M_touch_112 : decode b_M_touch 112 = .ok (.bipush 8, 2) := by decide +kernel
theorem d_M_touch_114 : decode b_M_touch 114 = .ok (.aload_n 0, 1) := by decide +kernel
theorem d_M_touch_115 : decode b_M_touch 115 = .ok (.getfield 31, 3) := by decide +kernel
theorem d_M_touch_118 : decode b_M_touch 118 = .ok (.iload_n 1, 1) := by decide +kernel
theorem d_M_touch_119 : decode b_M_touch 119 = .ok (.iaload, 1) := by decide +kernel
theorem d_M_touch_120 : decode b_M_touch 120 = .ok (.imul, 1) := by decide +kernel
theorem d_M_touch_121 : decode b_M_touch 121 = .ok (.iload 4, 2) := by decide +kernel
theorem d_M_touch_123 : decode b_M_touch 123 = .ok (.iconst 4, 1) := by decide +kernel
theorem d_M_touch_124 : decode b_M_touch 124 = .ok (.idiv, 1) := by decide +kernel
theorem d_M_touch_125 : decode b_M_touch 125 = .ok (.iadd, 1) := by decide +kernel
theorem d_M_touch_126 : decode b_M_touch 126 = .ok (.aload_n 0, 1) := by decide +kernel
theorem d_M_touch_127 : decode b_M_touch 127 = .ok (.invokevirtual 88, 3) := by decide +kernel
theorem d_M_touch_130 : decode b_M_touch 130 = .ok (.iastore, 1) := by decide +kernel
theorem d_M_touch_131 : decode b_M_touch 131 = .ok (.return_, 1) := by decide +kernel
theorem d_M_perform_0 : decode b_M_perform 0 = .ok (.aload_n 0, 1) := by decide +kernel
theorem d_M_perform_1 : decode b_M_perform 1 = .ok (.getfield 25, 3) := by decide +kernel
theorem d_M_perform_4 : decode b_M_perform 4 = .ok (.iload_n 3, 1) := by decide +kernel
theorem d_M_perform_5 : decode b_M_perform 5 = .ok (.iaload, 1) := by decide +kernel
theorem d_M_perform_6 : decode b_M_perform 6 = .ok (.istore 6, 2) := by decide +kernel
theorem d_M_perform_8 : decode b_M_perform 8 = .ok (.iload_n 2, 1) := by decide +kernel
theorem d_M_perform_9 : decode b_M_perform 9 = .ok (.tableswitch 300 0 11 #[63, 74, 93, 93, 93, 300, 113, 134, 210, 265, 275, 285], 63) := by decide +kernel
theorem d_M_perform_72 : decode b_M_perform 72 = .ok (.aload_n 0, 1) := by decide +kernel
theorem d_M_perform_73 : decode b_M_perform 73 = .ok (.getfield 25, 3) := by decide +kernel
theorem d_M_perform_76 : decode b_M_perform 76 = .ok (.iload_n 3, 1) := by decide +kernel
theorem d_M_perform_77 : decode b_M_perform 77 = .ok (.iload 5, 2) := by decide +kernel
theorem d_M_perform_79 : decode b_M_perform 79 = .ok (.iastore, 1) := by decide +kernel
theorem d_M_perform_80 : decode b_M_perform 80 = .ok (.goto 229, 3) := by decide +kernel
theorem d_M_perform_83 : decode b_M_perform 83 = .ok (.aload_n 0, 1) := by decide +kernel
theorem d_M_perform_84 : decode b_M_perform 84 = .ok (.getfield 25, 3) := by decide +kernel
theorem d_M_perform_87 : decode b_M_perform 87 = .ok (.iload_n 3, 1) := by decide +kernel
theorem d_M_perform_88 : decode b_M_perform 88 = .ok (.dup2, 1) := by decide +kernel
theorem d_M_perform_89 : decode b_M_perform 89 = .ok (.iaload, 1) := by decide +kernel
theorem d_M_perform_90 : decode b_M_perform 90 = .ok (.aload_n 0, 1) := by decide +kernel
theorem d_M_perform_91 : decode b_M_perform 91 = .ok (.getfield 25, 3) := by decide +kernel
theorem d_M_perform_94 : decode b_M_perform 94 = .ok (.iload 4, 2) := by decide +kernel
theorem d_M_perform_96 : decode b_M_perform 96 = .ok (.iaload, 1) := by decide +kernel
theorem d_M_perform_97 : decode b_M_perform 97 = .ok (.iadd, 1) := by decide +kernel
theorem d_M_perform_98 : decode b_M_perform 98 = .ok (.iastore, 1) := by decide +kernel
theorem d_M_perform_99 : decode b_M_perform 99 = .ok (.goto 210, 3) := by decide +kernel
theorem d_M_perform_102 : decode b_M_perform 102 = .ok (.aload_n 0, 1) := by decide +kernel
theorem d_M_perform_103 : decode b_M_perform 103 = .ok (.iload_n 1, 1) := by decide +kernel
theorem d_M_perform_104 : decode b_M_perform 104 = .ok (.iload_n 2, 1) := by decide +kernel
theorem d_M_perform_105 : decode b_M_perform 105 = .ok (.iload_n 3, 1) := by decide +kernel
theorem d_M_perform_106 : decode b_M_perform 106 = .ok (.aload_n 0, 1) := by decide +kernel
theorem d_M_perform_107 : decode b_M_perform 107 = .ok (.getfield 25, 3) := by decide +kernel
theorem d_M_perform_110 : decode b_M_perform 110 = .ok (.iload 4, 2) := by decide +kernel
theorem d_M_perform_112 : decode b_M_perform 112 = .ok (.iaload, 1) := by decide +kernel
theorem d_M_perform_113 : decode b_M_perform 113 = .ok (.bipush 31, 2) := by decide +kernel
theorem d_M_perform_115 : decode b_M_perform 115 = .ok (.iand, 1) := by decide +kernel
theorem d_M_perform_116 : decode b_M_perform 116 = .ok (.invokevirtual 107, 3) := by decide +kernel
theorem d_M_perform_119 : decode b_M_perform 119 = .ok (.goto 190, 3) := by decide +kernel
theorem d_M_perform_122 : decode b_M_perform 122 = .ok (.aload_n 0, 1) := by decide +kernel
theorem d_M_perform_123 : decode b_M_perform 123 = .ok (.getfield 25, 3) := by decide +kernel
theorem d_M_perform_126 : decode b_M_perform 126 = .ok (.iload_n 3, 1) := by decide +kernel
theorem d_M_perform_127 : decode b_M_perform 127 = .ok (.aload_n 0, 1) := by decide +kernel
theorem d_M_perform_128 : decode b_M_perform 128 = .ok (.iload 5, 2) := by decide +kernel
theorem d_M_perform_130 : decode b_M_perform 130 = .ok (.aload_n 0, 1) := by decide +kernel
theorem d_M_perform_131 : decode b_M_perform 131 = .ok (.getfield 31, 3) := by decide +kernel
theorem d_M_perform_134 : decode b_M_perform 134 = .ok (.iload_n 1, 1) := by decide +kernel
theorem d_M_perform_135 : decode b_M_perform 135 = .ok (.iaload, 1) := by decide +kernel
theorem d_M_perform_136 : decode b_M_perform 136 = .ok (.invokevirtual 96, 3) := by decide +kernel
theorem d_M_perform_139 : decode b_M_perform 139 = .ok (.iastore, 1) := by decide +kernel
theorem d_M_perform_140 : decode b_M_perform 140 = .ok (.goto 169, 3) := by decide +kernel
theorem d_M_perform_143 : decode b_M_perform 143 = .ok (.aload_n 0, 1) := by decide +kernel
theorem d_M_perform_144 : decode b_M_perform 144 = .ok (.iload 6, 2) := by decide +kernel
theorem d_M_perform_146 : decode b_M_perform 146 = .ok (.invokevirtual 100, 3) := by decide +kernel
theorem d_M_perform_149 : decode b_M_perform 149 = .ok (.ifCond .ne 35, 3) := by decide +kernel
theorem d_M_perform_152 : decode b_M_perform 152 = .ok (.iload 6, 2) := by decide +kernel
theorem d_M_perform_154 : decode b_M_perform 154 = .ok (.iload_n 1, 1) := by decide +kernel
theorem d_M_perform_155 : decode b_M_perform 155 = .ok (.if_icmp .eq 29, 3) := by decide +kernel
theorem d_M_perform_158 : decode b_M_perform 158 = .ok (.aload_n 0, 1) := by decide +kernel
theorem d_M_perform_159 : decode b_M_perform 159 = .ok (.iload 6, 2) := by decide +kernel
theorem d_M_perform_161 : decode b_M_perform 161 = .ok (.invokevirtual 111, 3) := by decide +kernel
theorem d_M_perform_164 : decode b_M_perform 164 = .ok (.ifCond .ne 20, 3) := by decide +kernel
theorem d_M_perform_167 : decode b_M_perform 167 = .ok (.aload_n 0, 1) := by decide +kernel
theorem d_M_perform_168 : decode b_M_perform 168 = .ok (.getfield 34, 3) := by decide +kernel
theorem d_M_perform_171 : decode b_M_perform 171 = .ok (.iload_n 1, 1) := by decide +kernel
theorem d_M_perform_172 : decode b_M_perform 172 = .ok (.iconst 3, 1) := by decide +kernel
theorem d_M_perform_173 : decode b_M_perform 173 = .ok (.iastore, 1) := by decide +kernel
theorem d_M_perform_174 : decode b_M_perform 174 = .ok (.aload_n 0, 1) := by decide +kernel
theorem d_M_perform_175 : decode b_M_perform 175 = .ok (.getfield 46, 3) := by decide +kernel
theorem d_M_perform_178 : decode b_M_perform 178 = .ok (.iload_n 1, 1) := by decide +kernel
theorem d_M_perform_179 : decode b_M_perform 179 = .ok (.iload 6, 2) := by decide +kernel
theorem d_M_perform_181 : decode b_M_perform 181 = .ok (.iastore, 1) := by decide +kernel
theorem d_M_perform_182 : decode b_M_perform 182 = .ok (.iconst 0, 1) := by decide +kernel
theorem d_M_perform_183 : decode b_M_perform 183 = .ok (.ireturn, 1) := by decide +kernel
theorem d_M_perform_184 : decode b_M_perform 184 = .ok (.aload_n 0, 1) := by decide +kernel
theorem d_M_perform_185 : decode b_M_perform 185 = .ok (.getfield 25, 3) := by decide +kernel
theorem d_M_perform_188 : decode b_M_perform 188 = .ok (.iload_n 3, 1) := by decide +kernel
theorem d_M_perform_189 : decode b_M_perform 189 = .ok (.aload_n 0, 1) := by decide +kernel
theorem d_M_perform_190 : decode b_M_perform 190 = .ok (.iload 6, 2) := by decide +kernel
theorem d_M_perform_192 : decode b_M_perform 192 = .ok (.invokevirtual 100, 3) := by decide +kernel
theorem d_M_perform_195 : decode b_M_perform 195 = .ok (.ifCond .ne 9, 3) := by decide +kernel
theorem d_M_perform_198 : decode b_M_perform 198 = .ok (.iload 6, 2) := by decide +kernel
theorem d_M_perform_200 : decode b_M_perform 200 = .ok (.iload_n 1, 1) := by decide +kernel
theorem d_M_perform_201 : decode b_M_perform 201 = .ok (.if_icmp .ne 7, 3) := by decide +kernel
theorem d_M_perform_204 : decode b_M_perform 204 = .ok (.iconst (-1), 1) := by decide +kernel
theorem d_M_perform_205 : decode b_M_perform 205 = .ok (.goto 10, 3) := by decide +kernel
theorem d_M_perform_208 : decode b_M_perform 208 = .ok (.aload_n 0, 1) := by decide +kernel
theorem d_M_perform_209 : decode b_M_perform 209 = .ok (.getfield 43, 3) := by decide +kernel
theorem d_M_perform_212 : decode b_M_perform 212 = .ok (.iload 6, 2) := by decide +kernel
theorem d_M_perform_214 : decode b_M_perform 214 = .ok (.iaload, 1) := by decide +kernel
theorem d_M_perform_215 : decode b_M_perform 215 = .ok (.iastore, 1) := by decide +kernel
theorem d_M_perform_216 : decode b_M_perform 216 = .ok (.goto 93, 3) := by decide +kernel
theorem d_M_perform_219 : decode b_M_perform 219 = .ok (.aload_n 0, 1) := by decide +kernel
theorem d_M_perform_220 : decode b_M_perform 220 = .ok (.getfield 25, 3) := by decide +kernel
theorem d_M_perform_223 : decode b_M_perform 223 = .ok (.iload_n 3, 1) := by decide +kernel
theorem d_M_perform_224 : decode b_M_perform 224 = .ok (.aload_n 0, 1) := by decide +kernel
theorem d_M_perform_225 : decode b_M_perform 225 = .ok (.iload 6, 2) := by decide +kernel
theorem d_M_perform_227 : decode b_M_perform 227 = .ok (.invokevirtual 100, 3) := by decide +kernel
theorem d_M_perform_230 : decode b_M_perform 230 = .ok (.ifCond .ne 18, 3) := by decide +kernel
theorem d_M_perform_233 : decode b_M_perform 233 = .ok (.iload 6, 2) := by decide +kernel
theorem d_M_perform_235 : decode b_M_perform 235 = .ok (.iload_n 1, 1) := by decide +kernel
theorem d_M_perform_236 : decode b_M_perform 236 = .ok (.if_icmp .eq 12, 3) := by decide +kernel
theorem d_M_perform_239 : decode b_M_perform 239 = .ok (.aload_n 0, 1) := by decide +kernel
theorem d_M_perform_240 : decode b_M_perform 240 = .ok (.iload 6, 2) := by decide +kernel
theorem d_M_perform_242 : decode b_M_perform 242 = .ok (.invokevirtual 111, 3) := by decide +kernel
theorem d_M_perform_245 : decode b_M_perform 245 = .ok (.ifCond .eq 7, 3) := by decide +kernel
theorem d_M_perform_248 : decode b_M_perform 248 = .ok (.iconst (-1), 1) := by decide +kernel
theorem d_M_perform_249 : decode b_M_perform 249 = .ok (.goto 4, 3) := by decide +kernel
theorem d_M_perform_252 : decode b_M_perform 252 = .ok (.iconst 0, 1) := by decide +kernel
theorem d_M_perform_253 : decode b_M_perform 253 = .ok (.iastore, 1) := by decide +kernel
theorem d_M_perform_254 : decode b_M_perform 254 = .ok (.aload_n 0, 1) := by decide +kernel
theorem d_M_perform_255 : decode b_M_perform 255 = .ok (.getfield 25, 3) := by decide +kernel
theorem d_M_perform_258 : decode b_M_perform 258 = .ok (.iload_n 3, 1) := by decide +kernel
theorem d_M_perform_259 : decode b_M_perform 259 = .ok (.iaload, 1) := by decide +kernel
theorem d_M_perform_260 : decode b_M_perform 260 = .ok (.ifCond .ne 49, 3) := by decide +kernel
theorem d_M_perform_263 : decode b_M_perform 263 = .ok (.aload_n 0, 1) := by decide +kernel
theorem d_M_perform_264 : decode b_M_perform 264 = .ok (.iload 6, 2) := by decide +kernel
theorem d_M_perform_266 : decode b_M_perform 266 = .ok (.bipush (-9), 2) := by decide +kernel
theorem d_M_perform_268 : decode b_M_perform 268 = .ok (.invokevirtual 114, 3) := by decide +kernel
theorem d_M_perform_271 : decode b_M_perform 271 = .ok (.goto 38, 3) := by decide +kernel
theorem d_M_perform_274 : decode b_M_perform 274 = .ok (.aload_n 0, 1) := by decide +kernel
theorem d_M_perform_275 : decode b_M_perform 275 = .ok (.iload_n 1, 1) := by decide +kernel
theorem d_M_perform_276 : decode b_M_perform 276 = .ok (.iload 6, 2) := by decide +kernel
theorem d_M_perform_278 : decode b_M_perform 278 = .ok (.invokevirtual 114, 3) := by decide +kernel
theorem d_M_perform_281 : decode b_M_perform 281 = .ok (.goto 28, 3) := by decide +kernel
theorem d_M_perform_284 : decode b_M_perform 284 = .ok (.aload_n 0, 1) := by decide +kernel
theorem d_M_perform_285 : decode b_M_perform 285 = .ok (.getfield 25, 3) := by decide +kernel
theorem d_M_perform_288 : decode b_M_perform 288 = .ok (.iload_n 3, 1) := by decide +kernel
theorem d_M_perform_289 : decode b_M_perform 289 = .ok (.iload_n 1, 1) := by decide +kernel
theorem d_M_perform_290 : decode b_M_perform 290 = .ok (.iastore, 1) := by decide +kernel
theorem d_M_perform_291 : decode b_M_perform 291 = .ok (.goto 18, 3) := by decide +kernel
theorem d_M_perform_294 : decode b_M_perform 294 = .ok (.aload_n 0, 1) := by decide +kernel
theorem d_M_perform_295 : decode b_M_perform 295 = .ok (.getfield 25, 3) := by decide +kernel
theorem d_M_perform_298 : decode b_M_perform 298 = .ok (.iload_n 3, 1) := by decide +kernel
theorem d_M_perform_299 : decode b_M_perform 299 = .ok (.aload_n 0, 1) := by decide +kernel
theorem d_M_perform_300 : decode b_M_perform 300 = .ok (.getfield 31, 3) := by decide +kernel
theorem d_M_perform_303 : decode b_M_perform 303 = .ok (.iload_n 1, 1) := by decide +kernel
theorem d_M_perform_304 : decode b_M_perform 304 = .ok (.iaload, 1) := by decide +kernel
theorem d_M_perform_305 : decode b_M_perform 305 = .ok (.iastore, 1) := by decide +kernel
theorem d_M_perform_306 : decode b_M_perform 306 = .ok (.goto 3, 3) := by decide +kernel
theorem d_M_perform_309 : decode b_M_perform 309 = .ok (.iconst 1, 1) := by decide +kernel
theorem d_M_perform_310 : decode b_M_perform 310 = .ok (.ireturn, 1) := by decide +kernel
theorem d_M_step_0 : decode b_M_step 0 = .ok (.iload_n 1, 1) := by decide +kernel
theorem d_M_step_1 : decode b_M_step 1 = .ok (.iconst 2, 1) := by decide +kernel
theorem d_M_step_2 : decode b_M_step 2 = .ok (.invokestatic 84, 3) := by decide +kernel
theorem d_M_step_5 : decode b_M_step 5 = .ok (.ifCond .eq 5, 3) := by decide +kernel
theorem d_M_step_8 : decode b_M_step 8 = .ok (.iconst (-1), 1) := by decide +kernel
theorem d_M_step_9 : decode b_M_step 9 = .ok (.ireturn, 1) := by decide +kernel
theorem d_M_step_10 : decode b_M_step 10 = .ok (.aload_n 0, 1) := by decide +kernel
theorem d_M_step_11 : decode b_M_step 11 = .ok (.iload_n 1, 1) := by decide +kernel
theorem d_M_step_12 : decode b_M_step 12 = .ok (.iconst 0, 1) := by decide +kernel
theorem d_M_step_13 : decode b_M_step 13 = .ok (.invokevirtual 118, 3) := by decide +kernel
theorem d_M_step_16 : decode b_M_step 16 = .ok (.istore_n 2, 1) := by decide +kernel
theorem d_M_step_17 : decode b_M_step 17 = .ok (.iload_n 2, 1) := by decide +kernel
theorem d_M_step_18 : decode b_M_step 18 = .ok (.bipush 8, 2) := by decide +kernel
theorem d_M_step_20 : decode b_M_step 20 = .ok (.if_icmp .ne 6, 3) := by decide +kernel
theorem d_M_step_23 : decode b_M_step 23 = .ok (.bipush (-3), 2) := by decide +kernel
theorem d_M_step_25 : decode b_M_step 25 = .ok (.ireturn, 1) := by decide +kernel
theorem d_M_step_26 : decode b_M_step 26 = .ok (.aload_n 0, 1) := by decide +kernel
theorem d_M_step_27 : decode b_M_step 27 = .ok (.getfield 28, 3) := by decide +kernel
theorem d_M_step_30 : decode b_M_step 30 = .ok (.iload_n 2, 1) := by decide +kernel
theorem d_M_step_31 : decode b_M_step 31 = .ok (.iaload, 1) := by decide +kernel
theorem d_M_step_32 : decode b_M_step 32 = .ok (.aload_n 0, 1) := by decide +kernel
theorem d_M_step_33 : decode b_M_step 33 = .ok (.getfield 19, 3) := by decide +kernel
theorem d_M_step_36 : decode b_M_step 36 = .ok (.aload_n 0, 1) := by decide +kernel
theorem d_M_step_37 : decode b_M_step 37 = .ok (.getfield 22, 3) := by decide +kernel
theorem d_M_step_40 : decode b_M_step 40 = .ok (.iload_n 2, 1) := by decide +kernel
theorem d_M_step_41 : decode b_M_step 41 = .ok (.iaload, 1) := by decide +kernel
theorem d_M_step_42 : decode b_M_step 42 = .ok (.iaload, 1) := by decide +kernel
theorem d_M_step_43 : decode b_M_step 43 = .ok (.if_icmp .lt 14, 3) := by decide +kernel
theorem d_M_step_46 : decode b_M_step 46 = .ok (.aload_n 0, 1) := by decide +kernel
theorem d_M_step_47 : decode b_M_step 47 = .ok (.iload_n 2, 1) := by decide +kernel
theorem d_M_step_48 : decode b_M_step 48 = .ok (.iconst 0, 1) := by decide +kernel
theorem d_M_step_49 : decode b_M_step 49 = .ok (.invokevirtual 114, 3) := by decide +kernel
theorem d_M_step_52 : decode b_M_step 52 = .ok (.bipush 30, 2) := by decide +kernel
theorem d_M_step_54 : decode b_M_step 54 = .ok (.iload_n 2, 1) := by decide +kernel
theorem d_M_step_55 : decode b_M_step 55 = .ok (.iadd, 1) := by decide +kernel
theorem d_M_step_56 : decode b_M_step 56 = .ok (.ireturn, 1) := by decide +kernel
theorem d_M_step_57 : decode b_M_step 57 = .ok (.bipush 12, 2) := by decide +kernel
theorem d_M_step_59 : decode b_M_step 59 = .ok (.aload_n 0, 1) := by decide +kernel
theorem d_M_step_60 : decode b_M_step 60 = .ok (.getfield 22, 3) := by decide +kernel
theorem d_M_step_63 : decode b_M_step 63 = .ok (.iload_n 2, 1) := by decide +kernel
theorem d_M_step_64 : decode b_M_step 64 = .ok (.iaload, 1) := by decide +kernel
theorem d_M_step_65 : decode b_M_step 65 = .ok (.imul, 1) := by decide +kernel
theorem d_M_step_66 : decode b_M_step 66 = .ok (.aload_n 0, 1) := by decide +kernel
theorem d_M_step_67 : decode b_M_step 67 = .ok (.getfield 28, 3) := by decide +kernel
theorem d_M_step_70 : decode b_M_step 70 = .ok (.iload_n 2, 1) := by decide +kernel
theorem d_M_step_71 : decode b_M_step 71 = .ok (.iaload, 1) := by decide +kernel
theorem d_M_step_72 : decode b_M_step 72 = .ok (.iadd, 1) := by decide +kernel
theorem d_M_step_73 : decode b_M_step 73 = .ok (.istore_n 3, 1) := by decide +kernel
theorem d_M_step_74 : decode b_M_step 74 = .ok (.aload_n 0, 1) := by decide +kernel
theorem d_M_step_75 : decode b_M_step 75 = .ok (.getfield 7, 3) := by decide +kernel
theorem d_M_step_78 : decode b_M_step 78 = .ok (.iload_n 3, 1) := by decide +kernel
theorem d_M_step_79 : decode b_M_step 79 = .ok (.iaload, 1) := by decide +kernel
theorem d_M_step_80 : decode b_M_step 80 = .ok (.istore 4, 2) := by decide +kernel
theorem d_M_step_82 : decode b_M_step 82 = .ok (.iconst 4, 1) := by decide +kernel
theorem d_M_step_83 : decode b_M_step 83 = .ok (.iload_n 2, 1) := by decide +kernel
theorem d_M_step_84 : decode b_M_step 84 = .ok (.imul, 1) := by decide +kernel
theorem d_M_step_85 : decode b_M_step 85 = .ok (.aload_n 0, 1) := by decide +kernel
theorem d_M_step_86 : decode b_M_step 86 = .ok (.getfield 13, 3) := by decide +kernel
theorem d_M_step_89 : decode b_M_step 89 = .ok (.iload_n 3, 1) := by decide +kernel
theorem d_M_step_90 : decode b_M_step 90 = .ok (.iaload, 1) := by decide +kernel
theorem d_M_step_91 : decode b_M_step 91 = .ok (.iadd, 1) := by decide +kernel
theorem d_M_step_92 : decode b_M_step 92 = .ok (.istore 5, 2) := by decide +kernel
theorem d_M_step_94 : decode b_M_step 94 = .ok (.iconst 4, 1) := by decide +kernel
theorem d_M_step_95 : decode b_M_step 95 = .ok (.iload_n 2, 1) := by decide +kernel
theorem d_M_step_96 : decode b_M_step 96 = .ok (.imul, 1) := by decide +kernel
theorem d_M_step_97 : decode b_M_step 97 = .ok (.aload_n 0, 1) := by decide +kernel
theorem d_M_step_98 : decode b_M_step 98 = .ok (.getfield 16, 3) := by decide +kernel
theorem d_M_step_101 : decode b_M_step 101 = .ok (.iload_n 3, 1) := by decide +kernel
theorem d_M_step_102 : decode b_M_step 102 = .ok (.iaload, 1) := by decide +kernel
theorem d_M_step_103 : decode b_M_step 103 = .ok (.iconst 3, 1) := by decide +kernel
theorem d_M_step_104 : decode b_M_step 104 = .ok (.iand, 1) := by decide +kernel
theorem d_M_step_105 : decode b_M_step 105 = .ok (.iadd, 1) := by decide +kernel
theorem d_M_step_106 : decode b_M_step 106 = .ok (.istore 6, 2) := by decide +kernel
theorem d_M_step_108 : decode b_M_step 108 = .ok (.aload_n 0, 1) := by decide +kernel
theorem d_M_step_109 : decode b_M_step 109 = .ok (.iload_n 2, 1) := by decide +kernel
theorem d_M_step_110 : decode b_M_step 110 = .ok (.iload 4, 2) := by decide +kernel
theorem d_M_step_112 : decode b_M_step 112 = .ok (.aload_n 0, 1) := by decide +kernel
theorem d_M_step_113 : decode b_M_step 113 = .ok (.getfield 25, 3) := by decide +kernel
theorem d_M_step_116 : decode b_M_step 116 = .ok (.iload 6, 2) := by decide +kernel
theorem d_M_step_118 : decode b_M_step 118 = .ok (.iaload, 1) := by decide +kernel
theorem d_M_step_119 : decode b_M_step 119 = .ok (.bipush 31, 2) := by decide +kernel
theorem d_M_step_121 : decode b_M_step 121 = .ok (.iand, 1) := by decide +kernel
theorem d_M_step_122 : decode b_M_step 122 = .ok (.invokevirtual 121, 3) := by decide +kernel
theorem d_M_step_125 : decode b_M_step 125 = .ok (.ifCond .eq 8, 3) := by decide +kernel
theorem d_M_step_128 : decode b_M_step 128 = .ok (.bipush 10, 2) := by decide +kernel
theorem d_M_step_130 : decode b_M_step 130 = .ok (.iload_n 2, 1) := by decide +kernel
theorem d_M_step_131 : decode b_M_step 131 = .ok (.iadd, 1) := by decide +kernel
theorem d_M_step_132 : decode b_M_step 132 = .ok (.ireturn, 1) := by decide +kernel
theorem d_M_step_133 : decode b_M_step 133 = .ok (.iload 4, 2) := by decide +kernel
theorem d_M_step_135 : decode b_M_step 135 = .ok (.iconst 5, 1) := by decide +kernel
theorem d_M_step_136 : decode b_M_step 136 = .ok (.if_icmp .ne 17, 3) := by decide +kernel
theorem d_M_step_139 : decode b_M_step 139 = .ok (.aload_n 0, 1) := by decide +kernel
theorem d_M_step_140 : decode b_M_step 140 = .ok (.getfield 25, 3) := by decide +kernel
theorem d_M_step_143 : decode b_M_step 143 = .ok (.iload 5, 2) := by decide +kernel
theorem d_M_step_145 : decode b_M_step 145 = .ok (.iaload, 1) := by decide +kernel
theorem d_M_step_146 : decode b_M_step 146 = .ok (.ifCond .eq 7, 3) := by decide +kernel
theorem d_M_step_149 : decode b_M_step 149 = .ok (.iconst 1, 1) := by decide +kernel
theorem d_M_step_150 : decode b_M_step 150 = .ok (.goto 4, 3) := by decide +kernel
theorem d_M_step_153 : decode b_M_step 153 = .ok (.iconst 0, 1) := by decide +kernel
theorem d_M_step_154 : decode b_M_step 154 = .ok (.istore 7, 2) := by decide +kernel
theorem d_M_step_156 : decode b_M_step 156 = .ok (.aload_n 0, 1) := by decide +kernel
theorem d_M_step_157 : decode b_M_step 157 = .ok (.iload_n 2, 1) := by decide +kernel
theorem d_M_step_158 : decode b_M_step 158 = .ok (.iload 4, 2) := by decide +kernel
theorem d_M_step_160 : decode b_M_step 160 = .ok (.iload 5, 2) := by decide +kernel
theorem d_M_step_162 : decode b_M_step 162 = .ok (.iload 6, 2) := by decide +kernel
theorem d_M_step_164 : decode b_M_step 164 = .ok (.aload_n 0, 1) := by decide +kernel
theorem d_M_step_165 : decode b_M_step 165 = .ok (.getfield 16, 3) := by decide +kernel
theorem d_M_step_168 : decode b_M_step 168 = .ok (.iload_n 3, 1) := by decide +kernel
theorem d_M_step_169 : decode b_M_step 169 = .ok (.iaload, 1) := by decide +kernel
theorem d_M_step_170 : decode b_M_step 170 = .ok (.invokevirtual 125, 3) := by decide +kernel
theorem d_M_step_173 : decode b_M_step 173 = .ok (.ifCond .ne 8, 3) := by decide +kernel
theorem d_M_step_176 : decode b_M_step 176 = .ok (.bipush 20, 2) := by decide +kernel
theorem d_M_step_178 : decode b_M_step 178 = .ok (.iload_n 2, 1) := by decide +kernel
theorem d_M_step_179 : decode b_M_step 179 = .ok (.iadd, 1) := by decide +kernel
theorem d_M_step_180 : decode b_M_step 180 = .ok (.ireturn, 1) := by decide +kernel
theorem d_M_step_181 : decode b_M_step 181 = .ok (.aload_n 0, 1) := by decide +kernel
theorem d_M_step_182 : decode b_M_step 182 = .ok (.getfield 28, 3) := by decide +kernel
theorem d_M_step_185 : decode b_M_step 185 = .ok (.iload_n 2, 1) := by decide +kernel
theorem d_M_step_186 : decode b_M_step 186 = .ok (.iload 7, 2) := by decide +kernel
theorem d_M_step_188 : decode b_M_step 188 = .ok (.ifCond .eq 12, 3) := by decide +kernel
theorem d_M_step_191 : decode b_M_step 191 = .ok (.aload_n 0, 1) := by decide +kernel
theorem d_M_step_192 : decode b_M_step 192 = .ok (.getfield 16, 3) := by decide +kernel
theorem d_M_step_195 : decode b_M_step 195 = .ok (.iload_n 3, 1) := by decide +kernel
theorem d_M_step_196 : decode b_M_step 196 = .ok (.iaload, 1) := by decide +kernel
theorem d_M_step_197 : decode b_M_step 197 = .ok (.goto 11, 3) := by decide +kernel
theorem d_M_step_200 : decode b_M_step 200 = .ok (.aload_n 0, 1) := by decide +kernel
theorem d_M_step_201 : decode b_M_step 201 = .ok (.getfield 28, 3) := by decide +kernel
theorem d_M_step_204 : decode b_M_step 204 = .ok (.iload_n 2, 1) := by decide +kernel
theorem d_M_step_205 : decode b_M_step 205 = .ok (.iaload, 1) := by decide +kernel
theorem d_M_step_206 : decode b_M_step 206 = .ok (.iconst 1, 1) := by decide +kernel
theorem d_M_step_207 : decode b_M_step 207 = .ok (.iadd, 1) := by decide +kernel
theorem d_M_step_208 : decode b_M_step 208 = .ok (.iastore, 1) := by decide +kernel
theorem d_M_step_209 : decode b_M_step 209 = .ok (.aload_n 0, 1) := by decide +kernel
theorem d_M_step_210 : decode b_M_step 210 = .ok (.getfield 34, 3) := by decide +kernel
theorem d_M_step_213 : decode b_M_step 213 = .ok (.iload_n 2, 1) := by decide +kernel
theorem d_M_step_214 : decode b_M_step 214 = .ok (.iaload, 1) := by decide +kernel
theorem d_M_step_215 : decode b_M_step 215 = .ok (.iconst 4, 1) := by decide +kernel
theorem d_M_step_216 : decode b_M_step 216 = .ok (.if_icmp .ne 8, 3) := by decide +kernel
theorem d_M_step_219 : decode b_M_step 219 = .ok (.bipush 30, 2) := by decide +kernel
theorem d_M_step_221 : decode b_M_step 221 = .ok (.iload_n 2, 1) := by decide +kernel
theorem d_M_step_222 : decode b_M_step 222 = .ok (.iadd, 1) := by decide +kernel
theorem d_M_step_223 : decode b_M_step 223 = .ok (.ireturn, 1) := by decide +kernel
theorem d_M_step_224 : decode b_M_step 224 = .ok (.aload_n 0, 1) := by decide +kernel
theorem d_M_step_225 : decode b_M_step 225 = .ok (.getfield 40, 3) := by decide +kernel
theorem d_M_step_228 : decode b_M_step 228 = .ok (.iload_n 2, 1) := by decide +kernel
theorem d_M_step_229 : decode b_M_step 229 = .ok (.dup2, 1) := by decide +kernel
theorem d_M_step_230 : decode b_M_step 230 = .ok (.iaload, 1) := by decide +kernel
theorem d_M_step_231 : decode b_M_step 231 = .ok (.iconst 1, 1) := by decide +kernel
theorem d_M_step_232 : decode b_M_step 232 = .ok (.iadd, 1) := by decide +kernel
theorem d_M_step_233 : decode b_M_step 233 = .ok (.iastore, 1) := by decide +kernel
theorem d_M_step_234 : decode b_M_step 234 = .ok (.iload 4, 2) := by decide +kernel
theorem d_M_step_236 : decode b_M_step 236 = .ok (.bipush 12, 2) := by decide +kernel
theorem d_M_step_238 : decode b_M_step 238 = .ok (.if_icmp .eq 13, 3) := by decide +kernel
theorem d_M_step_241 : decode b_M_step 241 = .ok (.aload_n 0, 1) := by decide +kernel
theorem d_M_step_242 : decode b_M_step 242 = .ok (.getfield 40, 3) := by decide +kernel
theorem d_M_step_245 : decode b_M_step 245 = .ok (.iload_n 2, 1) := by decide +kernel
theorem d_M_step_246 : decode b_M_step 246 = .ok (.iaload, 1) := by decide +kernel
theorem d_M_step_247 : decode b_M_step 247 = .ok (.iconst 3, 1) := by decide +kernel
theorem d_M_step_248 : decode b_M_step 248 = .ok (.if_icmp .ne 8, 3) := by decide +kernel
theorem d_M_step_251 : decode b_M_step 251 = .ok (.aload_n 0, 1) := by decide +kernel
theorem d_M_step_252 : decode b_M_step 252 = .ok (.iload_n 2, 1) := by decide +kernel
theorem d_M_step_253 : decode b_M_step 253 = .ok (.invokevirtual 92, 3) := by decide +kernel
theorem d_M_step_256 : decode b_M_step 256 = .ok (.iload_n 2, 1) := by decide +kernel
theorem d_M_step_257 : decode b_M_step 257 = .ok (.ireturn, 1) := by decide +kernel
theorem d_M_firstAsking_0 : decode b_M_firstAsking 0 = .ok (.bipush 8, 2) := by decide +kernel
theorem d_M_firstAsking_2 : decode b_M_firstAsking 2 = .ok (.istore_n 2, 1) := by decide +kernel
theorem d_M_firstAsking_3 : decode b_M_firstAsking 3 = .ok (.iconst 0, 1) := by decide +kernel
theorem d_M_firstAsking_4 : decode b_M_firstAsking 4 = .ok (.istore_n 3, 1) := by decide +kernel
theorem d_M_firstAsking_5 : decode b_M_firstAsking 5 = .ok (.iload_n 3, 1) := by decide +kernel
theorem d_M_firstAsking_6 : decode b_M_firstAsking 6 = .ok (.aload_n 0, 1) := by decide +kernel
theorem d_M_firstAsking_7 : decode b_M_firstAsking 7 = .ok (.getfield 81, 3) := by decide +kernel
theorem d_M_firstAsking_10 : decode b_M_firstAsking 10 = .ok (.if_icmp .ge 54, 3) := by decide +kernel
theorem d_M_firstAsking_13 : decode b_M_firstAsking 13 = .ok (.aload_n 0, 1) := by decide +kernel
theorem d_M_firstAsking_14 : decode b_M_firstAsking 14 = .ok (.getfield 52, 3) := by decide +kernel
theorem d_M_firstAsking_17 : decode b_M_firstAsking 17 = .ok (.iload_n 3, 1) := by decide +kernel
theorem d_M_firstAsking_18 : decode b_M_firstAsking 18 = .ok (.iaload, 1) := by decide +kernel
theorem d_M_firstAsking_19 : decode b_M_firstAsking 19 = .ok (.ifCond .eq 39, 3) := by decide +kernel
theorem d_M_firstAsking_22 : decode b_M_firstAsking 22 = .ok (.aload_n 0, 1) := by decide +kernel
theorem d_M_firstAsking_23 : decode b_M_firstAsking 23 = .ok (.getfield 55, 3) := by decide +kernel
theorem d_M_firstAsking_26 : decode b_M_firstAsking 26 = .ok (.iload_n 3, 1) := by decide +kernel
theorem d_M_firstAsking_27 : decode b_M_firstAsking 27 = .ok (.iaload, 1) := by decide +kernel
theorem d_M_firstAsking_28 : decode b_M_firstAsking 28 = .ok (.iload_n 1, 1) := by decide +kernel
theorem d_M_firstAsking_29 : decode b_M_firstAsking 29 = .ok (.if_icmp .eq 6, 3) := by decide +kernel
theorem d_M_firstAsking_32 : decode b_M_firstAsking 32 = .ok (.goto 26, 3) := by decide +kernel
theorem d_M_firstAsking_35 : decode b_M_firstAsking 35 = .ok (.iload_n 2, 1) := by decide +kernel
theorem d_M_firstAsking_36 : decode b_M_firstAsking 36 = .ok (.bipush 8, 2) := by decide +kernel
theorem d_M_firstAsking_38 : decode b_M_firstAsking 38 = .ok (.if_icmp .eq 18, 3) := by decide +kernel
theorem d_M_firstAsking_41 : decode b_M_firstAsking 41 = .ok (.aload_n 0, 1) := by decide +kernel
theorem d_M_firstAsking_42 : decode b_M_firstAsking 42 = .ok (.getfield 52, 3) := by decide +kernel
theorem d_M_firstAsking_45 : decode b_M_firstAsking 45 = .ok (.iload_n 3, 1) := by decide +kernel
theorem d_M_firstAsking_46 : decode b_M_firstAsking 46 = .ok (.iaload, 1) := by decide +kernel
theorem d_M_firstAsking_47 : decode b_M_firstAsking 47 = .ok (.aload_n 0, 1) := by decide +kernel
theorem d_M_firstAsking_48 : decode b_M_firstAsking 48 = .ok (.getfield 52, 3) := by decide +kernel
theorem d_M_firstAsking_51 : decode b_M_firstAsking 51 = .ok (.iload_n 2, 1) := by decide +kernel
theorem d_M_firstAsking_52 : decode b_M_firstAsking 52 = .ok (.iaload, 1) := by decide +kernel
theorem d_M_firstAsking_53 : decode b_M_firstAsking 53 = .ok (.if_icmp .ge 5, 3) := by decide +kernel
theorem d_M_firstAsking_56 : decode b_M_firstAsking 56 = .ok (.iload_n 3, 1) := by decide +kernel
theorem d_M_firstAsking_57 : decode b_M_firstAsking 57 = .ok (.istore_n 2, 1) := by decide +kernel
theorem d_M_firstAsking_58 : decode b_M_firstAsking 58 = .ok (.iinc 3 1, 3) := by decide +kernel
theorem d_M_firstAsking_61 : decode b_M_firstAsking 61 = .ok (.goto (-56), 3) := by decide +kernel
theorem d_M_firstAsking_64 : decode b_M_firstAsking 64 = .ok (.iload_n 2, 1) := by decide +kernel
theorem d_M_firstAsking_65 : decode b_M_firstAsking 65 = .ok (.ireturn, 1) := by decide +kernel
theorem d_M_giveUp_0 : decode b_M_giveUp 0 = .ok (.bipush 8, 2) := by decide +kernel
theorem d_M_giveUp_2 : decode b_M_giveUp 2 = .ok (.istore_n 2, 1) := by decide +kernel
theorem d_M_giveUp_3 : decode b_M_giveUp 3 = .ok (.iconst 0, 1) := by decide +kernel
theorem d_M_giveUp_4 : decode b_M_giveUp 4 = .ok (.istore_n 3, 1) := by decide +kernel
theorem d_M_giveUp_5 : decode b_M_giveUp 5 = .ok (.iload_n 3, 1) := by decide +kernel
theorem d_M_giveUp_6 : decode b_M_giveUp 6 = .ok (.bipush 8, 2) := by decide +kernel
theorem d_M_giveUp_8 : decode b_M_giveUp 8 = .ok (.if_icmp .ge 56, 3) := by decide +kernel
theorem d_M_giveUp_11 : decode b_M_giveUp 11 = .ok (.aload_n 0, 1) := by decide +kernel
theorem d_M_giveUp_12 : decode b_M_giveUp 12 = .ok (.getfield 65, 3) := by decide +kernel
theorem d_M_giveUp_15 : decode b_M_giveUp 15 = .ok (.bipush 8, 2) := by decide +kernel
theorem d_M_giveUp_17 : decode b_M_giveUp 17 = .ok (.iload_n 1, 1) := by decide +kernel
theorem d_M_giveUp_18 : decode b_M_giveUp 18 = .ok (.imul, 1) := by decide +kernel
theorem d_M_giveUp_19 : decode b_M_giveUp 19 = .ok (.iload_n 3, 1) := by decide +kernel
theorem d_M_giveUp_20 : decode b_M_giveUp 20 = .ok (.iadd, 1) := by decide +kernel
theorem d_M_giveUp_21 : decode b_M_giveUp 21 = .ok (.iaload, 1) := by decide +kernel
theorem d_M_giveUp_22 : decode b_M_giveUp 22 = .ok (.ifCond .eq 36, 3) := by decide +kernel
theorem d_M_giveUp_25 : decode b_M_giveUp 25 = .ok (.iload_n 2, 1) := by decide +kernel
theorem d_M_giveUp_26 : decode b_M_giveUp 26 = .ok (.bipush 8, 2) := by decide +kernel
theorem d_M_giveUp_28 : decode b_M_giveUp 28 = .ok (.if_icmp .eq 28, 3) := by decide +kernel
theorem d_M_giveUp_31 : decode b_M_giveUp 31 = .ok (.aload_n 0, 1) := by decide +kernel
theorem d_M_giveUp_32 : decode b_M_giveUp 32 = .ok (.getfield 68, 3) := by decide +kernel
theorem d_M_giveUp_35 : decode b_M_giveUp 35 = .ok (.bipush 8, 2) := by decide +kernel
theorem d_M_giveUp_37 : decode b_M_giveUp 37 = .ok (.iload_n 1, 1) := by decide +kernel
theorem d_M_giveUp_38 : decode b_M_giveUp 38 = .ok (.imul, 1) := by decide +kernel
theorem d_M_giveUp_39 : decode b_M_giveUp 39 = .ok (.iload_n 3, 1) := by decide +kernel
theorem d_M_giveUp_40 : decode b_M_giveUp 40 = .ok (.iadd, 1) := by decide +kernel
theorem d_M_giveUp_41 : decode b_M_giveUp 41 = .ok (.iaload, 1) := by decide +kernel
theorem d_M_giveUp_42 : decode b_M_giveUp 42 = .ok (.aload_n 0, 1) := by decide +kernel
theorem d_M_giveUp_43 : decode b_M_giveUp 43 = .ok (.getfield 68, 3) := by decide +kernel
theorem d_M_giveUp_46 : decode b_M_giveUp 46 = .ok (.bipush 8, 2) := by decide +kernel
theorem d_M_giveUp_48 : decode b_M_giveUp 48 = .ok (.iload_n 1, 1) := by decide +kernel
theorem d_M_giveUp_49 : decode b_M_giveUp 49 = .ok (.imul, 1) := by decide +kernel
theorem d_M_giveUp_50 : decode b_M_giveUp 50 = .ok (.iload_n 2, 1) := by decide +kernel
theorem d_M_giveUp_51 : decode b_M_giveUp 51 = .ok (.iadd, 1) := by decide +kernel
theorem d_M_giveUp_52 : decode b_M_giveUp 52 = .ok (.iaload, 1) := by decide +kernel
theorem d_M_giveUp_53 : decode b_M_giveUp 53 = .ok (.if_icmp .ge 5, 3) := by decide +kernel
theorem d_M_giveUp_56 : decode b_M_giveUp 56 = .ok (.iload_n 3, 1) := by decide +kernel
theorem d_M_giveUp_57 : decode b_M_giveUp 57 = .ok (.istore_n 2, 1) := by decide +kernel
theorem d_M_giveUp_58 : decode b_M_giveUp 58 = .ok (.iinc 3 1, 3) := by decide +kernel
theorem d_M_giveUp_61 : decode b_M_giveUp 61 = .ok (.goto (-56), 3) := by decide +kernel
theorem d_M_giveUp_64 : decode b_M_giveUp 64 = .ok (.iload_n 2, 1) := by decide +kernel
theorem d_M_giveUp_65 : decode b_M_giveUp 65 = .ok (.bipush 8, 2) := by decide +kernel
theorem d_M_giveUp_67 : decode b_M_giveUp 67 = .ok (.if_icmp .ne 4, 3) := by decide +kernel
theorem d_M_giveUp_70 : decode b_M_giveUp 70 = .ok (.return_, 1) := by decide +kernel
theorem d_M_giveUp_71 : decode b_M_giveUp 71 = .ok (.aload_n 0, 1) := by decide +kernel
theorem d_M_giveUp_72 : decode b_M_giveUp 72 = .ok (.getfield 65, 3) := by decide +kernel
theorem d_M_giveUp_75 : decode b_M_giveUp 75 = .ok (.bipush 8, 2) := by decide +kernel
theorem d_M_giveUp_77 : decode b_M_giveUp 77 = .ok (.iload_n 1, 1) := by decide +kernel
theorem d_M_giveUp_78 : decode b_M_giveUp 78 = .ok (.imul, 1) := by decide +kernel
theorem d_M_giveUp_79 : decode b_M_giveUp 79 = .ok (.iload_n 2, 1) := by decide +kernel
theorem d_M_giveUp_80 : decode b_M_giveUp 80 = .ok (.iadd, 1) := by decide +kernel
theorem d_M_giveUp_81 : decode b_M_giveUp 81 = .ok (.iconst 0, 1) := by decide +kernel
theorem d_M_giveUp_82 : decode b_M_giveUp 82 = .ok (.iastore, 1) := by decide +kernel
theorem d_M_giveUp_83 : decode b_M_giveUp 83 = .ok (.aload_n 0, 1) := by decide +kernel
theorem d_M_giveUp_84 : decode b_M_giveUp 84 = .ok (.dup, 1) := by decide +kernel
theorem d_M_giveUp_85 : decode b_M_giveUp 85 = .ok (.getfield 129, 3) := by decide +kernel
theorem d_M_giveUp_88 : decode b_M_giveUp 88 = .ok (.iconst 1, 1) := by decide +kernel
theorem d_M_giveUp_89 : decode b_M_giveUp 89 = .ok (.iadd, 1) := by decide +kernel
theorem d_M_giveUp_90 : decode b_M_giveUp 90 = .ok (.putfield 129, 3) := by decide +kernel
theorem d_M_giveUp_93 : decode b_M_giveUp 93 = .ok (.aload_n 0, 1) := by decide +kernel
theorem d_M_giveUp_94 : decode b_M_giveUp 94 = .ok (.getfield 71, 3) := by decide +kernel
theorem d_M_giveUp_97 : decode b_M_giveUp 97 = .ok (.iload_n 2, 1) := by decide +kernel
theorem d_M_giveUp_98 : decode b_M_giveUp 98 = .ok (.iaload, 1) := by decide +kernel
theorem d_M_giveUp_99 : decode b_M_giveUp 99 = .ok (.iload_n 1, 1) := by decide +kernel
theorem d_M_giveUp_100 : decode b_M_giveUp 100 = .ok (.if_icmp .eq 4, 3) := by decide +kernel
theorem d_M_giveUp_103 : decode b_M_giveUp 103 = .ok (.return_, 1) := by decide +kernel
theorem d_M_giveUp_104 : decode b_M_giveUp 104 = .ok (.aload_n 0, 1) := by decide +kernel
theorem d_M_giveUp_105 : decode b_M_giveUp 105 = .ok (.getfield 71, 3) := by decide +kernel
theorem d_M_giveUp_108 : decode b_M_giveUp 108 = .ok (.iload_n 2, 1) := by decide +kernel
theorem d_M_giveUp_109 : decode b_M_giveUp 109 = .ok (.iconst 3, 1) := by decide +kernel
theorem d_M_giveUp_110 : decode b_M_giveUp 110 = .ok (.iastore, 1) := by decide +kernel
theorem d_M_giveUp_111 : decode b_M_giveUp 111 = .ok (.iconst 2, 1) := by decide +kernel
theorem d_M_giveUp_112 : decode b_M_giveUp 112 = .ok (.istore_n 3, 1) := by decide +kernel
theorem d_M_giveUp_113 : decode b_M_giveUp 113 = .ok (.iload_n 3, 1) := by decide +kernel
theorem d_M_giveUp_114 : decode b_M_giveUp 114 = .ok (.ifCond .lt 30, 3) := by decide +kernel
theorem d_M_giveUp_117 : decode b_M_giveUp 117 = .ok (.aload_n 0, 1) := by decide +kernel
theorem d_M_giveUp_118 : decode b_M_giveUp 118 = .ok (.getfield 65, 3) := by decide +kernel
theorem d_M_giveUp_121 : decode b_M_giveUp 121 = .ok (.bipush 8, 2) := by decide +kernel
theorem d_M_giveUp_123 : decode b_M_giveUp 123 = .ok (.iload_n 3, 1) := by decide +kernel
theorem d_M_giveUp_124 : decode b_M_giveUp 124 = .ok (.imul, 1) := by decide +kernel
theorem d_M_giveUp_125 : decode b_M_giveUp 125 = .ok (.iload_n 2, 1) := by decide +kernel
theorem d_M_giveUp_126 : decode b_M_giveUp 126 = .ok (.iadd, 1) := by decide +kernel
theorem d_M_giveUp_127 : decode b_M_giveUp 127 = .ok (.iaload, 1) := by decide +kernel
theorem d_M_giveUp_128 : decode b_M_giveUp 128 = .ok (.ifCond .eq 10, 3) := by decide +kernel
theorem d_M_giveUp_131 : decode b_M_giveUp 131 = .ok (.aload_n 0, 1) := by decide +kernel
theorem d_M_giveUp_132 : decode b_M_giveUp 132 = .ok (.getfield 71, 3) := by decide +kernel
theorem d_M_giveUp_135 : decode b_M_giveUp 135 = .ok (.iload_n 2, 1) := by decide +kernel
theorem d_M_giveUp_136 : decode b_M_giveUp 136 = .ok (.iload_n 3, 1) := by decide +kernel
theorem d_M_giveUp_137 : decode b_M_giveUp 137 = .ok (.iastore, 1) := by decide +kernel
theorem d_M_giveUp_138 : decode b_M_giveUp 138 = .ok (.iinc 3 (-1), 3) := by decide +kernel
theorem d_M_giveUp_141 : decode b_M_giveUp 141 = .ok (.goto (-28), 3) := by decide +kernel
theorem d_M_giveUp_144 : decode b_M_giveUp 144 = .ok (.aload_n 0, 1) := by decide +kernel
theorem d_M_giveUp_145 : decode b_M_giveUp 145 = .ok (.getfield 71, 3) := by decide +kernel
theorem d_M_giveUp_148 : decode b_M_giveUp 148 = .ok (.iload_n 2, 1) := by decide +kernel
theorem d_M_giveUp_149 : decode b_M_giveUp 149 = .ok (.iaload, 1) := by decide +kernel
theorem d_M_giveUp_150 : decode b_M_giveUp 150 = .ok (.iconst 3, 1) := by decide +kernel
theorem d_M_giveUp_151 : decode b_M_giveUp 151 = .ok (.if_icmp .ne 13, 3) := by decide +kernel
theorem d_M_giveUp_154 : decode b_M_giveUp 154 = .ok (.aload_n 0, 1) := by decide +kernel
theorem d_M_giveUp_155 : decode b_M_giveUp 155 = .ok (.dup, 1) := by decide +kernel
theorem d_M_giveUp_156 : decode b_M_giveUp 156 = .ok (.getfield 132, 3) := by decide +kernel
theorem d_M_giveUp_159 : decode b_M_giveUp 159 = .ok (.iconst 1, 1) := by decide +kernel
theorem d_M_giveUp_160 : decode b_M_giveUp 160 = .ok (.iadd, 1) := by decide +kernel
theorem d_M_giveUp_161 : decode b_M_giveUp 161 = .ok (.putfield 132, 3) := by decide +kernel
theorem d_M_giveUp_164 : decode b_M_giveUp 164 = .ok (.return_, 1) := by decide +kernel
theorem d_M_held_0 : decode b_M_held 0 = .ok (.iconst 0, 1) := by decide +kernel
theorem d_M_held_1 : decode b_M_held 1 = .ok (.istore_n 2, 1) := by decide +kernel
theorem d_M_held_2 : decode b_M_held 2 = .ok (.iconst 0, 1) := by decide +kernel
theorem d_M_held_3 : decode b_M_held 3 = .ok (.istore_n 3, 1) := by decide +kernel
theorem d_M_held_4 : decode b_M_held 4 = .ok (.iload_n 3, 1) := by decide +kernel
theorem d_M_held_5 : decode b_M_held 5 = .ok (.bipush 8, 2) := by decide +kernel
theorem d_M_held_7 : decode b_M_held 7 = .ok (.if_icmp .ge 26, 3) := by decide +kernel
theorem d_M_held_10 : decode b_M_held 10 = .ok (.aload_n 0, 1) := by decide +kernel
theorem d_M_held_11 : decode b_M_held 11 = .ok (.getfield 65, 3) := by decide +kernel
theorem d_M_held_14 : decode b_M_held 14 = .ok (.bipush 8, 2) := by decide +kernel
theorem d_M_held_16 : decode b_M_held 16 = .ok (.iload_n 1, 1) := by decide +kernel
theorem d_M_held_17 : decode b_M_held 17 = .ok (.imul, 1) := by decide +kernel
theorem d_M_held_18 : decode b_M_held 18 = .ok (.iload_n 3, 1) := by decide +kernel
theorem d_M_held_19 : decode b_M_held 19 = .ok (.iadd, 1) := by decide +kernel
theorem d_M_held_20 : decode b_M_held 20 = .ok (.iaload, 1) := by decide +kernel
theorem d_M_held_21 : decode b_M_held 21 = .ok (.ifCond .eq 6, 3) := by decide +kernel
theorem d_M_held_24 : decode b_M_held 24 = .ok (.iinc 2 1, 3) := by decide +kernel
theorem d_M_held_27 : decode b_M_held 27 = .ok (.iinc 3 1, 3) := by decide +kernel
theorem d_M_held_30 : decode b_M_held 30 = .ok (.goto (-26), 3) := by decide +kernel
theorem d_M_held_33 : decode b_M_held 33 = .ok (.iload_n 2, 1) := by decide +kernel
theorem d_M_held_34 : decode b_M_held 34 = .ok (.ireturn, 1) := by decide +kernel
theorem d_M_share_0 : decode b_M_share 0 = .ok (.iconst 0, 1) := by decide +kernel
theorem d_M_share_1 : decode b_M_share 1 = .ok (.istore 4, 2) := by decide +kernel
theorem d_M_share_3 : decode b_M_share 3 = .ok (.iload 4, 2) := by decide +kernel
theorem d_M_share_5 : decode b_M_share 5 = .ok (.iconst 3, 1) := by decide +kernel
theorem d_M_share_6 : decode b_M_share 6 = .ok (.if_icmp .ge 67, 3) := by decide +kernel
theorem d_M_share_9 : decode b_M_share 9 = .ok (.bipush 8, 2) := by decide +kernel
theorem d_M_share_11 : decode b_M_share 11 = .ok (.iload 4, 2) := by decide +kernel
theorem d_M_share_13 : decode b_M_share 13 = .ok (.imul, 1) := by decide +kernel
theorem d_M_share_14 : decode b_M_share 14 = .ok (.iload_n 2, 1) := by decide +kernel
theorem d_M_share_15 : decode b_M_share 15 = .ok (.iadd, 1) := by decide +kernel
theorem d_M_share_16 : decode b_M_share 16 = .ok (.istore 5, 2) := by decide +kernel
theorem d_M_share_18 : decode b_M_share 18 = .ok (.iload 4, 2) := by decide +kernel
theorem d_M_share_20 : decode b_M_share 20 = .ok (.iload_n 1, 1) := by decide +kernel
theorem d_M_share_21 : decode b_M_share 21 = .ok (.if_icmp .eq 46, 3) := by decide +kernel
theorem d_M_share_24 : decode b_M_share 24 = .ok (.aload_n 0, 1) := by decide +kernel
theorem d_M_share_25 : decode b_M_share 25 = .ok (.getfield 65, 3) := by decide +kernel
theorem d_M_share_28 : decode b_M_share 28 = .ok (.iload 5, 2) := by decide +kernel
theorem d_M_share_30 : decode b_M_share 30 = .ok (.iaload, 1) := by decide +kernel
theorem d_M_share_31 : decode b_M_share 31 = .ok (.ifCond .ne 6, 3) := by decide +kernel
theorem d_M_share_34 : decode b_M_share 34 = .ok (.goto 33, 3) := by decide +kernel
theorem d_M_share_37 : decode b_M_share 37 = .ok (.iload_n 3, 1) := by decide +kernel
theorem d_M_share_38 : decode b_M_share 38 = .ok (.ifCond .eq 13, 3) := by decide +kernel
theorem d_M_share_41 : decode b_M_share 41 = .ok (.aload_n 0, 1) := by decide +kernel
theorem d_M_share_42 : decode b_M_share 42 = .ok (.dup, 1) := by decide +kernel
theorem d_M_share_43 : decode b_M_share 43 = .ok (.getfield 132, 3) := by decide +kernel
theorem d_M_share_46 : decode b_M_share 46 = .ok (.iconst 1, 1) := by decide +kernel
theorem d_M_share_47 : decode b_M_share 47 = .ok (.iadd, 1) := by decide +kernel
theorem d_M_share_48 : decode b_M_share 48 = .ok (.putfield 132, 3) := by decide +kernel
theorem d_M_share_51 : decode b_M_share 51 = .ok (.aload_n 0, 1) := by decide +kernel
theorem d_M_share_52 : decode b_M_share 52 = .ok (.getfield 65, 3) := by decide +kernel
theorem d_M_share_55 : decode b_M_share 55 = .ok (.iload 5, 2) := by decide +kernel
theorem d_M_share_57 : decode b_M_share 57 = .ok (.iload_n 3, 1) := by decide +kernel
theorem d_M_share_58 : decode b_M_share 58 = .ok (.ifCond .eq 7, 3) := by decide +kernel
theorem d_M_share_61 : decode b_M_share 61 = .ok (.iconst 0, 1) := by decide +kernel
theorem d_M_share_62 : decode b_M_share 62 = .ok (.goto 4, 3) := by decide +kernel
theorem d_M_share_65 : decode b_M_share 65 = .ok (.iconst 1, 1) := by decide +kernel
theorem d_M_share_66 : decode b_M_share 66 = .ok (.iastore, 1) := by decide +kernel
theorem d_M_share_67 : decode b_M_share 67 = .ok (.iinc 4 1, 3) := by decide +kernel
theorem d_M_share_70 : decode b_M_share 70 = .ok (.goto (-67), 3) := by decide +kernel
theorem d_M_share_73 : decode b_M_share 73 = .ok (.iload_n 3, 1) := by decide +kernel
theorem d_M_share_74 : decode b_M_share 74 = .ok (.ifCond .ne 17, 3) := by decide +kernel
theorem d_M_share_77 : decode b_M_share 77 = .ok (.aload_n 0, 1) := by decide +kernel
theorem d_M_share_78 : decode b_M_share 78 = .ok (.getfield 65, 3) := by decide +kernel
theorem d_M_share_81 : decode b_M_share 81 = .ok (.bipush 8, 2) := by decide +kernel
theorem d_M_share_83 : decode b_M_share 83 = .ok (.iload_n 1, 1) := by decide +kernel
theorem d_M_share_84 : decode b_M_share 84 = .ok (.imul, 1) := by decide +kernel
theorem d_M_share_85 : decode b_M_share 85 = .ok (.iload_n 2, 1) := by decide +kernel
theorem d_M_share_86 : decode b_M_share 86 = .ok (.iadd, 1) := by decide +kernel
theorem d_M_share_87 : decode b_M_share 87 = .ok (.iaload, 1) := by decide +kernel
theorem d_M_share_88 : decode b_M_share 88 = .ok (.ifCond .ne 23, 3) := by decide +kernel
theorem d_M_share_91 : decode b_M_share 91 = .ok (.aload_n 0, 1) := by decide +kernel
theorem d_M_share_92 : decode b_M_share 92 = .ok (.getfield 65, 3) := by decide +kernel
theorem d_M_share_95 : decode b_M_share 95 = .ok (.bipush 8, 2) := by decide +kernel
theorem d_M_share_97 : decode b_M_share 97 = .ok (.iload_n 1, 1) := by decide +kernel
theorem d_M_share_98 : decode b_M_share 98 = .ok (.imul, 1) := by decide +kernel
theorem d_M_share_99 : decode b_M_share 99 = .ok (.iload_n 2, 1) := by decide +kernel
theorem d_M_share_100 : decode b_M_share 100 = .ok (.iadd, 1) := by decide +kernel
theorem d_M_share_101 : decode b_M_share 101 = .ok (.iload_n 3, 1) := by decide +kernel
theorem d_M_share_102 : decode b_M_share 102 = .ok (.ifCond .eq 7, 3) := by decide +kernel
theorem d_M_share_105 : decode b_M_share 105 = .ok (.iconst 2, 1) := by decide +kernel
theorem d_M_share_106 : decode b_M_share 106 = .ok (.goto 4, 3) := by decide +kernel
theorem d_M_share_109 : decode b_M_share 109 = .ok (.iconst 1, 1) := by decide +kernel
theorem d_M_share_110 : decode b_M_share 110 = .ok (.iastore, 1) := by decide +kernel
theorem d_M_share_111 : decode b_M_share 111 = .ok (.iload_n 3, 1) := by decide +kernel
theorem d_M_share_112 : decode b_M_share 112 = .ok (.ifCond .ne 13, 3) := by decide +kernel
theorem d_M_share_115 : decode b_M_share 115 = .ok (.aload_n 0, 1) := by decide +kernel
theorem d_M_share_116 : decode b_M_share 116 = .ok (.getfield 71, 3) := by decide +kernel
theorem d_M_share_119 : decode b_M_share 119 = .ok (.iload_n 2, 1) := by decide +kernel
theorem d_M_share_120 : decode b_M_share 120 = .ok (.iaload, 1) := by decide +kernel
theorem d_M_share_121 : decode b_M_share 121 = .ok (.iconst 3, 1) := by decide +kernel
theorem d_M_share_122 : decode b_M_share 122 = .ok (.if_icmp .ne 10, 3) := by decide +kernel
theorem d_M_share_125 : decode b_M_share 125 = .ok (.aload_n 0, 1) := by decide +kernel
theorem d_M_share_126 : decode b_M_share 126 = .ok (.getfield 71, 3) := by decide +kernel
theorem d_M_share_129 : decode b_M_share 129 = .ok (.iload_n 2, 1) := by decide +kernel
theorem d_M_share_130 : decode b_M_share 130 = .ok (.iload_n 1, 1) := by decide +kernel
theorem d_M_share_131 : decode b_M_share 131 = .ok (.iastore, 1) := by decide +kernel
theorem d_M_share_132 : decode b_M_share 132 = .ok (.return_, 1) := by decide +kernel
theorem d_M_serve_0 : decode b_M_serve 0 = .ok (.iload_n 1, 1) := by decide +kernel
theorem d_M_serve_1 : decode b_M_serve 1 = .ok (.bipush 7, 2) := by decide +kernel
theorem d_M_serve_3 : decode b_M_serve 3 = .ok (.invokestatic 84, 3) := by decide +kernel
theorem d_M_serve_6 : decode b_M_serve 6 = .ok (.ifCond .eq 5, 3) := by decide +kernel
theorem d_M_serve_9 : decode b_M_serve 9 = .ok (.iconst (-1), 1) := by decide +kernel
theorem d_M_serve_10 : decode b_M_serve 10 = .ok (.ireturn, 1) := by decide +kernel
theorem d_M_serve_11 : decode b_M_serve 11 = .ok (.aload_n 0, 1) := by decide +kernel
theorem d_M_serve_12 : decode b_M_serve 12 = .ok (.iload_n 1, 1) := by decide +kernel
theorem d_M_serve_13 : decode b_M_serve 13 = .ok (.invokevirtual 135, 3) := by decide +kernel
theorem d_M_serve_16 : decode b_M_serve 16 = .ok (.istore_n 2, 1) := by decide +kernel
theorem d_M_serve_17 : decode b_M_serve 17 = .ok (.iload_n 2, 1) := by decide +kernel
theorem d_M_serve_18 : decode b_M_serve 18 = .ok (.bipush 8, 2) := by decide +kernel
theorem d_M_serve_20 : decode b_M_serve 20 = .ok (.if_icmp .eq 29, 3) := by decide +kernel
theorem d_M_serve_23 : decode b_M_serve 23 = .ok (.aload_n 0, 1) := by decide +kernel
theorem d_M_serve_24 : decode b_M_serve 24 = .ok (.getfield 34, 3) := by decide +kernel
theorem d_M_serve_27 : decode b_M_serve 27 = .ok (.iload_n 2, 1) := by decide +kernel
theorem d_M_serve_28 : decode b_M_serve 28 = .ok (.iaload, 1) := by decide +kernel
theorem d_M_serve_29 : decode b_M_serve 29 = .ok (.iconst 4, 1) := by decide +kernel
theorem d_M_serve_30 : decode b_M_serve 30 = .ok (.if_icmp .ne 19, 3) := by decide +kernel
theorem d_M_serve_33 : decode b_M_serve 33 = .ok (.aload_n 0, 1) := by decide +kernel
theorem d_M_serve_34 : decode b_M_serve 34 = .ok (.getfield 52, 3) := by decide +kernel
theorem d_M_serve_37 : decode b_M_serve 37 = .ok (.iload_n 2, 1) := by decide +kernel
theorem d_M_serve_38 : decode b_M_serve 38 = .ok (.iconst 0, 1) := by decide +kernel
theorem d_M_serve_39 : decode b_M_serve 39 = .ok (.iastore, 1) := by decide +kernel
theorem d_M_serve_40 : decode b_M_serve 40 = .ok (.aload_n 0, 1) := by decide +kernel
theorem d_M_serve_41 : decode b_M_serve 41 = .ok (.iload_n 1, 1) := by decide +kernel
theorem d_M_serve_42 : decode b_M_serve 42 = .ok (.invokevirtual 135, 3) := by decide +kernel
theorem d_M_serve_45 : decode b_M_serve 45 = .ok (.istore_n 2, 1) := by decide +kernel
theorem d_M_serve_46 : decode b_M_serve 46 = .ok (.goto (-29), 3) := by decide +kernel
theorem d_M_serve_49 : decode b_M_serve 49 = .ok (.iload_n 2, 1) := by decide +kernel
theorem d_M_serve_50 : decode b_M_serve 50 = .ok (.bipush 8, 2) := by decide +kernel
theorem d_M_serve_52 : decode b_M_serve 52 = .ok (.if_icmp .ne 6, 3) := by decide +kernel
theorem d_M_serve_55 : decode b_M_serve 55 = .ok (.bipush (-3), 2) := by decide +kernel
theorem d_M_serve_57 : decode b_M_serve 57 = .ok (.ireturn, 1) := by decide +kernel
theorem d_M_serve_58 : decode b_M_serve 58 = .ok (.aload_n 0, 1) := by decide +kernel
theorem d_M_serve_59 : decode b_M_serve 59 = .ok (.getfield 52, 3) := by decide +kernel
theorem d_M_serve_62 : decode b_M_serve 62 = .ok (.iload_n 2, 1) := by decide +kernel
theorem d_M_serve_63 : decode b_M_serve 63 = .ok (.iconst 0, 1) := by decide +kernel
theorem d_M_serve_64 : decode b_M_serve 64 = .ok (.iastore, 1) := by decide +kernel
theorem d_M_serve_65 : decode b_M_serve 65 = .ok (.aload_n 0, 1) := by decide +kernel
theorem d_M_serve_66 : decode b_M_serve 66 = .ok (.getfield 31, 3) := by decide +kernel
theorem d_M_serve_69 : decode b_M_serve 69 = .ok (.iload_n 2, 1) := by decide +kernel
theorem d_M_serve_70 : decode b_M_serve 70 = .ok (.iaload, 1) := by decide +kernel
theorem d_M_serve_71 : decode b_M_serve 71 = .ok (.istore_n 3, 1) := by decide +kernel
theorem d_M_serve_72 : decode b_M_serve 72 = .ok (.aload_n 0, 1) := by decide +kernel
theorem d_M_serve_73 : decode b_M_serve 73 = .ok (.getfield 65, 3) := by decide +kernel
theorem d_M_serve_76 : decode b_M_serve 76 = .ok (.bipush 8, 2) := by decide +kernel
theorem d_M_serve_78 : decode b_M_serve 78 = .ok (.iload_n 3, 1) := by decide +kernel
theorem d_M_serve_79 : decode b_M_serve 79 = .ok (.imul, 1) := by decide +kernel
theorem d_M_serve_80 : decode b_M_serve 80 = .ok (.iload_n 1, 1) := by decide +kernel
theorem d_M_serve_81 : decode b_M_serve 81 = .ok (.iadd, 1) := by decide +kernel
theorem d_M_serve_82 : decode b_M_serve 82 = .ok (.iaload, 1) := by decide +kernel
theorem d_M_serve_83 : decode b_M_serve 83 = .ok (.ifCond .ne 7, 3) := by decide +kernel
theorem d_M_serve_86 : decode b_M_serve 86 = .ok (.iconst 1, 1) := by decide +kernel
theorem d_M_serve_87 : decode b_M_serve 87 = .ok (.goto 4, 3) := by decide +kernel
theorem d_M_serve_90 : decode b_M_serve 90 = .ok (.iconst 0, 1) := by decide +kernel
theorem d_M_serve_91 : decode b_M_serve 91 = .ok (.istore 4, 2) := by decide +kernel
theorem d_M_serve_93 : decode b_M_serve 93 = .ok (.aload_n 0, 1) := by decide +kernel
theorem d_M_serve_94 : decode b_M_serve 94 = .ok (.dup, 1) := by decide +kernel
theorem d_M_serve_95 : decode b_M_serve 95 = .ok (.getfield 132, 3) := by decide +kernel
theorem d_M_serve_98 : decode b_M_serve 98 = .ok (.iload 4, 2) := by decide +kernel
theorem d_M_serve_100 : decode b_M_serve 100 = .ok (.ifCond .eq 7, 3) := by decide +kernel
theorem d_M_serve_103 : decode b_M_serve 103 = .ok (.iconst 2, 1) := by decide +kernel
theorem d_M_serve_104 : decode b_M_serve 104 = .ok (.goto 4, 3) := by decide +kernel
theorem d_M_serve_107 : decode b_M_serve 107 = .ok (.iconst 1, 1) := by decide +kernel
theorem d_M_serve_108 : decode b_M_serve 108 = .ok (.iadd, 1) := by decide +kernel
theorem d_M_serve_109 : decode b_M_serve 109 = .ok (.putfield 132, 3) := by decide +kernel
theorem d_M_serve_112 : decode b_M_serve 112 = .ok (.iload 4, 2) := by decide +kernel
theorem d_M_serve_114 : decode b_M_serve 114 = .ok (.ifCond .eq 17, 3) := by decide +kernel
theorem d_M_serve_117 : decode b_M_serve 117 = .ok (.aload_n 0, 1) := by decide +kernel
theorem d_M_serve_118 : decode b_M_serve 118 = .ok (.iload_n 3, 1) := by decide +kernel
theorem d_M_serve_119 : decode b_M_serve 119 = .ok (.invokevirtual 139, 3) := by decide +kernel
theorem d_M_serve_122 : decode b_M_serve 122 = .ok (.iconst 3, 1) := by decide +kernel
theorem d_M_serve_123 : decode b_M_serve 123 = .ok (.if_icmp .ne 8, 3) := by decide +kernel
theorem d_M_serve_126 : decode b_M_serve 126 = .ok (.aload_n 0, 1) := by decide +kernel
theorem d_M_serve_127 : decode b_M_serve 127 = .ok (.iload_n 3, 1) := by decide +kernel
theorem d_M_serve_128 : decode b_M_serve 128 = .ok (.invokevirtual 142, 3) := by decide +kernel
theorem d_M_serve_131 : decode b_M_serve 131 = .ok (.aload_n 0, 1) := by decide +kernel
theorem d_M_serve_132 : decode b_M_serve 132 = .ok (.iload_n 3, 1) := by decide +kernel
theorem d_M_serve_133 : decode b_M_serve 133 = .ok (.iload_n 1, 1) := by decide +kernel
theorem d_M_serve_134 : decode b_M_serve 134 = .ok (.aload_n 0, 1) := by decide +kernel
theorem d_M_serve_135 : decode b_M_serve 135 = .ok (.getfield 58, 3) := by decide +kernel
theorem d_M_serve_138 : decode b_M_serve 138 = .ok (.iload_n 2, 1) := by decide +kernel
theorem d_M_serve_139 : decode b_M_serve 139 = .ok (.baload, 1) := by decide +kernel
theorem d_M_serve_140 : decode b_M_serve 140 = .ok (.invokevirtual 145, 3) := by decide +kernel
theorem d_M_serve_143 : decode b_M_serve 143 = .ok (.aload_n 0, 1) := by decide +kernel
theorem d_M_serve_144 : decode b_M_serve 144 = .ok (.getfield 68, 3) := by decide +kernel
theorem d_M_serve_147 : decode b_M_serve 147 = .ok (.bipush 8, 2) := by decide +kernel
theorem d_M_serve_149 : decode b_M_serve 149 = .ok (.iload_n 3, 1) := by decide +kernel
theorem d_M_serve_150 : decode b_M_serve 150 = .ok (.imul, 1) := by decide +kernel
theorem d_M_serve_151 : decode b_M_serve 151 = .ok (.iload_n 1, 1) := by decide +kernel
theorem d_M_serve_152 : decode b_M_serve 152 = .ok (.iadd, 1) := by decide +kernel
theorem d_M_serve_153 : decode b_M_serve 153 = .ok (.aload_n 0, 1) := by decide +kernel
theorem d_M_serve_154 : decode b_M_serve 154 = .ok (.invokevirtual 88, 3) := by decide +kernel
theorem d_M_serve_157 : decode b_M_serve 157 = .ok (.iastore, 1) := by decide +kernel
theorem d_M_serve_158 : decode b_M_serve 158 = .ok (.aload_n 0, 1) := by decide +kernel
theorem d_M_serve_159 : decode b_M_serve 159 = .ok (.dup, 1) := by decide +kernel
theorem d_M_serve_160 : decode b_M_serve 160 = .ok (.getfield 149, 3) := by decide +kernel
theorem d_M_serve_163 : decode b_M_serve 163 = .ok (.iconst 1, 1) := by decide +kernel
theorem d_M_serve_164 : decode b_M_serve 164 = .ok (.iadd, 1) := by decide +kernel
theorem d_M_serve_165 : decode b_M_serve 165 = .ok (.putfield 149, 3) := by decide +kernel
theorem d_M_serve_168 : decode b_M_serve 168 = .ok (.aload_n 0, 1) := by decide +kernel
theorem d_M_serve_169 : decode b_M_serve 169 = .ok (.iload_n 2, 1) := by decide +kernel
theorem d_M_serve_170 : decode b_M_serve 170 = .ok (.invokevirtual 92, 3) := by decide +kernel
theorem d_M_serve_173 : decode b_M_serve 173 = .ok (.iload_n 2, 1) := by decide +kernel
theorem d_M_serve_174 : decode b_M_serve 174 = .ok (.ireturn, 1) := by decide +kernel
theorem d_M_migrate_0 : decode b_M_migrate 0 = .ok (.aload_n 0, 1) := by decide +kernel
theorem d_M_migrate_1 : decode b_M_migrate 1 = .ok (.iload_n 1, 1) := by decide +kernel
theorem d_M_migrate_2 : decode b_M_migrate 2 = .ok (.invokevirtual 100, 3) := by decide +kernel
theorem d_M_migrate_5 : decode b_M_migrate 5 = .ok (.ifCond .ne 31, 3) := by decide +kernel
theorem d_M_migrate_8 : decode b_M_migrate 8 = .ok (.aload_n 0, 1) := by decide +kernel
theorem d_M_migrate_9 : decode b_M_migrate 9 = .ok (.getfield 34, 3) := by decide +kernel
theorem d_M_migrate_12 : decode b_M_migrate 12 = .ok (.iload_n 1, 1) := by decide +kernel
theorem d_M_migrate_13 : decode b_M_migrate 13 = .ok (.iaload, 1) := by decide +kernel
theorem d_M_migrate_14 : decode b_M_migrate 14 = .ok (.iconst 4, 1) := by decide +kernel
theorem d_M_migrate_15 : decode b_M_migrate 15 = .ok (.if_icmp .eq 21, 3) := by decide +kernel
theorem d_M_migrate_18 : decode b_M_migrate 18 = .ok (.iload_n 2, 1) := by decide +kernel
theorem d_M_migrate_19 : decode b_M_migrate 19 = .ok (.iconst 2, 1) := by decide +kernel
theorem d_M_migrate_20 : decode b_M_migrate 20 = .ok (.invokestatic 84, 3) := by decide +kernel
theorem d_M_migrate_23 : decode b_M_migrate 23 = .ok (.ifCond .ne 13, 3) := by decide +kernel
theorem d_M_migrate_26 : decode b_M_migrate 26 = .ok (.aload_n 0, 1) := by decide +kernel
theorem d_M_migrate_27 : decode b_M_migrate 27 = .ok (.getfield 31, 3) := by decide +kernel
theorem d_M_migrate_30 : decode b_M_migrate 30 = .ok (.iload_n 1, 1) := by decide +kernel
theorem d_M_migrate_31 : decode b_M_migrate 31 = .ok (.iaload, 1) := by decide +kernel
theorem d_M_migrate_32 : decode b_M_migrate 32 = .ok (.iload_n 2, 1) := by decide +kernel
theorem d_M_migrate_33 : decode b_M_migrate 33 = .ok (.if_icmp .ne 5, 3) := by decide +kernel
theorem d_M_migrate_36 : decode b_M_migrate 36 = .ok (.iconst (-1), 1) := by decide +kernel
theorem d_M_migrate_37 : decode b_M_migrate 37 = .ok (.ireturn, 1) := by decide +kernel
theorem d_M_migrate_38 : decode b_M_migrate 38 = .ok (.aload_n 0, 1) := by decide +kernel
theorem d_M_migrate_39 : decode b_M_migrate 39 = .ok (.getfield 31, 3) := by decide +kernel
theorem d_M_migrate_42 : decode b_M_migrate 42 = .ok (.iload_n 1, 1) := by decide +kernel
theorem d_M_migrate_43 : decode b_M_migrate 43 = .ok (.iaload, 1) := by decide +kernel
theorem d_M_migrate_44 : decode b_M_migrate 44 = .ok (.istore_n 3, 1) := by decide +kernel
theorem d_M_migrate_45 : decode b_M_migrate 45 = .ok (.aload_n 0, 1) := by decide +kernel
theorem d_M_migrate_46 : decode b_M_migrate 46 = .ok (.getfield 31, 3) := by decide +kernel
theorem d_M_migrate_49 : decode b_M_migrate 49 = .ok (.iload_n 1, 1) := by decide +kernel
theorem d_M_migrate_50 : decode b_M_migrate 50 = .ok (.iload_n 2, 1) := by decide +kernel
theorem d_M_migrate_51 : decode b_M_migrate 51 = .ok (.iastore, 1) := by decide +kernel
theorem d_M_migrate_52 : decode b_M_migrate 52 = .ok (.aload_n 0, 1) := by decide +kernel
theorem d_M_migrate_53 : decode b_M_migrate 53 = .ok (.getfield 34, 3) := by decide +kernel
theorem d_M_migrate_56 : decode b_M_migrate 56 = .ok (.iload_n 1, 1) := by decide +kernel
theorem d_M_migrate_57 : decode b_M_migrate 57 = .ok (.iaload, 1) := by decide +kernel
theorem d_M_migrate_58 : decode b_M_migrate 58 = .ok (.iconst 1, 1) := by decide +kernel
theorem d_M_migrate_59 : decode b_M_migrate 59 = .ok (.if_icmp .ne 8, 3) := by decide +kernel
theorem d_M_migrate_62 : decode b_M_migrate 62 = .ok (.aload_n 0, 1) := by decide +kernel
theorem d_M_migrate_63 : decode b_M_migrate 63 = .ok (.iload_n 1, 1) := by decide +kernel
theorem d_M_migrate_64 : decode b_M_migrate 64 = .ok (.invokevirtual 92, 3) := by decide +kernel
theorem d_M_migrate_67 : decode b_M_migrate 67 = .ok (.aload_n 0, 1) := by decide +kernel
theorem d_M_migrate_68 : decode b_M_migrate 68 = .ok (.getfield 74, 3) := by decide +kernel
theorem d_M_migrate_71 : decode b_M_migrate 71 = .ok (.bipush 8, 2) := by decide +kernel
theorem d_M_migrate_73 : decode b_M_migrate 73 = .ok (.iload_n 3, 1) := by decide +kernel
theorem d_M_migrate_74 : decode b_M_migrate 74 = .ok (.imul, 1) := by decide +kernel
theorem d_M_migrate_75 : decode b_M_migrate 75 = .ok (.iload_n 1, 1) := by decide +kernel
theorem d_M_migrate_76 : decode b_M_migrate 76 = .ok (.iadd, 1) := by decide +kernel
theorem d_M_migrate_77 : decode b_M_migrate 77 = .ok (.iload_n 2, 1) := by decide +kernel
theorem d_M_migrate_78 : decode b_M_migrate 78 = .ok (.iastore, 1) := by decide +kernel
theorem d_M_migrate_79 : decode b_M_migrate 79 = .ok (.aload_n 0, 1) := by decide +kernel
theorem d_M_migrate_80 : decode b_M_migrate 80 = .ok (.getfield 74, 3) := by decide +kernel
theorem d_M_migrate_83 : decode b_M_migrate 83 = .ok (.bipush 8, 2) := by decide +kernel
theorem d_M_migrate_85 : decode b_M_migrate 85 = .ok (.iload_n 2, 1) := by decide +kernel
theorem d_M_migrate_86 : decode b_M_migrate 86 = .ok (.imul, 1) := by decide +kernel
theorem d_M_migrate_87 : decode b_M_migrate 87 = .ok (.iload_n 1, 1) := by decide +kernel
theorem d_M_migrate_88 : decode b_M_migrate 88 = .ok (.iadd, 1) := by decide +kernel
theorem d_M_migrate_89 : decode b_M_migrate 89 = .ok (.iload_n 2, 1) := by decide +kernel
theorem d_M_migrate_90 : decode b_M_migrate 90 = .ok (.iastore, 1) := by decide +kernel
theorem d_M_migrate_91 : decode b_M_migrate 91 = .ok (.iload_n 3, 1) := by decide +kernel
theorem d_M_migrate_92 : decode b_M_migrate 92 = .ok (.ireturn, 1) := by decide +kernel
theorem d_M_find_0 : decode b_M_find 0 = .ok (.iload_n 1, 1) := by decide +kernel
theorem d_M_find_1 : decode b_M_find 1 = .ok (.iconst 2, 1) := by decide +kernel
theorem d_M_find_2 : decode b_M_find 2 = .ok (.invokestatic 84, 3) := by decide +kernel
theorem d_M_find_5 : decode b_M_find 5 = .ok (.ifCond .ne 11, 3) := by decide +kernel
theorem d_M_find_8 : decode b_M_find 8 = .ok (.aload_n 0, 1) := by decide +kernel
theorem d_M_find_9 : decode b_M_find 9 = .ok (.iload_n 2, 1) := by decide +kernel
theorem d_M_find_10 : decode b_M_find 10 = .ok (.invokevirtual 100, 3) := by decide +kernel
theorem d_M_find_13 : decode b_M_find 13 = .ok (.ifCond .eq 5, 3) := by decide +kernel
theorem d_M_find_16 : decode b_M_find 16 = .ok (.iconst (-1), 1) := by decide +kernel
theorem d_M_find_17 : decode b_M_find 17 = .ok (.ireturn, 1) := by decide +kernel
theorem d_M_find_18 : decode b_M_find 18 = .ok (.iload_n 1, 1) := by decide +kernel
theorem d_M_find_19 : decode b_M_find 19 = .ok (.istore_n 3, 1) := by decide +kernel
theorem d_M_find_20 : decode b_M_find 20 = .ok (.iconst 0, 1) := by decide +kernel
theorem d_M_find_21 : decode b_M_find 21 = .ok (.istore 4, 2) := by decide +kernel
theorem d_M_find_23 : decode b_M_find 23 = .ok (.iload_n 3, 1) := by decide +kernel
theorem d_M_find_24 : decode b_M_find 24 = .ok (.aload_n 0, 1) := by decide +kernel
theorem d_M_find_25 : decode b_M_find 25 = .ok (.getfield 31, 3) := by decide +kernel
theorem d_M_find_28 : decode b_M_find 28 = .ok (.iload_n 2, 1) := by decide +kernel
theorem d_M_find_29 : decode b_M_find 29 = .ok (.iaload, 1) := by decide +kernel
theorem d_M_find_30 : decode b_M_find 30 = .ok (.if_icmp .eq 49, 3) := by decide +kernel
theorem d_M_find_33 : decode b_M_find 33 = .ok (.iload 4, 2) := by decide +kernel
theorem d_M_find_35 : decode b_M_find 35 = .ok (.bipush 9, 2) := by decide +kernel
theorem d_M_find_37 : decode b_M_find 37 = .ok (.if_icmp .ge 42, 3) := by decide +kernel
theorem d_M_find_40 : decode b_M_find 40 = .ok (.aload_n 0, 1) := by decide +kernel
theorem d_M_find_41 : decode b_M_find 41 = .ok (.getfield 74, 3) := by decide +kernel
theorem d_M_find_44 : decode b_M_find 44 = .ok (.bipush 8, 2) := by decide +kernel
theorem d_M_find_46 : decode b_M_find 46 = .ok (.iload_n 3, 1) := by decide +kernel
theorem d_M_find_47 : decode b_M_find 47 = .ok (.imul, 1) := by decide +kernel
theorem d_M_find_48 : decode b_M_find 48 = .ok (.iload_n 2, 1) := by decide +kernel
theorem d_M_find_49 : decode b_M_find 49 = .ok (.iadd, 1) := by decide +kernel
theorem d_M_find_50 : decode b_M_find 50 = .ok (.iaload, 1) := by decide +kernel
theorem d_M_find_51 : decode b_M_find 51 = .ok (.istore 5, 2) := by decide +kernel
theorem d_M_find_53 : decode b_M_find 53 = .ok (.aload_n 0, 1) := by decide +kernel
theorem d_M_find_54 : decode b_M_find 54 = .ok (.getfield 74, 3) := by decide +kernel
theorem d_M_find_57 : decode b_M_find 57 = .ok (.bipush 8, 2) := by decide +kernel
theorem d_M_find_59 : decode b_M_find 59 = .ok (.iload_n 3, 1) := by decide +kernel
theorem d_M_find_60 : decode b_M_find 60 = .ok (.imul, 1) := by decide +kernel
theorem d_M_find_61 : decode b_M_find 61 = .ok (.iload_n 2, 1) := by decide +kernel
theorem d_M_find_62 : decode b_M_find 62 = .ok (.iadd, 1) := by decide +kernel
theorem d_M_find_63 : decode b_M_find 63 = .ok (.aload_n 0, 1) := by decide +kernel
theorem d_M_find_64 : decode b_M_find 64 = .ok (.getfield 31, 3) := by decide +kernel
theorem d_M_find_67 : decode b_M_find 67 = .ok (.iload_n 2, 1) := by decide +kernel
theorem d_M_find_68 : decode b_M_find 68 = .ok (.iaload, 1) := by decide +kernel
theorem d_M_find_69 : decode b_M_find 69 = .ok (.iastore, 1) := by decide +kernel
theorem d_M_find_70 : decode b_M_find 70 = .ok (.iload 5, 2) := by decide +kernel
theorem d_M_find_72 : decode b_M_find 72 = .ok (.istore_n 3, 1) := by decide +kernel
theorem d_M_find_73 : decode b_M_find 73 = .ok (.iinc 4 1, 3) := by decide +kernel
theorem d_M_find_76 : decode b_M_find 76 = .ok (.goto (-53), 3) := by decide +kernel
theorem d_M_find_79 : decode b_M_find 79 = .ok (.iload 4, 2) := by decide +kernel
theorem d_M_find_81 : decode b_M_find 81 = .ok (.ireturn, 1) := by decide +kernel
theorem d_M_reg_0 : decode b_M_reg 0 = .ok (.aload_n 0, 1) := by decide +kernel
theorem d_M_reg_1 : decode b_M_reg 1 = .ok (.iload_n 1, 1) := by decide +kernel
theorem d_M_reg_2 : decode b_M_reg 2 = .ok (.invokevirtual 100, 3) := by decide +kernel
theorem d_M_reg_5 : decode b_M_reg 5 = .ok (.ifCond .ne 11, 3) := by decide +kernel
theorem d_M_reg_8 : decode b_M_reg 8 = .ok (.iload_n 2, 1) := by decide +kernel
theorem d_M_reg_9 : decode b_M_reg 9 = .ok (.iconst 3, 1) := by decide +kernel
theorem d_M_reg_10 : decode b_M_reg 10 = .ok (.invokestatic 84, 3) := by decide +kernel
theorem d_M_reg_13 : decode b_M_reg 13 = .ok (.ifCond .eq 9, 3) := by decide +kernel
theorem d_M_reg_16 : decode b_M_reg 16 = .ok (.ldc2_w 152, 3) := by decide +kernel
theorem d_M_reg_19 : decode b_M_reg 19 = .ok (.goto 14, 3) := by decide +kernel
theorem d_M_reg_22 : decode b_M_reg 22 = .ok (.aload_n 0, 1) := by decide +kernel
theorem d_M_reg_23 : decode b_M_reg 23 = .ok (.getfield 25, 3) := by decide +kernel
theorem d_M_reg_26 : decode b_M_reg 26 = .ok (.iconst 4, 1) := by decide +kernel
theorem d_M_reg_27 : decode b_M_reg 27 = .ok (.iload_n 1, 1) := by decide +kernel
theorem d_M_reg_28 : decode b_M_reg 28 = .ok (.imul, 1) := by decide +kernel
theorem d_M_reg_29 : decode b_M_reg 29 = .ok (.iload_n 2, 1) := by decide +kernel
theorem d_M_reg_30 : decode b_M_reg 30 = .ok (.iadd, 1) := by decide +kernel
theorem d_M_reg_31 : decode b_M_reg 31 = .ok (.iaload, 1) := by decide +kernel
theorem d_M_reg_32 : decode b_M_reg 32 = .ok (.i2l, 1) := by decide +kernel
theorem d_M_reg_33 : decode b_M_reg 33 = .ok (.lreturn, 1) := by decide +kernel
theorem d_M_info_0 : decode b_M_info 0 = .ok (.aload_n 0, 1) := by decide +kernel
theorem d_M_info_1 : decode b_M_info 1 = .ok (.iload_n 1, 1) := by decide +kernel
theorem d_M_info_2 : decode b_M_info 2 = .ok (.invokevirtual 100, 3) := by decide +kernel
theorem d_M_info_5 : decode b_M_info 5 = .ok (.ifCond .eq 7, 3) := by decide +kernel
theorem d_M_info_8 : decode b_M_info 8 = .ok (.ldc2_w 152, 3) := by decide +kernel
theorem d_M_info_11 : decode b_M_info 11 = .ok (.lreturn, 1) := by decide +kernel
theorem d_M_info_12 : decode b_M_info 12 = .ok (.iload_n 2, 1) := by decide +kernel
theorem d_M_info_13 : decode b_M_info 13 = .ok (.tableswitch 87 0 5 #[39, 47, 55, 63, 71, 79], 39) := by decide +kernel
theorem d_M_info_52 : decode b_M_info 52 = .ok (.aload_n 0, 1) := by decide +kernel
theorem d_M_info_53 : decode b_M_info 53 = .ok (.getfield 34, 3) := by decide +kernel
theorem d_M_info_56 : decode b_M_info 56 = .ok (.iload_n 1, 1) := by decide +kernel
theorem d_M_info_57 : decode b_M_info 57 = .ok (.iaload, 1) := by decide +kernel
theorem d_M_info_58 : decode b_M_info 58 = .ok (.i2l, 1) := by decide +kernel
theorem d_M_info_59 : decode b_M_info 59 = .ok (.lreturn, 1) := by decide +kernel
theorem d_M_info_60 : decode b_M_info 60 = .ok (.aload_n 0, 1) := by decide +kernel
theorem d_M_info_61 : decode b_M_info 61 = .ok (.getfield 31, 3) := by decide +kernel
theorem d_M_info_64 : decode b_M_info 64 = .ok (.iload_n 1, 1) := by decide +kernel
theorem d_M_info_65 : decode b_M_info 65 = .ok (.iaload, 1) := by decide +kernel
theorem d_M_info_66 : decode b_M_info 66 = .ok (.i2l, 1) := by decide +kernel
theorem d_M_info_67 : decode b_M_info 67 = .ok (.lreturn, 1) := by decide +kernel
theorem d_M_info_68 : decode b_M_info 68 = .ok (.aload_n 0, 1) := by decide +kernel
theorem d_M_info_69 : decode b_M_info 69 = .ok (.getfield 28, 3) := by decide +kernel
theorem d_M_info_72 : decode b_M_info 72 = .ok (.iload_n 1, 1) := by decide +kernel
theorem d_M_info_73 : decode b_M_info 73 = .ok (.iaload, 1) := by decide +kernel
theorem d_M_info_74 : decode b_M_info 74 = .ok (.i2l, 1) := by decide +kernel
theorem d_M_info_75 : decode b_M_info 75 = .ok (.lreturn, 1) := by decide +kernel
theorem d_M_info_76 : decode b_M_info 76 = .ok (.aload_n 0, 1) := by decide +kernel
theorem d_M_info_77 : decode b_M_info 77 = .ok (.getfield 40, 3) := by decide +kernel
theorem d_M_info_80 : decode b_M_info 80 = .ok (.iload_n 1, 1) := by decide +kernel
theorem d_M_info_81 : decode b_M_info 81 = .ok (.iaload, 1) := by decide +kernel
theorem d_M_info_82 : decode b_M_info 82 = .ok (.i2l, 1) := by decide +kernel
theorem d_M_info_83 : decode b_M_info 83 = .ok (.lreturn, 1) := by decide +kernel
theorem d_M_info_84 : decode b_M_info 84 = .ok (.aload_n 0, 1) := by decide +kernel
theorem d_M_info_85 : decode b_M_info 85 = .ok (.getfield 43, 3) := by decide +kernel
theorem d_M_info_88 : decode b_M_info 88 = .ok (.iload_n 1, 1) := by decide +kernel
theorem d_M_info_89 : decode b_M_info 89 = .ok (.iaload, 1) := by decide +kernel
theorem d_M_info_90 : decode b_M_info 90 = .ok (.i2l, 1) := by decide +kernel
theorem d_M_info_91 : decode b_M_info 91 = .ok (.lreturn, 1) := by decide +kernel
theorem d_M_info_92 : decode b_M_info 92 = .ok (.aload_n 0, 1) := by decide +kernel
theorem d_M_info_93 : decode b_M_info 93 = .ok (.getfield 49, 3) := by decide +kernel
theorem d_M_info_96 : decode b_M_info 96 = .ok (.iload_n 1, 1) := by decide +kernel
theorem d_M_info_97 : decode b_M_info 97 = .ok (.iaload, 1) := by decide +kernel
theorem d_M_info_98 : decode b_M_info 98 = .ok (.i2l, 1) := by decide +kernel
theorem d_M_info_99 : decode b_M_info 99 = .ok (.lreturn, 1) := by decide +kernel
theorem d_M_info_100 : decode b_M_info 100 = .ok (.ldc2_w 152, 3) := by decide +kernel
theorem d_M_info_103 : decode b_M_info 103 = .ok (.lreturn, 1) := by decide +kernel
theorem d_M_line_0 : decode b_M_line 0 = .ok (.iload_n 1, 1) := by decide +kernel
theorem d_M_line_1 : decode b_M_line 1 = .ok (.iconst 2, 1) := by decide +kernel
theorem d_M_line_2 : decode b_M_line 2 = .ok (.invokestatic 84, 3) := by decide +kernel
theorem d_M_line_5 : decode b_M_line 5 = .ok (.ifCond .ne 7, 3) := by decide +kernel
theorem d_M_line_8 : decode b_M_line 8 = .ok (.iload_n 2, 1) := by decide +kernel
theorem d_M_line_9 : decode b_M_line 9 = .ok (.ifCond .ge 7, 3) := by decide +kernel
theorem d_M_line_12 : decode b_M_line 12 = .ok (.iconst (-1), 1) := by decide +kernel
theorem d_M_line_13 : decode b_M_line 13 = .ok (.goto 9, 3) := by decide +kernel
theorem d_M_line_16 : decode b_M_line 16 = .ok (.aload_n 0, 1) := by decide +kernel
theorem d_M_line_17 : decode b_M_line 17 = .ok (.iload_n 1, 1) := by decide +kernel
theorem d_M_line_18 : decode b_M_line 18 = .ok (.iload_n 2, 1) := by decide +kernel
theorem d_M_line_19 : decode b_M_line 19 = .ok (.invokevirtual 118, 3) := by decide +kernel
theorem d_M_line_22 : decode b_M_line 22 = .ok (.ireturn, 1) := by decide +kernel
theorem d_M_word_0 : decode b_M_word 0 = .ok (.iload_n 1, 1) := by decide +kernel
theorem d_M_word_1 : decode b_M_word 1 = .ok (.bipush 31, 2) := by decide +kernel
theorem d_M_word_3 : decode b_M_word 3 = .ok (.invokestatic 84, 3) := by decide +kernel
theorem d_M_word_6 : decode b_M_word 6 = .ok (.ifCond .eq 9, 3) := by decide +kernel
theorem d_M_word_9 : decode b_M_word 9 = .ok (.ldc2_w 152, 3) := by decide +kernel
theorem d_M_word_12 : decode b_M_word 12 = .ok (.goto 10, 3) := by decide +kernel
theorem d_M_word_15 : decode b_M_word 15 = .ok (.aload_n 0, 1) := by decide +kernel
theorem d_M_word_16 : decode b_M_word 16 = .ok (.getfield 62, 3) := by decide +kernel
theorem d_M_word_19 : decode b_M_word 19 = .ok (.iload_n 1, 1) := by decide +kernel
theorem d_M_word_20 : decode b_M_word 20 = .ok (.iaload, 1) := by decide +kernel
theorem d_M_word_21 : decode b_M_word 21 = .ok (.i2l, 1) := by decide +kernel
theorem d_M_word_22 : decode b_M_word 22 = .ok (.lreturn, 1) := by decide +kernel
theorem d_M_copy_0 : decode b_M_copy 0 = .ok (.iload_n 1, 1) := by decide +kernel
theorem d_M_copy_1 : decode b_M_copy 1 = .ok (.iconst 2, 1) := by decide +kernel
theorem d_M_copy_2 : decode b_M_copy 2 = .ok (.invokestatic 84, 3) := by decide +kernel
theorem d_M_copy_5 : decode b_M_copy 5 = .ok (.ifCond .ne 28, 3) := by decide +kernel
theorem d_M_copy_8 : decode b_M_copy 8 = .ok (.iload_n 2, 1) := by decide +kernel
theorem d_M_copy_9 : decode b_M_copy 9 = .ok (.bipush 31, 2) := by decide +kernel
theorem d_M_copy_11 : decode b_M_copy 11 = .ok (.invokestatic 84, 3) := by decide +kernel
theorem d_M_copy_14 : decode b_M_copy 14 = .ok (.ifCond .ne 19, 3) := by decide +kernel
theorem d_M_copy_17 : decode b_M_copy 17 = .ok (.aload_n 0, 1) := by decide +kernel
theorem d_M_copy_18 : decode b_M_copy 18 = .ok (.getfield 65, 3) := by decide +kernel
theorem d_M_copy_21 : decode b_M_copy 21 = .ok (.bipush 8, 2) := by decide +kernel
theorem d_M_copy_23 : decode b_M_copy 23 = .ok (.iload_n 1, 1) := by decide +kernel
theorem d_M_copy_24 : decode b_M_copy 24 = .ok (.imul, 1) := by decide +kernel
theorem d_M_copy_25 : decode b_M_copy 25 = .ok (.iload_n 2, 1) := by decide +kernel
theorem d_M_copy_26 : decode b_M_copy 26 = .ok (.iconst 4, 1) := by decide +kernel
theorem d_M_copy_27 : decode b_M_copy 27 = .ok (.idiv, 1) := by decide +kernel
theorem d_M_copy_28 : decode b_M_copy 28 = .ok (.iadd, 1) := by decide +kernel
theorem d_M_copy_29 : decode b_M_copy 29 = .ok (.iaload, 1) := by decide +kernel
theorem d_M_copy_30 : decode b_M_copy 30 = .ok (.ifCond .ne 7, 3) := by decide +kernel
theorem d_M_copy_33 : decode b_M_copy 33 = .ok (.ldc2_w 152, 3) := by decide +kernel
theorem d_M_copy_36 : decode b_M_copy 36 = .ok (.lreturn, 1) := by decide +kernel
theorem d_M_copy_37 : decode b_M_copy 37 = .ok (.aload_n 0, 1) := by decide +kernel
theorem d_M_copy_38 : decode b_M_copy 38 = .ok (.getfield 62, 3) := by decide +kernel
theorem d_M_copy_41 : decode b_M_copy 41 = .ok (.iload_n 2, 1) := by decide +kernel
theorem d_M_copy_42 : decode b_M_copy 42 = .ok (.iaload, 1) := by decide +kernel
theorem d_M_copy_43 : decode b_M_copy 43 = .ok (.i2l, 1) := by decide +kernel
theorem d_M_copy_44 : decode b_M_copy 44 = .ok (.lreturn, 1) := by decide +kernel
theorem d_M_right_0 : decode b_M_right 0 = .ok (.iload_n 1, 1) := by decide +kernel
theorem d_M_right_1 : decode b_M_right 1 = .ok (.iconst 2, 1) := by decide +kernel
theorem d_M_right_2 : decode b_M_right 2 = .ok (.invokestatic 84, 3) := by decide +kernel
theorem d_M_right_5 : decode b_M_right 5 = .ok (.ifCond .ne 12, 3) := by decide +kernel
theorem d_M_right_8 : decode b_M_right 8 = .ok (.iload_n 2, 1) := by decide +kernel
theorem d_M_right_9 : decode b_M_right 9 = .ok (.bipush 7, 2) := by decide +kernel
theorem d_M_right_11 : decode b_M_right 11 = .ok (.invokestatic 84, 3) := by decide +kernel
theorem d_M_right_14 : decode b_M_right 14 = .ok (.ifCond .eq 7, 3) := by decide +kernel
theorem d_M_right_17 : decode b_M_right 17 = .ok (.iconst (-1), 1) := by decide +kernel
theorem d_M_right_18 : decode b_M_right 18 = .ok (.goto 14, 3) := by decide +kernel
theorem d_M_right_21 : decode b_M_right 21 = .ok (.aload_n 0, 1) := by decide +kernel
theorem d_M_right_22 : decode b_M_right 22 = .ok (.getfield 65, 3) := by decide +kernel
theorem d_M_right_25 : decode b_M_right 25 = .ok (.bipush 8, 2) := by decide +kernel
theorem d_M_right_27 : decode b_M_right 27 = .ok (.iload_n 1, 1) := by decide +kernel
theorem d_M_right_28 : decode b_M_right 28 = .ok (.imul, 1) := by decide +kernel
theorem d_M_right_29 : decode b_M_right 29 = .ok (.iload_n 2, 1) := by decide +kernel
theorem d_M_right_30 : decode b_M_right 30 = .ok (.iadd, 1) := by decide +kernel
theorem d_M_right_31 : decode b_M_right 31 = .ok (.iaload, 1) := by decide +kernel
theorem d_M_right_32 : decode b_M_right 32 = .ok (.ireturn, 1) := by decide +kernel
theorem d_M_owner_0 : decode b_M_owner 0 = .ok (.iload_n 1, 1) := by decide +kernel
theorem d_M_owner_1 : decode b_M_owner 1 = .ok (.bipush 7, 2) := by decide +kernel
theorem d_M_owner_3 : decode b_M_owner 3 = .ok (.invokestatic 84, 3) := by decide +kernel
theorem d_M_owner_6 : decode b_M_owner 6 = .ok (.ifCond .eq 7, 3) := by decide +kernel
theorem d_M_owner_9 : decode b_M_owner 9 = .ok (.iconst (-1), 1) := by decide +kernel
theorem d_M_owner_10 : decode b_M_owner 10 = .ok (.goto 9, 3) := by decide +kernel
theorem d_M_owner_13 : decode b_M_owner 13 = .ok (.aload_n 0, 1) := by decide +kernel
theorem d_M_owner_14 : decode b_M_owner 14 = .ok (.getfield 71, 3) := by decide +kernel
theorem d_M_owner_17 : decode b_M_owner 17 = .ok (.iload_n 1, 1) := by decide +kernel
theorem d_M_owner_18 : decode b_M_owner 18 = .ok (.iaload, 1) := by decide +kernel
theorem d_M_owner_19 : decode b_M_owner 19 = .ok (.ireturn, 1) := by decide +kernel
theorem d_M_count_0 : decode b_M_count 0 = .ok (.iconst 0, 1) := by decide +kernel
theorem d_M_count_1 : decode b_M_count 1 = .ok (.istore_n 2, 1) := by decide +kernel
theorem d_M_count_2 : decode b_M_count 2 = .ok (.iconst 0, 1) := by decide +kernel
theorem d_M_count_3 : decode b_M_count 3 = .ok (.istore_n 3, 1) := by decide +kernel
theorem d_M_count_4 : decode b_M_count 4 = .ok (.iconst 0, 1) := by decide +kernel
theorem d_M_count_5 : decode b_M_count 5 = .ok (.istore 4, 2) := by decide +kernel
theorem d_M_count_7 : decode b_M_count 7 = .ok (.iload 4, 2) := by decide +kernel
theorem d_M_count_9 : decode b_M_count 9 = .ok (.aload_n 0, 1) := by decide +kernel
theorem d_M_count_10 : decode b_M_count 10 = .ok (.getfield 81, 3) := by decide +kernel
theorem d_M_count_13 : decode b_M_count 13 = .ok (.if_icmp .ge 36, 3) := by decide +kernel
theorem d_M_count_16 : decode b_M_count 16 = .ok (.aload_n 0, 1) := by decide +kernel
theorem d_M_count_17 : decode b_M_count 17 = .ok (.getfield 52, 3) := by decide +kernel
theorem d_M_count_20 : decode b_M_count 20 = .ok (.iload 4, 2) := by decide +kernel
theorem d_M_count_22 : decode b_M_count 22 = .ok (.iaload, 1) := by decide +kernel
theorem d_M_count_23 : decode b_M_count 23 = .ok (.ifCond .eq 6, 3) := by decide +kernel
theorem d_M_count_26 : decode b_M_count 26 = .ok (.iinc 2 1, 3) := by decide +kernel
theorem d_M_count_29 : decode b_M_count 29 = .ok (.aload_n 0, 1) := by decide +kernel
theorem d_M_count_30 : decode b_M_count 30 = .ok (.getfield 34, 3) := by decide +kernel
theorem d_M_count_33 : decode b_M_count 33 = .ok (.iload 4, 2) := by decide +kernel
theorem d_M_count_35 : decode b_M_count 35 = .ok (.iaload, 1) := by decide +kernel
theorem d_M_count_36 : decode b_M_count 36 = .ok (.iconst 1, 1) := by decide +kernel
theorem d_M_count_37 : decode b_M_count 37 = .ok (.if_icmp .ne 6, 3) := by decide +kernel
theorem d_M_count_40 : decode b_M_count 40 = .ok (.iinc 3 1, 3) := by decide +kernel
theorem d_M_count_43 : decode b_M_count 43 = .ok (.iinc 4 1, 3) := by decide +kernel
theorem d_M_count_46 : decode b_M_count 46 = .ok (.goto (-39), 3) := by decide +kernel
theorem d_M_count_49 : decode b_M_count 49 = .ok (.iload_n 1, 1) := by decide +kernel
theorem d_M_count_50 : decode b_M_count 50 = .ok (.tableswitch 71 0 6 #[42, 47, 52, 57, 62, 64, 66], 42) := by decide +kernel
theorem d_M_count_92 : decode b_M_count 92 = .ok (.aload_n 0, 1) := by decide +kernel
theorem d_M_count_93 : decode b_M_count 93 = .ok (.getfield 81, 3) := by decide +kernel
theorem d_M_count_96 : decode b_M_count 96 = .ok (.ireturn, 1) := by decide +kernel
theorem d_M_count_97 : decode b_M_count 97 = .ok (.aload_n 0, 1) := by decide +kernel
theorem d_M_count_98 : decode b_M_count 98 = .ok (.getfield 132, 3) := by decide +kernel
theorem d_M_count_101 : decode b_M_count 101 = .ok (.ireturn, 1) := by decide +kernel
theorem d_M_count_102 : decode b_M_count 102 = .ok (.aload_n 0, 1) := by decide +kernel
theorem d_M_count_103 : decode b_M_count 103 = .ok (.getfield 104, 3) := by decide +kernel
theorem d_M_count_106 : decode b_M_count 106 = .ok (.ireturn, 1) := by decide +kernel
theorem d_M_count_107 : decode b_M_count 107 = .ok (.aload_n 0, 1) := by decide +kernel
theorem d_M_count_108 : decode b_M_count 108 = .ok (.getfield 129, 3) := by decide +kernel
theorem d_M_count_111 : decode b_M_count 111 = .ok (.ireturn, 1) := by decide +kernel
theorem d_M_count_112 : decode b_M_count 112 = .ok (.iload_n 2, 1) := by decide +kernel
theorem d_M_count_113 : decode b_M_count 113 = .ok (.ireturn, 1) := by decide +kernel
theorem d_M_count_114 : decode b_M_count 114 = .ok (.iload_n 3, 1) := by decide +kernel
theorem d_M_count_115 : decode b_M_count 115 = .ok (.ireturn, 1) := by decide +kernel
theorem d_M_count_116 : decode b_M_count 116 = .ok (.aload_n 0, 1) := by decide +kernel
theorem d_M_count_117 : decode b_M_count 117 = .ok (.getfield 149, 3) := by decide +kernel
theorem d_M_count_120 : decode b_M_count 120 = .ok (.ireturn, 1) := by decide +kernel
theorem d_M_count_121 : decode b_M_count 121 = .ok (.iconst (-1), 1) := by decide +kernel
theorem d_M_count_122 : decode b_M_count 122 = .ok (.ireturn, 1) := by decide +kernel
