/-! What each instruction is. -/
theorem jd_Bc_wired_30 : decode jq_Bc_wired.2.1 30 = .ok (.getfield 189, 3) := by decide +kernel
theorem jd_Bc_wired_33 : decode jq_Bc_wired.2.1 33 = .ok (.iload_n 2, 1) := by decide +kernel
theorem jd_Bc_wired_34 : decode jq_Bc_wired.2.1 34 = .ok (.iaload, 1) := by decide +kernel
theorem jd_Bc_wired_35 : decode jq_Bc_wired.2.1 35 = .ok (.ireturn, 1) := by decide +kernel
theorem jd_La_cell_0 : decode jq_La_cell.2.1 0 = .ok (.iload_n 1, 1) := by decide +kernel
theorem jd_La_cell_1 : decode jq_La_cell.2.1 1 = .ok (.aload_n 0, 1) := by decide +kernel
theorem jd_La_cell_2 : decode jq_La_cell.2.1 2 = .ok (.arraylength, 1) := by decide +kernel
theorem jd_La_cell_3 : decode jq_La_cell.2.1 3 = .ok (.if_icmp .ge 9, 3) := by decide +kernel
theorem jd_La_cell_6 : decode jq_La_cell.2.1 6 = .ok (.aload_n 0, 1) := by decide +kernel
theorem jd_La_cell_7 : decode jq_La_cell.2.1 7 = .ok (.iload_n 1, 1) := by decide +kernel
theorem jd_La_cell_8 : decode jq_La_cell.2.1 8 = .ok (.iaload, 1) := by decide +kernel
theorem jd_La_cell_9 : decode jq_La_cell.2.1 9 = .ok (.goto 4, 3) := by decide +kernel
theorem jd_La_cell_12 : decode jq_La_cell.2.1 12 = .ok (.iconst 0, 1) := by decide +kernel
theorem jd_La_cell_13 : decode jq_La_cell.2.1 13 = .ok (.ireturn, 1) := by decide +kernel
theorem jd_Mo_init_0 : decode jq_Mo_init.2.1 0 = .ok (.aload_n 0, 1) := by decide +kernel
theorem jd_Mo_init_1 : decode jq_Mo_init.2.1 1 = .ok (.invokespecial 1, 3) := by decide +kernel
theorem jd_Mo_init_4 : decode jq_Mo_init.2.1 4 = .ok (.aload_n 0, 1) := by decide +kernel
theorem jd_Mo_init_5 : decode jq_Mo_init.2.1 5 = .ok (.bipush 36, 2) := by decide +kernel
theorem jd_Mo_init_7 : decode jq_Mo_init.2.1 7 = .ok (.newarray .boolean, 2) := by decide +kernel
theorem jd_Mo_init_9 : decode jq_Mo_init.2.1 9 = .ok (.putfield 7, 3) := by decide +kernel
theorem jd_Mo_init_12 : decode jq_Mo_init.2.1 12 = .ok (.aload_n 0, 1) := by decide +kernel
theorem jd_Mo_init_13 : decode jq_Mo_init.2.1 13 = .ok (.bipush 10, 2) := by decide +kernel
theorem jd_Mo_init_15 : decode jq_Mo_init.2.1 15 = .ok (.newarray .int, 2) := by decide +kernel
theorem jd_Mo_init_17 : decode jq_Mo_init.2.1 17 = .ok (.putfield 13, 3) := by decide +kernel
theorem jd_Mo_init_20 : decode jq_Mo_init.2.1 20 = .ok (.aload_n 0, 1) := by decide +kernel
theorem jd_Mo_init_21 : decode jq_Mo_init.2.1 21 = .ok (.bipush 10, 2) := by decide +kernel
theorem jd_Mo_init_23 : decode jq_Mo_init.2.1 23 = .ok (.newarray .int, 2) := by decide +kernel
theorem jd_Mo_init_25 : decode jq_Mo_init.2.1 25 = .ok (.putfield 17, 3) := by decide +kernel
theorem jd_Mo_init_28 : decode jq_Mo_init.2.1 28 = .ok (.aload_n 0, 1) := by decide +kernel
theorem jd_Mo_init_29 : decode jq_Mo_init.2.1 29 = .ok (.bipush 10, 2) := by decide +kernel
theorem jd_Mo_init_31 : decode jq_Mo_init.2.1 31 = .ok (.newarray .int, 2) := by decide +kernel
theorem jd_Mo_init_33 : decode jq_Mo_init.2.1 33 = .ok (.putfield 20, 3) := by decide +kernel
theorem jd_Mo_init_36 : decode jq_Mo_init.2.1 36 = .ok (.aload_n 0, 1) := by decide +kernel
theorem jd_Mo_init_37 : decode jq_Mo_init.2.1 37 = .ok (.bipush 10, 2) := by decide +kernel
theorem jd_Mo_init_39 : decode jq_Mo_init.2.1 39 = .ok (.newarray .int, 2) := by decide +kernel
theorem jd_Mo_init_41 : decode jq_Mo_init.2.1 41 = .ok (.putfield 23, 3) := by decide +kernel
theorem jd_Mo_init_44 : decode jq_Mo_init.2.1 44 = .ok (.aload_n 0, 1) := by decide +kernel
theorem jd_Mo_init_45 : decode jq_Mo_init.2.1 45 = .ok (.bipush 10, 2) := by decide +kernel
theorem jd_Mo_init_47 : decode jq_Mo_init.2.1 47 = .ok (.newarray .int, 2) := by decide +kernel
theorem jd_Mo_init_49 : decode jq_Mo_init.2.1 49 = .ok (.putfield 26, 3) := by decide +kernel
theorem jd_Mo_init_52 : decode jq_Mo_init.2.1 52 = .ok (.aload_n 0, 1) := by decide +kernel
theorem jd_Mo_init_53 : decode jq_Mo_init.2.1 53 = .ok (.bipush 30, 2) := by decide +kernel
theorem jd_Mo_init_55 : decode jq_Mo_init.2.1 55 = .ok (.newarray .int, 2) := by decide +kernel
theorem jd_Mo_init_57 : decode jq_Mo_init.2.1 57 = .ok (.putfield 29, 3) := by decide +kernel
theorem jd_Mo_init_60 : decode jq_Mo_init.2.1 60 = .ok (.aload_n 0, 1) := by decide +kernel
theorem jd_Mo_init_61 : decode jq_Mo_init.2.1 61 = .ok (.bipush 30, 2) := by decide +kernel
theorem jd_Mo_init_63 : decode jq_Mo_init.2.1 63 = .ok (.newarray .int, 2) := by decide +kernel
theorem jd_Mo_init_65 : decode jq_Mo_init.2.1 65 = .ok (.putfield 32, 3) := by decide +kernel
theorem jd_Mo_init_68 : decode jq_Mo_init.2.1 68 = .ok (.aload_n 0, 1) := by decide +kernel
theorem jd_Mo_init_69 : decode jq_Mo_init.2.1 69 = .ok (.bipush 30, 2) := by decide +kernel
theorem jd_Mo_init_71 : decode jq_Mo_init.2.1 71 = .ok (.newarray .int, 2) := by decide +kernel
theorem jd_Mo_init_73 : decode jq_Mo_init.2.1 73 = .ok (.putfield 35, 3) := by decide +kernel
theorem jd_Mo_init_76 : decode jq_Mo_init.2.1 76 = .ok (.aload_n 0, 1) := by decide +kernel
theorem jd_Mo_init_77 : decode jq_Mo_init.2.1 77 = .ok (.bipush 8, 2) := by decide +kernel
theorem jd_Mo_init_79 : decode jq_Mo_init.2.1 79 = .ok (.newarray .int, 2) := by decide +kernel
theorem jd_Mo_init_81 : decode jq_Mo_init.2.1 81 = .ok (.putfield 38, 3) := by decide +kernel
theorem jd_Mo_init_84 : decode jq_Mo_init.2.1 84 = .ok (.aload_n 0, 1) := by decide +kernel
theorem jd_Mo_init_85 : decode jq_Mo_init.2.1 85 = .ok (.bipush 8, 2) := by decide +kernel
theorem jd_Mo_init_87 : decode jq_Mo_init.2.1 87 = .ok (.newarray .int, 2) := by decide +kernel
theorem jd_Mo_init_89 : decode jq_Mo_init.2.1 89 = .ok (.putfield 41, 3) := by decide +kernel
theorem jd_Mo_init_92 : decode jq_Mo_init.2.1 92 = .ok (.aload_n 0, 1) := by decide +kernel
theorem jd_Mo_init_93 : decode jq_Mo_init.2.1 93 = .ok (.bipush 8, 2) := by decide +kernel
theorem jd_Mo_init_95 : decode jq_Mo_init.2.1 95 = .ok (.newarray .int, 2) := by decide +kernel
theorem jd_Mo_init_97 : decode jq_Mo_init.2.1 97 = .ok (.putfield 44, 3) := by decide +kernel
theorem jd_Mo_init_100 : decode jq_Mo_init.2.1 100 = .ok (.aload_n 0, 1) := by decide +kernel
theorem jd_Mo_init_101 : decode jq_Mo_init.2.1 101 = .ok (.bipush 8, 2) := by decide +kernel
theorem jd_Mo_init_103 : decode jq_Mo_init.2.1 103 = .ok (.newarray .int, 2) := by decide +kernel
theorem jd_Mo_init_105 : decode jq_Mo_init.2.1 105 = .ok (.putfield 47, 3) := by decide +kernel
theorem jd_Mo_init_108 : decode jq_Mo_init.2.1 108 = .ok (.aload_n 0, 1) := by decide +kernel
theorem jd_Mo_init_109 : decode jq_Mo_init.2.1 109 = .ok (.bipush 30, 2) := by decide +kernel
theorem jd_Mo_init_111 : decode jq_Mo_init.2.1 111 = .ok (.newarray .int, 2) := by decide +kernel
theorem jd_Mo_init_113 : decode jq_Mo_init.2.1 113 = .ok (.putfield 50, 3) := by decide +kernel
theorem jd_Mo_init_116 : decode jq_Mo_init.2.1 116 = .ok (.aload_n 0, 1) := by decide +kernel
theorem jd_Mo_init_117 : decode jq_Mo_init.2.1 117 = .ok (.bipush 30, 2) := by decide +kernel
theorem jd_Mo_init_119 : decode jq_Mo_init.2.1 119 = .ok (.newarray .int, 2) := by decide +kernel
theorem jd_Mo_init_121 : decode jq_Mo_init.2.1 121 = .ok (.putfield 53, 3) := by decide +kernel
theorem jd_Mo_init_124 : decode jq_Mo_init.2.1 124 = .ok (.aload_n 0, 1) := by decide +kernel
theorem jd_Mo_init_125 : decode jq_Mo_init.2.1 125 = .ok (.bipush 30, 2) := by decide +kernel
theorem jd_Mo_init_127 : decode jq_Mo_init.2.1 127 = .ok (.newarray .boolean, 2) := by decide +kernel
theorem jd_Mo_init_129 : decode jq_Mo_init.2.1 129 = .ok (.putfield 56, 3) := by decide +kernel
theorem jd_Mo_init_132 : decode jq_Mo_init.2.1 132 = .ok (.aload_n 0, 1) := by decide +kernel
theorem jd_Mo_init_133 : decode jq_Mo_init.2.1 133 = .ok (.bipush 30, 2) := by decide +kernel
theorem jd_Mo_init_135 : decode jq_Mo_init.2.1 135 = .ok (.newarray .int, 2) := by decide +kernel
theorem jd_Mo_init_137 : decode jq_Mo_init.2.1 137 = .ok (.putfield 59, 3) := by decide +kernel
theorem jd_Mo_init_140 : decode jq_Mo_init.2.1 140 = .ok (.aload_n 0, 1) := by decide +kernel
theorem jd_Mo_init_141 : decode jq_Mo_init.2.1 141 = .ok (.sipush 300, 3) := by decide +kernel
theorem jd_Mo_init_144 : decode jq_Mo_init.2.1 144 = .ok (.newarray .int, 2) := by decide +kernel
theorem jd_Mo_init_146 : decode jq_Mo_init.2.1 146 = .ok (.putfield 62, 3) := by decide +kernel
theorem jd_Mo_init_149 : decode jq_Mo_init.2.1 149 = .ok (.aload_n 0, 1) := by decide +kernel
theorem jd_Mo_init_150 : decode jq_Mo_init.2.1 150 = .ok (.sipush 300, 3) := by decide +kernel
theorem jd_Mo_init_153 : decode jq_Mo_init.2.1 153 = .ok (.newarray .int, 2) := by decide +kernel
theorem jd_Mo_init_155 : decode jq_Mo_init.2.1 155 = .ok (.putfield 65, 3) := by decide +kernel
theorem jd_Mo_init_158 : decode jq_Mo_init.2.1 158 = .ok (.aload_n 0, 1) := by decide +kernel
theorem jd_Mo_init_159 : decode jq_Mo_init.2.1 159 = .ok (.sipush 300, 3) := by decide +kernel
theorem jd_Mo_init_162 : decode jq_Mo_init.2.1 162 = .ok (.newarray .boolean, 2) := by decide +kernel
theorem jd_Mo_init_164 : decode jq_Mo_init.2.1 164 = .ok (.putfield 68, 3) := by decide +kernel
theorem jd_Mo_init_167 : decode jq_Mo_init.2.1 167 = .ok (.aload_n 0, 1) := by decide +kernel
theorem jd_Mo_init_168 : decode jq_Mo_init.2.1 168 = .ok (.sipush 300, 3) := by decide +kernel
theorem jd_Mo_init_171 : decode jq_Mo_init.2.1 171 = .ok (.newarray .boolean, 2) := by decide +kernel
theorem jd_Mo_init_173 : decode jq_Mo_init.2.1 173 = .ok (.putfield 71, 3) := by decide +kernel
theorem jd_Mo_init_176 : decode jq_Mo_init.2.1 176 = .ok (.aload_n 0, 1) := by decide +kernel
theorem jd_Mo_init_177 : decode jq_Mo_init.2.1 177 = .ok (.sipush 900, 3) := by decide +kernel
theorem jd_Mo_init_180 : decode jq_Mo_init.2.1 180 = .ok (.newarray .int, 2) := by decide +kernel
theorem jd_Mo_init_182 : decode jq_Mo_init.2.1 182 = .ok (.putfield 74, 3) := by decide +kernel
theorem jd_Mo_init_185 : decode jq_Mo_init.2.1 185 = .ok (.aload_n 0, 1) := by decide +kernel
theorem jd_Mo_init_186 : decode jq_Mo_init.2.1 186 = .ok (.sipush 300, 3) := by decide +kernel
theorem jd_Mo_init_189 : decode jq_Mo_init.2.1 189 = .ok (.newarray .int, 2) := by decide +kernel
theorem jd_Mo_init_191 : decode jq_Mo_init.2.1 191 = .ok (.putfield 77, 3) := by decide +kernel
theorem jd_Mo_init_194 : decode jq_Mo_init.2.1 194 = .ok (.aload_n 0, 1) := by decide +kernel
theorem jd_Mo_init_195 : decode jq_Mo_init.2.1 195 = .ok (.sipush 300, 3) := by decide +kernel
theorem jd_Mo_init_198 : decode jq_Mo_init.2.1 198 = .ok (.newarray .int, 2) := by decide +kernel
theorem jd_Mo_init_200 : decode jq_Mo_init.2.1 200 = .ok (.putfield 80, 3) := by decide +kernel
theorem jd_Mo_init_203 : decode jq_Mo_init.2.1 203 = .ok (.aload_n 0, 1) := by decide +kernel
theorem jd_Mo_init_204 : decode jq_Mo_init.2.1 204 = .ok (.sipush 300, 3) := by decide +kernel
theorem jd_Mo_init_207 : decode jq_Mo_init.2.1 207 = .ok (.newarray .int, 2) := by decide +kernel
theorem jd_Mo_init_209 : decode jq_Mo_init.2.1 209 = .ok (.putfield 83, 3) := by decide +kernel
theorem jd_Mo_init_212 : decode jq_Mo_init.2.1 212 = .ok (.aload_n 0, 1) := by decide +kernel
theorem jd_Mo_init_213 : decode jq_Mo_init.2.1 213 = .ok (.bipush 32, 2) := by decide +kernel
theorem jd_Mo_init_215 : decode jq_Mo_init.2.1 215 = .ok (.newarray .int, 2) := by decide +kernel
theorem jd_Mo_init_217 : decode jq_Mo_init.2.1 217 = .ok (.putfield 86, 3) := by decide +kernel
theorem jd_Mo_init_220 : decode jq_Mo_init.2.1 220 = .ok (.aload_n 0, 1) := by decide +kernel
theorem jd_Mo_init_221 : decode jq_Mo_init.2.1 221 = .ok (.bipush 32, 2) := by decide +kernel
theorem jd_Mo_init_223 : decode jq_Mo_init.2.1 223 = .ok (.newarray .int, 2) := by decide +kernel
theorem jd_Mo_init_225 : decode jq_Mo_init.2.1 225 = .ok (.putfield 89, 3) := by decide +kernel
theorem jd_Mo_init_228 : decode jq_Mo_init.2.1 228 = .ok (.aload_n 0, 1) := by decide +kernel
theorem jd_Mo_init_229 : decode jq_Mo_init.2.1 229 = .ok (.bipush 32, 2) := by decide +kernel
theorem jd_Mo_init_231 : decode jq_Mo_init.2.1 231 = .ok (.newarray .int, 2) := by decide +kernel
theorem jd_Mo_init_233 : decode jq_Mo_init.2.1 233 = .ok (.putfield 92, 3) := by decide +kernel
theorem jd_Mo_init_236 : decode jq_Mo_init.2.1 236 = .ok (.aload_n 0, 1) := by decide +kernel
theorem jd_Mo_init_237 : decode jq_Mo_init.2.1 237 = .ok (.bipush 96, 2) := by decide +kernel
theorem jd_Mo_init_239 : decode jq_Mo_init.2.1 239 = .ok (.newarray .int, 2) := by decide +kernel
theorem jd_Mo_init_241 : decode jq_Mo_init.2.1 241 = .ok (.putfield 95, 3) := by decide +kernel
theorem jd_Mo_init_244 : decode jq_Mo_init.2.1 244 = .ok (.aload_n 0, 1) := by decide +kernel
theorem jd_Mo_init_245 : decode jq_Mo_init.2.1 245 = .ok (.bipush 32, 2) := by decide +kernel
theorem jd_Mo_init_247 : decode jq_Mo_init.2.1 247 = .ok (.newarray .int, 2) := by decide +kernel
theorem jd_Mo_init_249 : decode jq_Mo_init.2.1 249 = .ok (.putfield 98, 3) := by decide +kernel
theorem jd_Mo_init_252 : decode jq_Mo_init.2.1 252 = .ok (.aload_n 0, 1) := by decide +kernel
theorem jd_Mo_init_253 : decode jq_Mo_init.2.1 253 = .ok (.iload_n 1, 1) := by decide +kernel
theorem jd_Mo_init_254 : decode jq_Mo_init.2.1 254 = .ok (.iconst 3, 1) := by decide +kernel
theorem jd_Mo_init_255 : decode jq_Mo_init.2.1 255 = .ok (.if_icmp .ge 7, 3) := by decide +kernel
theorem jd_Mo_init_258 : decode jq_Mo_init.2.1 258 = .ok (.iconst 3, 1) := by decide +kernel
theorem jd_Mo_init_259 : decode jq_Mo_init.2.1 259 = .ok (.goto 15, 3) := by decide +kernel
theorem jd_Mo_init_262 : decode jq_Mo_init.2.1 262 = .ok (.iload_n 1, 1) := by decide +kernel
theorem jd_Mo_init_263 : decode jq_Mo_init.2.1 263 = .ok (.bipush 6, 2) := by decide +kernel
theorem jd_Mo_init_265 : decode jq_Mo_init.2.1 265 = .ok (.if_icmp .le 8, 3) := by decide +kernel
theorem jd_Mo_init_268 : decode jq_Mo_init.2.1 268 = .ok (.bipush 6, 2) := by decide +kernel
theorem jd_Mo_init_270 : decode jq_Mo_init.2.1 270 = .ok (.goto 4, 3) := by decide +kernel
theorem jd_Mo_init_273 : decode jq_Mo_init.2.1 273 = .ok (.iload_n 1, 1) := by decide +kernel
theorem jd_Mo_init_274 : decode jq_Mo_init.2.1 274 = .ok (.putfield 101, 3) := by decide +kernel
theorem jd_Mo_init_277 : decode jq_Mo_init.2.1 277 = .ok (.return_, 1) := by decide +kernel
theorem jd_Mo_cached_0 : decode jq_Mo_cached.2.1 0 = .ok (.iload_n 1, 1) := by decide +kernel
theorem jd_Mo_cached_1 : decode jq_Mo_cached.2.1 1 = .ok (.ifCond .ge 5, 3) := by decide +kernel
theorem jd_Mo_cached_4 : decode jq_Mo_cached.2.1 4 = .ok (.iconst (-1), 1) := by decide +kernel
theorem jd_Mo_cached_5 : decode jq_Mo_cached.2.1 5 = .ok (.ireturn, 1) := by decide +kernel
theorem jd_Mo_cached_6 : decode jq_Mo_cached.2.1 6 = .ok (.iconst 0, 1) := by decide +kernel
theorem jd_Mo_cached_7 : decode jq_Mo_cached.2.1 7 = .ok (.istore_n 2, 1) := by decide +kernel
theorem jd_Mo_cached_8 : decode jq_Mo_cached.2.1 8 = .ok (.iload_n 2, 1) := by decide +kernel
theorem jd_Mo_cached_9 : decode jq_Mo_cached.2.1 9 = .ok (.aload_n 0, 1) := by decide +kernel
theorem jd_Mo_cached_10 : decode jq_Mo_cached.2.1 10 = .ok (.getfield 169, 3) := by decide +kernel
theorem jd_Mo_cached_13 : decode jq_Mo_cached.2.1 13 = .ok (.if_icmp .ge 79, 3) := by decide +kernel
theorem jd_Mo_cached_16 : decode jq_Mo_cached.2.1 16 = .ok (.iconst 0, 1) := by decide +kernel
theorem jd_Mo_cached_17 : decode jq_Mo_cached.2.1 17 = .ok (.istore_n 3, 1) := by decide +kernel
theorem jd_Mo_cached_18 : decode jq_Mo_cached.2.1 18 = .ok (.iconst 0, 1) := by decide +kernel
theorem jd_Mo_cached_19 : decode jq_Mo_cached.2.1 19 = .ok (.istore 4, 2) := by decide +kernel
theorem jd_Mo_cached_21 : decode jq_Mo_cached.2.1 21 = .ok (.iload 4, 2) := by decide +kernel
theorem jd_Mo_cached_23 : decode jq_Mo_cached.2.1 23 = .ok (.aload_n 0, 1) := by decide +kernel
theorem jd_Mo_cached_24 : decode jq_Mo_cached.2.1 24 = .ok (.getfield 169, 3) := by decide +kernel
theorem jd_Mo_cached_27 : decode jq_Mo_cached.2.1 27 = .ok (.if_icmp .ge 43, 3) := by decide +kernel
theorem jd_Mo_cached_30 : decode jq_Mo_cached.2.1 30 = .ok (.aload_n 0, 1) := by decide +kernel
theorem jd_Mo_cached_31 : decode jq_Mo_cached.2.1 31 = .ok (.getfield 56, 3) := by decide +kernel
theorem jd_Mo_cached_34 : decode jq_Mo_cached.2.1 34 = .ok (.iload 4, 2) := by decide +kernel
theorem jd_Mo_cached_36 : decode jq_Mo_cached.2.1 36 = .ok (.baload, 1) := by decide +kernel
theorem jd_Mo_cached_37 : decode jq_Mo_cached.2.1 37 = .ok (.ifCond .eq 25, 3) := by decide +kernel
theorem jd_Mo_cached_40 : decode jq_Mo_cached.2.1 40 = .ok (.aload_n 0, 1) := by decide +kernel
theorem jd_Mo_cached_41 : decode jq_Mo_cached.2.1 41 = .ok (.getfield 59, 3) := by decide +kernel
theorem jd_Mo_cached_44 : decode jq_Mo_cached.2.1 44 = .ok (.iload 4, 2) := by decide +kernel
theorem jd_Mo_cached_46 : decode jq_Mo_cached.2.1 46 = .ok (.iaload, 1) := by decide +kernel
theorem jd_Mo_cached_47 : decode jq_Mo_cached.2.1 47 = .ok (.aload_n 0, 1) := by decide +kernel
theorem jd_Mo_cached_48 : decode jq_Mo_cached.2.1 48 = .ok (.getfield 59, 3) := by decide +kernel
theorem jd_Mo_cached_51 : decode jq_Mo_cached.2.1 51 = .ok (.iload_n 2, 1) := by decide +kernel
theorem jd_Mo_cached_52 : decode jq_Mo_cached.2.1 52 = .ok (.iaload, 1) := by decide +kernel
theorem jd_Mo_cached_53 : decode jq_Mo_cached.2.1 53 = .ok (.if_icmp .le 9, 3) := by decide +kernel
theorem jd_Mo_cached_56 : decode jq_Mo_cached.2.1 56 = .ok (.iload_n 3, 1) := by decide +kernel
theorem jd_Mo_cached_57 : decode jq_Mo_cached.2.1 57 = .ok (.iconst 1, 1) := by decide +kernel
theorem jd_Mo_cached_58 : decode jq_Mo_cached.2.1 58 = .ok (.iadd, 1) := by decide +kernel
theorem jd_Mo_cached_59 : decode jq_Mo_cached.2.1 59 = .ok (.goto 4, 3) := by decide +kernel
theorem jd_Mo_cached_62 : decode jq_Mo_cached.2.1 62 = .ok (.iload_n 3, 1) := by decide +kernel
theorem jd_Mo_cached_63 : decode jq_Mo_cached.2.1 63 = .ok (.istore_n 3, 1) := by decide +kernel
theorem jd_Mo_cached_64 : decode jq_Mo_cached.2.1 64 = .ok (.iinc 4 1, 3) := by decide +kernel
theorem jd_Mo_cached_67 : decode jq_Mo_cached.2.1 67 = .ok (.goto (-46), 3) := by decide +kernel
theorem jd_Mo_cached_70 : decode jq_Mo_cached.2.1 70 = .ok (.aload_n 0, 1) := by decide +kernel
theorem jd_Mo_cached_71 : decode jq_Mo_cached.2.1 71 = .ok (.getfield 56, 3) := by decide +kernel
theorem jd_Mo_cached_74 : decode jq_Mo_cached.2.1 74 = .ok (.iload_n 2, 1) := by decide +kernel
theorem jd_Mo_cached_75 : decode jq_Mo_cached.2.1 75 = .ok (.baload, 1) := by decide +kernel
theorem jd_Mo_cached_76 : decode jq_Mo_cached.2.1 76 = .ok (.ifCond .eq 10, 3) := by decide +kernel
theorem jd_Mo_cached_79 : decode jq_Mo_cached.2.1 79 = .ok (.iload_n 3, 1) := by decide +kernel
theorem jd_Mo_cached_80 : decode jq_Mo_cached.2.1 80 = .ok (.iload_n 1, 1) := by decide +kernel
theorem jd_Mo_cached_81 : decode jq_Mo_cached.2.1 81 = .ok (.if_icmp .ne 5, 3) := by decide +kernel
theorem jd_Mo_cached_84 : decode jq_Mo_cached.2.1 84 = .ok (.iload_n 2, 1) := by decide +kernel
theorem jd_Mo_cached_85 : decode jq_Mo_cached.2.1 85 = .ok (.ireturn, 1) := by decide +kernel
theorem jd_Mo_cached_86 : decode jq_Mo_cached.2.1 86 = .ok (.iinc 2 1, 3) := by decide +kernel
theorem jd_Mo_cached_89 : decode jq_Mo_cached.2.1 89 = .ok (.goto (-81), 3) := by decide +kernel
theorem jd_Mo_cached_92 : decode jq_Mo_cached.2.1 92 = .ok (.iconst (-1), 1) := by decide +kernel
theorem jd_Mo_cached_93 : decode jq_Mo_cached.2.1 93 = .ok (.ireturn, 1) := by decide +kernel
theorem jd_Mo_in_0 : decode jq_Mo_in.2.1 0 = .ok (.iload_n 0, 1) := by decide +kernel
theorem jd_Mo_in_1 : decode jq_Mo_in.2.1 1 = .ok (.iload_n 1, 1) := by decide +kernel
theorem jd_Mo_in_2 : decode jq_Mo_in.2.1 2 = .ok (.if_icmp .lt 12, 3) := by decide +kernel
theorem jd_Mo_in_5 : decode jq_Mo_in.2.1 5 = .ok (.iload_n 0, 1) := by decide +kernel
theorem jd_Mo_in_6 : decode jq_Mo_in.2.1 6 = .ok (.iload_n 2, 1) := by decide +kernel
theorem jd_Mo_in_7 : decode jq_Mo_in.2.1 7 = .ok (.if_icmp .gt 7, 3) := by decide +kernel
theorem jd_Mo_in_10 : decode jq_Mo_in.2.1 10 = .ok (.iconst 1, 1) := by decide +kernel
theorem jd_Mo_in_11 : decode jq_Mo_in.2.1 11 = .ok (.goto 4, 3) := by decide +kernel
theorem jd_Mo_in_14 : decode jq_Mo_in.2.1 14 = .ok (.iconst 0, 1) := by decide +kernel
theorem jd_Mo_in_15 : decode jq_Mo_in.2.1 15 = .ok (.ireturn, 1) := by decide +kernel
theorem jd_Mo_live_0 : decode jq_Mo_live.2.1 0 = .ok (.iload_n 1, 1) := by decide +kernel
theorem jd_Mo_live_1 : decode jq_Mo_live.2.1 1 = .ok (.iconst 0, 1) := by decide +kernel
theorem jd_Mo_live_2 : decode jq_Mo_live.2.1 2 = .ok (.aload_n 0, 1) := by decide +kernel
theorem jd_Mo_live_3 : decode jq_Mo_live.2.1 3 = .ok (.getfield 135, 3) := by decide +kernel
theorem jd_Mo_live_6 : decode jq_Mo_live.2.1 6 = .ok (.iconst 1, 1) := by decide +kernel
theorem jd_Mo_live_7 : decode jq_Mo_live.2.1 7 = .ok (.isub, 1) := by decide +kernel
theorem jd_Mo_live_8 : decode jq_Mo_live.2.1 8 = .ok (.invokestatic 108, 3) := by decide +kernel
theorem jd_Mo_live_11 : decode jq_Mo_live.2.1 11 = .ok (.ifCond .eq 16, 3) := by decide +kernel
theorem jd_Mo_live_14 : decode jq_Mo_live.2.1 14 = .ok (.aload_n 0, 1) := by decide +kernel
theorem jd_Mo_live_15 : decode jq_Mo_live.2.1 15 = .ok (.getfield 71, 3) := by decide +kernel
theorem jd_Mo_live_18 : decode jq_Mo_live.2.1 18 = .ok (.iload_n 1, 1) := by decide +kernel
theorem jd_Mo_live_19 : decode jq_Mo_live.2.1 19 = .ok (.baload, 1) := by decide +kernel
theorem jd_Mo_live_20 : decode jq_Mo_live.2.1 20 = .ok (.ifCond .ne 7, 3) := by decide +kernel
theorem jd_Mo_live_23 : decode jq_Mo_live.2.1 23 = .ok (.iconst 1, 1) := by decide +kernel
theorem jd_Mo_live_24 : decode jq_Mo_live.2.1 24 = .ok (.goto 4, 3) := by decide +kernel
theorem jd_Mo_live_27 : decode jq_Mo_live.2.1 27 = .ok (.iconst 0, 1) := by decide +kernel
theorem jd_Mo_live_28 : decode jq_Mo_live.2.1 28 = .ok (.ireturn, 1) := by decide +kernel
theorem jd_Mo_call_0 : decode jq_Mo_call.2.1 0 = .ok (.aload_n 0, 1) := by decide +kernel
theorem jd_Mo_call_1 : decode jq_Mo_call.2.1 1 = .ok (.iload_n 1, 1) := by decide +kernel
theorem jd_Mo_call_2 : decode jq_Mo_call.2.1 2 = .ok (.invokevirtual 230, 3) := by decide +kernel
theorem jd_Mo_call_5 : decode jq_Mo_call.2.1 5 = .ok (.ifCond .ne 7, 3) := by decide +kernel
theorem jd_Mo_call_8 : decode jq_Mo_call.2.1 8 = .ok (.ldc2_w 233, 3) := by decide +kernel
theorem jd_Mo_call_11 : decode jq_Mo_call.2.1 11 = .ok (.lreturn, 1) := by decide +kernel
theorem jd_Mo_call_12 : decode jq_Mo_call.2.1 12 = .ok (.iload_n 1, 1) := by decide +kernel
theorem jd_Mo_call_13 : decode jq_Mo_call.2.1 13 = .ok (.istore_n 3, 1) := by decide +kernel
theorem jd_Mo_call_14 : decode jq_Mo_call.2.1 14 = .ok (.iload_n 2, 1) := by decide +kernel
theorem jd_Mo_call_15 : decode jq_Mo_call.2.1 15 = .ok (.istore 4, 2) := by decide +kernel
theorem jd_Mo_call_17 : decode jq_Mo_call.2.1 17 = .ok (.iconst 0, 1) := by decide +kernel
theorem jd_Mo_call_18 : decode jq_Mo_call.2.1 18 = .ok (.istore 5, 2) := by decide +kernel
theorem jd_Mo_call_20 : decode jq_Mo_call.2.1 20 = .ok (.iconst 0, 1) := by decide +kernel
theorem jd_Mo_call_21 : decode jq_Mo_call.2.1 21 = .ok (.istore 6, 2) := by decide +kernel
theorem jd_Mo_call_23 : decode jq_Mo_call.2.1 23 = .ok (.iload 6, 2) := by decide +kernel
theorem jd_Mo_call_25 : decode jq_Mo_call.2.1 25 = .ok (.sipush 301, 3) := by decide +kernel
theorem jd_Mo_call_28 : decode jq_Mo_call.2.1 28 = .ok (.if_icmp .ge 88, 3) := by decide +kernel
theorem jd_Mo_call_31 : decode jq_Mo_call.2.1 31 = .ok (.aload_n 0, 1) := by decide +kernel
theorem jd_Mo_call_32 : decode jq_Mo_call.2.1 32 = .ok (.getfield 68, 3) := by decide +kernel
theorem jd_Mo_call_35 : decode jq_Mo_call.2.1 35 = .ok (.iload_n 3, 1) := by decide +kernel
theorem jd_Mo_call_36 : decode jq_Mo_call.2.1 36 = .ok (.baload, 1) := by decide +kernel
theorem jd_Mo_call_37 : decode jq_Mo_call.2.1 37 = .ok (.ifCond .eq 32, 3) := by decide +kernel
theorem jd_Mo_call_40 : decode jq_Mo_call.2.1 40 = .ok (.aload_n 0, 1) := by decide +kernel
theorem jd_Mo_call_41 : decode jq_Mo_call.2.1 41 = .ok (.getfield 80, 3) := by decide +kernel
theorem jd_Mo_call_44 : decode jq_Mo_call.2.1 44 = .ok (.iload_n 3, 1) := by decide +kernel
theorem jd_Mo_call_45 : decode jq_Mo_call.2.1 45 = .ok (.dup2, 1) := by decide +kernel
theorem jd_Mo_call_46 : decode jq_Mo_call.2.1 46 = .ok (.iaload, 1) := by decide +kernel
theorem jd_Mo_call_47 : decode jq_Mo_call.2.1 47 = .ok (.iconst 1, 1) := by decide +kernel
theorem jd_Mo_call_48 : decode jq_Mo_call.2.1 48 = .ok (.iadd, 1) := by decide +kernel
theorem jd_Mo_call_49 : decode jq_Mo_call.2.1 49 = .ok (.iastore, 1) := by decide +kernel
theorem jd_Mo_call_50 : decode jq_Mo_call.2.1 50 = .ok (.aload_n 0, 1) := by decide +kernel
theorem jd_Mo_call_51 : decode jq_Mo_call.2.1 51 = .ok (.getfield 83, 3) := by decide +kernel
theorem jd_Mo_call_54 : decode jq_Mo_call.2.1 54 = .ok (.iload_n 3, 1) := by decide +kernel
theorem jd_Mo_call_55 : decode jq_Mo_call.2.1 55 = .ok (.iload 4, 2) := by decide +kernel
theorem jd_Mo_call_57 : decode jq_Mo_call.2.1 57 = .ok (.iastore, 1) := by decide +kernel
theorem jd_Mo_call_58 : decode jq_Mo_call.2.1 58 = .ok (.iload 5, 2) := by decide +kernel
theorem jd_Mo_call_60 : decode jq_Mo_call.2.1 60 = .ok (.aload_n 0, 1) := by decide +kernel
theorem jd_Mo_call_61 : decode jq_Mo_call.2.1 61 = .ok (.getfield 77, 3) := by decide +kernel
theorem jd_Mo_call_64 : decode jq_Mo_call.2.1 64 = .ok (.iload_n 3, 1) := by decide +kernel
theorem jd_Mo_call_65 : decode jq_Mo_call.2.1 65 = .ok (.iaload, 1) := by decide +kernel
theorem jd_Mo_call_66 : decode jq_Mo_call.2.1 66 = .ok (.iadd, 1) := by decide +kernel
theorem jd_Mo_call_67 : decode jq_Mo_call.2.1 67 = .ok (.i2l, 1) := by decide +kernel
theorem jd_Mo_call_68 : decode jq_Mo_call.2.1 68 = .ok (.lreturn, 1) := by decide +kernel
theorem jd_Mo_call_69 : decode jq_Mo_call.2.1 69 = .ok (.iload 5, 2) := by decide +kernel
theorem jd_Mo_call_71 : decode jq_Mo_call.2.1 71 = .ok (.aload_n 0, 1) := by decide +kernel
theorem jd_Mo_call_72 : decode jq_Mo_call.2.1 72 = .ok (.getfield 65, 3) := by decide +kernel
theorem jd_Mo_call_75 : decode jq_Mo_call.2.1 75 = .ok (.iload_n 3, 1) := by decide +kernel
theorem jd_Mo_call_76 : decode jq_Mo_call.2.1 76 = .ok (.iaload, 1) := by decide +kernel
theorem jd_Mo_call_77 : decode jq_Mo_call.2.1 77 = .ok (.iadd, 1) := by decide +kernel
theorem jd_Mo_call_78 : decode jq_Mo_call.2.1 78 = .ok (.istore 5, 2) := by decide +kernel
theorem jd_Mo_call_80 : decode jq_Mo_call.2.1 80 = .ok (.aload_n 0, 1) := by decide +kernel
theorem jd_Mo_call_81 : decode jq_Mo_call.2.1 81 = .ok (.getfield 74, 3) := by decide +kernel
theorem jd_Mo_call_84 : decode jq_Mo_call.2.1 84 = .ok (.iconst 3, 1) := by decide +kernel
theorem jd_Mo_call_85 : decode jq_Mo_call.2.1 85 = .ok (.iload_n 3, 1) := by decide +kernel
theorem jd_Mo_call_86 : decode jq_Mo_call.2.1 86 = .ok (.imul, 1) := by decide +kernel
theorem jd_Mo_call_87 : decode jq_Mo_call.2.1 87 = .ok (.iaload, 1) := by decide +kernel
theorem jd_Mo_call_88 : decode jq_Mo_call.2.1 88 = .ok (.ifCond .ge 10, 3) := by decide +kernel
theorem jd_Mo_call_91 : decode jq_Mo_call.2.1 91 = .ok (.iload 5, 2) := by decide +kernel
theorem jd_Mo_call_93 : decode jq_Mo_call.2.1 93 = .ok (.iload 4, 2) := by decide +kernel
theorem jd_Mo_call_95 : decode jq_Mo_call.2.1 95 = .ok (.iadd, 1) := by decide +kernel
theorem jd_Mo_call_96 : decode jq_Mo_call.2.1 96 = .ok (.i2l, 1) := by decide +kernel
theorem jd_Mo_call_97 : decode jq_Mo_call.2.1 97 = .ok (.lreturn, 1) := by decide +kernel
theorem jd_Mo_call_98 : decode jq_Mo_call.2.1 98 = .ok (.aload_n 0, 1) := by decide +kernel
theorem jd_Mo_call_99 : decode jq_Mo_call.2.1 99 = .ok (.getfield 74, 3) := by decide +kernel
theorem jd_Mo_call_102 : decode jq_Mo_call.2.1 102 = .ok (.iconst 3, 1) := by decide +kernel
theorem jd_Mo_call_103 : decode jq_Mo_call.2.1 103 = .ok (.iload_n 3, 1) := by decide +kernel
theorem jd_Mo_call_104 : decode jq_Mo_call.2.1 104 = .ok (.imul, 1) := by decide +kernel
theorem jd_Mo_call_105 : decode jq_Mo_call.2.1 105 = .ok (.iaload, 1) := by decide +kernel
theorem jd_Mo_call_106 : decode jq_Mo_call.2.1 106 = .ok (.istore_n 3, 1) := by decide +kernel
theorem jd_Mo_call_107 : decode jq_Mo_call.2.1 107 = .ok (.iinc 4 1, 3) := by decide +kernel
theorem jd_Mo_call_110 : decode jq_Mo_call.2.1 110 = .ok (.iinc 6 1, 3) := by decide +kernel
theorem jd_Mo_call_113 : decode jq_Mo_call.2.1 113 = .ok (.goto (-90), 3) := by decide +kernel
theorem jd_Mo_call_116 : decode jq_Mo_call.2.1 116 = .ok (.ldc2_w 233, 3) := by decide +kernel
theorem jd_Mo_call_119 : decode jq_Mo_call.2.1 119 = .ok (.lreturn, 1) := by decide +kernel
theorem jd_Mo_isConfiguration_0 : decode jq_Mo_isConfiguration.2.1 0 = .ok (.iload_n 1, 1) := by decide +kernel
theorem jd_Mo_isConfiguration_1 : decode jq_Mo_isConfiguration.2.1 1 = .ok (.iconst 0, 1) := by decide +kernel
theorem jd_Mo_isConfiguration_2 : decode jq_Mo_isConfiguration.2.1 2 = .ok (.aload_n 0, 1) := by decide +kernel
theorem jd_Mo_isConfiguration_3 : decode jq_Mo_isConfiguration.2.1 3 = .ok (.getfield 116, 3) := by decide +kernel
theorem jd_Mo_isConfiguration_6 : decode jq_Mo_isConfiguration.2.1 6 = .ok (.iconst 1, 1) := by decide +kernel
theorem jd_Mo_isConfiguration_7 : decode jq_Mo_isConfiguration.2.1 7 = .ok (.isub, 1) := by decide +kernel
theorem jd_Mo_isConfiguration_8 : decode jq_Mo_isConfiguration.2.1 8 = .ok (.invokestatic 108, 3) := by decide +kernel
theorem jd_Mo_isConfiguration_11 : decode jq_Mo_isConfiguration.2.1 11 = .ok (.ireturn, 1) := by decide +kernel
theorem jd_Mo_configure_0 : decode jq_Mo_configure.2.1 0 = .ok (.iload_n 3, 1) := by decide +kernel
theorem jd_Mo_configure_1 : decode jq_Mo_configure.2.1 1 = .ok (.iconst (-1), 1) := by decide +kernel
theorem jd_Mo_configure_2 : decode jq_Mo_configure.2.1 2 = .ok (.if_icmp .eq 34, 3) := by decide +kernel
theorem jd_Mo_configure_5 : decode jq_Mo_configure.2.1 5 = .ok (.aload_n 0, 1) := by decide +kernel
theorem jd_Mo_configure_6 : decode jq_Mo_configure.2.1 6 = .ok (.iload_n 3, 1) := by decide +kernel
theorem jd_Mo_configure_7 : decode jq_Mo_configure.2.1 7 = .ok (.invokevirtual 125, 3) := by decide +kernel
theorem jd_Mo_configure_10 : decode jq_Mo_configure.2.1 10 = .ok (.ifCond .eq 30, 3) := by decide +kernel
theorem jd_Mo_configure_13 : decode jq_Mo_configure.2.1 13 = .ok (.aload_n 0, 1) := by decide +kernel
theorem jd_Mo_configure_14 : decode jq_Mo_configure.2.1 14 = .ok (.getfield 44, 3) := by decide +kernel
theorem jd_Mo_configure_17 : decode jq_Mo_configure.2.1 17 = .ok (.iload_n 3, 1) := by decide +kernel
theorem jd_Mo_configure_18 : decode jq_Mo_configure.2.1 18 = .ok (.iaload, 1) := by decide +kernel
theorem jd_Mo_configure_19 : decode jq_Mo_configure.2.1 19 = .ok (.ifCond .lt 17, 3) := by decide +kernel
theorem jd_Mo_configure_22 : decode jq_Mo_configure.2.1 22 = .ok (.aload_n 0, 1) := by decide +kernel
theorem jd_Mo_configure_23 : decode jq_Mo_configure.2.1 23 = .ok (.getfield 44, 3) := by decide +kernel
theorem jd_Mo_configure_26 : decode jq_Mo_configure.2.1 26 = .ok (.aload_n 0, 1) := by decide +kernel
theorem jd_Mo_configure_27 : decode jq_Mo_configure.2.1 27 = .ok (.getfield 44, 3) := by decide +kernel
theorem jd_Mo_configure_30 : decode jq_Mo_configure.2.1 30 = .ok (.iload_n 3, 1) := by decide +kernel
theorem jd_Mo_configure_31 : decode jq_Mo_configure.2.1 31 = .ok (.iaload, 1) := by decide +kernel
theorem jd_Mo_configure_32 : decode jq_Mo_configure.2.1 32 = .ok (.iaload, 1) := by decide +kernel
theorem jd_Mo_configure_33 : decode jq_Mo_configure.2.1 33 = .ok (.ifCond .ge 7, 3) := by decide +kernel
theorem jd_Mo_configure_36 : decode jq_Mo_configure.2.1 36 = .ok (.iconst 1, 1) := by decide +kernel
theorem jd_Mo_configure_37 : decode jq_Mo_configure.2.1 37 = .ok (.goto 4, 3) := by decide +kernel
theorem jd_Mo_configure_40 : decode jq_Mo_configure.2.1 40 = .ok (.iconst 0, 1) := by decide +kernel
theorem jd_Mo_configure_41 : decode jq_Mo_configure.2.1 41 = .ok (.istore 5, 2) := by decide +kernel
theorem jd_Mo_configure_43 : decode jq_Mo_configure.2.1 43 = .ok (.iload_n 2, 1) := by decide +kernel
theorem jd_Mo_configure_44 : decode jq_Mo_configure.2.1 44 = .ok (.iconst 0, 1) := by decide +kernel
theorem jd_Mo_configure_45 : decode jq_Mo_configure.2.1 45 = .ok (.iconst 3, 1) := by decide +kernel
theorem jd_Mo_configure_46 : decode jq_Mo_configure.2.1 46 = .ok (.invokestatic 108, 3) := by decide +kernel
theorem jd_Mo_configure_49 : decode jq_Mo_configure.2.1 49 = .ok (.ifCond .eq 17, 3) := by decide +kernel
theorem jd_Mo_configure_52 : decode jq_Mo_configure.2.1 52 = .ok (.iload 5, 2) := by decide +kernel
theorem jd_Mo_configure_54 : decode jq_Mo_configure.2.1 54 = .ok (.ifCond .eq 12, 3) := by decide +kernel
theorem jd_Mo_configure_57 : decode jq_Mo_configure.2.1 57 = .ok (.aload_n 0, 1) := by decide +kernel
theorem jd_Mo_configure_58 : decode jq_Mo_configure.2.1 58 = .ok (.getfield 116, 3) := by decide +kernel
theorem jd_Mo_configure_61 : decode jq_Mo_configure.2.1 61 = .ok (.bipush 8, 2) := by decide +kernel
theorem jd_Mo_configure_63 : decode jq_Mo_configure.2.1 63 = .ok (.if_icmp .ne 5, 3) := by decide +kernel
theorem jd_Mo_configure_66 : decode jq_Mo_configure.2.1 66 = .ok (.iconst (-1), 1) := by decide +kernel
theorem jd_Mo_configure_67 : decode jq_Mo_configure.2.1 67 = .ok (.ireturn, 1) := by decide +kernel
theorem jd_Mo_configure_68 : decode jq_Mo_configure.2.1 68 = .ok (.iconst 0, 1) := by decide +kernel
theorem jd_Mo_configure_69 : decode jq_Mo_configure.2.1 69 = .ok (.istore 6, 2) := by decide +kernel
theorem jd_Mo_configure_71 : decode jq_Mo_configure.2.1 71 = .ok (.iconst 0, 1) := by decide +kernel
theorem jd_Mo_configure_72 : decode jq_Mo_configure.2.1 72 = .ok (.istore 7, 2) := by decide +kernel
theorem jd_Mo_configure_74 : decode jq_Mo_configure.2.1 74 = .ok (.iload 7, 2) := by decide +kernel
theorem jd_Mo_configure_76 : decode jq_Mo_configure.2.1 76 = .ok (.aload_n 0, 1) := by decide +kernel
theorem jd_Mo_configure_77 : decode jq_Mo_configure.2.1 77 = .ok (.getfield 119, 3) := by decide +kernel
theorem jd_Mo_configure_80 : decode jq_Mo_configure.2.1 80 = .ok (.if_icmp .ge 66, 3) := by decide +kernel
theorem jd_Mo_configure_83 : decode jq_Mo_configure.2.1 83 = .ok (.iload_n 1, 1) := by decide +kernel
theorem jd_Mo_configure_84 : decode jq_Mo_configure.2.1 84 = .ok (.iload 7, 2) := by decide +kernel
theorem jd_Mo_configure_86 : decode jq_Mo_configure.2.1 86 = .ok (.ishr, 1) := by decide +kernel
theorem jd_Mo_configure_87 : decode jq_Mo_configure.2.1 87 = .ok (.iconst 1, 1) := by decide +kernel
theorem jd_Mo_configure_88 : decode jq_Mo_configure.2.1 88 = .ok (.iand, 1) := by decide +kernel
theorem jd_Mo_configure_89 : decode jq_Mo_configure.2.1 89 = .ok (.iconst 1, 1) := by decide +kernel
theorem jd_Mo_configure_90 : decode jq_Mo_configure.2.1 90 = .ok (.if_icmp .ne 28, 3) := by decide +kernel
theorem jd_Mo_configure_93 : decode jq_Mo_configure.2.1 93 = .ok (.aload_n 0, 1) := by decide +kernel
theorem jd_Mo_configure_94 : decode jq_Mo_configure.2.1 94 = .ok (.getfield 23, 3) := by decide +kernel
theorem jd_Mo_configure_97 : decode jq_Mo_configure.2.1 97 = .ok (.iload 7, 2) := by decide +kernel
theorem jd_Mo_configure_99 : decode jq_Mo_configure.2.1 99 = .ok (.iaload, 1) := by decide +kernel
theorem jd_Mo_configure_100 : decode jq_Mo_configure.2.1 100 = .ok (.ifCond .eq 14, 3) := by decide +kernel
theorem jd_Mo_configure_103 : decode jq_Mo_configure.2.1 103 = .ok (.aload_n 0, 1) := by decide +kernel
theorem jd_Mo_configure_104 : decode jq_Mo_configure.2.1 104 = .ok (.getfield 23, 3) := by decide +kernel
theorem jd_Mo_configure_107 : decode jq_Mo_configure.2.1 107 = .ok (.iload 7, 2) := by decide +kernel
theorem jd_Mo_configure_109 : decode jq_Mo_configure.2.1 109 = .ok (.iaload, 1) := by decide +kernel
theorem jd_Mo_configure_110 : decode jq_Mo_configure.2.1 110 = .ok (.iload_n 2, 1) := by decide +kernel
theorem jd_Mo_configure_111 : decode jq_Mo_configure.2.1 111 = .ok (.if_icmp .ne 7, 3) := by decide +kernel
theorem jd_Mo_configure_114 : decode jq_Mo_configure.2.1 114 = .ok (.iconst 1, 1) := by decide +kernel
theorem jd_Mo_configure_115 : decode jq_Mo_configure.2.1 115 = .ok (.goto 4, 3) := by decide +kernel
theorem jd_Mo_configure_118 : decode jq_Mo_configure.2.1 118 = .ok (.iconst 0, 1) := by decide +kernel
theorem jd_Mo_configure_119 : decode jq_Mo_configure.2.1 119 = .ok (.istore 8, 2) := by decide +kernel
theorem jd_Mo_configure_121 : decode jq_Mo_configure.2.1 121 = .ok (.iload 8, 2) := by decide +kernel
theorem jd_Mo_configure_123 : decode jq_Mo_configure.2.1 123 = .ok (.ifCond .eq 13, 3) := by decide +kernel
theorem jd_Mo_configure_126 : decode jq_Mo_configure.2.1 126 = .ok (.iload 6, 2) := by decide +kernel
theorem jd_Mo_configure_128 : decode jq_Mo_configure.2.1 128 = .ok (.iconst 1, 1) := by decide +kernel
theorem jd_Mo_configure_129 : decode jq_Mo_configure.2.1 129 = .ok (.iload 7, 2) := by decide +kernel
theorem jd_Mo_configure_131 : decode jq_Mo_configure.2.1 131 = .ok (.ishl, 1) := by decide +kernel
theorem jd_Mo_configure_132 : decode jq_Mo_configure.2.1 132 = .ok (.ior, 1) := by decide +kernel
theorem jd_Mo_configure_133 : decode jq_Mo_configure.2.1 133 = .ok (.goto 5, 3) := by decide +kernel
theorem jd_Mo_configure_136 : decode jq_Mo_configure.2.1 136 = .ok (.iload 6, 2) := by decide +kernel
theorem jd_Mo_configure_138 : decode jq_Mo_configure.2.1 138 = .ok (.istore 6, 2) := by decide +kernel
theorem jd_Mo_configure_140 : decode jq_Mo_configure.2.1 140 = .ok (.iinc 7 1, 3) := by decide +kernel
theorem jd_Mo_configure_143 : decode jq_Mo_configure.2.1 143 = .ok (.goto (-69), 3) := by decide +kernel
theorem jd_Mo_configure_146 : decode jq_Mo_configure.2.1 146 = .ok (.aload_n 0, 1) := by decide +kernel
theorem jd_Mo_configure_147 : decode jq_Mo_configure.2.1 147 = .ok (.getfield 38, 3) := by decide +kernel
theorem jd_Mo_configure_150 : decode jq_Mo_configure.2.1 150 = .ok (.aload_n 0, 1) := by decide +kernel
theorem jd_Mo_configure_151 : decode jq_Mo_configure.2.1 151 = .ok (.getfield 116, 3) := by decide +kernel
theorem jd_Mo_configure_154 : decode jq_Mo_configure.2.1 154 = .ok (.iload 6, 2) := by decide +kernel
theorem jd_Mo_configure_156 : decode jq_Mo_configure.2.1 156 = .ok (.iastore, 1) := by decide +kernel
theorem jd_Mo_configure_157 : decode jq_Mo_configure.2.1 157 = .ok (.aload_n 0, 1) := by decide +kernel
theorem jd_Mo_configure_158 : decode jq_Mo_configure.2.1 158 = .ok (.getfield 41, 3) := by decide +kernel
theorem jd_Mo_configure_161 : decode jq_Mo_configure.2.1 161 = .ok (.aload_n 0, 1) := by decide +kernel
theorem jd_Mo_configure_162 : decode jq_Mo_configure.2.1 162 = .ok (.getfield 116, 3) := by decide +kernel
theorem jd_Mo_configure_165 : decode jq_Mo_configure.2.1 165 = .ok (.iload 6, 2) := by decide +kernel
theorem jd_Mo_configure_167 : decode jq_Mo_configure.2.1 167 = .ok (.iload 4, 2) := by decide +kernel
theorem jd_Mo_configure_169 : decode jq_Mo_configure.2.1 169 = .ok (.iand, 1) := by decide +kernel
theorem jd_Mo_configure_170 : decode jq_Mo_configure.2.1 170 = .ok (.iastore, 1) := by decide +kernel
theorem jd_Mo_configure_171 : decode jq_Mo_configure.2.1 171 = .ok (.aload_n 0, 1) := by decide +kernel
theorem jd_Mo_configure_172 : decode jq_Mo_configure.2.1 172 = .ok (.getfield 44, 3) := by decide +kernel
theorem jd_Mo_configure_175 : decode jq_Mo_configure.2.1 175 = .ok (.aload_n 0, 1) := by decide +kernel
theorem jd_Mo_configure_176 : decode jq_Mo_configure.2.1 176 = .ok (.getfield 116, 3) := by decide +kernel
theorem jd_Mo_configure_179 : decode jq_Mo_configure.2.1 179 = .ok (.iload_n 3, 1) := by decide +kernel
theorem jd_Mo_configure_180 : decode jq_Mo_configure.2.1 180 = .ok (.iastore, 1) := by decide +kernel
theorem jd_Mo_configure_181 : decode jq_Mo_configure.2.1 181 = .ok (.aload_n 0, 1) := by decide +kernel
theorem jd_Mo_configure_182 : decode jq_Mo_configure.2.1 182 = .ok (.dup, 1) := by decide +kernel
theorem jd_Mo_configure_183 : decode jq_Mo_configure.2.1 183 = .ok (.getfield 116, 3) := by decide +kernel
theorem jd_Mo_configure_186 : decode jq_Mo_configure.2.1 186 = .ok (.iconst 1, 1) := by decide +kernel
theorem jd_Mo_configure_187 : decode jq_Mo_configure.2.1 187 = .ok (.iadd, 1) := by decide +kernel
theorem jd_Mo_configure_188 : decode jq_Mo_configure.2.1 188 = .ok (.putfield 116, 3) := by decide +kernel
theorem jd_Mo_configure_191 : decode jq_Mo_configure.2.1 191 = .ok (.aload_n 0, 1) := by decide +kernel
theorem jd_Mo_configure_192 : decode jq_Mo_configure.2.1 192 = .ok (.getfield 116, 3) := by decide +kernel
theorem jd_Mo_configure_195 : decode jq_Mo_configure.2.1 195 = .ok (.iconst 1, 1) := by decide +kernel
theorem jd_Mo_configure_196 : decode jq_Mo_configure.2.1 196 = .ok (.isub, 1) := by decide +kernel
theorem jd_Mo_configure_197 : decode jq_Mo_configure.2.1 197 = .ok (.ireturn, 1) := by decide +kernel
theorem jd_Mo_define_0 : decode jq_Mo_define.2.1 0 = .ok (.iload_n 1, 1) := by decide +kernel
theorem jd_Mo_define_1 : decode jq_Mo_define.2.1 1 = .ok (.iconst 0, 1) := by decide +kernel
theorem jd_Mo_define_2 : decode jq_Mo_define.2.1 2 = .ok (.iconst 5, 1) := by decide +kernel
theorem jd_Mo_define_3 : decode jq_Mo_define.2.1 3 = .ok (.invokestatic 108, 3) := by decide +kernel
theorem jd_Mo_define_6 : decode jq_Mo_define.2.1 6 = .ok (.ifCond .eq 48, 3) := by decide +kernel
theorem jd_Mo_define_9 : decode jq_Mo_define.2.1 9 = .ok (.iload_n 2, 1) := by decide +kernel
theorem jd_Mo_define_10 : decode jq_Mo_define.2.1 10 = .ok (.iconst 0, 1) := by decide +kernel
theorem jd_Mo_define_11 : decode jq_Mo_define.2.1 11 = .ok (.bipush 15, 2) := by decide +kernel
theorem jd_Mo_define_13 : decode jq_Mo_define.2.1 13 = .ok (.invokestatic 108, 3) := by decide +kernel
theorem jd_Mo_define_16 : decode jq_Mo_define.2.1 16 = .ok (.ifCond .eq 38, 3) := by decide +kernel
theorem jd_Mo_define_19 : decode jq_Mo_define.2.1 19 = .ok (.iload_n 3, 1) := by decide +kernel
theorem jd_Mo_define_20 : decode jq_Mo_define.2.1 20 = .ok (.iconst 0, 1) := by decide +kernel
theorem jd_Mo_define_21 : decode jq_Mo_define.2.1 21 = .ok (.iconst 3, 1) := by decide +kernel
theorem jd_Mo_define_22 : decode jq_Mo_define.2.1 22 = .ok (.invokestatic 108, 3) := by decide +kernel
theorem jd_Mo_define_25 : decode jq_Mo_define.2.1 25 = .ok (.ifCond .eq 29, 3) := by decide +kernel
theorem jd_Mo_define_28 : decode jq_Mo_define.2.1 28 = .ok (.iload 4, 2) := by decide +kernel
theorem jd_Mo_define_30 : decode jq_Mo_define.2.1 30 = .ok (.iconst 0, 1) := by decide +kernel
theorem jd_Mo_define_31 : decode jq_Mo_define.2.1 31 = .ok (.iconst 3, 1) := by decide +kernel
theorem jd_Mo_define_32 : decode jq_Mo_define.2.1 32 = .ok (.invokestatic 108, 3) := by decide +kernel
theorem jd_Mo_define_35 : decode jq_Mo_define.2.1 35 = .ok (.ifCond .eq 19, 3) := by decide +kernel
theorem jd_Mo_define_38 : decode jq_Mo_define.2.1 38 = .ok (.aload_n 0, 1) := by decide +kernel
theorem jd_Mo_define_39 : decode jq_Mo_define.2.1 39 = .ok (.getfield 119, 3) := by decide +kernel
theorem jd_Mo_define_42 : decode jq_Mo_define.2.1 42 = .ok (.bipush 10, 2) := by decide +kernel
theorem jd_Mo_define_44 : decode jq_Mo_define.2.1 44 = .ok (.if_icmp .eq 10, 3) := by decide +kernel
theorem jd_Mo_define_47 : decode jq_Mo_define.2.1 47 = .ok (.aload_n 0, 1) := by decide +kernel
theorem jd_Mo_define_48 : decode jq_Mo_define.2.1 48 = .ok (.getfield 116, 3) := by decide +kernel
theorem jd_Mo_define_51 : decode jq_Mo_define.2.1 51 = .ok (.ifCond .le 5, 3) := by decide +kernel
theorem jd_Mo_define_54 : decode jq_Mo_define.2.1 54 = .ok (.iconst (-1), 1) := by decide +kernel
theorem jd_Mo_define_55 : decode jq_Mo_define.2.1 55 = .ok (.ireturn, 1) := by decide +kernel
theorem jd_Mo_define_56 : decode jq_Mo_define.2.1 56 = .ok (.aload_n 0, 1) := by decide +kernel
theorem jd_Mo_define_57 : decode jq_Mo_define.2.1 57 = .ok (.getfield 13, 3) := by decide +kernel
theorem jd_Mo_define_60 : decode jq_Mo_define.2.1 60 = .ok (.aload_n 0, 1) := by decide +kernel
theorem jd_Mo_define_61 : decode jq_Mo_define.2.1 61 = .ok (.getfield 119, 3) := by decide +kernel
theorem jd_Mo_define_64 : decode jq_Mo_define.2.1 64 = .ok (.iload_n 1, 1) := by decide +kernel
theorem jd_Mo_define_65 : decode jq_Mo_define.2.1 65 = .ok (.iastore, 1) := by decide +kernel
theorem jd_Mo_define_66 : decode jq_Mo_define.2.1 66 = .ok (.aload_n 0, 1) := by decide +kernel
theorem jd_Mo_define_67 : decode jq_Mo_define.2.1 67 = .ok (.getfield 17, 3) := by decide +kernel
theorem jd_Mo_define_70 : decode jq_Mo_define.2.1 70 = .ok (.aload_n 0, 1) := by decide +kernel
theorem jd_Mo_define_71 : decode jq_Mo_define.2.1 71 = .ok (.getfield 119, 3) := by decide +kernel
theorem jd_Mo_define_74 : decode jq_Mo_define.2.1 74 = .ok (.iload_n 2, 1) := by decide +kernel
theorem jd_Mo_define_75 : decode jq_Mo_define.2.1 75 = .ok (.iastore, 1) := by decide +kernel
theorem jd_Mo_define_76 : decode jq_Mo_define.2.1 76 = .ok (.aload_n 0, 1) := by decide +kernel
theorem jd_Mo_define_77 : decode jq_Mo_define.2.1 77 = .ok (.getfield 20, 3) := by decide +kernel
theorem jd_Mo_define_80 : decode jq_Mo_define.2.1 80 = .ok (.aload_n 0, 1) := by decide +kernel
theorem jd_Mo_define_81 : decode jq_Mo_define.2.1 81 = .ok (.getfield 119, 3) := by decide +kernel
theorem jd_Mo_define_84 : decode jq_Mo_define.2.1 84 = .ok (.iload_n 3, 1) := by decide +kernel
theorem jd_Mo_define_85 : decode jq_Mo_define.2.1 85 = .ok (.iastore, 1) := by decide +kernel
theorem jd_Mo_define_86 : decode jq_Mo_define.2.1 86 = .ok (.aload_n 0, 1) := by decide +kernel
theorem jd_Mo_define_87 : decode jq_Mo_define.2.1 87 = .ok (.getfield 23, 3) := by decide +kernel
theorem jd_Mo_define_90 : decode jq_Mo_define.2.1 90 = .ok (.aload_n 0, 1) := by decide +kernel
theorem jd_Mo_define_91 : decode jq_Mo_define.2.1 91 = .ok (.getfield 119, 3) := by decide +kernel
theorem jd_Mo_define_94 : decode jq_Mo_define.2.1 94 = .ok (.iload 4, 2) := by decide +kernel
theorem jd_Mo_define_96 : decode jq_Mo_define.2.1 96 = .ok (.iastore, 1) := by decide +kernel
theorem jd_Mo_define_97 : decode jq_Mo_define.2.1 97 = .ok (.aload_n 0, 1) := by decide +kernel
theorem jd_Mo_define_98 : decode jq_Mo_define.2.1 98 = .ok (.dup, 1) := by decide +kernel
theorem jd_Mo_define_99 : decode jq_Mo_define.2.1 99 = .ok (.getfield 119, 3) := by decide +kernel
theorem jd_Mo_define_102 : decode jq_Mo_define.2.1 102 = .ok (.iconst 1, 1) := by decide +kernel
theorem jd_Mo_define_103 : decode jq_Mo_define.2.1 103 = .ok (.iadd, 1) := by decide +kernel
theorem jd_Mo_define_104 : decode jq_Mo_define.2.1 104 = .ok (.putfield 119, 3) := by decide +kernel
theorem jd_Mo_define_107 : decode jq_Mo_define.2.1 107 = .ok (.aload_n 0, 1) := by decide +kernel
theorem jd_Mo_define_108 : decode jq_Mo_define.2.1 108 = .ok (.getfield 119, 3) := by decide +kernel
theorem jd_Mo_define_111 : decode jq_Mo_define.2.1 111 = .ok (.iconst 1, 1) := by decide +kernel
theorem jd_Mo_define_112 : decode jq_Mo_define.2.1 112 = .ok (.isub, 1) := by decide +kernel
theorem jd_Mo_define_113 : decode jq_Mo_define.2.1 113 = .ok (.ireturn, 1) := by decide +kernel
theorem jd_Mo_definition_0 : decode jq_Mo_definition.2.1 0 = .ok (.aload_n 0, 1) := by decide +kernel
theorem jd_Mo_definition_1 : decode jq_Mo_definition.2.1 1 = .ok (.iload_n 1, 1) := by decide +kernel
theorem jd_Mo_definition_2 : decode jq_Mo_definition.2.1 2 = .ok (.invokevirtual 230, 3) := by decide +kernel
theorem jd_Mo_definition_5 : decode jq_Mo_definition.2.1 5 = .ok (.ifCond .eq 12, 3) := by decide +kernel
theorem jd_Mo_definition_8 : decode jq_Mo_definition.2.1 8 = .ok (.aload_n 0, 1) := by decide +kernel
theorem jd_Mo_definition_9 : decode jq_Mo_definition.2.1 9 = .ok (.getfield 65, 3) := by decide +kernel
theorem jd_Mo_definition_12 : decode jq_Mo_definition.2.1 12 = .ok (.iload_n 1, 1) := by decide +kernel
theorem jd_Mo_definition_13 : decode jq_Mo_definition.2.1 13 = .ok (.iaload, 1) := by decide +kernel
theorem jd_Mo_definition_14 : decode jq_Mo_definition.2.1 14 = .ok (.goto 4, 3) := by decide +kernel
theorem jd_Mo_definition_17 : decode jq_Mo_definition.2.1 17 = .ok (.iconst (-1), 1) := by decide +kernel
theorem jd_Mo_definition_18 : decode jq_Mo_definition.2.1 18 = .ok (.ireturn, 1) := by decide +kernel
theorem jd_Mo_contextOf_0 : decode jq_Mo_contextOf.2.1 0 = .ok (.iconst 0, 1) := by decide +kernel
theorem jd_Mo_contextOf_1 : decode jq_Mo_contextOf.2.1 1 = .ok (.istore_n 2, 1) := by decide +kernel
theorem jd_Mo_contextOf_2 : decode jq_Mo_contextOf.2.1 2 = .ok (.iload_n 2, 1) := by decide +kernel
theorem jd_Mo_contextOf_3 : decode jq_Mo_contextOf.2.1 3 = .ok (.aload_n 0, 1) := by decide +kernel
theorem jd_Mo_contextOf_4 : decode jq_Mo_contextOf.2.1 4 = .ok (.getfield 169, 3) := by decide +kernel
theorem jd_Mo_contextOf_7 : decode jq_Mo_contextOf.2.1 7 = .ok (.if_icmp .ge 30, 3) := by decide +kernel
theorem jd_Mo_contextOf_10 : decode jq_Mo_contextOf.2.1 10 = .ok (.aload_n 0, 1) := by decide +kernel
theorem jd_Mo_contextOf_11 : decode jq_Mo_contextOf.2.1 11 = .ok (.getfield 56, 3) := by decide +kernel
theorem jd_Mo_contextOf_14 : decode jq_Mo_contextOf.2.1 14 = .ok (.iload_n 2, 1) := by decide +kernel
theorem jd_Mo_contextOf_15 : decode jq_Mo_contextOf.2.1 15 = .ok (.baload, 1) := by decide +kernel
theorem jd_Mo_contextOf_16 : decode jq_Mo_contextOf.2.1 16 = .ok (.ifCond .eq 15, 3) := by decide +kernel
theorem jd_Mo_contextOf_19 : decode jq_Mo_contextOf.2.1 19 = .ok (.aload_n 0, 1) := by decide +kernel
theorem jd_Mo_contextOf_20 : decode jq_Mo_contextOf.2.1 20 = .ok (.getfield 50, 3) := by decide +kernel
theorem jd_Mo_contextOf_23 : decode jq_Mo_contextOf.2.1 23 = .ok (.iload_n 2, 1) := by decide +kernel
theorem jd_Mo_contextOf_24 : decode jq_Mo_contextOf.2.1 24 = .ok (.iaload, 1) := by decide +kernel
theorem jd_Mo_contextOf_25 : decode jq_Mo_contextOf.2.1 25 = .ok (.iload_n 1, 1) := by decide +kernel
theorem jd_Mo_contextOf_26 : decode jq_Mo_contextOf.2.1 26 = .ok (.if_icmp .ne 5, 3) := by decide +kernel
theorem jd_Mo_contextOf_29 : decode jq_Mo_contextOf.2.1 29 = .ok (.iload_n 2, 1) := by decide +kernel
theorem jd_Mo_contextOf_30 : decode jq_Mo_contextOf.2.1 30 = .ok (.ireturn, 1) := by decide +kernel
theorem jd_Mo_contextOf_31 : decode jq_Mo_contextOf.2.1 31 = .ok (.iinc 2 1, 3) := by decide +kernel
theorem jd_Mo_contextOf_34 : decode jq_Mo_contextOf.2.1 34 = .ok (.goto (-32), 3) := by decide +kernel
theorem jd_Mo_contextOf_37 : decode jq_Mo_contextOf.2.1 37 = .ok (.iconst (-1), 1) := by decide +kernel
theorem jd_Mo_contextOf_38 : decode jq_Mo_contextOf.2.1 38 = .ok (.ireturn, 1) := by decide +kernel
theorem jd_Mo_equal_0 : decode jq_Mo_equal.2.1 0 = .ok (.iload_n 1, 1) := by decide +kernel
theorem jd_Mo_equal_1 : decode jq_Mo_equal.2.1 1 = .ok (.istore_n 3, 1) := by decide +kernel
theorem jd_Mo_equal_2 : decode jq_Mo_equal.2.1 2 = .ok (.iload_n 2, 1) := by decide +kernel
theorem jd_Mo_equal_3 : decode jq_Mo_equal.2.1 3 = .ok (.istore 4, 2) := by decide +kernel
theorem jd_Mo_equal_5 : decode jq_Mo_equal.2.1 5 = .ok (.iconst 0, 1) := by decide +kernel
theorem jd_Mo_equal_6 : decode jq_Mo_equal.2.1 6 = .ok (.istore 5, 2) := by decide +kernel
theorem jd_Mo_equal_8 : decode jq_Mo_equal.2.1 8 = .ok (.iload 5, 2) := by decide +kernel
theorem jd_Mo_equal_10 : decode jq_Mo_equal.2.1 10 = .ok (.iconst 4, 1) := by decide +kernel
theorem jd_Mo_equal_11 : decode jq_Mo_equal.2.1 11 = .ok (.if_icmp .ge 83, 3) := by decide +kernel
theorem jd_Mo_equal_14 : decode jq_Mo_equal.2.1 14 = .ok (.iload_n 3, 1) := by decide +kernel
theorem jd_Mo_equal_15 : decode jq_Mo_equal.2.1 15 = .ok (.ifCond .lt 8, 3) := by decide +kernel
theorem jd_Mo_equal_18 : decode jq_Mo_equal.2.1 18 = .ok (.iload 4, 2) := by decide +kernel
theorem jd_Mo_equal_20 : decode jq_Mo_equal.2.1 20 = .ok (.ifCond .ge 18, 3) := by decide +kernel
theorem jd_Mo_equal_23 : decode jq_Mo_equal.2.1 23 = .ok (.iload_n 3, 1) := by decide +kernel
theorem jd_Mo_equal_24 : decode jq_Mo_equal.2.1 24 = .ok (.ifCond .ge 12, 3) := by decide +kernel
theorem jd_Mo_equal_27 : decode jq_Mo_equal.2.1 27 = .ok (.iload 4, 2) := by decide +kernel
theorem jd_Mo_equal_29 : decode jq_Mo_equal.2.1 29 = .ok (.ifCond .ge 7, 3) := by decide +kernel
theorem jd_Mo_equal_32 : decode jq_Mo_equal.2.1 32 = .ok (.iconst 1, 1) := by decide +kernel
theorem jd_Mo_equal_33 : decode jq_Mo_equal.2.1 33 = .ok (.goto 4, 3) := by decide +kernel
theorem jd_Mo_equal_36 : decode jq_Mo_equal.2.1 36 = .ok (.iconst 0, 1) := by decide +kernel
theorem jd_Mo_equal_37 : decode jq_Mo_equal.2.1 37 = .ok (.ireturn, 1) := by decide +kernel
theorem jd_Mo_equal_38 : decode jq_Mo_equal.2.1 38 = .ok (.aload_n 0, 1) := by decide +kernel
theorem jd_Mo_equal_39 : decode jq_Mo_equal.2.1 39 = .ok (.getfield 38, 3) := by decide +kernel
theorem jd_Mo_equal_42 : decode jq_Mo_equal.2.1 42 = .ok (.iload_n 3, 1) := by decide +kernel
theorem jd_Mo_equal_43 : decode jq_Mo_equal.2.1 43 = .ok (.iaload, 1) := by decide +kernel
theorem jd_Mo_equal_44 : decode jq_Mo_equal.2.1 44 = .ok (.aload_n 0, 1) := by decide +kernel
theorem jd_Mo_equal_45 : decode jq_Mo_equal.2.1 45 = .ok (.getfield 38, 3) := by decide +kernel
theorem jd_Mo_equal_48 : decode jq_Mo_equal.2.1 48 = .ok (.iload 4, 2) := by decide +kernel
theorem jd_Mo_equal_50 : decode jq_Mo_equal.2.1 50 = .ok (.iaload, 1) := by decide +kernel
theorem jd_Mo_equal_51 : decode jq_Mo_equal.2.1 51 = .ok (.if_icmp .ne 19, 3) := by decide +kernel
theorem jd_Mo_equal_54 : decode jq_Mo_equal.2.1 54 = .ok (.aload_n 0, 1) := by decide +kernel
theorem jd_Mo_equal_55 : decode jq_Mo_equal.2.1 55 = .ok (.getfield 41, 3) := by decide +kernel
theorem jd_Mo_equal_58 : decode jq_Mo_equal.2.1 58 = .ok (.iload_n 3, 1) := by decide +kernel
theorem jd_Mo_equal_59 : decode jq_Mo_equal.2.1 59 = .ok (.iaload, 1) := by decide +kernel
theorem jd_Mo_equal_60 : decode jq_Mo_equal.2.1 60 = .ok (.aload_n 0, 1) := by decide +kernel
theorem jd_Mo_equal_61 : decode jq_Mo_equal.2.1 61 = .ok (.getfield 41, 3) := by decide +kernel
theorem jd_Mo_equal_64 : decode jq_Mo_equal.2.1 64 = .ok (.iload 4, 2) := by decide +kernel
theorem jd_Mo_equal_66 : decode jq_Mo_equal.2.1 66 = .ok (.iaload, 1) := by decide +kernel
theorem jd_Mo_equal_67 : decode jq_Mo_equal.2.1 67 = .ok (.if_icmp .eq 5, 3) := by decide +kernel
theorem jd_Mo_equal_70 : decode jq_Mo_equal.2.1 70 = .ok (.iconst 0, 1) := by decide +kernel
theorem jd_Mo_equal_71 : decode jq_Mo_equal.2.1 71 = .ok (.ireturn, 1) := by decide +kernel
theorem jd_Mo_equal_72 : decode jq_Mo_equal.2.1 72 = .ok (.aload_n 0, 1) := by decide +kernel
theorem jd_Mo_equal_73 : decode jq_Mo_equal.2.1 73 = .ok (.getfield 44, 3) := by decide +kernel
theorem jd_Mo_equal_76 : decode jq_Mo_equal.2.1 76 = .ok (.iload_n 3, 1) := by decide +kernel
theorem jd_Mo_equal_77 : decode jq_Mo_equal.2.1 77 = .ok (.iaload, 1) := by decide +kernel
theorem jd_Mo_equal_78 : decode jq_Mo_equal.2.1 78 = .ok (.istore_n 3, 1) := by decide +kernel
theorem jd_Mo_equal_79 : decode jq_Mo_equal.2.1 79 = .ok (.aload_n 0, 1) := by decide +kernel
theorem jd_Mo_equal_80 : decode jq_Mo_equal.2.1 80 = .ok (.getfield 44, 3) := by decide +kernel
theorem jd_Mo_equal_83 : decode jq_Mo_equal.2.1 83 = .ok (.iload 4, 2) := by decide +kernel
theorem jd_Mo_equal_85 : decode jq_Mo_equal.2.1 85 = .ok (.iaload, 1) := by decide +kernel
theorem jd_Mo_equal_86 : decode jq_Mo_equal.2.1 86 = .ok (.istore 4, 2) := by decide +kernel
theorem jd_Mo_equal_88 : decode jq_Mo_equal.2.1 88 = .ok (.iinc 5 1, 3) := by decide +kernel
theorem jd_Mo_equal_91 : decode jq_Mo_equal.2.1 91 = .ok (.goto (-83), 3) := by decide +kernel
theorem jd_Mo_equal_94 : decode jq_Mo_equal.2.1 94 = .ok (.iconst 1, 1) := by decide +kernel
theorem jd_Mo_equal_95 : decode jq_Mo_equal.2.1 95 = .ok (.ireturn, 1) := by decide +kernel
theorem jd_Mo_key_0 : decode jq_Mo_key.2.1 0 = .ok (.aload_n 0, 1) := by decide +kernel
theorem jd_Mo_key_1 : decode jq_Mo_key.2.1 1 = .ok (.iload_n 1, 1) := by decide +kernel
theorem jd_Mo_key_2 : decode jq_Mo_key.2.1 2 = .ok (.invokevirtual 125, 3) := by decide +kernel
theorem jd_Mo_key_5 : decode jq_Mo_key.2.1 5 = .ok (.ifCond .ne 5, 3) := by decide +kernel
theorem jd_Mo_key_8 : decode jq_Mo_key.2.1 8 = .ok (.iconst (-1), 1) := by decide +kernel
theorem jd_Mo_key_9 : decode jq_Mo_key.2.1 9 = .ok (.ireturn, 1) := by decide +kernel
theorem jd_Mo_key_10 : decode jq_Mo_key.2.1 10 = .ok (.iconst 0, 1) := by decide +kernel
theorem jd_Mo_key_11 : decode jq_Mo_key.2.1 11 = .ok (.istore_n 2, 1) := by decide +kernel
theorem jd_Mo_key_12 : decode jq_Mo_key.2.1 12 = .ok (.iload_n 2, 1) := by decide +kernel
theorem jd_Mo_key_13 : decode jq_Mo_key.2.1 13 = .ok (.iload_n 1, 1) := by decide +kernel
theorem jd_Mo_key_14 : decode jq_Mo_key.2.1 14 = .ok (.if_icmp .ge 20, 3) := by decide +kernel
theorem jd_Mo_key_17 : decode jq_Mo_key.2.1 17 = .ok (.aload_n 0, 1) := by decide +kernel
theorem jd_Mo_key_18 : decode jq_Mo_key.2.1 18 = .ok (.iload_n 2, 1) := by decide +kernel
theorem jd_Mo_key_19 : decode jq_Mo_key.2.1 19 = .ok (.iload_n 1, 1) := by decide +kernel
theorem jd_Mo_key_20 : decode jq_Mo_key.2.1 20 = .ok (.invokevirtual 129, 3) := by decide +kernel
theorem jd_Mo_key_23 : decode jq_Mo_key.2.1 23 = .ok (.ifCond .eq 5, 3) := by decide +kernel
theorem jd_Mo_key_26 : decode jq_Mo_key.2.1 26 = .ok (.iload_n 2, 1) := by decide +kernel
theorem jd_Mo_key_27 : decode jq_Mo_key.2.1 27 = .ok (.ireturn, 1) := by decide +kernel
theorem jd_Mo_key_28 : decode jq_Mo_key.2.1 28 = .ok (.iinc 2 1, 3) := by decide +kernel
theorem jd_Mo_key_31 : decode jq_Mo_key.2.1 31 = .ok (.goto (-19), 3) := by decide +kernel
theorem jd_Mo_key_34 : decode jq_Mo_key.2.1 34 = .ok (.iload_n 1, 1) := by decide +kernel
theorem jd_Mo_key_35 : decode jq_Mo_key.2.1 35 = .ok (.ireturn, 1) := by decide +kernel
theorem jd_Mo_cachedFor_0 : decode jq_Mo_cachedFor.2.1 0 = .ok (.aload_n 0, 1) := by decide +kernel
theorem jd_Mo_cachedFor_1 : decode jq_Mo_cachedFor.2.1 1 = .ok (.iload_n 1, 1) := by decide +kernel
theorem jd_Mo_cachedFor_2 : decode jq_Mo_cachedFor.2.1 2 = .ok (.invokevirtual 125, 3) := by decide +kernel
theorem jd_Mo_cachedFor_5 : decode jq_Mo_cachedFor.2.1 5 = .ok (.ifCond .eq 15, 3) := by decide +kernel
theorem jd_Mo_cachedFor_8 : decode jq_Mo_cachedFor.2.1 8 = .ok (.aload_n 0, 1) := by decide +kernel
theorem jd_Mo_cachedFor_9 : decode jq_Mo_cachedFor.2.1 9 = .ok (.aload_n 0, 1) := by decide +kernel
theorem jd_Mo_cachedFor_10 : decode jq_Mo_cachedFor.2.1 10 = .ok (.iload_n 1, 1) := by decide +kernel
theorem jd_Mo_cachedFor_11 : decode jq_Mo_cachedFor.2.1 11 = .ok (.invokevirtual 172, 3) := by decide +kernel
theorem jd_Mo_cachedFor_14 : decode jq_Mo_cachedFor.2.1 14 = .ok (.invokevirtual 183, 3) := by decide +kernel
theorem jd_Mo_cachedFor_17 : decode jq_Mo_cachedFor.2.1 17 = .ok (.goto 4, 3) := by decide +kernel
theorem jd_Mo_cachedFor_20 : decode jq_Mo_cachedFor.2.1 20 = .ok (.iconst (-1), 1) := by decide +kernel
theorem jd_Mo_cachedFor_21 : decode jq_Mo_cachedFor.2.1 21 = .ok (.ireturn, 1) := by decide +kernel
theorem jd_Mo_child_0 : decode jq_Mo_child.2.1 0 = .ok (.aload_n 0, 1) := by decide +kernel
theorem jd_Mo_child_1 : decode jq_Mo_child.2.1 1 = .ok (.getfield 169, 3) := by decide +kernel
theorem jd_Mo_child_4 : decode jq_Mo_child.2.1 4 = .ok (.iconst 1, 1) := by decide +kernel
theorem jd_Mo_child_5 : decode jq_Mo_child.2.1 5 = .ok (.isub, 1) := by decide +kernel
theorem jd_Mo_child_6 : decode jq_Mo_child.2.1 6 = .ok (.istore_n 2, 1) := by decide +kernel
theorem jd_Mo_child_7 : decode jq_Mo_child.2.1 7 = .ok (.iload_n 2, 1) := by decide +kernel
theorem jd_Mo_child_8 : decode jq_Mo_child.2.1 8 = .ok (.ifCond .lt 30, 3) := by decide +kernel
theorem jd_Mo_child_11 : decode jq_Mo_child.2.1 11 = .ok (.aload_n 0, 1) := by decide +kernel
theorem jd_Mo_child_12 : decode jq_Mo_child.2.1 12 = .ok (.getfield 56, 3) := by decide +kernel
theorem jd_Mo_child_15 : decode jq_Mo_child.2.1 15 = .ok (.iload_n 2, 1) := by decide +kernel
theorem jd_Mo_child_16 : decode jq_Mo_child.2.1 16 = .ok (.baload, 1) := by decide +kernel
theorem jd_Mo_child_17 : decode jq_Mo_child.2.1 17 = .ok (.ifCond .eq 15, 3) := by decide +kernel
theorem jd_Mo_child_20 : decode jq_Mo_child.2.1 20 = .ok (.aload_n 0, 1) := by decide +kernel
theorem jd_Mo_child_21 : decode jq_Mo_child.2.1 21 = .ok (.getfield 53, 3) := by decide +kernel
theorem jd_Mo_child_24 : decode jq_Mo_child.2.1 24 = .ok (.iload_n 2, 1) := by decide +kernel
theorem jd_Mo_child_25 : decode jq_Mo_child.2.1 25 = .ok (.iaload, 1) := by decide +kernel
theorem jd_Mo_child_26 : decode jq_Mo_child.2.1 26 = .ok (.iload_n 1, 1) := by decide +kernel
theorem jd_Mo_child_27 : decode jq_Mo_child.2.1 27 = .ok (.if_icmp .ne 5, 3) := by decide +kernel
theorem jd_Mo_child_30 : decode jq_Mo_child.2.1 30 = .ok (.iload_n 2, 1) := by decide +kernel
theorem jd_Mo_child_31 : decode jq_Mo_child.2.1 31 = .ok (.ireturn, 1) := by decide +kernel
theorem jd_Mo_child_32 : decode jq_Mo_child.2.1 32 = .ok (.iinc 2 (-1), 3) := by decide +kernel
theorem jd_Mo_child_35 : decode jq_Mo_child.2.1 35 = .ok (.goto (-28), 3) := by decide +kernel
theorem jd_Mo_child_38 : decode jq_Mo_child.2.1 38 = .ok (.iconst (-1), 1) := by decide +kernel
theorem jd_Mo_child_39 : decode jq_Mo_child.2.1 39 = .ok (.ireturn, 1) := by decide +kernel
theorem jd_Mo_isMocked_0 : decode jq_Mo_isMocked.2.1 0 = .ok (.aload_n 0, 1) := by decide +kernel
theorem jd_Mo_isMocked_1 : decode jq_Mo_isMocked.2.1 1 = .ok (.getfield 41, 3) := by decide +kernel
theorem jd_Mo_isMocked_4 : decode jq_Mo_isMocked.2.1 4 = .ok (.aload_n 0, 1) := by decide +kernel
theorem jd_Mo_isMocked_5 : decode jq_Mo_isMocked.2.1 5 = .ok (.getfield 50, 3) := by decide +kernel
theorem jd_Mo_isMocked_8 : decode jq_Mo_isMocked.2.1 8 = .ok (.iload_n 1, 1) := by decide +kernel
theorem jd_Mo_isMocked_9 : decode jq_Mo_isMocked.2.1 9 = .ok (.iaload, 1) := by decide +kernel
theorem jd_Mo_isMocked_10 : decode jq_Mo_isMocked.2.1 10 = .ok (.iaload, 1) := by decide +kernel
theorem jd_Mo_isMocked_11 : decode jq_Mo_isMocked.2.1 11 = .ok (.iload_n 2, 1) := by decide +kernel
theorem jd_Mo_isMocked_12 : decode jq_Mo_isMocked.2.1 12 = .ok (.ishr, 1) := by decide +kernel
theorem jd_Mo_isMocked_13 : decode jq_Mo_isMocked.2.1 13 = .ok (.iconst 1, 1) := by decide +kernel
theorem jd_Mo_isMocked_14 : decode jq_Mo_isMocked.2.1 14 = .ok (.iand, 1) := by decide +kernel
theorem jd_Mo_isMocked_15 : decode jq_Mo_isMocked.2.1 15 = .ok (.iconst 1, 1) := by decide +kernel
theorem jd_Mo_isMocked_16 : decode jq_Mo_isMocked.2.1 16 = .ok (.if_icmp .ne 7, 3) := by decide +kernel
theorem jd_Mo_isMocked_19 : decode jq_Mo_isMocked.2.1 19 = .ok (.iconst 1, 1) := by decide +kernel
theorem jd_Mo_isMocked_20 : decode jq_Mo_isMocked.2.1 20 = .ok (.goto 4, 3) := by decide +kernel
theorem jd_Mo_isMocked_23 : decode jq_Mo_isMocked.2.1 23 = .ok (.iconst 0, 1) := by decide +kernel
theorem jd_Mo_isMocked_24 : decode jq_Mo_isMocked.2.1 24 = .ok (.ireturn, 1) := by decide +kernel
theorem jd_Mo_many_0 : decode jq_Mo_many.2.1 0 = .ok (.aload_n 0, 1) := by decide +kernel
theorem jd_Mo_many_1 : decode jq_Mo_many.2.1 1 = .ok (.getfield 17, 3) := by decide +kernel
theorem jd_Mo_many_4 : decode jq_Mo_many.2.1 4 = .ok (.iload_n 2, 1) := by decide +kernel
theorem jd_Mo_many_5 : decode jq_Mo_many.2.1 5 = .ok (.iaload, 1) := by decide +kernel
theorem jd_Mo_many_6 : decode jq_Mo_many.2.1 6 = .ok (.iconst 4, 1) := by decide +kernel
theorem jd_Mo_many_7 : decode jq_Mo_many.2.1 7 = .ok (.iand, 1) := by decide +kernel
theorem jd_Mo_many_8 : decode jq_Mo_many.2.1 8 = .ok (.ifCond .eq 16, 3) := by decide +kernel
theorem jd_Mo_many_11 : decode jq_Mo_many.2.1 11 = .ok (.aload_n 0, 1) := by decide +kernel
theorem jd_Mo_many_12 : decode jq_Mo_many.2.1 12 = .ok (.iload_n 1, 1) := by decide +kernel
theorem jd_Mo_many_13 : decode jq_Mo_many.2.1 13 = .ok (.iload_n 2, 1) := by decide +kernel
theorem jd_Mo_many_14 : decode jq_Mo_many.2.1 14 = .ok (.invokevirtual 132, 3) := by decide +kernel
theorem jd_Mo_many_17 : decode jq_Mo_many.2.1 17 = .ok (.ifCond .ne 7, 3) := by decide +kernel
theorem jd_Mo_many_20 : decode jq_Mo_many.2.1 20 = .ok (.iconst 1, 1) := by decide +kernel
theorem jd_Mo_many_21 : decode jq_Mo_many.2.1 21 = .ok (.goto 4, 3) := by decide +kernel
theorem jd_Mo_many_24 : decode jq_Mo_many.2.1 24 = .ok (.iconst 0, 1) := by decide +kernel
theorem jd_Mo_many_25 : decode jq_Mo_many.2.1 25 = .ok (.ireturn, 1) := by decide +kernel
theorem jd_Mo_note_0 : decode jq_Mo_note.2.1 0 = .ok (.aload_n 0, 1) := by decide +kernel
theorem jd_Mo_note_1 : decode jq_Mo_note.2.1 1 = .ok (.getfield 98, 3) := by decide +kernel
theorem jd_Mo_note_4 : decode jq_Mo_note.2.1 4 = .ok (.aload_n 0, 1) := by decide +kernel
theorem jd_Mo_note_5 : decode jq_Mo_note.2.1 5 = .ok (.getfield 105, 3) := by decide +kernel
theorem jd_Mo_note_8 : decode jq_Mo_note.2.1 8 = .ok (.bipush 32, 2) := by decide +kernel
theorem jd_Mo_note_10 : decode jq_Mo_note.2.1 10 = .ok (.irem, 1) := by decide +kernel
theorem jd_Mo_note_11 : decode jq_Mo_note.2.1 11 = .ok (.bipush 64, 2) := by decide +kernel
theorem jd_Mo_note_13 : decode jq_Mo_note.2.1 13 = .ok (.iload_n 1, 1) := by decide +kernel
theorem jd_Mo_note_14 : decode jq_Mo_note.2.1 14 = .ok (.imul, 1) := by decide +kernel
theorem jd_Mo_note_15 : decode jq_Mo_note.2.1 15 = .ok (.iload_n 2, 1) := by decide +kernel
theorem jd_Mo_note_16 : decode jq_Mo_note.2.1 16 = .ok (.iadd, 1) := by decide +kernel
theorem jd_Mo_note_17 : decode jq_Mo_note.2.1 17 = .ok (.iastore, 1) := by decide +kernel
theorem jd_Mo_note_18 : decode jq_Mo_note.2.1 18 = .ok (.aload_n 0, 1) := by decide +kernel
theorem jd_Mo_note_19 : decode jq_Mo_note.2.1 19 = .ok (.dup, 1) := by decide +kernel
theorem jd_Mo_note_20 : decode jq_Mo_note.2.1 20 = .ok (.getfield 105, 3) := by decide +kernel
theorem jd_Mo_note_23 : decode jq_Mo_note.2.1 23 = .ok (.iconst 1, 1) := by decide +kernel
theorem jd_Mo_note_24 : decode jq_Mo_note.2.1 24 = .ok (.iadd, 1) := by decide +kernel
theorem jd_Mo_note_25 : decode jq_Mo_note.2.1 25 = .ok (.putfield 105, 3) := by decide +kernel
theorem jd_Mo_note_28 : decode jq_Mo_note.2.1 28 = .ok (.return_, 1) := by decide +kernel
theorem jd_Mo_destroy_0 : decode jq_Mo_destroy.2.1 0 = .ok (.aload_n 0, 1) := by decide +kernel
theorem jd_Mo_destroy_1 : decode jq_Mo_destroy.2.1 1 = .ok (.getfield 135, 3) := by decide +kernel
theorem jd_Mo_destroy_4 : decode jq_Mo_destroy.2.1 4 = .ok (.iconst 1, 1) := by decide +kernel
theorem jd_Mo_destroy_5 : decode jq_Mo_destroy.2.1 5 = .ok (.isub, 1) := by decide +kernel
theorem jd_Mo_destroy_6 : decode jq_Mo_destroy.2.1 6 = .ok (.istore_n 2, 1) := by decide +kernel
theorem jd_Mo_destroy_7 : decode jq_Mo_destroy.2.1 7 = .ok (.iload_n 2, 1) := by decide +kernel
theorem jd_Mo_destroy_8 : decode jq_Mo_destroy.2.1 8 = .ok (.ifCond .lt 63, 3) := by decide +kernel
theorem jd_Mo_destroy_11 : decode jq_Mo_destroy.2.1 11 = .ok (.aload_n 0, 1) := by decide +kernel
theorem jd_Mo_destroy_12 : decode jq_Mo_destroy.2.1 12 = .ok (.getfield 62, 3) := by decide +kernel
theorem jd_Mo_destroy_15 : decode jq_Mo_destroy.2.1 15 = .ok (.iload_n 2, 1) := by decide +kernel
theorem jd_Mo_destroy_16 : decode jq_Mo_destroy.2.1 16 = .ok (.iaload, 1) := by decide +kernel
theorem jd_Mo_destroy_17 : decode jq_Mo_destroy.2.1 17 = .ok (.iload_n 1, 1) := by decide +kernel
theorem jd_Mo_destroy_18 : decode jq_Mo_destroy.2.1 18 = .ok (.if_icmp .ne 47, 3) := by decide +kernel
theorem jd_Mo_destroy_21 : decode jq_Mo_destroy.2.1 21 = .ok (.aload_n 0, 1) := by decide +kernel
