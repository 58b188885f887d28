theorem dX6_init_0 : decode cX6_init 0 = .ok (.aload_n 0, 1) := by decide +kernel
theorem dX6_init_1 : decode cX6_init 1 = .ok (.invokespecial 1, 3) := by decide +kernel
theorem dX6_init_4 : decode cX6_init 4 = .ok (.aload_n 0, 1) := by decide +kernel
theorem dX6_init_5 : decode cX6_init 5 = .ok (.bipush 16, 2) := by decide +kernel
theorem dX6_init_7 : decode cX6_init 7 = .ok (.newarray .int, 2) := by decide +kernel
theorem dX6_init_9 : decode cX6_init 9 = .ok (.putfield 7, 3) := by decide +kernel
theorem dX6_init_12 : decode cX6_init 12 = .ok (.aload_n 0, 1) := by decide +kernel
theorem dX6_init_13 : decode cX6_init 13 = .ok (.bipush 7, 2) := by decide +kernel
theorem dX6_init_15 : decode cX6_init 15 = .ok (.newarray .int, 2) := by decide +kernel
theorem dX6_init_17 : decode cX6_init 17 = .ok (.putfield 13, 3) := by decide +kernel
theorem dX6_init_20 : decode cX6_init 20 = .ok (.aload_n 0, 1) := by decide +kernel
theorem dX6_init_21 : decode cX6_init 21 = .ok (.bipush 7, 2) := by decide +kernel
theorem dX6_init_23 : decode cX6_init 23 = .ok (.newarray .int, 2) := by decide +kernel
theorem dX6_init_25 : decode cX6_init 25 = .ok (.putfield 16, 3) := by decide +kernel
theorem dX6_init_28 : decode cX6_init 28 = .ok (.aload_n 0, 1) := by decide +kernel
theorem dX6_init_29 : decode cX6_init 29 = .ok (.bipush 7, 2) := by decide +kernel
theorem dX6_init_31 : decode cX6_init 31 = .ok (.newarray .int, 2) := by decide +kernel
theorem dX6_init_33 : decode cX6_init 33 = .ok (.putfield 19, 3) := by decide +kernel
theorem dX6_init_36 : decode cX6_init 36 = .ok (.aload_n 0, 1) := by decide +kernel
theorem dX6_init_37 : decode cX6_init 37 = .ok (.bipush 7, 2) := by decide +kernel
theorem dX6_init_39 : decode cX6_init 39 = .ok (.newarray .int, 2) := by decide +kernel
theorem dX6_init_41 : decode cX6_init 41 = .ok (.putfield 22, 3) := by decide +kernel
theorem dX6_init_44 : decode cX6_init 44 = .ok (.aload_n 0, 1) := by decide +kernel
theorem dX6_init_45 : decode cX6_init 45 = .ok (.bipush 7, 2) := by decide +kernel
theorem dX6_init_47 : decode cX6_init 47 = .ok (.newarray .int, 2) := by decide +kernel
theorem dX6_init_49 : decode cX6_init 49 = .ok (.putfield 25, 3) := by decide +kernel
theorem dX6_init_52 : decode cX6_init 52 = .ok (.aload_n 0, 1) := by decide +kernel
theorem dX6_init_53 : decode cX6_init 53 = .ok (.bipush 7, 2) := by decide +kernel
theorem dX6_init_55 : decode cX6_init 55 = .ok (.newarray .boolean, 2) := by decide +kernel
theorem dX6_init_57 : decode cX6_init 57 = .ok (.putfield 28, 3) := by decide +kernel
theorem dX6_init_60 : decode cX6_init 60 = .ok (.aload_n 0, 1) := by decide +kernel
theorem dX6_init_61 : decode cX6_init 61 = .ok (.sipush 160, 3) := by decide +kernel
theorem dX6_init_64 : decode cX6_init 64 = .ok (.newarray .int, 2) := by decide +kernel
theorem dX6_init_66 : decode cX6_init 66 = .ok (.putfield 32, 3) := by decide +kernel
theorem dX6_init_69 : decode cX6_init 69 = .ok (.aload_n 0, 1) := by decide +kernel
theorem dX6_init_70 : decode cX6_init 70 = .ok (.bipush 18, 2) := by decide +kernel
theorem dX6_init_72 : decode cX6_init 72 = .ok (.newarray .int, 2) := by decide +kernel
theorem dX6_init_74 : decode cX6_init 74 = .ok (.putfield 35, 3) := by decide +kernel
theorem dX6_init_77 : decode cX6_init 77 = .ok (.aload_n 0, 1) := by decide +kernel
theorem dX6_init_78 : decode cX6_init 78 = .ok (.bipush 18, 2) := by decide +kernel
theorem dX6_init_80 : decode cX6_init 80 = .ok (.newarray .int, 2) := by decide +kernel
theorem dX6_init_82 : decode cX6_init 82 = .ok (.putfield 38, 3) := by decide +kernel
theorem dX6_init_85 : decode cX6_init 85 = .ok (.aload_n 0, 1) := by decide +kernel
theorem dX6_init_86 : decode cX6_init 86 = .ok (.sipush 3000, 3) := by decide +kernel
theorem dX6_init_89 : decode cX6_init 89 = .ok (.newarray .int, 2) := by decide +kernel
theorem dX6_init_91 : decode cX6_init 91 = .ok (.putfield 41, 3) := by decide +kernel
theorem dX6_init_94 : decode cX6_init 94 = .ok (.aload_n 0, 1) := by decide +kernel
theorem dX6_init_95 : decode cX6_init 95 = .ok (.sipush 200, 3) := by decide +kernel
theorem dX6_init_98 : decode cX6_init 98 = .ok (.newarray .int, 2) := by decide +kernel
theorem dX6_init_100 : decode cX6_init 100 = .ok (.putfield 44, 3) := by decide +kernel
theorem dX6_init_103 : decode cX6_init 103 = .ok (.aload_n 0, 1) := by decide +kernel
theorem dX6_init_104 : decode cX6_init 104 = .ok (.sipush 200, 3) := by decide +kernel
theorem dX6_init_107 : decode cX6_init 107 = .ok (.newarray .int, 2) := by decide +kernel
theorem dX6_init_109 : decode cX6_init 109 = .ok (.putfield 47, 3) := by decide +kernel
theorem dX6_init_112 : decode cX6_init 112 = .ok (.aload_n 0, 1) := by decide +kernel
theorem dX6_init_113 : decode cX6_init 113 = .ok (.bipush 16, 2) := by decide +kernel
theorem dX6_init_115 : decode cX6_init 115 = .ok (.newarray .boolean, 2) := by decide +kernel
theorem dX6_init_117 : decode cX6_init 117 = .ok (.putfield 50, 3) := by decide +kernel
theorem dX6_init_120 : decode cX6_init 120 = .ok (.aload_n 0, 1) := by decide +kernel
theorem dX6_init_121 : decode cX6_init 121 = .ok (.bipush 16, 2) := by decide +kernel
theorem dX6_init_123 : decode cX6_init 123 = .ok (.newarray .boolean, 2) := by decide +kernel
theorem dX6_init_125 : decode cX6_init 125 = .ok (.putfield 53, 3) := by decide +kernel
theorem dX6_init_128 : decode cX6_init 128 = .ok (.aload_n 0, 1) := by decide +kernel
theorem dX6_init_129 : decode cX6_init 129 = .ok (.bipush 16, 2) := by decide +kernel
theorem dX6_init_131 : decode cX6_init 131 = .ok (.newarray .int, 2) := by decide +kernel
theorem dX6_init_133 : decode cX6_init 133 = .ok (.putfield 56, 3) := by decide +kernel
theorem dX6_init_136 : decode cX6_init 136 = .ok (.aload_n 0, 1) := by decide +kernel
theorem dX6_init_137 : decode cX6_init 137 = .ok (.bipush 7, 2) := by decide +kernel
theorem dX6_init_139 : decode cX6_init 139 = .ok (.newarray .int, 2) := by decide +kernel
theorem dX6_init_141 : decode cX6_init 141 = .ok (.putfield 59, 3) := by decide +kernel
theorem dX6_init_144 : decode cX6_init 144 = .ok (.aload_n 0, 1) := by decide +kernel
theorem dX6_init_145 : decode cX6_init 145 = .ok (.bipush 7, 2) := by decide +kernel
theorem dX6_init_147 : decode cX6_init 147 = .ok (.newarray .boolean, 2) := by decide +kernel
theorem dX6_init_149 : decode cX6_init 149 = .ok (.putfield 62, 3) := by decide +kernel
theorem dX6_init_152 : decode cX6_init 152 = .ok (.aload_n 0, 1) := by decide +kernel
theorem dX6_init_153 : decode cX6_init 153 = .ok (.bipush 7, 2) := by decide +kernel
theorem dX6_init_155 : decode cX6_init 155 = .ok (.newarray .int, 2) := by decide +kernel
theorem dX6_init_157 : decode cX6_init 157 = .ok (.putfield 65, 3) := by decide +kernel
theorem dX6_init_160 : decode cX6_init 160 = .ok (.aload_n 0, 1) := by decide +kernel
theorem dX6_init_161 : decode cX6_init 161 = .ok (.bipush 16, 2) := by decide +kernel
theorem dX6_init_163 : decode cX6_init 163 = .ok (.newarray .int, 2) := by decide +kernel
theorem dX6_init_165 : decode cX6_init 165 = .ok (.putfield 68, 3) := by decide +kernel
theorem dX6_init_168 : decode cX6_init 168 = .ok (.aload_n 0, 1) := by decide +kernel
theorem dX6_init_169 : decode cX6_init 169 = .ok (.bipush 16, 2) := by decide +kernel
theorem dX6_init_171 : decode cX6_init 171 = .ok (.newarray .int, 2) := by decide +kernel
theorem dX6_init_173 : decode cX6_init 173 = .ok (.putfield 71, 3) := by decide +kernel
theorem dX6_init_176 : decode cX6_init 176 = .ok (.aload_n 0, 1) := by decide +kernel
theorem dX6_init_177 : decode cX6_init 177 = .ok (.bipush 30, 2) := by decide +kernel
theorem dX6_init_179 : decode cX6_init 179 = .ok (.newarray .int, 2) := by decide +kernel
theorem dX6_init_181 : decode cX6_init 181 = .ok (.putfield 74, 3) := by decide +kernel
theorem dX6_init_184 : decode cX6_init 184 = .ok (.aload_n 0, 1) := by decide +kernel
theorem dX6_init_185 : decode cX6_init 185 = .ok (.iconst 4, 1) := by decide +kernel
theorem dX6_init_186 : decode cX6_init 186 = .ok (.newarray .int, 2) := by decide +kernel
theorem dX6_init_188 : decode cX6_init 188 = .ok (.putfield 77, 3) := by decide +kernel
theorem dX6_init_191 : decode cX6_init 191 = .ok (.aload_n 0, 1) := by decide +kernel
theorem dX6_init_192 : decode cX6_init 192 = .ok (.iconst 4, 1) := by decide +kernel
theorem dX6_init_193 : decode cX6_init 193 = .ok (.newarray .int, 2) := by decide +kernel
theorem dX6_init_195 : decode cX6_init 195 = .ok (.putfield 80, 3) := by decide +kernel
theorem dX6_init_198 : decode cX6_init 198 = .ok (.aload_n 0, 1) := by decide +kernel
theorem dX6_init_199 : decode cX6_init 199 = .ok (.sipush 160, 3) := by decide +kernel
theorem dX6_init_202 : decode cX6_init 202 = .ok (.newarray .int, 2) := by decide +kernel
theorem dX6_init_204 : decode cX6_init 204 = .ok (.putfield 83, 3) := by decide +kernel
theorem dX6_init_207 : decode cX6_init 207 = .ok (.iconst 0, 1) := by decide +kernel
theorem dX6_init_208 : decode cX6_init 208 = .ok (.istore_n 1, 1) := by decide +kernel
theorem dX6_init_209 : decode cX6_init 209 = .ok (.iload_n 1, 1) := by decide +kernel
theorem dX6_init_210 : decode cX6_init 210 = .ok (.iconst 4, 1) := by decide +kernel
theorem dX6_init_211 : decode cX6_init 211 = .ok (.if_icmp .ge 16, 3) := by decide +kernel
theorem dX6_init_214 : decode cX6_init 214 = .ok (.aload_n 0, 1) := by decide +kernel
theorem dX6_init_215 : decode cX6_init 215 = .ok (.getfield 77, 3) := by decide +kernel
theorem dX6_init_218 : decode cX6_init 218 = .ok (.iload_n 1, 1) := by decide +kernel
theorem dX6_init_219 : decode cX6_init 219 = .ok (.iconst (-1), 1) := by decide +kernel
theorem dX6_init_220 : decode cX6_init 220 = .ok (.iastore, 1) := by decide +kernel
theorem dX6_init_221 : decode cX6_init 221 = .ok (.iinc 1 1, 3) := by decide +kernel
theorem dX6_init_224 : decode cX6_init 224 = .ok (.goto (-15), 3) := by decide +kernel
theorem dX6_init_227 : decode cX6_init 227 = .ok (.aload_n 0, 1) := by decide +kernel
theorem dX6_init_228 : decode cX6_init 228 = .ok (.iconst 0, 1) := by decide +kernel
theorem dX6_init_229 : decode cX6_init 229 = .ok (.invokevirtual 86, 3) := by decide +kernel
theorem dX6_init_232 : decode cX6_init 232 = .ok (.aload_n 0, 1) := by decide +kernel
theorem dX6_init_233 : decode cX6_init 233 = .ok (.bipush 16, 2) := by decide +kernel
theorem dX6_init_235 : decode cX6_init 235 = .ok (.invokevirtual 86, 3) := by decide +kernel
theorem dX6_init_238 : decode cX6_init 238 = .ok (.aload_n 0, 1) := by decide +kernel
theorem dX6_init_239 : decode cX6_init 239 = .ok (.iconst 0, 1) := by decide +kernel
theorem dX6_init_240 : decode cX6_init 240 = .ok (.invokevirtual 86, 3) := by decide +kernel
theorem dX6_init_243 : decode cX6_init 243 = .ok (.aload_n 0, 1) := by decide +kernel
theorem dX6_init_244 : decode cX6_init 244 = .ok (.bipush 6, 2) := by decide +kernel
theorem dX6_init_246 : decode cX6_init 246 = .ok (.invokevirtual 86, 3) := by decide +kernel
theorem dX6_init_249 : decode cX6_init 249 = .ok (.aload_n 0, 1) := by decide +kernel
theorem dX6_init_250 : decode cX6_init 250 = .ok (.bipush 35, 2) := by decide +kernel
theorem dX6_init_252 : decode cX6_init 252 = .ok (.invokevirtual 86, 3) := by decide +kernel
theorem dX6_init_255 : decode cX6_init 255 = .ok (.aload_n 0, 1) := by decide +kernel
theorem dX6_init_256 : decode cX6_init 256 = .ok (.getfield 38, 3) := by decide +kernel
theorem dX6_init_259 : decode cX6_init 259 = .ok (.iconst 0, 1) := by decide +kernel
theorem dX6_init_260 : decode cX6_init 260 = .ok (.iconst 1, 1) := by decide +kernel
theorem dX6_init_261 : decode cX6_init 261 = .ok (.iastore, 1) := by decide +kernel
theorem dX6_init_262 : decode cX6_init 262 = .ok (.aload_n 0, 1) := by decide +kernel
theorem dX6_init_263 : decode cX6_init 263 = .ok (.getfield 35, 3) := by decide +kernel
theorem dX6_init_266 : decode cX6_init 266 = .ok (.iconst 1, 1) := by decide +kernel
theorem dX6_init_267 : decode cX6_init 267 = .ok (.iconst 1, 1) := by decide +kernel
theorem dX6_init_268 : decode cX6_init 268 = .ok (.iastore, 1) := by decide +kernel
theorem dX6_init_269 : decode cX6_init 269 = .ok (.aload_n 0, 1) := by decide +kernel
theorem dX6_init_270 : decode cX6_init 270 = .ok (.getfield 38, 3) := by decide +kernel
theorem dX6_init_273 : decode cX6_init 273 = .ok (.iconst 1, 1) := by decide +kernel
theorem dX6_init_274 : decode cX6_init 274 = .ok (.iconst 3, 1) := by decide +kernel
theorem dX6_init_275 : decode cX6_init 275 = .ok (.iastore, 1) := by decide +kernel
theorem dX6_init_276 : decode cX6_init 276 = .ok (.aload_n 0, 1) := by decide +kernel
theorem dX6_init_277 : decode cX6_init 277 = .ok (.getfield 35, 3) := by decide +kernel
theorem dX6_init_280 : decode cX6_init 280 = .ok (.iconst 2, 1) := by decide +kernel
theorem dX6_init_281 : decode cX6_init 281 = .ok (.iconst 4, 1) := by decide +kernel
theorem dX6_init_282 : decode cX6_init 282 = .ok (.iastore, 1) := by decide +kernel
theorem dX6_init_283 : decode cX6_init 283 = .ok (.aload_n 0, 1) := by decide +kernel
theorem dX6_init_284 : decode cX6_init 284 = .ok (.getfield 38, 3) := by decide +kernel
theorem dX6_init_287 : decode cX6_init 287 = .ok (.iconst 2, 1) := by decide +kernel
theorem dX6_init_288 : decode cX6_init 288 = .ok (.iconst 1, 1) := by decide +kernel
theorem dX6_init_289 : decode cX6_init 289 = .ok (.iastore, 1) := by decide +kernel
theorem dX6_init_290 : decode cX6_init 290 = .ok (.aload_n 0, 1) := by decide +kernel
theorem dX6_init_291 : decode cX6_init 291 = .ok (.iconst 1, 1) := by decide +kernel
theorem dX6_init_292 : decode cX6_init 292 = .ok (.putfield 90, 3) := by decide +kernel
theorem dX6_init_295 : decode cX6_init 295 = .ok (.return_, 1) := by decide +kernel
theorem dX6_within_0 : decode cX6_within 0 = .ok (.iload_n 0, 1) := by decide +kernel
theorem dX6_within_1 : decode cX6_within 1 = .ok (.iload_n 1, 1) := by decide +kernel
theorem dX6_within_2 : decode cX6_within 2 = .ok (.if_icmp .lt 12, 3) := by decide +kernel
theorem dX6_within_5 : decode cX6_within 5 = .ok (.iload_n 0, 1) := by decide +kernel
theorem dX6_within_6 : decode cX6_within 6 = .ok (.iload_n 2, 1) := by decide +kernel
theorem dX6_within_7 : decode cX6_within 7 = .ok (.if_icmp .gt 7, 3) := by decide +kernel
theorem dX6_within_10 : decode cX6_within 10 = .ok (.iconst 1, 1) := by decide +kernel
theorem dX6_within_11 : decode cX6_within 11 = .ok (.goto 4, 3) := by decide +kernel
theorem dX6_within_14 : decode cX6_within 14 = .ok (.iconst 0, 1) := by decide +kernel
theorem dX6_within_15 : decode cX6_within 15 = .ok (.ireturn, 1) := by decide +kernel
theorem dX6_isSeam_0 : decode cX6_isSeam 0 = .ok (.iload_n 1, 1) := by decide +kernel
theorem dX6_isSeam_1 : decode cX6_isSeam 1 = .ok (.iconst 0, 1) := by decide +kernel
theorem dX6_isSeam_2 : decode cX6_isSeam 2 = .ok (.aload_n 0, 1) := by decide +kernel
theorem dX6_isSeam_3 : decode cX6_isSeam 3 = .ok (.getfield 94, 3) := by decide +kernel
theorem dX6_isSeam_6 : decode cX6_isSeam 6 = .ok (.iconst 1, 1) := by decide +kernel
theorem dX6_isSeam_7 : decode cX6_isSeam 7 = .ok (.isub, 1) := by decide +kernel
theorem dX6_isSeam_8 : decode cX6_isSeam 8 = .ok (.invokestatic 97, 3) := by decide +kernel
theorem dX6_isSeam_11 : decode cX6_isSeam 11 = .ok (.ireturn, 1) := by decide +kernel
theorem dX6_isHour_0 : decode cX6_isHour 0 = .ok (.iload_n 0, 1) := by decide +kernel
theorem dX6_isHour_1 : decode cX6_isHour 1 = .ok (.iconst 0, 1) := by decide +kernel
theorem dX6_isHour_2 : decode cX6_isHour 2 = .ok (.bipush 15, 2) := by decide +kernel
theorem dX6_isHour_4 : decode cX6_isHour 4 = .ok (.invokestatic 97, 3) := by decide +kernel
theorem dX6_isHour_7 : decode cX6_isHour 7 = .ok (.ireturn, 1) := by decide +kernel
theorem dX6_isSheet_0 : decode cX6_isSheet 0 = .ok (.iload_n 0, 1) := by decide +kernel
theorem dX6_isSheet_1 : decode cX6_isSheet 1 = .ok (.iconst 0, 1) := by decide +kernel
theorem dX6_isSheet_2 : decode cX6_isSheet 2 = .ok (.iconst 3, 1) := by decide +kernel
theorem dX6_isSheet_3 : decode cX6_isSheet 3 = .ok (.invokestatic 97, 3) := by decide +kernel
theorem dX6_isSheet_6 : decode cX6_isSheet 6 = .ok (.ireturn, 1) := by decide +kernel
theorem dX6_isOf_0 : decode cX6_isOf 0 = .ok (.iload_n 1, 1) := by decide +kernel
theorem dX6_isOf_1 : decode cX6_isOf 1 = .ok (.ifCond .eq 35, 3) := by decide +kernel
theorem dX6_isOf_4 : decode cX6_isOf 4 = .ok (.iload_n 1, 1) := by decide +kernel
theorem dX6_isOf_5 : decode cX6_isOf 5 = .ok (.iconst 1, 1) := by decide +kernel
theorem dX6_isOf_6 : decode cX6_isOf 6 = .ok (.if_icmp .ne 13, 3) := by decide +kernel
theorem dX6_isOf_9 : decode cX6_isOf 9 = .ok (.iload_n 2, 1) := by decide +kernel
theorem dX6_isOf_10 : decode cX6_isOf 10 = .ok (.invokestatic 101, 3) := by decide +kernel
theorem dX6_isOf_13 : decode cX6_isOf 13 = .ok (.ifCond .eq 27, 3) := by decide +kernel
theorem dX6_isOf_16 : decode cX6_isOf 16 = .ok (.goto 20, 3) := by decide +kernel
theorem dX6_isOf_19 : decode cX6_isOf 19 = .ok (.iload_n 1, 1) := by decide +kernel
theorem dX6_isOf_20 : decode cX6_isOf 20 = .ok (.iconst 2, 1) := by decide +kernel
theorem dX6_isOf_21 : decode cX6_isOf 21 = .ok (.iconst 4, 1) := by decide +kernel
theorem dX6_isOf_22 : decode cX6_isOf 22 = .ok (.invokestatic 97, 3) := by decide +kernel
theorem dX6_isOf_25 : decode cX6_isOf 25 = .ok (.ifCond .eq 15, 3) := by decide +kernel
theorem dX6_isOf_28 : decode cX6_isOf 28 = .ok (.aload_n 0, 1) := by decide +kernel
theorem dX6_isOf_29 : decode cX6_isOf 29 = .ok (.iload_n 2, 1) := by decide +kernel
theorem dX6_isOf_30 : decode cX6_isOf 30 = .ok (.invokevirtual 105, 3) := by decide +kernel
theorem dX6_isOf_33 : decode cX6_isOf 33 = .ok (.ifCond .eq 7, 3) := by decide +kernel
theorem dX6_isOf_36 : decode cX6_isOf 36 = .ok (.iconst 1, 1) := by decide +kernel
theorem dX6_isOf_37 : decode cX6_isOf 37 = .ok (.goto 4, 3) := by decide +kernel
theorem dX6_isOf_40 : decode cX6_isOf 40 = .ok (.iconst 0, 1) := by decide +kernel
theorem dX6_isOf_41 : decode cX6_isOf 41 = .ok (.ireturn, 1) := by decide +kernel
theorem dX6_isFit_0 : decode cX6_isFit 0 = .ok (.iload_n 0, 1) := by decide +kernel
theorem dX6_isFit_1 : decode cX6_isFit 1 = .ok (.tableswitch 66 0 3 #[31, 40, 49, 57], 31) := by decide +kernel
theorem dX6_isFit_32 : decode cX6_isFit 32 = .ok (.iload_n 1, 1) := by decide +kernel
theorem dX6_isFit_33 : decode cX6_isFit 33 = .ok (.iconst 0, 1) := by decide +kernel
theorem dX6_isFit_34 : decode cX6_isFit 34 = .ok (.sipush 999, 3) := by decide +kernel
theorem dX6_isFit_37 : decode cX6_isFit 37 = .ok (.invokestatic 97, 3) := by decide +kernel
theorem dX6_isFit_40 : decode cX6_isFit 40 = .ok (.ireturn, 1) := by decide +kernel
theorem dX6_isFit_41 : decode cX6_isFit 41 = .ok (.iload_n 1, 1) := by decide +kernel
theorem dX6_isFit_42 : decode cX6_isFit 42 = .ok (.bipush (-99), 2) := by decide +kernel
theorem dX6_isFit_44 : decode cX6_isFit 44 = .ok (.bipush 99, 2) := by decide +kernel
theorem dX6_isFit_46 : decode cX6_isFit 46 = .ok (.invokestatic 97, 3) := by decide +kernel
theorem dX6_isFit_49 : decode cX6_isFit 49 = .ok (.ireturn, 1) := by decide +kernel
theorem dX6_isFit_50 : decode cX6_isFit 50 = .ok (.iload_n 1, 1) := by decide +kernel
theorem dX6_isFit_51 : decode cX6_isFit 51 = .ok (.iconst 0, 1) := by decide +kernel
theorem dX6_isFit_52 : decode cX6_isFit 52 = .ok (.bipush 9, 2) := by decide +kernel
theorem dX6_isFit_54 : decode cX6_isFit 54 = .ok (.invokestatic 97, 3) := by decide +kernel
theorem dX6_isFit_57 : decode cX6_isFit 57 = .ok (.ireturn, 1) := by decide +kernel
theorem dX6_isFit_58 : decode cX6_isFit 58 = .ok (.iload_n 1, 1) := by decide +kernel
theorem dX6_isFit_59 : decode cX6_isFit 59 = .ok (.iconst 0, 1) := by decide +kernel
theorem dX6_isFit_60 : decode cX6_isFit 60 = .ok (.sipush 9999, 3) := by decide +kernel
theorem dX6_isFit_63 : decode cX6_isFit 63 = .ok (.invokestatic 97, 3) := by decide +kernel
theorem dX6_isFit_66 : decode cX6_isFit 66 = .ok (.ireturn, 1) := by decide +kernel
theorem dX6_isFit_67 : decode cX6_isFit 67 = .ok (.iload_n 1, 1) := by decide +kernel
theorem dX6_isFit_68 : decode cX6_isFit 68 = .ok (.iconst 0, 1) := by decide +kernel
theorem dX6_isFit_69 : decode cX6_isFit 69 = .ok (.iconst 1, 1) := by decide +kernel
theorem dX6_isFit_70 : decode cX6_isFit 70 = .ok (.invokestatic 97, 3) := by decide +kernel
theorem dX6_isFit_73 : decode cX6_isFit 73 = .ok (.ireturn, 1) := by decide +kernel
theorem dX6_get_0 : decode cX6_get 0 = .ok (.iload_n 1, 1) := by decide +kernel
theorem dX6_get_1 : decode cX6_get 1 = .ok (.tableswitch 57 0 3 #[31, 36, 43, 50], 31) := by decide +kernel
theorem dX6_get_32 : decode cX6_get 32 = .ok (.aload_n 0, 1) := by decide +kernel
theorem dX6_get_33 : decode cX6_get 33 = .ok (.getfield 108, 3) := by decide +kernel
theorem dX6_get_36 : decode cX6_get 36 = .ok (.ireturn, 1) := by decide +kernel
theorem dX6_get_37 : decode cX6_get 37 = .ok (.aload_n 0, 1) := by decide +kernel
theorem dX6_get_38 : decode cX6_get 38 = .ok (.getfield 7, 3) := by decide +kernel
theorem dX6_get_41 : decode cX6_get 41 = .ok (.iload_n 2, 1) := by decide +kernel
theorem dX6_get_42 : decode cX6_get 42 = .ok (.iaload, 1) := by decide +kernel
theorem dX6_get_43 : decode cX6_get 43 = .ok (.ireturn, 1) := by decide +kernel
theorem dX6_get_44 : decode cX6_get 44 = .ok (.aload_n 0, 1) := by decide +kernel
theorem dX6_get_45 : decode cX6_get 45 = .ok (.getfield 16, 3) := by decide +kernel
theorem dX6_get_48 : decode cX6_get 48 = .ok (.iload_n 2, 1) := by decide +kernel
theorem dX6_get_49 : decode cX6_get 49 = .ok (.iaload, 1) := by decide +kernel
theorem dX6_get_50 : decode cX6_get 50 = .ok (.ireturn, 1) := by decide +kernel
theorem dX6_get_51 : decode cX6_get 51 = .ok (.aload_n 0, 1) := by decide +kernel
theorem dX6_get_52 : decode cX6_get 52 = .ok (.getfield 25, 3) := by decide +kernel
theorem dX6_get_55 : decode cX6_get 55 = .ok (.iload_n 2, 1) := by decide +kernel
theorem dX6_get_56 : decode cX6_get 56 = .ok (.iaload, 1) := by decide +kernel
theorem dX6_get_57 : decode cX6_get 57 = .ok (.ireturn, 1) := by decide +kernel
theorem dX6_get_58 : decode cX6_get 58 = .ok (.aload_n 0, 1) := by decide +kernel
theorem dX6_get_59 : decode cX6_get 59 = .ok (.getfield 28, 3) := by decide +kernel
theorem dX6_get_62 : decode cX6_get 62 = .ok (.iload_n 2, 1) := by decide +kernel
theorem dX6_get_63 : decode cX6_get 63 = .ok (.baload, 1) := by decide +kernel
theorem dX6_get_64 : decode cX6_get 64 = .ok (.ifCond .eq 7, 3) := by decide +kernel
theorem dX6_get_67 : decode cX6_get 67 = .ok (.iconst 1, 1) := by decide +kernel
theorem dX6_get_68 : decode cX6_get 68 = .ok (.goto 4, 3) := by decide +kernel
theorem dX6_get_71 : decode cX6_get 71 = .ok (.iconst 0, 1) := by decide +kernel
theorem dX6_get_72 : decode cX6_get 72 = .ok (.ireturn, 1) := by decide +kernel
theorem dX6_set_0 : decode cX6_set 0 = .ok (.aload_n 0, 1) := by decide +kernel
theorem dX6_set_1 : decode cX6_set 1 = .ok (.iload_n 1, 1) := by decide +kernel
theorem dX6_set_2 : decode cX6_set 2 = .ok (.iload_n 2, 1) := by decide +kernel
theorem dX6_set_3 : decode cX6_set 3 = .ok (.invokevirtual 111, 3) := by decide +kernel
theorem dX6_set_6 : decode cX6_set 6 = .ok (.ifCond .eq 11, 3) := by decide +kernel
theorem dX6_set_9 : decode cX6_set 9 = .ok (.iload_n 1, 1) := by decide +kernel
theorem dX6_set_10 : decode cX6_set 10 = .ok (.iload_n 3, 1) := by decide +kernel
theorem dX6_set_11 : decode cX6_set 11 = .ok (.invokestatic 115, 3) := by decide +kernel
theorem dX6_set_14 : decode cX6_set 14 = .ok (.ifCond .ne 7, 3) := by decide +kernel
theorem dX6_set_17 : decode cX6_set 17 = .ok (.sipush (-1000), 3) := by decide +kernel
theorem dX6_set_20 : decode cX6_set 20 = .ok (.ireturn, 1) := by decide +kernel
theorem dX6_set_21 : decode cX6_set 21 = .ok (.aload_n 0, 1) := by decide +kernel
theorem dX6_set_22 : decode cX6_set 22 = .ok (.iload_n 1, 1) := by decide +kernel
theorem dX6_set_23 : decode cX6_set 23 = .ok (.iload_n 2, 1) := by decide +kernel
theorem dX6_set_24 : decode cX6_set 24 = .ok (.invokevirtual 118, 3) := by decide +kernel
theorem dX6_set_27 : decode cX6_set 27 = .ok (.istore 4, 2) := by decide +kernel
theorem dX6_set_29 : decode cX6_set 29 = .ok (.iload_n 1, 1) := by decide +kernel
theorem dX6_set_30 : decode cX6_set 30 = .ok (.ifCond .ne 11, 3) := by decide +kernel
theorem dX6_set_33 : decode cX6_set 33 = .ok (.aload_n 0, 1) := by decide +kernel
theorem dX6_set_34 : decode cX6_set 34 = .ok (.iload_n 3, 1) := by decide +kernel
theorem dX6_set_35 : decode cX6_set 35 = .ok (.putfield 108, 3) := by decide +kernel
theorem dX6_set_38 : decode cX6_set 38 = .ok (.goto 64, 3) := by decide +kernel
theorem dX6_set_41 : decode cX6_set 41 = .ok (.iload_n 1, 1) := by decide +kernel
theorem dX6_set_42 : decode cX6_set 42 = .ok (.iconst 1, 1) := by decide +kernel
theorem dX6_set_43 : decode cX6_set 43 = .ok (.if_icmp .ne 13, 3) := by decide +kernel
theorem dX6_set_46 : decode cX6_set 46 = .ok (.aload_n 0, 1) := by decide +kernel
theorem dX6_set_47 : decode cX6_set 47 = .ok (.getfield 7, 3) := by decide +kernel
theorem dX6_set_50 : decode cX6_set 50 = .ok (.iload_n 2, 1) := by decide +kernel
theorem dX6_set_51 : decode cX6_set 51 = .ok (.iload_n 3, 1) := by decide +kernel
theorem dX6_set_52 : decode cX6_set 52 = .ok (.iastore, 1) := by decide +kernel
theorem dX6_set_53 : decode cX6_set 53 = .ok (.goto 49, 3) := by decide +kernel
theorem dX6_set_56 : decode cX6_set 56 = .ok (.iload_n 1, 1) := by decide +kernel
theorem dX6_set_57 : decode cX6_set 57 = .ok (.iconst 2, 1) := by decide +kernel
theorem dX6_set_58 : decode cX6_set 58 = .ok (.if_icmp .ne 13, 3) := by decide +kernel
theorem dX6_set_61 : decode cX6_set 61 = .ok (.aload_n 0, 1) := by decide +kernel
theorem dX6_set_62 : decode cX6_set 62 = .ok (.getfield 16, 3) := by decide +kernel
theorem dX6_set_65 : decode cX6_set 65 = .ok (.iload_n 2, 1) := by decide +kernel
theorem dX6_set_66 : decode cX6_set 66 = .ok (.iload_n 3, 1) := by decide +kernel
theorem dX6_set_67 : decode cX6_set 67 = .ok (.iastore, 1) := by decide +kernel
theorem dX6_set_68 : decode cX6_set 68 = .ok (.goto 34, 3) := by decide +kernel
theorem dX6_set_71 : decode cX6_set 71 = .ok (.iload_n 1, 1) := by decide +kernel
theorem dX6_set_72 : decode cX6_set 72 = .ok (.iconst 3, 1) := by decide +kernel
theorem dX6_set_73 : decode cX6_set 73 = .ok (.if_icmp .ne 13, 3) := by decide +kernel
theorem dX6_set_76 : decode cX6_set 76 = .ok (.aload_n 0, 1) := by decide +kernel
theorem dX6_set_77 : decode cX6_set 77 = .ok (.getfield 25, 3) := by decide +kernel
theorem dX6_set_80 : decode cX6_set 80 = .ok (.iload_n 2, 1) := by decide +kernel
theorem dX6_set_81 : decode cX6_set 81 = .ok (.iload_n 3, 1) := by decide +kernel
theorem dX6_set_82 : decode cX6_set 82 = .ok (.iastore, 1) := by decide +kernel
theorem dX6_set_83 : decode cX6_set 83 = .ok (.goto 19, 3) := by decide +kernel
theorem dX6_set_86 : decode cX6_set 86 = .ok (.aload_n 0, 1) := by decide +kernel
theorem dX6_set_87 : decode cX6_set 87 = .ok (.getfield 28, 3) := by decide +kernel
theorem dX6_set_90 : decode cX6_set 90 = .ok (.iload_n 2, 1) := by decide +kernel
theorem dX6_set_91 : decode cX6_set 91 = .ok (.iload_n 3, 1) := by decide +kernel
theorem dX6_set_92 : decode cX6_set 92 = .ok (.iconst 1, 1) := by decide +kernel
theorem dX6_set_93 : decode cX6_set 93 = .ok (.if_icmp .ne 7, 3) := by decide +kernel
theorem dX6_set_96 : decode cX6_set 96 = .ok (.iconst 1, 1) := by decide +kernel
theorem dX6_set_97 : decode cX6_set 97 = .ok (.goto 4, 3) := by decide +kernel
theorem dX6_set_100 : decode cX6_set 100 = .ok (.iconst 0, 1) := by decide +kernel
theorem dX6_set_101 : decode cX6_set 101 = .ok (.bastore, 1) := by decide +kernel
theorem dX6_set_102 : decode cX6_set 102 = .ok (.iload 4, 2) := by decide +kernel
theorem dX6_set_104 : decode cX6_set 104 = .ok (.ireturn, 1) := by decide +kernel
theorem dX6_newSeam_0 : decode cX6_newSeam 0 = .ok (.aload_n 0, 1) := by decide +kernel
theorem dX6_newSeam_1 : decode cX6_newSeam 1 = .ok (.getfield 13, 3) := by decide +kernel
theorem dX6_newSeam_4 : decode cX6_newSeam 4 = .ok (.aload_n 0, 1) := by decide +kernel
theorem dX6_newSeam_5 : decode cX6_newSeam 5 = .ok (.getfield 94, 3) := by decide +kernel
theorem dX6_newSeam_8 : decode cX6_newSeam 8 = .ok (.iload_n 1, 1) := by decide +kernel
theorem dX6_newSeam_9 : decode cX6_newSeam 9 = .ok (.iastore, 1) := by decide +kernel
theorem dX6_newSeam_10 : decode cX6_newSeam 10 = .ok (.aload_n 0, 1) := by decide +kernel
theorem dX6_newSeam_11 : decode cX6_newSeam 11 = .ok (.getfield 16, 3) := by decide +kernel
theorem dX6_newSeam_14 : decode cX6_newSeam 14 = .ok (.aload_n 0, 1) := by decide +kernel
theorem dX6_newSeam_15 : decode cX6_newSeam 15 = .ok (.getfield 94, 3) := by decide +kernel
theorem dX6_newSeam_18 : decode cX6_newSeam 18 = .ok (.iload_n 2, 1) := by decide +kernel
theorem dX6_newSeam_19 : decode cX6_newSeam 19 = .ok (.iastore, 1) := by decide +kernel
theorem dX6_newSeam_20 : decode cX6_newSeam 20 = .ok (.aload_n 0, 1) := by decide +kernel
theorem dX6_newSeam_21 : decode cX6_newSeam 21 = .ok (.getfield 19, 3) := by decide +kernel
theorem dX6_newSeam_24 : decode cX6_newSeam 24 = .ok (.aload_n 0, 1) := by decide +kernel
theorem dX6_newSeam_25 : decode cX6_newSeam 25 = .ok (.getfield 94, 3) := by decide +kernel
theorem dX6_newSeam_28 : decode cX6_newSeam 28 = .ok (.iload_n 3, 1) := by decide +kernel
theorem dX6_newSeam_29 : decode cX6_newSeam 29 = .ok (.iastore, 1) := by decide +kernel
theorem dX6_newSeam_30 : decode cX6_newSeam 30 = .ok (.aload_n 0, 1) := by decide +kernel
theorem dX6_newSeam_31 : decode cX6_newSeam 31 = .ok (.getfield 22, 3) := by decide +kernel
theorem dX6_newSeam_34 : decode cX6_newSeam 34 = .ok (.aload_n 0, 1) := by decide +kernel
theorem dX6_newSeam_35 : decode cX6_newSeam 35 = .ok (.getfield 94, 3) := by decide +kernel
theorem dX6_newSeam_38 : decode cX6_newSeam 38 = .ok (.iload 4, 2) := by decide +kernel
theorem dX6_newSeam_40 : decode cX6_newSeam 40 = .ok (.iastore, 1) := by decide +kernel
theorem dX6_newSeam_41 : decode cX6_newSeam 41 = .ok (.aload_n 0, 1) := by decide +kernel
theorem dX6_newSeam_42 : decode cX6_newSeam 42 = .ok (.getfield 25, 3) := by decide +kernel
theorem dX6_newSeam_45 : decode cX6_newSeam 45 = .ok (.aload_n 0, 1) := by decide +kernel
theorem dX6_newSeam_46 : decode cX6_newSeam 46 = .ok (.getfield 94, 3) := by decide +kernel
theorem dX6_newSeam_49 : decode cX6_newSeam 49 = .ok (.iconst 0, 1) := by decide +kernel
theorem dX6_newSeam_50 : decode cX6_newSeam 50 = .ok (.iastore, 1) := by decide +kernel
theorem dX6_newSeam_51 : decode cX6_newSeam 51 = .ok (.aload_n 0, 1) := by decide +kernel
theorem dX6_newSeam_52 : decode cX6_newSeam 52 = .ok (.getfield 28, 3) := by decide +kernel
theorem dX6_newSeam_55 : decode cX6_newSeam 55 = .ok (.aload_n 0, 1) := by decide +kernel
theorem dX6_newSeam_56 : decode cX6_newSeam 56 = .ok (.getfield 94, 3) := by decide +kernel
theorem dX6_newSeam_59 : decode cX6_newSeam 59 = .ok (.iconst 0, 1) := by decide +kernel
theorem dX6_newSeam_60 : decode cX6_newSeam 60 = .ok (.bastore, 1) := by decide +kernel
theorem dX6_newSeam_61 : decode cX6_newSeam 61 = .ok (.aload_n 0, 1) := by decide +kernel
theorem dX6_newSeam_62 : decode cX6_newSeam 62 = .ok (.dup, 1) := by decide +kernel
theorem dX6_newSeam_63 : decode cX6_newSeam 63 = .ok (.getfield 94, 3) := by decide +kernel
theorem dX6_newSeam_66 : decode cX6_newSeam 66 = .ok (.dup_x1, 1) := by decide +kernel
theorem dX6_newSeam_67 : decode cX6_newSeam 67 = .ok (.iconst 1, 1) := by decide +kernel
theorem dX6_newSeam_68 : decode cX6_newSeam 68 = .ok (.iadd, 1) := by decide +kernel
theorem dX6_newSeam_69 : decode cX6_newSeam 69 = .ok (.putfield 94, 3) := by decide +kernel
theorem dX6_newSeam_72 : decode cX6_newSeam 72 = .ok (.ireturn, 1) := by decide +kernel
theorem dX6_seam_0 : decode cX6_seam 0 = .ok (.iload_n 1, 1) := by decide +kernel
theorem dX6_seam_1 : decode cX6_seam 1 = .ok (.iconst 0, 1) := by decide +kernel
theorem dX6_seam_2 : decode cX6_seam 2 = .ok (.iconst 5, 1) := by decide +kernel
theorem dX6_seam_3 : decode cX6_seam 3 = .ok (.invokestatic 97, 3) := by decide +kernel
theorem dX6_seam_6 : decode cX6_seam 6 = .ok (.ifCond .eq 43, 3) := by decide +kernel
theorem dX6_seam_9 : decode cX6_seam 9 = .ok (.iload_n 2, 1) := by decide +kernel
theorem dX6_seam_10 : decode cX6_seam 10 = .ok (.iconst 0, 1) := by decide +kernel
theorem dX6_seam_11 : decode cX6_seam 11 = .ok (.bipush 9, 2) := by decide +kernel
theorem dX6_seam_13 : decode cX6_seam 13 = .ok (.invokestatic 97, 3) := by decide +kernel
theorem dX6_seam_16 : decode cX6_seam 16 = .ok (.ifCond .eq 33, 3) := by decide +kernel
theorem dX6_seam_19 : decode cX6_seam 19 = .ok (.iload_n 3, 1) := by decide +kernel
theorem dX6_seam_20 : decode cX6_seam 20 = .ok (.ifCond .lt 29, 3) := by decide +kernel
theorem dX6_seam_23 : decode cX6_seam 23 = .ok (.iload_n 3, 1) := by decide +kernel
theorem dX6_seam_24 : decode cX6_seam 24 = .ok (.bipush 100, 2) := by decide +kernel
theorem dX6_seam_26 : decode cX6_seam 26 = .ok (.idiv, 1) := by decide +kernel
theorem dX6_seam_27 : decode cX6_seam 27 = .ok (.invokestatic 101, 3) := by decide +kernel
theorem dX6_seam_30 : decode cX6_seam 30 = .ok (.ifCond .eq 19, 3) := by decide +kernel
theorem dX6_seam_33 : decode cX6_seam 33 = .ok (.iload_n 3, 1) := by decide +kernel
theorem dX6_seam_34 : decode cX6_seam 34 = .ok (.bipush 100, 2) := by decide +kernel
theorem dX6_seam_36 : decode cX6_seam 36 = .ok (.irem, 1) := by decide +kernel
theorem dX6_seam_37 : decode cX6_seam 37 = .ok (.iload_n 3, 1) := by decide +kernel
theorem dX6_seam_38 : decode cX6_seam 38 = .ok (.bipush 100, 2) := by decide +kernel
theorem dX6_seam_40 : decode cX6_seam 40 = .ok (.idiv, 1) := by decide +kernel
theorem dX6_seam_41 : decode cX6_seam 41 = .ok (.bipush 15, 2) := by decide +kernel
theorem dX6_seam_43 : decode cX6_seam 43 = .ok (.invokestatic 97, 3) := by decide +kernel
theorem dX6_seam_46 : decode cX6_seam 46 = .ok (.ifCond .ne 6, 3) := by decide +kernel
theorem dX6_seam_49 : decode cX6_seam 49 = .ok (.bipush (-2), 2) := by decide +kernel
theorem dX6_seam_51 : decode cX6_seam 51 = .ok (.ireturn, 1) := by decide +kernel
theorem dX6_seam_52 : decode cX6_seam 52 = .ok (.aload_n 0, 1) := by decide +kernel
theorem dX6_seam_53 : decode cX6_seam 53 = .ok (.getfield 94, 3) := by decide +kernel
theorem dX6_seam_56 : decode cX6_seam 56 = .ok (.bipush 6, 2) := by decide +kernel
theorem dX6_seam_58 : decode cX6_seam 58 = .ok (.if_icmp .ne 8, 3) := by decide +kernel
theorem dX6_seam_61 : decode cX6_seam 61 = .ok (.bipush (-4), 2) := by decide +kernel
theorem dX6_seam_63 : decode cX6_seam 63 = .ok (.goto 17, 3) := by decide +kernel
theorem dX6_seam_66 : decode cX6_seam 66 = .ok (.aload_n 0, 1) := by decide +kernel
theorem dX6_seam_67 : decode cX6_seam 67 = .ok (.iload_n 1, 1) := by decide +kernel
theorem dX6_seam_68 : decode cX6_seam 68 = .ok (.iload_n 2, 1) := by decide +kernel
theorem dX6_seam_69 : decode cX6_seam 69 = .ok (.iload_n 3, 1) := by decide +kernel
theorem dX6_seam_70 : decode cX6_seam 70 = .ok (.bipush 100, 2) := by decide +kernel
theorem dX6_seam_72 : decode cX6_seam 72 = .ok (.idiv, 1) := by decide +kernel
theorem dX6_seam_73 : decode cX6_seam 73 = .ok (.iload_n 3, 1) := by decide +kernel
theorem dX6_seam_74 : decode cX6_seam 74 = .ok (.bipush 100, 2) := by decide +kernel
theorem dX6_seam_76 : decode cX6_seam 76 = .ok (.irem, 1) := by decide +kernel
theorem dX6_seam_77 : decode cX6_seam 77 = .ok (.invokevirtual 122, 3) := by decide +kernel
theorem dX6_seam_80 : decode cX6_seam 80 = .ok (.ireturn, 1) := by decide +kernel
theorem dX6_told_0 : decode cX6_told 0 = .ok (.iload_n 2, 1) := by decide +kernel
theorem dX6_told_1 : decode cX6_told 1 = .ok (.iconst 0, 1) := by decide +kernel
theorem dX6_told_2 : decode cX6_told 2 = .ok (.iconst 4, 1) := by decide +kernel
theorem dX6_told_3 : decode cX6_told 3 = .ok (.invokestatic 97, 3) := by decide +kernel
theorem dX6_told_6 : decode cX6_told 6 = .ok (.ifCond .eq 25, 3) := by decide +kernel
theorem dX6_told_9 : decode cX6_told 9 = .ok (.aload_n 0, 1) := by decide +kernel
theorem dX6_told_10 : decode cX6_told 10 = .ok (.iload_n 2, 1) := by decide +kernel
theorem dX6_told_11 : decode cX6_told 11 = .ok (.iload_n 1, 1) := by decide +kernel
theorem dX6_told_12 : decode cX6_told 12 = .ok (.invokevirtual 111, 3) := by decide +kernel
theorem dX6_told_15 : decode cX6_told 15 = .ok (.ifCond .eq 12, 3) := by decide +kernel
theorem dX6_told_18 : decode cX6_told 18 = .ok (.aload_n 0, 1) := by decide +kernel
theorem dX6_told_19 : decode cX6_told 19 = .ok (.iload_n 2, 1) := by decide +kernel
theorem dX6_told_20 : decode cX6_told 20 = .ok (.iload_n 1, 1) := by decide +kernel
theorem dX6_told_21 : decode cX6_told 21 = .ok (.invokevirtual 118, 3) := by decide +kernel
theorem dX6_told_24 : decode cX6_told 24 = .ok (.goto 6, 3) := by decide +kernel
theorem dX6_told_27 : decode cX6_told 27 = .ok (.sipush (-1000), 3) := by decide +kernel
theorem dX6_told_30 : decode cX6_told 30 = .ok (.ireturn, 1) := by decide +kernel
theorem dX6_told_31 : decode cX6_told 31 = .ok (.iload_n 2, 1) := by decide +kernel
theorem dX6_told_32 : decode cX6_told 32 = .ok (.bipush 10, 2) := by decide +kernel
theorem dX6_told_34 : decode cX6_told 34 = .ok (.bipush 12, 2) := by decide +kernel
theorem dX6_told_36 : decode cX6_told 36 = .ok (.invokestatic 97, 3) := by decide +kernel
theorem dX6_told_39 : decode cX6_told 39 = .ok (.ifCond .eq 62, 3) := by decide +kernel
theorem dX6_told_42 : decode cX6_told 42 = .ok (.iload_n 1, 1) := by decide +kernel
theorem dX6_told_43 : decode cX6_told 43 = .ok (.invokestatic 101, 3) := by decide +kernel
theorem dX6_told_46 : decode cX6_told 46 = .ok (.ifCond .ne 7, 3) := by decide +kernel
theorem dX6_told_49 : decode cX6_told 49 = .ok (.sipush (-1000), 3) := by decide +kernel
theorem dX6_told_52 : decode cX6_told 52 = .ok (.ireturn, 1) := by decide +kernel
theorem dX6_told_53 : decode cX6_told 53 = .ok (.aload_n 0, 1) := by decide +kernel
theorem dX6_told_54 : decode cX6_told 54 = .ok (.invokevirtual 126, 3) := by decide +kernel
theorem dX6_told_57 : decode cX6_told 57 = .ok (.iload_n 2, 1) := by decide +kernel
theorem dX6_told_58 : decode cX6_told 58 = .ok (.bipush 10, 2) := by decide +kernel
theorem dX6_told_60 : decode cX6_told 60 = .ok (.if_icmp .ne 11, 3) := by decide +kernel
theorem dX6_told_63 : decode cX6_told 63 = .ok (.aload_n 0, 1) := by decide +kernel
theorem dX6_told_64 : decode cX6_told 64 = .ok (.iload_n 1, 1) := by decide +kernel
theorem dX6_told_65 : decode cX6_told 65 = .ok (.invokevirtual 129, 3) := by decide +kernel
theorem dX6_told_68 : decode cX6_told 68 = .ok (.goto 32, 3) := by decide +kernel
theorem dX6_told_71 : decode cX6_told 71 = .ok (.iload_n 2, 1) := by decide +kernel
theorem dX6_told_72 : decode cX6_told 72 = .ok (.bipush 11, 2) := by decide +kernel
theorem dX6_told_74 : decode cX6_told 74 = .ok (.if_icmp .ne 20, 3) := by decide +kernel
theorem dX6_told_77 : decode cX6_told 77 = .ok (.aload_n 0, 1) := by decide +kernel
theorem dX6_told_78 : decode cX6_told 78 = .ok (.getfield 50, 3) := by decide +kernel
theorem dX6_told_81 : decode cX6_told 81 = .ok (.iload_n 1, 1) := by decide +kernel
theorem dX6_told_82 : decode cX6_told 82 = .ok (.baload, 1) := by decide +kernel
theorem dX6_told_83 : decode cX6_told 83 = .ok (.ifCond .eq 7, 3) := by decide +kernel
theorem dX6_told_86 : decode cX6_told 86 = .ok (.iconst 1, 1) := by decide +kernel
theorem dX6_told_87 : decode cX6_told 87 = .ok (.goto 13, 3) := by decide +kernel
theorem dX6_told_90 : decode cX6_told 90 = .ok (.iconst 0, 1) := by decide +kernel
theorem dX6_told_91 : decode cX6_told 91 = .ok (.goto 9, 3) := by decide +kernel
theorem dX6_told_94 : decode cX6_told 94 = .ok (.aload_n 0, 1) := by decide +kernel
theorem dX6_told_95 : decode cX6_told 95 = .ok (.getfield 56, 3) := by decide +kernel
theorem dX6_told_98 : decode cX6_told 98 = .ok (.iload_n 1, 1) := by decide +kernel
theorem dX6_told_99 : decode cX6_told 99 = .ok (.iaload, 1) := by decide +kernel
theorem dX6_told_100 : decode cX6_told 100 = .ok (.ireturn, 1) := by decide +kernel
theorem dX6_told_101 : decode cX6_told 101 = .ok (.aload_n 0, 1) := by decide +kernel
theorem dX6_told_102 : decode cX6_told 102 = .ok (.iload_n 1, 1) := by decide +kernel
theorem dX6_told_103 : decode cX6_told 103 = .ok (.invokevirtual 105, 3) := by decide +kernel
theorem dX6_told_106 : decode cX6_told 106 = .ok (.ifCond .ne 7, 3) := by decide +kernel
theorem dX6_told_109 : decode cX6_told 109 = .ok (.sipush (-1000), 3) := by decide +kernel
theorem dX6_told_112 : decode cX6_told 112 = .ok (.ireturn, 1) := by decide +kernel
theorem dX6_told_113 : decode cX6_told 113 = .ok (.iload_n 2, 1) := by decide +kernel
theorem dX6_told_114 : decode cX6_told 114 = .ok (.tableswitch 67 5 9 #[34, 41, 48, 55, 61], 34) := by decide +kernel
theorem dX6_told_148 : decode cX6_told 148 = .ok (.aload_n 0, 1) := by decide +kernel
theorem dX6_told_149 : decode cX6_told 149 = .ok (.getfield 13, 3) := by decide +kernel
theorem dX6_told_152 : decode cX6_told 152 = .ok (.iload_n 1, 1) := by decide +kernel
theorem dX6_told_153 : decode cX6_told 153 = .ok (.iaload, 1) := by decide +kernel
theorem dX6_told_154 : decode cX6_told 154 = .ok (.ireturn, 1) := by decide +kernel
theorem dX6_told_155 : decode cX6_told 155 = .ok (.aload_n 0, 1) := by decide +kernel
theorem dX6_told_156 : decode cX6_told 156 = .ok (.getfield 19, 3) := by decide +kernel
theorem dX6_told_159 : decode cX6_told 159 = .ok (.iload_n 1, 1) := by decide +kernel
theorem dX6_told_160 : decode cX6_told 160 = .ok (.iaload, 1) := by decide +kernel
theorem dX6_told_161 : decode cX6_told 161 = .ok (.ireturn, 1) := by decide +kernel
theorem dX6_told_162 : decode cX6_told 162 = .ok (.aload_n 0, 1) := by decide +kernel
theorem dX6_told_163 : decode cX6_told 163 = .ok (.getfield 22, 3) := by decide +kernel
theorem dX6_told_166 : decode cX6_told 166 = .ok (.iload_n 1, 1) := by decide +kernel
theorem dX6_told_167 : decode cX6_told 167 = .ok (.iaload, 1) := by decide +kernel
theorem dX6_told_168 : decode cX6_told 168 = .ok (.ireturn, 1) := by decide +kernel
theorem dX6_told_169 : decode cX6_told 169 = .ok (.aload_n 0, 1) := by decide +kernel
theorem dX6_told_170 : decode cX6_told 170 = .ok (.iload_n 1, 1) := by decide +kernel
theorem dX6_told_171 : decode cX6_told 171 = .ok (.invokevirtual 133, 3) := by decide +kernel
theorem dX6_told_174 : decode cX6_told 174 = .ok (.ireturn, 1) := by decide +kernel
theorem dX6_told_175 : decode cX6_told 175 = .ok (.aload_n 0, 1) := by decide +kernel
theorem dX6_told_176 : decode cX6_told 176 = .ok (.iload_n 1, 1) := by decide +kernel
theorem dX6_told_177 : decode cX6_told 177 = .ok (.invokevirtual 136, 3) := by decide +kernel
theorem dX6_told_180 : decode cX6_told 180 = .ok (.ireturn, 1) := by decide +kernel
theorem dX6_told_181 : decode cX6_told 181 = .ok (.sipush (-1000), 3) := by decide +kernel
theorem dX6_told_184 : decode cX6_told 184 = .ok (.ireturn, 1) := by decide +kernel
theorem dX6_feed_0 : decode cX6_feed 0 = .ok (.iload_n 1, 1) := by decide +kernel
theorem dX6_feed_1 : decode cX6_feed 1 = .ok (.iconst 0, 1) := by decide +kernel
theorem dX6_feed_2 : decode cX6_feed 2 = .ok (.sipush 255, 3) := by decide +kernel
theorem dX6_feed_5 : decode cX6_feed 5 = .ok (.invokestatic 97, 3) := by decide +kernel
theorem dX6_feed_8 : decode cX6_feed 8 = .ok (.ifCond .ne 6, 3) := by decide +kernel
theorem dX6_feed_11 : decode cX6_feed 11 = .ok (.bipush (-2), 2) := by decide +kernel
theorem dX6_feed_13 : decode cX6_feed 13 = .ok (.ireturn, 1) := by decide +kernel
theorem dX6_feed_14 : decode cX6_feed 14 = .ok (.aload_n 0, 1) := by decide +kernel
theorem dX6_feed_15 : decode cX6_feed 15 = .ok (.getfield 139, 3) := by decide +kernel
theorem dX6_feed_18 : decode cX6_feed 18 = .ok (.sipush 160, 3) := by decide +kernel
theorem dX6_feed_21 : decode cX6_feed 21 = .ok (.if_icmp .ne 6, 3) := by decide +kernel
theorem dX6_feed_24 : decode cX6_feed 24 = .ok (.bipush (-4), 2) := by decide +kernel
theorem dX6_feed_26 : decode cX6_feed 26 = .ok (.ireturn, 1) := by decide +kernel
theorem dX6_feed_27 : decode cX6_feed 27 = .ok (.aload_n 0, 1) := by decide +kernel
theorem dX6_feed_28 : decode cX6_feed 28 = .ok (.getfield 32, 3) := by decide +kernel
theorem dX6_feed_31 : decode cX6_feed 31 = .ok (.aload_n 0, 1) := by decide +kernel
theorem dX6_feed_32 : decode cX6_feed 32 = .ok (.dup, 1) := by decide +kernel
theorem dX6_feed_33 : decode cX6_feed 33 = .ok (.getfield 139, 3) := by decide +kernel
theorem dX6_feed_36 : decode cX6_feed 36 = .ok (.dup_x1, 1) := by decide +kernel
theorem dX6_feed_37 : decode cX6_feed 37 = .ok (.iconst 1, 1) := by decide +kernel
theorem dX6_feed_38 : decode cX6_feed 38 = .ok (.iadd, 1) := by decide +kernel
theorem dX6_feed_39 : decode cX6_feed 39 = .ok (.putfield 139, 3) := by decide +kernel
theorem dX6_feed_42 : decode cX6_feed 42 = .ok (.iload_n 1, 1) := by decide +kernel
theorem dX6_feed_43 : decode cX6_feed 43 = .ok (.iastore, 1) := by decide +kernel
theorem dX6_feed_44 : decode cX6_feed 44 = .ok (.aload_n 0, 1) := by decide +kernel
theorem dX6_feed_45 : decode cX6_feed 45 = .ok (.getfield 139, 3) := by decide +kernel
theorem dX6_feed_48 : decode cX6_feed 48 = .ok (.ireturn, 1) := by decide +kernel
theorem dX6_isLetter_0 : decode cX6_isLetter 0 = .ok (.iload_n 0, 1) := by decide +kernel
theorem dX6_isLetter_1 : decode cX6_isLetter 1 = .ok (.bipush 97, 2) := by decide +kernel
theorem dX6_isLetter_3 : decode cX6_isLetter 3 = .ok (.if_icmp .lt 13, 3) := by decide +kernel
theorem dX6_isLetter_6 : decode cX6_isLetter 6 = .ok (.iload_n 0, 1) := by decide +kernel
theorem dX6_isLetter_7 : decode cX6_isLetter 7 = .ok (.bipush 122, 2) := by decide +kernel
theorem dX6_isLetter_9 : decode cX6_isLetter 9 = .ok (.if_icmp .gt 7, 3) := by decide +kernel
theorem dX6_isLetter_12 : decode cX6_isLetter 12 = .ok (.iconst 1, 1) := by decide +kernel
theorem dX6_isLetter_13 : decode cX6_isLetter 13 = .ok (.goto 4, 3) := by decide +kernel
theorem dX6_isLetter_16 : decode cX6_isLetter 16 = .ok (.iconst 0, 1) := by decide +kernel
theorem dX6_isLetter_17 : decode cX6_isLetter 17 = .ok (.ireturn, 1) := by decide +kernel
theorem dX6_isDigit_0 : decode cX6_isDigit 0 = .ok (.iload_n 0, 1) := by decide +kernel
theorem dX6_isDigit_1 : decode cX6_isDigit 1 = .ok (.bipush 48, 2) := by decide +kernel
theorem dX6_isDigit_3 : decode cX6_isDigit 3 = .ok (.if_icmp .lt 13, 3) := by decide +kernel
theorem dX6_isDigit_6 : decode cX6_isDigit 6 = .ok (.iload_n 0, 1) := by decide +kernel
theorem dX6_isDigit_7 : decode cX6_isDigit 7 = .ok (.bipush 57, 2) := by decide +kernel
theorem dX6_isDigit_9 : decode cX6_isDigit 9 = .ok (.if_icmp .gt 7, 3) := by decide +kernel
theorem dX6_isDigit_12 : decode cX6_isDigit 12 = .ok (.iconst 1, 1) := by decide +kernel
theorem dX6_isDigit_13 : decode cX6_isDigit 13 = .ok (.goto 4, 3) := by decide +kernel
theorem dX6_isDigit_16 : decode cX6_isDigit 16 = .ok (.iconst 0, 1) := by decide +kernel
theorem dX6_isDigit_17 : decode cX6_isDigit 17 = .ok (.ireturn, 1) := by decide +kernel
theorem dX6_isSign_0 : decode cX6_isSign 0 = .ok (.iload_n 0, 1) := by decide +kernel
theorem dX6_isSign_1 : decode cX6_isSign 1 = .ok (.tableswitch 105 40 61 #[103, 103, 103, 103, 105, 103, 105, 105, 105, 105, 105, 105, 105, 105, 105, 105, 105, 105, 105, 103, 103, 103], 103) := by decide +kernel
theorem dX6_isSign_104 : decode cX6_isSign 104 = .ok (.iconst 1, 1) := by decide +kernel
theorem dX6_isSign_105 : decode cX6_isSign 105 = .ok (.ireturn, 1) := by decide +kernel
theorem dX6_isSign_106 : decode cX6_isSign 106 = .ok (.iconst 0, 1) := by decide +kernel
theorem dX6_isSign_107 : decode cX6_isSign 107 = .ok (.ireturn, 1) := by decide +kernel
theorem dX6_named_0 : decode cX6_named 0 = .ok (.aload_n 0, 1) := by decide +kernel
theorem dX6_named_1 : decode cX6_named 1 = .ok (.getfield 142, 3) := by decide +kernel
theorem dX6_named_4 : decode cX6_named 4 = .ok (.lookupswitch 72 #[(2968, 68), (7720, 66), (464144, 62), (10196893, 70), (175125302, 60), (212302449, 64)], 60) := by decide +kernel
theorem dX6_named_64 : decode cX6_named 64 = .ok (.iconst 0, 1) := by decide +kernel
theorem dX6_named_65 : decode cX6_named 65 = .ok (.ireturn, 1) := by decide +kernel
theorem dX6_named_66 : decode cX6_named 66 = .ok (.iconst 1, 1) := by decide +kernel
theorem dX6_named_67 : decode cX6_named 67 = .ok (.ireturn, 1) := by decide +kernel
theorem dX6_named_68 : decode cX6_named 68 = .ok (.iconst 2, 1) := by decide +kernel
theorem dX6_named_69 : decode cX6_named 69 = .ok (.ireturn, 1) := by decide +kernel
theorem dX6_named_70 : decode cX6_named 70 = .ok (.iconst 3, 1) := by decide +kernel
theorem dX6_named_71 : decode cX6_named 71 = .ok (.ireturn, 1) := by decide +kernel
theorem dX6_named_72 : decode cX6_named 72 = .ok (.iconst 4, 1) := by decide +kernel
theorem dX6_named_73 : decode cX6_named 73 = .ok (.ireturn, 1) := by decide +kernel
theorem dX6_named_74 : decode cX6_named 74 = .ok (.iconst 5, 1) := by decide +kernel
theorem dX6_named_75 : decode cX6_named 75 = .ok (.ireturn, 1) := by decide +kernel
theorem dX6_named_76 : decode cX6_named 76 = .ok (.iconst (-1), 1) := by decide +kernel
theorem dX6_named_77 : decode cX6_named 77 = .ok (.ireturn, 1) := by decide +kernel
theorem dX6_isKey_0 : decode cX6_isKey 0 = .ok (.aload_n 0, 1) := by decide +kernel
theorem dX6_isKey_1 : decode cX6_isKey 1 = .ok (.getfield 142, 3) := by decide +kernel
theorem dX6_isKey_4 : decode cX6_isKey 4 = .ok (.lookupswitch 62 #[(423, 60), (1111, 60), (10631, 60), (8925490, 60), (12322792, 60), (283288069, 60)], 60) := by decide +kernel
theorem dX6_isKey_64 : decode cX6_isKey 64 = .ok (.iconst 1, 1) := by decide +kernel
theorem dX6_isKey_65 : decode cX6_isKey 65 = .ok (.ireturn, 1) := by decide +kernel
theorem dX6_isKey_66 : decode cX6_isKey 66 = .ok (.iconst 0, 1) := by decide +kernel
theorem dX6_isKey_67 : decode cX6_isKey 67 = .ok (.ireturn, 1) := by decide +kernel
theorem dX6_next_0 : decode cX6_next 0 = .ok (.aload_n 0, 1) := by decide +kernel
theorem dX6_next_1 : decode cX6_next 1 = .ok (.aload_n 0, 1) := by decide +kernel
theorem dX6_next_2 : decode cX6_next 2 = .ok (.getfield 145, 3) := by decide +kernel
theorem dX6_next_5 : decode cX6_next 5 = .ok (.putfield 148, 3) := by decide +kernel
theorem dX6_next_8 : decode cX6_next 8 = .ok (.aload_n 0, 1) := by decide +kernel
theorem dX6_next_9 : decode cX6_next 9 = .ok (.getfield 148, 3) := by decide +kernel
theorem dX6_next_12 : decode cX6_next 12 = .ok (.aload_n 0, 1) := by decide +kernel
theorem dX6_next_13 : decode cX6_next 13 = .ok (.getfield 139, 3) := by decide +kernel
theorem dX6_next_16 : decode cX6_next 16 = .ok (.if_icmp .ge 44, 3) := by decide +kernel
theorem dX6_next_19 : decode cX6_next 19 = .ok (.aload_n 0, 1) := by decide +kernel
theorem dX6_next_20 : decode cX6_next 20 = .ok (.getfield 32, 3) := by decide +kernel
theorem dX6_next_23 : decode cX6_next 23 = .ok (.aload_n 0, 1) := by decide +kernel
theorem dX6_next_24 : decode cX6_next 24 = .ok (.getfield 148, 3) := by decide +kernel
theorem dX6_next_27 : decode cX6_next 27 = .ok (.iaload, 1) := by decide +kernel
theorem dX6_next_28 : decode cX6_next 28 = .ok (.bipush 32, 2) := by decide +kernel
theorem dX6_next_30 : decode cX6_next 30 = .ok (.if_icmp .eq 17, 3) := by decide +kernel
theorem dX6_next_33 : decode cX6_next 33 = .ok (.aload_n 0, 1) := by decide +kernel
theorem dX6_next_34 : decode cX6_next 34 = .ok (.getfield 32, 3) := by decide +kernel
theorem dX6_next_37 : decode cX6_next 37 = .ok (.aload_n 0, 1) := by decide +kernel
theorem dX6_next_38 : decode cX6_next 38 = .ok (.getfield 148, 3) := by decide +kernel
theorem dX6_next_41 : decode cX6_next 41 = .ok (.iaload, 1) := by decide +kernel
theorem dX6_next_42 : decode cX6_next 42 = .ok (.bipush 10, 2) := by decide +kernel
theorem dX6_next_44 : decode cX6_next 44 = .ok (.if_icmp .ne 16, 3) := by decide +kernel
theorem dX6_next_47 : decode cX6_next 47 = .ok (.aload_n 0, 1) := by decide +kernel
theorem dX6_next_48 : decode cX6_next 48 = .ok (.dup, 1) := by decide +kernel
theorem dX6_next_49 : decode cX6_next 49 = .ok (.getfield 148, 3) := by decide +kernel
theorem dX6_next_52 : decode cX6_next 52 = .ok (.iconst 1, 1) := by decide +kernel
theorem dX6_next_53 : decode cX6_next 53 = .ok (.iadd, 1) := by decide +kernel
theorem dX6_next_54 : decode cX6_next 54 = .ok (.putfield 148, 3) := by decide +kernel
theorem dX6_next_57 : decode cX6_next 57 = .ok (.goto (-49), 3) := by decide +kernel
theorem dX6_next_60 : decode cX6_next 60 = .ok (.aload_n 0, 1) := by decide +kernel
theorem dX6_next_61 : decode cX6_next 61 = .ok (.aload_n 0, 1) := by decide +kernel
theorem dX6_next_62 : decode cX6_next 62 = .ok (.getfield 148, 3) := by decide +kernel
theorem dX6_next_65 : decode cX6_next 65 = .ok (.putfield 145, 3) := by decide +kernel
theorem dX6_next_68 : decode cX6_next 68 = .ok (.aload_n 0, 1) := by decide +kernel
theorem dX6_next_69 : decode cX6_next 69 = .ok (.iconst 0, 1) := by decide +kernel
theorem dX6_next_70 : decode cX6_next 70 = .ok (.putfield 142, 3) := by decide +kernel
theorem dX6_next_73 : decode cX6_next 73 = .ok (.aload_n 0, 1) := by decide +kernel
theorem dX6_next_74 : decode cX6_next 74 = .ok (.getfield 148, 3) := by decide +kernel
theorem dX6_next_77 : decode cX6_next 77 = .ok (.aload_n 0, 1) := by decide +kernel
theorem dX6_next_78 : decode cX6_next 78 = .ok (.getfield 139, 3) := by decide +kernel
theorem dX6_next_81 : decode cX6_next 81 = .ok (.if_icmp .ne 10, 3) := by decide +kernel
theorem dX6_next_84 : decode cX6_next 84 = .ok (.aload_n 0, 1) := by decide +kernel
theorem dX6_next_85 : decode cX6_next 85 = .ok (.bipush 101, 2) := by decide +kernel
theorem dX6_next_87 : decode cX6_next 87 = .ok (.putfield 151, 3) := by decide +kernel
theorem dX6_next_90 : decode cX6_next 90 = .ok (.return_, 1) := by decide +kernel
theorem dX6_next_91 : decode cX6_next 91 = .ok (.aload_n 0, 1) := by decide +kernel
theorem dX6_next_92 : decode cX6_next 92 = .ok (.getfield 32, 3) := by decide +kernel
theorem dX6_next_95 : decode cX6_next 95 = .ok (.aload_n 0, 1) := by decide +kernel
theorem dX6_next_96 : decode cX6_next 96 = .ok (.getfield 148, 3) := by decide +kernel
theorem dX6_next_99 : decode cX6_next 99 = .ok (.iaload, 1) := by decide +kernel
theorem dX6_next_100 : decode cX6_next 100 = .ok (.istore_n 1, 1) := by decide +kernel
theorem dX6_next_101 : decode cX6_next 101 = .ok (.iload_n 1, 1) := by decide +kernel
theorem dX6_next_102 : decode cX6_next 102 = .ok (.invokestatic 154, 3) := by decide +kernel
theorem dX6_next_105 : decode cX6_next 105 = .ok (.ifCond .eq 128, 3) := by decide +kernel
theorem dX6_next_108 : decode cX6_next 108 = .ok (.aload_n 0, 1) := by decide +kernel
theorem dX6_next_109 : decode cX6_next 109 = .ok (.getfield 145, 3) := by decide +kernel
theorem dX6_next_112 : decode cX6_next 112 = .ok (.aload_n 0, 1) := by decide +kernel
theorem dX6_next_113 : decode cX6_next 113 = .ok (.getfield 139, 3) := by decide +kernel
theorem dX6_next_116 : decode cX6_next 116 = .ok (.if_icmp .ge 69, 3) := by decide +kernel
theorem dX6_next_119 : decode cX6_next 119 = .ok (.aload_n 0, 1) := by decide +kernel
theorem dX6_next_120 : decode cX6_next 120 = .ok (.getfield 32, 3) := by decide +kernel
theorem dX6_next_123 : decode cX6_next 123 = .ok (.aload_n 0, 1) := by decide +kernel
theorem dX6_next_124 : decode cX6_next 124 = .ok (.getfield 145, 3) := by decide +kernel
theorem dX6_next_127 : decode cX6_next 127 = .ok (.iaload, 1) := by decide +kernel
theorem dX6_next_128 : decode cX6_next 128 = .ok (.invokestatic 154, 3) := by decide +kernel
theorem dX6_next_131 : decode cX6_next 131 = .ok (.ifCond .eq 54, 3) := by decide +kernel
theorem dX6_next_134 : decode cX6_next 134 = .ok (.aload_n 0, 1) := by decide +kernel
theorem dX6_next_135 : decode cX6_next 135 = .ok (.getfield 145, 3) := by decide +kernel
theorem dX6_next_138 : decode cX6_next 138 = .ok (.aload_n 0, 1) := by decide +kernel
theorem dX6_next_139 : decode cX6_next 139 = .ok (.getfield 148, 3) := by decide +kernel
theorem dX6_next_142 : decode cX6_next 142 = .ok (.isub, 1) := by decide +kernel
theorem dX6_next_143 : decode cX6_next 143 = .ok (.bipush 6, 2) := by decide +kernel
theorem dX6_next_145 : decode cX6_next 145 = .ok (.if_icmp .ge 27, 3) := by decide +kernel
theorem dX6_next_148 : decode cX6_next 148 = .ok (.aload_n 0, 1) := by decide +kernel
theorem dX6_next_149 : decode cX6_next 149 = .ok (.bipush 27, 2) := by decide +kernel
theorem dX6_next_151 : decode cX6_next 151 = .ok (.aload_n 0, 1) := by decide +kernel
theorem dX6_next_152 : decode cX6_next 152 = .ok (.getfield 142, 3) := by decide +kernel
theorem dX6_next_155 : decode cX6_next 155 = .ok (.imul, 1) := by decide +kernel
theorem dX6_next_156 : decode cX6_next 156 = .ok (.aload_n 0, 1) := by decide +kernel
theorem dX6_next_157 : decode cX6_next 157 = .ok (.getfield 32, 3) := by decide +kernel
theorem dX6_next_160 : decode cX6_next 160 = .ok (.aload_n 0, 1) := by decide +kernel
theorem dX6_next_161 : decode cX6_next 161 = .ok (.getfield 145, 3) := by decide +kernel
theorem dX6_next_164 : decode cX6_next 164 = .ok (.iaload, 1) := by decide +kernel
theorem dX6_next_165 : decode cX6_next 165 = .ok (.iadd, 1) := by decide +kernel
theorem dX6_next_166 : decode cX6_next 166 = .ok (.bipush 96, 2) := by decide +kernel
theorem dX6_next_168 : decode cX6_next 168 = .ok (.isub, 1) := by decide +kernel
theorem dX6_next_169 : decode cX6_next 169 = .ok (.putfield 142, 3) := by decide +kernel
theorem dX6_next_172 : decode cX6_next 172 = .ok (.aload_n 0, 1) := by decide +kernel
theorem dX6_next_173 : decode cX6_next 173 = .ok (.dup, 1) := by decide +kernel
theorem dX6_next_174 : decode cX6_next 174 = .ok (.getfield 145, 3) := by decide +kernel
theorem dX6_next_177 : decode cX6_next 177 = .ok (.iconst 1, 1) := by decide +kernel
theorem dX6_next_178 : decode cX6_next 178 = .ok (.iadd, 1) := by decide +kernel
theorem dX6_next_179 : decode cX6_next 179 = .ok (.putfield 145, 3) := by decide +kernel
theorem dX6_next_182 : decode cX6_next 182 = .ok (.goto (-74), 3) := by decide +kernel
theorem dX6_next_185 : decode cX6_next 185 = .ok (.aload_n 0, 1) := by decide +kernel
theorem dX6_next_186 : decode cX6_next 186 = .ok (.getfield 145, 3) := by decide +kernel
theorem dX6_next_189 : decode cX6_next 189 = .ok (.aload_n 0, 1) := by decide +kernel
theorem dX6_next_190 : decode cX6_next 190 = .ok (.getfield 148, 3) := by decide +kernel
theorem dX6_next_193 : decode cX6_next 193 = .ok (.isub, 1) := by decide +kernel
theorem dX6_next_194 : decode cX6_next 194 = .ok (.bipush 6, 2) := by decide +kernel
theorem dX6_next_196 : decode cX6_next 196 = .ok (.if_icmp .le 8, 3) := by decide +kernel
theorem dX6_next_199 : decode cX6_next 199 = .ok (.aload_n 0, 1) := by decide +kernel
theorem dX6_next_200 : decode cX6_next 200 = .ok (.iconst (-1), 1) := by decide +kernel
theorem dX6_next_201 : decode cX6_next 201 = .ok (.putfield 142, 3) := by decide +kernel
theorem dX6_next_204 : decode cX6_next 204 = .ok (.aload_n 0, 1) := by decide +kernel
theorem dX6_next_205 : decode cX6_next 205 = .ok (.aload_n 0, 1) := by decide +kernel
theorem dX6_next_206 : decode cX6_next 206 = .ok (.invokevirtual 157, 3) := by decide +kernel
theorem dX6_next_209 : decode cX6_next 209 = .ok (.iconst (-1), 1) := by decide +kernel
theorem dX6_next_210 : decode cX6_next 210 = .ok (.if_icmp .ne 15, 3) := by decide +kernel
theorem dX6_next_213 : decode cX6_next 213 = .ok (.aload_n 0, 1) := by decide +kernel
theorem dX6_next_214 : decode cX6_next 214 = .ok (.invokevirtual 161, 3) := by decide +kernel
theorem dX6_next_217 : decode cX6_next 217 = .ok (.ifCond .ne 8, 3) := by decide +kernel
theorem dX6_next_220 : decode cX6_next 220 = .ok (.bipush 120, 2) := by decide +kernel
theorem dX6_next_222 : decode cX6_next 222 = .ok (.goto 5, 3) := by decide +kernel
theorem dX6_next_225 : decode cX6_next 225 = .ok (.bipush 119, 2) := by decide +kernel
theorem dX6_next_227 : decode cX6_next 227 = .ok (.putfield 151, 3) := by decide +kernel
theorem dX6_next_230 : decode cX6_next 230 = .ok (.goto 145, 3) := by decide +kernel
theorem dX6_next_233 : decode cX6_next 233 = .ok (.iload_n 1, 1) := by decide +kernel
theorem dX6_next_234 : decode cX6_next 234 = .ok (.invokestatic 165, 3) := by decide +kernel
theorem dX6_next_237 : decode cX6_next 237 = .ok (.ifCond .eq 111, 3) := by decide +kernel
theorem dX6_next_240 : decode cX6_next 240 = .ok (.aload_n 0, 1) := by decide +kernel
theorem dX6_next_241 : decode cX6_next 241 = .ok (.iconst 0, 1) := by decide +kernel
theorem dX6_next_242 : decode cX6_next 242 = .ok (.putfield 168, 3) := by decide +kernel
theorem dX6_next_245 : decode cX6_next 245 = .ok (.aload_n 0, 1) := by decide +kernel
theorem dX6_next_246 : decode cX6_next 246 = .ok (.getfield 145, 3) := by decide +kernel
theorem dX6_next_249 : decode cX6_next 249 = .ok (.aload_n 0, 1) := by decide +kernel
theorem dX6_next_250 : decode cX6_next 250 = .ok (.getfield 139, 3) := by decide +kernel
theorem dX6_next_253 : decode cX6_next 253 = .ok (.if_icmp .ge 68, 3) := by decide +kernel
theorem dX6_next_256 : decode cX6_next 256 = .ok (.aload_n 0, 1) := by decide +kernel
theorem dX6_next_257 : decode cX6_next 257 = .ok (.getfield 32, 3) := by decide +kernel
theorem dX6_next_260 : decode cX6_next 260 = .ok (.aload_n 0, 1) := by decide +kernel
theorem dX6_next_261 : decode cX6_next 261 = .ok (.getfield 145, 3) := by decide +kernel
theorem dX6_next_264 : decode cX6_next 264 = .ok (.iaload, 1) := by decide +kernel
theorem dX6_next_265 : decode cX6_next 265 = .ok (.invokestatic 165, 3) := by decide +kernel
theorem dX6_next_268 : decode cX6_next 268 = .ok (.ifCond .eq 53, 3) := by decide +kernel
theorem dX6_next_271 : decode cX6_next 271 = .ok (.aload_n 0, 1) := by decide +kernel
theorem dX6_next_272 : decode cX6_next 272 = .ok (.getfield 145, 3) := by decide +kernel
theorem dX6_next_275 : decode cX6_next 275 = .ok (.aload_n 0, 1) := by decide +kernel
theorem dX6_next_276 : decode cX6_next 276 = .ok (.getfield 148, 3) := by decide +kernel
theorem dX6_next_279 : decode cX6_next 279 = .ok (.isub, 1) := by decide +kernel
theorem dX6_next_280 : decode cX6_next 280 = .ok (.iconst 4, 1) := by decide +kernel
theorem dX6_next_281 : decode cX6_next 281 = .ok (.if_icmp .ge 27, 3) := by decide +kernel
theorem dX6_next_284 : decode cX6_next 284 = .ok (.aload_n 0, 1) := by decide +kernel
theorem dX6_next_285 : decode cX6_next 285 = .ok (.bipush 10, 2) := by decide +kernel
theorem dX6_next_287 : decode cX6_next 287 = .ok (.aload_n 0, 1) := by decide +kernel
theorem dX6_next_288 : decode cX6_next 288 = .ok (.getfield 168, 3) := by decide +kernel
theorem dX6_next_291 : decode cX6_next 291 = .ok (.imul, 1) := by decide +kernel
theorem dX6_next_292 : decode cX6_next 292 = .ok (.aload_n 0, 1) := by decide +kernel
theorem dX6_next_293 : decode cX6_next 293 = .ok (.getfield 32, 3) := by decide +kernel
theorem dX6_next_296 : decode cX6_next 296 = .ok (.aload_n 0, 1) := by decide +kernel
theorem dX6_next_297 : decode cX6_next 297 = .ok (.getfield 145, 3) := by decide +kernel
theorem dX6_next_300 : decode cX6_next 300 = .ok (.iaload, 1) := by decide +kernel
theorem dX6_next_301 : decode cX6_next 301 = .ok (.iadd, 1) := by decide +kernel
theorem dX6_next_302 : decode cX6_next 302 = .ok (.bipush 48, 2) := by decide +kernel
theorem dX6_next_304 : decode cX6_next 304 = .ok (.isub, 1) := by decide +kernel
theorem dX6_next_305 : decode cX6_next 305 = .ok (.putfield 168, 3) := by decide +kernel
theorem dX6_next_308 : decode cX6_next 308 = .ok (.aload_n 0, 1) := by decide +kernel
theorem dX6_next_309 : decode cX6_next 309 = .ok (.dup, 1) := by decide +kernel
theorem dX6_next_310 : decode cX6_next 310 = .ok (.getfield 145, 3) := by decide +kernel
theorem dX6_next_313 : decode cX6_next 313 = .ok (.iconst 1, 1) := by decide +kernel
theorem dX6_next_314 : decode cX6_next 314 = .ok (.iadd, 1) := by decide +kernel
theorem dX6_next_315 : decode cX6_next 315 = .ok (.putfield 145, 3) := by decide +kernel
theorem dX6_next_318 : decode cX6_next 318 = .ok (.goto (-73), 3) := by decide +kernel
theorem dX6_next_321 : decode cX6_next 321 = .ok (.aload_n 0, 1) := by decide +kernel
theorem dX6_next_322 : decode cX6_next 322 = .ok (.aload_n 0, 1) := by decide +kernel
theorem dX6_next_323 : decode cX6_next 323 = .ok (.getfield 145, 3) := by decide +kernel
theorem dX6_next_326 : decode cX6_next 326 = .ok (.aload_n 0, 1) := by decide +kernel
theorem dX6_next_327 : decode cX6_next 327 = .ok (.getfield 148, 3) := by decide +kernel
theorem dX6_next_330 : decode cX6_next 330 = .ok (.isub, 1) := by decide +kernel
theorem dX6_next_331 : decode cX6_next 331 = .ok (.iconst 4, 1) := by decide +kernel
theorem dX6_next_332 : decode cX6_next 332 = .ok (.if_icmp .le 8, 3) := by decide +kernel
theorem dX6_next_335 : decode cX6_next 335 = .ok (.bipush 120, 2) := by decide +kernel
theorem dX6_next_337 : decode cX6_next 337 = .ok (.goto 5, 3) := by decide +kernel
theorem dX6_next_340 : decode cX6_next 340 = .ok (.bipush 48, 2) := by decide +kernel
theorem dX6_next_342 : decode cX6_next 342 = .ok (.putfield 151, 3) := by decide +kernel
theorem dX6_next_345 : decode cX6_next 345 = .ok (.goto 30, 3) := by decide +kernel
theorem dX6_next_348 : decode cX6_next 348 = .ok (.aload_n 0, 1) := by decide +kernel
theorem dX6_next_349 : decode cX6_next 349 = .ok (.dup, 1) := by decide +kernel
theorem dX6_next_350 : decode cX6_next 350 = .ok (.getfield 145, 3) := by decide +kernel
theorem dX6_next_353 : decode cX6_next 353 = .ok (.iconst 1, 1) := by decide +kernel
theorem dX6_next_354 : decode cX6_next 354 = .ok (.iadd, 1) := by decide +kernel
theorem dX6_next_355 : decode cX6_next 355 = .ok (.putfield 145, 3) := by decide +kernel
theorem dX6_next_358 : decode cX6_next 358 = .ok (.aload_n 0, 1) := by decide +kernel
theorem dX6_next_359 : decode cX6_next 359 = .ok (.iload_n 1, 1) := by decide +kernel
theorem dX6_next_360 : decode cX6_next 360 = .ok (.invokestatic 171, 3) := by decide +kernel
theorem dX6_next_363 : decode cX6_next 363 = .ok (.ifCond .eq 7, 3) := by decide +kernel
theorem dX6_next_366 : decode cX6_next 366 = .ok (.iload_n 1, 1) := by decide +kernel
theorem dX6_next_367 : decode cX6_next 367 = .ok (.goto 5, 3) := by decide +kernel
theorem dX6_next_370 : decode cX6_next 370 = .ok (.bipush 120, 2) := by decide +kernel
theorem dX6_next_372 : decode cX6_next 372 = .ok (.putfield 151, 3) := by decide +kernel
theorem dX6_next_375 : decode cX6_next 375 = .ok (.return_, 1) := by decide +kernel
theorem dX6_takes_0 : decode cX6_takes 0 = .ok (.aload_n 0, 1) := by decide +kernel
theorem dX6_takes_1 : decode cX6_takes 1 = .ok (.getfield 151, 3) := by decide +kernel
theorem dX6_takes_4 : decode cX6_takes 4 = .ok (.bipush 119, 2) := by decide +kernel
theorem dX6_takes_6 : decode cX6_takes 6 = .ok (.if_icmp .ne 11, 3) := by decide +kernel
theorem dX6_takes_9 : decode cX6_takes 9 = .ok (.aload_n 0, 1) := by decide +kernel
theorem dX6_takes_10 : decode cX6_takes 10 = .ok (.getfield 142, 3) := by decide +kernel
theorem dX6_takes_13 : decode cX6_takes 13 = .ok (.iload_n 1, 1) := by decide +kernel
theorem dX6_takes_14 : decode cX6_takes 14 = .ok (.if_icmp .eq 5, 3) := by decide +kernel
theorem dX6_takes_17 : decode cX6_takes 17 = .ok (.iconst 0, 1) := by decide +kernel
theorem dX6_takes_18 : decode cX6_takes 18 = .ok (.ireturn, 1) := by decide +kernel
theorem dX6_takes_19 : decode cX6_takes 19 = .ok (.aload_n 0, 1) := by decide +kernel
theorem dX6_takes_20 : decode cX6_takes 20 = .ok (.invokevirtual 174, 3) := by decide +kernel
theorem dX6_takes_23 : decode cX6_takes 23 = .ok (.iconst 1, 1) := by decide +kernel
theorem dX6_takes_24 : decode cX6_takes 24 = .ok (.ireturn, 1) := by decide +kernel
theorem dX6_codes_0 : decode cX6_codes 0 = .ok (.aload_n 0, 1) := by decide +kernel
theorem dX6_codes_1 : decode cX6_codes 1 = .ok (.getfield 41, 3) := by decide +kernel
theorem dX6_codes_4 : decode cX6_codes 4 = .ok (.aload_n 0, 1) := by decide +kernel
theorem dX6_codes_5 : decode cX6_codes 5 = .ok (.dup, 1) := by decide +kernel
theorem dX6_codes_6 : decode cX6_codes 6 = .ok (.getfield 177, 3) := by decide +kernel
theorem dX6_codes_9 : decode cX6_codes 9 = .ok (.dup_x1, 1) := by decide +kernel
theorem dX6_codes_10 : decode cX6_codes 10 = .ok (.iconst 1, 1) := by decide +kernel
theorem dX6_codes_11 : decode cX6_codes 11 = .ok (.iadd, 1) := by decide +kernel
theorem dX6_codes_12 : decode cX6_codes 12 = .ok (.putfield 177, 3) := by decide +kernel
theorem dX6_codes_15 : decode cX6_codes 15 = .ok (.iload_n 1, 1) := by decide +kernel
theorem dX6_codes_16 : decode cX6_codes 16 = .ok (.iastore, 1) := by decide +kernel
theorem dX6_codes_17 : decode cX6_codes 17 = .ok (.return_, 1) := by decide +kernel
theorem dX6_rank_0 : decode cX6_rank 0 = .ok (.iload_n 0, 1) := by decide +kernel
theorem dX6_rank_1 : decode cX6_rank 1 = .ok (.tableswitch 67 6 14 #[59, 59, 61, 57, 57, 53, 51, 55, 64], 51) := by decide +kernel
theorem dX6_rank_52 : decode cX6_rank 52 = .ok (.iconst 1, 1) := by decide +kernel
theorem dX6_rank_53 : decode cX6_rank 53 = .ok (.ireturn, 1) := by decide +kernel
theorem dX6_rank_54 : decode cX6_rank 54 = .ok (.iconst 2, 1) := by decide +kernel
theorem dX6_rank_55 : decode cX6_rank 55 = .ok (.ireturn, 1) := by decide +kernel
theorem dX6_rank_56 : decode cX6_rank 56 = .ok (.iconst 3, 1) := by decide +kernel
theorem dX6_rank_57 : decode cX6_rank 57 = .ok (.ireturn, 1) := by decide +kernel
theorem dX6_rank_58 : decode cX6_rank 58 = .ok (.iconst 4, 1) := by decide +kernel
theorem dX6_rank_59 : decode cX6_rank 59 = .ok (.ireturn, 1) := by decide +kernel
theorem dX6_rank_60 : decode cX6_rank 60 = .ok (.iconst 5, 1) := by decide +kernel
theorem dX6_rank_61 : decode cX6_rank 61 = .ok (.ireturn, 1) := by decide +kernel
theorem dX6_rank_62 : decode cX6_rank 62 = .ok (.bipush 6, 2) := by decide +kernel
theorem dX6_rank_64 : decode cX6_rank 64 = .ok (.ireturn, 1) := by decide +kernel
theorem dX6_rank_65 : decode cX6_rank 65 = .ok (.bipush 7, 2) := by decide +kernel
theorem dX6_rank_67 : decode cX6_rank 67 = .ok (.ireturn, 1) := by decide +kernel
theorem dX6_rank_68 : decode cX6_rank 68 = .ok (.iconst 0, 1) := by decide +kernel
theorem dX6_rank_69 : decode cX6_rank 69 = .ok (.ireturn, 1) := by decide +kernel
theorem dX6_lays_0 : decode cX6_lays 0 = .ok (.aload_n 0, 1) := by decide +kernel
theorem dX6_lays_1 : decode cX6_lays 1 = .ok (.getfield 180, 3) := by decide +kernel
theorem dX6_lays_4 : decode cX6_lays 4 = .ok (.ifCond .le 85, 3) := by decide +kernel
theorem dX6_lays_7 : decode cX6_lays 7 = .ok (.aload_n 0, 1) := by decide +kernel
theorem dX6_lays_8 : decode cX6_lays 8 = .ok (.getfield 44, 3) := by decide +kernel
theorem dX6_lays_11 : decode cX6_lays 11 = .ok (.aload_n 0, 1) := by decide +kernel
theorem dX6_lays_12 : decode cX6_lays 12 = .ok (.getfield 180, 3) := by decide +kernel
theorem dX6_lays_15 : decode cX6_lays 15 = .ok (.iconst 1, 1) := by decide +kernel
theorem dX6_lays_16 : decode cX6_lays 16 = .ok (.isub, 1) := by decide +kernel
theorem dX6_lays_17 : decode cX6_lays 17 = .ok (.iaload, 1) := by decide +kernel
theorem dX6_lays_18 : decode cX6_lays 18 = .ok (.invokestatic 183, 3) := by decide +kernel
theorem dX6_lays_21 : decode cX6_lays 21 = .ok (.iload_n 1, 1) := by decide +kernel
theorem dX6_lays_22 : decode cX6_lays 22 = .ok (.if_icmp .lt 67, 3) := by decide +kernel
theorem dX6_lays_25 : decode cX6_lays 25 = .ok (.aload_n 0, 1) := by decide +kernel
theorem dX6_lays_26 : decode cX6_lays 26 = .ok (.dup, 1) := by decide +kernel
theorem dX6_lays_27 : decode cX6_lays 27 = .ok (.getfield 180, 3) := by decide +kernel
theorem dX6_lays_30 : decode cX6_lays 30 = .ok (.iconst 1, 1) := by decide +kernel
theorem dX6_lays_31 : decode cX6_lays 31 = .ok (.isub, 1) := by decide +kernel
theorem dX6_lays_32 : decode cX6_lays 32 = .ok (.putfield 180, 3) := by decide +kernel
theorem dX6_lays_35 : decode cX6_lays 35 = .ok (.aload_n 0, 1) := by decide +kernel
theorem dX6_lays_36 : decode cX6_lays 36 = .ok (.aload_n 0, 1) := by decide +kernel
theorem dX6_lays_37 : decode cX6_lays 37 = .ok (.getfield 44, 3) := by decide +kernel
theorem dX6_lays_40 : decode cX6_lays 40 = .ok (.aload_n 0, 1) := by decide +kernel
theorem dX6_lays_41 : decode cX6_lays 41 = .ok (.getfield 180, 3) := by decide +kernel
theorem dX6_lays_44 : decode cX6_lays 44 = .ok (.iaload, 1) := by decide +kernel
theorem dX6_lays_45 : decode cX6_lays 45 = .ok (.invokevirtual 86, 3) := by decide +kernel
theorem dX6_lays_48 : decode cX6_lays 48 = .ok (.aload_n 0, 1) := by decide +kernel
theorem dX6_lays_49 : decode cX6_lays 49 = .ok (.getfield 44, 3) := by decide +kernel
theorem dX6_lays_52 : decode cX6_lays 52 = .ok (.aload_n 0, 1) := by decide +kernel
theorem dX6_lays_53 : decode cX6_lays 53 = .ok (.getfield 180, 3) := by decide +kernel
theorem dX6_lays_56 : decode cX6_lays 56 = .ok (.iaload, 1) := by decide +kernel
theorem dX6_lays_57 : decode cX6_lays 57 = .ok (.bipush 13, 2) := by decide +kernel
theorem dX6_lays_59 : decode cX6_lays 59 = .ok (.if_icmp .eq 17, 3) := by decide +kernel
theorem dX6_lays_62 : decode cX6_lays 62 = .ok (.aload_n 0, 1) := by decide +kernel
theorem dX6_lays_63 : decode cX6_lays 63 = .ok (.getfield 44, 3) := by decide +kernel
theorem dX6_lays_66 : decode cX6_lays 66 = .ok (.aload_n 0, 1) := by decide +kernel
theorem dX6_lays_67 : decode cX6_lays 67 = .ok (.getfield 180, 3) := by decide +kernel
theorem dX6_lays_70 : decode cX6_lays 70 = .ok (.iaload, 1) := by decide +kernel
theorem dX6_lays_71 : decode cX6_lays 71 = .ok (.bipush 14, 2) := by decide +kernel
theorem dX6_lays_73 : decode cX6_lays 73 = .ok (.if_icmp .ne (-73), 3) := by decide +kernel
theorem dX6_lays_76 : decode cX6_lays 76 = .ok (.aload_n 0, 1) := by decide +kernel
theorem dX6_lays_77 : decode cX6_lays 77 = .ok (.dup, 1) := by decide +kernel
theorem dX6_lays_78 : decode cX6_lays 78 = .ok (.getfield 186, 3) := by decide +kernel
theorem dX6_lays_81 : decode cX6_lays 81 = .ok (.iconst 1, 1) := by decide +kernel
theorem dX6_lays_82 : decode cX6_lays 82 = .ok (.isub, 1) := by decide +kernel
theorem dX6_lays_83 : decode cX6_lays 83 = .ok (.putfield 186, 3) := by decide +kernel
theorem dX6_lays_86 : decode cX6_lays 86 = .ok (.goto (-86), 3) := by decide +kernel
theorem dX6_lays_89 : decode cX6_lays 89 = .ok (.return_, 1) := by decide +kernel
theorem dX6_push_0 : decode cX6_push 0 = .ok (.aload_n 0, 1) := by decide +kernel
theorem dX6_push_1 : decode cX6_push 1 = .ok (.getfield 44, 3) := by decide +kernel
theorem dX6_push_4 : decode cX6_push 4 = .ok (.aload_n 0, 1) := by decide +kernel
theorem dX6_push_5 : decode cX6_push 5 = .ok (.dup, 1) := by decide +kernel
theorem dX6_push_6 : decode cX6_push 6 = .ok (.getfield 180, 3) := by decide +kernel
theorem dX6_push_9 : decode cX6_push 9 = .ok (.dup_x1, 1) := by decide +kernel
theorem dX6_push_10 : decode cX6_push 10 = .ok (.iconst 1, 1) := by decide +kernel
theorem dX6_push_11 : decode cX6_push 11 = .ok (.iadd, 1) := by decide +kernel
theorem dX6_push_12 : decode cX6_push 12 = .ok (.putfield 180, 3) := by decide +kernel
theorem dX6_push_15 : decode cX6_push 15 = .ok (.iload_n 1, 1) := by decide +kernel
theorem dX6_push_16 : decode cX6_push 16 = .ok (.iastore, 1) := by decide +kernel
theorem dX6_push_17 : decode cX6_push 17 = .ok (.iload_n 1, 1) := by decide +kernel
theorem dX6_push_18 : decode cX6_push 18 = .ok (.bipush 13, 2) := by decide +kernel
theorem dX6_push_20 : decode cX6_push 20 = .ok (.if_icmp .eq 16, 3) := by decide +kernel
theorem dX6_push_23 : decode cX6_push 23 = .ok (.iload_n 1, 1) := by decide +kernel
theorem dX6_push_24 : decode cX6_push 24 = .ok (.bipush 14, 2) := by decide +kernel
theorem dX6_push_26 : decode cX6_push 26 = .ok (.if_icmp .eq 10, 3) := by decide +kernel
theorem dX6_push_29 : decode cX6_push 29 = .ok (.iload_n 1, 1) := by decide +kernel
theorem dX6_push_30 : decode cX6_push 30 = .ok (.invokestatic 183, 3) := by decide +kernel
theorem dX6_push_33 : decode cX6_push 33 = .ok (.ifCond .ne 13, 3) := by decide +kernel
theorem dX6_push_36 : decode cX6_push 36 = .ok (.aload_n 0, 1) := by decide +kernel
theorem dX6_push_37 : decode cX6_push 37 = .ok (.dup, 1) := by decide +kernel
theorem dX6_push_38 : decode cX6_push 38 = .ok (.getfield 186, 3) := by decide +kernel
theorem dX6_push_41 : decode cX6_push 41 = .ok (.iconst 1, 1) := by decide +kernel
theorem dX6_push_42 : decode cX6_push 42 = .ok (.iadd, 1) := by decide +kernel
theorem dX6_push_43 : decode cX6_push 43 = .ok (.putfield 186, 3) := by decide +kernel
theorem dX6_push_46 : decode cX6_push 46 = .ok (.return_, 1) := by decide +kernel
theorem dX6_one_0 : decode cX6_one 0 = .ok (.aload_n 0, 1) := by decide +kernel
theorem dX6_one_1 : decode cX6_one 1 = .ok (.getfield 151, 3) := by decide +kernel
theorem dX6_one_4 : decode cX6_one 4 = .ok (.bipush 119, 2) := by decide +kernel
theorem dX6_one_6 : decode cX6_one 6 = .ok (.if_icmp .ne 10, 3) := by decide +kernel
theorem dX6_one_9 : decode cX6_one 9 = .ok (.aload_n 0, 1) := by decide +kernel
theorem dX6_one_10 : decode cX6_one 10 = .ok (.invokevirtual 157, 3) := by decide +kernel
theorem dX6_one_13 : decode cX6_one 13 = .ok (.goto 4, 3) := by decide +kernel
theorem dX6_one_16 : decode cX6_one 16 = .ok (.iconst (-1), 1) := by decide +kernel
theorem dX6_one_17 : decode cX6_one 17 = .ok (.istore_n 2, 1) := by decide +kernel
theorem dX6_one_18 : decode cX6_one 18 = .ok (.aload_n 0, 1) := by decide +kernel
theorem dX6_one_19 : decode cX6_one 19 = .ok (.getfield 151, 3) := by decide +kernel
theorem dX6_one_22 : decode cX6_one 22 = .ok (.bipush 48, 2) := by decide +kernel
theorem dX6_one_24 : decode cX6_one 24 = .ok (.if_icmp .eq 8, 3) := by decide +kernel
theorem dX6_one_27 : decode cX6_one 27 = .ok (.iload_n 2, 1) := by decide +kernel
theorem dX6_one_28 : decode cX6_one 28 = .ok (.iconst (-1), 1) := by decide +kernel
theorem dX6_one_29 : decode cX6_one 29 = .ok (.if_icmp .eq 36, 3) := by decide +kernel
theorem dX6_one_32 : decode cX6_one 32 = .ok (.aload_n 0, 1) := by decide +kernel
theorem dX6_one_33 : decode cX6_one 33 = .ok (.iload_n 2, 1) := by decide +kernel
theorem dX6_one_34 : decode cX6_one 34 = .ok (.iconst (-1), 1) := by decide +kernel
theorem dX6_one_35 : decode cX6_one 35 = .ok (.if_icmp .ne 13, 3) := by decide +kernel
theorem dX6_one_38 : decode cX6_one 38 = .ok (.bipush 15, 2) := by decide +kernel
theorem dX6_one_40 : decode cX6_one 40 = .ok (.aload_n 0, 1) := by decide +kernel
theorem dX6_one_41 : decode cX6_one 41 = .ok (.getfield 168, 3) := by decide +kernel
theorem dX6_one_44 : decode cX6_one 44 = .ok (.iadd, 1) := by decide +kernel
theorem dX6_one_45 : decode cX6_one 45 = .ok (.goto 4, 3) := by decide +kernel
theorem dX6_one_48 : decode cX6_one 48 = .ok (.iload_n 2, 1) := by decide +kernel
theorem dX6_one_49 : decode cX6_one 49 = .ok (.invokevirtual 86, 3) := by decide +kernel
theorem dX6_one_52 : decode cX6_one 52 = .ok (.aload_n 0, 1) := by decide +kernel
theorem dX6_one_53 : decode cX6_one 53 = .ok (.bipush 7, 2) := by decide +kernel
theorem dX6_one_55 : decode cX6_one 55 = .ok (.invokevirtual 189, 3) := by decide +kernel
theorem dX6_one_58 : decode cX6_one 58 = .ok (.aload_n 0, 1) := by decide +kernel
theorem dX6_one_59 : decode cX6_one 59 = .ok (.iconst 1, 1) := by decide +kernel
theorem dX6_one_60 : decode cX6_one 60 = .ok (.putfield 192, 3) := by decide +kernel
theorem dX6_one_63 : decode cX6_one 63 = .ok (.iconst 1, 1) := by decide +kernel
theorem dX6_one_64 : decode cX6_one 64 = .ok (.ireturn, 1) := by decide +kernel
theorem dX6_one_65 : decode cX6_one 65 = .ok (.iload_n 1, 1) := by decide +kernel
theorem dX6_one_66 : decode cX6_one 66 = .ok (.ifCond .eq 26, 3) := by decide +kernel
theorem dX6_one_69 : decode cX6_one 69 = .ok (.aload_n 0, 1) := by decide +kernel
theorem dX6_one_70 : decode cX6_one 70 = .ok (.getfield 151, 3) := by decide +kernel
theorem dX6_one_73 : decode cX6_one 73 = .ok (.bipush 119, 2) := by decide +kernel
theorem dX6_one_75 : decode cX6_one 75 = .ok (.if_icmp .ne 17, 3) := by decide +kernel
theorem dX6_one_78 : decode cX6_one 78 = .ok (.aload_n 0, 1) := by decide +kernel
theorem dX6_one_79 : decode cX6_one 79 = .ok (.getfield 142, 3) := by decide +kernel
theorem dX6_one_82 : decode cX6_one 82 = .ok (.sipush 10631, 3) := by decide +kernel
theorem dX6_one_85 : decode cX6_one 85 = .ok (.if_icmp .ne 7, 3) := by decide +kernel
theorem dX6_one_88 : decode cX6_one 88 = .ok (.iconst 1, 1) := by decide +kernel
theorem dX6_one_89 : decode cX6_one 89 = .ok (.goto 4, 3) := by decide +kernel
theorem dX6_one_92 : decode cX6_one 92 = .ok (.iconst 0, 1) := by decide +kernel
theorem dX6_one_93 : decode cX6_one 93 = .ok (.istore_n 3, 1) := by decide +kernel
theorem dX6_one_94 : decode cX6_one 94 = .ok (.iload_n 3, 1) := by decide +kernel
theorem dX6_one_95 : decode cX6_one 95 = .ok (.ifCond .ne 21, 3) := by decide +kernel
theorem dX6_one_98 : decode cX6_one 98 = .ok (.aload_n 0, 1) := by decide +kernel
theorem dX6_one_99 : decode cX6_one 99 = .ok (.getfield 151, 3) := by decide +kernel
theorem dX6_one_102 : decode cX6_one 102 = .ok (.bipush 45, 2) := by decide +kernel
theorem dX6_one_104 : decode cX6_one 104 = .ok (.if_icmp .eq 12, 3) := by decide +kernel
theorem dX6_one_107 : decode cX6_one 107 = .ok (.aload_n 0, 1) := by decide +kernel
theorem dX6_one_108 : decode cX6_one 108 = .ok (.getfield 151, 3) := by decide +kernel
theorem dX6_one_111 : decode cX6_one 111 = .ok (.bipush 40, 2) := by decide +kernel
theorem dX6_one_113 : decode cX6_one 113 = .ok (.if_icmp .ne 11, 3) := by decide +kernel
theorem dX6_one_116 : decode cX6_one 116 = .ok (.aload_n 0, 1) := by decide +kernel
theorem dX6_one_117 : decode cX6_one 117 = .ok (.getfield 186, 3) := by decide +kernel
theorem dX6_one_120 : decode cX6_one 120 = .ok (.iconst 5, 1) := by decide +kernel
theorem dX6_one_121 : decode cX6_one 121 = .ok (.if_icmp .ne 5, 3) := by decide +kernel
theorem dX6_one_124 : decode cX6_one 124 = .ok (.iconst 0, 1) := by decide +kernel
theorem dX6_one_125 : decode cX6_one 125 = .ok (.ireturn, 1) := by decide +kernel
theorem dX6_one_126 : decode cX6_one 126 = .ok (.aload_n 0, 1) := by decide +kernel
theorem dX6_one_127 : decode cX6_one 127 = .ok (.getfield 151, 3) := by decide +kernel
theorem dX6_one_130 : decode cX6_one 130 = .ok (.bipush 40, 2) := by decide +kernel
theorem dX6_one_132 : decode cX6_one 132 = .ok (.if_icmp .ne 28, 3) := by decide +kernel
theorem dX6_one_135 : decode cX6_one 135 = .ok (.aload_n 0, 1) := by decide +kernel
theorem dX6_one_136 : decode cX6_one 136 = .ok (.aload_n 0, 1) := by decide +kernel
theorem dX6_one_137 : decode cX6_one 137 = .ok (.getfield 196, 3) := by decide +kernel
theorem dX6_one_140 : decode cX6_one 140 = .ok (.ifCond .eq 8, 3) := by decide +kernel
theorem dX6_one_143 : decode cX6_one 143 = .ok (.bipush (-2), 2) := by decide +kernel
theorem dX6_one_145 : decode cX6_one 145 = .ok (.goto 4, 3) := by decide +kernel
theorem dX6_one_148 : decode cX6_one 148 = .ok (.iconst (-1), 1) := by decide +kernel
theorem dX6_one_149 : decode cX6_one 149 = .ok (.invokevirtual 199, 3) := by decide +kernel
theorem dX6_one_152 : decode cX6_one 152 = .ok (.aload_n 0, 1) := by decide +kernel
theorem dX6_one_153 : decode cX6_one 153 = .ok (.iconst 0, 1) := by decide +kernel
theorem dX6_one_154 : decode cX6_one 154 = .ok (.putfield 196, 3) := by decide +kernel
theorem dX6_one_157 : decode cX6_one 157 = .ok (.goto 18, 3) := by decide +kernel
theorem dX6_one_160 : decode cX6_one 160 = .ok (.aload_n 0, 1) := by decide +kernel
theorem dX6_one_161 : decode cX6_one 161 = .ok (.iload_n 3, 1) := by decide +kernel
theorem dX6_one_162 : decode cX6_one 162 = .ok (.ifCond .eq 8, 3) := by decide +kernel
theorem dX6_one_165 : decode cX6_one 165 = .ok (.bipush 13, 2) := by decide +kernel
theorem dX6_one_167 : decode cX6_one 167 = .ok (.goto 5, 3) := by decide +kernel
theorem dX6_one_170 : decode cX6_one 170 = .ok (.bipush 14, 2) := by decide +kernel
theorem dX6_one_172 : decode cX6_one 172 = .ok (.invokevirtual 199, 3) := by decide +kernel
theorem dX6_one_175 : decode cX6_one 175 = .ok (.aload_n 0, 1) := by decide +kernel
theorem dX6_one_176 : decode cX6_one 176 = .ok (.aload_n 0, 1) := by decide +kernel
theorem dX6_one_177 : decode cX6_one 177 = .ok (.getfield 151, 3) := by decide +kernel
theorem dX6_one_180 : decode cX6_one 180 = .ok (.bipush 45, 2) := by decide +kernel
theorem dX6_one_182 : decode cX6_one 182 = .ok (.if_icmp .eq 7, 3) := by decide +kernel
theorem dX6_one_185 : decode cX6_one 185 = .ok (.iconst 1, 1) := by decide +kernel
theorem dX6_one_186 : decode cX6_one 186 = .ok (.goto 4, 3) := by decide +kernel
theorem dX6_one_189 : decode cX6_one 189 = .ok (.iconst 0, 1) := by decide +kernel
theorem dX6_one_190 : decode cX6_one 190 = .ok (.putfield 202, 3) := by decide +kernel
theorem dX6_one_193 : decode cX6_one 193 = .ok (.iconst 1, 1) := by decide +kernel
theorem dX6_one_194 : decode cX6_one 194 = .ok (.ireturn, 1) := by decide +kernel
theorem dX6_signed_0 : decode cX6_signed 0 = .ok (.aload_n 0, 1) := by decide +kernel
theorem dX6_signed_1 : decode cX6_signed 1 = .ok (.getfield 151, 3) := by decide +kernel
theorem dX6_signed_4 : decode cX6_signed 4 = .ok (.lookupswitch 129 #[(42, 60), (43, 63), (45, 66), (60, 69), (61, 83), (119, 97)], 60) := by decide +kernel
theorem dX6_signed_64 : decode cX6_signed 64 = .ok (.bipush 8, 2) := by decide +kernel
theorem dX6_signed_66 : decode cX6_signed 66 = .ok (.ireturn, 1) := by decide +kernel
theorem dX6_signed_67 : decode cX6_signed 67 = .ok (.bipush 6, 2) := by decide +kernel
theorem dX6_signed_69 : decode cX6_signed 69 = .ok (.ireturn, 1) := by decide +kernel
theorem dX6_signed_70 : decode cX6_signed 70 = .ok (.bipush 7, 2) := by decide +kernel
theorem dX6_signed_72 : decode cX6_signed 72 = .ok (.ireturn, 1) := by decide +kernel
theorem dX6_signed_73 : decode cX6_signed 73 = .ok (.aload_n 0, 1) := by decide +kernel
theorem dX6_signed_74 : decode cX6_signed 74 = .ok (.getfield 196, 3) := by decide +kernel
theorem dX6_signed_77 : decode cX6_signed 77 = .ok (.ifCond .eq 7, 3) := by decide +kernel
theorem dX6_signed_80 : decode cX6_signed 80 = .ok (.iconst (-1), 1) := by decide +kernel
theorem dX6_signed_81 : decode cX6_signed 81 = .ok (.goto 5, 3) := by decide +kernel
theorem dX6_signed_84 : decode cX6_signed 84 = .ok (.bipush 9, 2) := by decide +kernel
theorem dX6_signed_86 : decode cX6_signed 86 = .ok (.ireturn, 1) := by decide +kernel
theorem dX6_signed_87 : decode cX6_signed 87 = .ok (.aload_n 0, 1) := by decide +kernel
theorem dX6_signed_88 : decode cX6_signed 88 = .ok (.getfield 196, 3) := by decide +kernel
theorem dX6_signed_91 : decode cX6_signed 91 = .ok (.ifCond .eq 7, 3) := by decide +kernel
theorem dX6_signed_94 : decode cX6_signed 94 = .ok (.iconst (-1), 1) := by decide +kernel
theorem dX6_signed_95 : decode cX6_signed 95 = .ok (.goto 5, 3) := by decide +kernel
theorem dX6_signed_98 : decode cX6_signed 98 = .ok (.bipush 10, 2) := by decide +kernel
theorem dX6_signed_100 : decode cX6_signed 100 = .ok (.ireturn, 1) := by decide +kernel
theorem dX6_signed_101 : decode cX6_signed 101 = .ok (.aload_n 0, 1) := by decide +kernel
theorem dX6_signed_102 : decode cX6_signed 102 = .ok (.getfield 142, 3) := by decide +kernel
theorem dX6_signed_105 : decode cX6_signed 105 = .ok (.sipush 1111, 3) := by decide +kernel
theorem dX6_signed_108 : decode cX6_signed 108 = .ok (.if_icmp .ne 8, 3) := by decide +kernel
theorem dX6_signed_111 : decode cX6_signed 111 = .ok (.bipush 11, 2) := by decide +kernel
theorem dX6_signed_113 : decode cX6_signed 113 = .ok (.goto 19, 3) := by decide +kernel
theorem dX6_signed_116 : decode cX6_signed 116 = .ok (.aload_n 0, 1) := by decide +kernel
theorem dX6_signed_117 : decode cX6_signed 117 = .ok (.getfield 142, 3) := by decide +kernel
theorem dX6_signed_120 : decode cX6_signed 120 = .ok (.sipush 423, 3) := by decide +kernel
theorem dX6_signed_123 : decode cX6_signed 123 = .ok (.if_icmp .ne 8, 3) := by decide +kernel
theorem dX6_signed_126 : decode cX6_signed 126 = .ok (.bipush 12, 2) := by decide +kernel
theorem dX6_signed_128 : decode cX6_signed 128 = .ok (.goto 4, 3) := by decide +kernel
theorem dX6_signed_131 : decode cX6_signed 131 = .ok (.iconst (-1), 1) := by decide +kernel
theorem dX6_signed_132 : decode cX6_signed 132 = .ok (.ireturn, 1) := by decide +kernel
theorem dX6_signed_133 : decode cX6_signed 133 = .ok (.iconst (-1), 1) := by decide +kernel
theorem dX6_signed_134 : decode cX6_signed 134 = .ok (.ireturn, 1) := by decide +kernel
theorem dX6_closes_0 : decode cX6_closes 0 = .ok (.aload_n 0, 1) := by decide +kernel
theorem dX6_closes_1 : decode cX6_closes 1 = .ok (.iconst 1, 1) := by decide +kernel
theorem dX6_closes_2 : decode cX6_closes 2 = .ok (.invokevirtual 189, 3) := by decide +kernel
theorem dX6_closes_5 : decode cX6_closes 5 = .ok (.aload_n 0, 1) := by decide +kernel
theorem dX6_closes_6 : decode cX6_closes 6 = .ok (.getfield 180, 3) := by decide +kernel
theorem dX6_closes_9 : decode cX6_closes 9 = .ok (.ifCond .ne 5, 3) := by decide +kernel
theorem dX6_closes_12 : decode cX6_closes 12 = .ok (.iconst 0, 1) := by decide +kernel
theorem dX6_closes_13 : decode cX6_closes 13 = .ok (.ireturn, 1) := by decide +kernel
theorem dX6_closes_14 : decode cX6_closes 14 = .ok (.aload_n 0, 1) := by decide +kernel
theorem dX6_closes_15 : decode cX6_closes 15 = .ok (.dup, 1) := by decide +kernel
theorem dX6_closes_16 : decode cX6_closes 16 = .ok (.getfield 180, 3) := by decide +kernel
theorem dX6_closes_19 : decode cX6_closes 19 = .ok (.iconst 1, 1) := by decide +kernel
theorem dX6_closes_20 : decode cX6_closes 20 = .ok (.isub, 1) := by decide +kernel
theorem dX6_closes_21 : decode cX6_closes 21 = .ok (.putfield 180, 3) := by decide +kernel
theorem dX6_closes_24 : decode cX6_closes 24 = .ok (.aload_n 0, 1) := by decide +kernel
theorem dX6_closes_25 : decode cX6_closes 25 = .ok (.aload_n 0, 1) := by decide +kernel
theorem dX6_closes_26 : decode cX6_closes 26 = .ok (.getfield 44, 3) := by decide +kernel
theorem dX6_closes_29 : decode cX6_closes 29 = .ok (.aload_n 0, 1) := by decide +kernel
theorem dX6_closes_30 : decode cX6_closes 30 = .ok (.getfield 180, 3) := by decide +kernel
theorem dX6_closes_33 : decode cX6_closes 33 = .ok (.iaload, 1) := by decide +kernel
theorem dX6_closes_34 : decode cX6_closes 34 = .ok (.bipush (-2), 2) := by decide +kernel
theorem dX6_closes_36 : decode cX6_closes 36 = .ok (.if_icmp .ne 7, 3) := by decide +kernel
theorem dX6_closes_39 : decode cX6_closes 39 = .ok (.iconst 1, 1) := by decide +kernel
theorem dX6_closes_40 : decode cX6_closes 40 = .ok (.goto 4, 3) := by decide +kernel
theorem dX6_closes_43 : decode cX6_closes 43 = .ok (.iconst 0, 1) := by decide +kernel
theorem dX6_closes_44 : decode cX6_closes 44 = .ok (.putfield 196, 3) := by decide +kernel
theorem dX6_closes_47 : decode cX6_closes 47 = .ok (.aload_n 0, 1) := by decide +kernel
theorem dX6_closes_48 : decode cX6_closes 48 = .ok (.dup, 1) := by decide +kernel
theorem dX6_closes_49 : decode cX6_closes 49 = .ok (.getfield 186, 3) := by decide +kernel
theorem dX6_closes_52 : decode cX6_closes 52 = .ok (.iconst 1, 1) := by decide +kernel
theorem dX6_closes_53 : decode cX6_closes 53 = .ok (.isub, 1) := by decide +kernel
theorem dX6_closes_54 : decode cX6_closes 54 = .ok (.putfield 186, 3) := by decide +kernel
theorem dX6_closes_57 : decode cX6_closes 57 = .ok (.aload_n 0, 1) := by decide +kernel
theorem dX6_closes_58 : decode cX6_closes 58 = .ok (.bipush 7, 2) := by decide +kernel
theorem dX6_closes_60 : decode cX6_closes 60 = .ok (.invokevirtual 189, 3) := by decide +kernel
theorem dX6_closes_63 : decode cX6_closes 63 = .ok (.iconst 1, 1) := by decide +kernel
theorem dX6_closes_64 : decode cX6_closes 64 = .ok (.ireturn, 1) := by decide +kernel
theorem dX6_goesOn_0 : decode cX6_goesOn 0 = .ok (.aload_n 0, 1) := by decide +kernel
theorem dX6_goesOn_1 : decode cX6_goesOn 1 = .ok (.getfield 192, 3) := by decide +kernel
theorem dX6_goesOn_4 : decode cX6_goesOn 4 = .ok (.ifCond .ne 12, 3) := by decide +kernel
theorem dX6_goesOn_7 : decode cX6_goesOn 7 = .ok (.aload_n 0, 1) := by decide +kernel
theorem dX6_goesOn_8 : decode cX6_goesOn 8 = .ok (.aload_n 0, 1) := by decide +kernel
theorem dX6_goesOn_9 : decode cX6_goesOn 9 = .ok (.getfield 202, 3) := by decide +kernel
theorem dX6_goesOn_12 : decode cX6_goesOn 12 = .ok (.invokevirtual 205, 3) := by decide +kernel
theorem dX6_goesOn_15 : decode cX6_goesOn 15 = .ok (.ireturn, 1) := by decide +kernel
theorem dX6_goesOn_16 : decode cX6_goesOn 16 = .ok (.aload_n 0, 1) := by decide +kernel
theorem dX6_goesOn_17 : decode cX6_goesOn 17 = .ok (.getfield 151, 3) := by decide +kernel
theorem dX6_goesOn_20 : decode cX6_goesOn 20 = .ok (.bipush 41, 2) := by decide +kernel
theorem dX6_goesOn_22 : decode cX6_goesOn 22 = .ok (.if_icmp .ne 8, 3) := by decide +kernel
theorem dX6_goesOn_25 : decode cX6_goesOn 25 = .ok (.aload_n 0, 1) := by decide +kernel
theorem dX6_goesOn_26 : decode cX6_goesOn 26 = .ok (.invokevirtual 209, 3) := by decide +kernel
theorem dX6_goesOn_29 : decode cX6_goesOn 29 = .ok (.ireturn, 1) := by decide +kernel
theorem dX6_goesOn_30 : decode cX6_goesOn 30 = .ok (.aload_n 0, 1) := by decide +kernel
theorem dX6_goesOn_31 : decode cX6_goesOn 31 = .ok (.invokevirtual 212, 3) := by decide +kernel
theorem dX6_goesOn_34 : decode cX6_goesOn 34 = .ok (.istore_n 1, 1) := by decide +kernel
theorem dX6_goesOn_35 : decode cX6_goesOn 35 = .ok (.iload_n 1, 1) := by decide +kernel
theorem dX6_goesOn_36 : decode cX6_goesOn 36 = .ok (.iconst (-1), 1) := by decide +kernel
theorem dX6_goesOn_37 : decode cX6_goesOn 37 = .ok (.if_icmp .ne 5, 3) := by decide +kernel
theorem dX6_goesOn_40 : decode cX6_goesOn 40 = .ok (.iconst 0, 1) := by decide +kernel
theorem dX6_goesOn_41 : decode cX6_goesOn 41 = .ok (.ireturn, 1) := by decide +kernel
theorem dX6_goesOn_42 : decode cX6_goesOn 42 = .ok (.aload_n 0, 1) := by decide +kernel
theorem dX6_goesOn_43 : decode cX6_goesOn 43 = .ok (.iload_n 1, 1) := by decide +kernel
theorem dX6_goesOn_44 : decode cX6_goesOn 44 = .ok (.invokestatic 183, 3) := by decide +kernel
theorem dX6_goesOn_47 : decode cX6_goesOn 47 = .ok (.invokevirtual 189, 3) := by decide +kernel
theorem dX6_goesOn_50 : decode cX6_goesOn 50 = .ok (.aload_n 0, 1) := by decide +kernel
theorem dX6_goesOn_51 : decode cX6_goesOn 51 = .ok (.iload_n 1, 1) := by decide +kernel
theorem dX6_goesOn_52 : decode cX6_goesOn 52 = .ok (.invokevirtual 199, 3) := by decide +kernel
theorem dX6_goesOn_55 : decode cX6_goesOn 55 = .ok (.aload_n 0, 1) := by decide +kernel
theorem dX6_goesOn_56 : decode cX6_goesOn 56 = .ok (.iconst 0, 1) := by decide +kernel
theorem dX6_goesOn_57 : decode cX6_goesOn 57 = .ok (.putfield 192, 3) := by decide +kernel
theorem dX6_goesOn_60 : decode cX6_goesOn 60 = .ok (.aload_n 0, 1) := by decide +kernel
theorem dX6_goesOn_61 : decode cX6_goesOn 61 = .ok (.iload_n 1, 1) := by decide +kernel
theorem dX6_goesOn_62 : decode cX6_goesOn 62 = .ok (.invokestatic 183, 3) := by decide +kernel
theorem dX6_goesOn_65 : decode cX6_goesOn 65 = .ok (.iconst 3, 1) := by decide +kernel
theorem dX6_goesOn_66 : decode cX6_goesOn 66 = .ok (.if_icmp .ge 7, 3) := by decide +kernel
theorem dX6_goesOn_69 : decode cX6_goesOn 69 = .ok (.iconst 1, 1) := by decide +kernel
theorem dX6_goesOn_70 : decode cX6_goesOn 70 = .ok (.goto 4, 3) := by decide +kernel
theorem dX6_goesOn_73 : decode cX6_goesOn 73 = .ok (.iconst 0, 1) := by decide +kernel
theorem dX6_goesOn_74 : decode cX6_goesOn 74 = .ok (.putfield 202, 3) := by decide +kernel
theorem dX6_goesOn_77 : decode cX6_goesOn 77 = .ok (.aload_n 0, 1) := by decide +kernel
theorem dX6_goesOn_78 : decode cX6_goesOn 78 = .ok (.getfield 202, 3) := by decide +kernel
theorem dX6_goesOn_81 : decode cX6_goesOn 81 = .ok (.ifCond .eq 11, 3) := by decide +kernel
theorem dX6_goesOn_84 : decode cX6_goesOn 84 = .ok (.aload_n 0, 1) := by decide +kernel
theorem dX6_goesOn_85 : decode cX6_goesOn 85 = .ok (.iconst 0, 1) := by decide +kernel
theorem dX6_goesOn_86 : decode cX6_goesOn 86 = .ok (.putfield 196, 3) := by decide +kernel
theorem dX6_goesOn_89 : decode cX6_goesOn 89 = .ok (.goto 16, 3) := by decide +kernel
theorem dX6_goesOn_92 : decode cX6_goesOn 92 = .ok (.iload_n 1, 1) := by decide +kernel
theorem dX6_goesOn_93 : decode cX6_goesOn 93 = .ok (.invokestatic 183, 3) := by decide +kernel
theorem dX6_goesOn_96 : decode cX6_goesOn 96 = .ok (.iconst 4, 1) := by decide +kernel
theorem dX6_goesOn_97 : decode cX6_goesOn 97 = .ok (.if_icmp .ne 8, 3) := by decide +kernel
theorem dX6_goesOn_100 : decode cX6_goesOn 100 = .ok (.aload_n 0, 1) := by decide +kernel
theorem dX6_goesOn_101 : decode cX6_goesOn 101 = .ok (.iconst 1, 1) := by decide +kernel
theorem dX6_goesOn_102 : decode cX6_goesOn 102 = .ok (.putfield 196, 3) := by decide +kernel
theorem dX6_goesOn_105 : decode cX6_goesOn 105 = .ok (.iconst 1, 1) := by decide +kernel
theorem dX6_goesOn_106 : decode cX6_goesOn 106 = .ok (.ireturn, 1) := by decide +kernel
theorem dX6_part_0 : decode cX6_part 0 = .ok (.aload_n 0, 1) := by decide +kernel
theorem dX6_part_1 : decode cX6_part 1 = .ok (.iload_n 2, 1) := by decide +kernel
theorem dX6_part_2 : decode cX6_part 2 = .ok (.invokevirtual 215, 3) := by decide +kernel
theorem dX6_part_5 : decode cX6_part 5 = .ok (.ifCond .ne 5, 3) := by decide +kernel
theorem dX6_part_8 : decode cX6_part 8 = .ok (.iconst 0, 1) := by decide +kernel
theorem dX6_part_9 : decode cX6_part 9 = .ok (.ireturn, 1) := by decide +kernel
theorem dX6_part_10 : decode cX6_part 10 = .ok (.aload_n 0, 1) := by decide +kernel
theorem dX6_part_11 : decode cX6_part 11 = .ok (.getfield 35, 3) := by decide +kernel
theorem dX6_part_14 : decode cX6_part 14 = .ok (.iload_n 1, 1) := by decide +kernel
theorem dX6_part_15 : decode cX6_part 15 = .ok (.aload_n 0, 1) := by decide +kernel
theorem dX6_part_16 : decode cX6_part 16 = .ok (.getfield 177, 3) := by decide +kernel
theorem dX6_part_19 : decode cX6_part 19 = .ok (.iastore, 1) := by decide +kernel
theorem dX6_part_20 : decode cX6_part 20 = .ok (.aload_n 0, 1) := by decide +kernel
theorem dX6_part_21 : decode cX6_part 21 = .ok (.iconst 0, 1) := by decide +kernel
theorem dX6_part_22 : decode cX6_part 22 = .ok (.putfield 180, 3) := by decide +kernel
theorem dX6_part_25 : decode cX6_part 25 = .ok (.aload_n 0, 1) := by decide +kernel
theorem dX6_part_26 : decode cX6_part 26 = .ok (.iconst 0, 1) := by decide +kernel
theorem dX6_part_27 : decode cX6_part 27 = .ok (.putfield 186, 3) := by decide +kernel
theorem dX6_part_30 : decode cX6_part 30 = .ok (.aload_n 0, 1) := by decide +kernel
theorem dX6_part_31 : decode cX6_part 31 = .ok (.iconst 0, 1) := by decide +kernel
theorem dX6_part_32 : decode cX6_part 32 = .ok (.putfield 196, 3) := by decide +kernel
theorem dX6_part_35 : decode cX6_part 35 = .ok (.aload_n 0, 1) := by decide +kernel
theorem dX6_part_36 : decode cX6_part 36 = .ok (.iconst 0, 1) := by decide +kernel
theorem dX6_part_37 : decode cX6_part 37 = .ok (.putfield 192, 3) := by decide +kernel
theorem dX6_part_40 : decode cX6_part 40 = .ok (.aload_n 0, 1) := by decide +kernel
theorem dX6_part_41 : decode cX6_part 41 = .ok (.iconst 1, 1) := by decide +kernel
theorem dX6_part_42 : decode cX6_part 42 = .ok (.putfield 202, 3) := by decide +kernel
theorem dX6_part_45 : decode cX6_part 45 = .ok (.aload_n 0, 1) := by decide +kernel
theorem dX6_part_46 : decode cX6_part 46 = .ok (.getfield 192, 3) := by decide +kernel
theorem dX6_part_49 : decode cX6_part 49 = .ok (.ifCond .eq 12, 3) := by decide +kernel
theorem dX6_part_52 : decode cX6_part 52 = .ok (.aload_n 0, 1) := by decide +kernel
theorem dX6_part_53 : decode cX6_part 53 = .ok (.getfield 151, 3) := by decide +kernel
theorem dX6_part_56 : decode cX6_part 56 = .ok (.bipush 59, 2) := by decide +kernel
theorem dX6_part_58 : decode cX6_part 58 = .ok (.if_icmp .eq 19, 3) := by decide +kernel
theorem dX6_part_61 : decode cX6_part 61 = .ok (.aload_n 0, 1) := by decide +kernel
theorem dX6_part_62 : decode cX6_part 62 = .ok (.invokevirtual 218, 3) := by decide +kernel
theorem dX6_part_65 : decode cX6_part 65 = .ok (.ifCond .ne 5, 3) := by decide +kernel
theorem dX6_part_68 : decode cX6_part 68 = .ok (.iconst 0, 1) := by decide +kernel
theorem dX6_part_69 : decode cX6_part 69 = .ok (.ireturn, 1) := by decide +kernel
theorem dX6_part_70 : decode cX6_part 70 = .ok (.aload_n 0, 1) := by decide +kernel
theorem dX6_part_71 : decode cX6_part 71 = .ok (.invokevirtual 174, 3) := by decide +kernel
theorem dX6_part_74 : decode cX6_part 74 = .ok (.goto (-29), 3) := by decide +kernel
theorem dX6_part_77 : decode cX6_part 77 = .ok (.aload_n 0, 1) := by decide +kernel
theorem dX6_part_78 : decode cX6_part 78 = .ok (.iconst 1, 1) := by decide +kernel
theorem dX6_part_79 : decode cX6_part 79 = .ok (.invokevirtual 189, 3) := by decide +kernel
theorem dX6_part_82 : decode cX6_part 82 = .ok (.aload_n 0, 1) := by decide +kernel
theorem dX6_part_83 : decode cX6_part 83 = .ok (.getfield 180, 3) := by decide +kernel
theorem dX6_part_86 : decode cX6_part 86 = .ok (.ifCond .le 5, 3) := by decide +kernel
theorem dX6_part_89 : decode cX6_part 89 = .ok (.iconst 0, 1) := by decide +kernel
theorem dX6_part_90 : decode cX6_part 90 = .ok (.ireturn, 1) := by decide +kernel
theorem dX6_part_91 : decode cX6_part 91 = .ok (.aload_n 0, 1) := by decide +kernel
theorem dX6_part_92 : decode cX6_part 92 = .ok (.getfield 38, 3) := by decide +kernel
theorem dX6_part_95 : decode cX6_part 95 = .ok (.iload_n 1, 1) := by decide +kernel
theorem dX6_part_96 : decode cX6_part 96 = .ok (.aload_n 0, 1) := by decide +kernel
theorem dX6_part_97 : decode cX6_part 97 = .ok (.getfield 177, 3) := by decide +kernel
theorem dX6_part_100 : decode cX6_part 100 = .ok (.aload_n 0, 1) := by decide +kernel
theorem dX6_part_101 : decode cX6_part 101 = .ok (.getfield 35, 3) := by decide +kernel
theorem dX6_part_104 : decode cX6_part 104 = .ok (.iload_n 1, 1) := by decide +kernel
theorem dX6_part_105 : decode cX6_part 105 = .ok (.iaload, 1) := by decide +kernel
theorem dX6_part_106 : decode cX6_part 106 = .ok (.isub, 1) := by decide +kernel
theorem dX6_part_107 : decode cX6_part 107 = .ok (.iastore, 1) := by decide +kernel
theorem dX6_part_108 : decode cX6_part 108 = .ok (.aload_n 0, 1) := by decide +kernel
theorem dX6_part_109 : decode cX6_part 109 = .ok (.invokevirtual 174, 3) := by decide +kernel
theorem dX6_part_112 : decode cX6_part 112 = .ok (.iconst 1, 1) := by decide +kernel
theorem dX6_part_113 : decode cX6_part 113 = .ok (.ireturn, 1) := by decide +kernel
theorem dX6_text_0 : decode cX6_text 0 = .ok (.aload_n 0, 1) := by decide +kernel
theorem dX6_text_1 : decode cX6_text 1 = .ok (.getfield 90, 3) := by decide +kernel
theorem dX6_text_4 : decode cX6_text 4 = .ok (.bipush 6, 2) := by decide +kernel
theorem dX6_text_6 : decode cX6_text 6 = .ok (.if_icmp .ne 6, 3) := by decide +kernel
theorem dX6_text_9 : decode cX6_text 9 = .ok (.bipush (-4), 2) := by decide +kernel
theorem dX6_text_11 : decode cX6_text 11 = .ok (.ireturn, 1) := by decide +kernel
theorem dX6_text_12 : decode cX6_text 12 = .ok (.aload_n 0, 1) := by decide +kernel
theorem dX6_text_13 : decode cX6_text 13 = .ok (.getfield 177, 3) := by decide +kernel
theorem dX6_text_16 : decode cX6_text 16 = .ok (.istore_n 1, 1) := by decide +kernel
theorem dX6_text_17 : decode cX6_text 17 = .ok (.aload_n 0, 1) := by decide +kernel
theorem dX6_text_18 : decode cX6_text 18 = .ok (.iconst 0, 1) := by decide +kernel
theorem dX6_text_19 : decode cX6_text 19 = .ok (.putfield 145, 3) := by decide +kernel
theorem dX6_text_22 : decode cX6_text 22 = .ok (.aload_n 0, 1) := by decide +kernel
theorem dX6_text_23 : decode cX6_text 23 = .ok (.invokevirtual 174, 3) := by decide +kernel
theorem dX6_text_26 : decode cX6_text 26 = .ok (.aload_n 0, 1) := by decide +kernel
theorem dX6_text_27 : decode cX6_text 27 = .ok (.iconst 3, 1) := by decide +kernel
theorem dX6_text_28 : decode cX6_text 28 = .ok (.aload_n 0, 1) := by decide +kernel
theorem dX6_text_29 : decode cX6_text 29 = .ok (.getfield 90, 3) := by decide +kernel
theorem dX6_text_32 : decode cX6_text 32 = .ok (.imul, 1) := by decide +kernel
theorem dX6_text_33 : decode cX6_text 33 = .ok (.ldc 221, 2) := by decide +kernel
theorem dX6_text_35 : decode cX6_text 35 = .ok (.invokevirtual 222, 3) := by decide +kernel
theorem dX6_text_38 : decode cX6_text 38 = .ok (.ifCond .eq 50, 3) := by decide +kernel
theorem dX6_text_41 : decode cX6_text 41 = .ok (.aload_n 0, 1) := by decide +kernel
theorem dX6_text_42 : decode cX6_text 42 = .ok (.iconst 3, 1) := by decide +kernel
theorem dX6_text_43 : decode cX6_text 43 = .ok (.aload_n 0, 1) := by decide +kernel
theorem dX6_text_44 : decode cX6_text 44 = .ok (.getfield 90, 3) := by decide +kernel
theorem dX6_text_47 : decode cX6_text 47 = .ok (.imul, 1) := by decide +kernel
theorem dX6_text_48 : decode cX6_text 48 = .ok (.iconst 1, 1) := by decide +kernel
theorem dX6_text_49 : decode cX6_text 49 = .ok (.iadd, 1) := by decide +kernel
theorem dX6_text_50 : decode cX6_text 50 = .ok (.ldc 225, 2) := by decide +kernel
theorem dX6_text_52 : decode cX6_text 52 = .ok (.invokevirtual 222, 3) := by decide +kernel
theorem dX6_text_55 : decode cX6_text 55 = .ok (.ifCond .eq 33, 3) := by decide +kernel
theorem dX6_text_58 : decode cX6_text 58 = .ok (.aload_n 0, 1) := by decide +kernel
theorem dX6_text_59 : decode cX6_text 59 = .ok (.iconst 3, 1) := by decide +kernel
theorem dX6_text_60 : decode cX6_text 60 = .ok (.aload_n 0, 1) := by decide +kernel
theorem dX6_text_61 : decode cX6_text 61 = .ok (.getfield 90, 3) := by decide +kernel
theorem dX6_text_64 : decode cX6_text 64 = .ok (.imul, 1) := by decide +kernel
theorem dX6_text_65 : decode cX6_text 65 = .ok (.iconst 2, 1) := by decide +kernel
theorem dX6_text_66 : decode cX6_text 66 = .ok (.iadd, 1) := by decide +kernel
theorem dX6_text_67 : decode cX6_text 67 = .ok (.ldc 226, 2) := by decide +kernel
theorem dX6_text_69 : decode cX6_text 69 = .ok (.invokevirtual 222, 3) := by decide +kernel
theorem dX6_text_72 : decode cX6_text 72 = .ok (.ifCond .eq 16, 3) := by decide +kernel
theorem dX6_text_75 : decode cX6_text 75 = .ok (.aload_n 0, 1) := by decide +kernel
theorem dX6_text_76 : decode cX6_text 76 = .ok (.getfield 151, 3) := by decide +kernel
theorem dX6_text_79 : decode cX6_text 79 = .ok (.bipush 101, 2) := by decide +kernel
theorem dX6_text_81 : decode cX6_text 81 = .ok (.if_icmp .ne 7, 3) := by decide +kernel
theorem dX6_text_84 : decode cX6_text 84 = .ok (.iconst 1, 1) := by decide +kernel
theorem dX6_text_85 : decode cX6_text 85 = .ok (.goto 4, 3) := by decide +kernel
theorem dX6_text_88 : decode cX6_text 88 = .ok (.iconst 0, 1) := by decide +kernel
theorem dX6_text_89 : decode cX6_text 89 = .ok (.istore_n 2, 1) := by decide +kernel
theorem dX6_text_90 : decode cX6_text 90 = .ok (.aload_n 0, 1) := by decide +kernel
theorem dX6_text_91 : decode cX6_text 91 = .ok (.iconst 0, 1) := by decide +kernel
theorem dX6_text_92 : decode cX6_text 92 = .ok (.putfield 139, 3) := by decide +kernel
theorem dX6_text_95 : decode cX6_text 95 = .ok (.iload_n 2, 1) := by decide +kernel
theorem dX6_text_96 : decode cX6_text 96 = .ok (.ifCond .eq 15, 3) := by decide +kernel
theorem dX6_text_99 : decode cX6_text 99 = .ok (.aload_n 0, 1) := by decide +kernel
theorem dX6_text_100 : decode cX6_text 100 = .ok (.dup, 1) := by decide +kernel
theorem dX6_text_101 : decode cX6_text 101 = .ok (.getfield 90, 3) := by decide +kernel
theorem dX6_text_104 : decode cX6_text 104 = .ok (.dup_x1, 1) := by decide +kernel
theorem dX6_text_105 : decode cX6_text 105 = .ok (.iconst 1, 1) := by decide +kernel
theorem dX6_text_106 : decode cX6_text 106 = .ok (.iadd, 1) := by decide +kernel
theorem dX6_text_107 : decode cX6_text 107 = .ok (.putfield 90, 3) := by decide +kernel
theorem dX6_text_110 : decode cX6_text 110 = .ok (.ireturn, 1) := by decide +kernel
theorem dX6_text_111 : decode cX6_text 111 = .ok (.aload_n 0, 1) := by decide +kernel
theorem dX6_text_112 : decode cX6_text 112 = .ok (.iload_n 1, 1) := by decide +kernel
theorem dX6_text_113 : decode cX6_text 113 = .ok (.putfield 177, 3) := by decide +kernel
theorem dX6_text_116 : decode cX6_text 116 = .ok (.bipush (-100), 2) := by decide +kernel
theorem dX6_text_118 : decode cX6_text 118 = .ok (.aload_n 0, 1) := by decide +kernel
theorem dX6_text_119 : decode cX6_text 119 = .ok (.getfield 148, 3) := by decide +kernel
theorem dX6_text_122 : decode cX6_text 122 = .ok (.isub, 1) := by decide +kernel
theorem dX6_text_123 : decode cX6_text 123 = .ok (.ireturn, 1) := by decide +kernel
theorem dX6_force_0 : decode cX6_force 0 = .ok (.iload_n 1, 1) := by decide +kernel
theorem dX6_force_1 : decode cX6_force 1 = .ok (.iconst 0, 1) := by decide +kernel
theorem dX6_force_2 : decode cX6_force 2 = .ok (.aload_n 0, 1) := by decide +kernel
theorem dX6_force_3 : decode cX6_force 3 = .ok (.getfield 90, 3) := by decide +kernel
theorem dX6_force_6 : decode cX6_force 6 = .ok (.iconst 1, 1) := by decide +kernel
theorem dX6_force_7 : decode cX6_force 7 = .ok (.isub, 1) := by decide +kernel
theorem dX6_force_8 : decode cX6_force 8 = .ok (.invokestatic 97, 3) := by decide +kernel
theorem dX6_force_11 : decode cX6_force 11 = .ok (.ifCond .ne 6, 3) := by decide +kernel
theorem dX6_force_14 : decode cX6_force 14 = .ok (.bipush (-2), 2) := by decide +kernel
theorem dX6_force_16 : decode cX6_force 16 = .ok (.ireturn, 1) := by decide +kernel
theorem dX6_force_17 : decode cX6_force 17 = .ok (.aload_n 0, 1) := by decide +kernel
theorem dX6_force_18 : decode cX6_force 18 = .ok (.getfield 227, 3) := by decide +kernel
theorem dX6_force_21 : decode cX6_force 21 = .ok (.istore_n 2, 1) := by decide +kernel
theorem dX6_force_22 : decode cX6_force 22 = .ok (.aload_n 0, 1) := by decide +kernel
theorem dX6_force_23 : decode cX6_force 23 = .ok (.iload_n 1, 1) := by decide +kernel
theorem dX6_force_24 : decode cX6_force 24 = .ok (.putfield 227, 3) := by decide +kernel
theorem dX6_force_27 : decode cX6_force 27 = .ok (.iload_n 2, 1) := by decide +kernel
theorem dX6_force_28 : decode cX6_force 28 = .ok (.ireturn, 1) := by decide +kernel
theorem dX6_whole_0 : decode cX6_whole 0 = .ok (.iconst 0, 1) := by decide +kernel
theorem dX6_whole_1 : decode cX6_whole 1 = .ok (.istore_n 1, 1) := by decide +kernel
theorem dX6_whole_2 : decode cX6_whole 2 = .ok (.iconst 0, 1) := by decide +kernel
theorem dX6_whole_3 : decode cX6_whole 3 = .ok (.istore_n 2, 1) := by decide +kernel
theorem dX6_whole_4 : decode cX6_whole 4 = .ok (.iload_n 2, 1) := by decide +kernel
theorem dX6_whole_5 : decode cX6_whole 5 = .ok (.aload_n 0, 1) := by decide +kernel
theorem dX6_whole_6 : decode cX6_whole 6 = .ok (.getfield 94, 3) := by decide +kernel
theorem dX6_whole_9 : decode cX6_whole 9 = .ok (.if_icmp .ge 21, 3) := by decide +kernel
theorem dX6_whole_12 : decode cX6_whole 12 = .ok (.aload_n 0, 1) := by decide +kernel
theorem dX6_whole_13 : decode cX6_whole 13 = .ok (.getfield 28, 3) := by decide +kernel
theorem dX6_whole_16 : decode cX6_whole 16 = .ok (.iload_n 2, 1) := by decide +kernel
theorem dX6_whole_17 : decode cX6_whole 17 = .ok (.baload, 1) := by decide +kernel
theorem dX6_whole_18 : decode cX6_whole 18 = .ok (.ifCond .ne 6, 3) := by decide +kernel
theorem dX6_whole_21 : decode cX6_whole 21 = .ok (.iinc 1 1, 3) := by decide +kernel
theorem dX6_whole_24 : decode cX6_whole 24 = .ok (.iinc 2 1, 3) := by decide +kernel
theorem dX6_whole_27 : decode cX6_whole 27 = .ok (.goto (-23), 3) := by decide +kernel
theorem dX6_whole_30 : decode cX6_whole 30 = .ok (.iload_n 1, 1) := by decide +kernel
theorem dX6_whole_31 : decode cX6_whole 31 = .ok (.ireturn, 1) := by decide +kernel
theorem dX6_lengthOf_0 : decode cX6_lengthOf 0 = .ok (.aload_n 0, 1) := by decide +kernel
theorem dX6_lengthOf_1 : decode cX6_lengthOf 1 = .ok (.getfield 22, 3) := by decide +kernel
theorem dX6_lengthOf_4 : decode cX6_lengthOf 4 = .ok (.iload_n 1, 1) := by decide +kernel
theorem dX6_lengthOf_5 : decode cX6_lengthOf 5 = .ok (.iaload, 1) := by decide +kernel
theorem dX6_lengthOf_6 : decode cX6_lengthOf 6 = .ok (.aload_n 0, 1) := by decide +kernel
theorem dX6_lengthOf_7 : decode cX6_lengthOf 7 = .ok (.getfield 19, 3) := by decide +kernel
theorem dX6_lengthOf_10 : decode cX6_lengthOf 10 = .ok (.iload_n 1, 1) := by decide +kernel
theorem dX6_lengthOf_11 : decode cX6_lengthOf 11 = .ok (.iaload, 1) := by decide +kernel
theorem dX6_lengthOf_12 : decode cX6_lengthOf 12 = .ok (.isub, 1) := by decide +kernel
theorem dX6_lengthOf_13 : decode cX6_lengthOf 13 = .ok (.iconst 1, 1) := by decide +kernel
theorem dX6_lengthOf_14 : decode cX6_lengthOf 14 = .ok (.iadd, 1) := by decide +kernel
theorem dX6_lengthOf_15 : decode cX6_lengthOf 15 = .ok (.ireturn, 1) := by decide +kernel
theorem dX6_nameOf_0 : decode cX6_nameOf 0 = .ok (.iload_n 1, 1) := by decide +kernel
theorem dX6_nameOf_1 : decode cX6_nameOf 1 = .ok (.tableswitch 62 0 4 #[35, 41, 48, 55, 57], 35) := by decide +kernel
theorem dX6_nameOf_36 : decode cX6_nameOf 36 = .ok (.aload_n 0, 1) := by decide +kernel
theorem dX6_nameOf_37 : decode cX6_nameOf 37 = .ok (.iload_n 2, 1) := by decide +kernel
theorem dX6_nameOf_38 : decode cX6_nameOf 38 = .ok (.invokevirtual 230, 3) := by decide +kernel
theorem dX6_nameOf_41 : decode cX6_nameOf 41 = .ok (.ireturn, 1) := by decide +kernel
theorem dX6_nameOf_42 : decode cX6_nameOf 42 = .ok (.aload_n 0, 1) := by decide +kernel
theorem dX6_nameOf_43 : decode cX6_nameOf 43 = .ok (.getfield 25, 3) := by decide +kernel
theorem dX6_nameOf_46 : decode cX6_nameOf 46 = .ok (.iload_n 2, 1) := by decide +kernel
theorem dX6_nameOf_47 : decode cX6_nameOf 47 = .ok (.iaload, 1) := by decide +kernel
theorem dX6_nameOf_48 : decode cX6_nameOf 48 = .ok (.ireturn, 1) := by decide +kernel
theorem dX6_nameOf_49 : decode cX6_nameOf 49 = .ok (.aload_n 0, 1) := by decide +kernel
theorem dX6_nameOf_50 : decode cX6_nameOf 50 = .ok (.getfield 16, 3) := by decide +kernel
theorem dX6_nameOf_53 : decode cX6_nameOf 53 = .ok (.iload_n 2, 1) := by decide +kernel
theorem dX6_nameOf_54 : decode cX6_nameOf 54 = .ok (.iaload, 1) := by decide +kernel
theorem dX6_nameOf_55 : decode cX6_nameOf 55 = .ok (.ireturn, 1) := by decide +kernel
theorem dX6_nameOf_56 : decode cX6_nameOf 56 = .ok (.iload_n 3, 1) := by decide +kernel
theorem dX6_nameOf_57 : decode cX6_nameOf 57 = .ok (.ireturn, 1) := by decide +kernel
theorem dX6_nameOf_58 : decode cX6_nameOf 58 = .ok (.aload_n 0, 1) := by decide +kernel
theorem dX6_nameOf_59 : decode cX6_nameOf 59 = .ok (.getfield 108, 3) := by decide +kernel
theorem dX6_nameOf_62 : decode cX6_nameOf 62 = .ok (.ireturn, 1) := by decide +kernel
theorem dX6_nameOf_63 : decode cX6_nameOf 63 = .ok (.aload_n 0, 1) := by decide +kernel
theorem dX6_nameOf_64 : decode cX6_nameOf 64 = .ok (.invokevirtual 233, 3) := by decide +kernel
theorem dX6_nameOf_67 : decode cX6_nameOf 67 = .ok (.ireturn, 1) := by decide +kernel
theorem dX6_ruled_0 : decode cX6_ruled 0 = .ok (.iconst 0, 1) := by decide +kernel
theorem dX6_ruled_1 : decode cX6_ruled 1 = .ok (.istore 4, 2) := by decide +kernel
theorem dX6_ruled_3 : decode cX6_ruled 3 = .ok (.aload_n 0, 1) := by decide +kernel
theorem dX6_ruled_4 : decode cX6_ruled 4 = .ok (.getfield 35, 3) := by decide +kernel
theorem dX6_ruled_7 : decode cX6_ruled 7 = .ok (.iconst 3, 1) := by decide +kernel
theorem dX6_ruled_8 : decode cX6_ruled 8 = .ok (.aload_n 0, 1) := by decide +kernel
theorem dX6_ruled_9 : decode cX6_ruled 9 = .ok (.getfield 227, 3) := by decide +kernel
theorem dX6_ruled_12 : decode cX6_ruled 12 = .ok (.imul, 1) := by decide +kernel
theorem dX6_ruled_13 : decode cX6_ruled 13 = .ok (.iload_n 1, 1) := by decide +kernel
theorem dX6_ruled_14 : decode cX6_ruled 14 = .ok (.iadd, 1) := by decide +kernel
theorem dX6_ruled_15 : decode cX6_ruled 15 = .ok (.iaload, 1) := by decide +kernel
theorem dX6_ruled_16 : decode cX6_ruled 16 = .ok (.istore 5, 2) := by decide +kernel
theorem dX6_ruled_18 : decode cX6_ruled 18 = .ok (.iload 5, 2) := by decide +kernel
theorem dX6_ruled_20 : decode cX6_ruled 20 = .ok (.istore 6, 2) := by decide +kernel
theorem dX6_ruled_22 : decode cX6_ruled 22 = .ok (.iload 6, 2) := by decide +kernel
theorem dX6_ruled_24 : decode cX6_ruled 24 = .ok (.iload 5, 2) := by decide +kernel
theorem dX6_ruled_26 : decode cX6_ruled 26 = .ok (.aload_n 0, 1) := by decide +kernel
theorem dX6_ruled_27 : decode cX6_ruled 27 = .ok (.getfield 38, 3) := by decide +kernel
theorem dX6_ruled_30 : decode cX6_ruled 30 = .ok (.iconst 3, 1) := by decide +kernel
theorem dX6_ruled_31 : decode cX6_ruled 31 = .ok (.aload_n 0, 1) := by decide +kernel
theorem dX6_ruled_32 : decode cX6_ruled 32 = .ok (.getfield 227, 3) := by decide +kernel
theorem dX6_ruled_35 : decode cX6_ruled 35 = .ok (.imul, 1) := by decide +kernel
theorem dX6_ruled_36 : decode cX6_ruled 36 = .ok (.iload_n 1, 1) := by decide +kernel
theorem dX6_ruled_37 : decode cX6_ruled 37 = .ok (.iadd, 1) := by decide +kernel
theorem dX6_ruled_38 : decode cX6_ruled 38 = .ok (.iaload, 1) := by decide +kernel
theorem dX6_ruled_39 : decode cX6_ruled 39 = .ok (.iadd, 1) := by decide +kernel
theorem dX6_ruled_40 : decode cX6_ruled 40 = .ok (.if_icmp .ge 163, 3) := by decide +kernel
theorem dX6_ruled_43 : decode cX6_ruled 43 = .ok (.aload_n 0, 1) := by decide +kernel
theorem dX6_ruled_44 : decode cX6_ruled 44 = .ok (.getfield 41, 3) := by decide +kernel
theorem dX6_ruled_47 : decode cX6_ruled 47 = .ok (.iload 6, 2) := by decide +kernel
theorem dX6_ruled_49 : decode cX6_ruled 49 = .ok (.iaload, 1) := by decide +kernel
theorem dX6_ruled_50 : decode cX6_ruled 50 = .ok (.istore 7, 2) := by decide +kernel
theorem dX6_ruled_52 : decode cX6_ruled 52 = .ok (.iload 7, 2) := by decide +kernel
theorem dX6_ruled_54 : decode cX6_ruled 54 = .ok (.bipush 15, 2) := by decide +kernel
theorem dX6_ruled_56 : decode cX6_ruled 56 = .ok (.if_icmp .ge 9, 3) := by decide +kernel
theorem dX6_ruled_59 : decode cX6_ruled 59 = .ok (.iload 7, 2) := by decide +kernel
theorem dX6_ruled_61 : decode cX6_ruled 61 = .ok (.iconst 5, 1) := by decide +kernel
theorem dX6_ruled_62 : decode cX6_ruled 62 = .ok (.if_icmp .gt 39, 3) := by decide +kernel
theorem dX6_ruled_65 : decode cX6_ruled 65 = .ok (.aload_n 0, 1) := by decide +kernel
theorem dX6_ruled_66 : decode cX6_ruled 66 = .ok (.getfield 47, 3) := by decide +kernel
theorem dX6_ruled_69 : decode cX6_ruled 69 = .ok (.iload 4, 2) := by decide +kernel
theorem dX6_ruled_71 : decode cX6_ruled 71 = .ok (.iinc 4 1, 3) := by decide +kernel
theorem dX6_ruled_74 : decode cX6_ruled 74 = .ok (.iload 7, 2) := by decide +kernel
theorem dX6_ruled_76 : decode cX6_ruled 76 = .ok (.bipush 15, 2) := by decide +kernel
theorem dX6_ruled_78 : decode cX6_ruled 78 = .ok (.if_icmp .lt 11, 3) := by decide +kernel
theorem dX6_ruled_81 : decode cX6_ruled 81 = .ok (.iload 7, 2) := by decide +kernel
theorem dX6_ruled_83 : decode cX6_ruled 83 = .ok (.bipush 15, 2) := by decide +kernel
theorem dX6_ruled_85 : decode cX6_ruled 85 = .ok (.isub, 1) := by decide +kernel
theorem dX6_ruled_86 : decode cX6_ruled 86 = .ok (.goto 11, 3) := by decide +kernel
theorem dX6_ruled_89 : decode cX6_ruled 89 = .ok (.aload_n 0, 1) := by decide +kernel
theorem dX6_ruled_90 : decode cX6_ruled 90 = .ok (.iload 7, 2) := by decide +kernel
theorem dX6_ruled_92 : decode cX6_ruled 92 = .ok (.iload_n 2, 1) := by decide +kernel
theorem dX6_ruled_93 : decode cX6_ruled 93 = .ok (.iload_n 3, 1) := by decide +kernel
theorem dX6_ruled_94 : decode cX6_ruled 94 = .ok (.invokevirtual 236, 3) := by decide +kernel
theorem dX6_ruled_97 : decode cX6_ruled 97 = .ok (.iastore, 1) := by decide +kernel
theorem dX6_ruled_98 : decode cX6_ruled 98 = .ok (.goto 99, 3) := by decide +kernel
theorem dX6_ruled_101 : decode cX6_ruled 101 = .ok (.iload 7, 2) := by decide +kernel
theorem dX6_ruled_103 : decode cX6_ruled 103 = .ok (.bipush 13, 2) := by decide +kernel
theorem dX6_ruled_105 : decode cX6_ruled 105 = .ok (.if_icmp .eq 10, 3) := by decide +kernel
theorem dX6_ruled_108 : decode cX6_ruled 108 = .ok (.iload 7, 2) := by decide +kernel
theorem dX6_ruled_110 : decode cX6_ruled 110 = .ok (.bipush 14, 2) := by decide +kernel
theorem dX6_ruled_112 : decode cX6_ruled 112 = .ok (.if_icmp .ne 52, 3) := by decide +kernel
theorem dX6_ruled_115 : decode cX6_ruled 115 = .ok (.aload_n 0, 1) := by decide +kernel
theorem dX6_ruled_116 : decode cX6_ruled 116 = .ok (.getfield 47, 3) := by decide +kernel
theorem dX6_ruled_119 : decode cX6_ruled 119 = .ok (.iload 4, 2) := by decide +kernel
theorem dX6_ruled_121 : decode cX6_ruled 121 = .ok (.iconst 1, 1) := by decide +kernel
theorem dX6_ruled_122 : decode cX6_ruled 122 = .ok (.isub, 1) := by decide +kernel
theorem dX6_ruled_123 : decode cX6_ruled 123 = .ok (.iload 7, 2) := by decide +kernel
theorem dX6_ruled_125 : decode cX6_ruled 125 = .ok (.bipush 14, 2) := by decide +kernel
theorem dX6_ruled_127 : decode cX6_ruled 127 = .ok (.if_icmp .ne 16, 3) := by decide +kernel
theorem dX6_ruled_130 : decode cX6_ruled 130 = .ok (.aload_n 0, 1) := by decide +kernel
theorem dX6_ruled_131 : decode cX6_ruled 131 = .ok (.getfield 47, 3) := by decide +kernel
theorem dX6_ruled_134 : decode cX6_ruled 134 = .ok (.iload 4, 2) := by decide +kernel
theorem dX6_ruled_136 : decode cX6_ruled 136 = .ok (.iconst 1, 1) := by decide +kernel
theorem dX6_ruled_137 : decode cX6_ruled 137 = .ok (.isub, 1) := by decide +kernel
theorem dX6_ruled_138 : decode cX6_ruled 138 = .ok (.iaload, 1) := by decide +kernel
theorem dX6_ruled_139 : decode cX6_ruled 139 = .ok (.ineg, 1) := by decide +kernel
theorem dX6_ruled_140 : decode cX6_ruled 140 = .ok (.goto 20, 3) := by decide +kernel
theorem dX6_ruled_143 : decode cX6_ruled 143 = .ok (.aload_n 0, 1) := by decide +kernel
theorem dX6_ruled_144 : decode cX6_ruled 144 = .ok (.getfield 47, 3) := by decide +kernel
theorem dX6_ruled_147 : decode cX6_ruled 147 = .ok (.iload 4, 2) := by decide +kernel
theorem dX6_ruled_149 : decode cX6_ruled 149 = .ok (.iconst 1, 1) := by decide +kernel
theorem dX6_ruled_150 : decode cX6_ruled 150 = .ok (.isub, 1) := by decide +kernel
theorem dX6_ruled_151 : decode cX6_ruled 151 = .ok (.iaload, 1) := by decide +kernel
theorem dX6_ruled_152 : decode cX6_ruled 152 = .ok (.ifCond .ne 7, 3) := by decide +kernel
theorem dX6_ruled_155 : decode cX6_ruled 155 = .ok (.iconst 1, 1) := by decide +kernel
theorem dX6_ruled_156 : decode cX6_ruled 156 = .ok (.goto 4, 3) := by decide +kernel
theorem dX6_ruled_159 : decode cX6_ruled 159 = .ok (.iconst 0, 1) := by decide +kernel
theorem dX6_ruled_160 : decode cX6_ruled 160 = .ok (.iastore, 1) := by decide +kernel
theorem dX6_ruled_161 : decode cX6_ruled 161 = .ok (.goto 36, 3) := by decide +kernel
theorem dX6_ruled_164 : decode cX6_ruled 164 = .ok (.iinc 4 (-1), 3) := by decide +kernel
theorem dX6_ruled_167 : decode cX6_ruled 167 = .ok (.aload_n 0, 1) := by decide +kernel
theorem dX6_ruled_168 : decode cX6_ruled 168 = .ok (.getfield 47, 3) := by decide +kernel
theorem dX6_ruled_171 : decode cX6_ruled 171 = .ok (.iload 4, 2) := by decide +kernel
theorem dX6_ruled_173 : decode cX6_ruled 173 = .ok (.iconst 1, 1) := by decide +kernel
theorem dX6_ruled_174 : decode cX6_ruled 174 = .ok (.isub, 1) := by decide +kernel
theorem dX6_ruled_175 : decode cX6_ruled 175 = .ok (.iload 7, 2) := by decide +kernel
theorem dX6_ruled_177 : decode cX6_ruled 177 = .ok (.aload_n 0, 1) := by decide +kernel
theorem dX6_ruled_178 : decode cX6_ruled 178 = .ok (.getfield 47, 3) := by decide +kernel
theorem dX6_ruled_181 : decode cX6_ruled 181 = .ok (.iload 4, 2) := by decide +kernel
theorem dX6_ruled_183 : decode cX6_ruled 183 = .ok (.iconst 1, 1) := by decide +kernel
theorem dX6_ruled_184 : decode cX6_ruled 184 = .ok (.isub, 1) := by decide +kernel
theorem dX6_ruled_185 : decode cX6_ruled 185 = .ok (.iaload, 1) := by decide +kernel
theorem dX6_ruled_186 : decode cX6_ruled 186 = .ok (.aload_n 0, 1) := by decide +kernel
theorem dX6_ruled_187 : decode cX6_ruled 187 = .ok (.getfield 47, 3) := by decide +kernel
theorem dX6_ruled_190 : decode cX6_ruled 190 = .ok (.iload 4, 2) := by decide +kernel
theorem dX6_ruled_192 : decode cX6_ruled 192 = .ok (.iaload, 1) := by decide +kernel
theorem dX6_ruled_193 : decode cX6_ruled 193 = .ok (.invokestatic 240, 3) := by decide +kernel
theorem dX6_ruled_196 : decode cX6_ruled 196 = .ok (.iastore, 1) := by decide +kernel
theorem dX6_ruled_197 : decode cX6_ruled 197 = .ok (.iinc 6 1, 3) := by decide +kernel
theorem dX6_ruled_200 : decode cX6_ruled 200 = .ok (.goto (-178), 3) := by decide +kernel
theorem dX6_ruled_203 : decode cX6_ruled 203 = .ok (.aload_n 0, 1) := by decide +kernel
theorem dX6_ruled_204 : decode cX6_ruled 204 = .ok (.getfield 47, 3) := by decide +kernel
theorem dX6_ruled_207 : decode cX6_ruled 207 = .ok (.iconst 0, 1) := by decide +kernel
theorem dX6_ruled_208 : decode cX6_ruled 208 = .ok (.iaload, 1) := by decide +kernel
theorem dX6_ruled_209 : decode cX6_ruled 209 = .ok (.iload_n 1, 1) := by decide +kernel
theorem dX6_ruled_210 : decode cX6_ruled 210 = .ok (.iconst 2, 1) := by decide +kernel
theorem dX6_ruled_211 : decode cX6_ruled 211 = .ok (.if_icmp .ne 9, 3) := by decide +kernel
theorem dX6_ruled_214 : decode cX6_ruled 214 = .ok (.sipush 999, 3) := by decide +kernel
theorem dX6_ruled_217 : decode cX6_ruled 217 = .ok (.goto 5, 3) := by decide +kernel
theorem dX6_ruled_220 : decode cX6_ruled 220 = .ok (.bipush 99, 2) := by decide +kernel
theorem dX6_ruled_222 : decode cX6_ruled 222 = .ok (.invokestatic 243, 3) := by decide +kernel
theorem dX6_ruled_225 : decode cX6_ruled 225 = .ok (.ireturn, 1) := by decide +kernel
theorem dX6_bound_0 : decode cX6_bound 0 = .ok (.iload_n 0, 1) := by decide +kernel
theorem dX6_bound_1 : decode cX6_bound 1 = .ok (.ifCond .ge 7, 3) := by decide +kernel
theorem dX6_bound_4 : decode cX6_bound 4 = .ok (.iconst 0, 1) := by decide +kernel
theorem dX6_bound_5 : decode cX6_bound 5 = .ok (.goto 13, 3) := by decide +kernel
theorem dX6_bound_8 : decode cX6_bound 8 = .ok (.iload_n 0, 1) := by decide +kernel
theorem dX6_bound_9 : decode cX6_bound 9 = .ok (.iload_n 1, 1) := by decide +kernel
theorem dX6_bound_10 : decode cX6_bound 10 = .ok (.if_icmp .le 7, 3) := by decide +kernel
theorem dX6_bound_13 : decode cX6_bound 13 = .ok (.iload_n 1, 1) := by decide +kernel
theorem dX6_bound_14 : decode cX6_bound 14 = .ok (.goto 4, 3) := by decide +kernel
theorem dX6_bound_17 : decode cX6_bound 17 = .ok (.iload_n 0, 1) := by decide +kernel
theorem dX6_bound_18 : decode cX6_bound 18 = .ok (.ireturn, 1) := by decide +kernel
theorem dX6_both_0 : decode cX6_both 0 = .ok (.iload_n 0, 1) := by decide +kernel
theorem dX6_both_1 : decode cX6_both 1 = .ok (.tableswitch 87 6 11 #[39, 43, 47, 51, 62, 73], 39) := by decide +kernel
theorem dX6_both_40 : decode cX6_both 40 = .ok (.iload_n 1, 1) := by decide +kernel
theorem dX6_both_41 : decode cX6_both 41 = .ok (.iload_n 2, 1) := by decide +kernel
theorem dX6_both_42 : decode cX6_both 42 = .ok (.iadd, 1) := by decide +kernel
theorem dX6_both_43 : decode cX6_both 43 = .ok (.ireturn, 1) := by decide +kernel
theorem dX6_both_44 : decode cX6_both 44 = .ok (.iload_n 1, 1) := by decide +kernel
theorem dX6_both_45 : decode cX6_both 45 = .ok (.iload_n 2, 1) := by decide +kernel
theorem dX6_both_46 : decode cX6_both 46 = .ok (.isub, 1) := by decide +kernel
theorem dX6_both_47 : decode cX6_both 47 = .ok (.ireturn, 1) := by decide +kernel
theorem dX6_both_48 : decode cX6_both 48 = .ok (.iload_n 1, 1) := by decide +kernel
theorem dX6_both_49 : decode cX6_both 49 = .ok (.iload_n 2, 1) := by decide +kernel
theorem dX6_both_50 : decode cX6_both 50 = .ok (.imul, 1) := by decide +kernel
theorem dX6_both_51 : decode cX6_both 51 = .ok (.ireturn, 1) := by decide +kernel
theorem dX6_both_52 : decode cX6_both 52 = .ok (.iload_n 1, 1) := by decide +kernel
theorem dX6_both_53 : decode cX6_both 53 = .ok (.iload_n 2, 1) := by decide +kernel
theorem dX6_both_54 : decode cX6_both 54 = .ok (.if_icmp .ge 7, 3) := by decide +kernel
theorem dX6_both_57 : decode cX6_both 57 = .ok (.iconst 1, 1) := by decide +kernel
theorem dX6_both_58 : decode cX6_both 58 = .ok (.goto 4, 3) := by decide +kernel
theorem dX6_both_61 : decode cX6_both 61 = .ok (.iconst 0, 1) := by decide +kernel
theorem dX6_both_62 : decode cX6_both 62 = .ok (.ireturn, 1) := by decide +kernel
theorem dX6_both_63 : decode cX6_both 63 = .ok (.iload_n 1, 1) := by decide +kernel
theorem dX6_both_64 : decode cX6_both 64 = .ok (.iload_n 2, 1) := by decide +kernel
theorem dX6_both_65 : decode cX6_both 65 = .ok (.if_icmp .ne 7, 3) := by decide +kernel
theorem dX6_both_68 : decode cX6_both 68 = .ok (.iconst 1, 1) := by decide +kernel
theorem dX6_both_69 : decode cX6_both 69 = .ok (.goto 4, 3) := by decide +kernel
theorem dX6_both_72 : decode cX6_both 72 = .ok (.iconst 0, 1) := by decide +kernel
theorem dX6_both_73 : decode cX6_both 73 = .ok (.ireturn, 1) := by decide +kernel
theorem dX6_both_74 : decode cX6_both 74 = .ok (.iload_n 1, 1) := by decide +kernel
theorem dX6_both_75 : decode cX6_both 75 = .ok (.ifCond .eq 11, 3) := by decide +kernel
theorem dX6_both_78 : decode cX6_both 78 = .ok (.iload_n 2, 1) := by decide +kernel
theorem dX6_both_79 : decode cX6_both 79 = .ok (.ifCond .eq 7, 3) := by decide +kernel
theorem dX6_both_82 : decode cX6_both 82 = .ok (.iconst 1, 1) := by decide +kernel
theorem dX6_both_83 : decode cX6_both 83 = .ok (.goto 4, 3) := by decide +kernel
theorem dX6_both_86 : decode cX6_both 86 = .ok (.iconst 0, 1) := by decide +kernel
theorem dX6_both_87 : decode cX6_both 87 = .ok (.ireturn, 1) := by decide +kernel
theorem dX6_both_88 : decode cX6_both 88 = .ok (.iload_n 1, 1) := by decide +kernel
theorem dX6_both_89 : decode cX6_both 89 = .ok (.ifCond .ne 7, 3) := by decide +kernel
theorem dX6_both_92 : decode cX6_both 92 = .ok (.iload_n 2, 1) := by decide +kernel
theorem dX6_both_93 : decode cX6_both 93 = .ok (.ifCond .eq 7, 3) := by decide +kernel
theorem dX6_both_96 : decode cX6_both 96 = .ok (.iconst 1, 1) := by decide +kernel
theorem dX6_both_97 : decode cX6_both 97 = .ok (.goto 4, 3) := by decide +kernel
theorem dX6_both_100 : decode cX6_both 100 = .ok (.iconst 0, 1) := by decide +kernel
theorem dX6_both_101 : decode cX6_both 101 = .ok (.ireturn, 1) := by decide +kernel
theorem dX6_pulls_0 : decode cX6_pulls 0 = .ok (.aload_n 0, 1) := by decide +kernel
theorem dX6_pulls_1 : decode cX6_pulls 1 = .ok (.iconst 0, 1) := by decide +kernel
theorem dX6_pulls_2 : decode cX6_pulls 2 = .ok (.iload_n 1, 1) := by decide +kernel
theorem dX6_pulls_3 : decode cX6_pulls 3 = .ok (.aload_n 0, 1) := by decide +kernel
theorem dX6_pulls_4 : decode cX6_pulls 4 = .ok (.getfield 7, 3) := by decide +kernel
theorem dX6_pulls_7 : decode cX6_pulls 7 = .ok (.iload_n 2, 1) := by decide +kernel
theorem dX6_pulls_8 : decode cX6_pulls 8 = .ok (.iaload, 1) := by decide +kernel
theorem dX6_pulls_9 : decode cX6_pulls 9 = .ok (.invokevirtual 246, 3) := by decide +kernel
theorem dX6_pulls_12 : decode cX6_pulls 12 = .ok (.istore_n 3, 1) := by decide +kernel
theorem dX6_pulls_13 : decode cX6_pulls 13 = .ok (.aload_n 0, 1) := by decide +kernel
theorem dX6_pulls_14 : decode cX6_pulls 14 = .ok (.getfield 13, 3) := by decide +kernel
theorem dX6_pulls_17 : decode cX6_pulls 17 = .ok (.iload_n 1, 1) := by decide +kernel
theorem dX6_pulls_18 : decode cX6_pulls 18 = .ok (.iaload, 1) := by decide +kernel
theorem dX6_pulls_19 : decode cX6_pulls 19 = .ok (.tableswitch 85 1 5 #[33, 37, 46, 63, 79], 33) := by decide +kernel
theorem dX6_pulls_52 : decode cX6_pulls 52 = .ok (.iload_n 3, 1) := by decide +kernel
theorem dX6_pulls_53 : decode cX6_pulls 53 = .ok (.iconst 2, 1) := by decide +kernel
theorem dX6_pulls_54 : decode cX6_pulls 54 = .ok (.idiv, 1) := by decide +kernel
theorem dX6_pulls_55 : decode cX6_pulls 55 = .ok (.ireturn, 1) := by decide +kernel
theorem dX6_pulls_56 : decode cX6_pulls 56 = .ok (.iload_n 3, 1) := by decide +kernel
theorem dX6_pulls_57 : decode cX6_pulls 57 = .ok (.iconst 2, 1) := by decide +kernel
theorem dX6_pulls_58 : decode cX6_pulls 58 = .ok (.iadd, 1) := by decide +kernel
theorem dX6_pulls_59 : decode cX6_pulls 59 = .ok (.bipush 99, 2) := by decide +kernel
theorem dX6_pulls_61 : decode cX6_pulls 61 = .ok (.invokestatic 243, 3) := by decide +kernel
theorem dX6_pulls_64 : decode cX6_pulls 64 = .ok (.ireturn, 1) := by decide +kernel
theorem dX6_pulls_65 : decode cX6_pulls 65 = .ok (.aload_n 0, 1) := by decide +kernel
theorem dX6_pulls_66 : decode cX6_pulls 66 = .ok (.iload_n 1, 1) := by decide +kernel
theorem dX6_pulls_67 : decode cX6_pulls 67 = .ok (.invokevirtual 230, 3) := by decide +kernel
theorem dX6_pulls_70 : decode cX6_pulls 70 = .ok (.iconst 4, 1) := by decide +kernel
theorem dX6_pulls_71 : decode cX6_pulls 71 = .ok (.if_icmp .ge 7, 3) := by decide +kernel
theorem dX6_pulls_74 : decode cX6_pulls 74 = .ok (.iconst 0, 1) := by decide +kernel
theorem dX6_pulls_75 : decode cX6_pulls 75 = .ok (.goto 6, 3) := by decide +kernel
theorem dX6_pulls_78 : decode cX6_pulls 78 = .ok (.iload_n 3, 1) := by decide +kernel
theorem dX6_pulls_79 : decode cX6_pulls 79 = .ok (.iconst 2, 1) := by decide +kernel
theorem dX6_pulls_80 : decode cX6_pulls 80 = .ok (.idiv, 1) := by decide +kernel
theorem dX6_pulls_81 : decode cX6_pulls 81 = .ok (.ireturn, 1) := by decide +kernel
theorem dX6_pulls_82 : decode cX6_pulls 82 = .ok (.iload_n 3, 1) := by decide +kernel
theorem dX6_pulls_83 : decode cX6_pulls 83 = .ok (.iconst 2, 1) := by decide +kernel
theorem dX6_pulls_84 : decode cX6_pulls 84 = .ok (.iadd, 1) := by decide +kernel
theorem dX6_pulls_85 : decode cX6_pulls 85 = .ok (.aload_n 0, 1) := by decide +kernel
theorem dX6_pulls_86 : decode cX6_pulls 86 = .ok (.getfield 16, 3) := by decide +kernel
theorem dX6_pulls_89 : decode cX6_pulls 89 = .ok (.iload_n 1, 1) := by decide +kernel
theorem dX6_pulls_90 : decode cX6_pulls 90 = .ok (.iaload, 1) := by decide +kernel
theorem dX6_pulls_91 : decode cX6_pulls 91 = .ok (.iadd, 1) := by decide +kernel
theorem dX6_pulls_92 : decode cX6_pulls 92 = .ok (.bipush 99, 2) := by decide +kernel
theorem dX6_pulls_94 : decode cX6_pulls 94 = .ok (.invokestatic 243, 3) := by decide +kernel
theorem dX6_pulls_97 : decode cX6_pulls 97 = .ok (.ireturn, 1) := by decide +kernel
theorem dX6_pulls_98 : decode cX6_pulls 98 = .ok (.aload_n 0, 1) := by decide +kernel
theorem dX6_pulls_99 : decode cX6_pulls 99 = .ok (.iload_n 1, 1) := by decide +kernel
theorem dX6_pulls_100 : decode cX6_pulls 100 = .ok (.invokevirtual 230, 3) := by decide +kernel
theorem dX6_pulls_103 : decode cX6_pulls 103 = .ok (.ireturn, 1) := by decide +kernel
theorem dX6_pulls_104 : decode cX6_pulls 104 = .ok (.iload_n 3, 1) := by decide +kernel
theorem dX6_pulls_105 : decode cX6_pulls 105 = .ok (.ireturn, 1) := by decide +kernel
theorem dX6_wears_0 : decode cX6_wears 0 = .ok (.aload_n 0, 1) := by decide +kernel
theorem dX6_wears_1 : decode cX6_wears 1 = .ok (.iconst 1, 1) := by decide +kernel
theorem dX6_wears_2 : decode cX6_wears 2 = .ok (.iload_n 1, 1) := by decide +kernel
theorem dX6_wears_3 : decode cX6_wears 3 = .ok (.iconst 0, 1) := by decide +kernel
theorem dX6_wears_4 : decode cX6_wears 4 = .ok (.invokevirtual 246, 3) := by decide +kernel
theorem dX6_wears_7 : decode cX6_wears 7 = .ok (.istore_n 2, 1) := by decide +kernel
theorem dX6_wears_8 : decode cX6_wears 8 = .ok (.aload_n 0, 1) := by decide +kernel
theorem dX6_wears_9 : decode cX6_wears 9 = .ok (.getfield 13, 3) := by decide +kernel
theorem dX6_wears_12 : decode cX6_wears 12 = .ok (.iload_n 1, 1) := by decide +kernel
theorem dX6_wears_13 : decode cX6_wears 13 = .ok (.iaload, 1) := by decide +kernel
theorem dX6_wears_14 : decode cX6_wears 14 = .ok (.tableswitch 79 1 5 #[34, 79, 43, 59, 76], 34) := by decide +kernel
theorem dX6_wears_48 : decode cX6_wears 48 = .ok (.iconst 2, 1) := by decide +kernel
theorem dX6_wears_49 : decode cX6_wears 49 = .ok (.iload_n 2, 1) := by decide +kernel
theorem dX6_wears_50 : decode cX6_wears 50 = .ok (.imul, 1) := by decide +kernel
theorem dX6_wears_51 : decode cX6_wears 51 = .ok (.bipush 99, 2) := by decide +kernel
theorem dX6_wears_53 : decode cX6_wears 53 = .ok (.invokestatic 243, 3) := by decide +kernel
theorem dX6_wears_56 : decode cX6_wears 56 = .ok (.ireturn, 1) := by decide +kernel
theorem dX6_wears_57 : decode cX6_wears 57 = .ok (.iconst 2, 1) := by decide +kernel
theorem dX6_wears_58 : decode cX6_wears 58 = .ok (.iload_n 2, 1) := by decide +kernel
theorem dX6_wears_59 : decode cX6_wears 59 = .ok (.imul, 1) := by decide +kernel
theorem dX6_wears_60 : decode cX6_wears 60 = .ok (.aload_n 0, 1) := by decide +kernel
theorem dX6_wears_61 : decode cX6_wears 61 = .ok (.getfield 16, 3) := by decide +kernel
theorem dX6_wears_64 : decode cX6_wears 64 = .ok (.iload_n 1, 1) := by decide +kernel
theorem dX6_wears_65 : decode cX6_wears 65 = .ok (.iaload, 1) := by decide +kernel
theorem dX6_wears_66 : decode cX6_wears 66 = .ok (.iadd, 1) := by decide +kernel
theorem dX6_wears_67 : decode cX6_wears 67 = .ok (.bipush 99, 2) := by decide +kernel
theorem dX6_wears_69 : decode cX6_wears 69 = .ok (.invokestatic 243, 3) := by decide +kernel
theorem dX6_wears_72 : decode cX6_wears 72 = .ok (.ireturn, 1) := by decide +kernel
theorem dX6_wears_73 : decode cX6_wears 73 = .ok (.aload_n 0, 1) := by decide +kernel
theorem dX6_wears_74 : decode cX6_wears 74 = .ok (.getfield 108, 3) := by decide +kernel
theorem dX6_wears_77 : decode cX6_wears 77 = .ok (.iconst 2, 1) := by decide +kernel
theorem dX6_wears_78 : decode cX6_wears 78 = .ok (.irem, 1) := by decide +kernel
theorem dX6_wears_79 : decode cX6_wears 79 = .ok (.ifCond .ne 9, 3) := by decide +kernel
theorem dX6_wears_82 : decode cX6_wears 82 = .ok (.iload_n 2, 1) := by decide +kernel
theorem dX6_wears_83 : decode cX6_wears 83 = .ok (.iconst 2, 1) := by decide +kernel
theorem dX6_wears_84 : decode cX6_wears 84 = .ok (.idiv, 1) := by decide +kernel
theorem dX6_wears_85 : decode cX6_wears 85 = .ok (.goto 4, 3) := by decide +kernel
theorem dX6_wears_88 : decode cX6_wears 88 = .ok (.iload_n 2, 1) := by decide +kernel
theorem dX6_wears_89 : decode cX6_wears 89 = .ok (.ireturn, 1) := by decide +kernel
theorem dX6_wears_90 : decode cX6_wears 90 = .ok (.bipush 9, 2) := by decide +kernel
theorem dX6_wears_92 : decode cX6_wears 92 = .ok (.ireturn, 1) := by decide +kernel
theorem dX6_wears_93 : decode cX6_wears 93 = .ok (.iload_n 2, 1) := by decide +kernel
theorem dX6_wears_94 : decode cX6_wears 94 = .ok (.ireturn, 1) := by decide +kernel
theorem dX6_stands_0 : decode cX6_stands 0 = .ok (.aload_n 0, 1) := by decide +kernel
theorem dX6_stands_1 : decode cX6_stands 1 = .ok (.iconst 2, 1) := by decide +kernel
theorem dX6_stands_2 : decode cX6_stands 2 = .ok (.iload_n 1, 1) := by decide +kernel
theorem dX6_stands_3 : decode cX6_stands 3 = .ok (.iconst 0, 1) := by decide +kernel
theorem dX6_stands_4 : decode cX6_stands 4 = .ok (.invokevirtual 246, 3) := by decide +kernel
theorem dX6_stands_7 : decode cX6_stands 7 = .ok (.istore_n 2, 1) := by decide +kernel
theorem dX6_stands_8 : decode cX6_stands 8 = .ok (.aload_n 0, 1) := by decide +kernel
theorem dX6_stands_9 : decode cX6_stands 9 = .ok (.getfield 13, 3) := by decide +kernel
theorem dX6_stands_12 : decode cX6_stands 12 = .ok (.iload_n 1, 1) := by decide +kernel
theorem dX6_stands_13 : decode cX6_stands 13 = .ok (.iaload, 1) := by decide +kernel
theorem dX6_stands_14 : decode cX6_stands 14 = .ok (.tableswitch 74 2 5 #[30, 44, 48, 64], 30) := by decide +kernel
theorem dX6_stands_44 : decode cX6_stands 44 = .ok (.iload_n 2, 1) := by decide +kernel
theorem dX6_stands_45 : decode cX6_stands 45 = .ok (.aload_n 0, 1) := by decide +kernel
theorem dX6_stands_46 : decode cX6_stands 46 = .ok (.iload_n 1, 1) := by decide +kernel
theorem dX6_stands_47 : decode cX6_stands 47 = .ok (.invokevirtual 230, 3) := by decide +kernel
theorem dX6_stands_50 : decode cX6_stands 50 = .ok (.iadd, 1) := by decide +kernel
theorem dX6_stands_51 : decode cX6_stands 51 = .ok (.sipush 999, 3) := by decide +kernel
theorem dX6_stands_54 : decode cX6_stands 54 = .ok (.invokestatic 243, 3) := by decide +kernel
theorem dX6_stands_57 : decode cX6_stands 57 = .ok (.ireturn, 1) := by decide +kernel
theorem dX6_stands_58 : decode cX6_stands 58 = .ok (.iload_n 2, 1) := by decide +kernel
theorem dX6_stands_59 : decode cX6_stands 59 = .ok (.iconst 2, 1) := by decide +kernel
theorem dX6_stands_60 : decode cX6_stands 60 = .ok (.idiv, 1) := by decide +kernel
theorem dX6_stands_61 : decode cX6_stands 61 = .ok (.ireturn, 1) := by decide +kernel
theorem dX6_stands_62 : decode cX6_stands 62 = .ok (.iconst 2, 1) := by decide +kernel
theorem dX6_stands_63 : decode cX6_stands 63 = .ok (.iload_n 2, 1) := by decide +kernel
theorem dX6_stands_64 : decode cX6_stands 64 = .ok (.aload_n 0, 1) := by decide +kernel
theorem dX6_stands_65 : decode cX6_stands 65 = .ok (.iload_n 1, 1) := by decide +kernel
theorem dX6_stands_66 : decode cX6_stands 66 = .ok (.invokevirtual 230, 3) := by decide +kernel
theorem dX6_stands_69 : decode cX6_stands 69 = .ok (.iadd, 1) := by decide +kernel
theorem dX6_stands_70 : decode cX6_stands 70 = .ok (.imul, 1) := by decide +kernel
theorem dX6_stands_71 : decode cX6_stands 71 = .ok (.sipush 999, 3) := by decide +kernel
theorem dX6_stands_74 : decode cX6_stands 74 = .ok (.invokestatic 243, 3) := by decide +kernel
theorem dX6_stands_77 : decode cX6_stands 77 = .ok (.ireturn, 1) := by decide +kernel
theorem dX6_stands_78 : decode cX6_stands 78 = .ok (.bipush 10, 2) := by decide +kernel
theorem dX6_stands_80 : decode cX6_stands 80 = .ok (.aload_n 0, 1) := by decide +kernel
theorem dX6_stands_81 : decode cX6_stands 81 = .ok (.getfield 16, 3) := by decide +kernel
theorem dX6_stands_84 : decode cX6_stands 84 = .ok (.iload_n 1, 1) := by decide +kernel
theorem dX6_stands_85 : decode cX6_stands 85 = .ok (.iaload, 1) := by decide +kernel
theorem dX6_stands_86 : decode cX6_stands 86 = .ok (.iadd, 1) := by decide +kernel
theorem dX6_stands_87 : decode cX6_stands 87 = .ok (.ireturn, 1) := by decide +kernel
theorem dX6_stands_88 : decode cX6_stands 88 = .ok (.iload_n 2, 1) := by decide +kernel
theorem dX6_stands_89 : decode cX6_stands 89 = .ok (.ireturn, 1) := by decide +kernel
theorem dX6_pullsAt_0 : decode cX6_pullsAt 0 = .ok (.iload_n 2, 1) := by decide +kernel
theorem dX6_pullsAt_1 : decode cX6_pullsAt 1 = .ok (.invokestatic 101, 3) := by decide +kernel
theorem dX6_pullsAt_4 : decode cX6_pullsAt 4 = .ok (.ifCond .ne 4, 3) := by decide +kernel
theorem dX6_pullsAt_7 : decode cX6_pullsAt 7 = .ok (.return_, 1) := by decide +kernel
theorem dX6_pullsAt_8 : decode cX6_pullsAt 8 = .ok (.aload_n 0, 1) := by decide +kernel
theorem dX6_pullsAt_9 : decode cX6_pullsAt 9 = .ok (.getfield 53, 3) := by decide +kernel
theorem dX6_pullsAt_12 : decode cX6_pullsAt 12 = .ok (.iload_n 2, 1) := by decide +kernel
theorem dX6_pullsAt_13 : decode cX6_pullsAt 13 = .ok (.iconst 1, 1) := by decide +kernel
theorem dX6_pullsAt_14 : decode cX6_pullsAt 14 = .ok (.bastore, 1) := by decide +kernel
theorem dX6_pullsAt_15 : decode cX6_pullsAt 15 = .ok (.aload_n 0, 1) := by decide +kernel
theorem dX6_pullsAt_16 : decode cX6_pullsAt 16 = .ok (.getfield 56, 3) := by decide +kernel
theorem dX6_pullsAt_19 : decode cX6_pullsAt 19 = .ok (.iload_n 2, 1) := by decide +kernel
theorem dX6_pullsAt_20 : decode cX6_pullsAt 20 = .ok (.dup2, 1) := by decide +kernel
theorem dX6_pullsAt_21 : decode cX6_pullsAt 21 = .ok (.iaload, 1) := by decide +kernel
theorem dX6_pullsAt_22 : decode cX6_pullsAt 22 = .ok (.aload_n 0, 1) := by decide +kernel
theorem dX6_pullsAt_23 : decode cX6_pullsAt 23 = .ok (.iload_n 1, 1) := by decide +kernel
theorem dX6_pullsAt_24 : decode cX6_pullsAt 24 = .ok (.iload_n 2, 1) := by decide +kernel
theorem dX6_pullsAt_25 : decode cX6_pullsAt 25 = .ok (.invokevirtual 249, 3) := by decide +kernel
theorem dX6_pullsAt_28 : decode cX6_pullsAt 28 = .ok (.iadd, 1) := by decide +kernel
theorem dX6_pullsAt_29 : decode cX6_pullsAt 29 = .ok (.iastore, 1) := by decide +kernel
theorem dX6_pullsAt_30 : decode cX6_pullsAt 30 = .ok (.return_, 1) := by decide +kernel
theorem dX6_looks_0 : decode cX6_looks 0 = .ok (.iconst 0, 1) := by decide +kernel
theorem dX6_looks_1 : decode cX6_looks 1 = .ok (.istore_n 1, 1) := by decide +kernel
theorem dX6_looks_2 : decode cX6_looks 2 = .ok (.iload_n 1, 1) := by decide +kernel
theorem dX6_looks_3 : decode cX6_looks 3 = .ok (.bipush 16, 2) := by decide +kernel
theorem dX6_looks_5 : decode cX6_looks 5 = .ok (.if_icmp .ge 30, 3) := by decide +kernel
theorem dX6_looks_8 : decode cX6_looks 8 = .ok (.aload_n 0, 1) := by decide +kernel
theorem dX6_looks_9 : decode cX6_looks 9 = .ok (.getfield 50, 3) := by decide +kernel
theorem dX6_looks_12 : decode cX6_looks 12 = .ok (.iload_n 1, 1) := by decide +kernel
theorem dX6_looks_13 : decode cX6_looks 13 = .ok (.iconst 0, 1) := by decide +kernel
theorem dX6_looks_14 : decode cX6_looks 14 = .ok (.bastore, 1) := by decide +kernel
theorem dX6_looks_15 : decode cX6_looks 15 = .ok (.aload_n 0, 1) := by decide +kernel
theorem dX6_looks_16 : decode cX6_looks 16 = .ok (.getfield 53, 3) := by decide +kernel
theorem dX6_looks_19 : decode cX6_looks 19 = .ok (.iload_n 1, 1) := by decide +kernel
theorem dX6_looks_20 : decode cX6_looks 20 = .ok (.iconst 0, 1) := by decide +kernel
theorem dX6_looks_21 : decode cX6_looks 21 = .ok (.bastore, 1) := by decide +kernel
theorem dX6_looks_22 : decode cX6_looks 22 = .ok (.aload_n 0, 1) := by decide +kernel
theorem dX6_looks_23 : decode cX6_looks 23 = .ok (.getfield 56, 3) := by decide +kernel
theorem dX6_looks_26 : decode cX6_looks 26 = .ok (.iload_n 1, 1) := by decide +kernel
theorem dX6_looks_27 : decode cX6_looks 27 = .ok (.iconst 0, 1) := by decide +kernel
theorem dX6_looks_28 : decode cX6_looks 28 = .ok (.iastore, 1) := by decide +kernel
theorem dX6_looks_29 : decode cX6_looks 29 = .ok (.iinc 1 1, 3) := by decide +kernel
theorem dX6_looks_32 : decode cX6_looks 32 = .ok (.goto (-30), 3) := by decide +kernel
theorem dX6_looks_35 : decode cX6_looks 35 = .ok (.iconst 0, 1) := by decide +kernel
theorem dX6_looks_36 : decode cX6_looks 36 = .ok (.istore_n 1, 1) := by decide +kernel
theorem dX6_looks_37 : decode cX6_looks 37 = .ok (.iload_n 1, 1) := by decide +kernel
theorem dX6_looks_38 : decode cX6_looks 38 = .ok (.aload_n 0, 1) := by decide +kernel
theorem dX6_looks_39 : decode cX6_looks 39 = .ok (.getfield 94, 3) := by decide +kernel
theorem dX6_looks_42 : decode cX6_looks 42 = .ok (.if_icmp .ge 48, 3) := by decide +kernel
theorem dX6_looks_45 : decode cX6_looks 45 = .ok (.aload_n 0, 1) := by decide +kernel
theorem dX6_looks_46 : decode cX6_looks 46 = .ok (.getfield 19, 3) := by decide +kernel
theorem dX6_looks_49 : decode cX6_looks 49 = .ok (.iload_n 1, 1) := by decide +kernel
theorem dX6_looks_50 : decode cX6_looks 50 = .ok (.iaload, 1) := by decide +kernel
theorem dX6_looks_51 : decode cX6_looks 51 = .ok (.istore_n 2, 1) := by decide +kernel
theorem dX6_looks_52 : decode cX6_looks 52 = .ok (.iload_n 2, 1) := by decide +kernel
theorem dX6_looks_53 : decode cX6_looks 53 = .ok (.aload_n 0, 1) := by decide +kernel
theorem dX6_looks_54 : decode cX6_looks 54 = .ok (.getfield 22, 3) := by decide +kernel
theorem dX6_looks_57 : decode cX6_looks 57 = .ok (.iload_n 1, 1) := by decide +kernel
theorem dX6_looks_58 : decode cX6_looks 58 = .ok (.iaload, 1) := by decide +kernel
theorem dX6_looks_59 : decode cX6_looks 59 = .ok (.if_icmp .gt 25, 3) := by decide +kernel
theorem dX6_looks_62 : decode cX6_looks 62 = .ok (.aload_n 0, 1) := by decide +kernel
theorem dX6_looks_63 : decode cX6_looks 63 = .ok (.getfield 28, 3) := by decide +kernel
theorem dX6_looks_66 : decode cX6_looks 66 = .ok (.iload_n 1, 1) := by decide +kernel
theorem dX6_looks_67 : decode cX6_looks 67 = .ok (.baload, 1) := by decide +kernel
theorem dX6_looks_68 : decode cX6_looks 68 = .ok (.ifCond .ne 10, 3) := by decide +kernel
theorem dX6_looks_71 : decode cX6_looks 71 = .ok (.aload_n 0, 1) := by decide +kernel
theorem dX6_looks_72 : decode cX6_looks 72 = .ok (.getfield 50, 3) := by decide +kernel
theorem dX6_looks_75 : decode cX6_looks 75 = .ok (.iload_n 2, 1) := by decide +kernel
theorem dX6_looks_76 : decode cX6_looks 76 = .ok (.iconst 1, 1) := by decide +kernel
theorem dX6_looks_77 : decode cX6_looks 77 = .ok (.bastore, 1) := by decide +kernel
theorem dX6_looks_78 : decode cX6_looks 78 = .ok (.iinc 2 1, 3) := by decide +kernel
theorem dX6_looks_81 : decode cX6_looks 81 = .ok (.goto (-29), 3) := by decide +kernel
theorem dX6_looks_84 : decode cX6_looks 84 = .ok (.iinc 1 1, 3) := by decide +kernel
theorem dX6_looks_87 : decode cX6_looks 87 = .ok (.goto (-50), 3) := by decide +kernel
theorem dX6_looks_90 : decode cX6_looks 90 = .ok (.iconst 0, 1) := by decide +kernel
theorem dX6_looks_91 : decode cX6_looks 91 = .ok (.istore_n 1, 1) := by decide +kernel
theorem dX6_looks_92 : decode cX6_looks 92 = .ok (.iload_n 1, 1) := by decide +kernel
theorem dX6_looks_93 : decode cX6_looks 93 = .ok (.aload_n 0, 1) := by decide +kernel
theorem dX6_looks_94 : decode cX6_looks 94 = .ok (.getfield 94, 3) := by decide +kernel
theorem dX6_looks_97 : decode cX6_looks 97 = .ok (.if_icmp .ge 91, 3) := by decide +kernel
theorem dX6_looks_100 : decode cX6_looks 100 = .ok (.aload_n 0, 1) := by decide +kernel
theorem dX6_looks_101 : decode cX6_looks 101 = .ok (.getfield 28, 3) := by decide +kernel
theorem dX6_looks_104 : decode cX6_looks 104 = .ok (.iload_n 1, 1) := by decide +kernel
theorem dX6_looks_105 : decode cX6_looks 105 = .ok (.baload, 1) := by decide +kernel
theorem dX6_looks_106 : decode cX6_looks 106 = .ok (.ifCond .eq 6, 3) := by decide +kernel
theorem dX6_looks_109 : decode cX6_looks 109 = .ok (.goto 73, 3) := by decide +kernel
theorem dX6_looks_112 : decode cX6_looks 112 = .ok (.aload_n 0, 1) := by decide +kernel
theorem dX6_looks_113 : decode cX6_looks 113 = .ok (.getfield 19, 3) := by decide +kernel
theorem dX6_looks_116 : decode cX6_looks 116 = .ok (.iload_n 1, 1) := by decide +kernel
theorem dX6_looks_117 : decode cX6_looks 117 = .ok (.iaload, 1) := by decide +kernel
theorem dX6_looks_118 : decode cX6_looks 118 = .ok (.iconst 1, 1) := by decide +kernel
theorem dX6_looks_119 : decode cX6_looks 119 = .ok (.isub, 1) := by decide +kernel
theorem dX6_looks_120 : decode cX6_looks 120 = .ok (.istore_n 2, 1) := by decide +kernel
theorem dX6_looks_121 : decode cX6_looks 121 = .ok (.iload_n 2, 1) := by decide +kernel
theorem dX6_looks_122 : decode cX6_looks 122 = .ok (.ifCond .lt 18, 3) := by decide +kernel
theorem dX6_looks_125 : decode cX6_looks 125 = .ok (.aload_n 0, 1) := by decide +kernel
theorem dX6_looks_126 : decode cX6_looks 126 = .ok (.getfield 50, 3) := by decide +kernel
theorem dX6_looks_129 : decode cX6_looks 129 = .ok (.iload_n 2, 1) := by decide +kernel
theorem dX6_looks_130 : decode cX6_looks 130 = .ok (.baload, 1) := by decide +kernel
theorem dX6_looks_131 : decode cX6_looks 131 = .ok (.ifCond .eq 9, 3) := by decide +kernel
theorem dX6_looks_134 : decode cX6_looks 134 = .ok (.iinc 2 (-1), 3) := by decide +kernel
theorem dX6_looks_137 : decode cX6_looks 137 = .ok (.goto (-16), 3) := by decide +kernel
theorem dX6_looks_140 : decode cX6_looks 140 = .ok (.aload_n 0, 1) := by decide +kernel
theorem dX6_looks_141 : decode cX6_looks 141 = .ok (.iload_n 1, 1) := by decide +kernel
theorem dX6_looks_142 : decode cX6_looks 142 = .ok (.iload_n 2, 1) := by decide +kernel
theorem dX6_looks_143 : decode cX6_looks 143 = .ok (.invokevirtual 252, 3) := by decide +kernel
theorem dX6_looks_146 : decode cX6_looks 146 = .ok (.aload_n 0, 1) := by decide +kernel
theorem dX6_looks_147 : decode cX6_looks 147 = .ok (.getfield 22, 3) := by decide +kernel
theorem dX6_looks_150 : decode cX6_looks 150 = .ok (.iload_n 1, 1) := by decide +kernel
theorem dX6_looks_151 : decode cX6_looks 151 = .ok (.iaload, 1) := by decide +kernel
theorem dX6_looks_152 : decode cX6_looks 152 = .ok (.iconst 1, 1) := by decide +kernel
theorem dX6_looks_153 : decode cX6_looks 153 = .ok (.iadd, 1) := by decide +kernel
theorem dX6_looks_154 : decode cX6_looks 154 = .ok (.istore_n 2, 1) := by decide +kernel
theorem dX6_looks_155 : decode cX6_looks 155 = .ok (.iload_n 2, 1) := by decide +kernel
theorem dX6_looks_156 : decode cX6_looks 156 = .ok (.bipush 16, 2) := by decide +kernel
theorem dX6_looks_158 : decode cX6_looks 158 = .ok (.if_icmp .ge 18, 3) := by decide +kernel
theorem dX6_looks_161 : decode cX6_looks 161 = .ok (.aload_n 0, 1) := by decide +kernel
theorem dX6_looks_162 : decode cX6_looks 162 = .ok (.getfield 50, 3) := by decide +kernel
theorem dX6_looks_165 : decode cX6_looks 165 = .ok (.iload_n 2, 1) := by decide +kernel
theorem dX6_looks_166 : decode cX6_looks 166 = .ok (.baload, 1) := by decide +kernel
theorem dX6_looks_167 : decode cX6_looks 167 = .ok (.ifCond .eq 9, 3) := by decide +kernel
theorem dX6_looks_170 : decode cX6_looks 170 = .ok (.iinc 2 1, 3) := by decide +kernel
theorem dX6_looks_173 : decode cX6_looks 173 = .ok (.goto (-18), 3) := by decide +kernel
theorem dX6_looks_176 : decode cX6_looks 176 = .ok (.aload_n 0, 1) := by decide +kernel
theorem dX6_looks_177 : decode cX6_looks 177 = .ok (.iload_n 1, 1) := by decide +kernel
theorem dX6_looks_178 : decode cX6_looks 178 = .ok (.iload_n 2, 1) := by decide +kernel
theorem dX6_looks_179 : decode cX6_looks 179 = .ok (.invokevirtual 252, 3) := by decide +kernel
theorem dX6_looks_182 : decode cX6_looks 182 = .ok (.iinc 1 1, 3) := by decide +kernel
theorem dX6_looks_185 : decode cX6_looks 185 = .ok (.goto (-93), 3) := by decide +kernel
theorem dX6_looks_188 : decode cX6_looks 188 = .ok (.return_, 1) := by decide +kernel
theorem dX6_glad_0 : decode cX6_glad 0 = .ok (.aload_n 0, 1) := by decide +kernel
theorem dX6_glad_1 : decode cX6_glad 1 = .ok (.getfield 50, 3) := by decide +kernel
theorem dX6_glad_4 : decode cX6_glad 4 = .ok (.iload_n 1, 1) := by decide +kernel
theorem dX6_glad_5 : decode cX6_glad 5 = .ok (.baload, 1) := by decide +kernel
theorem dX6_glad_6 : decode cX6_glad 6 = .ok (.ifCond .eq 5, 3) := by decide +kernel
theorem dX6_glad_9 : decode cX6_glad 9 = .ok (.iconst 0, 1) := by decide +kernel
theorem dX6_glad_10 : decode cX6_glad 10 = .ok (.ireturn, 1) := by decide +kernel
theorem dX6_glad_11 : decode cX6_glad 11 = .ok (.aload_n 0, 1) := by decide +kernel
theorem dX6_glad_12 : decode cX6_glad 12 = .ok (.getfield 7, 3) := by decide +kernel
theorem dX6_glad_15 : decode cX6_glad 15 = .ok (.iload_n 1, 1) := by decide +kernel
theorem dX6_glad_16 : decode cX6_glad 16 = .ok (.iaload, 1) := by decide +kernel
theorem dX6_glad_17 : decode cX6_glad 17 = .ok (.aload_n 0, 1) := by decide +kernel
theorem dX6_glad_18 : decode cX6_glad 18 = .ok (.getfield 56, 3) := by decide +kernel
theorem dX6_glad_21 : decode cX6_glad 21 = .ok (.iload_n 1, 1) := by decide +kernel
theorem dX6_glad_22 : decode cX6_glad 22 = .ok (.iaload, 1) := by decide +kernel
theorem dX6_glad_23 : decode cX6_glad 23 = .ok (.isub, 1) := by decide +kernel
theorem dX6_glad_24 : decode cX6_glad 24 = .ok (.istore_n 2, 1) := by decide +kernel
theorem dX6_glad_25 : decode cX6_glad 25 = .ok (.iload_n 2, 1) := by decide +kernel
theorem dX6_glad_26 : decode cX6_glad 26 = .ok (.sipush (-999), 3) := by decide +kernel
theorem dX6_glad_29 : decode cX6_glad 29 = .ok (.if_icmp .ge 9, 3) := by decide +kernel
theorem dX6_glad_32 : decode cX6_glad 32 = .ok (.sipush (-999), 3) := by decide +kernel
theorem dX6_glad_35 : decode cX6_glad 35 = .ok (.goto 4, 3) := by decide +kernel
theorem dX6_glad_38 : decode cX6_glad 38 = .ok (.iload_n 2, 1) := by decide +kernel
theorem dX6_glad_39 : decode cX6_glad 39 = .ok (.ireturn, 1) := by decide +kernel
theorem dX6_worth_0 : decode cX6_worth 0 = .ok (.aload_n 0, 1) := by decide +kernel
theorem dX6_worth_1 : decode cX6_worth 1 = .ok (.invokevirtual 126, 3) := by decide +kernel
theorem dX6_worth_4 : decode cX6_worth 4 = .ok (.iconst 0, 1) := by decide +kernel
theorem dX6_worth_5 : decode cX6_worth 5 = .ok (.istore_n 1, 1) := by decide +kernel
theorem dX6_worth_6 : decode cX6_worth 6 = .ok (.iconst 0, 1) := by decide +kernel
theorem dX6_worth_7 : decode cX6_worth 7 = .ok (.istore_n 2, 1) := by decide +kernel
theorem dX6_worth_8 : decode cX6_worth 8 = .ok (.iload_n 2, 1) := by decide +kernel
theorem dX6_worth_9 : decode cX6_worth 9 = .ok (.bipush 16, 2) := by decide +kernel
theorem dX6_worth_11 : decode cX6_worth 11 = .ok (.if_icmp .ge 17, 3) := by decide +kernel
theorem dX6_worth_14 : decode cX6_worth 14 = .ok (.iload_n 1, 1) := by decide +kernel
theorem dX6_worth_15 : decode cX6_worth 15 = .ok (.aload_n 0, 1) := by decide +kernel
theorem dX6_worth_16 : decode cX6_worth 16 = .ok (.iload_n 2, 1) := by decide +kernel
theorem dX6_worth_17 : decode cX6_worth 17 = .ok (.invokevirtual 129, 3) := by decide +kernel
theorem dX6_worth_20 : decode cX6_worth 20 = .ok (.iadd, 1) := by decide +kernel
theorem dX6_worth_21 : decode cX6_worth 21 = .ok (.istore_n 1, 1) := by decide +kernel
theorem dX6_worth_22 : decode cX6_worth 22 = .ok (.iinc 2 1, 3) := by decide +kernel
theorem dX6_worth_25 : decode cX6_worth 25 = .ok (.goto (-17), 3) := by decide +kernel
theorem dX6_worth_28 : decode cX6_worth 28 = .ok (.iload_n 1, 1) := by decide +kernel
theorem dX6_worth_29 : decode cX6_worth 29 = .ok (.ireturn, 1) := by decide +kernel
theorem dX6_stretch_0 : decode cX6_stretch 0 = .ok (.iconst 0, 1) := by decide +kernel
theorem dX6_stretch_1 : decode cX6_stretch 1 = .ok (.istore_n 1, 1) := by decide +kernel
theorem dX6_stretch_2 : decode cX6_stretch 2 = .ok (.iconst 0, 1) := by decide +kernel
theorem dX6_stretch_3 : decode cX6_stretch 3 = .ok (.istore_n 2, 1) := by decide +kernel
theorem dX6_stretch_4 : decode cX6_stretch 4 = .ok (.iconst 0, 1) := by decide +kernel
theorem dX6_stretch_5 : decode cX6_stretch 5 = .ok (.istore_n 3, 1) := by decide +kernel
theorem dX6_stretch_6 : decode cX6_stretch 6 = .ok (.iload_n 3, 1) := by decide +kernel
theorem dX6_stretch_7 : decode cX6_stretch 7 = .ok (.bipush 16, 2) := by decide +kernel
theorem dX6_stretch_9 : decode cX6_stretch 9 = .ok (.if_icmp .ge 33, 3) := by decide +kernel
theorem dX6_stretch_12 : decode cX6_stretch 12 = .ok (.aload_n 0, 1) := by decide +kernel
theorem dX6_stretch_13 : decode cX6_stretch 13 = .ok (.getfield 50, 3) := by decide +kernel
theorem dX6_stretch_16 : decode cX6_stretch 16 = .ok (.iload_n 3, 1) := by decide +kernel
theorem dX6_stretch_17 : decode cX6_stretch 17 = .ok (.baload, 1) := by decide +kernel
theorem dX6_stretch_18 : decode cX6_stretch 18 = .ok (.ifCond .eq 7, 3) := by decide +kernel
theorem dX6_stretch_21 : decode cX6_stretch 21 = .ok (.iconst 0, 1) := by decide +kernel
theorem dX6_stretch_22 : decode cX6_stretch 22 = .ok (.goto 6, 3) := by decide +kernel
theorem dX6_stretch_25 : decode cX6_stretch 25 = .ok (.iload_n 2, 1) := by decide +kernel
theorem dX6_stretch_26 : decode cX6_stretch 26 = .ok (.iconst 1, 1) := by decide +kernel
theorem dX6_stretch_27 : decode cX6_stretch 27 = .ok (.iadd, 1) := by decide +kernel
theorem dX6_stretch_28 : decode cX6_stretch 28 = .ok (.istore_n 2, 1) := by decide +kernel
theorem dX6_stretch_29 : decode cX6_stretch 29 = .ok (.iload_n 2, 1) := by decide +kernel
theorem dX6_stretch_30 : decode cX6_stretch 30 = .ok (.iload_n 1, 1) := by decide +kernel
theorem dX6_stretch_31 : decode cX6_stretch 31 = .ok (.if_icmp .le 5, 3) := by decide +kernel
theorem dX6_stretch_34 : decode cX6_stretch 34 = .ok (.iload_n 2, 1) := by decide +kernel
theorem dX6_stretch_35 : decode cX6_stretch 35 = .ok (.istore_n 1, 1) := by decide +kernel
theorem dX6_stretch_36 : decode cX6_stretch 36 = .ok (.iinc 3 1, 3) := by decide +kernel
theorem dX6_stretch_39 : decode cX6_stretch 39 = .ok (.goto (-33), 3) := by decide +kernel
theorem dX6_stretch_42 : decode cX6_stretch 42 = .ok (.iload_n 1, 1) := by decide +kernel
theorem dX6_stretch_43 : decode cX6_stretch 43 = .ok (.ireturn, 1) := by decide +kernel
theorem dX6_tightest_0 : decode cX6_tightest 0 = .ok (.iconst (-1), 1) := by decide +kernel
theorem dX6_tightest_1 : decode cX6_tightest 1 = .ok (.istore_n 1, 1) := by decide +kernel
theorem dX6_tightest_2 : decode cX6_tightest 2 = .ok (.iconst 0, 1) := by decide +kernel
theorem dX6_tightest_3 : decode cX6_tightest 3 = .ok (.istore_n 2, 1) := by decide +kernel
theorem dX6_tightest_4 : decode cX6_tightest 4 = .ok (.iload_n 2, 1) := by decide +kernel
theorem dX6_tightest_5 : decode cX6_tightest 5 = .ok (.bipush 16, 2) := by decide +kernel
theorem dX6_tightest_7 : decode cX6_tightest 7 = .ok (.if_icmp .ge 40, 3) := by decide +kernel
theorem dX6_tightest_10 : decode cX6_tightest 10 = .ok (.aload_n 0, 1) := by decide +kernel
theorem dX6_tightest_11 : decode cX6_tightest 11 = .ok (.getfield 53, 3) := by decide +kernel
theorem dX6_tightest_14 : decode cX6_tightest 14 = .ok (.iload_n 2, 1) := by decide +kernel
theorem dX6_tightest_15 : decode cX6_tightest 15 = .ok (.baload, 1) := by decide +kernel
theorem dX6_tightest_16 : decode cX6_tightest 16 = .ok (.ifCond .eq 25, 3) := by decide +kernel
theorem dX6_tightest_19 : decode cX6_tightest 19 = .ok (.iload_n 1, 1) := by decide +kernel
theorem dX6_tightest_20 : decode cX6_tightest 20 = .ok (.iconst (-1), 1) := by decide +kernel
theorem dX6_tightest_21 : decode cX6_tightest 21 = .ok (.if_icmp .eq 18, 3) := by decide +kernel
theorem dX6_tightest_24 : decode cX6_tightest 24 = .ok (.aload_n 0, 1) := by decide +kernel
theorem dX6_tightest_25 : decode cX6_tightest 25 = .ok (.getfield 56, 3) := by decide +kernel
theorem dX6_tightest_28 : decode cX6_tightest 28 = .ok (.iload_n 2, 1) := by decide +kernel
theorem dX6_tightest_29 : decode cX6_tightest 29 = .ok (.iaload, 1) := by decide +kernel
theorem dX6_tightest_30 : decode cX6_tightest 30 = .ok (.aload_n 0, 1) := by decide +kernel
theorem dX6_tightest_31 : decode cX6_tightest 31 = .ok (.getfield 56, 3) := by decide +kernel
theorem dX6_tightest_34 : decode cX6_tightest 34 = .ok (.iload_n 1, 1) := by decide +kernel
theorem dX6_tightest_35 : decode cX6_tightest 35 = .ok (.iaload, 1) := by decide +kernel
theorem dX6_tightest_36 : decode cX6_tightest 36 = .ok (.if_icmp .le 5, 3) := by decide +kernel
theorem dX6_tightest_39 : decode cX6_tightest 39 = .ok (.iload_n 2, 1) := by decide +kernel
theorem dX6_tightest_40 : decode cX6_tightest 40 = .ok (.istore_n 1, 1) := by decide +kernel
theorem dX6_tightest_41 : decode cX6_tightest 41 = .ok (.iinc 2 1, 3) := by decide +kernel
theorem dX6_tightest_44 : decode cX6_tightest 44 = .ok (.goto (-40), 3) := by decide +kernel
theorem dX6_tightest_47 : decode cX6_tightest 47 = .ok (.iload_n 1, 1) := by decide +kernel
theorem dX6_tightest_48 : decode cX6_tightest 48 = .ok (.ireturn, 1) := by decide +kernel
theorem dX6_hours_0 : decode cX6_hours 0 = .ok (.aload_n 0, 1) := by decide +kernel
theorem dX6_hours_1 : decode cX6_hours 1 = .ok (.invokevirtual 256, 3) := by decide +kernel
theorem dX6_hours_4 : decode cX6_hours 4 = .ok (.istore_n 2, 1) := by decide +kernel
theorem dX6_hours_5 : decode cX6_hours 5 = .ok (.iconst 0, 1) := by decide +kernel
theorem dX6_hours_6 : decode cX6_hours 6 = .ok (.istore_n 3, 1) := by decide +kernel
theorem dX6_hours_7 : decode cX6_hours 7 = .ok (.iconst 0, 1) := by decide +kernel
theorem dX6_hours_8 : decode cX6_hours 8 = .ok (.istore 4, 2) := by decide +kernel
theorem dX6_hours_10 : decode cX6_hours 10 = .ok (.iload 4, 2) := by decide +kernel
theorem dX6_hours_12 : decode cX6_hours 12 = .ok (.bipush 16, 2) := by decide +kernel
theorem dX6_hours_14 : decode cX6_hours 14 = .ok (.if_icmp .ge 44, 3) := by decide +kernel
theorem dX6_hours_17 : decode cX6_hours 17 = .ok (.iload_n 1, 1) := by decide +kernel
theorem dX6_hours_18 : decode cX6_hours 18 = .ok (.iconst 1, 1) := by decide +kernel
theorem dX6_hours_19 : decode cX6_hours 19 = .ok (.if_icmp .ne 16, 3) := by decide +kernel
theorem dX6_hours_22 : decode cX6_hours 22 = .ok (.aload_n 0, 1) := by decide +kernel
theorem dX6_hours_23 : decode cX6_hours 23 = .ok (.getfield 50, 3) := by decide +kernel
theorem dX6_hours_26 : decode cX6_hours 26 = .ok (.iload 4, 2) := by decide +kernel
theorem dX6_hours_28 : decode cX6_hours 28 = .ok (.baload, 1) := by decide +kernel
theorem dX6_hours_29 : decode cX6_hours 29 = .ok (.ifCond .eq 23, 3) := by decide +kernel
theorem dX6_hours_32 : decode cX6_hours 32 = .ok (.goto 13, 3) := by decide +kernel
theorem dX6_hours_35 : decode cX6_hours 35 = .ok (.aload_n 0, 1) := by decide +kernel
theorem dX6_hours_36 : decode cX6_hours 36 = .ok (.getfield 53, 3) := by decide +kernel
theorem dX6_hours_39 : decode cX6_hours 39 = .ok (.iload 4, 2) := by decide +kernel
theorem dX6_hours_41 : decode cX6_hours 41 = .ok (.baload, 1) := by decide +kernel
theorem dX6_hours_42 : decode cX6_hours 42 = .ok (.ifCond .eq 10, 3) := by decide +kernel
theorem dX6_hours_45 : decode cX6_hours 45 = .ok (.iload_n 3, 1) := by decide +kernel
theorem dX6_hours_46 : decode cX6_hours 46 = .ok (.iconst 1, 1) := by decide +kernel
theorem dX6_hours_47 : decode cX6_hours 47 = .ok (.iload 4, 2) := by decide +kernel
theorem dX6_hours_49 : decode cX6_hours 49 = .ok (.ishl, 1) := by decide +kernel
theorem dX6_hours_50 : decode cX6_hours 50 = .ok (.ior, 1) := by decide +kernel
theorem dX6_hours_51 : decode cX6_hours 51 = .ok (.istore_n 3, 1) := by decide +kernel
theorem dX6_hours_52 : decode cX6_hours 52 = .ok (.iinc 4 1, 3) := by decide +kernel
theorem dX6_hours_55 : decode cX6_hours 55 = .ok (.goto (-45), 3) := by decide +kernel
theorem dX6_hours_58 : decode cX6_hours 58 = .ok (.iload_n 1, 1) := by decide +kernel
theorem dX6_hours_59 : decode cX6_hours 59 = .ok (.tableswitch 47 0 4 #[33, 35, 35, 37, 42], 33) := by decide +kernel
theorem dX6_hours_92 : decode cX6_hours 92 = .ok (.iload_n 2, 1) := by decide +kernel
theorem dX6_hours_93 : decode cX6_hours 93 = .ok (.ireturn, 1) := by decide +kernel
theorem dX6_hours_94 : decode cX6_hours 94 = .ok (.iload_n 3, 1) := by decide +kernel
theorem dX6_hours_95 : decode cX6_hours 95 = .ok (.ireturn, 1) := by decide +kernel
theorem dX6_hours_96 : decode cX6_hours 96 = .ok (.aload_n 0, 1) := by decide +kernel
theorem dX6_hours_97 : decode cX6_hours 97 = .ok (.invokevirtual 259, 3) := by decide +kernel
theorem dX6_hours_100 : decode cX6_hours 100 = .ok (.ireturn, 1) := by decide +kernel
theorem dX6_hours_101 : decode cX6_hours 101 = .ok (.aload_n 0, 1) := by decide +kernel
theorem dX6_hours_102 : decode cX6_hours 102 = .ok (.invokevirtual 262, 3) := by decide +kernel
theorem dX6_hours_105 : decode cX6_hours 105 = .ok (.ireturn, 1) := by decide +kernel
theorem dX6_hours_106 : decode cX6_hours 106 = .ok (.ldc_w 265, 3) := by decide +kernel
theorem dX6_hours_109 : decode cX6_hours 109 = .ok (.ireturn, 1) := by decide +kernel
theorem dX6_passes_0 : decode cX6_passes 0 = .ok (.iconst 0, 1) := by decide +kernel
theorem dX6_passes_1 : decode cX6_passes 1 = .ok (.istore_n 1, 1) := by decide +kernel
theorem dX6_passes_2 : decode cX6_passes 2 = .ok (.iload_n 1, 1) := by decide +kernel
theorem dX6_passes_3 : decode cX6_passes 3 = .ok (.aload_n 0, 1) := by decide +kernel
theorem dX6_passes_4 : decode cX6_passes 4 = .ok (.getfield 94, 3) := by decide +kernel
theorem dX6_passes_7 : decode cX6_passes 7 = .ok (.if_icmp .ge 42, 3) := by decide +kernel
theorem dX6_passes_10 : decode cX6_passes 10 = .ok (.aload_n 0, 1) := by decide +kernel
theorem dX6_passes_11 : decode cX6_passes 11 = .ok (.getfield 28, 3) := by decide +kernel
theorem dX6_passes_14 : decode cX6_passes 14 = .ok (.iload_n 1, 1) := by decide +kernel
theorem dX6_passes_15 : decode cX6_passes 15 = .ok (.baload, 1) := by decide +kernel
theorem dX6_passes_16 : decode cX6_passes 16 = .ok (.ifCond .ne 27, 3) := by decide +kernel
theorem dX6_passes_19 : decode cX6_passes 19 = .ok (.aload_n 0, 1) := by decide +kernel
theorem dX6_passes_20 : decode cX6_passes 20 = .ok (.getfield 25, 3) := by decide +kernel
theorem dX6_passes_23 : decode cX6_passes 23 = .ok (.iload_n 1, 1) := by decide +kernel
theorem dX6_passes_24 : decode cX6_passes 24 = .ok (.aload_n 0, 1) := by decide +kernel
theorem dX6_passes_25 : decode cX6_passes 25 = .ok (.getfield 25, 3) := by decide +kernel
theorem dX6_passes_28 : decode cX6_passes 28 = .ok (.iload_n 1, 1) := by decide +kernel
theorem dX6_passes_29 : decode cX6_passes 29 = .ok (.iaload, 1) := by decide +kernel
theorem dX6_passes_30 : decode cX6_passes 30 = .ok (.aload_n 0, 1) := by decide +kernel
theorem dX6_passes_31 : decode cX6_passes 31 = .ok (.iload_n 1, 1) := by decide +kernel
theorem dX6_passes_32 : decode cX6_passes 32 = .ok (.invokevirtual 133, 3) := by decide +kernel
theorem dX6_passes_35 : decode cX6_passes 35 = .ok (.iadd, 1) := by decide +kernel
theorem dX6_passes_36 : decode cX6_passes 36 = .ok (.sipush 9999, 3) := by decide +kernel
theorem dX6_passes_39 : decode cX6_passes 39 = .ok (.invokestatic 243, 3) := by decide +kernel
theorem dX6_passes_42 : decode cX6_passes 42 = .ok (.iastore, 1) := by decide +kernel
theorem dX6_passes_43 : decode cX6_passes 43 = .ok (.iinc 1 1, 3) := by decide +kernel
theorem dX6_passes_46 : decode cX6_passes 46 = .ok (.goto (-44), 3) := by decide +kernel
theorem dX6_passes_49 : decode cX6_passes 49 = .ok (.iconst 0, 1) := by decide +kernel
theorem dX6_passes_50 : decode cX6_passes 50 = .ok (.istore_n 1, 1) := by decide +kernel
theorem dX6_passes_51 : decode cX6_passes 51 = .ok (.iconst 0, 1) := by decide +kernel
theorem dX6_passes_52 : decode cX6_passes 52 = .ok (.istore_n 2, 1) := by decide +kernel
theorem dX6_passes_53 : decode cX6_passes 53 = .ok (.iload_n 2, 1) := by decide +kernel
theorem dX6_passes_54 : decode cX6_passes 54 = .ok (.aload_n 0, 1) := by decide +kernel
theorem dX6_passes_55 : decode cX6_passes 55 = .ok (.getfield 94, 3) := by decide +kernel
theorem dX6_passes_58 : decode cX6_passes 58 = .ok (.if_icmp .ge 48, 3) := by decide +kernel
theorem dX6_passes_61 : decode cX6_passes 61 = .ok (.aload_n 0, 1) := by decide +kernel
theorem dX6_passes_62 : decode cX6_passes 62 = .ok (.getfield 28, 3) := by decide +kernel
theorem dX6_passes_65 : decode cX6_passes 65 = .ok (.iload_n 2, 1) := by decide +kernel
theorem dX6_passes_66 : decode cX6_passes 66 = .ok (.baload, 1) := by decide +kernel
theorem dX6_passes_67 : decode cX6_passes 67 = .ok (.ifCond .ne 33, 3) := by decide +kernel
theorem dX6_passes_70 : decode cX6_passes 70 = .ok (.aload_n 0, 1) := by decide +kernel
theorem dX6_passes_71 : decode cX6_passes 71 = .ok (.getfield 25, 3) := by decide +kernel
theorem dX6_passes_74 : decode cX6_passes 74 = .ok (.iload_n 2, 1) := by decide +kernel
theorem dX6_passes_75 : decode cX6_passes 75 = .ok (.iaload, 1) := by decide +kernel
theorem dX6_passes_76 : decode cX6_passes 76 = .ok (.aload_n 0, 1) := by decide +kernel
theorem dX6_passes_77 : decode cX6_passes 77 = .ok (.iload_n 2, 1) := by decide +kernel
theorem dX6_passes_78 : decode cX6_passes 78 = .ok (.invokevirtual 136, 3) := by decide +kernel
theorem dX6_passes_81 : decode cX6_passes 81 = .ok (.if_icmp .ge 6, 3) := by decide +kernel
theorem dX6_passes_84 : decode cX6_passes 84 = .ok (.goto 16, 3) := by decide +kernel
theorem dX6_passes_87 : decode cX6_passes 87 = .ok (.aload_n 0, 1) := by decide +kernel
theorem dX6_passes_88 : decode cX6_passes 88 = .ok (.getfield 28, 3) := by decide +kernel
theorem dX6_passes_91 : decode cX6_passes 91 = .ok (.iload_n 2, 1) := by decide +kernel
theorem dX6_passes_92 : decode cX6_passes 92 = .ok (.iconst 1, 1) := by decide +kernel
theorem dX6_passes_93 : decode cX6_passes 93 = .ok (.bastore, 1) := by decide +kernel
theorem dX6_passes_94 : decode cX6_passes 94 = .ok (.iload_n 1, 1) := by decide +kernel
theorem dX6_passes_95 : decode cX6_passes 95 = .ok (.iconst 1, 1) := by decide +kernel
theorem dX6_passes_96 : decode cX6_passes 96 = .ok (.iload_n 2, 1) := by decide +kernel
theorem dX6_passes_97 : decode cX6_passes 97 = .ok (.ishl, 1) := by decide +kernel
theorem dX6_passes_98 : decode cX6_passes 98 = .ok (.ior, 1) := by decide +kernel
theorem dX6_passes_99 : decode cX6_passes 99 = .ok (.istore_n 1, 1) := by decide +kernel
theorem dX6_passes_100 : decode cX6_passes 100 = .ok (.iinc 2 1, 3) := by decide +kernel
theorem dX6_passes_103 : decode cX6_passes 103 = .ok (.goto (-50), 3) := by decide +kernel
theorem dX6_passes_106 : decode cX6_passes 106 = .ok (.aload_n 0, 1) := by decide +kernel
theorem dX6_passes_107 : decode cX6_passes 107 = .ok (.dup, 1) := by decide +kernel
theorem dX6_passes_108 : decode cX6_passes 108 = .ok (.getfield 108, 3) := by decide +kernel
theorem dX6_passes_111 : decode cX6_passes 111 = .ok (.iconst 1, 1) := by decide +kernel
theorem dX6_passes_112 : decode cX6_passes 112 = .ok (.iadd, 1) := by decide +kernel
theorem dX6_passes_113 : decode cX6_passes 113 = .ok (.putfield 108, 3) := by decide +kernel
theorem dX6_passes_116 : decode cX6_passes 116 = .ok (.iload_n 1, 1) := by decide +kernel
theorem dX6_passes_117 : decode cX6_passes 117 = .ok (.ireturn, 1) := by decide +kernel
theorem dX6_pass_0 : decode cX6_pass 0 = .ok (.aload_n 0, 1) := by decide +kernel
theorem dX6_pass_1 : decode cX6_pass 1 = .ok (.getfield 108, 3) := by decide +kernel
theorem dX6_pass_4 : decode cX6_pass 4 = .ok (.sipush 999, 3) := by decide +kernel
theorem dX6_pass_7 : decode cX6_pass 7 = .ok (.if_icmp .ne 8, 3) := by decide +kernel
theorem dX6_pass_10 : decode cX6_pass 10 = .ok (.bipush (-3), 2) := by decide +kernel
theorem dX6_pass_12 : decode cX6_pass 12 = .ok (.goto 7, 3) := by decide +kernel
theorem dX6_pass_15 : decode cX6_pass 15 = .ok (.aload_n 0, 1) := by decide +kernel
theorem dX6_pass_16 : decode cX6_pass 16 = .ok (.invokevirtual 266, 3) := by decide +kernel
theorem dX6_pass_19 : decode cX6_pass 19 = .ok (.ireturn, 1) := by decide +kernel
theorem dX6_keeps_0 : decode cX6_keeps 0 = .ok (.aload_n 0, 1) := by decide +kernel
theorem dX6_keeps_1 : decode cX6_keeps 1 = .ok (.aload_n 0, 1) := by decide +kernel
theorem dX6_keeps_2 : decode cX6_keeps 2 = .ok (.getfield 108, 3) := by decide +kernel
theorem dX6_keeps_5 : decode cX6_keeps 5 = .ok (.putfield 269, 3) := by decide +kernel
theorem dX6_keeps_8 : decode cX6_keeps 8 = .ok (.iconst 0, 1) := by decide +kernel
theorem dX6_keeps_9 : decode cX6_keeps 9 = .ok (.istore_n 1, 1) := by decide +kernel
theorem dX6_keeps_10 : decode cX6_keeps 10 = .ok (.iload_n 1, 1) := by decide +kernel
theorem dX6_keeps_11 : decode cX6_keeps 11 = .ok (.bipush 7, 2) := by decide +kernel
theorem dX6_keeps_13 : decode cX6_keeps 13 = .ok (.if_icmp .ge 33, 3) := by decide +kernel
theorem dX6_keeps_16 : decode cX6_keeps 16 = .ok (.aload_n 0, 1) := by decide +kernel
theorem dX6_keeps_17 : decode cX6_keeps 17 = .ok (.getfield 59, 3) := by decide +kernel
theorem dX6_keeps_20 : decode cX6_keeps 20 = .ok (.iload_n 1, 1) := by decide +kernel
theorem dX6_keeps_21 : decode cX6_keeps 21 = .ok (.aload_n 0, 1) := by decide +kernel
theorem dX6_keeps_22 : decode cX6_keeps 22 = .ok (.getfield 25, 3) := by decide +kernel
theorem dX6_keeps_25 : decode cX6_keeps 25 = .ok (.iload_n 1, 1) := by decide +kernel
theorem dX6_keeps_26 : decode cX6_keeps 26 = .ok (.iaload, 1) := by decide +kernel
theorem dX6_keeps_27 : decode cX6_keeps 27 = .ok (.iastore, 1) := by decide +kernel
theorem dX6_keeps_28 : decode cX6_keeps 28 = .ok (.aload_n 0, 1) := by decide +kernel
theorem dX6_keeps_29 : decode cX6_keeps 29 = .ok (.getfield 62, 3) := by decide +kernel
theorem dX6_keeps_32 : decode cX6_keeps 32 = .ok (.iload_n 1, 1) := by decide +kernel
theorem dX6_keeps_33 : decode cX6_keeps 33 = .ok (.aload_n 0, 1) := by decide +kernel
theorem dX6_keeps_34 : decode cX6_keeps 34 = .ok (.getfield 28, 3) := by decide +kernel
theorem dX6_keeps_37 : decode cX6_keeps 37 = .ok (.iload_n 1, 1) := by decide +kernel
theorem dX6_keeps_38 : decode cX6_keeps 38 = .ok (.baload, 1) := by decide +kernel
theorem dX6_keeps_39 : decode cX6_keeps 39 = .ok (.bastore, 1) := by decide +kernel
theorem dX6_keeps_40 : decode cX6_keeps 40 = .ok (.iinc 1 1, 3) := by decide +kernel
theorem dX6_keeps_43 : decode cX6_keeps 43 = .ok (.goto (-33), 3) := by decide +kernel
theorem dX6_keeps_46 : decode cX6_keeps 46 = .ok (.return_, 1) := by decide +kernel
theorem dX6_again_0 : decode cX6_again 0 = .ok (.aload_n 0, 1) := by decide +kernel
theorem dX6_again_1 : decode cX6_again 1 = .ok (.aload_n 0, 1) := by decide +kernel
theorem dX6_again_2 : decode cX6_again 2 = .ok (.getfield 269, 3) := by decide +kernel
theorem dX6_again_5 : decode cX6_again 5 = .ok (.putfield 108, 3) := by decide +kernel
theorem dX6_again_8 : decode cX6_again 8 = .ok (.iconst 0, 1) := by decide +kernel
theorem dX6_again_9 : decode cX6_again 9 = .ok (.istore_n 1, 1) := by decide +kernel
theorem dX6_again_10 : decode cX6_again 10 = .ok (.iload_n 1, 1) := by decide +kernel
theorem dX6_again_11 : decode cX6_again 11 = .ok (.bipush 7, 2) := by decide +kernel
theorem dX6_again_13 : decode cX6_again 13 = .ok (.if_icmp .ge 33, 3) := by decide +kernel
theorem dX6_again_16 : decode cX6_again 16 = .ok (.aload_n 0, 1) := by decide +kernel
theorem dX6_again_17 : decode cX6_again 17 = .ok (.getfield 25, 3) := by decide +kernel
theorem dX6_again_20 : decode cX6_again 20 = .ok (.iload_n 1, 1) := by decide +kernel
theorem dX6_again_21 : decode cX6_again 21 = .ok (.aload_n 0, 1) := by decide +kernel
theorem dX6_again_22 : decode cX6_again 22 = .ok (.getfield 59, 3) := by decide +kernel
theorem dX6_again_25 : decode cX6_again 25 = .ok (.iload_n 1, 1) := by decide +kernel
theorem dX6_again_26 : decode cX6_again 26 = .ok (.iaload, 1) := by decide +kernel
theorem dX6_again_27 : decode cX6_again 27 = .ok (.iastore, 1) := by decide +kernel
theorem dX6_again_28 : decode cX6_again 28 = .ok (.aload_n 0, 1) := by decide +kernel
theorem dX6_again_29 : decode cX6_again 29 = .ok (.getfield 28, 3) := by decide +kernel
theorem dX6_again_32 : decode cX6_again 32 = .ok (.iload_n 1, 1) := by decide +kernel
theorem dX6_again_33 : decode cX6_again 33 = .ok (.aload_n 0, 1) := by decide +kernel
theorem dX6_again_34 : decode cX6_again 34 = .ok (.getfield 62, 3) := by decide +kernel
theorem dX6_again_37 : decode cX6_again 37 = .ok (.iload_n 1, 1) := by decide +kernel
theorem dX6_again_38 : decode cX6_again 38 = .ok (.baload, 1) := by decide +kernel
theorem dX6_again_39 : decode cX6_again 39 = .ok (.bastore, 1) := by decide +kernel
theorem dX6_again_40 : decode cX6_again 40 = .ok (.iinc 1 1, 3) := by decide +kernel
theorem dX6_again_43 : decode cX6_again 43 = .ok (.goto (-33), 3) := by decide +kernel
theorem dX6_again_46 : decode cX6_again 46 = .ok (.return_, 1) := by decide +kernel
theorem dX6_runs_0 : decode cX6_runs 0 = .ok (.aload_n 0, 1) := by decide +kernel
theorem dX6_runs_1 : decode cX6_runs 1 = .ok (.invokevirtual 272, 3) := by decide +kernel
theorem dX6_runs_4 : decode cX6_runs 4 = .ok (.aload_n 0, 1) := by decide +kernel
theorem dX6_runs_5 : decode cX6_runs 5 = .ok (.iconst 0, 1) := by decide +kernel
theorem dX6_runs_6 : decode cX6_runs 6 = .ok (.putfield 275, 3) := by decide +kernel
theorem dX6_runs_9 : decode cX6_runs 9 = .ok (.iconst 0, 1) := by decide +kernel
theorem dX6_runs_10 : decode cX6_runs 10 = .ok (.istore_n 2, 1) := by decide +kernel
theorem dX6_runs_11 : decode cX6_runs 11 = .ok (.iload_n 2, 1) := by decide +kernel
theorem dX6_runs_12 : decode cX6_runs 12 = .ok (.bipush 7, 2) := by decide +kernel
theorem dX6_runs_14 : decode cX6_runs 14 = .ok (.if_icmp .ge 16, 3) := by decide +kernel
theorem dX6_runs_17 : decode cX6_runs 17 = .ok (.aload_n 0, 1) := by decide +kernel
theorem dX6_runs_18 : decode cX6_runs 18 = .ok (.getfield 65, 3) := by decide +kernel
theorem dX6_runs_21 : decode cX6_runs 21 = .ok (.iload_n 2, 1) := by decide +kernel
theorem dX6_runs_22 : decode cX6_runs 22 = .ok (.iconst (-1), 1) := by decide +kernel
theorem dX6_runs_23 : decode cX6_runs 23 = .ok (.iastore, 1) := by decide +kernel
theorem dX6_runs_24 : decode cX6_runs 24 = .ok (.iinc 2 1, 3) := by decide +kernel
theorem dX6_runs_27 : decode cX6_runs 27 = .ok (.goto (-16), 3) := by decide +kernel
theorem dX6_runs_30 : decode cX6_runs 30 = .ok (.iconst 0, 1) := by decide +kernel
theorem dX6_runs_31 : decode cX6_runs 31 = .ok (.istore_n 2, 1) := by decide +kernel
theorem dX6_runs_32 : decode cX6_runs 32 = .ok (.iload_n 2, 1) := by decide +kernel
theorem dX6_runs_33 : decode cX6_runs 33 = .ok (.iload_n 1, 1) := by decide +kernel
theorem dX6_runs_34 : decode cX6_runs 34 = .ok (.if_icmp .ge 63, 3) := by decide +kernel
theorem dX6_runs_37 : decode cX6_runs 37 = .ok (.aload_n 0, 1) := by decide +kernel
theorem dX6_runs_38 : decode cX6_runs 38 = .ok (.invokevirtual 266, 3) := by decide +kernel
theorem dX6_runs_41 : decode cX6_runs 41 = .ok (.istore_n 3, 1) := by decide +kernel
theorem dX6_runs_42 : decode cX6_runs 42 = .ok (.iconst 0, 1) := by decide +kernel
theorem dX6_runs_43 : decode cX6_runs 43 = .ok (.istore 4, 2) := by decide +kernel
theorem dX6_runs_45 : decode cX6_runs 45 = .ok (.iload 4, 2) := by decide +kernel
theorem dX6_runs_47 : decode cX6_runs 47 = .ok (.aload_n 0, 1) := by decide +kernel
theorem dX6_runs_48 : decode cX6_runs 48 = .ok (.getfield 94, 3) := by decide +kernel
theorem dX6_runs_51 : decode cX6_runs 51 = .ok (.if_icmp .ge 27, 3) := by decide +kernel
theorem dX6_runs_54 : decode cX6_runs 54 = .ok (.iload_n 3, 1) := by decide +kernel
theorem dX6_runs_55 : decode cX6_runs 55 = .ok (.iload 4, 2) := by decide +kernel
theorem dX6_runs_57 : decode cX6_runs 57 = .ok (.ishr, 1) := by decide +kernel
theorem dX6_runs_58 : decode cX6_runs 58 = .ok (.iconst 1, 1) := by decide +kernel
theorem dX6_runs_59 : decode cX6_runs 59 = .ok (.iand, 1) := by decide +kernel
theorem dX6_runs_60 : decode cX6_runs 60 = .ok (.iconst 1, 1) := by decide +kernel
theorem dX6_runs_61 : decode cX6_runs 61 = .ok (.if_icmp .ne 11, 3) := by decide +kernel
theorem dX6_runs_64 : decode cX6_runs 64 = .ok (.aload_n 0, 1) := by decide +kernel
theorem dX6_runs_65 : decode cX6_runs 65 = .ok (.getfield 65, 3) := by decide +kernel
theorem dX6_runs_68 : decode cX6_runs 68 = .ok (.iload 4, 2) := by decide +kernel
theorem dX6_runs_70 : decode cX6_runs 70 = .ok (.iload_n 2, 1) := by decide +kernel
theorem dX6_runs_71 : decode cX6_runs 71 = .ok (.iastore, 1) := by decide +kernel
theorem dX6_runs_72 : decode cX6_runs 72 = .ok (.iinc 4 1, 3) := by decide +kernel
theorem dX6_runs_75 : decode cX6_runs 75 = .ok (.goto (-30), 3) := by decide +kernel
theorem dX6_runs_78 : decode cX6_runs 78 = .ok (.aload_n 0, 1) := by decide +kernel
theorem dX6_runs_79 : decode cX6_runs 79 = .ok (.dup, 1) := by decide +kernel
theorem dX6_runs_80 : decode cX6_runs 80 = .ok (.getfield 275, 3) := by decide +kernel
theorem dX6_runs_83 : decode cX6_runs 83 = .ok (.aload_n 0, 1) := by decide +kernel
theorem dX6_runs_84 : decode cX6_runs 84 = .ok (.invokevirtual 256, 3) := by decide +kernel
theorem dX6_runs_87 : decode cX6_runs 87 = .ok (.iadd, 1) := by decide +kernel
theorem dX6_runs_88 : decode cX6_runs 88 = .ok (.putfield 275, 3) := by decide +kernel
theorem dX6_runs_91 : decode cX6_runs 91 = .ok (.iinc 2 1, 3) := by decide +kernel
theorem dX6_runs_94 : decode cX6_runs 94 = .ok (.goto (-62), 3) := by decide +kernel
theorem dX6_runs_97 : decode cX6_runs 97 = .ok (.return_, 1) := by decide +kernel
theorem dX6_run_0 : decode cX6_run 0 = .ok (.iload_n 1, 1) := by decide +kernel
theorem dX6_run_1 : decode cX6_run 1 = .ok (.iconst 0, 1) := by decide +kernel
theorem dX6_run_2 : decode cX6_run 2 = .ok (.bipush 40, 2) := by decide +kernel
theorem dX6_run_4 : decode cX6_run 4 = .ok (.invokestatic 97, 3) := by decide +kernel
theorem dX6_run_7 : decode cX6_run 7 = .ok (.ifCond .eq 23, 3) := by decide +kernel
theorem dX6_run_10 : decode cX6_run 10 = .ok (.iload_n 2, 1) := by decide +kernel
theorem dX6_run_11 : decode cX6_run 11 = .ok (.iconst 0, 1) := by decide +kernel
theorem dX6_run_12 : decode cX6_run 12 = .ok (.iconst 2, 1) := by decide +kernel
theorem dX6_run_13 : decode cX6_run 13 = .ok (.invokestatic 97, 3) := by decide +kernel
theorem dX6_run_16 : decode cX6_run 16 = .ok (.ifCond .ne 18, 3) := by decide +kernel
theorem dX6_run_19 : decode cX6_run 19 = .ok (.aload_n 0, 1) := by decide +kernel
theorem dX6_run_20 : decode cX6_run 20 = .ok (.iload_n 2, 1) := by decide +kernel
theorem dX6_run_21 : decode cX6_run 21 = .ok (.bipush 10, 2) := by decide +kernel
theorem dX6_run_23 : decode cX6_run 23 = .ok (.isub, 1) := by decide +kernel
theorem dX6_run_24 : decode cX6_run 24 = .ok (.invokevirtual 105, 3) := by decide +kernel
theorem dX6_run_27 : decode cX6_run 27 = .ok (.ifCond .ne 7, 3) := by decide +kernel
theorem dX6_run_30 : decode cX6_run 30 = .ok (.ldc_w 278, 3) := by decide +kernel
theorem dX6_run_33 : decode cX6_run 33 = .ok (.ireturn, 1) := by decide +kernel
theorem dX6_run_34 : decode cX6_run 34 = .ok (.aload_n 0, 1) := by decide +kernel
theorem dX6_run_35 : decode cX6_run 35 = .ok (.iload_n 1, 1) := by decide +kernel
theorem dX6_run_36 : decode cX6_run 36 = .ok (.invokevirtual 279, 3) := by decide +kernel
theorem dX6_run_39 : decode cX6_run 39 = .ok (.iload_n 2, 1) := by decide +kernel
theorem dX6_run_40 : decode cX6_run 40 = .ok (.ifCond .ne 10, 3) := by decide +kernel
theorem dX6_run_43 : decode cX6_run 43 = .ok (.aload_n 0, 1) := by decide +kernel
theorem dX6_run_44 : decode cX6_run 44 = .ok (.invokevirtual 256, 3) := by decide +kernel
theorem dX6_run_47 : decode cX6_run 47 = .ok (.goto 41, 3) := by decide +kernel
theorem dX6_run_50 : decode cX6_run 50 = .ok (.iload_n 2, 1) := by decide +kernel
theorem dX6_run_51 : decode cX6_run 51 = .ok (.iconst 1, 1) := by decide +kernel
theorem dX6_run_52 : decode cX6_run 52 = .ok (.if_icmp .ne 15, 3) := by decide +kernel
theorem dX6_run_55 : decode cX6_run 55 = .ok (.aload_n 0, 1) := by decide +kernel
theorem dX6_run_56 : decode cX6_run 56 = .ok (.getfield 94, 3) := by decide +kernel
theorem dX6_run_59 : decode cX6_run 59 = .ok (.aload_n 0, 1) := by decide +kernel
theorem dX6_run_60 : decode cX6_run 60 = .ok (.invokevirtual 233, 3) := by decide +kernel
theorem dX6_run_63 : decode cX6_run 63 = .ok (.isub, 1) := by decide +kernel
theorem dX6_run_64 : decode cX6_run 64 = .ok (.goto 24, 3) := by decide +kernel
theorem dX6_run_67 : decode cX6_run 67 = .ok (.iload_n 2, 1) := by decide +kernel
theorem dX6_run_68 : decode cX6_run 68 = .ok (.iconst 2, 1) := by decide +kernel
theorem dX6_run_69 : decode cX6_run 69 = .ok (.if_icmp .ne 10, 3) := by decide +kernel
theorem dX6_run_72 : decode cX6_run 72 = .ok (.aload_n 0, 1) := by decide +kernel
theorem dX6_run_73 : decode cX6_run 73 = .ok (.getfield 275, 3) := by decide +kernel
theorem dX6_run_76 : decode cX6_run 76 = .ok (.goto 12, 3) := by decide +kernel
theorem dX6_run_79 : decode cX6_run 79 = .ok (.aload_n 0, 1) := by decide +kernel
theorem dX6_run_80 : decode cX6_run 80 = .ok (.getfield 65, 3) := by decide +kernel
theorem dX6_run_83 : decode cX6_run 83 = .ok (.iload_n 2, 1) := by decide +kernel
theorem dX6_run_84 : decode cX6_run 84 = .ok (.bipush 10, 2) := by decide +kernel
theorem dX6_run_86 : decode cX6_run 86 = .ok (.isub, 1) := by decide +kernel
theorem dX6_run_87 : decode cX6_run 87 = .ok (.iaload, 1) := by decide +kernel
theorem dX6_run_88 : decode cX6_run 88 = .ok (.istore_n 3, 1) := by decide +kernel
theorem dX6_run_89 : decode cX6_run 89 = .ok (.aload_n 0, 1) := by decide +kernel
theorem dX6_run_90 : decode cX6_run 90 = .ok (.invokevirtual 282, 3) := by decide +kernel
theorem dX6_run_93 : decode cX6_run 93 = .ok (.iload_n 3, 1) := by decide +kernel
theorem dX6_run_94 : decode cX6_run 94 = .ok (.ireturn, 1) := by decide +kernel
theorem dX6_cut_0 : decode cX6_cut 0 = .ok (.iload_n 1, 1) := by decide +kernel
theorem dX6_cut_1 : decode cX6_cut 1 = .ok (.iconst 0, 1) := by decide +kernel
theorem dX6_cut_2 : decode cX6_cut 2 = .ok (.iconst 5, 1) := by decide +kernel
theorem dX6_cut_3 : decode cX6_cut 3 = .ok (.invokestatic 97, 3) := by decide +kernel
theorem dX6_cut_6 : decode cX6_cut 6 = .ok (.ifCond .eq 22, 3) := by decide +kernel
theorem dX6_cut_9 : decode cX6_cut 9 = .ok (.iload_n 2, 1) := by decide +kernel
theorem dX6_cut_10 : decode cX6_cut 10 = .ok (.iconst 0, 1) := by decide +kernel
theorem dX6_cut_11 : decode cX6_cut 11 = .ok (.bipush 9, 2) := by decide +kernel
theorem dX6_cut_13 : decode cX6_cut 13 = .ok (.invokestatic 97, 3) := by decide +kernel
theorem dX6_cut_16 : decode cX6_cut 16 = .ok (.ifCond .eq 12, 3) := by decide +kernel
theorem dX6_cut_19 : decode cX6_cut 19 = .ok (.iload_n 3, 1) := by decide +kernel
theorem dX6_cut_20 : decode cX6_cut 20 = .ok (.iconst 0, 1) := by decide +kernel
theorem dX6_cut_21 : decode cX6_cut 21 = .ok (.iconst 1, 1) := by decide +kernel
theorem dX6_cut_22 : decode cX6_cut 22 = .ok (.invokestatic 97, 3) := by decide +kernel
theorem dX6_cut_25 : decode cX6_cut 25 = .ok (.ifCond .ne 7, 3) := by decide +kernel
theorem dX6_cut_28 : decode cX6_cut 28 = .ok (.ldc_w 265, 3) := by decide +kernel
theorem dX6_cut_31 : decode cX6_cut 31 = .ok (.ireturn, 1) := by decide +kernel
theorem dX6_cut_32 : decode cX6_cut 32 = .ok (.aload_n 0, 1) := by decide +kernel
theorem dX6_cut_33 : decode cX6_cut 33 = .ok (.invokevirtual 256, 3) := by decide +kernel
theorem dX6_cut_36 : decode cX6_cut 36 = .ok (.istore 4, 2) := by decide +kernel
theorem dX6_cut_38 : decode cX6_cut 38 = .ok (.iconst (-1), 1) := by decide +kernel
theorem dX6_cut_39 : decode cX6_cut 39 = .ok (.istore 5, 2) := by decide +kernel
theorem dX6_cut_41 : decode cX6_cut 41 = .ok (.aload_n 0, 1) := by decide +kernel
theorem dX6_cut_42 : decode cX6_cut 42 = .ok (.iload_n 1, 1) := by decide +kernel
theorem dX6_cut_43 : decode cX6_cut 43 = .ok (.iload_n 2, 1) := by decide +kernel
theorem dX6_cut_44 : decode cX6_cut 44 = .ok (.iconst 0, 1) := by decide +kernel
theorem dX6_cut_45 : decode cX6_cut 45 = .ok (.iconst 0, 1) := by decide +kernel
theorem dX6_cut_46 : decode cX6_cut 46 = .ok (.invokevirtual 122, 3) := by decide +kernel
theorem dX6_cut_49 : decode cX6_cut 49 = .ok (.istore 6, 2) := by decide +kernel
theorem dX6_cut_51 : decode cX6_cut 51 = .ok (.iconst 0, 1) := by decide +kernel
theorem dX6_cut_52 : decode cX6_cut 52 = .ok (.istore 7, 2) := by decide +kernel
theorem dX6_cut_54 : decode cX6_cut 54 = .ok (.iload 7, 2) := by decide +kernel
theorem dX6_cut_56 : decode cX6_cut 56 = .ok (.bipush 16, 2) := by decide +kernel
theorem dX6_cut_58 : decode cX6_cut 58 = .ok (.if_icmp .ge 74, 3) := by decide +kernel
theorem dX6_cut_61 : decode cX6_cut 61 = .ok (.iload 7, 2) := by decide +kernel
theorem dX6_cut_63 : decode cX6_cut 63 = .ok (.istore 8, 2) := by decide +kernel
theorem dX6_cut_65 : decode cX6_cut 65 = .ok (.iload 8, 2) := by decide +kernel
theorem dX6_cut_67 : decode cX6_cut 67 = .ok (.bipush 16, 2) := by decide +kernel
theorem dX6_cut_69 : decode cX6_cut 69 = .ok (.if_icmp .ge 57, 3) := by decide +kernel
theorem dX6_cut_72 : decode cX6_cut 72 = .ok (.aload_n 0, 1) := by decide +kernel
theorem dX6_cut_73 : decode cX6_cut 73 = .ok (.getfield 19, 3) := by decide +kernel
theorem dX6_cut_76 : decode cX6_cut 76 = .ok (.iload 6, 2) := by decide +kernel
theorem dX6_cut_78 : decode cX6_cut 78 = .ok (.iload 7, 2) := by decide +kernel
theorem dX6_cut_80 : decode cX6_cut 80 = .ok (.iastore, 1) := by decide +kernel
theorem dX6_cut_81 : decode cX6_cut 81 = .ok (.aload_n 0, 1) := by decide +kernel
theorem dX6_cut_82 : decode cX6_cut 82 = .ok (.getfield 22, 3) := by decide +kernel
theorem dX6_cut_85 : decode cX6_cut 85 = .ok (.iload 6, 2) := by decide +kernel
theorem dX6_cut_87 : decode cX6_cut 87 = .ok (.iload 8, 2) := by decide +kernel
theorem dX6_cut_89 : decode cX6_cut 89 = .ok (.iastore, 1) := by decide +kernel
theorem dX6_cut_90 : decode cX6_cut 90 = .ok (.aload_n 0, 1) := by decide +kernel
theorem dX6_cut_91 : decode cX6_cut 91 = .ok (.invokevirtual 256, 3) := by decide +kernel
theorem dX6_cut_94 : decode cX6_cut 94 = .ok (.istore 9, 2) := by decide +kernel
theorem dX6_cut_96 : decode cX6_cut 96 = .ok (.iload 9, 2) := by decide +kernel
theorem dX6_cut_98 : decode cX6_cut 98 = .ok (.iload 4, 2) := by decide +kernel
theorem dX6_cut_100 : decode cX6_cut 100 = .ok (.if_icmp .gt 6, 3) := by decide +kernel
theorem dX6_cut_103 : decode cX6_cut 103 = .ok (.goto 17, 3) := by decide +kernel
theorem dX6_cut_106 : decode cX6_cut 106 = .ok (.iload 9, 2) := by decide +kernel
theorem dX6_cut_108 : decode cX6_cut 108 = .ok (.istore 4, 2) := by decide +kernel
theorem dX6_cut_110 : decode cX6_cut 110 = .ok (.bipush 100, 2) := by decide +kernel
theorem dX6_cut_112 : decode cX6_cut 112 = .ok (.iload 7, 2) := by decide +kernel
theorem dX6_cut_114 : decode cX6_cut 114 = .ok (.imul, 1) := by decide +kernel
theorem dX6_cut_115 : decode cX6_cut 115 = .ok (.iload 8, 2) := by decide +kernel
theorem dX6_cut_117 : decode cX6_cut 117 = .ok (.iadd, 1) := by decide +kernel
theorem dX6_cut_118 : decode cX6_cut 118 = .ok (.istore 5, 2) := by decide +kernel
theorem dX6_cut_120 : decode cX6_cut 120 = .ok (.iinc 8 1, 3) := by decide +kernel
theorem dX6_cut_123 : decode cX6_cut 123 = .ok (.goto (-58), 3) := by decide +kernel
theorem dX6_cut_126 : decode cX6_cut 126 = .ok (.iinc 7 1, 3) := by decide +kernel
theorem dX6_cut_129 : decode cX6_cut 129 = .ok (.goto (-75), 3) := by decide +kernel
theorem dX6_cut_132 : decode cX6_cut 132 = .ok (.aload_n 0, 1) := by decide +kernel
theorem dX6_cut_133 : decode cX6_cut 133 = .ok (.dup, 1) := by decide +kernel
theorem dX6_cut_134 : decode cX6_cut 134 = .ok (.getfield 94, 3) := by decide +kernel
theorem dX6_cut_137 : decode cX6_cut 137 = .ok (.iconst 1, 1) := by decide +kernel
theorem dX6_cut_138 : decode cX6_cut 138 = .ok (.isub, 1) := by decide +kernel
theorem dX6_cut_139 : decode cX6_cut 139 = .ok (.putfield 94, 3) := by decide +kernel
theorem dX6_cut_142 : decode cX6_cut 142 = .ok (.iload_n 3, 1) := by decide +kernel
theorem dX6_cut_143 : decode cX6_cut 143 = .ok (.ifCond .ne 8, 3) := by decide +kernel
theorem dX6_cut_146 : decode cX6_cut 146 = .ok (.iload 5, 2) := by decide +kernel
theorem dX6_cut_148 : decode cX6_cut 148 = .ok (.goto 5, 3) := by decide +kernel
theorem dX6_cut_151 : decode cX6_cut 151 = .ok (.iload 4, 2) := by decide +kernel
theorem dX6_cut_153 : decode cX6_cut 153 = .ok (.ireturn, 1) := by decide +kernel
theorem dX6_unpick_0 : decode cX6_unpick 0 = .ok (.iload_n 1, 1) := by decide +kernel
theorem dX6_unpick_1 : decode cX6_unpick 1 = .ok (.iconst 0, 1) := by decide +kernel
theorem dX6_unpick_2 : decode cX6_unpick 2 = .ok (.iconst 1, 1) := by decide +kernel
theorem dX6_unpick_3 : decode cX6_unpick 3 = .ok (.invokestatic 97, 3) := by decide +kernel
theorem dX6_unpick_6 : decode cX6_unpick 6 = .ok (.ifCond .ne 7, 3) := by decide +kernel
theorem dX6_unpick_9 : decode cX6_unpick 9 = .ok (.ldc_w 265, 3) := by decide +kernel
theorem dX6_unpick_12 : decode cX6_unpick 12 = .ok (.ireturn, 1) := by decide +kernel
theorem dX6_unpick_13 : decode cX6_unpick 13 = .ok (.aload_n 0, 1) := by decide +kernel
theorem dX6_unpick_14 : decode cX6_unpick 14 = .ok (.invokevirtual 256, 3) := by decide +kernel
theorem dX6_unpick_17 : decode cX6_unpick 17 = .ok (.istore_n 2, 1) := by decide +kernel
theorem dX6_unpick_18 : decode cX6_unpick 18 = .ok (.iconst (-1), 1) := by decide +kernel
theorem dX6_unpick_19 : decode cX6_unpick 19 = .ok (.istore_n 3, 1) := by decide +kernel
theorem dX6_unpick_20 : decode cX6_unpick 20 = .ok (.iconst 0, 1) := by decide +kernel
theorem dX6_unpick_21 : decode cX6_unpick 21 = .ok (.istore 4, 2) := by decide +kernel
theorem dX6_unpick_23 : decode cX6_unpick 23 = .ok (.iload 4, 2) := by decide +kernel
theorem dX6_unpick_25 : decode cX6_unpick 25 = .ok (.aload_n 0, 1) := by decide +kernel
theorem dX6_unpick_26 : decode cX6_unpick 26 = .ok (.getfield 94, 3) := by decide +kernel
theorem dX6_unpick_29 : decode cX6_unpick 29 = .ok (.if_icmp .ge 59, 3) := by decide +kernel
theorem dX6_unpick_32 : decode cX6_unpick 32 = .ok (.aload_n 0, 1) := by decide +kernel
theorem dX6_unpick_33 : decode cX6_unpick 33 = .ok (.getfield 28, 3) := by decide +kernel
theorem dX6_unpick_36 : decode cX6_unpick 36 = .ok (.iload 4, 2) := by decide +kernel
theorem dX6_unpick_38 : decode cX6_unpick 38 = .ok (.baload, 1) := by decide +kernel
theorem dX6_unpick_39 : decode cX6_unpick 39 = .ok (.ifCond .eq 6, 3) := by decide +kernel
theorem dX6_unpick_42 : decode cX6_unpick 42 = .ok (.goto 40, 3) := by decide +kernel
theorem dX6_unpick_45 : decode cX6_unpick 45 = .ok (.aload_n 0, 1) := by decide +kernel
theorem dX6_unpick_46 : decode cX6_unpick 46 = .ok (.getfield 28, 3) := by decide +kernel
theorem dX6_unpick_49 : decode cX6_unpick 49 = .ok (.iload 4, 2) := by decide +kernel
theorem dX6_unpick_51 : decode cX6_unpick 51 = .ok (.iconst 1, 1) := by decide +kernel
theorem dX6_unpick_52 : decode cX6_unpick 52 = .ok (.bastore, 1) := by decide +kernel
theorem dX6_unpick_53 : decode cX6_unpick 53 = .ok (.aload_n 0, 1) := by decide +kernel
theorem dX6_unpick_54 : decode cX6_unpick 54 = .ok (.invokevirtual 256, 3) := by decide +kernel
theorem dX6_unpick_57 : decode cX6_unpick 57 = .ok (.istore 5, 2) := by decide +kernel
theorem dX6_unpick_59 : decode cX6_unpick 59 = .ok (.aload_n 0, 1) := by decide +kernel
theorem dX6_unpick_60 : decode cX6_unpick 60 = .ok (.getfield 28, 3) := by decide +kernel
theorem dX6_unpick_63 : decode cX6_unpick 63 = .ok (.iload 4, 2) := by decide +kernel
theorem dX6_unpick_65 : decode cX6_unpick 65 = .ok (.iconst 0, 1) := by decide +kernel
theorem dX6_unpick_66 : decode cX6_unpick 66 = .ok (.bastore, 1) := by decide +kernel
theorem dX6_unpick_67 : decode cX6_unpick 67 = .ok (.iload 5, 2) := by decide +kernel
theorem dX6_unpick_69 : decode cX6_unpick 69 = .ok (.iload_n 2, 1) := by decide +kernel
theorem dX6_unpick_70 : decode cX6_unpick 70 = .ok (.if_icmp .gt 6, 3) := by decide +kernel
theorem dX6_unpick_73 : decode cX6_unpick 73 = .ok (.goto 9, 3) := by decide +kernel
theorem dX6_unpick_76 : decode cX6_unpick 76 = .ok (.iload 5, 2) := by decide +kernel
theorem dX6_unpick_78 : decode cX6_unpick 78 = .ok (.istore_n 2, 1) := by decide +kernel
theorem dX6_unpick_79 : decode cX6_unpick 79 = .ok (.iload 4, 2) := by decide +kernel
theorem dX6_unpick_81 : decode cX6_unpick 81 = .ok (.istore_n 3, 1) := by decide +kernel
theorem dX6_unpick_82 : decode cX6_unpick 82 = .ok (.iinc 4 1, 3) := by decide +kernel
theorem dX6_unpick_85 : decode cX6_unpick 85 = .ok (.goto (-62), 3) := by decide +kernel
theorem dX6_unpick_88 : decode cX6_unpick 88 = .ok (.iload_n 1, 1) := by decide +kernel
theorem dX6_unpick_89 : decode cX6_unpick 89 = .ok (.ifCond .ne 7, 3) := by decide +kernel
theorem dX6_unpick_92 : decode cX6_unpick 92 = .ok (.iload_n 3, 1) := by decide +kernel
theorem dX6_unpick_93 : decode cX6_unpick 93 = .ok (.goto 4, 3) := by decide +kernel
theorem dX6_unpick_96 : decode cX6_unpick 96 = .ok (.iload_n 2, 1) := by decide +kernel
theorem dX6_unpick_97 : decode cX6_unpick 97 = .ok (.ireturn, 1) := by decide +kernel
theorem dX6_thread_0 : decode cX6_thread 0 = .ok (.aload_n 0, 1) := by decide +kernel
theorem dX6_thread_1 : decode cX6_thread 1 = .ok (.iload_n 1, 1) := by decide +kernel
theorem dX6_thread_2 : decode cX6_thread 2 = .ok (.invokevirtual 105, 3) := by decide +kernel
theorem dX6_thread_5 : decode cX6_thread 5 = .ok (.ifCond .eq 22, 3) := by decide +kernel
theorem dX6_thread_8 : decode cX6_thread 8 = .ok (.iload_n 2, 1) := by decide +kernel
theorem dX6_thread_9 : decode cX6_thread 9 = .ok (.iconst 0, 1) := by decide +kernel
theorem dX6_thread_10 : decode cX6_thread 10 = .ok (.bipush 40, 2) := by decide +kernel
theorem dX6_thread_12 : decode cX6_thread 12 = .ok (.invokestatic 97, 3) := by decide +kernel
theorem dX6_thread_15 : decode cX6_thread 15 = .ok (.ifCond .eq 12, 3) := by decide +kernel
theorem dX6_thread_18 : decode cX6_thread 18 = .ok (.iload_n 3, 1) := by decide +kernel
theorem dX6_thread_19 : decode cX6_thread 19 = .ok (.iconst 0, 1) := by decide +kernel
theorem dX6_thread_20 : decode cX6_thread 20 = .ok (.iconst 1, 1) := by decide +kernel
theorem dX6_thread_21 : decode cX6_thread 21 = .ok (.invokestatic 97, 3) := by decide +kernel
theorem dX6_thread_24 : decode cX6_thread 24 = .ok (.ifCond .ne 7, 3) := by decide +kernel
theorem dX6_thread_27 : decode cX6_thread 27 = .ok (.ldc_w 278, 3) := by decide +kernel
theorem dX6_thread_30 : decode cX6_thread 30 = .ok (.ireturn, 1) := by decide +kernel
theorem dX6_thread_31 : decode cX6_thread 31 = .ok (.aload_n 0, 1) := by decide +kernel
theorem dX6_thread_32 : decode cX6_thread 32 = .ok (.getfield 13, 3) := by decide +kernel
theorem dX6_thread_35 : decode cX6_thread 35 = .ok (.iload_n 1, 1) := by decide +kernel
theorem dX6_thread_36 : decode cX6_thread 36 = .ok (.iaload, 1) := by decide +kernel
theorem dX6_thread_37 : decode cX6_thread 37 = .ok (.istore 4, 2) := by decide +kernel
theorem dX6_thread_39 : decode cX6_thread 39 = .ok (.iconst (-1), 1) := by decide +kernel
theorem dX6_thread_40 : decode cX6_thread 40 = .ok (.istore 5, 2) := by decide +kernel
theorem dX6_thread_42 : decode cX6_thread 42 = .ok (.iconst 0, 1) := by decide +kernel
theorem dX6_thread_43 : decode cX6_thread 43 = .ok (.istore 6, 2) := by decide +kernel
theorem dX6_thread_45 : decode cX6_thread 45 = .ok (.iconst 0, 1) := by decide +kernel
theorem dX6_thread_46 : decode cX6_thread 46 = .ok (.istore 7, 2) := by decide +kernel
theorem dX6_thread_48 : decode cX6_thread 48 = .ok (.iload 7, 2) := by decide +kernel
theorem dX6_thread_50 : decode cX6_thread 50 = .ok (.bipush 6, 2) := by decide +kernel
theorem dX6_thread_52 : decode cX6_thread 52 = .ok (.if_icmp .ge 54, 3) := by decide +kernel
theorem dX6_thread_55 : decode cX6_thread 55 = .ok (.aload_n 0, 1) := by decide +kernel
theorem dX6_thread_56 : decode cX6_thread 56 = .ok (.getfield 13, 3) := by decide +kernel
theorem dX6_thread_59 : decode cX6_thread 59 = .ok (.iload_n 1, 1) := by decide +kernel
theorem dX6_thread_60 : decode cX6_thread 60 = .ok (.iload 7, 2) := by decide +kernel
theorem dX6_thread_62 : decode cX6_thread 62 = .ok (.iastore, 1) := by decide +kernel
theorem dX6_thread_63 : decode cX6_thread 63 = .ok (.aload_n 0, 1) := by decide +kernel
theorem dX6_thread_64 : decode cX6_thread 64 = .ok (.iload_n 2, 1) := by decide +kernel
theorem dX6_thread_65 : decode cX6_thread 65 = .ok (.invokevirtual 279, 3) := by decide +kernel
theorem dX6_thread_68 : decode cX6_thread 68 = .ok (.aload_n 0, 1) := by decide +kernel
theorem dX6_thread_69 : decode cX6_thread 69 = .ok (.invokevirtual 282, 3) := by decide +kernel
theorem dX6_thread_72 : decode cX6_thread 72 = .ok (.iload 5, 2) := by decide +kernel
theorem dX6_thread_74 : decode cX6_thread 74 = .ok (.iconst (-1), 1) := by decide +kernel
theorem dX6_thread_75 : decode cX6_thread 75 = .ok (.if_icmp .eq 15, 3) := by decide +kernel
theorem dX6_thread_78 : decode cX6_thread 78 = .ok (.aload_n 0, 1) := by decide +kernel
theorem dX6_thread_79 : decode cX6_thread 79 = .ok (.getfield 275, 3) := by decide +kernel
theorem dX6_thread_82 : decode cX6_thread 82 = .ok (.iload 6, 2) := by decide +kernel
theorem dX6_thread_84 : decode cX6_thread 84 = .ok (.if_icmp .gt 6, 3) := by decide +kernel
theorem dX6_thread_87 : decode cX6_thread 87 = .ok (.goto 13, 3) := by decide +kernel
theorem dX6_thread_90 : decode cX6_thread 90 = .ok (.aload_n 0, 1) := by decide +kernel
theorem dX6_thread_91 : decode cX6_thread 91 = .ok (.getfield 275, 3) := by decide +kernel
theorem dX6_thread_94 : decode cX6_thread 94 = .ok (.istore 6, 2) := by decide +kernel
theorem dX6_thread_96 : decode cX6_thread 96 = .ok (.iload 7, 2) := by decide +kernel
theorem dX6_thread_98 : decode cX6_thread 98 = .ok (.istore 5, 2) := by decide +kernel
theorem dX6_thread_100 : decode cX6_thread 100 = .ok (.iinc 7 1, 3) := by decide +kernel
theorem dX6_thread_103 : decode cX6_thread 103 = .ok (.goto (-55), 3) := by decide +kernel
theorem dX6_thread_106 : decode cX6_thread 106 = .ok (.aload_n 0, 1) := by decide +kernel
theorem dX6_thread_107 : decode cX6_thread 107 = .ok (.getfield 13, 3) := by decide +kernel
theorem dX6_thread_110 : decode cX6_thread 110 = .ok (.iload_n 1, 1) := by decide +kernel
theorem dX6_thread_111 : decode cX6_thread 111 = .ok (.iload 4, 2) := by decide +kernel
theorem dX6_thread_113 : decode cX6_thread 113 = .ok (.iastore, 1) := by decide +kernel
theorem dX6_thread_114 : decode cX6_thread 114 = .ok (.iload_n 3, 1) := by decide +kernel
theorem dX6_thread_115 : decode cX6_thread 115 = .ok (.ifCond .ne 8, 3) := by decide +kernel
theorem dX6_thread_118 : decode cX6_thread 118 = .ok (.iload 5, 2) := by decide +kernel
theorem dX6_thread_120 : decode cX6_thread 120 = .ok (.goto 5, 3) := by decide +kernel
theorem dX6_thread_123 : decode cX6_thread 123 = .ok (.iload 6, 2) := by decide +kernel
theorem dX6_thread_125 : decode cX6_thread 125 = .ok (.ireturn, 1) := by decide +kernel
theorem dX6_shifts_0 : decode cX6_shifts 0 = .ok (.aload_n 0, 1) := by decide +kernel
theorem dX6_shifts_1 : decode cX6_shifts 1 = .ok (.getfield 19, 3) := by decide +kernel
theorem dX6_shifts_4 : decode cX6_shifts 4 = .ok (.iload_n 1, 1) := by decide +kernel
theorem dX6_shifts_5 : decode cX6_shifts 5 = .ok (.iload_n 2, 1) := by decide +kernel
theorem dX6_shifts_6 : decode cX6_shifts 6 = .ok (.iastore, 1) := by decide +kernel
theorem dX6_shifts_7 : decode cX6_shifts 7 = .ok (.aload_n 0, 1) := by decide +kernel
theorem dX6_shifts_8 : decode cX6_shifts 8 = .ok (.getfield 22, 3) := by decide +kernel
theorem dX6_shifts_11 : decode cX6_shifts 11 = .ok (.iload_n 1, 1) := by decide +kernel
theorem dX6_shifts_12 : decode cX6_shifts 12 = .ok (.iload_n 2, 1) := by decide +kernel
theorem dX6_shifts_13 : decode cX6_shifts 13 = .ok (.iload_n 3, 1) := by decide +kernel
theorem dX6_shifts_14 : decode cX6_shifts 14 = .ok (.iadd, 1) := by decide +kernel
theorem dX6_shifts_15 : decode cX6_shifts 15 = .ok (.iconst 1, 1) := by decide +kernel
theorem dX6_shifts_16 : decode cX6_shifts 16 = .ok (.isub, 1) := by decide +kernel
theorem dX6_shifts_17 : decode cX6_shifts 17 = .ok (.bipush 15, 2) := by decide +kernel
theorem dX6_shifts_19 : decode cX6_shifts 19 = .ok (.invokestatic 243, 3) := by decide +kernel
theorem dX6_shifts_22 : decode cX6_shifts 22 = .ok (.iastore, 1) := by decide +kernel
theorem dX6_shifts_23 : decode cX6_shifts 23 = .ok (.return_, 1) := by decide +kernel
theorem dX6_move_0 : decode cX6_move 0 = .ok (.aload_n 0, 1) := by decide +kernel
theorem dX6_move_1 : decode cX6_move 1 = .ok (.iload_n 1, 1) := by decide +kernel
theorem dX6_move_2 : decode cX6_move 2 = .ok (.invokevirtual 105, 3) := by decide +kernel
theorem dX6_move_5 : decode cX6_move 5 = .ok (.ifCond .eq 12, 3) := by decide +kernel
theorem dX6_move_8 : decode cX6_move 8 = .ok (.iload_n 2, 1) := by decide +kernel
theorem dX6_move_9 : decode cX6_move 9 = .ok (.iconst 0, 1) := by decide +kernel
theorem dX6_move_10 : decode cX6_move 10 = .ok (.iconst 1, 1) := by decide +kernel
theorem dX6_move_11 : decode cX6_move 11 = .ok (.invokestatic 97, 3) := by decide +kernel
theorem dX6_move_14 : decode cX6_move 14 = .ok (.ifCond .ne 7, 3) := by decide +kernel
theorem dX6_move_17 : decode cX6_move 17 = .ok (.ldc_w 265, 3) := by decide +kernel
theorem dX6_move_20 : decode cX6_move 20 = .ok (.ireturn, 1) := by decide +kernel
theorem dX6_move_21 : decode cX6_move 21 = .ok (.aload_n 0, 1) := by decide +kernel
theorem dX6_move_22 : decode cX6_move 22 = .ok (.getfield 19, 3) := by decide +kernel
theorem dX6_move_25 : decode cX6_move 25 = .ok (.iload_n 1, 1) := by decide +kernel
theorem dX6_move_26 : decode cX6_move 26 = .ok (.iaload, 1) := by decide +kernel
theorem dX6_move_27 : decode cX6_move 27 = .ok (.istore_n 3, 1) := by decide +kernel
theorem dX6_move_28 : decode cX6_move 28 = .ok (.aload_n 0, 1) := by decide +kernel
theorem dX6_move_29 : decode cX6_move 29 = .ok (.iload_n 1, 1) := by decide +kernel
theorem dX6_move_30 : decode cX6_move 30 = .ok (.invokevirtual 230, 3) := by decide +kernel
theorem dX6_move_33 : decode cX6_move 33 = .ok (.istore 4, 2) := by decide +kernel
theorem dX6_move_35 : decode cX6_move 35 = .ok (.iconst (-1), 1) := by decide +kernel
theorem dX6_move_36 : decode cX6_move 36 = .ok (.istore 5, 2) := by decide +kernel
theorem dX6_move_38 : decode cX6_move 38 = .ok (.iconst 0, 1) := by decide +kernel
theorem dX6_move_39 : decode cX6_move 39 = .ok (.istore 6, 2) := by decide +kernel
theorem dX6_move_41 : decode cX6_move 41 = .ok (.iconst 0, 1) := by decide +kernel
theorem dX6_move_42 : decode cX6_move 42 = .ok (.istore 7, 2) := by decide +kernel
theorem dX6_move_44 : decode cX6_move 44 = .ok (.iload 7, 2) := by decide +kernel
theorem dX6_move_46 : decode cX6_move 46 = .ok (.bipush 16, 2) := by decide +kernel
theorem dX6_move_48 : decode cX6_move 48 = .ok (.if_icmp .ge 48, 3) := by decide +kernel
theorem dX6_move_51 : decode cX6_move 51 = .ok (.aload_n 0, 1) := by decide +kernel
theorem dX6_move_52 : decode cX6_move 52 = .ok (.iload_n 1, 1) := by decide +kernel
theorem dX6_move_53 : decode cX6_move 53 = .ok (.iload 7, 2) := by decide +kernel
theorem dX6_move_55 : decode cX6_move 55 = .ok (.iload 4, 2) := by decide +kernel
theorem dX6_move_57 : decode cX6_move 57 = .ok (.invokevirtual 285, 3) := by decide +kernel
theorem dX6_move_60 : decode cX6_move 60 = .ok (.aload_n 0, 1) := by decide +kernel
theorem dX6_move_61 : decode cX6_move 61 = .ok (.invokevirtual 256, 3) := by decide +kernel
theorem dX6_move_64 : decode cX6_move 64 = .ok (.istore 8, 2) := by decide +kernel
theorem dX6_move_66 : decode cX6_move 66 = .ok (.iload 5, 2) := by decide +kernel
theorem dX6_move_68 : decode cX6_move 68 = .ok (.iconst (-1), 1) := by decide +kernel
theorem dX6_move_69 : decode cX6_move 69 = .ok (.if_icmp .eq 13, 3) := by decide +kernel
theorem dX6_move_72 : decode cX6_move 72 = .ok (.iload 8, 2) := by decide +kernel
theorem dX6_move_74 : decode cX6_move 74 = .ok (.iload 6, 2) := by decide +kernel
theorem dX6_move_76 : decode cX6_move 76 = .ok (.if_icmp .gt 6, 3) := by decide +kernel
theorem dX6_move_79 : decode cX6_move 79 = .ok (.goto 11, 3) := by decide +kernel
theorem dX6_move_82 : decode cX6_move 82 = .ok (.iload 8, 2) := by decide +kernel
theorem dX6_move_84 : decode cX6_move 84 = .ok (.istore 6, 2) := by decide +kernel
theorem dX6_move_86 : decode cX6_move 86 = .ok (.iload 7, 2) := by decide +kernel
theorem dX6_move_88 : decode cX6_move 88 = .ok (.istore 5, 2) := by decide +kernel
theorem dX6_move_90 : decode cX6_move 90 = .ok (.iinc 7 1, 3) := by decide +kernel
theorem dX6_move_93 : decode cX6_move 93 = .ok (.goto (-49), 3) := by decide +kernel
theorem dX6_move_96 : decode cX6_move 96 = .ok (.aload_n 0, 1) := by decide +kernel
theorem dX6_move_97 : decode cX6_move 97 = .ok (.iload_n 1, 1) := by decide +kernel
theorem dX6_move_98 : decode cX6_move 98 = .ok (.iload_n 3, 1) := by decide +kernel
theorem dX6_move_99 : decode cX6_move 99 = .ok (.iload 4, 2) := by decide +kernel
theorem dX6_move_101 : decode cX6_move 101 = .ok (.invokevirtual 285, 3) := by decide +kernel
theorem dX6_move_104 : decode cX6_move 104 = .ok (.iload_n 2, 1) := by decide +kernel
theorem dX6_move_105 : decode cX6_move 105 = .ok (.ifCond .ne 8, 3) := by decide +kernel
theorem dX6_move_108 : decode cX6_move 108 = .ok (.iload 5, 2) := by decide +kernel
theorem dX6_move_110 : decode cX6_move 110 = .ok (.goto 5, 3) := by decide +kernel
theorem dX6_move_113 : decode cX6_move 113 = .ok (.iload 6, 2) := by decide +kernel
theorem dX6_move_115 : decode cX6_move 115 = .ok (.ireturn, 1) := by decide +kernel
theorem dX6_wrong_0 : decode cX6_wrong 0 = .ok (.aload_n 0, 1) := by decide +kernel
theorem dX6_wrong_1 : decode cX6_wrong 1 = .ok (.invokevirtual 272, 3) := by decide +kernel
theorem dX6_wrong_4 : decode cX6_wrong 4 = .ok (.iconst (-1), 1) := by decide +kernel
theorem dX6_wrong_5 : decode cX6_wrong 5 = .ok (.istore_n 2, 1) := by decide +kernel
theorem dX6_wrong_6 : decode cX6_wrong 6 = .ok (.iconst 0, 1) := by decide +kernel
theorem dX6_wrong_7 : decode cX6_wrong 7 = .ok (.istore_n 3, 1) := by decide +kernel
theorem dX6_wrong_8 : decode cX6_wrong 8 = .ok (.iload_n 3, 1) := by decide +kernel
theorem dX6_wrong_9 : decode cX6_wrong 9 = .ok (.aload_n 0, 1) := by decide +kernel
theorem dX6_wrong_10 : decode cX6_wrong 10 = .ok (.getfield 80, 3) := by decide +kernel
theorem dX6_wrong_13 : decode cX6_wrong 13 = .ok (.iload_n 1, 1) := by decide +kernel
theorem dX6_wrong_14 : decode cX6_wrong 14 = .ok (.iaload, 1) := by decide +kernel
theorem dX6_wrong_15 : decode cX6_wrong 15 = .ok (.if_icmp .ge 43, 3) := by decide +kernel
theorem dX6_wrong_18 : decode cX6_wrong 18 = .ok (.iload_n 2, 1) := by decide +kernel
theorem dX6_wrong_19 : decode cX6_wrong 19 = .ok (.iconst (-1), 1) := by decide +kernel
theorem dX6_wrong_20 : decode cX6_wrong 20 = .ok (.if_icmp .ne 38, 3) := by decide +kernel
theorem dX6_wrong_23 : decode cX6_wrong 23 = .ok (.iload_n 3, 1) := by decide +kernel
theorem dX6_wrong_24 : decode cX6_wrong 24 = .ok (.ifCond .le 8, 3) := by decide +kernel
theorem dX6_wrong_27 : decode cX6_wrong 27 = .ok (.aload_n 0, 1) := by decide +kernel
theorem dX6_wrong_28 : decode cX6_wrong 28 = .ok (.invokevirtual 266, 3) := by decide +kernel
theorem dX6_wrong_31 : decode cX6_wrong 31 = .ok (.pop, 1) := by decide +kernel
theorem dX6_wrong_32 : decode cX6_wrong 32 = .ok (.aload_n 0, 1) := by decide +kernel
theorem dX6_wrong_33 : decode cX6_wrong 33 = .ok (.invokevirtual 256, 3) := by decide +kernel
theorem dX6_wrong_36 : decode cX6_wrong 36 = .ok (.aload_n 0, 1) := by decide +kernel
theorem dX6_wrong_37 : decode cX6_wrong 37 = .ok (.getfield 83, 3) := by decide +kernel
theorem dX6_wrong_40 : decode cX6_wrong 40 = .ok (.bipush 40, 2) := by decide +kernel
theorem dX6_wrong_42 : decode cX6_wrong 42 = .ok (.iload_n 1, 1) := by decide +kernel
theorem dX6_wrong_43 : decode cX6_wrong 43 = .ok (.imul, 1) := by decide +kernel
theorem dX6_wrong_44 : decode cX6_wrong 44 = .ok (.iload_n 3, 1) := by decide +kernel
theorem dX6_wrong_45 : decode cX6_wrong 45 = .ok (.iadd, 1) := by decide +kernel
theorem dX6_wrong_46 : decode cX6_wrong 46 = .ok (.iaload, 1) := by decide +kernel
theorem dX6_wrong_47 : decode cX6_wrong 47 = .ok (.if_icmp .eq 5, 3) := by decide +kernel
theorem dX6_wrong_50 : decode cX6_wrong 50 = .ok (.iload_n 3, 1) := by decide +kernel
theorem dX6_wrong_51 : decode cX6_wrong 51 = .ok (.istore_n 2, 1) := by decide +kernel
theorem dX6_wrong_52 : decode cX6_wrong 52 = .ok (.iinc 3 1, 3) := by decide +kernel
theorem dX6_wrong_55 : decode cX6_wrong 55 = .ok (.goto (-47), 3) := by decide +kernel
theorem dX6_wrong_58 : decode cX6_wrong 58 = .ok (.aload_n 0, 1) := by decide +kernel
theorem dX6_wrong_59 : decode cX6_wrong 59 = .ok (.invokevirtual 282, 3) := by decide +kernel
theorem dX6_wrong_62 : decode cX6_wrong 62 = .ok (.iload_n 2, 1) := by decide +kernel
theorem dX6_wrong_63 : decode cX6_wrong 63 = .ok (.ireturn, 1) := by decide +kernel
theorem dX6_textsSo_0 : decode cX6_textsSo 0 = .ok (.aload_n 0, 1) := by decide +kernel
theorem dX6_textsSo_1 : decode cX6_textsSo 1 = .ok (.getfield 227, 3) := by decide +kernel
theorem dX6_textsSo_4 : decode cX6_textsSo 4 = .ok (.istore_n 2, 1) := by decide +kernel
theorem dX6_textsSo_5 : decode cX6_textsSo 5 = .ok (.iconst 0, 1) := by decide +kernel
theorem dX6_textsSo_6 : decode cX6_textsSo 6 = .ok (.istore_n 3, 1) := by decide +kernel
theorem dX6_textsSo_7 : decode cX6_textsSo 7 = .ok (.iconst 0, 1) := by decide +kernel
theorem dX6_textsSo_8 : decode cX6_textsSo 8 = .ok (.istore 4, 2) := by decide +kernel
theorem dX6_textsSo_10 : decode cX6_textsSo 10 = .ok (.iload 4, 2) := by decide +kernel
theorem dX6_textsSo_12 : decode cX6_textsSo 12 = .ok (.aload_n 0, 1) := by decide +kernel
theorem dX6_textsSo_13 : decode cX6_textsSo 13 = .ok (.getfield 90, 3) := by decide +kernel
theorem dX6_textsSo_16 : decode cX6_textsSo 16 = .ok (.if_icmp .ge 31, 3) := by decide +kernel
theorem dX6_textsSo_19 : decode cX6_textsSo 19 = .ok (.aload_n 0, 1) := by decide +kernel
theorem dX6_textsSo_20 : decode cX6_textsSo 20 = .ok (.iload 4, 2) := by decide +kernel
theorem dX6_textsSo_22 : decode cX6_textsSo 22 = .ok (.putfield 227, 3) := by decide +kernel
theorem dX6_textsSo_25 : decode cX6_textsSo 25 = .ok (.aload_n 0, 1) := by decide +kernel
theorem dX6_textsSo_26 : decode cX6_textsSo 26 = .ok (.iload_n 1, 1) := by decide +kernel
theorem dX6_textsSo_27 : decode cX6_textsSo 27 = .ok (.invokevirtual 289, 3) := by decide +kernel
theorem dX6_textsSo_30 : decode cX6_textsSo 30 = .ok (.iconst (-1), 1) := by decide +kernel
theorem dX6_textsSo_31 : decode cX6_textsSo 31 = .ok (.if_icmp .ne 10, 3) := by decide +kernel
theorem dX6_textsSo_34 : decode cX6_textsSo 34 = .ok (.iload_n 3, 1) := by decide +kernel
theorem dX6_textsSo_35 : decode cX6_textsSo 35 = .ok (.iconst 1, 1) := by decide +kernel
theorem dX6_textsSo_36 : decode cX6_textsSo 36 = .ok (.iload 4, 2) := by decide +kernel
theorem dX6_textsSo_38 : decode cX6_textsSo 38 = .ok (.ishl, 1) := by decide +kernel
theorem dX6_textsSo_39 : decode cX6_textsSo 39 = .ok (.ior, 1) := by decide +kernel
theorem dX6_textsSo_40 : decode cX6_textsSo 40 = .ok (.istore_n 3, 1) := by decide +kernel
theorem dX6_textsSo_41 : decode cX6_textsSo 41 = .ok (.iinc 4 1, 3) := by decide +kernel
theorem dX6_textsSo_44 : decode cX6_textsSo 44 = .ok (.goto (-34), 3) := by decide +kernel
theorem dX6_textsSo_47 : decode cX6_textsSo 47 = .ok (.aload_n 0, 1) := by decide +kernel
theorem dX6_textsSo_48 : decode cX6_textsSo 48 = .ok (.iload_n 2, 1) := by decide +kernel
theorem dX6_textsSo_49 : decode cX6_textsSo 49 = .ok (.putfield 227, 3) := by decide +kernel
theorem dX6_textsSo_52 : decode cX6_textsSo 52 = .ok (.iload_n 3, 1) := by decide +kernel
theorem dX6_textsSo_53 : decode cX6_textsSo 53 = .ok (.ireturn, 1) := by decide +kernel
theorem dX6_kindsSo_0 : decode cX6_kindsSo 0 = .ok (.aload_n 0, 1) := by decide +kernel
theorem dX6_kindsSo_1 : decode cX6_kindsSo 1 = .ok (.getfield 13, 3) := by decide +kernel
theorem dX6_kindsSo_4 : decode cX6_kindsSo 4 = .ok (.iload_n 2, 1) := by decide +kernel
theorem dX6_kindsSo_5 : decode cX6_kindsSo 5 = .ok (.iaload, 1) := by decide +kernel
theorem dX6_kindsSo_6 : decode cX6_kindsSo 6 = .ok (.istore_n 3, 1) := by decide +kernel
theorem dX6_kindsSo_7 : decode cX6_kindsSo 7 = .ok (.iconst 0, 1) := by decide +kernel
theorem dX6_kindsSo_8 : decode cX6_kindsSo 8 = .ok (.istore 4, 2) := by decide +kernel
theorem dX6_kindsSo_10 : decode cX6_kindsSo 10 = .ok (.iconst 0, 1) := by decide +kernel
theorem dX6_kindsSo_11 : decode cX6_kindsSo 11 = .ok (.istore 5, 2) := by decide +kernel
theorem dX6_kindsSo_13 : decode cX6_kindsSo 13 = .ok (.iload 5, 2) := by decide +kernel
theorem dX6_kindsSo_15 : decode cX6_kindsSo 15 = .ok (.bipush 6, 2) := by decide +kernel
theorem dX6_kindsSo_17 : decode cX6_kindsSo 17 = .ok (.if_icmp .ge 35, 3) := by decide +kernel
theorem dX6_kindsSo_20 : decode cX6_kindsSo 20 = .ok (.aload_n 0, 1) := by decide +kernel
theorem dX6_kindsSo_21 : decode cX6_kindsSo 21 = .ok (.getfield 13, 3) := by decide +kernel
theorem dX6_kindsSo_24 : decode cX6_kindsSo 24 = .ok (.iload_n 2, 1) := by decide +kernel
theorem dX6_kindsSo_25 : decode cX6_kindsSo 25 = .ok (.iload 5, 2) := by decide +kernel
theorem dX6_kindsSo_27 : decode cX6_kindsSo 27 = .ok (.iastore, 1) := by decide +kernel
theorem dX6_kindsSo_28 : decode cX6_kindsSo 28 = .ok (.aload_n 0, 1) := by decide +kernel
theorem dX6_kindsSo_29 : decode cX6_kindsSo 29 = .ok (.iload_n 1, 1) := by decide +kernel
theorem dX6_kindsSo_30 : decode cX6_kindsSo 30 = .ok (.invokevirtual 289, 3) := by decide +kernel
theorem dX6_kindsSo_33 : decode cX6_kindsSo 33 = .ok (.iconst (-1), 1) := by decide +kernel
theorem dX6_kindsSo_34 : decode cX6_kindsSo 34 = .ok (.if_icmp .ne 12, 3) := by decide +kernel
theorem dX6_kindsSo_37 : decode cX6_kindsSo 37 = .ok (.iload 4, 2) := by decide +kernel
theorem dX6_kindsSo_39 : decode cX6_kindsSo 39 = .ok (.iconst 1, 1) := by decide +kernel
theorem dX6_kindsSo_40 : decode cX6_kindsSo 40 = .ok (.iload 5, 2) := by decide +kernel
theorem dX6_kindsSo_42 : decode cX6_kindsSo 42 = .ok (.ishl, 1) := by decide +kernel
theorem dX6_kindsSo_43 : decode cX6_kindsSo 43 = .ok (.ior, 1) := by decide +kernel
theorem dX6_kindsSo_44 : decode cX6_kindsSo 44 = .ok (.istore 4, 2) := by decide +kernel
theorem dX6_kindsSo_46 : decode cX6_kindsSo 46 = .ok (.iinc 5 1, 3) := by decide +kernel
theorem dX6_kindsSo_49 : decode cX6_kindsSo 49 = .ok (.goto (-36), 3) := by decide +kernel
theorem dX6_kindsSo_52 : decode cX6_kindsSo 52 = .ok (.aload_n 0, 1) := by decide +kernel
theorem dX6_kindsSo_53 : decode cX6_kindsSo 53 = .ok (.getfield 13, 3) := by decide +kernel
theorem dX6_kindsSo_56 : decode cX6_kindsSo 56 = .ok (.iload_n 2, 1) := by decide +kernel
theorem dX6_kindsSo_57 : decode cX6_kindsSo 57 = .ok (.iload_n 3, 1) := by decide +kernel
theorem dX6_kindsSo_58 : decode cX6_kindsSo 58 = .ok (.iastore, 1) := by decide +kernel
theorem dX6_kindsSo_59 : decode cX6_kindsSo 59 = .ok (.iload 4, 2) := by decide +kernel
theorem dX6_kindsSo_61 : decode cX6_kindsSo 61 = .ok (.ireturn, 1) := by decide +kernel
theorem dX6_numbersSo_0 : decode cX6_numbersSo 0 = .ok (.aload_n 0, 1) := by decide +kernel
theorem dX6_numbersSo_1 : decode cX6_numbersSo 1 = .ok (.getfield 16, 3) := by decide +kernel
theorem dX6_numbersSo_4 : decode cX6_numbersSo 4 = .ok (.iload_n 2, 1) := by decide +kernel
theorem dX6_numbersSo_5 : decode cX6_numbersSo 5 = .ok (.iaload, 1) := by decide +kernel
theorem dX6_numbersSo_6 : decode cX6_numbersSo 6 = .ok (.istore_n 3, 1) := by decide +kernel
theorem dX6_numbersSo_7 : decode cX6_numbersSo 7 = .ok (.iconst 0, 1) := by decide +kernel
theorem dX6_numbersSo_8 : decode cX6_numbersSo 8 = .ok (.istore 4, 2) := by decide +kernel
theorem dX6_numbersSo_10 : decode cX6_numbersSo 10 = .ok (.iconst 0, 1) := by decide +kernel
theorem dX6_numbersSo_11 : decode cX6_numbersSo 11 = .ok (.istore 5, 2) := by decide +kernel
theorem dX6_numbersSo_13 : decode cX6_numbersSo 13 = .ok (.iload 5, 2) := by decide +kernel
theorem dX6_numbersSo_15 : decode cX6_numbersSo 15 = .ok (.bipush 10, 2) := by decide +kernel
theorem dX6_numbersSo_17 : decode cX6_numbersSo 17 = .ok (.if_icmp .ge 35, 3) := by decide +kernel
theorem dX6_numbersSo_20 : decode cX6_numbersSo 20 = .ok (.aload_n 0, 1) := by decide +kernel
theorem dX6_numbersSo_21 : decode cX6_numbersSo 21 = .ok (.getfield 16, 3) := by decide +kernel
theorem dX6_numbersSo_24 : decode cX6_numbersSo 24 = .ok (.iload_n 2, 1) := by decide +kernel
theorem dX6_numbersSo_25 : decode cX6_numbersSo 25 = .ok (.iload 5, 2) := by decide +kernel
theorem dX6_numbersSo_27 : decode cX6_numbersSo 27 = .ok (.iastore, 1) := by decide +kernel
theorem dX6_numbersSo_28 : decode cX6_numbersSo 28 = .ok (.aload_n 0, 1) := by decide +kernel
theorem dX6_numbersSo_29 : decode cX6_numbersSo 29 = .ok (.iload_n 1, 1) := by decide +kernel
theorem dX6_numbersSo_30 : decode cX6_numbersSo 30 = .ok (.invokevirtual 289, 3) := by decide +kernel
theorem dX6_numbersSo_33 : decode cX6_numbersSo 33 = .ok (.iconst (-1), 1) := by decide +kernel
theorem dX6_numbersSo_34 : decode cX6_numbersSo 34 = .ok (.if_icmp .ne 12, 3) := by decide +kernel
theorem dX6_numbersSo_37 : decode cX6_numbersSo 37 = .ok (.iload 4, 2) := by decide +kernel
theorem dX6_numbersSo_39 : decode cX6_numbersSo 39 = .ok (.iconst 1, 1) := by decide +kernel
theorem dX6_numbersSo_40 : decode cX6_numbersSo 40 = .ok (.iload 5, 2) := by decide +kernel
theorem dX6_numbersSo_42 : decode cX6_numbersSo 42 = .ok (.ishl, 1) := by decide +kernel
theorem dX6_numbersSo_43 : decode cX6_numbersSo 43 = .ok (.ior, 1) := by decide +kernel
theorem dX6_numbersSo_44 : decode cX6_numbersSo 44 = .ok (.istore 4, 2) := by decide +kernel
theorem dX6_numbersSo_46 : decode cX6_numbersSo 46 = .ok (.iinc 5 1, 3) := by decide +kernel
theorem dX6_numbersSo_49 : decode cX6_numbersSo 49 = .ok (.goto (-36), 3) := by decide +kernel
theorem dX6_numbersSo_52 : decode cX6_numbersSo 52 = .ok (.aload_n 0, 1) := by decide +kernel
theorem dX6_numbersSo_53 : decode cX6_numbersSo 53 = .ok (.getfield 16, 3) := by decide +kernel
theorem dX6_numbersSo_56 : decode cX6_numbersSo 56 = .ok (.iload_n 2, 1) := by decide +kernel
theorem dX6_numbersSo_57 : decode cX6_numbersSo 57 = .ok (.iload_n 3, 1) := by decide +kernel
theorem dX6_numbersSo_58 : decode cX6_numbersSo 58 = .ok (.iastore, 1) := by decide +kernel
theorem dX6_numbersSo_59 : decode cX6_numbersSo 59 = .ok (.iload 4, 2) := by decide +kernel
theorem dX6_numbersSo_61 : decode cX6_numbersSo 61 = .ok (.ireturn, 1) := by decide +kernel
theorem dX6_wornSo_0 : decode cX6_wornSo 0 = .ok (.aload_n 0, 1) := by decide +kernel
theorem dX6_wornSo_1 : decode cX6_wornSo 1 = .ok (.getfield 25, 3) := by decide +kernel
theorem dX6_wornSo_4 : decode cX6_wornSo 4 = .ok (.iload_n 2, 1) := by decide +kernel
theorem dX6_wornSo_5 : decode cX6_wornSo 5 = .ok (.iaload, 1) := by decide +kernel
theorem dX6_wornSo_6 : decode cX6_wornSo 6 = .ok (.istore 4, 2) := by decide +kernel
theorem dX6_wornSo_8 : decode cX6_wornSo 8 = .ok (.iconst 0, 1) := by decide +kernel
theorem dX6_wornSo_9 : decode cX6_wornSo 9 = .ok (.istore 5, 2) := by decide +kernel
theorem dX6_wornSo_11 : decode cX6_wornSo 11 = .ok (.iconst (-1), 1) := by decide +kernel
theorem dX6_wornSo_12 : decode cX6_wornSo 12 = .ok (.istore 6, 2) := by decide +kernel
theorem dX6_wornSo_14 : decode cX6_wornSo 14 = .ok (.bipush 99, 2) := by decide +kernel
theorem dX6_wornSo_16 : decode cX6_wornSo 16 = .ok (.istore 7, 2) := by decide +kernel
theorem dX6_wornSo_18 : decode cX6_wornSo 18 = .ok (.iload 7, 2) := by decide +kernel
theorem dX6_wornSo_20 : decode cX6_wornSo 20 = .ok (.ifCond .lt 36, 3) := by decide +kernel
theorem dX6_wornSo_23 : decode cX6_wornSo 23 = .ok (.aload_n 0, 1) := by decide +kernel
theorem dX6_wornSo_24 : decode cX6_wornSo 24 = .ok (.getfield 25, 3) := by decide +kernel
theorem dX6_wornSo_27 : decode cX6_wornSo 27 = .ok (.iload_n 2, 1) := by decide +kernel
theorem dX6_wornSo_28 : decode cX6_wornSo 28 = .ok (.iload 7, 2) := by decide +kernel
theorem dX6_wornSo_30 : decode cX6_wornSo 30 = .ok (.iastore, 1) := by decide +kernel
theorem dX6_wornSo_31 : decode cX6_wornSo 31 = .ok (.aload_n 0, 1) := by decide +kernel
theorem dX6_wornSo_32 : decode cX6_wornSo 32 = .ok (.iload_n 1, 1) := by decide +kernel
theorem dX6_wornSo_33 : decode cX6_wornSo 33 = .ok (.invokevirtual 289, 3) := by decide +kernel
theorem dX6_wornSo_36 : decode cX6_wornSo 36 = .ok (.iconst (-1), 1) := by decide +kernel
theorem dX6_wornSo_37 : decode cX6_wornSo 37 = .ok (.if_icmp .eq 6, 3) := by decide +kernel
theorem dX6_wornSo_40 : decode cX6_wornSo 40 = .ok (.goto 10, 3) := by decide +kernel
theorem dX6_wornSo_43 : decode cX6_wornSo 43 = .ok (.iinc 5 1, 3) := by decide +kernel
theorem dX6_wornSo_46 : decode cX6_wornSo 46 = .ok (.iload 7, 2) := by decide +kernel
theorem dX6_wornSo_48 : decode cX6_wornSo 48 = .ok (.istore 6, 2) := by decide +kernel
theorem dX6_wornSo_50 : decode cX6_wornSo 50 = .ok (.iinc 7 (-1), 3) := by decide +kernel
theorem dX6_wornSo_53 : decode cX6_wornSo 53 = .ok (.goto (-35), 3) := by decide +kernel
theorem dX6_wornSo_56 : decode cX6_wornSo 56 = .ok (.aload_n 0, 1) := by decide +kernel
theorem dX6_wornSo_57 : decode cX6_wornSo 57 = .ok (.getfield 25, 3) := by decide +kernel
theorem dX6_wornSo_60 : decode cX6_wornSo 60 = .ok (.iload_n 2, 1) := by decide +kernel
theorem dX6_wornSo_61 : decode cX6_wornSo 61 = .ok (.iload 4, 2) := by decide +kernel
theorem dX6_wornSo_63 : decode cX6_wornSo 63 = .ok (.iastore, 1) := by decide +kernel
theorem dX6_wornSo_64 : decode cX6_wornSo 64 = .ok (.iload_n 3, 1) := by decide +kernel
theorem dX6_wornSo_65 : decode cX6_wornSo 65 = .ok (.ifCond .ne 8, 3) := by decide +kernel
theorem dX6_wornSo_68 : decode cX6_wornSo 68 = .ok (.iload 5, 2) := by decide +kernel
theorem dX6_wornSo_70 : decode cX6_wornSo 70 = .ok (.goto 5, 3) := by decide +kernel
theorem dX6_wornSo_73 : decode cX6_wornSo 73 = .ok (.iload 6, 2) := by decide +kernel
theorem dX6_wornSo_75 : decode cX6_wornSo 75 = .ok (.ireturn, 1) := by decide +kernel
theorem dX6_firstsSo_0 : decode cX6_firstsSo 0 = .ok (.aload_n 0, 1) := by decide +kernel
theorem dX6_firstsSo_1 : decode cX6_firstsSo 1 = .ok (.getfield 19, 3) := by decide +kernel
theorem dX6_firstsSo_4 : decode cX6_firstsSo 4 = .ok (.iload_n 2, 1) := by decide +kernel
theorem dX6_firstsSo_5 : decode cX6_firstsSo 5 = .ok (.iaload, 1) := by decide +kernel
theorem dX6_firstsSo_6 : decode cX6_firstsSo 6 = .ok (.istore_n 3, 1) := by decide +kernel
theorem dX6_firstsSo_7 : decode cX6_firstsSo 7 = .ok (.aload_n 0, 1) := by decide +kernel
theorem dX6_firstsSo_8 : decode cX6_firstsSo 8 = .ok (.iload_n 2, 1) := by decide +kernel
theorem dX6_firstsSo_9 : decode cX6_firstsSo 9 = .ok (.invokevirtual 230, 3) := by decide +kernel
theorem dX6_firstsSo_12 : decode cX6_firstsSo 12 = .ok (.istore 4, 2) := by decide +kernel
theorem dX6_firstsSo_14 : decode cX6_firstsSo 14 = .ok (.iconst 0, 1) := by decide +kernel
theorem dX6_firstsSo_15 : decode cX6_firstsSo 15 = .ok (.istore 5, 2) := by decide +kernel
theorem dX6_firstsSo_17 : decode cX6_firstsSo 17 = .ok (.iconst 0, 1) := by decide +kernel
theorem dX6_firstsSo_18 : decode cX6_firstsSo 18 = .ok (.istore 6, 2) := by decide +kernel
theorem dX6_firstsSo_20 : decode cX6_firstsSo 20 = .ok (.iload 6, 2) := by decide +kernel
theorem dX6_firstsSo_22 : decode cX6_firstsSo 22 = .ok (.bipush 16, 2) := by decide +kernel
theorem dX6_firstsSo_24 : decode cX6_firstsSo 24 = .ok (.if_icmp .ge 36, 3) := by decide +kernel
theorem dX6_firstsSo_27 : decode cX6_firstsSo 27 = .ok (.aload_n 0, 1) := by decide +kernel
theorem dX6_firstsSo_28 : decode cX6_firstsSo 28 = .ok (.iload_n 2, 1) := by decide +kernel
theorem dX6_firstsSo_29 : decode cX6_firstsSo 29 = .ok (.iload 6, 2) := by decide +kernel
theorem dX6_firstsSo_31 : decode cX6_firstsSo 31 = .ok (.iload 4, 2) := by decide +kernel
theorem dX6_firstsSo_33 : decode cX6_firstsSo 33 = .ok (.invokevirtual 285, 3) := by decide +kernel
theorem dX6_firstsSo_36 : decode cX6_firstsSo 36 = .ok (.aload_n 0, 1) := by decide +kernel
theorem dX6_firstsSo_37 : decode cX6_firstsSo 37 = .ok (.iload_n 1, 1) := by decide +kernel
theorem dX6_firstsSo_38 : decode cX6_firstsSo 38 = .ok (.invokevirtual 289, 3) := by decide +kernel
theorem dX6_firstsSo_41 : decode cX6_firstsSo 41 = .ok (.iconst (-1), 1) := by decide +kernel
theorem dX6_firstsSo_42 : decode cX6_firstsSo 42 = .ok (.if_icmp .ne 12, 3) := by decide +kernel
theorem dX6_firstsSo_45 : decode cX6_firstsSo 45 = .ok (.iload 5, 2) := by decide +kernel
theorem dX6_firstsSo_47 : decode cX6_firstsSo 47 = .ok (.iconst 1, 1) := by decide +kernel
theorem dX6_firstsSo_48 : decode cX6_firstsSo 48 = .ok (.iload 6, 2) := by decide +kernel
theorem dX6_firstsSo_50 : decode cX6_firstsSo 50 = .ok (.ishl, 1) := by decide +kernel
theorem dX6_firstsSo_51 : decode cX6_firstsSo 51 = .ok (.ior, 1) := by decide +kernel
theorem dX6_firstsSo_52 : decode cX6_firstsSo 52 = .ok (.istore 5, 2) := by decide +kernel
theorem dX6_firstsSo_54 : decode cX6_firstsSo 54 = .ok (.iinc 6 1, 3) := by decide +kernel
theorem dX6_firstsSo_57 : decode cX6_firstsSo 57 = .ok (.goto (-37), 3) := by decide +kernel
theorem dX6_firstsSo_60 : decode cX6_firstsSo 60 = .ok (.aload_n 0, 1) := by decide +kernel
theorem dX6_firstsSo_61 : decode cX6_firstsSo 61 = .ok (.iload_n 2, 1) := by decide +kernel
theorem dX6_firstsSo_62 : decode cX6_firstsSo 62 = .ok (.iload_n 3, 1) := by decide +kernel
theorem dX6_firstsSo_63 : decode cX6_firstsSo 63 = .ok (.iload 4, 2) := by decide +kernel
theorem dX6_firstsSo_65 : decode cX6_firstsSo 65 = .ok (.invokevirtual 285, 3) := by decide +kernel
theorem dX6_firstsSo_68 : decode cX6_firstsSo 68 = .ok (.iload 5, 2) := by decide +kernel
theorem dX6_firstsSo_70 : decode cX6_firstsSo 70 = .ok (.ireturn, 1) := by decide +kernel
theorem dX6_tells_0 : decode cX6_tells 0 = .ok (.iload_n 1, 1) := by decide +kernel
theorem dX6_tells_1 : decode cX6_tells 1 = .ok (.invokestatic 292, 3) := by decide +kernel
theorem dX6_tells_4 : decode cX6_tells 4 = .ok (.ifCond .eq 34, 3) := by decide +kernel
theorem dX6_tells_7 : decode cX6_tells 7 = .ok (.iload_n 2, 1) := by decide +kernel
theorem dX6_tells_8 : decode cX6_tells 8 = .ok (.iconst 0, 1) := by decide +kernel
theorem dX6_tells_9 : decode cX6_tells 9 = .ok (.iconst 1, 1) := by decide +kernel
theorem dX6_tells_10 : decode cX6_tells 10 = .ok (.invokestatic 97, 3) := by decide +kernel
theorem dX6_tells_13 : decode cX6_tells 13 = .ok (.ifCond .ne 28, 3) := by decide +kernel
theorem dX6_tells_16 : decode cX6_tells 16 = .ok (.iload_n 2, 1) := by decide +kernel
theorem dX6_tells_17 : decode cX6_tells 17 = .ok (.bipush 10, 2) := by decide +kernel
theorem dX6_tells_19 : decode cX6_tells 19 = .ok (.bipush 59, 2) := by decide +kernel
theorem dX6_tells_21 : decode cX6_tells 21 = .ok (.invokestatic 97, 3) := by decide +kernel
theorem dX6_tells_24 : decode cX6_tells 24 = .ok (.ifCond .eq 14, 3) := by decide +kernel
theorem dX6_tells_27 : decode cX6_tells 27 = .ok (.aload_n 0, 1) := by decide +kernel
theorem dX6_tells_28 : decode cX6_tells 28 = .ok (.iload_n 2, 1) := by decide +kernel
theorem dX6_tells_29 : decode cX6_tells 29 = .ok (.bipush 10, 2) := by decide +kernel
theorem dX6_tells_31 : decode cX6_tells 31 = .ok (.irem, 1) := by decide +kernel
theorem dX6_tells_32 : decode cX6_tells 32 = .ok (.invokevirtual 105, 3) := by decide +kernel
theorem dX6_tells_35 : decode cX6_tells 35 = .ok (.ifCond .ne 6, 3) := by decide +kernel
theorem dX6_tells_38 : decode cX6_tells 38 = .ok (.bipush (-2), 2) := by decide +kernel
theorem dX6_tells_40 : decode cX6_tells 40 = .ok (.ireturn, 1) := by decide +kernel
theorem dX6_tells_41 : decode cX6_tells 41 = .ok (.aload_n 0, 1) := by decide +kernel
theorem dX6_tells_42 : decode cX6_tells 42 = .ok (.getfield 77, 3) := by decide +kernel
theorem dX6_tells_45 : decode cX6_tells 45 = .ok (.iload_n 1, 1) := by decide +kernel
theorem dX6_tells_46 : decode cX6_tells 46 = .ok (.iaload, 1) := by decide +kernel
theorem dX6_tells_47 : decode cX6_tells 47 = .ok (.ifCond .ge 6, 3) := by decide +kernel
theorem dX6_tells_50 : decode cX6_tells 50 = .ok (.bipush (-11), 2) := by decide +kernel
theorem dX6_tells_52 : decode cX6_tells 52 = .ok (.ireturn, 1) := by decide +kernel
theorem dX6_tells_53 : decode cX6_tells 53 = .ok (.iload_n 2, 1) := by decide +kernel
theorem dX6_tells_54 : decode cX6_tells 54 = .ok (.bipush 10, 2) := by decide +kernel
theorem dX6_tells_56 : decode cX6_tells 56 = .ok (.irem, 1) := by decide +kernel
theorem dX6_tells_57 : decode cX6_tells 57 = .ok (.istore_n 3, 1) := by decide +kernel
theorem dX6_tells_58 : decode cX6_tells 58 = .ok (.iload_n 2, 1) := by decide +kernel
theorem dX6_tells_59 : decode cX6_tells 59 = .ok (.bipush 10, 2) := by decide +kernel
theorem dX6_tells_61 : decode cX6_tells 61 = .ok (.idiv, 1) := by decide +kernel
theorem dX6_tells_62 : decode cX6_tells 62 = .ok (.tableswitch 82 0 4 #[34, 52, 59, 66, 74], 34) := by decide +kernel
theorem dX6_tells_96 : decode cX6_tells 96 = .ok (.iload_n 2, 1) := by decide +kernel
theorem dX6_tells_97 : decode cX6_tells 97 = .ok (.ifCond .ne 11, 3) := by decide +kernel
theorem dX6_tells_100 : decode cX6_tells 100 = .ok (.aload_n 0, 1) := by decide +kernel
theorem dX6_tells_101 : decode cX6_tells 101 = .ok (.iload_n 1, 1) := by decide +kernel
theorem dX6_tells_102 : decode cX6_tells 102 = .ok (.invokevirtual 289, 3) := by decide +kernel
theorem dX6_tells_105 : decode cX6_tells 105 = .ok (.goto 8, 3) := by decide +kernel
theorem dX6_tells_108 : decode cX6_tells 108 = .ok (.aload_n 0, 1) := by decide +kernel
theorem dX6_tells_109 : decode cX6_tells 109 = .ok (.iload_n 1, 1) := by decide +kernel
theorem dX6_tells_110 : decode cX6_tells 110 = .ok (.invokevirtual 295, 3) := by decide +kernel
theorem dX6_tells_113 : decode cX6_tells 113 = .ok (.ireturn, 1) := by decide +kernel
theorem dX6_tells_114 : decode cX6_tells 114 = .ok (.aload_n 0, 1) := by decide +kernel
theorem dX6_tells_115 : decode cX6_tells 115 = .ok (.iload_n 1, 1) := by decide +kernel
theorem dX6_tells_116 : decode cX6_tells 116 = .ok (.iload_n 3, 1) := by decide +kernel
theorem dX6_tells_117 : decode cX6_tells 117 = .ok (.invokevirtual 298, 3) := by decide +kernel
theorem dX6_tells_120 : decode cX6_tells 120 = .ok (.ireturn, 1) := by decide +kernel
theorem dX6_tells_121 : decode cX6_tells 121 = .ok (.aload_n 0, 1) := by decide +kernel
theorem dX6_tells_122 : decode cX6_tells 122 = .ok (.iload_n 1, 1) := by decide +kernel
theorem dX6_tells_123 : decode cX6_tells 123 = .ok (.iload_n 3, 1) := by decide +kernel
theorem dX6_tells_124 : decode cX6_tells 124 = .ok (.invokevirtual 301, 3) := by decide +kernel
theorem dX6_tells_127 : decode cX6_tells 127 = .ok (.ireturn, 1) := by decide +kernel
theorem dX6_tells_128 : decode cX6_tells 128 = .ok (.aload_n 0, 1) := by decide +kernel
theorem dX6_tells_129 : decode cX6_tells 129 = .ok (.iload_n 1, 1) := by decide +kernel
theorem dX6_tells_130 : decode cX6_tells 130 = .ok (.iload_n 3, 1) := by decide +kernel
theorem dX6_tells_131 : decode cX6_tells 131 = .ok (.iconst 0, 1) := by decide +kernel
theorem dX6_tells_132 : decode cX6_tells 132 = .ok (.invokevirtual 304, 3) := by decide +kernel
theorem dX6_tells_135 : decode cX6_tells 135 = .ok (.ireturn, 1) := by decide +kernel
theorem dX6_tells_136 : decode cX6_tells 136 = .ok (.aload_n 0, 1) := by decide +kernel
theorem dX6_tells_137 : decode cX6_tells 137 = .ok (.iload_n 1, 1) := by decide +kernel
theorem dX6_tells_138 : decode cX6_tells 138 = .ok (.iload_n 3, 1) := by decide +kernel
theorem dX6_tells_139 : decode cX6_tells 139 = .ok (.iconst 1, 1) := by decide +kernel
theorem dX6_tells_140 : decode cX6_tells 140 = .ok (.invokevirtual 304, 3) := by decide +kernel
theorem dX6_tells_143 : decode cX6_tells 143 = .ok (.ireturn, 1) := by decide +kernel
theorem dX6_tells_144 : decode cX6_tells 144 = .ok (.aload_n 0, 1) := by decide +kernel
theorem dX6_tells_145 : decode cX6_tells 145 = .ok (.iload_n 1, 1) := by decide +kernel
theorem dX6_tells_146 : decode cX6_tells 146 = .ok (.iload_n 3, 1) := by decide +kernel
theorem dX6_tells_147 : decode cX6_tells 147 = .ok (.invokevirtual 307, 3) := by decide +kernel
theorem dX6_tells_150 : decode cX6_tells 150 = .ok (.ireturn, 1) := by decide +kernel
theorem dX6_film_0 : decode cX6_film 0 = .ok (.iload_n 1, 1) := by decide +kernel
theorem dX6_film_1 : decode cX6_film 1 = .ok (.invokestatic 292, 3) := by decide +kernel
theorem dX6_film_4 : decode cX6_film 4 = .ok (.ifCond .eq 13, 3) := by decide +kernel
theorem dX6_film_7 : decode cX6_film 7 = .ok (.iload_n 2, 1) := by decide +kernel
theorem dX6_film_8 : decode cX6_film 8 = .ok (.iconst 0, 1) := by decide +kernel
theorem dX6_film_9 : decode cX6_film 9 = .ok (.bipush 40, 2) := by decide +kernel
theorem dX6_film_11 : decode cX6_film 11 = .ok (.invokestatic 97, 3) := by decide +kernel
theorem dX6_film_14 : decode cX6_film 14 = .ok (.ifCond .ne 6, 3) := by decide +kernel
theorem dX6_film_17 : decode cX6_film 17 = .ok (.bipush (-2), 2) := by decide +kernel
theorem dX6_film_19 : decode cX6_film 19 = .ok (.ireturn, 1) := by decide +kernel
theorem dX6_film_20 : decode cX6_film 20 = .ok (.aload_n 0, 1) := by decide +kernel
theorem dX6_film_21 : decode cX6_film 21 = .ok (.iload_n 1, 1) := by decide +kernel
theorem dX6_film_22 : decode cX6_film 22 = .ok (.iconst 2, 1) := by decide +kernel
theorem dX6_film_23 : decode cX6_film 23 = .ok (.iload_n 2, 1) := by decide +kernel
theorem dX6_film_24 : decode cX6_film 24 = .ok (.invokevirtual 310, 3) := by decide +kernel
theorem dX6_film_27 : decode cX6_film 27 = .ok (.pop, 1) := by decide +kernel
theorem dX6_film_28 : decode cX6_film 28 = .ok (.aload_n 0, 1) := by decide +kernel
theorem dX6_film_29 : decode cX6_film 29 = .ok (.invokevirtual 272, 3) := by decide +kernel
theorem dX6_film_32 : decode cX6_film 32 = .ok (.iconst 0, 1) := by decide +kernel
theorem dX6_film_33 : decode cX6_film 33 = .ok (.istore_n 3, 1) := by decide +kernel
theorem dX6_film_34 : decode cX6_film 34 = .ok (.iload_n 3, 1) := by decide +kernel
theorem dX6_film_35 : decode cX6_film 35 = .ok (.iload_n 2, 1) := by decide +kernel
theorem dX6_film_36 : decode cX6_film 36 = .ok (.if_icmp .ge 33, 3) := by decide +kernel
theorem dX6_film_39 : decode cX6_film 39 = .ok (.iload_n 3, 1) := by decide +kernel
theorem dX6_film_40 : decode cX6_film 40 = .ok (.ifCond .le 8, 3) := by decide +kernel
theorem dX6_film_43 : decode cX6_film 43 = .ok (.aload_n 0, 1) := by decide +kernel
theorem dX6_film_44 : decode cX6_film 44 = .ok (.invokevirtual 266, 3) := by decide +kernel
theorem dX6_film_47 : decode cX6_film 47 = .ok (.pop, 1) := by decide +kernel
theorem dX6_film_48 : decode cX6_film 48 = .ok (.aload_n 0, 1) := by decide +kernel
theorem dX6_film_49 : decode cX6_film 49 = .ok (.getfield 83, 3) := by decide +kernel
theorem dX6_film_52 : decode cX6_film 52 = .ok (.bipush 40, 2) := by decide +kernel
theorem dX6_film_54 : decode cX6_film 54 = .ok (.iload_n 1, 1) := by decide +kernel
theorem dX6_film_55 : decode cX6_film 55 = .ok (.imul, 1) := by decide +kernel
theorem dX6_film_56 : decode cX6_film 56 = .ok (.iload_n 3, 1) := by decide +kernel
theorem dX6_film_57 : decode cX6_film 57 = .ok (.iadd, 1) := by decide +kernel
theorem dX6_film_58 : decode cX6_film 58 = .ok (.aload_n 0, 1) := by decide +kernel
theorem dX6_film_59 : decode cX6_film 59 = .ok (.invokevirtual 256, 3) := by decide +kernel
theorem dX6_film_62 : decode cX6_film 62 = .ok (.iastore, 1) := by decide +kernel
theorem dX6_film_63 : decode cX6_film 63 = .ok (.iinc 3 1, 3) := by decide +kernel
theorem dX6_film_66 : decode cX6_film 66 = .ok (.goto (-32), 3) := by decide +kernel
theorem dX6_film_69 : decode cX6_film 69 = .ok (.aload_n 0, 1) := by decide +kernel
theorem dX6_film_70 : decode cX6_film 70 = .ok (.invokevirtual 282, 3) := by decide +kernel
theorem dX6_film_73 : decode cX6_film 73 = .ok (.iload_n 2, 1) := by decide +kernel
theorem dX6_film_74 : decode cX6_film 74 = .ok (.ireturn, 1) := by decide +kernel
theorem dX6_byLot_0 : decode cX6_byLot 0 = .ok (.iload_n 1, 1) := by decide +kernel
theorem dX6_byLot_1 : decode cX6_byLot 1 = .ok (.istore_n 3, 1) := by decide +kernel
theorem dX6_byLot_2 : decode cX6_byLot 2 = .ok (.iconst 0, 1) := by decide +kernel
theorem dX6_byLot_3 : decode cX6_byLot 3 = .ok (.istore 4, 2) := by decide +kernel
theorem dX6_byLot_5 : decode cX6_byLot 5 = .ok (.iconst 0, 1) := by decide +kernel
theorem dX6_byLot_6 : decode cX6_byLot 6 = .ok (.istore 5, 2) := by decide +kernel
theorem dX6_byLot_8 : decode cX6_byLot 8 = .ok (.iload 5, 2) := by decide +kernel
theorem dX6_byLot_10 : decode cX6_byLot 10 = .ok (.bipush 16, 2) := by decide +kernel
theorem dX6_byLot_12 : decode cX6_byLot 12 = .ok (.if_icmp .ge 62, 3) := by decide +kernel
theorem dX6_byLot_15 : decode cX6_byLot 15 = .ok (.aload_n 0, 1) := by decide +kernel
theorem dX6_byLot_16 : decode cX6_byLot 16 = .ok (.getfield 68, 3) := by decide +kernel
theorem dX6_byLot_19 : decode cX6_byLot 19 = .ok (.iload 5, 2) := by decide +kernel
theorem dX6_byLot_21 : decode cX6_byLot 21 = .ok (.aload_n 0, 1) := by decide +kernel
theorem dX6_byLot_22 : decode cX6_byLot 22 = .ok (.getfield 7, 3) := by decide +kernel
theorem dX6_byLot_25 : decode cX6_byLot 25 = .ok (.iload 5, 2) := by decide +kernel
theorem dX6_byLot_27 : decode cX6_byLot 27 = .ok (.iaload, 1) := by decide +kernel
theorem dX6_byLot_28 : decode cX6_byLot 28 = .ok (.iastore, 1) := by decide +kernel
theorem dX6_byLot_29 : decode cX6_byLot 29 = .ok (.iload_n 3, 1) := by decide +kernel
theorem dX6_byLot_30 : decode cX6_byLot 30 = .ok (.ldc_w 313, 3) := by decide +kernel
theorem dX6_byLot_33 : decode cX6_byLot 33 = .ok (.imul, 1) := by decide +kernel
theorem dX6_byLot_34 : decode cX6_byLot 34 = .ok (.sipush 12345, 3) := by decide +kernel
theorem dX6_byLot_37 : decode cX6_byLot 37 = .ok (.iadd, 1) := by decide +kernel
theorem dX6_byLot_38 : decode cX6_byLot 38 = .ok (.istore_n 3, 1) := by decide +kernel
theorem dX6_byLot_39 : decode cX6_byLot 39 = .ok (.aload_n 0, 1) := by decide +kernel
theorem dX6_byLot_40 : decode cX6_byLot 40 = .ok (.getfield 7, 3) := by decide +kernel
theorem dX6_byLot_43 : decode cX6_byLot 43 = .ok (.iload 5, 2) := by decide +kernel
theorem dX6_byLot_45 : decode cX6_byLot 45 = .ok (.iload_n 3, 1) := by decide +kernel
theorem dX6_byLot_46 : decode cX6_byLot 46 = .ok (.bipush 9, 2) := by decide +kernel
theorem dX6_byLot_48 : decode cX6_byLot 48 = .ok (.iushr, 1) := by decide +kernel
theorem dX6_byLot_49 : decode cX6_byLot 49 = .ok (.bipush 41, 2) := by decide +kernel
theorem dX6_byLot_51 : decode cX6_byLot 51 = .ok (.irem, 1) := by decide +kernel
theorem dX6_byLot_52 : decode cX6_byLot 52 = .ok (.bipush 20, 2) := by decide +kernel
theorem dX6_byLot_54 : decode cX6_byLot 54 = .ok (.isub, 1) := by decide +kernel
theorem dX6_byLot_55 : decode cX6_byLot 55 = .ok (.iastore, 1) := by decide +kernel
theorem dX6_byLot_56 : decode cX6_byLot 56 = .ok (.iload 4, 2) := by decide +kernel
theorem dX6_byLot_58 : decode cX6_byLot 58 = .ok (.aload_n 0, 1) := by decide +kernel
theorem dX6_byLot_59 : decode cX6_byLot 59 = .ok (.getfield 7, 3) := by decide +kernel
theorem dX6_byLot_62 : decode cX6_byLot 62 = .ok (.iload 5, 2) := by decide +kernel
theorem dX6_byLot_64 : decode cX6_byLot 64 = .ok (.iaload, 1) := by decide +kernel
theorem dX6_byLot_65 : decode cX6_byLot 65 = .ok (.iadd, 1) := by decide +kernel
theorem dX6_byLot_66 : decode cX6_byLot 66 = .ok (.istore 4, 2) := by decide +kernel
theorem dX6_byLot_68 : decode cX6_byLot 68 = .ok (.iinc 5 1, 3) := by decide +kernel
theorem dX6_byLot_71 : decode cX6_byLot 71 = .ok (.goto (-63), 3) := by decide +kernel
theorem dX6_byLot_74 : decode cX6_byLot 74 = .ok (.aload_n 0, 1) := by decide +kernel
theorem dX6_byLot_75 : decode cX6_byLot 75 = .ok (.invokevirtual 256, 3) := by decide +kernel
theorem dX6_byLot_78 : decode cX6_byLot 78 = .ok (.istore 5, 2) := by decide +kernel
theorem dX6_byLot_80 : decode cX6_byLot 80 = .ok (.iconst 0, 1) := by decide +kernel
theorem dX6_byLot_81 : decode cX6_byLot 81 = .ok (.istore 6, 2) := by decide +kernel
theorem dX6_byLot_83 : decode cX6_byLot 83 = .ok (.iload 6, 2) := by decide +kernel
theorem dX6_byLot_85 : decode cX6_byLot 85 = .ok (.bipush 16, 2) := by decide +kernel
theorem dX6_byLot_87 : decode cX6_byLot 87 = .ok (.if_icmp .ge 23, 3) := by decide +kernel
theorem dX6_byLot_90 : decode cX6_byLot 90 = .ok (.aload_n 0, 1) := by decide +kernel
theorem dX6_byLot_91 : decode cX6_byLot 91 = .ok (.getfield 7, 3) := by decide +kernel
theorem dX6_byLot_94 : decode cX6_byLot 94 = .ok (.iload 6, 2) := by decide +kernel
theorem dX6_byLot_96 : decode cX6_byLot 96 = .ok (.aload_n 0, 1) := by decide +kernel
theorem dX6_byLot_97 : decode cX6_byLot 97 = .ok (.getfield 68, 3) := by decide +kernel
theorem dX6_byLot_100 : decode cX6_byLot 100 = .ok (.iload 6, 2) := by decide +kernel
theorem dX6_byLot_102 : decode cX6_byLot 102 = .ok (.iaload, 1) := by decide +kernel
theorem dX6_byLot_103 : decode cX6_byLot 103 = .ok (.iastore, 1) := by decide +kernel
theorem dX6_byLot_104 : decode cX6_byLot 104 = .ok (.iinc 6 1, 3) := by decide +kernel
theorem dX6_byLot_107 : decode cX6_byLot 107 = .ok (.goto (-24), 3) := by decide +kernel
theorem dX6_byLot_110 : decode cX6_byLot 110 = .ok (.iload_n 2, 1) := by decide +kernel
theorem dX6_byLot_111 : decode cX6_byLot 111 = .ok (.ifCond .ne 8, 3) := by decide +kernel
theorem dX6_byLot_114 : decode cX6_byLot 114 = .ok (.iload 5, 2) := by decide +kernel
theorem dX6_byLot_116 : decode cX6_byLot 116 = .ok (.goto 8, 3) := by decide +kernel
theorem dX6_byLot_119 : decode cX6_byLot 119 = .ok (.iload 5, 2) := by decide +kernel
theorem dX6_byLot_121 : decode cX6_byLot 121 = .ok (.iload 4, 2) := by decide +kernel
theorem dX6_byLot_123 : decode cX6_byLot 123 = .ok (.isub, 1) := by decide +kernel
theorem dX6_byLot_124 : decode cX6_byLot 124 = .ok (.ireturn, 1) := by decide +kernel
theorem dX6_drawn_0 : decode cX6_drawn 0 = .ok (.aload_n 0, 1) := by decide +kernel
theorem dX6_drawn_1 : decode cX6_drawn 1 = .ok (.iload_n 1, 1) := by decide +kernel
theorem dX6_drawn_2 : decode cX6_drawn 2 = .ok (.iconst 0, 1) := by decide +kernel
theorem dX6_drawn_3 : decode cX6_drawn 3 = .ok (.invokevirtual 314, 3) := by decide +kernel
theorem dX6_drawn_6 : decode cX6_drawn 6 = .ok (.ireturn, 1) := by decide +kernel
theorem dX6_chance_0 : decode cX6_chance 0 = .ok (.iload_n 2, 1) := by decide +kernel
theorem dX6_chance_1 : decode cX6_chance 1 = .ok (.iconst 1, 1) := by decide +kernel
theorem dX6_chance_2 : decode cX6_chance 2 = .ok (.bipush 20, 2) := by decide +kernel
theorem dX6_chance_4 : decode cX6_chance 4 = .ok (.invokestatic 97, 3) := by decide +kernel
theorem dX6_chance_7 : decode cX6_chance 7 = .ok (.ifCond .eq 12, 3) := by decide +kernel
theorem dX6_chance_10 : decode cX6_chance 10 = .ok (.iload_n 3, 1) := by decide +kernel
theorem dX6_chance_11 : decode cX6_chance 11 = .ok (.iconst 0, 1) := by decide +kernel
theorem dX6_chance_12 : decode cX6_chance 12 = .ok (.iconst 1, 1) := by decide +kernel
theorem dX6_chance_13 : decode cX6_chance 13 = .ok (.invokestatic 97, 3) := by decide +kernel
theorem dX6_chance_16 : decode cX6_chance 16 = .ok (.ifCond .ne 7, 3) := by decide +kernel
theorem dX6_chance_19 : decode cX6_chance 19 = .ok (.ldc2_w 317, 3) := by decide +kernel
theorem dX6_chance_22 : decode cX6_chance 22 = .ok (.lreturn, 1) := by decide +kernel
theorem dX6_chance_23 : decode cX6_chance 23 = .ok (.iconst 0, 1) := by decide +kernel
theorem dX6_chance_24 : decode cX6_chance 24 = .ok (.istore 4, 2) := by decide +kernel
theorem dX6_chance_26 : decode cX6_chance 26 = .ok (.iconst 0, 1) := by decide +kernel
theorem dX6_chance_27 : decode cX6_chance 27 = .ok (.istore 5, 2) := by decide +kernel
theorem dX6_chance_29 : decode cX6_chance 29 = .ok (.iload 5, 2) := by decide +kernel
theorem dX6_chance_31 : decode cX6_chance 31 = .ok (.iload_n 2, 1) := by decide +kernel
theorem dX6_chance_32 : decode cX6_chance 32 = .ok (.if_icmp .ge 24, 3) := by decide +kernel
theorem dX6_chance_35 : decode cX6_chance 35 = .ok (.aload_n 0, 1) := by decide +kernel
theorem dX6_chance_36 : decode cX6_chance 36 = .ok (.iload_n 1, 1) := by decide +kernel
theorem dX6_chance_37 : decode cX6_chance 37 = .ok (.iload 5, 2) := by decide +kernel
theorem dX6_chance_39 : decode cX6_chance 39 = .ok (.iadd, 1) := by decide +kernel
theorem dX6_chance_40 : decode cX6_chance 40 = .ok (.iconst 1, 1) := by decide +kernel
theorem dX6_chance_41 : decode cX6_chance 41 = .ok (.invokevirtual 314, 3) := by decide +kernel
theorem dX6_chance_44 : decode cX6_chance 44 = .ok (.ifCond .le 6, 3) := by decide +kernel
theorem dX6_chance_47 : decode cX6_chance 47 = .ok (.iinc 4 1, 3) := by decide +kernel
theorem dX6_chance_50 : decode cX6_chance 50 = .ok (.iinc 5 1, 3) := by decide +kernel
theorem dX6_chance_53 : decode cX6_chance 53 = .ok (.goto (-24), 3) := by decide +kernel
theorem dX6_chance_56 : decode cX6_chance 56 = .ok (.iload 4, 2) := by decide +kernel
theorem dX6_chance_58 : decode cX6_chance 58 = .ok (.istore 5, 2) := by decide +kernel
theorem dX6_chance_60 : decode cX6_chance 60 = .ok (.iload_n 2, 1) := by decide +kernel
theorem dX6_chance_61 : decode cX6_chance 61 = .ok (.istore 6, 2) := by decide +kernel
theorem dX6_chance_63 : decode cX6_chance 63 = .ok (.iload 6, 2) := by decide +kernel
theorem dX6_chance_65 : decode cX6_chance 65 = .ok (.ifCond .eq 21, 3) := by decide +kernel
theorem dX6_chance_68 : decode cX6_chance 68 = .ok (.iload 5, 2) := by decide +kernel
theorem dX6_chance_70 : decode cX6_chance 70 = .ok (.iload 6, 2) := by decide +kernel
theorem dX6_chance_72 : decode cX6_chance 72 = .ok (.irem, 1) := by decide +kernel
theorem dX6_chance_73 : decode cX6_chance 73 = .ok (.istore 7, 2) := by decide +kernel
theorem dX6_chance_75 : decode cX6_chance 75 = .ok (.iload 6, 2) := by decide +kernel
theorem dX6_chance_77 : decode cX6_chance 77 = .ok (.istore 5, 2) := by decide +kernel
theorem dX6_chance_79 : decode cX6_chance 79 = .ok (.iload 7, 2) := by decide +kernel
theorem dX6_chance_81 : decode cX6_chance 81 = .ok (.istore 6, 2) := by decide +kernel
theorem dX6_chance_83 : decode cX6_chance 83 = .ok (.goto (-20), 3) := by decide +kernel
theorem dX6_chance_86 : decode cX6_chance 86 = .ok (.iload_n 3, 1) := by decide +kernel
theorem dX6_chance_87 : decode cX6_chance 87 = .ok (.ifCond .ne 12, 3) := by decide +kernel
theorem dX6_chance_90 : decode cX6_chance 90 = .ok (.iload 4, 2) := by decide +kernel
theorem dX6_chance_92 : decode cX6_chance 92 = .ok (.iload 5, 2) := by decide +kernel
theorem dX6_chance_94 : decode cX6_chance 94 = .ok (.idiv, 1) := by decide +kernel
theorem dX6_chance_95 : decode cX6_chance 95 = .ok (.i2l, 1) := by decide +kernel
theorem dX6_chance_96 : decode cX6_chance 96 = .ok (.goto 8, 3) := by decide +kernel
theorem dX6_chance_99 : decode cX6_chance 99 = .ok (.iload_n 2, 1) := by decide +kernel
theorem dX6_chance_100 : decode cX6_chance 100 = .ok (.iload 5, 2) := by decide +kernel
theorem dX6_chance_102 : decode cX6_chance 102 = .ok (.idiv, 1) := by decide +kernel
theorem dX6_chance_103 : decode cX6_chance 103 = .ok (.i2l, 1) := by decide +kernel
theorem dX6_chance_104 : decode cX6_chance 104 = .ok (.lreturn, 1) := by decide +kernel
theorem dX6_image_0 : decode cX6_image 0 = .ok (.aload_n 0, 1) := by decide +kernel
theorem dX6_image_1 : decode cX6_image 1 = .ok (.iconst 1, 1) := by decide +kernel
theorem dX6_image_2 : decode cX6_image 2 = .ok (.putfield 319, 3) := by decide +kernel
theorem dX6_image_5 : decode cX6_image 5 = .ok (.aload_n 0, 1) := by decide +kernel
theorem dX6_image_6 : decode cX6_image 6 = .ok (.aload_n 0, 1) := by decide +kernel
theorem dX6_image_7 : decode cX6_image 7 = .ok (.getfield 94, 3) := by decide +kernel
theorem dX6_image_10 : decode cX6_image 10 = .ok (.putfield 322, 3) := by decide +kernel
theorem dX6_image_13 : decode cX6_image 13 = .ok (.aload_n 0, 1) := by decide +kernel
theorem dX6_image_14 : decode cX6_image 14 = .ok (.aload_n 0, 1) := by decide +kernel
theorem dX6_image_15 : decode cX6_image 15 = .ok (.getfield 108, 3) := by decide +kernel
theorem dX6_image_18 : decode cX6_image 18 = .ok (.putfield 325, 3) := by decide +kernel
theorem dX6_image_21 : decode cX6_image 21 = .ok (.aload_n 0, 1) := by decide +kernel
theorem dX6_image_22 : decode cX6_image 22 = .ok (.aload_n 0, 1) := by decide +kernel
theorem dX6_image_23 : decode cX6_image 23 = .ok (.getfield 227, 3) := by decide +kernel
theorem dX6_image_26 : decode cX6_image 26 = .ok (.putfield 328, 3) := by decide +kernel
theorem dX6_image_29 : decode cX6_image 29 = .ok (.iconst 0, 1) := by decide +kernel
theorem dX6_image_30 : decode cX6_image 30 = .ok (.istore_n 1, 1) := by decide +kernel
theorem dX6_image_31 : decode cX6_image 31 = .ok (.iload_n 1, 1) := by decide +kernel
theorem dX6_image_32 : decode cX6_image 32 = .ok (.bipush 16, 2) := by decide +kernel
theorem dX6_image_34 : decode cX6_image 34 = .ok (.if_icmp .ge 21, 3) := by decide +kernel
theorem dX6_image_37 : decode cX6_image 37 = .ok (.aload_n 0, 1) := by decide +kernel
theorem dX6_image_38 : decode cX6_image 38 = .ok (.getfield 71, 3) := by decide +kernel
theorem dX6_image_41 : decode cX6_image 41 = .ok (.iload_n 1, 1) := by decide +kernel
theorem dX6_image_42 : decode cX6_image 42 = .ok (.aload_n 0, 1) := by decide +kernel
theorem dX6_image_43 : decode cX6_image 43 = .ok (.getfield 7, 3) := by decide +kernel
theorem dX6_image_46 : decode cX6_image 46 = .ok (.iload_n 1, 1) := by decide +kernel
theorem dX6_image_47 : decode cX6_image 47 = .ok (.iaload, 1) := by decide +kernel
theorem dX6_image_48 : decode cX6_image 48 = .ok (.iastore, 1) := by decide +kernel
theorem dX6_image_49 : decode cX6_image 49 = .ok (.iinc 1 1, 3) := by decide +kernel
theorem dX6_image_52 : decode cX6_image 52 = .ok (.goto (-21), 3) := by decide +kernel
theorem dX6_image_55 : decode cX6_image 55 = .ok (.iconst 0, 1) := by decide +kernel
theorem dX6_image_56 : decode cX6_image 56 = .ok (.istore_n 1, 1) := by decide +kernel
theorem dX6_image_57 : decode cX6_image 57 = .ok (.iload_n 1, 1) := by decide +kernel
theorem dX6_image_58 : decode cX6_image 58 = .ok (.bipush 6, 2) := by decide +kernel
theorem dX6_image_60 : decode cX6_image 60 = .ok (.if_icmp .ge 89, 3) := by decide +kernel
theorem dX6_image_63 : decode cX6_image 63 = .ok (.aload_n 0, 1) := by decide +kernel
theorem dX6_image_64 : decode cX6_image 64 = .ok (.getfield 74, 3) := by decide +kernel
theorem dX6_image_67 : decode cX6_image 67 = .ok (.iload_n 1, 1) := by decide +kernel
theorem dX6_image_68 : decode cX6_image 68 = .ok (.aload_n 0, 1) := by decide +kernel
theorem dX6_image_69 : decode cX6_image 69 = .ok (.getfield 16, 3) := by decide +kernel
theorem dX6_image_72 : decode cX6_image 72 = .ok (.iload_n 1, 1) := by decide +kernel
theorem dX6_image_73 : decode cX6_image 73 = .ok (.iaload, 1) := by decide +kernel
theorem dX6_image_74 : decode cX6_image 74 = .ok (.iastore, 1) := by decide +kernel
theorem dX6_image_75 : decode cX6_image 75 = .ok (.aload_n 0, 1) := by decide +kernel
theorem dX6_image_76 : decode cX6_image 76 = .ok (.getfield 74, 3) := by decide +kernel
theorem dX6_image_79 : decode cX6_image 79 = .ok (.bipush 6, 2) := by decide +kernel
theorem dX6_image_81 : decode cX6_image 81 = .ok (.iload_n 1, 1) := by decide +kernel
theorem dX6_image_82 : decode cX6_image 82 = .ok (.iadd, 1) := by decide +kernel
theorem dX6_image_83 : decode cX6_image 83 = .ok (.aload_n 0, 1) := by decide +kernel
theorem dX6_image_84 : decode cX6_image 84 = .ok (.getfield 19, 3) := by decide +kernel
theorem dX6_image_87 : decode cX6_image 87 = .ok (.iload_n 1, 1) := by decide +kernel
theorem dX6_image_88 : decode cX6_image 88 = .ok (.iaload, 1) := by decide +kernel
theorem dX6_image_89 : decode cX6_image 89 = .ok (.iastore, 1) := by decide +kernel
theorem dX6_image_90 : decode cX6_image 90 = .ok (.aload_n 0, 1) := by decide +kernel
theorem dX6_image_91 : decode cX6_image 91 = .ok (.getfield 74, 3) := by decide +kernel
theorem dX6_image_94 : decode cX6_image 94 = .ok (.bipush 12, 2) := by decide +kernel
theorem dX6_image_96 : decode cX6_image 96 = .ok (.iload_n 1, 1) := by decide +kernel
theorem dX6_image_97 : decode cX6_image 97 = .ok (.iadd, 1) := by decide +kernel
theorem dX6_image_98 : decode cX6_image 98 = .ok (.aload_n 0, 1) := by decide +kernel
theorem dX6_image_99 : decode cX6_image 99 = .ok (.getfield 22, 3) := by decide +kernel
theorem dX6_image_102 : decode cX6_image 102 = .ok (.iload_n 1, 1) := by decide +kernel
theorem dX6_image_103 : decode cX6_image 103 = .ok (.iaload, 1) := by decide +kernel
theorem dX6_image_104 : decode cX6_image 104 = .ok (.iastore, 1) := by decide +kernel
theorem dX6_image_105 : decode cX6_image 105 = .ok (.aload_n 0, 1) := by decide +kernel
theorem dX6_image_106 : decode cX6_image 106 = .ok (.getfield 74, 3) := by decide +kernel
theorem dX6_image_109 : decode cX6_image 109 = .ok (.bipush 18, 2) := by decide +kernel
theorem dX6_image_111 : decode cX6_image 111 = .ok (.iload_n 1, 1) := by decide +kernel
theorem dX6_image_112 : decode cX6_image 112 = .ok (.iadd, 1) := by decide +kernel
theorem dX6_image_113 : decode cX6_image 113 = .ok (.aload_n 0, 1) := by decide +kernel
theorem dX6_image_114 : decode cX6_image 114 = .ok (.getfield 25, 3) := by decide +kernel
theorem dX6_image_117 : decode cX6_image 117 = .ok (.iload_n 1, 1) := by decide +kernel
theorem dX6_image_118 : decode cX6_image 118 = .ok (.iaload, 1) := by decide +kernel
theorem dX6_image_119 : decode cX6_image 119 = .ok (.iastore, 1) := by decide +kernel
theorem dX6_image_120 : decode cX6_image 120 = .ok (.aload_n 0, 1) := by decide +kernel
theorem dX6_image_121 : decode cX6_image 121 = .ok (.getfield 74, 3) := by decide +kernel
theorem dX6_image_124 : decode cX6_image 124 = .ok (.bipush 24, 2) := by decide +kernel
theorem dX6_image_126 : decode cX6_image 126 = .ok (.iload_n 1, 1) := by decide +kernel
theorem dX6_image_127 : decode cX6_image 127 = .ok (.iadd, 1) := by decide +kernel
theorem dX6_image_128 : decode cX6_image 128 = .ok (.aload_n 0, 1) := by decide +kernel
theorem dX6_image_129 : decode cX6_image 129 = .ok (.getfield 28, 3) := by decide +kernel
theorem dX6_image_132 : decode cX6_image 132 = .ok (.iload_n 1, 1) := by decide +kernel
theorem dX6_image_133 : decode cX6_image 133 = .ok (.baload, 1) := by decide +kernel
theorem dX6_image_134 : decode cX6_image 134 = .ok (.ifCond .eq 7, 3) := by decide +kernel
theorem dX6_image_137 : decode cX6_image 137 = .ok (.iconst 1, 1) := by decide +kernel
theorem dX6_image_138 : decode cX6_image 138 = .ok (.goto 4, 3) := by decide +kernel
theorem dX6_image_141 : decode cX6_image 141 = .ok (.iconst 0, 1) := by decide +kernel
theorem dX6_image_142 : decode cX6_image 142 = .ok (.iastore, 1) := by decide +kernel
theorem dX6_image_143 : decode cX6_image 143 = .ok (.iinc 1 1, 3) := by decide +kernel
theorem dX6_image_146 : decode cX6_image 146 = .ok (.goto (-89), 3) := by decide +kernel
theorem dX6_image_149 : decode cX6_image 149 = .ok (.aload_n 0, 1) := by decide +kernel
theorem dX6_image_150 : decode cX6_image 150 = .ok (.getfield 94, 3) := by decide +kernel
theorem dX6_image_153 : decode cX6_image 153 = .ok (.ireturn, 1) := by decide +kernel
theorem dX6_back_0 : decode cX6_back 0 = .ok (.aload_n 0, 1) := by decide +kernel
theorem dX6_back_1 : decode cX6_back 1 = .ok (.getfield 319, 3) := by decide +kernel
theorem dX6_back_4 : decode cX6_back 4 = .ok (.ifCond .ne 6, 3) := by decide +kernel
theorem dX6_back_7 : decode cX6_back 7 = .ok (.bipush (-3), 2) := by decide +kernel
theorem dX6_back_9 : decode cX6_back 9 = .ok (.ireturn, 1) := by decide +kernel
theorem dX6_back_10 : decode cX6_back 10 = .ok (.aload_n 0, 1) := by decide +kernel
theorem dX6_back_11 : decode cX6_back 11 = .ok (.aload_n 0, 1) := by decide +kernel
theorem dX6_back_12 : decode cX6_back 12 = .ok (.getfield 322, 3) := by decide +kernel
theorem dX6_back_15 : decode cX6_back 15 = .ok (.putfield 94, 3) := by decide +kernel
theorem dX6_back_18 : decode cX6_back 18 = .ok (.aload_n 0, 1) := by decide +kernel
theorem dX6_back_19 : decode cX6_back 19 = .ok (.aload_n 0, 1) := by decide +kernel
theorem dX6_back_20 : decode cX6_back 20 = .ok (.getfield 325, 3) := by decide +kernel
theorem dX6_back_23 : decode cX6_back 23 = .ok (.putfield 108, 3) := by decide +kernel
theorem dX6_back_26 : decode cX6_back 26 = .ok (.aload_n 0, 1) := by decide +kernel
theorem dX6_back_27 : decode cX6_back 27 = .ok (.aload_n 0, 1) := by decide +kernel
theorem dX6_back_28 : decode cX6_back 28 = .ok (.getfield 328, 3) := by decide +kernel
theorem dX6_back_31 : decode cX6_back 31 = .ok (.putfield 227, 3) := by decide +kernel
theorem dX6_back_34 : decode cX6_back 34 = .ok (.iconst 0, 1) := by decide +kernel
theorem dX6_back_35 : decode cX6_back 35 = .ok (.istore_n 1, 1) := by decide +kernel
theorem dX6_back_36 : decode cX6_back 36 = .ok (.iload_n 1, 1) := by decide +kernel
theorem dX6_back_37 : decode cX6_back 37 = .ok (.bipush 16, 2) := by decide +kernel
theorem dX6_back_39 : decode cX6_back 39 = .ok (.if_icmp .ge 21, 3) := by decide +kernel
theorem dX6_back_42 : decode cX6_back 42 = .ok (.aload_n 0, 1) := by decide +kernel
theorem dX6_back_43 : decode cX6_back 43 = .ok (.getfield 7, 3) := by decide +kernel
theorem dX6_back_46 : decode cX6_back 46 = .ok (.iload_n 1, 1) := by decide +kernel
theorem dX6_back_47 : decode cX6_back 47 = .ok (.aload_n 0, 1) := by decide +kernel
theorem dX6_back_48 : decode cX6_back 48 = .ok (.getfield 71, 3) := by decide +kernel
theorem dX6_back_51 : decode cX6_back 51 = .ok (.iload_n 1, 1) := by decide +kernel
theorem dX6_back_52 : decode cX6_back 52 = .ok (.iaload, 1) := by decide +kernel
theorem dX6_back_53 : decode cX6_back 53 = .ok (.iastore, 1) := by decide +kernel
theorem dX6_back_54 : decode cX6_back 54 = .ok (.iinc 1 1, 3) := by decide +kernel
theorem dX6_back_57 : decode cX6_back 57 = .ok (.goto (-21), 3) := by decide +kernel
theorem dX6_back_60 : decode cX6_back 60 = .ok (.iconst 0, 1) := by decide +kernel
theorem dX6_back_61 : decode cX6_back 61 = .ok (.istore_n 1, 1) := by decide +kernel
theorem dX6_back_62 : decode cX6_back 62 = .ok (.iload_n 1, 1) := by decide +kernel
theorem dX6_back_63 : decode cX6_back 63 = .ok (.bipush 6, 2) := by decide +kernel
theorem dX6_back_65 : decode cX6_back 65 = .ok (.if_icmp .ge 90, 3) := by decide +kernel
theorem dX6_back_68 : decode cX6_back 68 = .ok (.aload_n 0, 1) := by decide +kernel
theorem dX6_back_69 : decode cX6_back 69 = .ok (.getfield 16, 3) := by decide +kernel
theorem dX6_back_72 : decode cX6_back 72 = .ok (.iload_n 1, 1) := by decide +kernel
theorem dX6_back_73 : decode cX6_back 73 = .ok (.aload_n 0, 1) := by decide +kernel
theorem dX6_back_74 : decode cX6_back 74 = .ok (.getfield 74, 3) := by decide +kernel
theorem dX6_back_77 : decode cX6_back 77 = .ok (.iload_n 1, 1) := by decide +kernel
theorem dX6_back_78 : decode cX6_back 78 = .ok (.iaload, 1) := by decide +kernel
theorem dX6_back_79 : decode cX6_back 79 = .ok (.iastore, 1) := by decide +kernel
theorem dX6_back_80 : decode cX6_back 80 = .ok (.aload_n 0, 1) := by decide +kernel
theorem dX6_back_81 : decode cX6_back 81 = .ok (.getfield 19, 3) := by decide +kernel
theorem dX6_back_84 : decode cX6_back 84 = .ok (.iload_n 1, 1) := by decide +kernel
theorem dX6_back_85 : decode cX6_back 85 = .ok (.aload_n 0, 1) := by decide +kernel
theorem dX6_back_86 : decode cX6_back 86 = .ok (.getfield 74, 3) := by decide +kernel
theorem dX6_back_89 : decode cX6_back 89 = .ok (.bipush 6, 2) := by decide +kernel
theorem dX6_back_91 : decode cX6_back 91 = .ok (.iload_n 1, 1) := by decide +kernel
theorem dX6_back_92 : decode cX6_back 92 = .ok (.iadd, 1) := by decide +kernel
theorem dX6_back_93 : decode cX6_back 93 = .ok (.iaload, 1) := by decide +kernel
theorem dX6_back_94 : decode cX6_back 94 = .ok (.iastore, 1) := by decide +kernel
theorem dX6_back_95 : decode cX6_back 95 = .ok (.aload_n 0, 1) := by decide +kernel
theorem dX6_back_96 : decode cX6_back 96 = .ok (.getfield 22, 3) := by decide +kernel
theorem dX6_back_99 : decode cX6_back 99 = .ok (.iload_n 1, 1) := by decide +kernel
theorem dX6_back_100 : decode cX6_back 100 = .ok (.aload_n 0, 1) := by decide +kernel
theorem dX6_back_101 : decode cX6_back 101 = .ok (.getfield 74, 3) := by decide +kernel
theorem dX6_back_104 : decode cX6_back 104 = .ok (.bipush 12, 2) := by decide +kernel
theorem dX6_back_106 : decode cX6_back 106 = .ok (.iload_n 1, 1) := by decide +kernel
theorem dX6_back_107 : decode cX6_back 107 = .ok (.iadd, 1) := by decide +kernel
theorem dX6_back_108 : decode cX6_back 108 = .ok (.iaload, 1) := by decide +kernel
theorem dX6_back_109 : decode cX6_back 109 = .ok (.iastore, 1) := by decide +kernel
theorem dX6_back_110 : decode cX6_back 110 = .ok (.aload_n 0, 1) := by decide +kernel
theorem dX6_back_111 : decode cX6_back 111 = .ok (.getfield 25, 3) := by decide +kernel
theorem dX6_back_114 : decode cX6_back 114 = .ok (.iload_n 1, 1) := by decide +kernel
theorem dX6_back_115 : decode cX6_back 115 = .ok (.aload_n 0, 1) := by decide +kernel
theorem dX6_back_116 : decode cX6_back 116 = .ok (.getfield 74, 3) := by decide +kernel
theorem dX6_back_119 : decode cX6_back 119 = .ok (.bipush 18, 2) := by decide +kernel
theorem dX6_back_121 : decode cX6_back 121 = .ok (.iload_n 1, 1) := by decide +kernel
theorem dX6_back_122 : decode cX6_back 122 = .ok (.iadd, 1) := by decide +kernel
theorem dX6_back_123 : decode cX6_back 123 = .ok (.iaload, 1) := by decide +kernel
theorem dX6_back_124 : decode cX6_back 124 = .ok (.iastore, 1) := by decide +kernel
theorem dX6_back_125 : decode cX6_back 125 = .ok (.aload_n 0, 1) := by decide +kernel
theorem dX6_back_126 : decode cX6_back 126 = .ok (.getfield 28, 3) := by decide +kernel
theorem dX6_back_129 : decode cX6_back 129 = .ok (.iload_n 1, 1) := by decide +kernel
theorem dX6_back_130 : decode cX6_back 130 = .ok (.aload_n 0, 1) := by decide +kernel
theorem dX6_back_131 : decode cX6_back 131 = .ok (.getfield 74, 3) := by decide +kernel
theorem dX6_back_134 : decode cX6_back 134 = .ok (.bipush 24, 2) := by decide +kernel
theorem dX6_back_136 : decode cX6_back 136 = .ok (.iload_n 1, 1) := by decide +kernel
theorem dX6_back_137 : decode cX6_back 137 = .ok (.iadd, 1) := by decide +kernel
theorem dX6_back_138 : decode cX6_back 138 = .ok (.iaload, 1) := by decide +kernel
theorem dX6_back_139 : decode cX6_back 139 = .ok (.iconst 1, 1) := by decide +kernel
theorem dX6_back_140 : decode cX6_back 140 = .ok (.if_icmp .ne 7, 3) := by decide +kernel
theorem dX6_back_143 : decode cX6_back 143 = .ok (.iconst 1, 1) := by decide +kernel
theorem dX6_back_144 : decode cX6_back 144 = .ok (.goto 4, 3) := by decide +kernel
theorem dX6_back_147 : decode cX6_back 147 = .ok (.iconst 0, 1) := by decide +kernel
theorem dX6_back_148 : decode cX6_back 148 = .ok (.bastore, 1) := by decide +kernel
theorem dX6_back_149 : decode cX6_back 149 = .ok (.iinc 1 1, 3) := by decide +kernel
theorem dX6_back_152 : decode cX6_back 152 = .ok (.goto (-90), 3) := by decide +kernel
theorem dX6_back_155 : decode cX6_back 155 = .ok (.aload_n 0, 1) := by decide +kernel
theorem dX6_back_156 : decode cX6_back 156 = .ok (.getfield 94, 3) := by decide +kernel
theorem dX6_back_159 : decode cX6_back 159 = .ok (.ireturn, 1) := by decide +kernel
theorem dX6_count_0 : decode cX6_count 0 = .ok (.iconst 0, 1) := by decide +kernel
theorem dX6_count_1 : decode cX6_count 1 = .ok (.istore_n 2, 1) := by decide +kernel
theorem dX6_count_2 : decode cX6_count 2 = .ok (.iload_n 1, 1) := by decide +kernel
theorem dX6_count_3 : decode cX6_count 3 = .ok (.tableswitch 99 0 5 #[37, 42, 52, 84, 89, 94], 37) := by decide +kernel
theorem dX6_count_40 : decode cX6_count 40 = .ok (.aload_n 0, 1) := by decide +kernel
theorem dX6_count_41 : decode cX6_count 41 = .ok (.getfield 94, 3) := by decide +kernel
theorem dX6_count_44 : decode cX6_count 44 = .ok (.ireturn, 1) := by decide +kernel
theorem dX6_count_45 : decode cX6_count 45 = .ok (.aload_n 0, 1) := by decide +kernel
theorem dX6_count_46 : decode cX6_count 46 = .ok (.getfield 94, 3) := by decide +kernel
theorem dX6_count_49 : decode cX6_count 49 = .ok (.aload_n 0, 1) := by decide +kernel
theorem dX6_count_50 : decode cX6_count 50 = .ok (.invokevirtual 233, 3) := by decide +kernel
theorem dX6_count_53 : decode cX6_count 53 = .ok (.isub, 1) := by decide +kernel
theorem dX6_count_54 : decode cX6_count 54 = .ok (.ireturn, 1) := by decide +kernel
theorem dX6_count_55 : decode cX6_count 55 = .ok (.aload_n 0, 1) := by decide +kernel
theorem dX6_count_56 : decode cX6_count 56 = .ok (.invokevirtual 126, 3) := by decide +kernel
theorem dX6_count_59 : decode cX6_count 59 = .ok (.iconst 0, 1) := by decide +kernel
theorem dX6_count_60 : decode cX6_count 60 = .ok (.istore_n 3, 1) := by decide +kernel
theorem dX6_count_61 : decode cX6_count 61 = .ok (.iload_n 3, 1) := by decide +kernel
theorem dX6_count_62 : decode cX6_count 62 = .ok (.bipush 16, 2) := by decide +kernel
theorem dX6_count_64 : decode cX6_count 64 = .ok (.if_icmp .ge 21, 3) := by decide +kernel
theorem dX6_count_67 : decode cX6_count 67 = .ok (.aload_n 0, 1) := by decide +kernel
theorem dX6_count_68 : decode cX6_count 68 = .ok (.getfield 50, 3) := by decide +kernel
theorem dX6_count_71 : decode cX6_count 71 = .ok (.iload_n 3, 1) := by decide +kernel
theorem dX6_count_72 : decode cX6_count 72 = .ok (.baload, 1) := by decide +kernel
theorem dX6_count_73 : decode cX6_count 73 = .ok (.ifCond .ne 6, 3) := by decide +kernel
theorem dX6_count_76 : decode cX6_count 76 = .ok (.iinc 2 1, 3) := by decide +kernel
theorem dX6_count_79 : decode cX6_count 79 = .ok (.iinc 3 1, 3) := by decide +kernel
theorem dX6_count_82 : decode cX6_count 82 = .ok (.goto (-21), 3) := by decide +kernel
theorem dX6_count_85 : decode cX6_count 85 = .ok (.iload_n 2, 1) := by decide +kernel
theorem dX6_count_86 : decode cX6_count 86 = .ok (.ireturn, 1) := by decide +kernel
theorem dX6_count_87 : decode cX6_count 87 = .ok (.aload_n 0, 1) := by decide +kernel
theorem dX6_count_88 : decode cX6_count 88 = .ok (.getfield 90, 3) := by decide +kernel
theorem dX6_count_91 : decode cX6_count 91 = .ok (.ireturn, 1) := by decide +kernel
theorem dX6_count_92 : decode cX6_count 92 = .ok (.aload_n 0, 1) := by decide +kernel
theorem dX6_count_93 : decode cX6_count 93 = .ok (.getfield 139, 3) := by decide +kernel
theorem dX6_count_96 : decode cX6_count 96 = .ok (.ireturn, 1) := by decide +kernel
theorem dX6_count_97 : decode cX6_count 97 = .ok (.aload_n 0, 1) := by decide +kernel
theorem dX6_count_98 : decode cX6_count 98 = .ok (.getfield 227, 3) := by decide +kernel
theorem dX6_count_101 : decode cX6_count 101 = .ok (.ireturn, 1) := by decide +kernel
theorem dX6_count_102 : decode cX6_count 102 = .ok (.bipush (-2), 2) := by decide +kernel
theorem dX6_count_104 : decode cX6_count 104 = .ok (.ireturn, 1) := by decide +kernel
theorem dX6_sheet_0 : decode cX6_sheet 0 = .ok (.iload_n 1, 1) := by decide +kernel
theorem dX6_sheet_1 : decode cX6_sheet 1 = .ok (.invokestatic 292, 3) := by decide +kernel
theorem dX6_sheet_4 : decode cX6_sheet 4 = .ok (.ifCond .eq 12, 3) := by decide +kernel
theorem dX6_sheet_7 : decode cX6_sheet 7 = .ok (.iload_n 2, 1) := by decide +kernel
theorem dX6_sheet_8 : decode cX6_sheet 8 = .ok (.iconst (-1), 1) := by decide +kernel
theorem dX6_sheet_9 : decode cX6_sheet 9 = .ok (.iconst 2, 1) := by decide +kernel
theorem dX6_sheet_10 : decode cX6_sheet 10 = .ok (.invokestatic 97, 3) := by decide +kernel
theorem dX6_sheet_13 : decode cX6_sheet 13 = .ok (.ifCond .ne 6, 3) := by decide +kernel
theorem dX6_sheet_16 : decode cX6_sheet 16 = .ok (.bipush (-2), 2) := by decide +kernel
theorem dX6_sheet_18 : decode cX6_sheet 18 = .ok (.ireturn, 1) := by decide +kernel
theorem dX6_sheet_19 : decode cX6_sheet 19 = .ok (.iload_n 2, 1) := by decide +kernel
theorem dX6_sheet_20 : decode cX6_sheet 20 = .ok (.ifCond .lt 10, 3) := by decide +kernel
theorem dX6_sheet_23 : decode cX6_sheet 23 = .ok (.iload_n 3, 1) := by decide +kernel
theorem dX6_sheet_24 : decode cX6_sheet 24 = .ok (.ifCond .ge 6, 3) := by decide +kernel
theorem dX6_sheet_27 : decode cX6_sheet 27 = .ok (.bipush (-14), 2) := by decide +kernel
theorem dX6_sheet_29 : decode cX6_sheet 29 = .ok (.ireturn, 1) := by decide +kernel
theorem dX6_sheet_30 : decode cX6_sheet 30 = .ok (.iload_n 2, 1) := by decide +kernel
theorem dX6_sheet_31 : decode cX6_sheet 31 = .ok (.ifCond .lt 12, 3) := by decide +kernel
theorem dX6_sheet_34 : decode cX6_sheet 34 = .ok (.iload_n 3, 1) := by decide +kernel
theorem dX6_sheet_35 : decode cX6_sheet 35 = .ok (.bipush 40, 2) := by decide +kernel
theorem dX6_sheet_37 : decode cX6_sheet 37 = .ok (.if_icmp .le 6, 3) := by decide +kernel
theorem dX6_sheet_40 : decode cX6_sheet 40 = .ok (.bipush (-2), 2) := by decide +kernel
theorem dX6_sheet_42 : decode cX6_sheet 42 = .ok (.ireturn, 1) := by decide +kernel
theorem dX6_sheet_43 : decode cX6_sheet 43 = .ok (.aload_n 0, 1) := by decide +kernel
theorem dX6_sheet_44 : decode cX6_sheet 44 = .ok (.getfield 77, 3) := by decide +kernel
theorem dX6_sheet_47 : decode cX6_sheet 47 = .ok (.iload_n 1, 1) := by decide +kernel
theorem dX6_sheet_48 : decode cX6_sheet 48 = .ok (.iload_n 2, 1) := by decide +kernel
theorem dX6_sheet_49 : decode cX6_sheet 49 = .ok (.iastore, 1) := by decide +kernel
theorem dX6_sheet_50 : decode cX6_sheet 50 = .ok (.aload_n 0, 1) := by decide +kernel
theorem dX6_sheet_51 : decode cX6_sheet 51 = .ok (.getfield 80, 3) := by decide +kernel
theorem dX6_sheet_54 : decode cX6_sheet 54 = .ok (.iload_n 1, 1) := by decide +kernel
theorem dX6_sheet_55 : decode cX6_sheet 55 = .ok (.iload_n 2, 1) := by decide +kernel
theorem dX6_sheet_56 : decode cX6_sheet 56 = .ok (.ifCond .ge 7, 3) := by decide +kernel
theorem dX6_sheet_59 : decode cX6_sheet 59 = .ok (.iconst 0, 1) := by decide +kernel
theorem dX6_sheet_60 : decode cX6_sheet 60 = .ok (.goto 4, 3) := by decide +kernel
theorem dX6_sheet_63 : decode cX6_sheet 63 = .ok (.iload_n 3, 1) := by decide +kernel
theorem dX6_sheet_64 : decode cX6_sheet 64 = .ok (.iastore, 1) := by decide +kernel
theorem dX6_sheet_65 : decode cX6_sheet 65 = .ok (.iconst 0, 1) := by decide +kernel
theorem dX6_sheet_66 : decode cX6_sheet 66 = .ok (.istore 4, 2) := by decide +kernel
theorem dX6_sheet_68 : decode cX6_sheet 68 = .ok (.iload 4, 2) := by decide +kernel
theorem dX6_sheet_70 : decode cX6_sheet 70 = .ok (.bipush 40, 2) := by decide +kernel
theorem dX6_sheet_72 : decode cX6_sheet 72 = .ok (.if_icmp .ge 22, 3) := by decide +kernel
theorem dX6_sheet_75 : decode cX6_sheet 75 = .ok (.aload_n 0, 1) := by decide +kernel
theorem dX6_sheet_76 : decode cX6_sheet 76 = .ok (.getfield 83, 3) := by decide +kernel
theorem dX6_sheet_79 : decode cX6_sheet 79 = .ok (.bipush 40, 2) := by decide +kernel
theorem dX6_sheet_81 : decode cX6_sheet 81 = .ok (.iload_n 1, 1) := by decide +kernel
theorem dX6_sheet_82 : decode cX6_sheet 82 = .ok (.imul, 1) := by decide +kernel
theorem dX6_sheet_83 : decode cX6_sheet 83 = .ok (.iload 4, 2) := by decide +kernel
theorem dX6_sheet_85 : decode cX6_sheet 85 = .ok (.iadd, 1) := by decide +kernel
theorem dX6_sheet_86 : decode cX6_sheet 86 = .ok (.iconst 0, 1) := by decide +kernel
theorem dX6_sheet_87 : decode cX6_sheet 87 = .ok (.iastore, 1) := by decide +kernel
theorem dX6_sheet_88 : decode cX6_sheet 88 = .ok (.iinc 4 1, 3) := by decide +kernel
theorem dX6_sheet_91 : decode cX6_sheet 91 = .ok (.goto (-23), 3) := by decide +kernel
theorem dX6_sheet_94 : decode cX6_sheet 94 = .ok (.iconst 1, 1) := by decide +kernel
theorem dX6_sheet_95 : decode cX6_sheet 95 = .ok (.ireturn, 1) := by decide +kernel
theorem dX6_cell_0 : decode cX6_cell 0 = .ok (.iload_n 1, 1) := by decide +kernel
theorem dX6_cell_1 : decode cX6_cell 1 = .ok (.invokestatic 292, 3) := by decide +kernel
theorem dX6_cell_4 : decode cX6_cell 4 = .ok (.ifCond .ne 6, 3) := by decide +kernel
theorem dX6_cell_7 : decode cX6_cell 7 = .ok (.bipush (-2), 2) := by decide +kernel
theorem dX6_cell_9 : decode cX6_cell 9 = .ok (.ireturn, 1) := by decide +kernel
theorem dX6_cell_10 : decode cX6_cell 10 = .ok (.aload_n 0, 1) := by decide +kernel
theorem dX6_cell_11 : decode cX6_cell 11 = .ok (.getfield 77, 3) := by decide +kernel
theorem dX6_cell_14 : decode cX6_cell 14 = .ok (.iload_n 1, 1) := by decide +kernel
theorem dX6_cell_15 : decode cX6_cell 15 = .ok (.iaload, 1) := by decide +kernel
theorem dX6_cell_16 : decode cX6_cell 16 = .ok (.ifCond .ge 6, 3) := by decide +kernel
theorem dX6_cell_19 : decode cX6_cell 19 = .ok (.bipush (-11), 2) := by decide +kernel
theorem dX6_cell_21 : decode cX6_cell 21 = .ok (.ireturn, 1) := by decide +kernel
theorem dX6_cell_22 : decode cX6_cell 22 = .ok (.iload_n 2, 1) := by decide +kernel
theorem dX6_cell_23 : decode cX6_cell 23 = .ok (.iconst 0, 1) := by decide +kernel
theorem dX6_cell_24 : decode cX6_cell 24 = .ok (.aload_n 0, 1) := by decide +kernel
theorem dX6_cell_25 : decode cX6_cell 25 = .ok (.getfield 80, 3) := by decide +kernel
theorem dX6_cell_28 : decode cX6_cell 28 = .ok (.iload_n 1, 1) := by decide +kernel
theorem dX6_cell_29 : decode cX6_cell 29 = .ok (.iaload, 1) := by decide +kernel
theorem dX6_cell_30 : decode cX6_cell 30 = .ok (.iconst 1, 1) := by decide +kernel
theorem dX6_cell_31 : decode cX6_cell 31 = .ok (.isub, 1) := by decide +kernel
theorem dX6_cell_32 : decode cX6_cell 32 = .ok (.invokestatic 97, 3) := by decide +kernel
theorem dX6_cell_35 : decode cX6_cell 35 = .ok (.ifCond .ne 6, 3) := by decide +kernel
theorem dX6_cell_38 : decode cX6_cell 38 = .ok (.bipush (-12), 2) := by decide +kernel
theorem dX6_cell_40 : decode cX6_cell 40 = .ok (.ireturn, 1) := by decide +kernel
theorem dX6_cell_41 : decode cX6_cell 41 = .ok (.aload_n 0, 1) := by decide +kernel
theorem dX6_cell_42 : decode cX6_cell 42 = .ok (.getfield 83, 3) := by decide +kernel
theorem dX6_cell_45 : decode cX6_cell 45 = .ok (.bipush 40, 2) := by decide +kernel
theorem dX6_cell_47 : decode cX6_cell 47 = .ok (.iload_n 1, 1) := by decide +kernel
theorem dX6_cell_48 : decode cX6_cell 48 = .ok (.imul, 1) := by decide +kernel
theorem dX6_cell_49 : decode cX6_cell 49 = .ok (.iload_n 2, 1) := by decide +kernel
theorem dX6_cell_50 : decode cX6_cell 50 = .ok (.iadd, 1) := by decide +kernel
theorem dX6_cell_51 : decode cX6_cell 51 = .ok (.aload_n 0, 1) := by decide +kernel
theorem dX6_cell_52 : decode cX6_cell 52 = .ok (.getfield 77, 3) := by decide +kernel
theorem dX6_cell_55 : decode cX6_cell 55 = .ok (.iload_n 1, 1) := by decide +kernel
theorem dX6_cell_56 : decode cX6_cell 56 = .ok (.iaload, 1) := by decide +kernel
theorem dX6_cell_57 : decode cX6_cell 57 = .ok (.ifCond .ne 8, 3) := by decide +kernel
theorem dX6_cell_60 : decode cX6_cell 60 = .ok (.iload_n 3, 1) := by decide +kernel
theorem dX6_cell_61 : decode cX6_cell 61 = .ok (.i2b, 1) := by decide +kernel
theorem dX6_cell_62 : decode cX6_cell 62 = .ok (.goto 19, 3) := by decide +kernel
theorem dX6_cell_65 : decode cX6_cell 65 = .ok (.aload_n 0, 1) := by decide +kernel
theorem dX6_cell_66 : decode cX6_cell 66 = .ok (.getfield 77, 3) := by decide +kernel
theorem dX6_cell_69 : decode cX6_cell 69 = .ok (.iload_n 1, 1) := by decide +kernel
theorem dX6_cell_70 : decode cX6_cell 70 = .ok (.iaload, 1) := by decide +kernel
theorem dX6_cell_71 : decode cX6_cell 71 = .ok (.iconst 1, 1) := by decide +kernel
theorem dX6_cell_72 : decode cX6_cell 72 = .ok (.if_icmp .ne 8, 3) := by decide +kernel
theorem dX6_cell_75 : decode cX6_cell 75 = .ok (.iload_n 3, 1) := by decide +kernel
theorem dX6_cell_76 : decode cX6_cell 76 = .ok (.i2s, 1) := by decide +kernel
theorem dX6_cell_77 : decode cX6_cell 77 = .ok (.goto 4, 3) := by decide +kernel
theorem dX6_cell_80 : decode cX6_cell 80 = .ok (.iload_n 3, 1) := by decide +kernel
theorem dX6_cell_81 : decode cX6_cell 81 = .ok (.iastore, 1) := by decide +kernel
theorem dX6_cell_82 : decode cX6_cell 82 = .ok (.iconst 1, 1) := by decide +kernel
theorem dX6_cell_83 : decode cX6_cell 83 = .ok (.ireturn, 1) := by decide +kernel
theorem dX6_copy_0 : decode cX6_copy 0 = .ok (.iload_n 1, 1) := by decide +kernel
theorem dX6_copy_1 : decode cX6_copy 1 = .ok (.invokestatic 292, 3) := by decide +kernel
theorem dX6_copy_4 : decode cX6_copy 4 = .ok (.ifCond .eq 10, 3) := by decide +kernel
theorem dX6_copy_7 : decode cX6_copy 7 = .ok (.iload_n 3, 1) := by decide +kernel
theorem dX6_copy_8 : decode cX6_copy 8 = .ok (.invokestatic 292, 3) := by decide +kernel
theorem dX6_copy_11 : decode cX6_copy 11 = .ok (.ifCond .ne 6, 3) := by decide +kernel
theorem dX6_copy_14 : decode cX6_copy 14 = .ok (.bipush (-2), 2) := by decide +kernel
theorem dX6_copy_16 : decode cX6_copy 16 = .ok (.ireturn, 1) := by decide +kernel
theorem dX6_copy_17 : decode cX6_copy 17 = .ok (.aload_n 0, 1) := by decide +kernel
theorem dX6_copy_18 : decode cX6_copy 18 = .ok (.getfield 77, 3) := by decide +kernel
theorem dX6_copy_21 : decode cX6_copy 21 = .ok (.iload_n 1, 1) := by decide +kernel
theorem dX6_copy_22 : decode cX6_copy 22 = .ok (.iaload, 1) := by decide +kernel
theorem dX6_copy_23 : decode cX6_copy 23 = .ok (.ifCond .lt 12, 3) := by decide +kernel
theorem dX6_copy_26 : decode cX6_copy 26 = .ok (.aload_n 0, 1) := by decide +kernel
theorem dX6_copy_27 : decode cX6_copy 27 = .ok (.getfield 77, 3) := by decide +kernel
theorem dX6_copy_30 : decode cX6_copy 30 = .ok (.iload_n 3, 1) := by decide +kernel
theorem dX6_copy_31 : decode cX6_copy 31 = .ok (.iaload, 1) := by decide +kernel
theorem dX6_copy_32 : decode cX6_copy 32 = .ok (.ifCond .ge 6, 3) := by decide +kernel
theorem dX6_copy_35 : decode cX6_copy 35 = .ok (.bipush (-11), 2) := by decide +kernel
theorem dX6_copy_37 : decode cX6_copy 37 = .ok (.ireturn, 1) := by decide +kernel
theorem dX6_copy_38 : decode cX6_copy 38 = .ok (.aload_n 0, 1) := by decide +kernel
theorem dX6_copy_39 : decode cX6_copy 39 = .ok (.getfield 77, 3) := by decide +kernel
theorem dX6_copy_42 : decode cX6_copy 42 = .ok (.iload_n 1, 1) := by decide +kernel
theorem dX6_copy_43 : decode cX6_copy 43 = .ok (.iaload, 1) := by decide +kernel
theorem dX6_copy_44 : decode cX6_copy 44 = .ok (.aload_n 0, 1) := by decide +kernel
theorem dX6_copy_45 : decode cX6_copy 45 = .ok (.getfield 77, 3) := by decide +kernel
theorem dX6_copy_48 : decode cX6_copy 48 = .ok (.iload_n 3, 1) := by decide +kernel
theorem dX6_copy_49 : decode cX6_copy 49 = .ok (.iaload, 1) := by decide +kernel
theorem dX6_copy_50 : decode cX6_copy 50 = .ok (.if_icmp .eq 6, 3) := by decide +kernel
theorem dX6_copy_53 : decode cX6_copy 53 = .ok (.bipush (-13), 2) := by decide +kernel
theorem dX6_copy_55 : decode cX6_copy 55 = .ok (.ireturn, 1) := by decide +kernel
theorem dX6_copy_56 : decode cX6_copy 56 = .ok (.iload 5, 2) := by decide +kernel
theorem dX6_copy_58 : decode cX6_copy 58 = .ok (.ifCond .lt 47, 3) := by decide +kernel
theorem dX6_copy_61 : decode cX6_copy 61 = .ok (.iload_n 2, 1) := by decide +kernel
theorem dX6_copy_62 : decode cX6_copy 62 = .ok (.ifCond .lt 43, 3) := by decide +kernel
theorem dX6_copy_65 : decode cX6_copy 65 = .ok (.iload 4, 2) := by decide +kernel
theorem dX6_copy_67 : decode cX6_copy 67 = .ok (.ifCond .lt 38, 3) := by decide +kernel
theorem dX6_copy_70 : decode cX6_copy 70 = .ok (.iload_n 2, 1) := by decide +kernel
theorem dX6_copy_71 : decode cX6_copy 71 = .ok (.i2l, 1) := by decide +kernel
theorem dX6_copy_72 : decode cX6_copy 72 = .ok (.iload 5, 2) := by decide +kernel
theorem dX6_copy_74 : decode cX6_copy 74 = .ok (.i2l, 1) := by decide +kernel
theorem dX6_copy_75 : decode cX6_copy 75 = .ok (.ladd, 1) := by decide +kernel
theorem dX6_copy_76 : decode cX6_copy 76 = .ok (.aload_n 0, 1) := by decide +kernel
theorem dX6_copy_77 : decode cX6_copy 77 = .ok (.getfield 80, 3) := by decide +kernel
theorem dX6_copy_80 : decode cX6_copy 80 = .ok (.iload_n 1, 1) := by decide +kernel
theorem dX6_copy_81 : decode cX6_copy 81 = .ok (.iaload, 1) := by decide +kernel
theorem dX6_copy_82 : decode cX6_copy 82 = .ok (.i2l, 1) := by decide +kernel
theorem dX6_copy_83 : decode cX6_copy 83 = .ok (.lcmp, 1) := by decide +kernel
theorem dX6_copy_84 : decode cX6_copy 84 = .ok (.ifCond .gt 21, 3) := by decide +kernel
theorem dX6_copy_87 : decode cX6_copy 87 = .ok (.iload 4, 2) := by decide +kernel
theorem dX6_copy_89 : decode cX6_copy 89 = .ok (.i2l, 1) := by decide +kernel
theorem dX6_copy_90 : decode cX6_copy 90 = .ok (.iload 5, 2) := by decide +kernel
theorem dX6_copy_92 : decode cX6_copy 92 = .ok (.i2l, 1) := by decide +kernel
theorem dX6_copy_93 : decode cX6_copy 93 = .ok (.ladd, 1) := by decide +kernel
theorem dX6_copy_94 : decode cX6_copy 94 = .ok (.aload_n 0, 1) := by decide +kernel
theorem dX6_copy_95 : decode cX6_copy 95 = .ok (.getfield 80, 3) := by decide +kernel
theorem dX6_copy_98 : decode cX6_copy 98 = .ok (.iload_n 3, 1) := by decide +kernel
theorem dX6_copy_99 : decode cX6_copy 99 = .ok (.iaload, 1) := by decide +kernel
theorem dX6_copy_100 : decode cX6_copy 100 = .ok (.i2l, 1) := by decide +kernel
theorem dX6_copy_101 : decode cX6_copy 101 = .ok (.lcmp, 1) := by decide +kernel
theorem dX6_copy_102 : decode cX6_copy 102 = .ok (.ifCond .le 6, 3) := by decide +kernel
theorem dX6_copy_105 : decode cX6_copy 105 = .ok (.bipush (-12), 2) := by decide +kernel
theorem dX6_copy_107 : decode cX6_copy 107 = .ok (.ireturn, 1) := by decide +kernel
theorem dX6_copy_108 : decode cX6_copy 108 = .ok (.iload_n 1, 1) := by decide +kernel
theorem dX6_copy_109 : decode cX6_copy 109 = .ok (.iload_n 3, 1) := by decide +kernel
theorem dX6_copy_110 : decode cX6_copy 110 = .ok (.if_icmp .ne 58, 3) := by decide +kernel
theorem dX6_copy_113 : decode cX6_copy 113 = .ok (.iload_n 2, 1) := by decide +kernel
theorem dX6_copy_114 : decode cX6_copy 114 = .ok (.iload 4, 2) := by decide +kernel
theorem dX6_copy_116 : decode cX6_copy 116 = .ok (.if_icmp .ge 52, 3) := by decide +kernel
theorem dX6_copy_119 : decode cX6_copy 119 = .ok (.iload 5, 2) := by decide +kernel
theorem dX6_copy_121 : decode cX6_copy 121 = .ok (.iconst 1, 1) := by decide +kernel
theorem dX6_copy_122 : decode cX6_copy 122 = .ok (.isub, 1) := by decide +kernel
theorem dX6_copy_123 : decode cX6_copy 123 = .ok (.istore 6, 2) := by decide +kernel
theorem dX6_copy_125 : decode cX6_copy 125 = .ok (.iload 6, 2) := by decide +kernel
theorem dX6_copy_127 : decode cX6_copy 127 = .ok (.ifCond .lt 38, 3) := by decide +kernel
theorem dX6_copy_130 : decode cX6_copy 130 = .ok (.aload_n 0, 1) := by decide +kernel
theorem dX6_copy_131 : decode cX6_copy 131 = .ok (.getfield 83, 3) := by decide +kernel
theorem dX6_copy_134 : decode cX6_copy 134 = .ok (.bipush 40, 2) := by decide +kernel
theorem dX6_copy_136 : decode cX6_copy 136 = .ok (.iload_n 3, 1) := by decide +kernel
theorem dX6_copy_137 : decode cX6_copy 137 = .ok (.imul, 1) := by decide +kernel
theorem dX6_copy_138 : decode cX6_copy 138 = .ok (.iload 4, 2) := by decide +kernel
theorem dX6_copy_140 : decode cX6_copy 140 = .ok (.iadd, 1) := by decide +kernel
theorem dX6_copy_141 : decode cX6_copy 141 = .ok (.iload 6, 2) := by decide +kernel
theorem dX6_copy_143 : decode cX6_copy 143 = .ok (.iadd, 1) := by decide +kernel
theorem dX6_copy_144 : decode cX6_copy 144 = .ok (.aload_n 0, 1) := by decide +kernel
theorem dX6_copy_145 : decode cX6_copy 145 = .ok (.getfield 83, 3) := by decide +kernel
theorem dX6_copy_148 : decode cX6_copy 148 = .ok (.bipush 40, 2) := by decide +kernel
theorem dX6_copy_150 : decode cX6_copy 150 = .ok (.iload_n 1, 1) := by decide +kernel
theorem dX6_copy_151 : decode cX6_copy 151 = .ok (.imul, 1) := by decide +kernel
theorem dX6_copy_152 : decode cX6_copy 152 = .ok (.iload_n 2, 1) := by decide +kernel
theorem dX6_copy_153 : decode cX6_copy 153 = .ok (.iadd, 1) := by decide +kernel
theorem dX6_copy_154 : decode cX6_copy 154 = .ok (.iload 6, 2) := by decide +kernel
theorem dX6_copy_156 : decode cX6_copy 156 = .ok (.iadd, 1) := by decide +kernel
theorem dX6_copy_157 : decode cX6_copy 157 = .ok (.iaload, 1) := by decide +kernel
theorem dX6_copy_158 : decode cX6_copy 158 = .ok (.iastore, 1) := by decide +kernel
theorem dX6_copy_159 : decode cX6_copy 159 = .ok (.iinc 6 (-1), 3) := by decide +kernel
theorem dX6_copy_162 : decode cX6_copy 162 = .ok (.goto (-37), 3) := by decide +kernel
theorem dX6_copy_165 : decode cX6_copy 165 = .ok (.goto 48, 3) := by decide +kernel
theorem dX6_copy_168 : decode cX6_copy 168 = .ok (.iconst 0, 1) := by decide +kernel
theorem dX6_copy_169 : decode cX6_copy 169 = .ok (.istore 6, 2) := by decide +kernel
theorem dX6_copy_171 : decode cX6_copy 171 = .ok (.iload 6, 2) := by decide +kernel
theorem dX6_copy_173 : decode cX6_copy 173 = .ok (.iload 5, 2) := by decide +kernel
theorem dX6_copy_175 : decode cX6_copy 175 = .ok (.if_icmp .ge 38, 3) := by decide +kernel
theorem dX6_copy_178 : decode cX6_copy 178 = .ok (.aload_n 0, 1) := by decide +kernel
theorem dX6_copy_179 : decode cX6_copy 179 = .ok (.getfield 83, 3) := by decide +kernel
theorem dX6_copy_182 : decode cX6_copy 182 = .ok (.bipush 40, 2) := by decide +kernel
theorem dX6_copy_184 : decode cX6_copy 184 = .ok (.iload_n 3, 1) := by decide +kernel
theorem dX6_copy_185 : decode cX6_copy 185 = .ok (.imul, 1) := by decide +kernel
theorem dX6_copy_186 : decode cX6_copy 186 = .ok (.iload 4, 2) := by decide +kernel
theorem dX6_copy_188 : decode cX6_copy 188 = .ok (.iadd, 1) := by decide +kernel
theorem dX6_copy_189 : decode cX6_copy 189 = .ok (.iload 6, 2) := by decide +kernel
theorem dX6_copy_191 : decode cX6_copy 191 = .ok (.iadd, 1) := by decide +kernel
theorem dX6_copy_192 : decode cX6_copy 192 = .ok (.aload_n 0, 1) := by decide +kernel
theorem dX6_copy_193 : decode cX6_copy 193 = .ok (.getfield 83, 3) := by decide +kernel
theorem dX6_copy_196 : decode cX6_copy 196 = .ok (.bipush 40, 2) := by decide +kernel
theorem dX6_copy_198 : decode cX6_copy 198 = .ok (.iload_n 1, 1) := by decide +kernel
theorem dX6_copy_199 : decode cX6_copy 199 = .ok (.imul, 1) := by decide +kernel
theorem dX6_copy_200 : decode cX6_copy 200 = .ok (.iload_n 2, 1) := by decide +kernel
theorem dX6_copy_201 : decode cX6_copy 201 = .ok (.iadd, 1) := by decide +kernel
theorem dX6_copy_202 : decode cX6_copy 202 = .ok (.iload 6, 2) := by decide +kernel
theorem dX6_copy_204 : decode cX6_copy 204 = .ok (.iadd, 1) := by decide +kernel
theorem dX6_copy_205 : decode cX6_copy 205 = .ok (.iaload, 1) := by decide +kernel
theorem dX6_copy_206 : decode cX6_copy 206 = .ok (.iastore, 1) := by decide +kernel
theorem dX6_copy_207 : decode cX6_copy 207 = .ok (.iinc 6 1, 3) := by decide +kernel
theorem dX6_copy_210 : decode cX6_copy 210 = .ok (.goto (-39), 3) := by decide +kernel
theorem dX6_copy_213 : decode cX6_copy 213 = .ok (.iload 5, 2) := by decide +kernel
theorem dX6_copy_215 : decode cX6_copy 215 = .ok (.ireturn, 1) := by decide +kernel
theorem dX6_seams_0 : decode cX6_seams 0 = .ok (.iload_n 1, 1) := by decide +kernel
theorem dX6_seams_1 : decode cX6_seams 1 = .ok (.invokestatic 292, 3) := by decide +kernel
theorem dX6_seams_4 : decode cX6_seams 4 = .ok (.ifCond .eq 23, 3) := by decide +kernel
theorem dX6_seams_7 : decode cX6_seams 7 = .ok (.iload_n 2, 1) := by decide +kernel
theorem dX6_seams_8 : decode cX6_seams 8 = .ok (.iconst 0, 1) := by decide +kernel
theorem dX6_seams_9 : decode cX6_seams 9 = .ok (.iconst 2, 1) := by decide +kernel
theorem dX6_seams_10 : decode cX6_seams 10 = .ok (.invokestatic 97, 3) := by decide +kernel
theorem dX6_seams_13 : decode cX6_seams 13 = .ok (.ifCond .eq 14, 3) := by decide +kernel
theorem dX6_seams_16 : decode cX6_seams 16 = .ok (.iload 4, 2) := by decide +kernel
theorem dX6_seams_18 : decode cX6_seams 18 = .ok (.iconst 0, 1) := by decide +kernel
theorem dX6_seams_19 : decode cX6_seams 19 = .ok (.bipush 6, 2) := by decide +kernel
theorem dX6_seams_21 : decode cX6_seams 21 = .ok (.invokestatic 97, 3) := by decide +kernel
theorem dX6_seams_24 : decode cX6_seams 24 = .ok (.ifCond .ne 6, 3) := by decide +kernel
theorem dX6_seams_27 : decode cX6_seams 27 = .ok (.bipush (-2), 2) := by decide +kernel
theorem dX6_seams_29 : decode cX6_seams 29 = .ok (.ireturn, 1) := by decide +kernel
theorem dX6_seams_30 : decode cX6_seams 30 = .ok (.aload_n 0, 1) := by decide +kernel
theorem dX6_seams_31 : decode cX6_seams 31 = .ok (.getfield 77, 3) := by decide +kernel
theorem dX6_seams_34 : decode cX6_seams 34 = .ok (.iload_n 1, 1) := by decide +kernel
theorem dX6_seams_35 : decode cX6_seams 35 = .ok (.iaload, 1) := by decide +kernel
theorem dX6_seams_36 : decode cX6_seams 36 = .ok (.ifCond .ge 6, 3) := by decide +kernel
theorem dX6_seams_39 : decode cX6_seams 39 = .ok (.bipush (-11), 2) := by decide +kernel
theorem dX6_seams_41 : decode cX6_seams 41 = .ok (.ireturn, 1) := by decide +kernel
theorem dX6_seams_42 : decode cX6_seams 42 = .ok (.aload_n 0, 1) := by decide +kernel
theorem dX6_seams_43 : decode cX6_seams 43 = .ok (.getfield 77, 3) := by decide +kernel
theorem dX6_seams_46 : decode cX6_seams 46 = .ok (.iload_n 1, 1) := by decide +kernel
theorem dX6_seams_47 : decode cX6_seams 47 = .ok (.iaload, 1) := by decide +kernel
theorem dX6_seams_48 : decode cX6_seams 48 = .ok (.iload_n 2, 1) := by decide +kernel
theorem dX6_seams_49 : decode cX6_seams 49 = .ok (.if_icmp .eq 6, 3) := by decide +kernel
theorem dX6_seams_52 : decode cX6_seams 52 = .ok (.bipush (-13), 2) := by decide +kernel
theorem dX6_seams_54 : decode cX6_seams 54 = .ok (.ireturn, 1) := by decide +kernel
theorem dX6_seams_55 : decode cX6_seams 55 = .ok (.iconst 0, 1) := by decide +kernel
theorem dX6_seams_56 : decode cX6_seams 56 = .ok (.istore 5, 2) := by decide +kernel
theorem dX6_seams_58 : decode cX6_seams 58 = .ok (.iconst 0, 1) := by decide +kernel
theorem dX6_seams_59 : decode cX6_seams 59 = .ok (.istore 6, 2) := by decide +kernel
theorem dX6_seams_61 : decode cX6_seams 61 = .ok (.iload 6, 2) := by decide +kernel
theorem dX6_seams_63 : decode cX6_seams 63 = .ok (.iload 4, 2) := by decide +kernel
theorem dX6_seams_65 : decode cX6_seams 65 = .ok (.if_icmp .ge 93, 3) := by decide +kernel
theorem dX6_seams_68 : decode cX6_seams 68 = .ok (.iload_n 3, 1) := by decide +kernel
theorem dX6_seams_69 : decode cX6_seams 69 = .ok (.i2l, 1) := by decide +kernel
theorem dX6_seams_70 : decode cX6_seams 70 = .ok (.ldc2_w 331, 3) := by decide +kernel
theorem dX6_seams_73 : decode cX6_seams 73 = .ok (.iload 6, 2) := by decide +kernel
theorem dX6_seams_75 : decode cX6_seams 75 = .ok (.i2l, 1) := by decide +kernel
theorem dX6_seams_76 : decode cX6_seams 76 = .ok (.lmul, 1) := by decide +kernel
theorem dX6_seams_77 : decode cX6_seams 77 = .ok (.ladd, 1) := by decide +kernel
theorem dX6_seams_78 : decode cX6_seams 78 = .ok (.lstore 7, 2) := by decide +kernel
theorem dX6_seams_80 : decode cX6_seams 80 = .ok (.lload 7, 2) := by decide +kernel
theorem dX6_seams_82 : decode cX6_seams 82 = .ok (.lconst 0, 1) := by decide +kernel
theorem dX6_seams_83 : decode cX6_seams 83 = .ok (.lcmp, 1) := by decide +kernel
theorem dX6_seams_84 : decode cX6_seams 84 = .ok (.ifCond .lt 20, 3) := by decide +kernel
theorem dX6_seams_87 : decode cX6_seams 87 = .ok (.lload 7, 2) := by decide +kernel
theorem dX6_seams_89 : decode cX6_seams 89 = .ok (.ldc2_w 333, 3) := by decide +kernel
theorem dX6_seams_92 : decode cX6_seams 92 = .ok (.ladd, 1) := by decide +kernel
theorem dX6_seams_93 : decode cX6_seams 93 = .ok (.aload_n 0, 1) := by decide +kernel
theorem dX6_seams_94 : decode cX6_seams 94 = .ok (.getfield 80, 3) := by decide +kernel
theorem dX6_seams_97 : decode cX6_seams 97 = .ok (.iload_n 1, 1) := by decide +kernel
theorem dX6_seams_98 : decode cX6_seams 98 = .ok (.iaload, 1) := by decide +kernel
theorem dX6_seams_99 : decode cX6_seams 99 = .ok (.i2l, 1) := by decide +kernel
theorem dX6_seams_100 : decode cX6_seams 100 = .ok (.lcmp, 1) := by decide +kernel
theorem dX6_seams_101 : decode cX6_seams 101 = .ok (.ifCond .lt 6, 3) := by decide +kernel
theorem dX6_seams_104 : decode cX6_seams 104 = .ok (.bipush (-12), 2) := by decide +kernel
theorem dX6_seams_106 : decode cX6_seams 106 = .ok (.ireturn, 1) := by decide +kernel
theorem dX6_seams_107 : decode cX6_seams 107 = .ok (.bipush 40, 2) := by decide +kernel
theorem dX6_seams_109 : decode cX6_seams 109 = .ok (.iload_n 1, 1) := by decide +kernel
theorem dX6_seams_110 : decode cX6_seams 110 = .ok (.imul, 1) := by decide +kernel
theorem dX6_seams_111 : decode cX6_seams 111 = .ok (.lload 7, 2) := by decide +kernel
theorem dX6_seams_113 : decode cX6_seams 113 = .ok (.l2i, 1) := by decide +kernel
theorem dX6_seams_114 : decode cX6_seams 114 = .ok (.iadd, 1) := by decide +kernel
theorem dX6_seams_115 : decode cX6_seams 115 = .ok (.istore 9, 2) := by decide +kernel
theorem dX6_seams_117 : decode cX6_seams 117 = .ok (.aload_n 0, 1) := by decide +kernel
theorem dX6_seams_118 : decode cX6_seams 118 = .ok (.aload_n 0, 1) := by decide +kernel
theorem dX6_seams_119 : decode cX6_seams 119 = .ok (.getfield 83, 3) := by decide +kernel
theorem dX6_seams_122 : decode cX6_seams 122 = .ok (.iload 9, 2) := by decide +kernel
theorem dX6_seams_124 : decode cX6_seams 124 = .ok (.iaload, 1) := by decide +kernel
theorem dX6_seams_125 : decode cX6_seams 125 = .ok (.aload_n 0, 1) := by decide +kernel
theorem dX6_seams_126 : decode cX6_seams 126 = .ok (.getfield 83, 3) := by decide +kernel
theorem dX6_seams_129 : decode cX6_seams 129 = .ok (.iload 9, 2) := by decide +kernel
theorem dX6_seams_131 : decode cX6_seams 131 = .ok (.iconst 1, 1) := by decide +kernel
theorem dX6_seams_132 : decode cX6_seams 132 = .ok (.iadd, 1) := by decide +kernel
theorem dX6_seams_133 : decode cX6_seams 133 = .ok (.iaload, 1) := by decide +kernel
theorem dX6_seams_134 : decode cX6_seams 134 = .ok (.aload_n 0, 1) := by decide +kernel
theorem dX6_seams_135 : decode cX6_seams 135 = .ok (.getfield 83, 3) := by decide +kernel
theorem dX6_seams_138 : decode cX6_seams 138 = .ok (.iload 9, 2) := by decide +kernel
theorem dX6_seams_140 : decode cX6_seams 140 = .ok (.iconst 2, 1) := by decide +kernel
theorem dX6_seams_141 : decode cX6_seams 141 = .ok (.iadd, 1) := by decide +kernel
theorem dX6_seams_142 : decode cX6_seams 142 = .ok (.iaload, 1) := by decide +kernel
theorem dX6_seams_143 : decode cX6_seams 143 = .ok (.invokevirtual 335, 3) := by decide +kernel
theorem dX6_seams_146 : decode cX6_seams 146 = .ok (.ifCond .lt 6, 3) := by decide +kernel
theorem dX6_seams_149 : decode cX6_seams 149 = .ok (.iinc 5 1, 3) := by decide +kernel
theorem dX6_seams_152 : decode cX6_seams 152 = .ok (.iinc 6 1, 3) := by decide +kernel
theorem dX6_seams_155 : decode cX6_seams 155 = .ok (.goto (-94), 3) := by decide +kernel
theorem dX6_seams_158 : decode cX6_seams 158 = .ok (.iload 5, 2) := by decide +kernel
theorem dX6_seams_160 : decode cX6_seams 160 = .ok (.ireturn, 1) := by decide +kernel
theorem dX6_taken_0 : decode cX6_taken 0 = .ok (.iload_n 2, 1) := by decide +kernel
theorem dX6_taken_1 : decode cX6_taken 1 = .ok (.iconst 0, 1) := by decide +kernel
theorem dX6_taken_2 : decode cX6_taken 2 = .ok (.iconst 5, 1) := by decide +kernel
theorem dX6_taken_3 : decode cX6_taken 3 = .ok (.invokestatic 97, 3) := by decide +kernel
theorem dX6_taken_6 : decode cX6_taken 6 = .ok (.ifCond .ne 6, 3) := by decide +kernel
theorem dX6_taken_9 : decode cX6_taken 9 = .ok (.bipush (-2), 2) := by decide +kernel
theorem dX6_taken_11 : decode cX6_taken 11 = .ok (.ireturn, 1) := by decide +kernel
theorem dX6_taken_12 : decode cX6_taken 12 = .ok (.aload_n 0, 1) := by decide +kernel
theorem dX6_taken_13 : decode cX6_taken 13 = .ok (.iload_n 1, 1) := by decide +kernel
theorem dX6_taken_14 : decode cX6_taken 14 = .ok (.invokevirtual 105, 3) := by decide +kernel
theorem dX6_taken_17 : decode cX6_taken 17 = .ok (.ifCond .ne 6, 3) := by decide +kernel
theorem dX6_taken_20 : decode cX6_taken 20 = .ok (.bipush (-11), 2) := by decide +kernel
theorem dX6_taken_22 : decode cX6_taken 22 = .ok (.ireturn, 1) := by decide +kernel
theorem dX6_taken_23 : decode cX6_taken 23 = .ok (.aload_n 0, 1) := by decide +kernel
theorem dX6_taken_24 : decode cX6_taken 24 = .ok (.getfield 13, 3) := by decide +kernel
theorem dX6_taken_27 : decode cX6_taken 27 = .ok (.iload_n 1, 1) := by decide +kernel
theorem dX6_taken_28 : decode cX6_taken 28 = .ok (.iaload, 1) := by decide +kernel
theorem dX6_taken_29 : decode cX6_taken 29 = .ok (.istore_n 3, 1) := by decide +kernel
theorem dX6_taken_30 : decode cX6_taken 30 = .ok (.iload_n 3, 1) := by decide +kernel
theorem dX6_taken_31 : decode cX6_taken 31 = .ok (.iload_n 2, 1) := by decide +kernel
theorem dX6_taken_32 : decode cX6_taken 32 = .ok (.if_icmp .eq 30, 3) := by decide +kernel
theorem dX6_taken_35 : decode cX6_taken 35 = .ok (.iload_n 3, 1) := by decide +kernel
theorem dX6_taken_36 : decode cX6_taken 36 = .ok (.ifCond .le 26, 3) := by decide +kernel
theorem dX6_taken_39 : decode cX6_taken 39 = .ok (.iload_n 3, 1) := by decide +kernel
theorem dX6_taken_40 : decode cX6_taken 40 = .ok (.iconst 3, 1) := by decide +kernel
theorem dX6_taken_41 : decode cX6_taken 41 = .ok (.if_icmp .ne 7, 3) := by decide +kernel
theorem dX6_taken_44 : decode cX6_taken 44 = .ok (.iconst 1, 1) := by decide +kernel
theorem dX6_taken_45 : decode cX6_taken 45 = .ok (.goto 13, 3) := by decide +kernel
theorem dX6_taken_48 : decode cX6_taken 48 = .ok (.iload_n 3, 1) := by decide +kernel
theorem dX6_taken_49 : decode cX6_taken 49 = .ok (.iconst 4, 1) := by decide +kernel
theorem dX6_taken_50 : decode cX6_taken 50 = .ok (.if_icmp .ne 7, 3) := by decide +kernel
theorem dX6_taken_53 : decode cX6_taken 53 = .ok (.iconst 2, 1) := by decide +kernel
theorem dX6_taken_54 : decode cX6_taken 54 = .ok (.goto 4, 3) := by decide +kernel
theorem dX6_taken_57 : decode cX6_taken 57 = .ok (.iconst 0, 1) := by decide +kernel
theorem dX6_taken_58 : decode cX6_taken 58 = .ok (.istore_n 3, 1) := by decide +kernel
theorem dX6_taken_59 : decode cX6_taken 59 = .ok (.goto (-29), 3) := by decide +kernel
theorem dX6_taken_62 : decode cX6_taken 62 = .ok (.iload_n 3, 1) := by decide +kernel
theorem dX6_taken_63 : decode cX6_taken 63 = .ok (.iload_n 2, 1) := by decide +kernel
theorem dX6_taken_64 : decode cX6_taken 64 = .ok (.if_icmp .ne 12, 3) := by decide +kernel
theorem dX6_taken_67 : decode cX6_taken 67 = .ok (.aload_n 0, 1) := by decide +kernel
theorem dX6_taken_68 : decode cX6_taken 68 = .ok (.getfield 16, 3) := by decide +kernel
theorem dX6_taken_71 : decode cX6_taken 71 = .ok (.iload_n 1, 1) := by decide +kernel
theorem dX6_taken_72 : decode cX6_taken 72 = .ok (.iaload, 1) := by decide +kernel
theorem dX6_taken_73 : decode cX6_taken 73 = .ok (.goto 5, 3) := by decide +kernel
theorem dX6_taken_76 : decode cX6_taken 76 = .ok (.bipush (-13), 2) := by decide +kernel
theorem dX6_taken_78 : decode cX6_taken 78 = .ok (.ireturn, 1) := by decide +kernel
