theorem dX11_init_0 : decode cX11_init 0 = .ok (.aload_n 0, 1) := by decide +kernel
theorem dX11_init_1 : decode cX11_init 1 = .ok (.invokespecial 1, 3) := by decide +kernel
theorem dX11_init_4 : decode cX11_init 4 = .ok (.aload_n 0, 1) := by decide +kernel
theorem dX11_init_5 : decode cX11_init 5 = .ok (.sipush 391, 3) := by decide +kernel
theorem dX11_init_8 : decode cX11_init 8 = .ok (.newarray .int, 2) := by decide +kernel
theorem dX11_init_10 : decode cX11_init 10 = .ok (.putfield 7, 3) := by decide +kernel
theorem dX11_init_13 : decode cX11_init 13 = .ok (.aload_n 0, 1) := by decide +kernel
theorem dX11_init_14 : decode cX11_init 14 = .ok (.sipush 391, 3) := by decide +kernel
theorem dX11_init_17 : decode cX11_init 17 = .ok (.newarray .int, 2) := by decide +kernel
theorem dX11_init_19 : decode cX11_init 19 = .ok (.putfield 13, 3) := by decide +kernel
theorem dX11_init_22 : decode cX11_init 22 = .ok (.aload_n 0, 1) := by decide +kernel
theorem dX11_init_23 : decode cX11_init 23 = .ok (.sipush 391, 3) := by decide +kernel
theorem dX11_init_26 : decode cX11_init 26 = .ok (.newarray .int, 2) := by decide +kernel
theorem dX11_init_28 : decode cX11_init 28 = .ok (.putfield 16, 3) := by decide +kernel
theorem dX11_init_31 : decode cX11_init 31 = .ok (.aload_n 0, 1) := by decide +kernel
theorem dX11_init_32 : decode cX11_init 32 = .ok (.bipush 64, 2) := by decide +kernel
theorem dX11_init_34 : decode cX11_init 34 = .ok (.newarray .int, 2) := by decide +kernel
theorem dX11_init_36 : decode cX11_init 36 = .ok (.putfield 19, 3) := by decide +kernel
theorem dX11_init_39 : decode cX11_init 39 = .ok (.aload_n 0, 1) := by decide +kernel
theorem dX11_init_40 : decode cX11_init 40 = .ok (.bipush 8, 2) := by decide +kernel
theorem dX11_init_42 : decode cX11_init 42 = .ok (.newarray .int, 2) := by decide +kernel
theorem dX11_init_44 : decode cX11_init 44 = .ok (.putfield 22, 3) := by decide +kernel
theorem dX11_init_47 : decode cX11_init 47 = .ok (.aload_n 0, 1) := by decide +kernel
theorem dX11_init_48 : decode cX11_init 48 = .ok (.bipush 8, 2) := by decide +kernel
theorem dX11_init_50 : decode cX11_init 50 = .ok (.newarray .int, 2) := by decide +kernel
theorem dX11_init_52 : decode cX11_init 52 = .ok (.putfield 25, 3) := by decide +kernel
theorem dX11_init_55 : decode cX11_init 55 = .ok (.aload_n 0, 1) := by decide +kernel
theorem dX11_init_56 : decode cX11_init 56 = .ok (.bipush 8, 2) := by decide +kernel
theorem dX11_init_58 : decode cX11_init 58 = .ok (.newarray .int, 2) := by decide +kernel
theorem dX11_init_60 : decode cX11_init 60 = .ok (.putfield 28, 3) := by decide +kernel
theorem dX11_init_63 : decode cX11_init 63 = .ok (.aload_n 0, 1) := by decide +kernel
theorem dX11_init_64 : decode cX11_init 64 = .ok (.sipush 260, 3) := by decide +kernel
theorem dX11_init_67 : decode cX11_init 67 = .ok (.newarray .byte, 2) := by decide +kernel
theorem dX11_init_69 : decode cX11_init 69 = .ok (.putfield 31, 3) := by decide +kernel
theorem dX11_init_72 : decode cX11_init 72 = .ok (.aload_n 0, 1) := by decide +kernel
theorem dX11_init_73 : decode cX11_init 73 = .ok (.sipush 260, 3) := by decide +kernel
theorem dX11_init_76 : decode cX11_init 76 = .ok (.newarray .int, 2) := by decide +kernel
theorem dX11_init_78 : decode cX11_init 78 = .ok (.putfield 35, 3) := by decide +kernel
theorem dX11_init_81 : decode cX11_init 81 = .ok (.aload_n 0, 1) := by decide +kernel
theorem dX11_init_82 : decode cX11_init 82 = .ok (.sipush 260, 3) := by decide +kernel
theorem dX11_init_85 : decode cX11_init 85 = .ok (.newarray .int, 2) := by decide +kernel
theorem dX11_init_87 : decode cX11_init 87 = .ok (.putfield 38, 3) := by decide +kernel
theorem dX11_init_90 : decode cX11_init 90 = .ok (.aload_n 0, 1) := by decide +kernel
theorem dX11_init_91 : decode cX11_init 91 = .ok (.bipush 16, 2) := by decide +kernel
theorem dX11_init_93 : decode cX11_init 93 = .ok (.newarray .int, 2) := by decide +kernel
theorem dX11_init_95 : decode cX11_init 95 = .ok (.putfield 41, 3) := by decide +kernel
theorem dX11_init_98 : decode cX11_init 98 = .ok (.aload_n 0, 1) := by decide +kernel
theorem dX11_init_99 : decode cX11_init 99 = .ok (.bipush 16, 2) := by decide +kernel
theorem dX11_init_101 : decode cX11_init 101 = .ok (.newarray .int, 2) := by decide +kernel
theorem dX11_init_103 : decode cX11_init 103 = .ok (.putfield 44, 3) := by decide +kernel
theorem dX11_init_106 : decode cX11_init 106 = .ok (.aload_n 0, 1) := by decide +kernel
theorem dX11_init_107 : decode cX11_init 107 = .ok (.bipush 16, 2) := by decide +kernel
theorem dX11_init_109 : decode cX11_init 109 = .ok (.newarray .int, 2) := by decide +kernel
theorem dX11_init_111 : decode cX11_init 111 = .ok (.putfield 47, 3) := by decide +kernel
theorem dX11_init_114 : decode cX11_init 114 = .ok (.aload_n 0, 1) := by decide +kernel
theorem dX11_init_115 : decode cX11_init 115 = .ok (.bipush 16, 2) := by decide +kernel
theorem dX11_init_117 : decode cX11_init 117 = .ok (.newarray .int, 2) := by decide +kernel
theorem dX11_init_119 : decode cX11_init 119 = .ok (.putfield 50, 3) := by decide +kernel
theorem dX11_init_122 : decode cX11_init 122 = .ok (.aload_n 0, 1) := by decide +kernel
theorem dX11_init_123 : decode cX11_init 123 = .ok (.sipush 260, 3) := by decide +kernel
theorem dX11_init_126 : decode cX11_init 126 = .ok (.newarray .int, 2) := by decide +kernel
theorem dX11_init_128 : decode cX11_init 128 = .ok (.putfield 53, 3) := by decide +kernel
theorem dX11_init_131 : decode cX11_init 131 = .ok (.aload_n 0, 1) := by decide +kernel
theorem dX11_init_132 : decode cX11_init 132 = .ok (.bipush 16, 2) := by decide +kernel
theorem dX11_init_134 : decode cX11_init 134 = .ok (.newarray .int, 2) := by decide +kernel
theorem dX11_init_136 : decode cX11_init 136 = .ok (.putfield 56, 3) := by decide +kernel
theorem dX11_init_139 : decode cX11_init 139 = .ok (.aload_n 0, 1) := by decide +kernel
theorem dX11_init_140 : decode cX11_init 140 = .ok (.bipush 16, 2) := by decide +kernel
theorem dX11_init_142 : decode cX11_init 142 = .ok (.newarray .int, 2) := by decide +kernel
theorem dX11_init_144 : decode cX11_init 144 = .ok (.putfield 59, 3) := by decide +kernel
theorem dX11_init_147 : decode cX11_init 147 = .ok (.aload_n 0, 1) := by decide +kernel
theorem dX11_init_148 : decode cX11_init 148 = .ok (.bipush 16, 2) := by decide +kernel
theorem dX11_init_150 : decode cX11_init 150 = .ok (.newarray .int, 2) := by decide +kernel
theorem dX11_init_152 : decode cX11_init 152 = .ok (.putfield 62, 3) := by decide +kernel
theorem dX11_init_155 : decode cX11_init 155 = .ok (.aload_n 0, 1) := by decide +kernel
theorem dX11_init_156 : decode cX11_init 156 = .ok (.bipush 16, 2) := by decide +kernel
theorem dX11_init_158 : decode cX11_init 158 = .ok (.newarray .int, 2) := by decide +kernel
theorem dX11_init_160 : decode cX11_init 160 = .ok (.putfield 65, 3) := by decide +kernel
theorem dX11_init_163 : decode cX11_init 163 = .ok (.aload_n 0, 1) := by decide +kernel
theorem dX11_init_164 : decode cX11_init 164 = .ok (.sipush 260, 3) := by decide +kernel
theorem dX11_init_167 : decode cX11_init 167 = .ok (.newarray .int, 2) := by decide +kernel
theorem dX11_init_169 : decode cX11_init 169 = .ok (.putfield 68, 3) := by decide +kernel
theorem dX11_init_172 : decode cX11_init 172 = .ok (.aload_n 0, 1) := by decide +kernel
theorem dX11_init_173 : decode cX11_init 173 = .ok (.bipush 10, 2) := by decide +kernel
theorem dX11_init_175 : decode cX11_init 175 = .ok (.newarray .int, 2) := by decide +kernel
theorem dX11_init_177 : decode cX11_init 177 = .ok (.putfield 71, 3) := by decide +kernel
theorem dX11_init_180 : decode cX11_init 180 = .ok (.aload_n 0, 1) := by decide +kernel
theorem dX11_init_181 : decode cX11_init 181 = .ok (.bipush 64, 2) := by decide +kernel
theorem dX11_init_183 : decode cX11_init 183 = .ok (.newarray .int, 2) := by decide +kernel
theorem dX11_init_185 : decode cX11_init 185 = .ok (.putfield 74, 3) := by decide +kernel
theorem dX11_init_188 : decode cX11_init 188 = .ok (.aload_n 0, 1) := by decide +kernel
theorem dX11_init_189 : decode cX11_init 189 = .ok (.bipush 8, 2) := by decide +kernel
theorem dX11_init_191 : decode cX11_init 191 = .ok (.newarray .int, 2) := by decide +kernel
theorem dX11_init_193 : decode cX11_init 193 = .ok (.putfield 77, 3) := by decide +kernel
theorem dX11_init_196 : decode cX11_init 196 = .ok (.aload_n 0, 1) := by decide +kernel
theorem dX11_init_197 : decode cX11_init 197 = .ok (.bipush 10, 2) := by decide +kernel
theorem dX11_init_199 : decode cX11_init 199 = .ok (.newarray .int, 2) := by decide +kernel
theorem dX11_init_201 : decode cX11_init 201 = .ok (.putfield 80, 3) := by decide +kernel
theorem dX11_init_204 : decode cX11_init 204 = .ok (.aload_n 0, 1) := by decide +kernel
theorem dX11_init_205 : decode cX11_init 205 = .ok (.bipush 10, 2) := by decide +kernel
theorem dX11_init_207 : decode cX11_init 207 = .ok (.newarray .int, 2) := by decide +kernel
theorem dX11_init_209 : decode cX11_init 209 = .ok (.putfield 83, 3) := by decide +kernel
theorem dX11_init_212 : decode cX11_init 212 = .ok (.aload_n 0, 1) := by decide +kernel
theorem dX11_init_213 : decode cX11_init 213 = .ok (.sipush 241, 3) := by decide +kernel
theorem dX11_init_216 : decode cX11_init 216 = .ok (.newarray .int, 2) := by decide +kernel
theorem dX11_init_218 : decode cX11_init 218 = .ok (.putfield 86, 3) := by decide +kernel
theorem dX11_init_221 : decode cX11_init 221 = .ok (.aload_n 0, 1) := by decide +kernel
theorem dX11_init_222 : decode cX11_init 222 = .ok (.sipush 1446, 3) := by decide +kernel
theorem dX11_init_225 : decode cX11_init 225 = .ok (.newarray .int, 2) := by decide +kernel
theorem dX11_init_227 : decode cX11_init 227 = .ok (.putfield 89, 3) := by decide +kernel
theorem dX11_init_230 : decode cX11_init 230 = .ok (.aload_n 0, 1) := by decide +kernel
theorem dX11_init_231 : decode cX11_init 231 = .ok (.bipush 16, 2) := by decide +kernel
theorem dX11_init_233 : decode cX11_init 233 = .ok (.newarray .int, 2) := by decide +kernel
theorem dX11_init_235 : decode cX11_init 235 = .ok (.putfield 92, 3) := by decide +kernel
theorem dX11_init_238 : decode cX11_init 238 = .ok (.aload_n 0, 1) := by decide +kernel
theorem dX11_init_239 : decode cX11_init 239 = .ok (.bipush 26, 2) := by decide +kernel
theorem dX11_init_241 : decode cX11_init 241 = .ok (.newarray .int, 2) := by decide +kernel
theorem dX11_init_243 : decode cX11_init 243 = .ok (.putfield 95, 3) := by decide +kernel
theorem dX11_init_246 : decode cX11_init 246 = .ok (.aload_n 0, 1) := by decide +kernel
theorem dX11_init_247 : decode cX11_init 247 = .ok (.bipush 48, 2) := by decide +kernel
theorem dX11_init_249 : decode cX11_init 249 = .ok (.newarray .byte, 2) := by decide +kernel
theorem dX11_init_251 : decode cX11_init 251 = .ok (.putfield 98, 3) := by decide +kernel
theorem dX11_init_254 : decode cX11_init 254 = .ok (.aload_n 0, 1) := by decide +kernel
theorem dX11_init_255 : decode cX11_init 255 = .ok (.bipush 8, 2) := by decide +kernel
theorem dX11_init_257 : decode cX11_init 257 = .ok (.newarray .int, 2) := by decide +kernel
theorem dX11_init_259 : decode cX11_init 259 = .ok (.putfield 101, 3) := by decide +kernel
theorem dX11_init_262 : decode cX11_init 262 = .ok (.aload_n 0, 1) := by decide +kernel
theorem dX11_init_263 : decode cX11_init 263 = .ok (.getfield 7, 3) := by decide +kernel
theorem dX11_init_266 : decode cX11_init 266 = .ok (.sipush 390, 3) := by decide +kernel
theorem dX11_init_269 : decode cX11_init 269 = .ok (.iconst 1, 1) := by decide +kernel
theorem dX11_init_270 : decode cX11_init 270 = .ok (.iastore, 1) := by decide +kernel
theorem dX11_init_271 : decode cX11_init 271 = .ok (.aload_n 0, 1) := by decide +kernel
theorem dX11_init_272 : decode cX11_init 272 = .ok (.iconst 1, 1) := by decide +kernel
theorem dX11_init_273 : decode cX11_init 273 = .ok (.putfield 104, 3) := by decide +kernel
theorem dX11_init_276 : decode cX11_init 276 = .ok (.aload_n 0, 1) := by decide +kernel
theorem dX11_init_277 : decode cX11_init 277 = .ok (.iconst 1, 1) := by decide +kernel
theorem dX11_init_278 : decode cX11_init 278 = .ok (.putfield 108, 3) := by decide +kernel
theorem dX11_init_281 : decode cX11_init 281 = .ok (.return_, 1) := by decide +kernel
theorem dX11_in_0 : decode cX11_in 0 = .ok (.iload_n 0, 1) := by decide +kernel
theorem dX11_in_1 : decode cX11_in 1 = .ok (.iload_n 1, 1) := by decide +kernel
theorem dX11_in_2 : decode cX11_in 2 = .ok (.if_icmp .lt 12, 3) := by decide +kernel
theorem dX11_in_5 : decode cX11_in 5 = .ok (.iload_n 0, 1) := by decide +kernel
theorem dX11_in_6 : decode cX11_in 6 = .ok (.iload_n 2, 1) := by decide +kernel
theorem dX11_in_7 : decode cX11_in 7 = .ok (.if_icmp .gt 7, 3) := by decide +kernel
theorem dX11_in_10 : decode cX11_in 10 = .ok (.iconst 1, 1) := by decide +kernel
theorem dX11_in_11 : decode cX11_in 11 = .ok (.goto 4, 3) := by decide +kernel
theorem dX11_in_14 : decode cX11_in 14 = .ok (.iconst 0, 1) := by decide +kernel
theorem dX11_in_15 : decode cX11_in 15 = .ok (.ireturn, 1) := by decide +kernel
theorem dX11_min_0 : decode cX11_min 0 = .ok (.iload_n 0, 1) := by decide +kernel
theorem dX11_min_1 : decode cX11_min 1 = .ok (.iload_n 1, 1) := by decide +kernel
theorem dX11_min_2 : decode cX11_min 2 = .ok (.if_icmp .ge 7, 3) := by decide +kernel
theorem dX11_min_5 : decode cX11_min 5 = .ok (.iload_n 0, 1) := by decide +kernel
theorem dX11_min_6 : decode cX11_min 6 = .ok (.goto 4, 3) := by decide +kernel
theorem dX11_min_9 : decode cX11_min 9 = .ok (.iload_n 1, 1) := by decide +kernel
theorem dX11_min_10 : decode cX11_min 10 = .ok (.ireturn, 1) := by decide +kernel
theorem dX11_max_0 : decode cX11_max 0 = .ok (.iload_n 0, 1) := by decide +kernel
theorem dX11_max_1 : decode cX11_max 1 = .ok (.iload_n 1, 1) := by decide +kernel
theorem dX11_max_2 : decode cX11_max 2 = .ok (.if_icmp .le 7, 3) := by decide +kernel
theorem dX11_max_5 : decode cX11_max 5 = .ok (.iload_n 0, 1) := by decide +kernel
theorem dX11_max_6 : decode cX11_max 6 = .ok (.goto 4, 3) := by decide +kernel
theorem dX11_max_9 : decode cX11_max 9 = .ok (.iload_n 1, 1) := by decide +kernel
theorem dX11_max_10 : decode cX11_max 10 = .ok (.ireturn, 1) := by decide +kernel
theorem dX11_has_0 : decode cX11_has 0 = .ok (.iload_n 0, 1) := by decide +kernel
theorem dX11_has_1 : decode cX11_has 1 = .ok (.iload_n 1, 1) := by decide +kernel
theorem dX11_has_2 : decode cX11_has 2 = .ok (.ishr, 1) := by decide +kernel
theorem dX11_has_3 : decode cX11_has 3 = .ok (.iconst 1, 1) := by decide +kernel
theorem dX11_has_4 : decode cX11_has 4 = .ok (.iand, 1) := by decide +kernel
theorem dX11_has_5 : decode cX11_has 5 = .ok (.iconst 1, 1) := by decide +kernel
theorem dX11_has_6 : decode cX11_has 6 = .ok (.if_icmp .ne 7, 3) := by decide +kernel
theorem dX11_has_9 : decode cX11_has 9 = .ok (.iconst 1, 1) := by decide +kernel
theorem dX11_has_10 : decode cX11_has 10 = .ok (.goto 4, 3) := by decide +kernel
theorem dX11_has_13 : decode cX11_has 13 = .ok (.iconst 0, 1) := by decide +kernel
theorem dX11_has_14 : decode cX11_has 14 = .ok (.ireturn, 1) := by decide +kernel
theorem dX11_bits_0 : decode cX11_bits 0 = .ok (.iconst 0, 1) := by decide +kernel
theorem dX11_bits_1 : decode cX11_bits 1 = .ok (.istore_n 1, 1) := by decide +kernel
theorem dX11_bits_2 : decode cX11_bits 2 = .ok (.iconst 0, 1) := by decide +kernel
theorem dX11_bits_3 : decode cX11_bits 3 = .ok (.istore_n 2, 1) := by decide +kernel
theorem dX11_bits_4 : decode cX11_bits 4 = .ok (.iload_n 2, 1) := by decide +kernel
theorem dX11_bits_5 : decode cX11_bits 5 = .ok (.bipush 16, 2) := by decide +kernel
theorem dX11_bits_7 : decode cX11_bits 7 = .ok (.if_icmp .ge 17, 3) := by decide +kernel
theorem dX11_bits_10 : decode cX11_bits 10 = .ok (.iload_n 1, 1) := by decide +kernel
theorem dX11_bits_11 : decode cX11_bits 11 = .ok (.iload_n 0, 1) := by decide +kernel
theorem dX11_bits_12 : decode cX11_bits 12 = .ok (.iload_n 2, 1) := by decide +kernel
theorem dX11_bits_13 : decode cX11_bits 13 = .ok (.ishr, 1) := by decide +kernel
theorem dX11_bits_14 : decode cX11_bits 14 = .ok (.iconst 1, 1) := by decide +kernel
theorem dX11_bits_15 : decode cX11_bits 15 = .ok (.iand, 1) := by decide +kernel
theorem dX11_bits_16 : decode cX11_bits 16 = .ok (.iadd, 1) := by decide +kernel
theorem dX11_bits_17 : decode cX11_bits 17 = .ok (.istore_n 1, 1) := by decide +kernel
theorem dX11_bits_18 : decode cX11_bits 18 = .ok (.iinc 2 1, 3) := by decide +kernel
theorem dX11_bits_21 : decode cX11_bits 21 = .ok (.goto (-17), 3) := by decide +kernel
theorem dX11_bits_24 : decode cX11_bits 24 = .ok (.iload_n 1, 1) := by decide +kernel
theorem dX11_bits_25 : decode cX11_bits 25 = .ok (.ireturn, 1) := by decide +kernel
theorem dX11_copies_0 : decode cX11_copies 0 = .ok (.iconst 0, 1) := by decide +kernel
theorem dX11_copies_1 : decode cX11_copies 1 = .ok (.istore_n 2, 1) := by decide +kernel
theorem dX11_copies_2 : decode cX11_copies 2 = .ok (.iload_n 2, 1) := by decide +kernel
theorem dX11_copies_3 : decode cX11_copies 3 = .ok (.sipush 391, 3) := by decide +kernel
theorem dX11_copies_6 : decode cX11_copies 6 = .ok (.if_icmp .ge 15, 3) := by decide +kernel
theorem dX11_copies_9 : decode cX11_copies 9 = .ok (.aload_n 1, 1) := by decide +kernel
theorem dX11_copies_10 : decode cX11_copies 10 = .ok (.iload_n 2, 1) := by decide +kernel
theorem dX11_copies_11 : decode cX11_copies 11 = .ok (.aload_n 0, 1) := by decide +kernel
theorem dX11_copies_12 : decode cX11_copies 12 = .ok (.iload_n 2, 1) := by decide +kernel
theorem dX11_copies_13 : decode cX11_copies 13 = .ok (.iaload, 1) := by decide +kernel
theorem dX11_copies_14 : decode cX11_copies 14 = .ok (.iastore, 1) := by decide +kernel
theorem dX11_copies_15 : decode cX11_copies 15 = .ok (.iinc 2 1, 3) := by decide +kernel
theorem dX11_copies_18 : decode cX11_copies 18 = .ok (.goto (-16), 3) := by decide +kernel
theorem dX11_copies_21 : decode cX11_copies 21 = .ok (.return_, 1) := by decide +kernel
theorem dX11_isTold_0 : decode cX11_isTold 0 = .ok (.iload_n 1, 1) := by decide +kernel
theorem dX11_isTold_1 : decode cX11_isTold 1 = .ok (.iconst 0, 1) := by decide +kernel
theorem dX11_isTold_2 : decode cX11_isTold 2 = .ok (.bipush 15, 2) := by decide +kernel
theorem dX11_isTold_4 : decode cX11_isTold 4 = .ok (.invokestatic 111, 3) := by decide +kernel
theorem dX11_isTold_7 : decode cX11_isTold 7 = .ok (.ifCond .eq 19, 3) := by decide +kernel
theorem dX11_isTold_10 : decode cX11_isTold 10 = .ok (.aload_n 0, 1) := by decide +kernel
theorem dX11_isTold_11 : decode cX11_isTold 11 = .ok (.getfield 7, 3) := by decide +kernel
theorem dX11_isTold_14 : decode cX11_isTold 14 = .ok (.iconst 0, 1) := by decide +kernel
theorem dX11_isTold_15 : decode cX11_isTold 15 = .ok (.iload_n 1, 1) := by decide +kernel
theorem dX11_isTold_16 : decode cX11_isTold 16 = .ok (.iadd, 1) := by decide +kernel
theorem dX11_isTold_17 : decode cX11_isTold 17 = .ok (.iaload, 1) := by decide +kernel
theorem dX11_isTold_18 : decode cX11_isTold 18 = .ok (.iconst 1, 1) := by decide +kernel
theorem dX11_isTold_19 : decode cX11_isTold 19 = .ok (.if_icmp .ne 7, 3) := by decide +kernel
theorem dX11_isTold_22 : decode cX11_isTold 22 = .ok (.iconst 1, 1) := by decide +kernel
theorem dX11_isTold_23 : decode cX11_isTold 23 = .ok (.goto 4, 3) := by decide +kernel
theorem dX11_isTold_26 : decode cX11_isTold 26 = .ok (.iconst 0, 1) := by decide +kernel
theorem dX11_isTold_27 : decode cX11_isTold 27 = .ok (.ireturn, 1) := by decide +kernel
theorem dX11_areTwo_0 : decode cX11_areTwo 0 = .ok (.iload_n 0, 1) := by decide +kernel
theorem dX11_areTwo_1 : decode cX11_areTwo 1 = .ok (.iconst 0, 1) := by decide +kernel
theorem dX11_areTwo_2 : decode cX11_areTwo 2 = .ok (.bipush 7, 2) := by decide +kernel
theorem dX11_areTwo_4 : decode cX11_areTwo 4 = .ok (.invokestatic 111, 3) := by decide +kernel
theorem dX11_areTwo_7 : decode cX11_areTwo 7 = .ok (.ifCond .eq 22, 3) := by decide +kernel
theorem dX11_areTwo_10 : decode cX11_areTwo 10 = .ok (.iload_n 1, 1) := by decide +kernel
theorem dX11_areTwo_11 : decode cX11_areTwo 11 = .ok (.iconst 0, 1) := by decide +kernel
theorem dX11_areTwo_12 : decode cX11_areTwo 12 = .ok (.bipush 7, 2) := by decide +kernel
theorem dX11_areTwo_14 : decode cX11_areTwo 14 = .ok (.invokestatic 111, 3) := by decide +kernel
theorem dX11_areTwo_17 : decode cX11_areTwo 17 = .ok (.ifCond .eq 12, 3) := by decide +kernel
theorem dX11_areTwo_20 : decode cX11_areTwo 20 = .ok (.iload_n 0, 1) := by decide +kernel
theorem dX11_areTwo_21 : decode cX11_areTwo 21 = .ok (.iload_n 1, 1) := by decide +kernel
theorem dX11_areTwo_22 : decode cX11_areTwo 22 = .ok (.if_icmp .eq 7, 3) := by decide +kernel
theorem dX11_areTwo_25 : decode cX11_areTwo 25 = .ok (.iconst 1, 1) := by decide +kernel
theorem dX11_areTwo_26 : decode cX11_areTwo 26 = .ok (.goto 4, 3) := by decide +kernel
theorem dX11_areTwo_29 : decode cX11_areTwo 29 = .ok (.iconst 0, 1) := by decide +kernel
theorem dX11_areTwo_30 : decode cX11_areTwo 30 = .ok (.ireturn, 1) := by decide +kernel
theorem dX11_callOf_0 : decode cX11_callOf 0 = .ok (.iconst 0, 1) := by decide +kernel
theorem dX11_callOf_1 : decode cX11_callOf 1 = .ok (.istore_n 2, 1) := by decide +kernel
theorem dX11_callOf_2 : decode cX11_callOf 2 = .ok (.iload_n 2, 1) := by decide +kernel
theorem dX11_callOf_3 : decode cX11_callOf 3 = .ok (.bipush 20, 2) := by decide +kernel
theorem dX11_callOf_5 : decode cX11_callOf 5 = .ok (.if_icmp .ge 52, 3) := by decide +kernel
theorem dX11_callOf_8 : decode cX11_callOf 8 = .ok (.aload_n 0, 1) := by decide +kernel
theorem dX11_callOf_9 : decode cX11_callOf 9 = .ok (.getfield 7, 3) := by decide +kernel
theorem dX11_callOf_12 : decode cX11_callOf 12 = .ok (.sipush 188, 3) := by decide +kernel
theorem dX11_callOf_15 : decode cX11_callOf 15 = .ok (.iload_n 2, 1) := by decide +kernel
theorem dX11_callOf_16 : decode cX11_callOf 16 = .ok (.iadd, 1) := by decide +kernel
theorem dX11_callOf_17 : decode cX11_callOf 17 = .ok (.iaload, 1) := by decide +kernel
theorem dX11_callOf_18 : decode cX11_callOf 18 = .ok (.ifCond .le 33, 3) := by decide +kernel
theorem dX11_callOf_21 : decode cX11_callOf 21 = .ok (.aload_n 0, 1) := by decide +kernel
theorem dX11_callOf_22 : decode cX11_callOf 22 = .ok (.getfield 7, 3) := by decide +kernel
theorem dX11_callOf_25 : decode cX11_callOf 25 = .ok (.sipush 128, 3) := by decide +kernel
theorem dX11_callOf_28 : decode cX11_callOf 28 = .ok (.iload_n 2, 1) := by decide +kernel
theorem dX11_callOf_29 : decode cX11_callOf 29 = .ok (.iadd, 1) := by decide +kernel
theorem dX11_callOf_30 : decode cX11_callOf 30 = .ok (.iaload, 1) := by decide +kernel
theorem dX11_callOf_31 : decode cX11_callOf 31 = .ok (.iload_n 1, 1) := by decide +kernel
theorem dX11_callOf_32 : decode cX11_callOf 32 = .ok (.if_icmp .eq 17, 3) := by decide +kernel
theorem dX11_callOf_35 : decode cX11_callOf 35 = .ok (.aload_n 0, 1) := by decide +kernel
theorem dX11_callOf_36 : decode cX11_callOf 36 = .ok (.getfield 7, 3) := by decide +kernel
theorem dX11_callOf_39 : decode cX11_callOf 39 = .ok (.sipush 148, 3) := by decide +kernel
theorem dX11_callOf_42 : decode cX11_callOf 42 = .ok (.iload_n 2, 1) := by decide +kernel
theorem dX11_callOf_43 : decode cX11_callOf 43 = .ok (.iadd, 1) := by decide +kernel
theorem dX11_callOf_44 : decode cX11_callOf 44 = .ok (.iaload, 1) := by decide +kernel
theorem dX11_callOf_45 : decode cX11_callOf 45 = .ok (.iload_n 1, 1) := by decide +kernel
theorem dX11_callOf_46 : decode cX11_callOf 46 = .ok (.if_icmp .ne 5, 3) := by decide +kernel
theorem dX11_callOf_49 : decode cX11_callOf 49 = .ok (.iload_n 2, 1) := by decide +kernel
theorem dX11_callOf_50 : decode cX11_callOf 50 = .ok (.ireturn, 1) := by decide +kernel
theorem dX11_callOf_51 : decode cX11_callOf 51 = .ok (.iinc 2 1, 3) := by decide +kernel
theorem dX11_callOf_54 : decode cX11_callOf 54 = .ok (.goto (-52), 3) := by decide +kernel
theorem dX11_callOf_57 : decode cX11_callOf 57 = .ok (.iconst (-1), 1) := by decide +kernel
theorem dX11_callOf_58 : decode cX11_callOf 58 = .ok (.ireturn, 1) := by decide +kernel
theorem dX11_endsCallOf_0 : decode cX11_endsCallOf 0 = .ok (.aload_n 0, 1) := by decide +kernel
theorem dX11_endsCallOf_1 : decode cX11_endsCallOf 1 = .ok (.iload_n 1, 1) := by decide +kernel
theorem dX11_endsCallOf_2 : decode cX11_endsCallOf 2 = .ok (.invokevirtual 115, 3) := by decide +kernel
theorem dX11_endsCallOf_5 : decode cX11_endsCallOf 5 = .ok (.istore_n 2, 1) := by decide +kernel
theorem dX11_endsCallOf_6 : decode cX11_endsCallOf 6 = .ok (.iload_n 2, 1) := by decide +kernel
theorem dX11_endsCallOf_7 : decode cX11_endsCallOf 7 = .ok (.iconst (-1), 1) := by decide +kernel
theorem dX11_endsCallOf_8 : decode cX11_endsCallOf 8 = .ok (.if_icmp .eq 14, 3) := by decide +kernel
theorem dX11_endsCallOf_11 : decode cX11_endsCallOf 11 = .ok (.aload_n 0, 1) := by decide +kernel
theorem dX11_endsCallOf_12 : decode cX11_endsCallOf 12 = .ok (.getfield 7, 3) := by decide +kernel
theorem dX11_endsCallOf_15 : decode cX11_endsCallOf 15 = .ok (.sipush 188, 3) := by decide +kernel
theorem dX11_endsCallOf_18 : decode cX11_endsCallOf 18 = .ok (.iload_n 2, 1) := by decide +kernel
theorem dX11_endsCallOf_19 : decode cX11_endsCallOf 19 = .ok (.iadd, 1) := by decide +kernel
theorem dX11_endsCallOf_20 : decode cX11_endsCallOf 20 = .ok (.iconst 0, 1) := by decide +kernel
theorem dX11_endsCallOf_21 : decode cX11_endsCallOf 21 = .ok (.iastore, 1) := by decide +kernel
theorem dX11_endsCallOf_22 : decode cX11_endsCallOf 22 = .ok (.return_, 1) := by decide +kernel
theorem dX11_isFree_0 : decode cX11_isFree 0 = .ok (.aload_n 0, 1) := by decide +kernel
theorem dX11_isFree_1 : decode cX11_isFree 1 = .ok (.iload_n 1, 1) := by decide +kernel
theorem dX11_isFree_2 : decode cX11_isFree 2 = .ok (.invokevirtual 119, 3) := by decide +kernel
theorem dX11_isFree_5 : decode cX11_isFree 5 = .ok (.ifCond .eq 41, 3) := by decide +kernel
theorem dX11_isFree_8 : decode cX11_isFree 8 = .ok (.aload_n 0, 1) := by decide +kernel
theorem dX11_isFree_9 : decode cX11_isFree 9 = .ok (.getfield 7, 3) := by decide +kernel
theorem dX11_isFree_12 : decode cX11_isFree 12 = .ok (.bipush 48, 2) := by decide +kernel
theorem dX11_isFree_14 : decode cX11_isFree 14 = .ok (.iload_n 1, 1) := by decide +kernel
theorem dX11_isFree_15 : decode cX11_isFree 15 = .ok (.iadd, 1) := by decide +kernel
theorem dX11_isFree_16 : decode cX11_isFree 16 = .ok (.iaload, 1) := by decide +kernel
theorem dX11_isFree_17 : decode cX11_isFree 17 = .ok (.iconst 1, 1) := by decide +kernel
theorem dX11_isFree_18 : decode cX11_isFree 18 = .ok (.if_icmp .ne 28, 3) := by decide +kernel
theorem dX11_isFree_21 : decode cX11_isFree 21 = .ok (.aload_n 0, 1) := by decide +kernel
theorem dX11_isFree_22 : decode cX11_isFree 22 = .ok (.getfield 7, 3) := by decide +kernel
theorem dX11_isFree_25 : decode cX11_isFree 25 = .ok (.bipush 64, 2) := by decide +kernel
theorem dX11_isFree_27 : decode cX11_isFree 27 = .ok (.iload_n 1, 1) := by decide +kernel
theorem dX11_isFree_28 : decode cX11_isFree 28 = .ok (.iadd, 1) := by decide +kernel
theorem dX11_isFree_29 : decode cX11_isFree 29 = .ok (.iaload, 1) := by decide +kernel
theorem dX11_isFree_30 : decode cX11_isFree 30 = .ok (.ifCond .ne 16, 3) := by decide +kernel
theorem dX11_isFree_33 : decode cX11_isFree 33 = .ok (.aload_n 0, 1) := by decide +kernel
theorem dX11_isFree_34 : decode cX11_isFree 34 = .ok (.iload_n 1, 1) := by decide +kernel
theorem dX11_isFree_35 : decode cX11_isFree 35 = .ok (.invokevirtual 115, 3) := by decide +kernel
theorem dX11_isFree_38 : decode cX11_isFree 38 = .ok (.iconst (-1), 1) := by decide +kernel
theorem dX11_isFree_39 : decode cX11_isFree 39 = .ok (.if_icmp .ne 7, 3) := by decide +kernel
theorem dX11_isFree_42 : decode cX11_isFree 42 = .ok (.iconst 1, 1) := by decide +kernel
theorem dX11_isFree_43 : decode cX11_isFree 43 = .ok (.goto 4, 3) := by decide +kernel
theorem dX11_isFree_46 : decode cX11_isFree 46 = .ok (.iconst 0, 1) := by decide +kernel
theorem dX11_isFree_47 : decode cX11_isFree 47 = .ok (.ireturn, 1) := by decide +kernel
theorem dX11_trunk_0 : decode cX11_trunk 0 = .ok (.iload_n 1, 1) := by decide +kernel
theorem dX11_trunk_1 : decode cX11_trunk 1 = .ok (.iload_n 2, 1) := by decide +kernel
theorem dX11_trunk_2 : decode cX11_trunk 2 = .ok (.invokestatic 123, 3) := by decide +kernel
theorem dX11_trunk_5 : decode cX11_trunk 5 = .ok (.ifCond .eq 13, 3) := by decide +kernel
theorem dX11_trunk_8 : decode cX11_trunk 8 = .ok (.iload_n 3, 1) := by decide +kernel
theorem dX11_trunk_9 : decode cX11_trunk 9 = .ok (.iconst 0, 1) := by decide +kernel
theorem dX11_trunk_10 : decode cX11_trunk 10 = .ok (.bipush 9, 2) := by decide +kernel
theorem dX11_trunk_12 : decode cX11_trunk 12 = .ok (.invokestatic 111, 3) := by decide +kernel
theorem dX11_trunk_15 : decode cX11_trunk 15 = .ok (.ifCond .ne 5, 3) := by decide +kernel
theorem dX11_trunk_18 : decode cX11_trunk 18 = .ok (.iconst 0, 1) := by decide +kernel
theorem dX11_trunk_19 : decode cX11_trunk 19 = .ok (.ireturn, 1) := by decide +kernel
theorem dX11_trunk_20 : decode cX11_trunk 20 = .ok (.aload_n 0, 1) := by decide +kernel
theorem dX11_trunk_21 : decode cX11_trunk 21 = .ok (.getfield 19, 3) := by decide +kernel
theorem dX11_trunk_24 : decode cX11_trunk 24 = .ok (.bipush 8, 2) := by decide +kernel
theorem dX11_trunk_26 : decode cX11_trunk 26 = .ok (.iload_n 1, 1) := by decide +kernel
theorem dX11_trunk_27 : decode cX11_trunk 27 = .ok (.imul, 1) := by decide +kernel
theorem dX11_trunk_28 : decode cX11_trunk 28 = .ok (.iload_n 2, 1) := by decide +kernel
theorem dX11_trunk_29 : decode cX11_trunk 29 = .ok (.iadd, 1) := by decide +kernel
theorem dX11_trunk_30 : decode cX11_trunk 30 = .ok (.iload_n 3, 1) := by decide +kernel
theorem dX11_trunk_31 : decode cX11_trunk 31 = .ok (.iastore, 1) := by decide +kernel
theorem dX11_trunk_32 : decode cX11_trunk 32 = .ok (.aload_n 0, 1) := by decide +kernel
theorem dX11_trunk_33 : decode cX11_trunk 33 = .ok (.getfield 19, 3) := by decide +kernel
theorem dX11_trunk_36 : decode cX11_trunk 36 = .ok (.bipush 8, 2) := by decide +kernel
theorem dX11_trunk_38 : decode cX11_trunk 38 = .ok (.iload_n 2, 1) := by decide +kernel
theorem dX11_trunk_39 : decode cX11_trunk 39 = .ok (.imul, 1) := by decide +kernel
theorem dX11_trunk_40 : decode cX11_trunk 40 = .ok (.iload_n 1, 1) := by decide +kernel
theorem dX11_trunk_41 : decode cX11_trunk 41 = .ok (.iadd, 1) := by decide +kernel
theorem dX11_trunk_42 : decode cX11_trunk 42 = .ok (.iload_n 3, 1) := by decide +kernel
theorem dX11_trunk_43 : decode cX11_trunk 43 = .ok (.iastore, 1) := by decide +kernel
theorem dX11_trunk_44 : decode cX11_trunk 44 = .ok (.iconst 1, 1) := by decide +kernel
theorem dX11_trunk_45 : decode cX11_trunk 45 = .ok (.ireturn, 1) := by decide +kernel
theorem dX11_subscriber_0 : decode cX11_subscriber 0 = .ok (.iload_n 1, 1) := by decide +kernel
theorem dX11_subscriber_1 : decode cX11_subscriber 1 = .ok (.iconst 0, 1) := by decide +kernel
theorem dX11_subscriber_2 : decode cX11_subscriber 2 = .ok (.bipush 15, 2) := by decide +kernel
theorem dX11_subscriber_4 : decode cX11_subscriber 4 = .ok (.invokestatic 111, 3) := by decide +kernel
theorem dX11_subscriber_7 : decode cX11_subscriber 7 = .ok (.ifCond .eq 13, 3) := by decide +kernel
theorem dX11_subscriber_10 : decode cX11_subscriber 10 = .ok (.iload_n 2, 1) := by decide +kernel
theorem dX11_subscriber_11 : decode cX11_subscriber 11 = .ok (.iconst 0, 1) := by decide +kernel
theorem dX11_subscriber_12 : decode cX11_subscriber 12 = .ok (.bipush 7, 2) := by decide +kernel
theorem dX11_subscriber_14 : decode cX11_subscriber 14 = .ok (.invokestatic 111, 3) := by decide +kernel
theorem dX11_subscriber_17 : decode cX11_subscriber 17 = .ok (.ifCond .ne 5, 3) := by decide +kernel
theorem dX11_subscriber_20 : decode cX11_subscriber 20 = .ok (.iconst 0, 1) := by decide +kernel
theorem dX11_subscriber_21 : decode cX11_subscriber 21 = .ok (.ireturn, 1) := by decide +kernel
theorem dX11_subscriber_22 : decode cX11_subscriber 22 = .ok (.aload_n 0, 1) := by decide +kernel
theorem dX11_subscriber_23 : decode cX11_subscriber 23 = .ok (.iload_n 1, 1) := by decide +kernel
theorem dX11_subscriber_24 : decode cX11_subscriber 24 = .ok (.invokevirtual 119, 3) := by decide +kernel
theorem dX11_subscriber_27 : decode cX11_subscriber 27 = .ok (.ifCond .eq 8, 3) := by decide +kernel
theorem dX11_subscriber_30 : decode cX11_subscriber 30 = .ok (.aload_n 0, 1) := by decide +kernel
theorem dX11_subscriber_31 : decode cX11_subscriber 31 = .ok (.iload_n 1, 1) := by decide +kernel
theorem dX11_subscriber_32 : decode cX11_subscriber 32 = .ok (.invokevirtual 127, 3) := by decide +kernel
theorem dX11_subscriber_35 : decode cX11_subscriber 35 = .ok (.aload_n 0, 1) := by decide +kernel
theorem dX11_subscriber_36 : decode cX11_subscriber 36 = .ok (.getfield 7, 3) := by decide +kernel
theorem dX11_subscriber_39 : decode cX11_subscriber 39 = .ok (.iconst 0, 1) := by decide +kernel
theorem dX11_subscriber_40 : decode cX11_subscriber 40 = .ok (.iload_n 1, 1) := by decide +kernel
theorem dX11_subscriber_41 : decode cX11_subscriber 41 = .ok (.iadd, 1) := by decide +kernel
theorem dX11_subscriber_42 : decode cX11_subscriber 42 = .ok (.iconst 1, 1) := by decide +kernel
theorem dX11_subscriber_43 : decode cX11_subscriber 43 = .ok (.iastore, 1) := by decide +kernel
theorem dX11_subscriber_44 : decode cX11_subscriber 44 = .ok (.aload_n 0, 1) := by decide +kernel
theorem dX11_subscriber_45 : decode cX11_subscriber 45 = .ok (.getfield 7, 3) := by decide +kernel
theorem dX11_subscriber_48 : decode cX11_subscriber 48 = .ok (.bipush 16, 2) := by decide +kernel
theorem dX11_subscriber_50 : decode cX11_subscriber 50 = .ok (.iload_n 1, 1) := by decide +kernel
theorem dX11_subscriber_51 : decode cX11_subscriber 51 = .ok (.iadd, 1) := by decide +kernel
theorem dX11_subscriber_52 : decode cX11_subscriber 52 = .ok (.iload_n 2, 1) := by decide +kernel
theorem dX11_subscriber_53 : decode cX11_subscriber 53 = .ok (.iastore, 1) := by decide +kernel
theorem dX11_subscriber_54 : decode cX11_subscriber 54 = .ok (.aload_n 0, 1) := by decide +kernel
theorem dX11_subscriber_55 : decode cX11_subscriber 55 = .ok (.getfield 7, 3) := by decide +kernel
theorem dX11_subscriber_58 : decode cX11_subscriber 58 = .ok (.bipush 32, 2) := by decide +kernel
theorem dX11_subscriber_60 : decode cX11_subscriber 60 = .ok (.iload_n 1, 1) := by decide +kernel
theorem dX11_subscriber_61 : decode cX11_subscriber 61 = .ok (.iadd, 1) := by decide +kernel
theorem dX11_subscriber_62 : decode cX11_subscriber 62 = .ok (.iload_n 3, 1) := by decide +kernel
theorem dX11_subscriber_63 : decode cX11_subscriber 63 = .ok (.ifCond .eq 7, 3) := by decide +kernel
theorem dX11_subscriber_66 : decode cX11_subscriber 66 = .ok (.iconst 1, 1) := by decide +kernel
theorem dX11_subscriber_67 : decode cX11_subscriber 67 = .ok (.goto 4, 3) := by decide +kernel
theorem dX11_subscriber_70 : decode cX11_subscriber 70 = .ok (.iconst 0, 1) := by decide +kernel
theorem dX11_subscriber_71 : decode cX11_subscriber 71 = .ok (.iastore, 1) := by decide +kernel
theorem dX11_subscriber_72 : decode cX11_subscriber 72 = .ok (.aload_n 0, 1) := by decide +kernel
theorem dX11_subscriber_73 : decode cX11_subscriber 73 = .ok (.getfield 7, 3) := by decide +kernel
theorem dX11_subscriber_76 : decode cX11_subscriber 76 = .ok (.bipush 48, 2) := by decide +kernel
theorem dX11_subscriber_78 : decode cX11_subscriber 78 = .ok (.iload_n 1, 1) := by decide +kernel
theorem dX11_subscriber_79 : decode cX11_subscriber 79 = .ok (.iadd, 1) := by decide +kernel
theorem dX11_subscriber_80 : decode cX11_subscriber 80 = .ok (.iconst 1, 1) := by decide +kernel
theorem dX11_subscriber_81 : decode cX11_subscriber 81 = .ok (.iastore, 1) := by decide +kernel
theorem dX11_subscriber_82 : decode cX11_subscriber 82 = .ok (.aload_n 0, 1) := by decide +kernel
theorem dX11_subscriber_83 : decode cX11_subscriber 83 = .ok (.getfield 7, 3) := by decide +kernel
theorem dX11_subscriber_86 : decode cX11_subscriber 86 = .ok (.bipush 64, 2) := by decide +kernel
theorem dX11_subscriber_88 : decode cX11_subscriber 88 = .ok (.iload_n 1, 1) := by decide +kernel
theorem dX11_subscriber_89 : decode cX11_subscriber 89 = .ok (.iadd, 1) := by decide +kernel
theorem dX11_subscriber_90 : decode cX11_subscriber 90 = .ok (.iconst 0, 1) := by decide +kernel
theorem dX11_subscriber_91 : decode cX11_subscriber 91 = .ok (.iastore, 1) := by decide +kernel
theorem dX11_subscriber_92 : decode cX11_subscriber 92 = .ok (.aload_n 0, 1) := by decide +kernel
theorem dX11_subscriber_93 : decode cX11_subscriber 93 = .ok (.getfield 7, 3) := by decide +kernel
theorem dX11_subscriber_96 : decode cX11_subscriber 96 = .ok (.bipush 80, 2) := by decide +kernel
theorem dX11_subscriber_98 : decode cX11_subscriber 98 = .ok (.iload_n 1, 1) := by decide +kernel
theorem dX11_subscriber_99 : decode cX11_subscriber 99 = .ok (.iadd, 1) := by decide +kernel
theorem dX11_subscriber_100 : decode cX11_subscriber 100 = .ok (.iconst 0, 1) := by decide +kernel
theorem dX11_subscriber_101 : decode cX11_subscriber 101 = .ok (.iastore, 1) := by decide +kernel
theorem dX11_subscriber_102 : decode cX11_subscriber 102 = .ok (.aload_n 0, 1) := by decide +kernel
theorem dX11_subscriber_103 : decode cX11_subscriber 103 = .ok (.getfield 7, 3) := by decide +kernel
theorem dX11_subscriber_106 : decode cX11_subscriber 106 = .ok (.bipush 96, 2) := by decide +kernel
theorem dX11_subscriber_108 : decode cX11_subscriber 108 = .ok (.iload_n 1, 1) := by decide +kernel
theorem dX11_subscriber_109 : decode cX11_subscriber 109 = .ok (.iadd, 1) := by decide +kernel
theorem dX11_subscriber_110 : decode cX11_subscriber 110 = .ok (.iconst 0, 1) := by decide +kernel
theorem dX11_subscriber_111 : decode cX11_subscriber 111 = .ok (.iastore, 1) := by decide +kernel
theorem dX11_subscriber_112 : decode cX11_subscriber 112 = .ok (.aload_n 0, 1) := by decide +kernel
theorem dX11_subscriber_113 : decode cX11_subscriber 113 = .ok (.getfield 7, 3) := by decide +kernel
theorem dX11_subscriber_116 : decode cX11_subscriber 116 = .ok (.bipush 112, 2) := by decide +kernel
theorem dX11_subscriber_118 : decode cX11_subscriber 118 = .ok (.iload_n 1, 1) := by decide +kernel
theorem dX11_subscriber_119 : decode cX11_subscriber 119 = .ok (.iadd, 1) := by decide +kernel
theorem dX11_subscriber_120 : decode cX11_subscriber 120 = .ok (.iconst 0, 1) := by decide +kernel
theorem dX11_subscriber_121 : decode cX11_subscriber 121 = .ok (.iastore, 1) := by decide +kernel
theorem dX11_subscriber_122 : decode cX11_subscriber 122 = .ok (.iconst 1, 1) := by decide +kernel
theorem dX11_subscriber_123 : decode cX11_subscriber 123 = .ok (.ireturn, 1) := by decide +kernel
theorem dX11_fund_0 : decode cX11_fund 0 = .ok (.iload_n 1, 1) := by decide +kernel
theorem dX11_fund_1 : decode cX11_fund 1 = .ok (.iconst 0, 1) := by decide +kernel
theorem dX11_fund_2 : decode cX11_fund 2 = .ok (.ldc 131, 2) := by decide +kernel
theorem dX11_fund_4 : decode cX11_fund 4 = .ok (.invokestatic 111, 3) := by decide +kernel
theorem dX11_fund_7 : decode cX11_fund 7 = .ok (.ifCond .ne 5, 3) := by decide +kernel
theorem dX11_fund_10 : decode cX11_fund 10 = .ok (.iconst 0, 1) := by decide +kernel
theorem dX11_fund_11 : decode cX11_fund 11 = .ok (.ireturn, 1) := by decide +kernel
theorem dX11_fund_12 : decode cX11_fund 12 = .ok (.aload_n 0, 1) := by decide +kernel
theorem dX11_fund_13 : decode cX11_fund 13 = .ok (.getfield 7, 3) := by decide +kernel
theorem dX11_fund_16 : decode cX11_fund 16 = .ok (.sipush 388, 3) := by decide +kernel
theorem dX11_fund_19 : decode cX11_fund 19 = .ok (.iload_n 1, 1) := by decide +kernel
theorem dX11_fund_20 : decode cX11_fund 20 = .ok (.iastore, 1) := by decide +kernel
theorem dX11_fund_21 : decode cX11_fund 21 = .ok (.iconst 1, 1) := by decide +kernel
theorem dX11_fund_22 : decode cX11_fund 22 = .ok (.ireturn, 1) := by decide +kernel
theorem dX11_rate_0 : decode cX11_rate 0 = .ok (.iload_n 1, 1) := by decide +kernel
theorem dX11_rate_1 : decode cX11_rate 1 = .ok (.iconst 0, 1) := by decide +kernel
theorem dX11_rate_2 : decode cX11_rate 2 = .ok (.bipush 99, 2) := by decide +kernel
theorem dX11_rate_4 : decode cX11_rate 4 = .ok (.invokestatic 111, 3) := by decide +kernel
theorem dX11_rate_7 : decode cX11_rate 7 = .ok (.ifCond .eq 13, 3) := by decide +kernel
theorem dX11_rate_10 : decode cX11_rate 10 = .ok (.iload_n 2, 1) := by decide +kernel
theorem dX11_rate_11 : decode cX11_rate 11 = .ok (.iconst 0, 1) := by decide +kernel
theorem dX11_rate_12 : decode cX11_rate 12 = .ok (.bipush 99, 2) := by decide +kernel
theorem dX11_rate_14 : decode cX11_rate 14 = .ok (.invokestatic 111, 3) := by decide +kernel
theorem dX11_rate_17 : decode cX11_rate 17 = .ok (.ifCond .ne 5, 3) := by decide +kernel
theorem dX11_rate_20 : decode cX11_rate 20 = .ok (.iconst 0, 1) := by decide +kernel
theorem dX11_rate_21 : decode cX11_rate 21 = .ok (.ireturn, 1) := by decide +kernel
theorem dX11_rate_22 : decode cX11_rate 22 = .ok (.aload_n 0, 1) := by decide +kernel
theorem dX11_rate_23 : decode cX11_rate 23 = .ok (.iload_n 1, 1) := by decide +kernel
theorem dX11_rate_24 : decode cX11_rate 24 = .ok (.putfield 104, 3) := by decide +kernel
theorem dX11_rate_27 : decode cX11_rate 27 = .ok (.aload_n 0, 1) := by decide +kernel
theorem dX11_rate_28 : decode cX11_rate 28 = .ok (.iload_n 2, 1) := by decide +kernel
theorem dX11_rate_29 : decode cX11_rate 29 = .ok (.putfield 108, 3) := by decide +kernel
theorem dX11_rate_32 : decode cX11_rate 32 = .ok (.iconst 1, 1) := by decide +kernel
theorem dX11_rate_33 : decode cX11_rate 33 = .ok (.ireturn, 1) := by decide +kernel
theorem dX11_usedBetween_0 : decode cX11_usedBetween 0 = .ok (.iconst 0, 1) := by decide +kernel
theorem dX11_usedBetween_1 : decode cX11_usedBetween 1 = .ok (.istore_n 3, 1) := by decide +kernel
theorem dX11_usedBetween_2 : decode cX11_usedBetween 2 = .ok (.iconst 0, 1) := by decide +kernel
theorem dX11_usedBetween_3 : decode cX11_usedBetween 3 = .ok (.istore 4, 2) := by decide +kernel
theorem dX11_usedBetween_5 : decode cX11_usedBetween 5 = .ok (.iload 4, 2) := by decide +kernel
theorem dX11_usedBetween_7 : decode cX11_usedBetween 7 = .ok (.bipush 20, 2) := by decide +kernel
theorem dX11_usedBetween_9 : decode cX11_usedBetween 9 = .ok (.if_icmp .ge 116, 3) := by decide +kernel
theorem dX11_usedBetween_12 : decode cX11_usedBetween 12 = .ok (.iconst 0, 1) := by decide +kernel
theorem dX11_usedBetween_13 : decode cX11_usedBetween 13 = .ok (.istore 5, 2) := by decide +kernel
theorem dX11_usedBetween_15 : decode cX11_usedBetween 15 = .ok (.iload 5, 2) := by decide +kernel
theorem dX11_usedBetween_17 : decode cX11_usedBetween 17 = .ok (.aload_n 0, 1) := by decide +kernel
theorem dX11_usedBetween_18 : decode cX11_usedBetween 18 = .ok (.getfield 7, 3) := by decide +kernel
theorem dX11_usedBetween_21 : decode cX11_usedBetween 21 = .ok (.sipush 208, 3) := by decide +kernel
theorem dX11_usedBetween_24 : decode cX11_usedBetween 24 = .ok (.iload 4, 2) := by decide +kernel
theorem dX11_usedBetween_26 : decode cX11_usedBetween 26 = .ok (.iadd, 1) := by decide +kernel
theorem dX11_usedBetween_27 : decode cX11_usedBetween 27 = .ok (.iaload, 1) := by decide +kernel
theorem dX11_usedBetween_28 : decode cX11_usedBetween 28 = .ok (.if_icmp .ge 91, 3) := by decide +kernel
theorem dX11_usedBetween_31 : decode cX11_usedBetween 31 = .ok (.aload_n 0, 1) := by decide +kernel
theorem dX11_usedBetween_32 : decode cX11_usedBetween 32 = .ok (.getfield 7, 3) := by decide +kernel
theorem dX11_usedBetween_35 : decode cX11_usedBetween 35 = .ok (.sipush 188, 3) := by decide +kernel
theorem dX11_usedBetween_38 : decode cX11_usedBetween 38 = .ok (.iload 4, 2) := by decide +kernel
theorem dX11_usedBetween_40 : decode cX11_usedBetween 40 = .ok (.iadd, 1) := by decide +kernel
theorem dX11_usedBetween_41 : decode cX11_usedBetween 41 = .ok (.iaload, 1) := by decide +kernel
theorem dX11_usedBetween_42 : decode cX11_usedBetween 42 = .ok (.ifCond .le 77, 3) := by decide +kernel
theorem dX11_usedBetween_45 : decode cX11_usedBetween 45 = .ok (.aload_n 0, 1) := by decide +kernel
theorem dX11_usedBetween_46 : decode cX11_usedBetween 46 = .ok (.getfield 7, 3) := by decide +kernel
theorem dX11_usedBetween_49 : decode cX11_usedBetween 49 = .ok (.sipush 228, 3) := by decide +kernel
theorem dX11_usedBetween_52 : decode cX11_usedBetween 52 = .ok (.bipush 8, 2) := by decide +kernel
theorem dX11_usedBetween_54 : decode cX11_usedBetween 54 = .ok (.iload 4, 2) := by decide +kernel
theorem dX11_usedBetween_56 : decode cX11_usedBetween 56 = .ok (.imul, 1) := by decide +kernel
theorem dX11_usedBetween_57 : decode cX11_usedBetween 57 = .ok (.iadd, 1) := by decide +kernel
theorem dX11_usedBetween_58 : decode cX11_usedBetween 58 = .ok (.iload 5, 2) := by decide +kernel
theorem dX11_usedBetween_60 : decode cX11_usedBetween 60 = .ok (.iadd, 1) := by decide +kernel
theorem dX11_usedBetween_61 : decode cX11_usedBetween 61 = .ok (.iaload, 1) := by decide +kernel
theorem dX11_usedBetween_62 : decode cX11_usedBetween 62 = .ok (.istore 6, 2) := by decide +kernel
theorem dX11_usedBetween_64 : decode cX11_usedBetween 64 = .ok (.aload_n 0, 1) := by decide +kernel
theorem dX11_usedBetween_65 : decode cX11_usedBetween 65 = .ok (.getfield 7, 3) := by decide +kernel
theorem dX11_usedBetween_68 : decode cX11_usedBetween 68 = .ok (.sipush 228, 3) := by decide +kernel
theorem dX11_usedBetween_71 : decode cX11_usedBetween 71 = .ok (.bipush 8, 2) := by decide +kernel
theorem dX11_usedBetween_73 : decode cX11_usedBetween 73 = .ok (.iload 4, 2) := by decide +kernel
theorem dX11_usedBetween_75 : decode cX11_usedBetween 75 = .ok (.imul, 1) := by decide +kernel
theorem dX11_usedBetween_76 : decode cX11_usedBetween 76 = .ok (.iadd, 1) := by decide +kernel
theorem dX11_usedBetween_77 : decode cX11_usedBetween 77 = .ok (.iload 5, 2) := by decide +kernel
theorem dX11_usedBetween_79 : decode cX11_usedBetween 79 = .ok (.iadd, 1) := by decide +kernel
theorem dX11_usedBetween_80 : decode cX11_usedBetween 80 = .ok (.iconst 1, 1) := by decide +kernel
theorem dX11_usedBetween_81 : decode cX11_usedBetween 81 = .ok (.iadd, 1) := by decide +kernel
theorem dX11_usedBetween_82 : decode cX11_usedBetween 82 = .ok (.iaload, 1) := by decide +kernel
theorem dX11_usedBetween_83 : decode cX11_usedBetween 83 = .ok (.istore 7, 2) := by decide +kernel
theorem dX11_usedBetween_85 : decode cX11_usedBetween 85 = .ok (.iload 6, 2) := by decide +kernel
theorem dX11_usedBetween_87 : decode cX11_usedBetween 87 = .ok (.iload_n 1, 1) := by decide +kernel
theorem dX11_usedBetween_88 : decode cX11_usedBetween 88 = .ok (.if_icmp .ne 9, 3) := by decide +kernel
theorem dX11_usedBetween_91 : decode cX11_usedBetween 91 = .ok (.iload 7, 2) := by decide +kernel
theorem dX11_usedBetween_93 : decode cX11_usedBetween 93 = .ok (.iload_n 2, 1) := by decide +kernel
theorem dX11_usedBetween_94 : decode cX11_usedBetween 94 = .ok (.if_icmp .eq 15, 3) := by decide +kernel
theorem dX11_usedBetween_97 : decode cX11_usedBetween 97 = .ok (.iload 6, 2) := by decide +kernel
theorem dX11_usedBetween_99 : decode cX11_usedBetween 99 = .ok (.iload_n 2, 1) := by decide +kernel
theorem dX11_usedBetween_100 : decode cX11_usedBetween 100 = .ok (.if_icmp .ne 13, 3) := by decide +kernel
theorem dX11_usedBetween_103 : decode cX11_usedBetween 103 = .ok (.iload 7, 2) := by decide +kernel
theorem dX11_usedBetween_105 : decode cX11_usedBetween 105 = .ok (.iload_n 1, 1) := by decide +kernel
theorem dX11_usedBetween_106 : decode cX11_usedBetween 106 = .ok (.if_icmp .ne 7, 3) := by decide +kernel
theorem dX11_usedBetween_109 : decode cX11_usedBetween 109 = .ok (.iload_n 3, 1) := by decide +kernel
theorem dX11_usedBetween_110 : decode cX11_usedBetween 110 = .ok (.iconst 1, 1) := by decide +kernel
theorem dX11_usedBetween_111 : decode cX11_usedBetween 111 = .ok (.iadd, 1) := by decide +kernel
theorem dX11_usedBetween_112 : decode cX11_usedBetween 112 = .ok (.istore_n 3, 1) := by decide +kernel
theorem dX11_usedBetween_113 : decode cX11_usedBetween 113 = .ok (.iinc 5 1, 3) := by decide +kernel
theorem dX11_usedBetween_116 : decode cX11_usedBetween 116 = .ok (.goto (-101), 3) := by decide +kernel
theorem dX11_usedBetween_119 : decode cX11_usedBetween 119 = .ok (.iinc 4 1, 3) := by decide +kernel
theorem dX11_usedBetween_122 : decode cX11_usedBetween 122 = .ok (.goto (-117), 3) := by decide +kernel
theorem dX11_usedBetween_125 : decode cX11_usedBetween 125 = .ok (.iload_n 3, 1) := by decide +kernel
theorem dX11_usedBetween_126 : decode cX11_usedBetween 126 = .ok (.ireturn, 1) := by decide +kernel
theorem dX11_freeBetween_0 : decode cX11_freeBetween 0 = .ok (.iconst 0, 1) := by decide +kernel
theorem dX11_freeBetween_1 : decode cX11_freeBetween 1 = .ok (.aload_n 0, 1) := by decide +kernel
theorem dX11_freeBetween_2 : decode cX11_freeBetween 2 = .ok (.getfield 19, 3) := by decide +kernel
theorem dX11_freeBetween_5 : decode cX11_freeBetween 5 = .ok (.bipush 8, 2) := by decide +kernel
theorem dX11_freeBetween_7 : decode cX11_freeBetween 7 = .ok (.iload_n 1, 1) := by decide +kernel
theorem dX11_freeBetween_8 : decode cX11_freeBetween 8 = .ok (.imul, 1) := by decide +kernel
theorem dX11_freeBetween_9 : decode cX11_freeBetween 9 = .ok (.iload_n 2, 1) := by decide +kernel
theorem dX11_freeBetween_10 : decode cX11_freeBetween 10 = .ok (.iadd, 1) := by decide +kernel
theorem dX11_freeBetween_11 : decode cX11_freeBetween 11 = .ok (.iaload, 1) := by decide +kernel
theorem dX11_freeBetween_12 : decode cX11_freeBetween 12 = .ok (.aload_n 0, 1) := by decide +kernel
theorem dX11_freeBetween_13 : decode cX11_freeBetween 13 = .ok (.iload_n 1, 1) := by decide +kernel
theorem dX11_freeBetween_14 : decode cX11_freeBetween 14 = .ok (.iload_n 2, 1) := by decide +kernel
theorem dX11_freeBetween_15 : decode cX11_freeBetween 15 = .ok (.invokevirtual 132, 3) := by decide +kernel
theorem dX11_freeBetween_18 : decode cX11_freeBetween 18 = .ok (.isub, 1) := by decide +kernel
theorem dX11_freeBetween_19 : decode cX11_freeBetween 19 = .ok (.invokestatic 136, 3) := by decide +kernel
theorem dX11_freeBetween_22 : decode cX11_freeBetween 22 = .ok (.ireturn, 1) := by decide +kernel
theorem dX11_laysTrunks_0 : decode cX11_laysTrunks 0 = .ok (.iconst 0, 1) := by decide +kernel
theorem dX11_laysTrunks_1 : decode cX11_laysTrunks 1 = .ok (.istore_n 3, 1) := by decide +kernel
theorem dX11_laysTrunks_2 : decode cX11_laysTrunks 2 = .ok (.iload_n 3, 1) := by decide +kernel
theorem dX11_laysTrunks_3 : decode cX11_laysTrunks 3 = .ok (.bipush 8, 2) := by decide +kernel
theorem dX11_laysTrunks_5 : decode cX11_laysTrunks 5 = .ok (.if_icmp .ge 16, 3) := by decide +kernel
theorem dX11_laysTrunks_8 : decode cX11_laysTrunks 8 = .ok (.aload_n 0, 1) := by decide +kernel
theorem dX11_laysTrunks_9 : decode cX11_laysTrunks 9 = .ok (.getfield 22, 3) := by decide +kernel
theorem dX11_laysTrunks_12 : decode cX11_laysTrunks 12 = .ok (.iload_n 3, 1) := by decide +kernel
theorem dX11_laysTrunks_13 : decode cX11_laysTrunks 13 = .ok (.iconst (-1), 1) := by decide +kernel
theorem dX11_laysTrunks_14 : decode cX11_laysTrunks 14 = .ok (.iastore, 1) := by decide +kernel
theorem dX11_laysTrunks_15 : decode cX11_laysTrunks 15 = .ok (.iinc 3 1, 3) := by decide +kernel
theorem dX11_laysTrunks_18 : decode cX11_laysTrunks 18 = .ok (.goto (-16), 3) := by decide +kernel
theorem dX11_laysTrunks_21 : decode cX11_laysTrunks 21 = .ok (.aload_n 0, 1) := by decide +kernel
theorem dX11_laysTrunks_22 : decode cX11_laysTrunks 22 = .ok (.getfield 22, 3) := by decide +kernel
theorem dX11_laysTrunks_25 : decode cX11_laysTrunks 25 = .ok (.iload_n 1, 1) := by decide +kernel
theorem dX11_laysTrunks_26 : decode cX11_laysTrunks 26 = .ok (.iconst 0, 1) := by decide +kernel
theorem dX11_laysTrunks_27 : decode cX11_laysTrunks 27 = .ok (.iastore, 1) := by decide +kernel
theorem dX11_laysTrunks_28 : decode cX11_laysTrunks 28 = .ok (.aload_n 0, 1) := by decide +kernel
theorem dX11_laysTrunks_29 : decode cX11_laysTrunks 29 = .ok (.getfield 25, 3) := by decide +kernel
theorem dX11_laysTrunks_32 : decode cX11_laysTrunks 32 = .ok (.iconst 0, 1) := by decide +kernel
theorem dX11_laysTrunks_33 : decode cX11_laysTrunks 33 = .ok (.iload_n 1, 1) := by decide +kernel
theorem dX11_laysTrunks_34 : decode cX11_laysTrunks 34 = .ok (.iastore, 1) := by decide +kernel
theorem dX11_laysTrunks_35 : decode cX11_laysTrunks 35 = .ok (.iconst 1, 1) := by decide +kernel
theorem dX11_laysTrunks_36 : decode cX11_laysTrunks 36 = .ok (.istore_n 3, 1) := by decide +kernel
theorem dX11_laysTrunks_37 : decode cX11_laysTrunks 37 = .ok (.iconst 0, 1) := by decide +kernel
theorem dX11_laysTrunks_38 : decode cX11_laysTrunks 38 = .ok (.istore 4, 2) := by decide +kernel
theorem dX11_laysTrunks_40 : decode cX11_laysTrunks 40 = .ok (.iload 4, 2) := by decide +kernel
theorem dX11_laysTrunks_42 : decode cX11_laysTrunks 42 = .ok (.iload_n 3, 1) := by decide +kernel
theorem dX11_laysTrunks_43 : decode cX11_laysTrunks 43 = .ok (.if_icmp .ge 113, 3) := by decide +kernel
theorem dX11_laysTrunks_46 : decode cX11_laysTrunks 46 = .ok (.iconst 0, 1) := by decide +kernel
theorem dX11_laysTrunks_47 : decode cX11_laysTrunks 47 = .ok (.istore 5, 2) := by decide +kernel
theorem dX11_laysTrunks_49 : decode cX11_laysTrunks 49 = .ok (.iload 5, 2) := by decide +kernel
theorem dX11_laysTrunks_51 : decode cX11_laysTrunks 51 = .ok (.bipush 8, 2) := by decide +kernel
theorem dX11_laysTrunks_53 : decode cX11_laysTrunks 53 = .ok (.if_icmp .ge 97, 3) := by decide +kernel
theorem dX11_laysTrunks_56 : decode cX11_laysTrunks 56 = .ok (.aload_n 0, 1) := by decide +kernel
theorem dX11_laysTrunks_57 : decode cX11_laysTrunks 57 = .ok (.getfield 22, 3) := by decide +kernel
theorem dX11_laysTrunks_60 : decode cX11_laysTrunks 60 = .ok (.iload 5, 2) := by decide +kernel
theorem dX11_laysTrunks_62 : decode cX11_laysTrunks 62 = .ok (.iaload, 1) := by decide +kernel
theorem dX11_laysTrunks_63 : decode cX11_laysTrunks 63 = .ok (.iconst (-1), 1) := by decide +kernel
theorem dX11_laysTrunks_64 : decode cX11_laysTrunks 64 = .ok (.if_icmp .ne 80, 3) := by decide +kernel
theorem dX11_laysTrunks_67 : decode cX11_laysTrunks 67 = .ok (.iload_n 2, 1) := by decide +kernel
theorem dX11_laysTrunks_68 : decode cX11_laysTrunks 68 = .ok (.ifCond .eq 19, 3) := by decide +kernel
theorem dX11_laysTrunks_71 : decode cX11_laysTrunks 71 = .ok (.aload_n 0, 1) := by decide +kernel
theorem dX11_laysTrunks_72 : decode cX11_laysTrunks 72 = .ok (.aload_n 0, 1) := by decide +kernel
theorem dX11_laysTrunks_73 : decode cX11_laysTrunks 73 = .ok (.getfield 25, 3) := by decide +kernel
theorem dX11_laysTrunks_76 : decode cX11_laysTrunks 76 = .ok (.iload 4, 2) := by decide +kernel
theorem dX11_laysTrunks_78 : decode cX11_laysTrunks 78 = .ok (.iaload, 1) := by decide +kernel
theorem dX11_laysTrunks_79 : decode cX11_laysTrunks 79 = .ok (.iload 5, 2) := by decide +kernel
theorem dX11_laysTrunks_81 : decode cX11_laysTrunks 81 = .ok (.invokevirtual 139, 3) := by decide +kernel
theorem dX11_laysTrunks_84 : decode cX11_laysTrunks 84 = .ok (.goto 21, 3) := by decide +kernel
theorem dX11_laysTrunks_87 : decode cX11_laysTrunks 87 = .ok (.aload_n 0, 1) := by decide +kernel
theorem dX11_laysTrunks_88 : decode cX11_laysTrunks 88 = .ok (.getfield 19, 3) := by decide +kernel
theorem dX11_laysTrunks_91 : decode cX11_laysTrunks 91 = .ok (.bipush 8, 2) := by decide +kernel
theorem dX11_laysTrunks_93 : decode cX11_laysTrunks 93 = .ok (.aload_n 0, 1) := by decide +kernel
theorem dX11_laysTrunks_94 : decode cX11_laysTrunks 94 = .ok (.getfield 25, 3) := by decide +kernel
theorem dX11_laysTrunks_97 : decode cX11_laysTrunks 97 = .ok (.iload 4, 2) := by decide +kernel
theorem dX11_laysTrunks_99 : decode cX11_laysTrunks 99 = .ok (.iaload, 1) := by decide +kernel
theorem dX11_laysTrunks_100 : decode cX11_laysTrunks 100 = .ok (.imul, 1) := by decide +kernel
theorem dX11_laysTrunks_101 : decode cX11_laysTrunks 101 = .ok (.iload 5, 2) := by decide +kernel
theorem dX11_laysTrunks_103 : decode cX11_laysTrunks 103 = .ok (.iadd, 1) := by decide +kernel
theorem dX11_laysTrunks_104 : decode cX11_laysTrunks 104 = .ok (.iaload, 1) := by decide +kernel
theorem dX11_laysTrunks_105 : decode cX11_laysTrunks 105 = .ok (.ifCond .ne 6, 3) := by decide +kernel
theorem dX11_laysTrunks_108 : decode cX11_laysTrunks 108 = .ok (.goto 36, 3) := by decide +kernel
theorem dX11_laysTrunks_111 : decode cX11_laysTrunks 111 = .ok (.aload_n 0, 1) := by decide +kernel
theorem dX11_laysTrunks_112 : decode cX11_laysTrunks 112 = .ok (.getfield 22, 3) := by decide +kernel
theorem dX11_laysTrunks_115 : decode cX11_laysTrunks 115 = .ok (.iload 5, 2) := by decide +kernel
theorem dX11_laysTrunks_117 : decode cX11_laysTrunks 117 = .ok (.aload_n 0, 1) := by decide +kernel
theorem dX11_laysTrunks_118 : decode cX11_laysTrunks 118 = .ok (.getfield 22, 3) := by decide +kernel
theorem dX11_laysTrunks_121 : decode cX11_laysTrunks 121 = .ok (.aload_n 0, 1) := by decide +kernel
theorem dX11_laysTrunks_122 : decode cX11_laysTrunks 122 = .ok (.getfield 25, 3) := by decide +kernel
theorem dX11_laysTrunks_125 : decode cX11_laysTrunks 125 = .ok (.iload 4, 2) := by decide +kernel
theorem dX11_laysTrunks_127 : decode cX11_laysTrunks 127 = .ok (.iaload, 1) := by decide +kernel
theorem dX11_laysTrunks_128 : decode cX11_laysTrunks 128 = .ok (.iaload, 1) := by decide +kernel
theorem dX11_laysTrunks_129 : decode cX11_laysTrunks 129 = .ok (.iconst 1, 1) := by decide +kernel
theorem dX11_laysTrunks_130 : decode cX11_laysTrunks 130 = .ok (.iadd, 1) := by decide +kernel
theorem dX11_laysTrunks_131 : decode cX11_laysTrunks 131 = .ok (.iastore, 1) := by decide +kernel
theorem dX11_laysTrunks_132 : decode cX11_laysTrunks 132 = .ok (.aload_n 0, 1) := by decide +kernel
theorem dX11_laysTrunks_133 : decode cX11_laysTrunks 133 = .ok (.getfield 25, 3) := by decide +kernel
theorem dX11_laysTrunks_136 : decode cX11_laysTrunks 136 = .ok (.iload_n 3, 1) := by decide +kernel
theorem dX11_laysTrunks_137 : decode cX11_laysTrunks 137 = .ok (.iload 5, 2) := by decide +kernel
theorem dX11_laysTrunks_139 : decode cX11_laysTrunks 139 = .ok (.iastore, 1) := by decide +kernel
theorem dX11_laysTrunks_140 : decode cX11_laysTrunks 140 = .ok (.iload_n 3, 1) := by decide +kernel
theorem dX11_laysTrunks_141 : decode cX11_laysTrunks 141 = .ok (.iconst 1, 1) := by decide +kernel
theorem dX11_laysTrunks_142 : decode cX11_laysTrunks 142 = .ok (.iadd, 1) := by decide +kernel
theorem dX11_laysTrunks_143 : decode cX11_laysTrunks 143 = .ok (.istore_n 3, 1) := by decide +kernel
theorem dX11_laysTrunks_144 : decode cX11_laysTrunks 144 = .ok (.iinc 5 1, 3) := by decide +kernel
theorem dX11_laysTrunks_147 : decode cX11_laysTrunks 147 = .ok (.goto (-98), 3) := by decide +kernel
theorem dX11_laysTrunks_150 : decode cX11_laysTrunks 150 = .ok (.iinc 4 1, 3) := by decide +kernel
theorem dX11_laysTrunks_153 : decode cX11_laysTrunks 153 = .ok (.goto (-113), 3) := by decide +kernel
theorem dX11_laysTrunks_156 : decode cX11_laysTrunks 156 = .ok (.return_, 1) := by decide +kernel
theorem dX11_laysRoute_0 : decode cX11_laysRoute 0 = .ok (.aload_n 0, 1) := by decide +kernel
theorem dX11_laysRoute_1 : decode cX11_laysRoute 1 = .ok (.iload_n 2, 1) := by decide +kernel
theorem dX11_laysRoute_2 : decode cX11_laysRoute 2 = .ok (.iconst 1, 1) := by decide +kernel
theorem dX11_laysRoute_3 : decode cX11_laysRoute 3 = .ok (.invokevirtual 142, 3) := by decide +kernel
theorem dX11_laysRoute_6 : decode cX11_laysRoute 6 = .ok (.aload_n 0, 1) := by decide +kernel
theorem dX11_laysRoute_7 : decode cX11_laysRoute 7 = .ok (.getfield 22, 3) := by decide +kernel
theorem dX11_laysRoute_10 : decode cX11_laysRoute 10 = .ok (.iload_n 1, 1) := by decide +kernel
theorem dX11_laysRoute_11 : decode cX11_laysRoute 11 = .ok (.iaload, 1) := by decide +kernel
theorem dX11_laysRoute_12 : decode cX11_laysRoute 12 = .ok (.istore_n 3, 1) := by decide +kernel
theorem dX11_laysRoute_13 : decode cX11_laysRoute 13 = .ok (.iload_n 3, 1) := by decide +kernel
theorem dX11_laysRoute_14 : decode cX11_laysRoute 14 = .ok (.iconst (-1), 1) := by decide +kernel
theorem dX11_laysRoute_15 : decode cX11_laysRoute 15 = .ok (.if_icmp .ne 5, 3) := by decide +kernel
theorem dX11_laysRoute_18 : decode cX11_laysRoute 18 = .ok (.iconst (-1), 1) := by decide +kernel
theorem dX11_laysRoute_19 : decode cX11_laysRoute 19 = .ok (.ireturn, 1) := by decide +kernel
theorem dX11_laysRoute_20 : decode cX11_laysRoute 20 = .ok (.aload_n 0, 1) := by decide +kernel
theorem dX11_laysRoute_21 : decode cX11_laysRoute 21 = .ok (.getfield 28, 3) := by decide +kernel
theorem dX11_laysRoute_24 : decode cX11_laysRoute 24 = .ok (.iconst 0, 1) := by decide +kernel
theorem dX11_laysRoute_25 : decode cX11_laysRoute 25 = .ok (.iload_n 1, 1) := by decide +kernel
theorem dX11_laysRoute_26 : decode cX11_laysRoute 26 = .ok (.iastore, 1) := by decide +kernel
theorem dX11_laysRoute_27 : decode cX11_laysRoute 27 = .ok (.iconst 1, 1) := by decide +kernel
theorem dX11_laysRoute_28 : decode cX11_laysRoute 28 = .ok (.istore 4, 2) := by decide +kernel
theorem dX11_laysRoute_30 : decode cX11_laysRoute 30 = .ok (.iload 4, 2) := by decide +kernel
theorem dX11_laysRoute_32 : decode cX11_laysRoute 32 = .ok (.iload_n 3, 1) := by decide +kernel
theorem dX11_laysRoute_33 : decode cX11_laysRoute 33 = .ok (.if_icmp .gt 62, 3) := by decide +kernel
theorem dX11_laysRoute_36 : decode cX11_laysRoute 36 = .ok (.iconst 0, 1) := by decide +kernel
theorem dX11_laysRoute_37 : decode cX11_laysRoute 37 = .ok (.istore 5, 2) := by decide +kernel
theorem dX11_laysRoute_39 : decode cX11_laysRoute 39 = .ok (.aload_n 0, 1) := by decide +kernel
theorem dX11_laysRoute_40 : decode cX11_laysRoute 40 = .ok (.getfield 22, 3) := by decide +kernel
theorem dX11_laysRoute_43 : decode cX11_laysRoute 43 = .ok (.iload 5, 2) := by decide +kernel
theorem dX11_laysRoute_45 : decode cX11_laysRoute 45 = .ok (.iaload, 1) := by decide +kernel
theorem dX11_laysRoute_46 : decode cX11_laysRoute 46 = .ok (.iload_n 3, 1) := by decide +kernel
theorem dX11_laysRoute_47 : decode cX11_laysRoute 47 = .ok (.iload 4, 2) := by decide +kernel
theorem dX11_laysRoute_49 : decode cX11_laysRoute 49 = .ok (.isub, 1) := by decide +kernel
theorem dX11_laysRoute_50 : decode cX11_laysRoute 50 = .ok (.if_icmp .ne 21, 3) := by decide +kernel
theorem dX11_laysRoute_53 : decode cX11_laysRoute 53 = .ok (.aload_n 0, 1) := by decide +kernel
theorem dX11_laysRoute_54 : decode cX11_laysRoute 54 = .ok (.aload_n 0, 1) := by decide +kernel
theorem dX11_laysRoute_55 : decode cX11_laysRoute 55 = .ok (.getfield 28, 3) := by decide +kernel
theorem dX11_laysRoute_58 : decode cX11_laysRoute 58 = .ok (.iload 4, 2) := by decide +kernel
theorem dX11_laysRoute_60 : decode cX11_laysRoute 60 = .ok (.iconst 1, 1) := by decide +kernel
theorem dX11_laysRoute_61 : decode cX11_laysRoute 61 = .ok (.isub, 1) := by decide +kernel
theorem dX11_laysRoute_62 : decode cX11_laysRoute 62 = .ok (.iaload, 1) := by decide +kernel
theorem dX11_laysRoute_63 : decode cX11_laysRoute 63 = .ok (.iload 5, 2) := by decide +kernel
theorem dX11_laysRoute_65 : decode cX11_laysRoute 65 = .ok (.invokevirtual 139, 3) := by decide +kernel
theorem dX11_laysRoute_68 : decode cX11_laysRoute 68 = .ok (.ifCond .ne 12, 3) := by decide +kernel
theorem dX11_laysRoute_71 : decode cX11_laysRoute 71 = .ok (.iload 5, 2) := by decide +kernel
theorem dX11_laysRoute_73 : decode cX11_laysRoute 73 = .ok (.iconst 1, 1) := by decide +kernel
theorem dX11_laysRoute_74 : decode cX11_laysRoute 74 = .ok (.iadd, 1) := by decide +kernel
theorem dX11_laysRoute_75 : decode cX11_laysRoute 75 = .ok (.istore 5, 2) := by decide +kernel
theorem dX11_laysRoute_77 : decode cX11_laysRoute 77 = .ok (.goto (-38), 3) := by decide +kernel
theorem dX11_laysRoute_80 : decode cX11_laysRoute 80 = .ok (.aload_n 0, 1) := by decide +kernel
theorem dX11_laysRoute_81 : decode cX11_laysRoute 81 = .ok (.getfield 28, 3) := by decide +kernel
theorem dX11_laysRoute_84 : decode cX11_laysRoute 84 = .ok (.iload 4, 2) := by decide +kernel
theorem dX11_laysRoute_86 : decode cX11_laysRoute 86 = .ok (.iload 5, 2) := by decide +kernel
theorem dX11_laysRoute_88 : decode cX11_laysRoute 88 = .ok (.iastore, 1) := by decide +kernel
theorem dX11_laysRoute_89 : decode cX11_laysRoute 89 = .ok (.iinc 4 1, 3) := by decide +kernel
theorem dX11_laysRoute_92 : decode cX11_laysRoute 92 = .ok (.goto (-62), 3) := by decide +kernel
theorem dX11_laysRoute_95 : decode cX11_laysRoute 95 = .ok (.iload_n 3, 1) := by decide +kernel
theorem dX11_laysRoute_96 : decode cX11_laysRoute 96 = .ok (.ireturn, 1) := by decide +kernel
theorem dX11_types_0 : decode cX11_types 0 = .ok (.iconst 3, 1) := by decide +kernel
theorem dX11_types_1 : decode cX11_types 1 = .ok (.istore_n 2, 1) := by decide +kernel
theorem dX11_types_2 : decode cX11_types 2 = .ok (.iload_n 2, 1) := by decide +kernel
theorem dX11_types_3 : decode cX11_types 3 = .ok (.ifCond .lt 35, 3) := by decide +kernel
theorem dX11_types_6 : decode cX11_types 6 = .ok (.aload_n 0, 1) := by decide +kernel
theorem dX11_types_7 : decode cX11_types 7 = .ok (.getfield 31, 3) := by decide +kernel
theorem dX11_types_10 : decode cX11_types 10 = .ok (.aload_n 0, 1) := by decide +kernel
theorem dX11_types_11 : decode cX11_types 11 = .ok (.getfield 146, 3) := by decide +kernel
theorem dX11_types_14 : decode cX11_types 14 = .ok (.iload_n 1, 1) := by decide +kernel
theorem dX11_types_15 : decode cX11_types 15 = .ok (.bipush 8, 2) := by decide +kernel
theorem dX11_types_17 : decode cX11_types 17 = .ok (.iload_n 2, 1) := by decide +kernel
theorem dX11_types_18 : decode cX11_types 18 = .ok (.imul, 1) := by decide +kernel
theorem dX11_types_19 : decode cX11_types 19 = .ok (.ishr, 1) := by decide +kernel
theorem dX11_types_20 : decode cX11_types 20 = .ok (.i2b, 1) := by decide +kernel
theorem dX11_types_21 : decode cX11_types 21 = .ok (.bastore, 1) := by decide +kernel
theorem dX11_types_22 : decode cX11_types 22 = .ok (.aload_n 0, 1) := by decide +kernel
theorem dX11_types_23 : decode cX11_types 23 = .ok (.aload_n 0, 1) := by decide +kernel
theorem dX11_types_24 : decode cX11_types 24 = .ok (.getfield 146, 3) := by decide +kernel
theorem dX11_types_27 : decode cX11_types 27 = .ok (.iconst 1, 1) := by decide +kernel
theorem dX11_types_28 : decode cX11_types 28 = .ok (.iadd, 1) := by decide +kernel
theorem dX11_types_29 : decode cX11_types 29 = .ok (.putfield 146, 3) := by decide +kernel
theorem dX11_types_32 : decode cX11_types 32 = .ok (.iinc 2 (-1), 3) := by decide +kernel
theorem dX11_types_35 : decode cX11_types 35 = .ok (.goto (-33), 3) := by decide +kernel
theorem dX11_types_38 : decode cX11_types 38 = .ok (.return_, 1) := by decide +kernel
theorem dX11_feed_0 : decode cX11_feed 0 = .ok (.aload_n 0, 1) := by decide +kernel
theorem dX11_feed_1 : decode cX11_feed 1 = .ok (.getfield 146, 3) := by decide +kernel
theorem dX11_feed_4 : decode cX11_feed 4 = .ok (.bipush 20, 2) := by decide +kernel
theorem dX11_feed_6 : decode cX11_feed 6 = .ok (.iadd, 1) := by decide +kernel
theorem dX11_feed_7 : decode cX11_feed 7 = .ok (.sipush 260, 3) := by decide +kernel
theorem dX11_feed_10 : decode cX11_feed 10 = .ok (.if_icmp .le 5, 3) := by decide +kernel
theorem dX11_feed_13 : decode cX11_feed 13 = .ok (.iconst (-1), 1) := by decide +kernel
theorem dX11_feed_14 : decode cX11_feed 14 = .ok (.ireturn, 1) := by decide +kernel
theorem dX11_feed_15 : decode cX11_feed 15 = .ok (.aload_n 0, 1) := by decide +kernel
theorem dX11_feed_16 : decode cX11_feed 16 = .ok (.iload_n 1, 1) := by decide +kernel
theorem dX11_feed_17 : decode cX11_feed 17 = .ok (.invokevirtual 149, 3) := by decide +kernel
theorem dX11_feed_20 : decode cX11_feed 20 = .ok (.aload_n 0, 1) := by decide +kernel
theorem dX11_feed_21 : decode cX11_feed 21 = .ok (.iload_n 2, 1) := by decide +kernel
theorem dX11_feed_22 : decode cX11_feed 22 = .ok (.invokevirtual 149, 3) := by decide +kernel
theorem dX11_feed_25 : decode cX11_feed 25 = .ok (.aload_n 0, 1) := by decide +kernel
theorem dX11_feed_26 : decode cX11_feed 26 = .ok (.iload_n 3, 1) := by decide +kernel
theorem dX11_feed_27 : decode cX11_feed 27 = .ok (.invokevirtual 149, 3) := by decide +kernel
theorem dX11_feed_30 : decode cX11_feed 30 = .ok (.aload_n 0, 1) := by decide +kernel
theorem dX11_feed_31 : decode cX11_feed 31 = .ok (.iload 4, 2) := by decide +kernel
theorem dX11_feed_33 : decode cX11_feed 33 = .ok (.invokevirtual 149, 3) := by decide +kernel
theorem dX11_feed_36 : decode cX11_feed 36 = .ok (.aload_n 0, 1) := by decide +kernel
theorem dX11_feed_37 : decode cX11_feed 37 = .ok (.iload 5, 2) := by decide +kernel
theorem dX11_feed_39 : decode cX11_feed 39 = .ok (.invokevirtual 149, 3) := by decide +kernel
theorem dX11_feed_42 : decode cX11_feed 42 = .ok (.aload_n 0, 1) := by decide +kernel
theorem dX11_feed_43 : decode cX11_feed 43 = .ok (.getfield 146, 3) := by decide +kernel
theorem dX11_feed_46 : decode cX11_feed 46 = .ok (.ireturn, 1) := by decide +kernel
theorem dX11_octet_0 : decode cX11_octet 0 = .ok (.aload_n 0, 1) := by decide +kernel
theorem dX11_octet_1 : decode cX11_octet 1 = .ok (.getfield 31, 3) := by decide +kernel
theorem dX11_octet_4 : decode cX11_octet 4 = .ok (.iload_n 1, 1) := by decide +kernel
theorem dX11_octet_5 : decode cX11_octet 5 = .ok (.baload, 1) := by decide +kernel
theorem dX11_octet_6 : decode cX11_octet 6 = .ok (.sipush 255, 3) := by decide +kernel
theorem dX11_octet_9 : decode cX11_octet 9 = .ok (.iand, 1) := by decide +kernel
theorem dX11_octet_10 : decode cX11_octet 10 = .ok (.ireturn, 1) := by decide +kernel
theorem dX11_here_0 : decode cX11_here 0 = .ok (.aload_n 0, 1) := by decide +kernel
theorem dX11_here_1 : decode cX11_here 1 = .ok (.getfield 152, 3) := by decide +kernel
theorem dX11_here_4 : decode cX11_here 4 = .ok (.aload_n 0, 1) := by decide +kernel
theorem dX11_here_5 : decode cX11_here 5 = .ok (.getfield 155, 3) := by decide +kernel
theorem dX11_here_8 : decode cX11_here 8 = .ok (.if_icmp .ge 19, 3) := by decide +kernel
theorem dX11_here_11 : decode cX11_here 11 = .ok (.aload_n 0, 1) := by decide +kernel
theorem dX11_here_12 : decode cX11_here 12 = .ok (.getfield 31, 3) := by decide +kernel
theorem dX11_here_15 : decode cX11_here 15 = .ok (.aload_n 0, 1) := by decide +kernel
theorem dX11_here_16 : decode cX11_here 16 = .ok (.getfield 152, 3) := by decide +kernel
theorem dX11_here_19 : decode cX11_here 19 = .ok (.baload, 1) := by decide +kernel
theorem dX11_here_20 : decode cX11_here 20 = .ok (.sipush 255, 3) := by decide +kernel
theorem dX11_here_23 : decode cX11_here 23 = .ok (.iand, 1) := by decide +kernel
theorem dX11_here_24 : decode cX11_here 24 = .ok (.goto 4, 3) := by decide +kernel
theorem dX11_here_27 : decode cX11_here 27 = .ok (.iconst (-1), 1) := by decide +kernel
theorem dX11_here_28 : decode cX11_here 28 = .ok (.ireturn, 1) := by decide +kernel
theorem dX11_isDigit_0 : decode cX11_isDigit 0 = .ok (.aload_n 0, 1) := by decide +kernel
theorem dX11_isDigit_1 : decode cX11_isDigit 1 = .ok (.invokevirtual 158, 3) := by decide +kernel
theorem dX11_isDigit_4 : decode cX11_isDigit 4 = .ok (.bipush 48, 2) := by decide +kernel
theorem dX11_isDigit_6 : decode cX11_isDigit 6 = .ok (.if_icmp .lt 16, 3) := by decide +kernel
theorem dX11_isDigit_9 : decode cX11_isDigit 9 = .ok (.aload_n 0, 1) := by decide +kernel
theorem dX11_isDigit_10 : decode cX11_isDigit 10 = .ok (.invokevirtual 158, 3) := by decide +kernel
theorem dX11_isDigit_13 : decode cX11_isDigit 13 = .ok (.bipush 57, 2) := by decide +kernel
theorem dX11_isDigit_15 : decode cX11_isDigit 15 = .ok (.if_icmp .gt 7, 3) := by decide +kernel
theorem dX11_isDigit_18 : decode cX11_isDigit 18 = .ok (.iconst 1, 1) := by decide +kernel
theorem dX11_isDigit_19 : decode cX11_isDigit 19 = .ok (.goto 4, 3) := by decide +kernel
theorem dX11_isDigit_22 : decode cX11_isDigit 22 = .ok (.iconst 0, 1) := by decide +kernel
theorem dX11_isDigit_23 : decode cX11_isDigit 23 = .ok (.ireturn, 1) := by decide +kernel
theorem dX11_wrongAt_0 : decode cX11_wrongAt 0 = .ok (.aload_n 0, 1) := by decide +kernel
theorem dX11_wrongAt_1 : decode cX11_wrongAt 1 = .ok (.sipush (-1000), 3) := by decide +kernel
theorem dX11_wrongAt_4 : decode cX11_wrongAt 4 = .ok (.iload_n 1, 1) := by decide +kernel
theorem dX11_wrongAt_5 : decode cX11_wrongAt 5 = .ok (.imul, 1) := by decide +kernel
theorem dX11_wrongAt_6 : decode cX11_wrongAt 6 = .ok (.iload_n 2, 1) := by decide +kernel
theorem dX11_wrongAt_7 : decode cX11_wrongAt 7 = .ok (.isub, 1) := by decide +kernel
theorem dX11_wrongAt_8 : decode cX11_wrongAt 8 = .ok (.putfield 162, 3) := by decide +kernel
theorem dX11_wrongAt_11 : decode cX11_wrongAt 11 = .ok (.iconst 0, 1) := by decide +kernel
theorem dX11_wrongAt_12 : decode cX11_wrongAt 12 = .ok (.ireturn, 1) := by decide +kernel
theorem dX11_takes_0 : decode cX11_takes 0 = .ok (.aload_n 0, 1) := by decide +kernel
theorem dX11_takes_1 : decode cX11_takes 1 = .ok (.invokevirtual 158, 3) := by decide +kernel
theorem dX11_takes_4 : decode cX11_takes 4 = .ok (.iload_n 1, 1) := by decide +kernel
theorem dX11_takes_5 : decode cX11_takes 5 = .ok (.if_icmp .eq 13, 3) := by decide +kernel
theorem dX11_takes_8 : decode cX11_takes 8 = .ok (.aload_n 0, 1) := by decide +kernel
theorem dX11_takes_9 : decode cX11_takes 9 = .ok (.iconst 1, 1) := by decide +kernel
theorem dX11_takes_10 : decode cX11_takes 10 = .ok (.aload_n 0, 1) := by decide +kernel
theorem dX11_takes_11 : decode cX11_takes 11 = .ok (.getfield 152, 3) := by decide +kernel
theorem dX11_takes_14 : decode cX11_takes 14 = .ok (.invokevirtual 165, 3) := by decide +kernel
theorem dX11_takes_17 : decode cX11_takes 17 = .ok (.ireturn, 1) := by decide +kernel
theorem dX11_takes_18 : decode cX11_takes 18 = .ok (.aload_n 0, 1) := by decide +kernel
theorem dX11_takes_19 : decode cX11_takes 19 = .ok (.aload_n 0, 1) := by decide +kernel
theorem dX11_takes_20 : decode cX11_takes 20 = .ok (.getfield 152, 3) := by decide +kernel
theorem dX11_takes_23 : decode cX11_takes 23 = .ok (.iconst 1, 1) := by decide +kernel
theorem dX11_takes_24 : decode cX11_takes 24 = .ok (.iadd, 1) := by decide +kernel
theorem dX11_takes_25 : decode cX11_takes 25 = .ok (.putfield 152, 3) := by decide +kernel
theorem dX11_takes_28 : decode cX11_takes 28 = .ok (.iconst 1, 1) := by decide +kernel
theorem dX11_takes_29 : decode cX11_takes 29 = .ok (.ireturn, 1) := by decide +kernel
theorem dX11_readsNumber_0 : decode cX11_readsNumber 0 = .ok (.aload_n 0, 1) := by decide +kernel
theorem dX11_readsNumber_1 : decode cX11_readsNumber 1 = .ok (.getfield 152, 3) := by decide +kernel
theorem dX11_readsNumber_4 : decode cX11_readsNumber 4 = .ok (.istore_n 1, 1) := by decide +kernel
theorem dX11_readsNumber_5 : decode cX11_readsNumber 5 = .ok (.aload_n 0, 1) := by decide +kernel
theorem dX11_readsNumber_6 : decode cX11_readsNumber 6 = .ok (.iconst 0, 1) := by decide +kernel
theorem dX11_readsNumber_7 : decode cX11_readsNumber 7 = .ok (.putfield 168, 3) := by decide +kernel
theorem dX11_readsNumber_10 : decode cX11_readsNumber 10 = .ok (.aload_n 0, 1) := by decide +kernel
theorem dX11_readsNumber_11 : decode cX11_readsNumber 11 = .ok (.invokevirtual 171, 3) := by decide +kernel
theorem dX11_readsNumber_14 : decode cX11_readsNumber 14 = .ok (.ifCond .eq 55, 3) := by decide +kernel
theorem dX11_readsNumber_17 : decode cX11_readsNumber 17 = .ok (.aload_n 0, 1) := by decide +kernel
theorem dX11_readsNumber_18 : decode cX11_readsNumber 18 = .ok (.getfield 152, 3) := by decide +kernel
theorem dX11_readsNumber_21 : decode cX11_readsNumber 21 = .ok (.iload_n 1, 1) := by decide +kernel
theorem dX11_readsNumber_22 : decode cX11_readsNumber 22 = .ok (.iconst 5, 1) := by decide +kernel
theorem dX11_readsNumber_23 : decode cX11_readsNumber 23 = .ok (.iadd, 1) := by decide +kernel
theorem dX11_readsNumber_24 : decode cX11_readsNumber 24 = .ok (.if_icmp .ne 13, 3) := by decide +kernel
theorem dX11_readsNumber_27 : decode cX11_readsNumber 27 = .ok (.aload_n 0, 1) := by decide +kernel
theorem dX11_readsNumber_28 : decode cX11_readsNumber 28 = .ok (.iconst 2, 1) := by decide +kernel
theorem dX11_readsNumber_29 : decode cX11_readsNumber 29 = .ok (.aload_n 0, 1) := by decide +kernel
theorem dX11_readsNumber_30 : decode cX11_readsNumber 30 = .ok (.getfield 152, 3) := by decide +kernel
theorem dX11_readsNumber_33 : decode cX11_readsNumber 33 = .ok (.invokevirtual 165, 3) := by decide +kernel
theorem dX11_readsNumber_36 : decode cX11_readsNumber 36 = .ok (.ireturn, 1) := by decide +kernel
theorem dX11_readsNumber_37 : decode cX11_readsNumber 37 = .ok (.aload_n 0, 1) := by decide +kernel
theorem dX11_readsNumber_38 : decode cX11_readsNumber 38 = .ok (.bipush 10, 2) := by decide +kernel
theorem dX11_readsNumber_40 : decode cX11_readsNumber 40 = .ok (.aload_n 0, 1) := by decide +kernel
theorem dX11_readsNumber_41 : decode cX11_readsNumber 41 = .ok (.getfield 168, 3) := by decide +kernel
theorem dX11_readsNumber_44 : decode cX11_readsNumber 44 = .ok (.imul, 1) := by decide +kernel
theorem dX11_readsNumber_45 : decode cX11_readsNumber 45 = .ok (.aload_n 0, 1) := by decide +kernel
theorem dX11_readsNumber_46 : decode cX11_readsNumber 46 = .ok (.invokevirtual 158, 3) := by decide +kernel
theorem dX11_readsNumber_49 : decode cX11_readsNumber 49 = .ok (.iadd, 1) := by decide +kernel
theorem dX11_readsNumber_50 : decode cX11_readsNumber 50 = .ok (.bipush 48, 2) := by decide +kernel
theorem dX11_readsNumber_52 : decode cX11_readsNumber 52 = .ok (.isub, 1) := by decide +kernel
theorem dX11_readsNumber_53 : decode cX11_readsNumber 53 = .ok (.putfield 168, 3) := by decide +kernel
theorem dX11_readsNumber_56 : decode cX11_readsNumber 56 = .ok (.aload_n 0, 1) := by decide +kernel
theorem dX11_readsNumber_57 : decode cX11_readsNumber 57 = .ok (.aload_n 0, 1) := by decide +kernel
theorem dX11_readsNumber_58 : decode cX11_readsNumber 58 = .ok (.getfield 152, 3) := by decide +kernel
theorem dX11_readsNumber_61 : decode cX11_readsNumber 61 = .ok (.iconst 1, 1) := by decide +kernel
theorem dX11_readsNumber_62 : decode cX11_readsNumber 62 = .ok (.iadd, 1) := by decide +kernel
theorem dX11_readsNumber_63 : decode cX11_readsNumber 63 = .ok (.putfield 152, 3) := by decide +kernel
theorem dX11_readsNumber_66 : decode cX11_readsNumber 66 = .ok (.goto (-56), 3) := by decide +kernel
theorem dX11_readsNumber_69 : decode cX11_readsNumber 69 = .ok (.iconst 1, 1) := by decide +kernel
theorem dX11_readsNumber_70 : decode cX11_readsNumber 70 = .ok (.ireturn, 1) := by decide +kernel
theorem dX11_notes_0 : decode cX11_notes 0 = .ok (.aload_n 0, 1) := by decide +kernel
theorem dX11_notes_1 : decode cX11_notes 1 = .ok (.getfield 35, 3) := by decide +kernel
theorem dX11_notes_4 : decode cX11_notes 4 = .ok (.aload_n 0, 1) := by decide +kernel
theorem dX11_notes_5 : decode cX11_notes 5 = .ok (.getfield 175, 3) := by decide +kernel
theorem dX11_notes_8 : decode cX11_notes 8 = .ok (.ldc 178, 2) := by decide +kernel
theorem dX11_notes_10 : decode cX11_notes 10 = .ok (.iload_n 1, 1) := by decide +kernel
theorem dX11_notes_11 : decode cX11_notes 11 = .ok (.imul, 1) := by decide +kernel
theorem dX11_notes_12 : decode cX11_notes 12 = .ok (.iload_n 2, 1) := by decide +kernel
theorem dX11_notes_13 : decode cX11_notes 13 = .ok (.iadd, 1) := by decide +kernel
theorem dX11_notes_14 : decode cX11_notes 14 = .ok (.iastore, 1) := by decide +kernel
theorem dX11_notes_15 : decode cX11_notes 15 = .ok (.aload_n 0, 1) := by decide +kernel
theorem dX11_notes_16 : decode cX11_notes 16 = .ok (.aload_n 0, 1) := by decide +kernel
theorem dX11_notes_17 : decode cX11_notes 17 = .ok (.getfield 175, 3) := by decide +kernel
theorem dX11_notes_20 : decode cX11_notes 20 = .ok (.iconst 1, 1) := by decide +kernel
theorem dX11_notes_21 : decode cX11_notes 21 = .ok (.iadd, 1) := by decide +kernel
theorem dX11_notes_22 : decode cX11_notes 22 = .ok (.putfield 175, 3) := by decide +kernel
theorem dX11_notes_25 : decode cX11_notes 25 = .ok (.return_, 1) := by decide +kernel
theorem dX11_opens_0 : decode cX11_opens 0 = .ok (.aload_n 0, 1) := by decide +kernel
theorem dX11_opens_1 : decode cX11_opens 1 = .ok (.getfield 179, 3) := by decide +kernel
theorem dX11_opens_4 : decode cX11_opens 4 = .ok (.bipush 6, 2) := by decide +kernel
theorem dX11_opens_6 : decode cX11_opens 6 = .ok (.if_icmp .ne 13, 3) := by decide +kernel
theorem dX11_opens_9 : decode cX11_opens 9 = .ok (.aload_n 0, 1) := by decide +kernel
theorem dX11_opens_10 : decode cX11_opens 10 = .ok (.iconst 5, 1) := by decide +kernel
theorem dX11_opens_11 : decode cX11_opens 11 = .ok (.aload_n 0, 1) := by decide +kernel
theorem dX11_opens_12 : decode cX11_opens 12 = .ok (.getfield 152, 3) := by decide +kernel
theorem dX11_opens_15 : decode cX11_opens 15 = .ok (.invokevirtual 165, 3) := by decide +kernel
theorem dX11_opens_18 : decode cX11_opens 18 = .ok (.ireturn, 1) := by decide +kernel
theorem dX11_opens_19 : decode cX11_opens 19 = .ok (.aload_n 0, 1) := by decide +kernel
theorem dX11_opens_20 : decode cX11_opens 20 = .ok (.aload_n 0, 1) := by decide +kernel
theorem dX11_opens_21 : decode cX11_opens 21 = .ok (.getfield 179, 3) := by decide +kernel
theorem dX11_opens_24 : decode cX11_opens 24 = .ok (.iconst 1, 1) := by decide +kernel
theorem dX11_opens_25 : decode cX11_opens 25 = .ok (.iadd, 1) := by decide +kernel
theorem dX11_opens_26 : decode cX11_opens 26 = .ok (.putfield 179, 3) := by decide +kernel
theorem dX11_opens_29 : decode cX11_opens 29 = .ok (.aload_n 0, 1) := by decide +kernel
theorem dX11_opens_30 : decode cX11_opens 30 = .ok (.getfield 38, 3) := by decide +kernel
theorem dX11_opens_33 : decode cX11_opens 33 = .ok (.aload_n 0, 1) := by decide +kernel
theorem dX11_opens_34 : decode cX11_opens 34 = .ok (.getfield 182, 3) := by decide +kernel
theorem dX11_opens_37 : decode cX11_opens 37 = .ok (.ldc 178, 2) := by decide +kernel
theorem dX11_opens_39 : decode cX11_opens 39 = .ok (.iload_n 1, 1) := by decide +kernel
theorem dX11_opens_40 : decode cX11_opens 40 = .ok (.imul, 1) := by decide +kernel
theorem dX11_opens_41 : decode cX11_opens 41 = .ok (.iastore, 1) := by decide +kernel
theorem dX11_opens_42 : decode cX11_opens 42 = .ok (.aload_n 0, 1) := by decide +kernel
theorem dX11_opens_43 : decode cX11_opens 43 = .ok (.aload_n 0, 1) := by decide +kernel
theorem dX11_opens_44 : decode cX11_opens 44 = .ok (.getfield 182, 3) := by decide +kernel
theorem dX11_opens_47 : decode cX11_opens 47 = .ok (.iconst 1, 1) := by decide +kernel
theorem dX11_opens_48 : decode cX11_opens 48 = .ok (.iadd, 1) := by decide +kernel
theorem dX11_opens_49 : decode cX11_opens 49 = .ok (.putfield 182, 3) := by decide +kernel
theorem dX11_opens_52 : decode cX11_opens 52 = .ok (.aload_n 0, 1) := by decide +kernel
theorem dX11_opens_53 : decode cX11_opens 53 = .ok (.aload_n 0, 1) := by decide +kernel
theorem dX11_opens_54 : decode cX11_opens 54 = .ok (.getfield 152, 3) := by decide +kernel
theorem dX11_opens_57 : decode cX11_opens 57 = .ok (.iconst 1, 1) := by decide +kernel
theorem dX11_opens_58 : decode cX11_opens 58 = .ok (.iadd, 1) := by decide +kernel
theorem dX11_opens_59 : decode cX11_opens 59 = .ok (.putfield 152, 3) := by decide +kernel
theorem dX11_opens_62 : decode cX11_opens 62 = .ok (.iconst 1, 1) := by decide +kernel
theorem dX11_opens_63 : decode cX11_opens 63 = .ok (.ireturn, 1) := by decide +kernel
theorem dX11_waitTop_0 : decode cX11_waitTop 0 = .ok (.aload_n 0, 1) := by decide +kernel
theorem dX11_waitTop_1 : decode cX11_waitTop 1 = .ok (.getfield 182, 3) := by decide +kernel
theorem dX11_waitTop_4 : decode cX11_waitTop 4 = .ok (.ifCond .ne 7, 3) := by decide +kernel
theorem dX11_waitTop_7 : decode cX11_waitTop 7 = .ok (.iconst (-1), 1) := by decide +kernel
theorem dX11_waitTop_8 : decode cX11_waitTop 8 = .ok (.goto 17, 3) := by decide +kernel
theorem dX11_waitTop_11 : decode cX11_waitTop 11 = .ok (.aload_n 0, 1) := by decide +kernel
theorem dX11_waitTop_12 : decode cX11_waitTop 12 = .ok (.getfield 38, 3) := by decide +kernel
theorem dX11_waitTop_15 : decode cX11_waitTop 15 = .ok (.aload_n 0, 1) := by decide +kernel
theorem dX11_waitTop_16 : decode cX11_waitTop 16 = .ok (.getfield 182, 3) := by decide +kernel
theorem dX11_waitTop_19 : decode cX11_waitTop 19 = .ok (.iconst 1, 1) := by decide +kernel
theorem dX11_waitTop_20 : decode cX11_waitTop 20 = .ok (.isub, 1) := by decide +kernel
theorem dX11_waitTop_21 : decode cX11_waitTop 21 = .ok (.iaload, 1) := by decide +kernel
theorem dX11_waitTop_22 : decode cX11_waitTop 22 = .ok (.ldc 178, 2) := by decide +kernel
theorem dX11_waitTop_24 : decode cX11_waitTop 24 = .ok (.idiv, 1) := by decide +kernel
theorem dX11_waitTop_25 : decode cX11_waitTop 25 = .ok (.ireturn, 1) := by decide +kernel
theorem dX11_factOf_0 : decode cX11_factOf 0 = .ok (.iload_n 0, 1) := by decide +kernel
theorem dX11_factOf_1 : decode cX11_factOf 1 = .ok (.tableswitch 119 97 116 #[99, 119, 119, 113, 97, 103, 119, 107, 119, 119, 110, 119, 119, 116, 101, 119, 119, 119, 95, 105], 95) := by decide +kernel
theorem dX11_factOf_96 : decode cX11_factOf 96 = .ok (.iconst 0, 1) := by decide +kernel
theorem dX11_factOf_97 : decode cX11_factOf 97 = .ok (.ireturn, 1) := by decide +kernel
theorem dX11_factOf_98 : decode cX11_factOf 98 = .ok (.iconst 1, 1) := by decide +kernel
theorem dX11_factOf_99 : decode cX11_factOf 99 = .ok (.ireturn, 1) := by decide +kernel
theorem dX11_factOf_100 : decode cX11_factOf 100 = .ok (.iconst 2, 1) := by decide +kernel
theorem dX11_factOf_101 : decode cX11_factOf 101 = .ok (.ireturn, 1) := by decide +kernel
theorem dX11_factOf_102 : decode cX11_factOf 102 = .ok (.iconst 3, 1) := by decide +kernel
theorem dX11_factOf_103 : decode cX11_factOf 103 = .ok (.ireturn, 1) := by decide +kernel
theorem dX11_factOf_104 : decode cX11_factOf 104 = .ok (.iconst 4, 1) := by decide +kernel
theorem dX11_factOf_105 : decode cX11_factOf 105 = .ok (.ireturn, 1) := by decide +kernel
theorem dX11_factOf_106 : decode cX11_factOf 106 = .ok (.iconst 5, 1) := by decide +kernel
theorem dX11_factOf_107 : decode cX11_factOf 107 = .ok (.ireturn, 1) := by decide +kernel
theorem dX11_factOf_108 : decode cX11_factOf 108 = .ok (.bipush 6, 2) := by decide +kernel
theorem dX11_factOf_110 : decode cX11_factOf 110 = .ok (.ireturn, 1) := by decide +kernel
theorem dX11_factOf_111 : decode cX11_factOf 111 = .ok (.bipush 7, 2) := by decide +kernel
theorem dX11_factOf_113 : decode cX11_factOf 113 = .ok (.ireturn, 1) := by decide +kernel
theorem dX11_factOf_114 : decode cX11_factOf 114 = .ok (.bipush 8, 2) := by decide +kernel
theorem dX11_factOf_116 : decode cX11_factOf 116 = .ok (.ireturn, 1) := by decide +kernel
theorem dX11_factOf_117 : decode cX11_factOf 117 = .ok (.bipush 9, 2) := by decide +kernel
theorem dX11_factOf_119 : decode cX11_factOf 119 = .ok (.ireturn, 1) := by decide +kernel
theorem dX11_factOf_120 : decode cX11_factOf 120 = .ok (.iconst (-1), 1) := by decide +kernel
theorem dX11_factOf_121 : decode cX11_factOf 121 = .ok (.ireturn, 1) := by decide +kernel
theorem dX11_sumSign_0 : decode cX11_sumSign 0 = .ok (.iload_n 0, 1) := by decide +kernel
theorem dX11_sumSign_1 : decode cX11_sumSign 1 = .ok (.bipush 43, 2) := by decide +kernel
theorem dX11_sumSign_3 : decode cX11_sumSign 3 = .ok (.if_icmp .ne 7, 3) := by decide +kernel
theorem dX11_sumSign_6 : decode cX11_sumSign 6 = .ok (.iconst 2, 1) := by decide +kernel
theorem dX11_sumSign_7 : decode cX11_sumSign 7 = .ok (.goto 45, 3) := by decide +kernel
theorem dX11_sumSign_10 : decode cX11_sumSign 10 = .ok (.iload_n 0, 1) := by decide +kernel
theorem dX11_sumSign_11 : decode cX11_sumSign 11 = .ok (.bipush 45, 2) := by decide +kernel
theorem dX11_sumSign_13 : decode cX11_sumSign 13 = .ok (.if_icmp .ne 7, 3) := by decide +kernel
theorem dX11_sumSign_16 : decode cX11_sumSign 16 = .ok (.iconst 3, 1) := by decide +kernel
theorem dX11_sumSign_17 : decode cX11_sumSign 17 = .ok (.goto 35, 3) := by decide +kernel
theorem dX11_sumSign_20 : decode cX11_sumSign 20 = .ok (.iload_n 0, 1) := by decide +kernel
theorem dX11_sumSign_21 : decode cX11_sumSign 21 = .ok (.bipush 42, 2) := by decide +kernel
theorem dX11_sumSign_23 : decode cX11_sumSign 23 = .ok (.if_icmp .ne 7, 3) := by decide +kernel
theorem dX11_sumSign_26 : decode cX11_sumSign 26 = .ok (.iconst 4, 1) := by decide +kernel
theorem dX11_sumSign_27 : decode cX11_sumSign 27 = .ok (.goto 25, 3) := by decide +kernel
theorem dX11_sumSign_30 : decode cX11_sumSign 30 = .ok (.iload_n 0, 1) := by decide +kernel
theorem dX11_sumSign_31 : decode cX11_sumSign 31 = .ok (.bipush 47, 2) := by decide +kernel
theorem dX11_sumSign_33 : decode cX11_sumSign 33 = .ok (.if_icmp .ne 7, 3) := by decide +kernel
theorem dX11_sumSign_36 : decode cX11_sumSign 36 = .ok (.iconst 5, 1) := by decide +kernel
theorem dX11_sumSign_37 : decode cX11_sumSign 37 = .ok (.goto 15, 3) := by decide +kernel
theorem dX11_sumSign_40 : decode cX11_sumSign 40 = .ok (.iload_n 0, 1) := by decide +kernel
theorem dX11_sumSign_41 : decode cX11_sumSign 41 = .ok (.bipush 37, 2) := by decide +kernel
theorem dX11_sumSign_43 : decode cX11_sumSign 43 = .ok (.if_icmp .ne 8, 3) := by decide +kernel
theorem dX11_sumSign_46 : decode cX11_sumSign 46 = .ok (.bipush 6, 2) := by decide +kernel
theorem dX11_sumSign_48 : decode cX11_sumSign 48 = .ok (.goto 4, 3) := by decide +kernel
theorem dX11_sumSign_51 : decode cX11_sumSign 51 = .ok (.iconst (-1), 1) := by decide +kernel
theorem dX11_sumSign_52 : decode cX11_sumSign 52 = .ok (.ireturn, 1) := by decide +kernel
theorem dX11_closesSums_0 : decode cX11_closesSums 0 = .ok (.aload_n 0, 1) := by decide +kernel
theorem dX11_closesSums_1 : decode cX11_closesSums 1 = .ok (.invokevirtual 185, 3) := by decide +kernel
theorem dX11_closesSums_4 : decode cX11_closesSums 4 = .ok (.iconst 4, 1) := by decide +kernel
theorem dX11_closesSums_5 : decode cX11_closesSums 5 = .ok (.if_icmp .lt 12, 3) := by decide +kernel
theorem dX11_closesSums_8 : decode cX11_closesSums 8 = .ok (.aload_n 0, 1) := by decide +kernel
theorem dX11_closesSums_9 : decode cX11_closesSums 9 = .ok (.invokevirtual 185, 3) := by decide +kernel
theorem dX11_closesSums_12 : decode cX11_closesSums 12 = .ok (.bipush 6, 2) := by decide +kernel
theorem dX11_closesSums_14 : decode cX11_closesSums 14 = .ok (.if_icmp .le 23, 3) := by decide +kernel
theorem dX11_closesSums_17 : decode cX11_closesSums 17 = .ok (.iload_n 1, 1) := by decide +kernel
theorem dX11_closesSums_18 : decode cX11_closesSums 18 = .ok (.ifCond .eq 41, 3) := by decide +kernel
theorem dX11_closesSums_21 : decode cX11_closesSums 21 = .ok (.aload_n 0, 1) := by decide +kernel
theorem dX11_closesSums_22 : decode cX11_closesSums 22 = .ok (.invokevirtual 185, 3) := by decide +kernel
theorem dX11_closesSums_25 : decode cX11_closesSums 25 = .ok (.iconst 2, 1) := by decide +kernel
theorem dX11_closesSums_26 : decode cX11_closesSums 26 = .ok (.if_icmp .eq 11, 3) := by decide +kernel
theorem dX11_closesSums_29 : decode cX11_closesSums 29 = .ok (.aload_n 0, 1) := by decide +kernel
theorem dX11_closesSums_30 : decode cX11_closesSums 30 = .ok (.invokevirtual 185, 3) := by decide +kernel
theorem dX11_closesSums_33 : decode cX11_closesSums 33 = .ok (.iconst 3, 1) := by decide +kernel
theorem dX11_closesSums_34 : decode cX11_closesSums 34 = .ok (.if_icmp .ne 25, 3) := by decide +kernel
theorem dX11_closesSums_37 : decode cX11_closesSums 37 = .ok (.aload_n 0, 1) := by decide +kernel
theorem dX11_closesSums_38 : decode cX11_closesSums 38 = .ok (.aload_n 0, 1) := by decide +kernel
theorem dX11_closesSums_39 : decode cX11_closesSums 39 = .ok (.invokevirtual 185, 3) := by decide +kernel
theorem dX11_closesSums_42 : decode cX11_closesSums 42 = .ok (.iconst 0, 1) := by decide +kernel
theorem dX11_closesSums_43 : decode cX11_closesSums 43 = .ok (.invokevirtual 188, 3) := by decide +kernel
theorem dX11_closesSums_46 : decode cX11_closesSums 46 = .ok (.aload_n 0, 1) := by decide +kernel
theorem dX11_closesSums_47 : decode cX11_closesSums 47 = .ok (.aload_n 0, 1) := by decide +kernel
theorem dX11_closesSums_48 : decode cX11_closesSums 48 = .ok (.getfield 182, 3) := by decide +kernel
theorem dX11_closesSums_51 : decode cX11_closesSums 51 = .ok (.iconst 1, 1) := by decide +kernel
theorem dX11_closesSums_52 : decode cX11_closesSums 52 = .ok (.isub, 1) := by decide +kernel
theorem dX11_closesSums_53 : decode cX11_closesSums 53 = .ok (.putfield 182, 3) := by decide +kernel
theorem dX11_closesSums_56 : decode cX11_closesSums 56 = .ok (.goto (-56), 3) := by decide +kernel
theorem dX11_closesSums_59 : decode cX11_closesSums 59 = .ok (.return_, 1) := by decide +kernel
theorem dX11_readsFactor_0 : decode cX11_readsFactor 0 = .ok (.aload_n 0, 1) := by decide +kernel
theorem dX11_readsFactor_1 : decode cX11_readsFactor 1 = .ok (.invokevirtual 158, 3) := by decide +kernel
theorem dX11_readsFactor_4 : decode cX11_readsFactor 4 = .ok (.bipush 91, 2) := by decide +kernel
theorem dX11_readsFactor_6 : decode cX11_readsFactor 6 = .ok (.if_icmp .ne 14, 3) := by decide +kernel
theorem dX11_readsFactor_9 : decode cX11_readsFactor 9 = .ok (.aload_n 0, 1) := by decide +kernel
theorem dX11_readsFactor_10 : decode cX11_readsFactor 10 = .ok (.bipush 14, 2) := by decide +kernel
theorem dX11_readsFactor_12 : decode cX11_readsFactor 12 = .ok (.invokevirtual 192, 3) := by decide +kernel
theorem dX11_readsFactor_15 : decode cX11_readsFactor 15 = .ok (.ifCond .ne (-15), 3) := by decide +kernel
theorem dX11_readsFactor_18 : decode cX11_readsFactor 18 = .ok (.iconst 0, 1) := by decide +kernel
theorem dX11_readsFactor_19 : decode cX11_readsFactor 19 = .ok (.ireturn, 1) := by decide +kernel
theorem dX11_readsFactor_20 : decode cX11_readsFactor 20 = .ok (.aload_n 0, 1) := by decide +kernel
theorem dX11_readsFactor_21 : decode cX11_readsFactor 21 = .ok (.invokevirtual 171, 3) := by decide +kernel
theorem dX11_readsFactor_24 : decode cX11_readsFactor 24 = .ok (.ifCond .eq 23, 3) := by decide +kernel
theorem dX11_readsFactor_27 : decode cX11_readsFactor 27 = .ok (.aload_n 0, 1) := by decide +kernel
theorem dX11_readsFactor_28 : decode cX11_readsFactor 28 = .ok (.invokevirtual 195, 3) := by decide +kernel
theorem dX11_readsFactor_31 : decode cX11_readsFactor 31 = .ok (.ifCond .ne 5, 3) := by decide +kernel
theorem dX11_readsFactor_34 : decode cX11_readsFactor 34 = .ok (.iconst 0, 1) := by decide +kernel
theorem dX11_readsFactor_35 : decode cX11_readsFactor 35 = .ok (.ireturn, 1) := by decide +kernel
theorem dX11_readsFactor_36 : decode cX11_readsFactor 36 = .ok (.aload_n 0, 1) := by decide +kernel
theorem dX11_readsFactor_37 : decode cX11_readsFactor 37 = .ok (.iconst 0, 1) := by decide +kernel
theorem dX11_readsFactor_38 : decode cX11_readsFactor 38 = .ok (.aload_n 0, 1) := by decide +kernel
theorem dX11_readsFactor_39 : decode cX11_readsFactor 39 = .ok (.getfield 168, 3) := by decide +kernel
theorem dX11_readsFactor_42 : decode cX11_readsFactor 42 = .ok (.invokevirtual 188, 3) := by decide +kernel
theorem dX11_readsFactor_45 : decode cX11_readsFactor 45 = .ok (.iconst 1, 1) := by decide +kernel
theorem dX11_readsFactor_46 : decode cX11_readsFactor 46 = .ok (.ireturn, 1) := by decide +kernel
theorem dX11_readsFactor_47 : decode cX11_readsFactor 47 = .ok (.aload_n 0, 1) := by decide +kernel
theorem dX11_readsFactor_48 : decode cX11_readsFactor 48 = .ok (.invokevirtual 158, 3) := by decide +kernel
theorem dX11_readsFactor_51 : decode cX11_readsFactor 51 = .ok (.invokestatic 198, 3) := by decide +kernel
theorem dX11_readsFactor_54 : decode cX11_readsFactor 54 = .ok (.istore_n 1, 1) := by decide +kernel
theorem dX11_readsFactor_55 : decode cX11_readsFactor 55 = .ok (.iload_n 1, 1) := by decide +kernel
theorem dX11_readsFactor_56 : decode cX11_readsFactor 56 = .ok (.iconst (-1), 1) := by decide +kernel
theorem dX11_readsFactor_57 : decode cX11_readsFactor 57 = .ok (.if_icmp .ne 13, 3) := by decide +kernel
theorem dX11_readsFactor_60 : decode cX11_readsFactor 60 = .ok (.aload_n 0, 1) := by decide +kernel
theorem dX11_readsFactor_61 : decode cX11_readsFactor 61 = .ok (.iconst 1, 1) := by decide +kernel
theorem dX11_readsFactor_62 : decode cX11_readsFactor 62 = .ok (.aload_n 0, 1) := by decide +kernel
theorem dX11_readsFactor_63 : decode cX11_readsFactor 63 = .ok (.getfield 152, 3) := by decide +kernel
theorem dX11_readsFactor_66 : decode cX11_readsFactor 66 = .ok (.invokevirtual 165, 3) := by decide +kernel
theorem dX11_readsFactor_69 : decode cX11_readsFactor 69 = .ok (.ireturn, 1) := by decide +kernel
theorem dX11_readsFactor_70 : decode cX11_readsFactor 70 = .ok (.aload_n 0, 1) := by decide +kernel
theorem dX11_readsFactor_71 : decode cX11_readsFactor 71 = .ok (.iconst 1, 1) := by decide +kernel
theorem dX11_readsFactor_72 : decode cX11_readsFactor 72 = .ok (.iload_n 1, 1) := by decide +kernel
theorem dX11_readsFactor_73 : decode cX11_readsFactor 73 = .ok (.invokevirtual 188, 3) := by decide +kernel
theorem dX11_readsFactor_76 : decode cX11_readsFactor 76 = .ok (.aload_n 0, 1) := by decide +kernel
theorem dX11_readsFactor_77 : decode cX11_readsFactor 77 = .ok (.aload_n 0, 1) := by decide +kernel
theorem dX11_readsFactor_78 : decode cX11_readsFactor 78 = .ok (.getfield 152, 3) := by decide +kernel
theorem dX11_readsFactor_81 : decode cX11_readsFactor 81 = .ok (.iconst 1, 1) := by decide +kernel
theorem dX11_readsFactor_82 : decode cX11_readsFactor 82 = .ok (.iadd, 1) := by decide +kernel
theorem dX11_readsFactor_83 : decode cX11_readsFactor 83 = .ok (.putfield 152, 3) := by decide +kernel
theorem dX11_readsFactor_86 : decode cX11_readsFactor 86 = .ok (.iconst 1, 1) := by decide +kernel
theorem dX11_readsFactor_87 : decode cX11_readsFactor 87 = .ok (.ireturn, 1) := by decide +kernel
theorem dX11_hasOpenSum_0 : decode cX11_hasOpenSum 0 = .ok (.iload_n 1, 1) := by decide +kernel
theorem dX11_hasOpenSum_1 : decode cX11_hasOpenSum 1 = .ok (.istore_n 2, 1) := by decide +kernel
theorem dX11_hasOpenSum_2 : decode cX11_hasOpenSum 2 = .ok (.iload_n 2, 1) := by decide +kernel
theorem dX11_hasOpenSum_3 : decode cX11_hasOpenSum 3 = .ok (.aload_n 0, 1) := by decide +kernel
theorem dX11_hasOpenSum_4 : decode cX11_hasOpenSum 4 = .ok (.getfield 182, 3) := by decide +kernel
theorem dX11_hasOpenSum_7 : decode cX11_hasOpenSum 7 = .ok (.if_icmp .ge 25, 3) := by decide +kernel
theorem dX11_hasOpenSum_10 : decode cX11_hasOpenSum 10 = .ok (.aload_n 0, 1) := by decide +kernel
theorem dX11_hasOpenSum_11 : decode cX11_hasOpenSum 11 = .ok (.getfield 38, 3) := by decide +kernel
theorem dX11_hasOpenSum_14 : decode cX11_hasOpenSum 14 = .ok (.iload_n 2, 1) := by decide +kernel
theorem dX11_hasOpenSum_15 : decode cX11_hasOpenSum 15 = .ok (.iaload, 1) := by decide +kernel
theorem dX11_hasOpenSum_16 : decode cX11_hasOpenSum 16 = .ok (.ldc 178, 2) := by decide +kernel
theorem dX11_hasOpenSum_18 : decode cX11_hasOpenSum 18 = .ok (.idiv, 1) := by decide +kernel
theorem dX11_hasOpenSum_19 : decode cX11_hasOpenSum 19 = .ok (.bipush 14, 2) := by decide +kernel
theorem dX11_hasOpenSum_21 : decode cX11_hasOpenSum 21 = .ok (.if_icmp .ne 5, 3) := by decide +kernel
theorem dX11_hasOpenSum_24 : decode cX11_hasOpenSum 24 = .ok (.iconst 1, 1) := by decide +kernel
theorem dX11_hasOpenSum_25 : decode cX11_hasOpenSum 25 = .ok (.ireturn, 1) := by decide +kernel
theorem dX11_hasOpenSum_26 : decode cX11_hasOpenSum 26 = .ok (.iinc 2 1, 3) := by decide +kernel
theorem dX11_hasOpenSum_29 : decode cX11_hasOpenSum 29 = .ok (.goto (-27), 3) := by decide +kernel
theorem dX11_hasOpenSum_32 : decode cX11_hasOpenSum 32 = .ok (.iconst 0, 1) := by decide +kernel
theorem dX11_hasOpenSum_33 : decode cX11_hasOpenSum 33 = .ok (.ireturn, 1) := by decide +kernel
theorem dX11_readsSum_0 : decode cX11_readsSum 0 = .ok (.aload_n 0, 1) := by decide +kernel
theorem dX11_readsSum_1 : decode cX11_readsSum 1 = .ok (.getfield 182, 3) := by decide +kernel
theorem dX11_readsSum_4 : decode cX11_readsSum 4 = .ok (.istore_n 1, 1) := by decide +kernel
theorem dX11_readsSum_5 : decode cX11_readsSum 5 = .ok (.aload_n 0, 1) := by decide +kernel
theorem dX11_readsSum_6 : decode cX11_readsSum 6 = .ok (.invokevirtual 201, 3) := by decide +kernel
theorem dX11_readsSum_9 : decode cX11_readsSum 9 = .ok (.ifCond .ne 5, 3) := by decide +kernel
theorem dX11_readsSum_12 : decode cX11_readsSum 12 = .ok (.iconst 0, 1) := by decide +kernel
theorem dX11_readsSum_13 : decode cX11_readsSum 13 = .ok (.ireturn, 1) := by decide +kernel
theorem dX11_readsSum_14 : decode cX11_readsSum 14 = .ok (.aload_n 0, 1) := by decide +kernel
theorem dX11_readsSum_15 : decode cX11_readsSum 15 = .ok (.invokevirtual 158, 3) := by decide +kernel
theorem dX11_readsSum_18 : decode cX11_readsSum 18 = .ok (.invokestatic 204, 3) := by decide +kernel
theorem dX11_readsSum_21 : decode cX11_readsSum 21 = .ok (.istore_n 2, 1) := by decide +kernel
theorem dX11_readsSum_22 : decode cX11_readsSum 22 = .ok (.iload_n 2, 1) := by decide +kernel
theorem dX11_readsSum_23 : decode cX11_readsSum 23 = .ok (.iconst (-1), 1) := by decide +kernel
theorem dX11_readsSum_24 : decode cX11_readsSum 24 = .ok (.if_icmp .eq 59, 3) := by decide +kernel
theorem dX11_readsSum_27 : decode cX11_readsSum 27 = .ok (.aload_n 0, 1) := by decide +kernel
theorem dX11_readsSum_28 : decode cX11_readsSum 28 = .ok (.iload_n 2, 1) := by decide +kernel
theorem dX11_readsSum_29 : decode cX11_readsSum 29 = .ok (.iconst 4, 1) := by decide +kernel
theorem dX11_readsSum_30 : decode cX11_readsSum 30 = .ok (.if_icmp .ge 7, 3) := by decide +kernel
theorem dX11_readsSum_33 : decode cX11_readsSum 33 = .ok (.iconst 1, 1) := by decide +kernel
theorem dX11_readsSum_34 : decode cX11_readsSum 34 = .ok (.goto 4, 3) := by decide +kernel
theorem dX11_readsSum_37 : decode cX11_readsSum 37 = .ok (.iconst 0, 1) := by decide +kernel
theorem dX11_readsSum_38 : decode cX11_readsSum 38 = .ok (.invokevirtual 207, 3) := by decide +kernel
theorem dX11_readsSum_41 : decode cX11_readsSum 41 = .ok (.aload_n 0, 1) := by decide +kernel
theorem dX11_readsSum_42 : decode cX11_readsSum 42 = .ok (.getfield 38, 3) := by decide +kernel
theorem dX11_readsSum_45 : decode cX11_readsSum 45 = .ok (.aload_n 0, 1) := by decide +kernel
theorem dX11_readsSum_46 : decode cX11_readsSum 46 = .ok (.getfield 182, 3) := by decide +kernel
theorem dX11_readsSum_49 : decode cX11_readsSum 49 = .ok (.ldc 178, 2) := by decide +kernel
theorem dX11_readsSum_51 : decode cX11_readsSum 51 = .ok (.iload_n 2, 1) := by decide +kernel
theorem dX11_readsSum_52 : decode cX11_readsSum 52 = .ok (.imul, 1) := by decide +kernel
theorem dX11_readsSum_53 : decode cX11_readsSum 53 = .ok (.iastore, 1) := by decide +kernel
theorem dX11_readsSum_54 : decode cX11_readsSum 54 = .ok (.aload_n 0, 1) := by decide +kernel
theorem dX11_readsSum_55 : decode cX11_readsSum 55 = .ok (.aload_n 0, 1) := by decide +kernel
theorem dX11_readsSum_56 : decode cX11_readsSum 56 = .ok (.getfield 182, 3) := by decide +kernel
theorem dX11_readsSum_59 : decode cX11_readsSum 59 = .ok (.iconst 1, 1) := by decide +kernel
theorem dX11_readsSum_60 : decode cX11_readsSum 60 = .ok (.iadd, 1) := by decide +kernel
theorem dX11_readsSum_61 : decode cX11_readsSum 61 = .ok (.putfield 182, 3) := by decide +kernel
theorem dX11_readsSum_64 : decode cX11_readsSum 64 = .ok (.aload_n 0, 1) := by decide +kernel
theorem dX11_readsSum_65 : decode cX11_readsSum 65 = .ok (.aload_n 0, 1) := by decide +kernel
theorem dX11_readsSum_66 : decode cX11_readsSum 66 = .ok (.getfield 152, 3) := by decide +kernel
theorem dX11_readsSum_69 : decode cX11_readsSum 69 = .ok (.iconst 1, 1) := by decide +kernel
theorem dX11_readsSum_70 : decode cX11_readsSum 70 = .ok (.iadd, 1) := by decide +kernel
theorem dX11_readsSum_71 : decode cX11_readsSum 71 = .ok (.putfield 152, 3) := by decide +kernel
theorem dX11_readsSum_74 : decode cX11_readsSum 74 = .ok (.aload_n 0, 1) := by decide +kernel
theorem dX11_readsSum_75 : decode cX11_readsSum 75 = .ok (.invokevirtual 201, 3) := by decide +kernel
theorem dX11_readsSum_78 : decode cX11_readsSum 78 = .ok (.ifCond .ne 85, 3) := by decide +kernel
theorem dX11_readsSum_81 : decode cX11_readsSum 81 = .ok (.iconst 0, 1) := by decide +kernel
theorem dX11_readsSum_82 : decode cX11_readsSum 82 = .ok (.ireturn, 1) := by decide +kernel
theorem dX11_readsSum_83 : decode cX11_readsSum 83 = .ok (.aload_n 0, 1) := by decide +kernel
theorem dX11_readsSum_84 : decode cX11_readsSum 84 = .ok (.invokevirtual 158, 3) := by decide +kernel
theorem dX11_readsSum_87 : decode cX11_readsSum 87 = .ok (.bipush 93, 2) := by decide +kernel
theorem dX11_readsSum_89 : decode cX11_readsSum 89 = .ok (.if_icmp .ne 49, 3) := by decide +kernel
theorem dX11_readsSum_92 : decode cX11_readsSum 92 = .ok (.aload_n 0, 1) := by decide +kernel
theorem dX11_readsSum_93 : decode cX11_readsSum 93 = .ok (.iload_n 1, 1) := by decide +kernel
theorem dX11_readsSum_94 : decode cX11_readsSum 94 = .ok (.invokevirtual 211, 3) := by decide +kernel
theorem dX11_readsSum_97 : decode cX11_readsSum 97 = .ok (.ifCond .eq 41, 3) := by decide +kernel
theorem dX11_readsSum_100 : decode cX11_readsSum 100 = .ok (.aload_n 0, 1) := by decide +kernel
theorem dX11_readsSum_101 : decode cX11_readsSum 101 = .ok (.iconst 1, 1) := by decide +kernel
theorem dX11_readsSum_102 : decode cX11_readsSum 102 = .ok (.invokevirtual 207, 3) := by decide +kernel
theorem dX11_readsSum_105 : decode cX11_readsSum 105 = .ok (.aload_n 0, 1) := by decide +kernel
theorem dX11_readsSum_106 : decode cX11_readsSum 106 = .ok (.aload_n 0, 1) := by decide +kernel
theorem dX11_readsSum_107 : decode cX11_readsSum 107 = .ok (.getfield 182, 3) := by decide +kernel
theorem dX11_readsSum_110 : decode cX11_readsSum 110 = .ok (.iconst 1, 1) := by decide +kernel
theorem dX11_readsSum_111 : decode cX11_readsSum 111 = .ok (.isub, 1) := by decide +kernel
theorem dX11_readsSum_112 : decode cX11_readsSum 112 = .ok (.putfield 182, 3) := by decide +kernel
theorem dX11_readsSum_115 : decode cX11_readsSum 115 = .ok (.aload_n 0, 1) := by decide +kernel
theorem dX11_readsSum_116 : decode cX11_readsSum 116 = .ok (.aload_n 0, 1) := by decide +kernel
theorem dX11_readsSum_117 : decode cX11_readsSum 117 = .ok (.getfield 179, 3) := by decide +kernel
theorem dX11_readsSum_120 : decode cX11_readsSum 120 = .ok (.iconst 1, 1) := by decide +kernel
theorem dX11_readsSum_121 : decode cX11_readsSum 121 = .ok (.isub, 1) := by decide +kernel
theorem dX11_readsSum_122 : decode cX11_readsSum 122 = .ok (.putfield 179, 3) := by decide +kernel
theorem dX11_readsSum_125 : decode cX11_readsSum 125 = .ok (.aload_n 0, 1) := by decide +kernel
theorem dX11_readsSum_126 : decode cX11_readsSum 126 = .ok (.aload_n 0, 1) := by decide +kernel
theorem dX11_readsSum_127 : decode cX11_readsSum 127 = .ok (.getfield 152, 3) := by decide +kernel
theorem dX11_readsSum_130 : decode cX11_readsSum 130 = .ok (.iconst 1, 1) := by decide +kernel
theorem dX11_readsSum_131 : decode cX11_readsSum 131 = .ok (.iadd, 1) := by decide +kernel
theorem dX11_readsSum_132 : decode cX11_readsSum 132 = .ok (.putfield 152, 3) := by decide +kernel
theorem dX11_readsSum_135 : decode cX11_readsSum 135 = .ok (.goto 28, 3) := by decide +kernel
theorem dX11_readsSum_138 : decode cX11_readsSum 138 = .ok (.aload_n 0, 1) := by decide +kernel
theorem dX11_readsSum_139 : decode cX11_readsSum 139 = .ok (.iload_n 1, 1) := by decide +kernel
theorem dX11_readsSum_140 : decode cX11_readsSum 140 = .ok (.invokevirtual 211, 3) := by decide +kernel
theorem dX11_readsSum_143 : decode cX11_readsSum 143 = .ok (.ifCond .eq 13, 3) := by decide +kernel
theorem dX11_readsSum_146 : decode cX11_readsSum 146 = .ok (.aload_n 0, 1) := by decide +kernel
theorem dX11_readsSum_147 : decode cX11_readsSum 147 = .ok (.iconst 1, 1) := by decide +kernel
theorem dX11_readsSum_148 : decode cX11_readsSum 148 = .ok (.aload_n 0, 1) := by decide +kernel
theorem dX11_readsSum_149 : decode cX11_readsSum 149 = .ok (.getfield 152, 3) := by decide +kernel
theorem dX11_readsSum_152 : decode cX11_readsSum 152 = .ok (.invokevirtual 165, 3) := by decide +kernel
theorem dX11_readsSum_155 : decode cX11_readsSum 155 = .ok (.ireturn, 1) := by decide +kernel
theorem dX11_readsSum_156 : decode cX11_readsSum 156 = .ok (.aload_n 0, 1) := by decide +kernel
theorem dX11_readsSum_157 : decode cX11_readsSum 157 = .ok (.iconst 1, 1) := by decide +kernel
theorem dX11_readsSum_158 : decode cX11_readsSum 158 = .ok (.invokevirtual 207, 3) := by decide +kernel
theorem dX11_readsSum_161 : decode cX11_readsSum 161 = .ok (.iconst 1, 1) := by decide +kernel
theorem dX11_readsSum_162 : decode cX11_readsSum 162 = .ok (.ireturn, 1) := by decide +kernel
theorem dX11_readsSum_163 : decode cX11_readsSum 163 = .ok (.goto (-149), 3) := by decide +kernel
theorem dX11_endsPiece_0 : decode cX11_endsPiece 0 = .ok (.aload_n 0, 1) := by decide +kernel
theorem dX11_endsPiece_1 : decode cX11_endsPiece 1 = .ok (.invokevirtual 185, 3) := by decide +kernel
theorem dX11_endsPiece_4 : decode cX11_endsPiece 4 = .ok (.bipush 10, 2) := by decide +kernel
theorem dX11_endsPiece_6 : decode cX11_endsPiece 6 = .ok (.if_icmp .ne 33, 3) := by decide +kernel
theorem dX11_endsPiece_9 : decode cX11_endsPiece 9 = .ok (.aload_n 0, 1) := by decide +kernel
theorem dX11_endsPiece_10 : decode cX11_endsPiece 10 = .ok (.bipush 10, 2) := by decide +kernel
theorem dX11_endsPiece_12 : decode cX11_endsPiece 12 = .ok (.iconst 0, 1) := by decide +kernel
theorem dX11_endsPiece_13 : decode cX11_endsPiece 13 = .ok (.invokevirtual 188, 3) := by decide +kernel
theorem dX11_endsPiece_16 : decode cX11_endsPiece 16 = .ok (.aload_n 0, 1) := by decide +kernel
theorem dX11_endsPiece_17 : decode cX11_endsPiece 17 = .ok (.aload_n 0, 1) := by decide +kernel
theorem dX11_endsPiece_18 : decode cX11_endsPiece 18 = .ok (.getfield 182, 3) := by decide +kernel
theorem dX11_endsPiece_21 : decode cX11_endsPiece 21 = .ok (.iconst 1, 1) := by decide +kernel
theorem dX11_endsPiece_22 : decode cX11_endsPiece 22 = .ok (.isub, 1) := by decide +kernel
theorem dX11_endsPiece_23 : decode cX11_endsPiece 23 = .ok (.putfield 182, 3) := by decide +kernel
theorem dX11_endsPiece_26 : decode cX11_endsPiece 26 = .ok (.aload_n 0, 1) := by decide +kernel
theorem dX11_endsPiece_27 : decode cX11_endsPiece 27 = .ok (.aload_n 0, 1) := by decide +kernel
theorem dX11_endsPiece_28 : decode cX11_endsPiece 28 = .ok (.getfield 179, 3) := by decide +kernel
theorem dX11_endsPiece_31 : decode cX11_endsPiece 31 = .ok (.iconst 1, 1) := by decide +kernel
theorem dX11_endsPiece_32 : decode cX11_endsPiece 32 = .ok (.isub, 1) := by decide +kernel
theorem dX11_endsPiece_33 : decode cX11_endsPiece 33 = .ok (.putfield 179, 3) := by decide +kernel
theorem dX11_endsPiece_36 : decode cX11_endsPiece 36 = .ok (.goto (-36), 3) := by decide +kernel
theorem dX11_endsPiece_39 : decode cX11_endsPiece 39 = .ok (.return_, 1) := by decide +kernel
theorem dX11_lands_0 : decode cX11_lands 0 = .ok (.aload_n 0, 1) := by decide +kernel
theorem dX11_lands_1 : decode cX11_lands 1 = .ok (.invokevirtual 185, 3) := by decide +kernel
theorem dX11_lands_4 : decode cX11_lands 4 = .ok (.bipush 11, 2) := by decide +kernel
theorem dX11_lands_6 : decode cX11_lands 6 = .ok (.if_icmp .eq 16, 3) := by decide +kernel
theorem dX11_lands_9 : decode cX11_lands 9 = .ok (.iload_n 1, 1) := by decide +kernel
theorem dX11_lands_10 : decode cX11_lands 10 = .ok (.ifCond .eq 63, 3) := by decide +kernel
theorem dX11_lands_13 : decode cX11_lands 13 = .ok (.aload_n 0, 1) := by decide +kernel
theorem dX11_lands_14 : decode cX11_lands 14 = .ok (.invokevirtual 185, 3) := by decide +kernel
theorem dX11_lands_17 : decode cX11_lands 17 = .ok (.bipush 12, 2) := by decide +kernel
theorem dX11_lands_19 : decode cX11_lands 19 = .ok (.if_icmp .ne 54, 3) := by decide +kernel
theorem dX11_lands_22 : decode cX11_lands 22 = .ok (.aload_n 0, 1) := by decide +kernel
theorem dX11_lands_23 : decode cX11_lands 23 = .ok (.getfield 38, 3) := by decide +kernel
theorem dX11_lands_26 : decode cX11_lands 26 = .ok (.aload_n 0, 1) := by decide +kernel
theorem dX11_lands_27 : decode cX11_lands 27 = .ok (.getfield 182, 3) := by decide +kernel
theorem dX11_lands_30 : decode cX11_lands 30 = .ok (.iconst 1, 1) := by decide +kernel
theorem dX11_lands_31 : decode cX11_lands 31 = .ok (.isub, 1) := by decide +kernel
theorem dX11_lands_32 : decode cX11_lands 32 = .ok (.iaload, 1) := by decide +kernel
theorem dX11_lands_33 : decode cX11_lands 33 = .ok (.ldc 178, 2) := by decide +kernel
theorem dX11_lands_35 : decode cX11_lands 35 = .ok (.irem, 1) := by decide +kernel
theorem dX11_lands_36 : decode cX11_lands 36 = .ok (.istore_n 2, 1) := by decide +kernel
theorem dX11_lands_37 : decode cX11_lands 37 = .ok (.aload_n 0, 1) := by decide +kernel
theorem dX11_lands_38 : decode cX11_lands 38 = .ok (.getfield 35, 3) := by decide +kernel
theorem dX11_lands_41 : decode cX11_lands 41 = .ok (.iload_n 2, 1) := by decide +kernel
theorem dX11_lands_42 : decode cX11_lands 42 = .ok (.ldc 178, 2) := by decide +kernel
theorem dX11_lands_44 : decode cX11_lands 44 = .ok (.aload_n 0, 1) := by decide +kernel
theorem dX11_lands_45 : decode cX11_lands 45 = .ok (.getfield 35, 3) := by decide +kernel
theorem dX11_lands_48 : decode cX11_lands 48 = .ok (.iload_n 2, 1) := by decide +kernel
theorem dX11_lands_49 : decode cX11_lands 49 = .ok (.iaload, 1) := by decide +kernel
theorem dX11_lands_50 : decode cX11_lands 50 = .ok (.ldc 178, 2) := by decide +kernel
theorem dX11_lands_52 : decode cX11_lands 52 = .ok (.idiv, 1) := by decide +kernel
theorem dX11_lands_53 : decode cX11_lands 53 = .ok (.imul, 1) := by decide +kernel
theorem dX11_lands_54 : decode cX11_lands 54 = .ok (.aload_n 0, 1) := by decide +kernel
theorem dX11_lands_55 : decode cX11_lands 55 = .ok (.getfield 175, 3) := by decide +kernel
theorem dX11_lands_58 : decode cX11_lands 58 = .ok (.iadd, 1) := by decide +kernel
theorem dX11_lands_59 : decode cX11_lands 59 = .ok (.iastore, 1) := by decide +kernel
theorem dX11_lands_60 : decode cX11_lands 60 = .ok (.aload_n 0, 1) := by decide +kernel
theorem dX11_lands_61 : decode cX11_lands 61 = .ok (.aload_n 0, 1) := by decide +kernel
theorem dX11_lands_62 : decode cX11_lands 62 = .ok (.getfield 182, 3) := by decide +kernel
theorem dX11_lands_65 : decode cX11_lands 65 = .ok (.iconst 1, 1) := by decide +kernel
theorem dX11_lands_66 : decode cX11_lands 66 = .ok (.isub, 1) := by decide +kernel
theorem dX11_lands_67 : decode cX11_lands 67 = .ok (.putfield 182, 3) := by decide +kernel
theorem dX11_lands_70 : decode cX11_lands 70 = .ok (.goto (-70), 3) := by decide +kernel
theorem dX11_lands_73 : decode cX11_lands 73 = .ok (.return_, 1) := by decide +kernel
theorem dX11_jumps_0 : decode cX11_jumps 0 = .ok (.aload_n 0, 1) := by decide +kernel
theorem dX11_jumps_1 : decode cX11_jumps 1 = .ok (.getfield 38, 3) := by decide +kernel
theorem dX11_jumps_4 : decode cX11_jumps 4 = .ok (.aload_n 0, 1) := by decide +kernel
theorem dX11_jumps_5 : decode cX11_jumps 5 = .ok (.getfield 182, 3) := by decide +kernel
theorem dX11_jumps_8 : decode cX11_jumps 8 = .ok (.ldc 178, 2) := by decide +kernel
theorem dX11_jumps_10 : decode cX11_jumps 10 = .ok (.iload_n 1, 1) := by decide +kernel
theorem dX11_jumps_11 : decode cX11_jumps 11 = .ok (.imul, 1) := by decide +kernel
theorem dX11_jumps_12 : decode cX11_jumps 12 = .ok (.aload_n 0, 1) := by decide +kernel
theorem dX11_jumps_13 : decode cX11_jumps 13 = .ok (.getfield 175, 3) := by decide +kernel
theorem dX11_jumps_16 : decode cX11_jumps 16 = .ok (.iadd, 1) := by decide +kernel
theorem dX11_jumps_17 : decode cX11_jumps 17 = .ok (.iastore, 1) := by decide +kernel
theorem dX11_jumps_18 : decode cX11_jumps 18 = .ok (.aload_n 0, 1) := by decide +kernel
theorem dX11_jumps_19 : decode cX11_jumps 19 = .ok (.aload_n 0, 1) := by decide +kernel
theorem dX11_jumps_20 : decode cX11_jumps 20 = .ok (.getfield 182, 3) := by decide +kernel
theorem dX11_jumps_23 : decode cX11_jumps 23 = .ok (.iconst 1, 1) := by decide +kernel
theorem dX11_jumps_24 : decode cX11_jumps 24 = .ok (.iadd, 1) := by decide +kernel
theorem dX11_jumps_25 : decode cX11_jumps 25 = .ok (.putfield 182, 3) := by decide +kernel
theorem dX11_jumps_28 : decode cX11_jumps 28 = .ok (.aload_n 0, 1) := by decide +kernel
theorem dX11_jumps_29 : decode cX11_jumps 29 = .ok (.iload_n 1, 1) := by decide +kernel
theorem dX11_jumps_30 : decode cX11_jumps 30 = .ok (.iconst 0, 1) := by decide +kernel
theorem dX11_jumps_31 : decode cX11_jumps 31 = .ok (.invokevirtual 188, 3) := by decide +kernel
theorem dX11_jumps_34 : decode cX11_jumps 34 = .ok (.aload_n 0, 1) := by decide +kernel
theorem dX11_jumps_35 : decode cX11_jumps 35 = .ok (.aload_n 0, 1) := by decide +kernel
theorem dX11_jumps_36 : decode cX11_jumps 36 = .ok (.getfield 152, 3) := by decide +kernel
theorem dX11_jumps_39 : decode cX11_jumps 39 = .ok (.iconst 1, 1) := by decide +kernel
theorem dX11_jumps_40 : decode cX11_jumps 40 = .ok (.iadd, 1) := by decide +kernel
theorem dX11_jumps_41 : decode cX11_jumps 41 = .ok (.putfield 152, 3) := by decide +kernel
theorem dX11_jumps_44 : decode cX11_jumps 44 = .ok (.return_, 1) := by decide +kernel
theorem dX11_readsCompared_0 : decode cX11_readsCompared 0 = .ok (.aload_n 0, 1) := by decide +kernel
theorem dX11_readsCompared_1 : decode cX11_readsCompared 1 = .ok (.invokevirtual 214, 3) := by decide +kernel
theorem dX11_readsCompared_4 : decode cX11_readsCompared 4 = .ok (.ifCond .ne 5, 3) := by decide +kernel
theorem dX11_readsCompared_7 : decode cX11_readsCompared 7 = .ok (.iconst 0, 1) := by decide +kernel
theorem dX11_readsCompared_8 : decode cX11_readsCompared 8 = .ok (.ireturn, 1) := by decide +kernel
theorem dX11_readsCompared_9 : decode cX11_readsCompared 9 = .ok (.aload_n 0, 1) := by decide +kernel
theorem dX11_readsCompared_10 : decode cX11_readsCompared 10 = .ok (.invokevirtual 158, 3) := by decide +kernel
theorem dX11_readsCompared_13 : decode cX11_readsCompared 13 = .ok (.bipush 60, 2) := by decide +kernel
theorem dX11_readsCompared_15 : decode cX11_readsCompared 15 = .ok (.if_icmp .ne 8, 3) := by decide +kernel
theorem dX11_readsCompared_18 : decode cX11_readsCompared 18 = .ok (.bipush 7, 2) := by decide +kernel
theorem dX11_readsCompared_20 : decode cX11_readsCompared 20 = .ok (.goto 32, 3) := by decide +kernel
theorem dX11_readsCompared_23 : decode cX11_readsCompared 23 = .ok (.aload_n 0, 1) := by decide +kernel
theorem dX11_readsCompared_24 : decode cX11_readsCompared 24 = .ok (.invokevirtual 158, 3) := by decide +kernel
theorem dX11_readsCompared_27 : decode cX11_readsCompared 27 = .ok (.bipush 62, 2) := by decide +kernel
theorem dX11_readsCompared_29 : decode cX11_readsCompared 29 = .ok (.if_icmp .ne 8, 3) := by decide +kernel
theorem dX11_readsCompared_32 : decode cX11_readsCompared 32 = .ok (.bipush 8, 2) := by decide +kernel
theorem dX11_readsCompared_34 : decode cX11_readsCompared 34 = .ok (.goto 18, 3) := by decide +kernel
theorem dX11_readsCompared_37 : decode cX11_readsCompared 37 = .ok (.aload_n 0, 1) := by decide +kernel
theorem dX11_readsCompared_38 : decode cX11_readsCompared 38 = .ok (.invokevirtual 158, 3) := by decide +kernel
theorem dX11_readsCompared_41 : decode cX11_readsCompared 41 = .ok (.bipush 61, 2) := by decide +kernel
theorem dX11_readsCompared_43 : decode cX11_readsCompared 43 = .ok (.if_icmp .ne 8, 3) := by decide +kernel
theorem dX11_readsCompared_46 : decode cX11_readsCompared 46 = .ok (.bipush 9, 2) := by decide +kernel
theorem dX11_readsCompared_48 : decode cX11_readsCompared 48 = .ok (.goto 4, 3) := by decide +kernel
theorem dX11_readsCompared_51 : decode cX11_readsCompared 51 = .ok (.iconst (-1), 1) := by decide +kernel
theorem dX11_readsCompared_52 : decode cX11_readsCompared 52 = .ok (.istore_n 1, 1) := by decide +kernel
theorem dX11_readsCompared_53 : decode cX11_readsCompared 53 = .ok (.iload_n 1, 1) := by decide +kernel
theorem dX11_readsCompared_54 : decode cX11_readsCompared 54 = .ok (.iconst (-1), 1) := by decide +kernel
theorem dX11_readsCompared_55 : decode cX11_readsCompared 55 = .ok (.if_icmp .ne 13, 3) := by decide +kernel
theorem dX11_readsCompared_58 : decode cX11_readsCompared 58 = .ok (.aload_n 0, 1) := by decide +kernel
theorem dX11_readsCompared_59 : decode cX11_readsCompared 59 = .ok (.iconst 1, 1) := by decide +kernel
theorem dX11_readsCompared_60 : decode cX11_readsCompared 60 = .ok (.aload_n 0, 1) := by decide +kernel
theorem dX11_readsCompared_61 : decode cX11_readsCompared 61 = .ok (.getfield 152, 3) := by decide +kernel
theorem dX11_readsCompared_64 : decode cX11_readsCompared 64 = .ok (.invokevirtual 165, 3) := by decide +kernel
theorem dX11_readsCompared_67 : decode cX11_readsCompared 67 = .ok (.ireturn, 1) := by decide +kernel
theorem dX11_readsCompared_68 : decode cX11_readsCompared 68 = .ok (.aload_n 0, 1) := by decide +kernel
theorem dX11_readsCompared_69 : decode cX11_readsCompared 69 = .ok (.aload_n 0, 1) := by decide +kernel
theorem dX11_readsCompared_70 : decode cX11_readsCompared 70 = .ok (.getfield 152, 3) := by decide +kernel
theorem dX11_readsCompared_73 : decode cX11_readsCompared 73 = .ok (.iconst 1, 1) := by decide +kernel
theorem dX11_readsCompared_74 : decode cX11_readsCompared 74 = .ok (.iadd, 1) := by decide +kernel
theorem dX11_readsCompared_75 : decode cX11_readsCompared 75 = .ok (.putfield 152, 3) := by decide +kernel
theorem dX11_readsCompared_78 : decode cX11_readsCompared 78 = .ok (.aload_n 0, 1) := by decide +kernel
theorem dX11_readsCompared_79 : decode cX11_readsCompared 79 = .ok (.invokevirtual 214, 3) := by decide +kernel
theorem dX11_readsCompared_82 : decode cX11_readsCompared 82 = .ok (.ifCond .ne 5, 3) := by decide +kernel
theorem dX11_readsCompared_85 : decode cX11_readsCompared 85 = .ok (.iconst 0, 1) := by decide +kernel
theorem dX11_readsCompared_86 : decode cX11_readsCompared 86 = .ok (.ireturn, 1) := by decide +kernel
theorem dX11_readsCompared_87 : decode cX11_readsCompared 87 = .ok (.aload_n 0, 1) := by decide +kernel
theorem dX11_readsCompared_88 : decode cX11_readsCompared 88 = .ok (.iload_n 1, 1) := by decide +kernel
theorem dX11_readsCompared_89 : decode cX11_readsCompared 89 = .ok (.iconst 0, 1) := by decide +kernel
theorem dX11_readsCompared_90 : decode cX11_readsCompared 90 = .ok (.invokevirtual 188, 3) := by decide +kernel
theorem dX11_readsCompared_93 : decode cX11_readsCompared 93 = .ok (.aload_n 0, 1) := by decide +kernel
theorem dX11_readsCompared_94 : decode cX11_readsCompared 94 = .ok (.invokevirtual 217, 3) := by decide +kernel
theorem dX11_readsCompared_97 : decode cX11_readsCompared 97 = .ok (.iconst 1, 1) := by decide +kernel
theorem dX11_readsCompared_98 : decode cX11_readsCompared 98 = .ok (.ireturn, 1) := by decide +kernel
theorem dX11_readsCondition_0 : decode cX11_readsCondition 0 = .ok (.aload_n 0, 1) := by decide +kernel
theorem dX11_readsCondition_1 : decode cX11_readsCondition 1 = .ok (.invokevirtual 158, 3) := by decide +kernel
theorem dX11_readsCondition_4 : decode cX11_readsCondition 4 = .ok (.bipush 40, 2) := by decide +kernel
theorem dX11_readsCondition_6 : decode cX11_readsCondition 6 = .ok (.if_icmp .eq 13, 3) := by decide +kernel
theorem dX11_readsCondition_9 : decode cX11_readsCondition 9 = .ok (.aload_n 0, 1) := by decide +kernel
theorem dX11_readsCondition_10 : decode cX11_readsCondition 10 = .ok (.iconst 1, 1) := by decide +kernel
theorem dX11_readsCondition_11 : decode cX11_readsCondition 11 = .ok (.aload_n 0, 1) := by decide +kernel
theorem dX11_readsCondition_12 : decode cX11_readsCondition 12 = .ok (.getfield 152, 3) := by decide +kernel
theorem dX11_readsCondition_15 : decode cX11_readsCondition 15 = .ok (.invokevirtual 165, 3) := by decide +kernel
theorem dX11_readsCondition_18 : decode cX11_readsCondition 18 = .ok (.ireturn, 1) := by decide +kernel
theorem dX11_readsCondition_19 : decode cX11_readsCondition 19 = .ok (.aload_n 0, 1) := by decide +kernel
theorem dX11_readsCondition_20 : decode cX11_readsCondition 20 = .ok (.iconst 0, 1) := by decide +kernel
theorem dX11_readsCondition_21 : decode cX11_readsCondition 21 = .ok (.putfield 179, 3) := by decide +kernel
theorem dX11_readsCondition_24 : decode cX11_readsCondition 24 = .ok (.aload_n 0, 1) := by decide +kernel
theorem dX11_readsCondition_25 : decode cX11_readsCondition 25 = .ok (.iconst 0, 1) := by decide +kernel
theorem dX11_readsCondition_26 : decode cX11_readsCondition 26 = .ok (.putfield 182, 3) := by decide +kernel
theorem dX11_readsCondition_29 : decode cX11_readsCondition 29 = .ok (.aload_n 0, 1) := by decide +kernel
theorem dX11_readsCondition_30 : decode cX11_readsCondition 30 = .ok (.bipush 13, 2) := by decide +kernel
theorem dX11_readsCondition_32 : decode cX11_readsCondition 32 = .ok (.invokevirtual 192, 3) := by decide +kernel
theorem dX11_readsCondition_35 : decode cX11_readsCondition 35 = .ok (.ifCond .ne 5, 3) := by decide +kernel
theorem dX11_readsCondition_38 : decode cX11_readsCondition 38 = .ok (.iconst 0, 1) := by decide +kernel
theorem dX11_readsCondition_39 : decode cX11_readsCondition 39 = .ok (.ireturn, 1) := by decide +kernel
theorem dX11_readsCondition_40 : decode cX11_readsCondition 40 = .ok (.aload_n 0, 1) := by decide +kernel
theorem dX11_readsCondition_41 : decode cX11_readsCondition 41 = .ok (.invokevirtual 158, 3) := by decide +kernel
theorem dX11_readsCondition_44 : decode cX11_readsCondition 44 = .ok (.bipush 33, 2) := by decide +kernel
theorem dX11_readsCondition_46 : decode cX11_readsCondition 46 = .ok (.if_icmp .eq 12, 3) := by decide +kernel
theorem dX11_readsCondition_49 : decode cX11_readsCondition 49 = .ok (.aload_n 0, 1) := by decide +kernel
theorem dX11_readsCondition_50 : decode cX11_readsCondition 50 = .ok (.invokevirtual 158, 3) := by decide +kernel
theorem dX11_readsCondition_53 : decode cX11_readsCondition 53 = .ok (.bipush 40, 2) := by decide +kernel
theorem dX11_readsCondition_55 : decode cX11_readsCondition 55 = .ok (.if_icmp .ne 28, 3) := by decide +kernel
theorem dX11_readsCondition_58 : decode cX11_readsCondition 58 = .ok (.aload_n 0, 1) := by decide +kernel
theorem dX11_readsCondition_59 : decode cX11_readsCondition 59 = .ok (.aload_n 0, 1) := by decide +kernel
theorem dX11_readsCondition_60 : decode cX11_readsCondition 60 = .ok (.invokevirtual 158, 3) := by decide +kernel
theorem dX11_readsCondition_63 : decode cX11_readsCondition 63 = .ok (.bipush 33, 2) := by decide +kernel
theorem dX11_readsCondition_65 : decode cX11_readsCondition 65 = .ok (.if_icmp .ne 8, 3) := by decide +kernel
theorem dX11_readsCondition_68 : decode cX11_readsCondition 68 = .ok (.bipush 10, 2) := by decide +kernel
theorem dX11_readsCondition_70 : decode cX11_readsCondition 70 = .ok (.goto 5, 3) := by decide +kernel
theorem dX11_readsCondition_73 : decode cX11_readsCondition 73 = .ok (.bipush 13, 2) := by decide +kernel
theorem dX11_readsCondition_75 : decode cX11_readsCondition 75 = .ok (.invokevirtual 192, 3) := by decide +kernel
theorem dX11_readsCondition_78 : decode cX11_readsCondition 78 = .ok (.ifCond .ne (-38), 3) := by decide +kernel
theorem dX11_readsCondition_81 : decode cX11_readsCondition 81 = .ok (.iconst 0, 1) := by decide +kernel
theorem dX11_readsCondition_82 : decode cX11_readsCondition 82 = .ok (.ireturn, 1) := by decide +kernel
theorem dX11_readsCondition_83 : decode cX11_readsCondition 83 = .ok (.aload_n 0, 1) := by decide +kernel
theorem dX11_readsCondition_84 : decode cX11_readsCondition 84 = .ok (.invokevirtual 220, 3) := by decide +kernel
theorem dX11_readsCondition_87 : decode cX11_readsCondition 87 = .ok (.ifCond .ne 5, 3) := by decide +kernel
theorem dX11_readsCondition_90 : decode cX11_readsCondition 90 = .ok (.iconst 0, 1) := by decide +kernel
theorem dX11_readsCondition_91 : decode cX11_readsCondition 91 = .ok (.ireturn, 1) := by decide +kernel
theorem dX11_readsCondition_92 : decode cX11_readsCondition 92 = .ok (.aload_n 0, 1) := by decide +kernel
theorem dX11_readsCondition_93 : decode cX11_readsCondition 93 = .ok (.invokevirtual 158, 3) := by decide +kernel
theorem dX11_readsCondition_96 : decode cX11_readsCondition 96 = .ok (.bipush 41, 2) := by decide +kernel
theorem dX11_readsCondition_98 : decode cX11_readsCondition 98 = .ok (.if_icmp .ne 54, 3) := by decide +kernel
theorem dX11_readsCondition_101 : decode cX11_readsCondition 101 = .ok (.aload_n 0, 1) := by decide +kernel
theorem dX11_readsCondition_102 : decode cX11_readsCondition 102 = .ok (.iconst 1, 1) := by decide +kernel
theorem dX11_readsCondition_103 : decode cX11_readsCondition 103 = .ok (.invokevirtual 223, 3) := by decide +kernel
theorem dX11_readsCondition_106 : decode cX11_readsCondition 106 = .ok (.aload_n 0, 1) := by decide +kernel
theorem dX11_readsCondition_107 : decode cX11_readsCondition 107 = .ok (.aload_n 0, 1) := by decide +kernel
theorem dX11_readsCondition_108 : decode cX11_readsCondition 108 = .ok (.getfield 182, 3) := by decide +kernel
theorem dX11_readsCondition_111 : decode cX11_readsCondition 111 = .ok (.iconst 1, 1) := by decide +kernel
theorem dX11_readsCondition_112 : decode cX11_readsCondition 112 = .ok (.isub, 1) := by decide +kernel
theorem dX11_readsCondition_113 : decode cX11_readsCondition 113 = .ok (.putfield 182, 3) := by decide +kernel
theorem dX11_readsCondition_116 : decode cX11_readsCondition 116 = .ok (.aload_n 0, 1) := by decide +kernel
theorem dX11_readsCondition_117 : decode cX11_readsCondition 117 = .ok (.aload_n 0, 1) := by decide +kernel
theorem dX11_readsCondition_118 : decode cX11_readsCondition 118 = .ok (.getfield 179, 3) := by decide +kernel
theorem dX11_readsCondition_121 : decode cX11_readsCondition 121 = .ok (.iconst 1, 1) := by decide +kernel
theorem dX11_readsCondition_122 : decode cX11_readsCondition 122 = .ok (.isub, 1) := by decide +kernel
theorem dX11_readsCondition_123 : decode cX11_readsCondition 123 = .ok (.putfield 179, 3) := by decide +kernel
theorem dX11_readsCondition_126 : decode cX11_readsCondition 126 = .ok (.aload_n 0, 1) := by decide +kernel
theorem dX11_readsCondition_127 : decode cX11_readsCondition 127 = .ok (.aload_n 0, 1) := by decide +kernel
theorem dX11_readsCondition_128 : decode cX11_readsCondition 128 = .ok (.getfield 152, 3) := by decide +kernel
theorem dX11_readsCondition_131 : decode cX11_readsCondition 131 = .ok (.iconst 1, 1) := by decide +kernel
theorem dX11_readsCondition_132 : decode cX11_readsCondition 132 = .ok (.iadd, 1) := by decide +kernel
theorem dX11_readsCondition_133 : decode cX11_readsCondition 133 = .ok (.putfield 152, 3) := by decide +kernel
theorem dX11_readsCondition_136 : decode cX11_readsCondition 136 = .ok (.aload_n 0, 1) := by decide +kernel
theorem dX11_readsCondition_137 : decode cX11_readsCondition 137 = .ok (.getfield 182, 3) := by decide +kernel
theorem dX11_readsCondition_140 : decode cX11_readsCondition 140 = .ok (.ifCond .ne 5, 3) := by decide +kernel
theorem dX11_readsCondition_143 : decode cX11_readsCondition 143 = .ok (.iconst 1, 1) := by decide +kernel
theorem dX11_readsCondition_144 : decode cX11_readsCondition 144 = .ok (.ireturn, 1) := by decide +kernel
theorem dX11_readsCondition_145 : decode cX11_readsCondition 145 = .ok (.aload_n 0, 1) := by decide +kernel
theorem dX11_readsCondition_146 : decode cX11_readsCondition 146 = .ok (.invokevirtual 217, 3) := by decide +kernel
theorem dX11_readsCondition_149 : decode cX11_readsCondition 149 = .ok (.goto (-57), 3) := by decide +kernel
theorem dX11_readsCondition_152 : decode cX11_readsCondition 152 = .ok (.aload_n 0, 1) := by decide +kernel
theorem dX11_readsCondition_153 : decode cX11_readsCondition 153 = .ok (.invokevirtual 158, 3) := by decide +kernel
theorem dX11_readsCondition_156 : decode cX11_readsCondition 156 = .ok (.bipush 38, 2) := by decide +kernel
theorem dX11_readsCondition_158 : decode cX11_readsCondition 158 = .ok (.if_icmp .eq 22, 3) := by decide +kernel
theorem dX11_readsCondition_161 : decode cX11_readsCondition 161 = .ok (.aload_n 0, 1) := by decide +kernel
theorem dX11_readsCondition_162 : decode cX11_readsCondition 162 = .ok (.invokevirtual 158, 3) := by decide +kernel
theorem dX11_readsCondition_165 : decode cX11_readsCondition 165 = .ok (.bipush 124, 2) := by decide +kernel
theorem dX11_readsCondition_167 : decode cX11_readsCondition 167 = .ok (.if_icmp .eq 13, 3) := by decide +kernel
theorem dX11_readsCondition_170 : decode cX11_readsCondition 170 = .ok (.aload_n 0, 1) := by decide +kernel
theorem dX11_readsCondition_171 : decode cX11_readsCondition 171 = .ok (.iconst 1, 1) := by decide +kernel
theorem dX11_readsCondition_172 : decode cX11_readsCondition 172 = .ok (.aload_n 0, 1) := by decide +kernel
theorem dX11_readsCondition_173 : decode cX11_readsCondition 173 = .ok (.getfield 152, 3) := by decide +kernel
theorem dX11_readsCondition_176 : decode cX11_readsCondition 176 = .ok (.invokevirtual 165, 3) := by decide +kernel
theorem dX11_readsCondition_179 : decode cX11_readsCondition 179 = .ok (.ireturn, 1) := by decide +kernel
theorem dX11_readsCondition_180 : decode cX11_readsCondition 180 = .ok (.aload_n 0, 1) := by decide +kernel
theorem dX11_readsCondition_181 : decode cX11_readsCondition 181 = .ok (.aload_n 0, 1) := by decide +kernel
theorem dX11_readsCondition_182 : decode cX11_readsCondition 182 = .ok (.invokevirtual 158, 3) := by decide +kernel
theorem dX11_readsCondition_185 : decode cX11_readsCondition 185 = .ok (.bipush 124, 2) := by decide +kernel
theorem dX11_readsCondition_187 : decode cX11_readsCondition 187 = .ok (.if_icmp .ne 7, 3) := by decide +kernel
theorem dX11_readsCondition_190 : decode cX11_readsCondition 190 = .ok (.iconst 1, 1) := by decide +kernel
theorem dX11_readsCondition_191 : decode cX11_readsCondition 191 = .ok (.goto 4, 3) := by decide +kernel
theorem dX11_readsCondition_194 : decode cX11_readsCondition 194 = .ok (.iconst 0, 1) := by decide +kernel
theorem dX11_readsCondition_195 : decode cX11_readsCondition 195 = .ok (.invokevirtual 223, 3) := by decide +kernel
theorem dX11_readsCondition_198 : decode cX11_readsCondition 198 = .ok (.aload_n 0, 1) := by decide +kernel
theorem dX11_readsCondition_199 : decode cX11_readsCondition 199 = .ok (.aload_n 0, 1) := by decide +kernel
theorem dX11_readsCondition_200 : decode cX11_readsCondition 200 = .ok (.invokevirtual 158, 3) := by decide +kernel
theorem dX11_readsCondition_203 : decode cX11_readsCondition 203 = .ok (.bipush 38, 2) := by decide +kernel
theorem dX11_readsCondition_205 : decode cX11_readsCondition 205 = .ok (.if_icmp .ne 8, 3) := by decide +kernel
theorem dX11_readsCondition_208 : decode cX11_readsCondition 208 = .ok (.bipush 11, 2) := by decide +kernel
theorem dX11_readsCondition_210 : decode cX11_readsCondition 210 = .ok (.goto 5, 3) := by decide +kernel
theorem dX11_readsCondition_213 : decode cX11_readsCondition 213 = .ok (.bipush 12, 2) := by decide +kernel
theorem dX11_readsCondition_215 : decode cX11_readsCondition 215 = .ok (.invokevirtual 226, 3) := by decide +kernel
theorem dX11_readsCondition_218 : decode cX11_readsCondition 218 = .ok (.goto (-178), 3) := by decide +kernel
theorem dX11_readsRule_0 : decode cX11_readsRule 0 = .ok (.aload_n 0, 1) := by decide +kernel
theorem dX11_readsRule_1 : decode cX11_readsRule 1 = .ok (.invokevirtual 158, 3) := by decide +kernel
theorem dX11_readsRule_4 : decode cX11_readsRule 4 = .ok (.istore_n 1, 1) := by decide +kernel
theorem dX11_readsRule_5 : decode cX11_readsRule 5 = .ok (.iload_n 1, 1) := by decide +kernel
theorem dX11_readsRule_6 : decode cX11_readsRule 6 = .ok (.bipush 114, 2) := by decide +kernel
theorem dX11_readsRule_8 : decode cX11_readsRule 8 = .ok (.if_icmp .eq 37, 3) := by decide +kernel
theorem dX11_readsRule_11 : decode cX11_readsRule 11 = .ok (.iload_n 1, 1) := by decide +kernel
theorem dX11_readsRule_12 : decode cX11_readsRule 12 = .ok (.bipush 119, 2) := by decide +kernel
theorem dX11_readsRule_14 : decode cX11_readsRule 14 = .ok (.if_icmp .eq 31, 3) := by decide +kernel
theorem dX11_readsRule_17 : decode cX11_readsRule 17 = .ok (.iload_n 1, 1) := by decide +kernel
theorem dX11_readsRule_18 : decode cX11_readsRule 18 = .ok (.bipush 108, 2) := by decide +kernel
theorem dX11_readsRule_20 : decode cX11_readsRule 20 = .ok (.if_icmp .eq 25, 3) := by decide +kernel
theorem dX11_readsRule_23 : decode cX11_readsRule 23 = .ok (.iload_n 1, 1) := by decide +kernel
theorem dX11_readsRule_24 : decode cX11_readsRule 24 = .ok (.bipush 118, 2) := by decide +kernel
theorem dX11_readsRule_26 : decode cX11_readsRule 26 = .ok (.if_icmp .eq 19, 3) := by decide +kernel
theorem dX11_readsRule_29 : decode cX11_readsRule 29 = .ok (.iload_n 1, 1) := by decide +kernel
theorem dX11_readsRule_30 : decode cX11_readsRule 30 = .ok (.bipush 120, 2) := by decide +kernel
theorem dX11_readsRule_32 : decode cX11_readsRule 32 = .ok (.if_icmp .eq 13, 3) := by decide +kernel
theorem dX11_readsRule_35 : decode cX11_readsRule 35 = .ok (.aload_n 0, 1) := by decide +kernel
theorem dX11_readsRule_36 : decode cX11_readsRule 36 = .ok (.iconst 1, 1) := by decide +kernel
theorem dX11_readsRule_37 : decode cX11_readsRule 37 = .ok (.aload_n 0, 1) := by decide +kernel
theorem dX11_readsRule_38 : decode cX11_readsRule 38 = .ok (.getfield 152, 3) := by decide +kernel
theorem dX11_readsRule_41 : decode cX11_readsRule 41 = .ok (.invokevirtual 165, 3) := by decide +kernel
theorem dX11_readsRule_44 : decode cX11_readsRule 44 = .ok (.ireturn, 1) := by decide +kernel
theorem dX11_readsRule_45 : decode cX11_readsRule 45 = .ok (.aload_n 0, 1) := by decide +kernel
theorem dX11_readsRule_46 : decode cX11_readsRule 46 = .ok (.getfield 229, 3) := by decide +kernel
theorem dX11_readsRule_49 : decode cX11_readsRule 49 = .ok (.bipush 16, 2) := by decide +kernel
theorem dX11_readsRule_51 : decode cX11_readsRule 51 = .ok (.if_icmp .ne 13, 3) := by decide +kernel
theorem dX11_readsRule_54 : decode cX11_readsRule 54 = .ok (.aload_n 0, 1) := by decide +kernel
theorem dX11_readsRule_55 : decode cX11_readsRule 55 = .ok (.iconst 4, 1) := by decide +kernel
theorem dX11_readsRule_56 : decode cX11_readsRule 56 = .ok (.aload_n 0, 1) := by decide +kernel
theorem dX11_readsRule_57 : decode cX11_readsRule 57 = .ok (.getfield 152, 3) := by decide +kernel
theorem dX11_readsRule_60 : decode cX11_readsRule 60 = .ok (.invokevirtual 165, 3) := by decide +kernel
theorem dX11_readsRule_63 : decode cX11_readsRule 63 = .ok (.ireturn, 1) := by decide +kernel
theorem dX11_readsRule_64 : decode cX11_readsRule 64 = .ok (.aload_n 0, 1) := by decide +kernel
theorem dX11_readsRule_65 : decode cX11_readsRule 65 = .ok (.getfield 41, 3) := by decide +kernel
theorem dX11_readsRule_68 : decode cX11_readsRule 68 = .ok (.aload_n 0, 1) := by decide +kernel
theorem dX11_readsRule_69 : decode cX11_readsRule 69 = .ok (.getfield 229, 3) := by decide +kernel
theorem dX11_readsRule_72 : decode cX11_readsRule 72 = .ok (.iload_n 1, 1) := by decide +kernel
theorem dX11_readsRule_73 : decode cX11_readsRule 73 = .ok (.iastore, 1) := by decide +kernel
theorem dX11_readsRule_74 : decode cX11_readsRule 74 = .ok (.aload_n 0, 1) := by decide +kernel
theorem dX11_readsRule_75 : decode cX11_readsRule 75 = .ok (.aload_n 0, 1) := by decide +kernel
theorem dX11_readsRule_76 : decode cX11_readsRule 76 = .ok (.getfield 152, 3) := by decide +kernel
theorem dX11_readsRule_79 : decode cX11_readsRule 79 = .ok (.iconst 1, 1) := by decide +kernel
theorem dX11_readsRule_80 : decode cX11_readsRule 80 = .ok (.iadd, 1) := by decide +kernel
theorem dX11_readsRule_81 : decode cX11_readsRule 81 = .ok (.putfield 152, 3) := by decide +kernel
theorem dX11_readsRule_84 : decode cX11_readsRule 84 = .ok (.aload_n 0, 1) := by decide +kernel
theorem dX11_readsRule_85 : decode cX11_readsRule 85 = .ok (.getfield 44, 3) := by decide +kernel
theorem dX11_readsRule_88 : decode cX11_readsRule 88 = .ok (.aload_n 0, 1) := by decide +kernel
theorem dX11_readsRule_89 : decode cX11_readsRule 89 = .ok (.getfield 229, 3) := by decide +kernel
theorem dX11_readsRule_92 : decode cX11_readsRule 92 = .ok (.aload_n 0, 1) := by decide +kernel
theorem dX11_readsRule_93 : decode cX11_readsRule 93 = .ok (.getfield 175, 3) := by decide +kernel
theorem dX11_readsRule_96 : decode cX11_readsRule 96 = .ok (.iastore, 1) := by decide +kernel
theorem dX11_readsRule_97 : decode cX11_readsRule 97 = .ok (.aload_n 0, 1) := by decide +kernel
theorem dX11_readsRule_98 : decode cX11_readsRule 98 = .ok (.iconst 0, 1) := by decide +kernel
theorem dX11_readsRule_99 : decode cX11_readsRule 99 = .ok (.putfield 179, 3) := by decide +kernel
theorem dX11_readsRule_102 : decode cX11_readsRule 102 = .ok (.aload_n 0, 1) := by decide +kernel
theorem dX11_readsRule_103 : decode cX11_readsRule 103 = .ok (.iconst 0, 1) := by decide +kernel
theorem dX11_readsRule_104 : decode cX11_readsRule 104 = .ok (.putfield 182, 3) := by decide +kernel
theorem dX11_readsRule_107 : decode cX11_readsRule 107 = .ok (.iload_n 1, 1) := by decide +kernel
theorem dX11_readsRule_108 : decode cX11_readsRule 108 = .ok (.bipush 118, 2) := by decide +kernel
theorem dX11_readsRule_110 : decode cX11_readsRule 110 = .ok (.if_icmp .eq 18, 3) := by decide +kernel
theorem dX11_readsRule_113 : decode cX11_readsRule 113 = .ok (.iload_n 1, 1) := by decide +kernel
theorem dX11_readsRule_114 : decode cX11_readsRule 114 = .ok (.bipush 120, 2) := by decide +kernel
theorem dX11_readsRule_116 : decode cX11_readsRule 116 = .ok (.if_icmp .eq 12, 3) := by decide +kernel
theorem dX11_readsRule_119 : decode cX11_readsRule 119 = .ok (.aload_n 0, 1) := by decide +kernel
theorem dX11_readsRule_120 : decode cX11_readsRule 120 = .ok (.invokevirtual 214, 3) := by decide +kernel
theorem dX11_readsRule_123 : decode cX11_readsRule 123 = .ok (.ifCond .ne 5, 3) := by decide +kernel
theorem dX11_readsRule_126 : decode cX11_readsRule 126 = .ok (.iconst 0, 1) := by decide +kernel
theorem dX11_readsRule_127 : decode cX11_readsRule 127 = .ok (.ireturn, 1) := by decide +kernel
theorem dX11_readsRule_128 : decode cX11_readsRule 128 = .ok (.aload_n 0, 1) := by decide +kernel
theorem dX11_readsRule_129 : decode cX11_readsRule 129 = .ok (.getfield 47, 3) := by decide +kernel
theorem dX11_readsRule_132 : decode cX11_readsRule 132 = .ok (.aload_n 0, 1) := by decide +kernel
theorem dX11_readsRule_133 : decode cX11_readsRule 133 = .ok (.getfield 229, 3) := by decide +kernel
theorem dX11_readsRule_136 : decode cX11_readsRule 136 = .ok (.aload_n 0, 1) := by decide +kernel
theorem dX11_readsRule_137 : decode cX11_readsRule 137 = .ok (.getfield 175, 3) := by decide +kernel
theorem dX11_readsRule_140 : decode cX11_readsRule 140 = .ok (.iastore, 1) := by decide +kernel
theorem dX11_readsRule_141 : decode cX11_readsRule 141 = .ok (.aload_n 0, 1) := by decide +kernel
theorem dX11_readsRule_142 : decode cX11_readsRule 142 = .ok (.invokevirtual 232, 3) := by decide +kernel
theorem dX11_readsRule_145 : decode cX11_readsRule 145 = .ok (.ifCond .ne 5, 3) := by decide +kernel
theorem dX11_readsRule_148 : decode cX11_readsRule 148 = .ok (.iconst 0, 1) := by decide +kernel
theorem dX11_readsRule_149 : decode cX11_readsRule 149 = .ok (.ireturn, 1) := by decide +kernel
theorem dX11_readsRule_150 : decode cX11_readsRule 150 = .ok (.aload_n 0, 1) := by decide +kernel
theorem dX11_readsRule_151 : decode cX11_readsRule 151 = .ok (.getfield 50, 3) := by decide +kernel
theorem dX11_readsRule_154 : decode cX11_readsRule 154 = .ok (.aload_n 0, 1) := by decide +kernel
theorem dX11_readsRule_155 : decode cX11_readsRule 155 = .ok (.getfield 229, 3) := by decide +kernel
theorem dX11_readsRule_158 : decode cX11_readsRule 158 = .ok (.aload_n 0, 1) := by decide +kernel
theorem dX11_readsRule_159 : decode cX11_readsRule 159 = .ok (.getfield 175, 3) := by decide +kernel
theorem dX11_readsRule_162 : decode cX11_readsRule 162 = .ok (.iastore, 1) := by decide +kernel
theorem dX11_readsRule_163 : decode cX11_readsRule 163 = .ok (.aload_n 0, 1) := by decide +kernel
theorem dX11_readsRule_164 : decode cX11_readsRule 164 = .ok (.aload_n 0, 1) := by decide +kernel
theorem dX11_readsRule_165 : decode cX11_readsRule 165 = .ok (.getfield 229, 3) := by decide +kernel
theorem dX11_readsRule_168 : decode cX11_readsRule 168 = .ok (.iconst 1, 1) := by decide +kernel
theorem dX11_readsRule_169 : decode cX11_readsRule 169 = .ok (.iadd, 1) := by decide +kernel
theorem dX11_readsRule_170 : decode cX11_readsRule 170 = .ok (.putfield 229, 3) := by decide +kernel
theorem dX11_readsRule_173 : decode cX11_readsRule 173 = .ok (.iconst 1, 1) := by decide +kernel
theorem dX11_readsRule_174 : decode cX11_readsRule 174 = .ok (.ireturn, 1) := by decide +kernel
theorem dX11_beginsText_0 : decode cX11_beginsText 0 = .ok (.aload_n 0, 1) := by decide +kernel
theorem dX11_beginsText_1 : decode cX11_beginsText 1 = .ok (.iconst 0, 1) := by decide +kernel
theorem dX11_beginsText_2 : decode cX11_beginsText 2 = .ok (.putfield 152, 3) := by decide +kernel
theorem dX11_beginsText_5 : decode cX11_beginsText 5 = .ok (.aload_n 0, 1) := by decide +kernel
theorem dX11_beginsText_6 : decode cX11_beginsText 6 = .ok (.iload_n 1, 1) := by decide +kernel
theorem dX11_beginsText_7 : decode cX11_beginsText 7 = .ok (.putfield 155, 3) := by decide +kernel
theorem dX11_beginsText_10 : decode cX11_beginsText 10 = .ok (.aload_n 0, 1) := by decide +kernel
theorem dX11_beginsText_11 : decode cX11_beginsText 11 = .ok (.iconst 0, 1) := by decide +kernel
theorem dX11_beginsText_12 : decode cX11_beginsText 12 = .ok (.putfield 175, 3) := by decide +kernel
theorem dX11_beginsText_15 : decode cX11_beginsText 15 = .ok (.aload_n 0, 1) := by decide +kernel
theorem dX11_beginsText_16 : decode cX11_beginsText 16 = .ok (.iconst 0, 1) := by decide +kernel
theorem dX11_beginsText_17 : decode cX11_beginsText 17 = .ok (.putfield 229, 3) := by decide +kernel
theorem dX11_beginsText_20 : decode cX11_beginsText 20 = .ok (.return_, 1) := by decide +kernel
theorem dX11_law_0 : decode cX11_law 0 = .ok (.iload_n 1, 1) := by decide +kernel
theorem dX11_law_1 : decode cX11_law 1 = .ok (.iconst 1, 1) := by decide +kernel
theorem dX11_law_2 : decode cX11_law 2 = .ok (.sipush 240, 3) := by decide +kernel
theorem dX11_law_5 : decode cX11_law 5 = .ok (.invokestatic 111, 3) := by decide +kernel
theorem dX11_law_8 : decode cX11_law 8 = .ok (.ifCond .eq 11, 3) := by decide +kernel
theorem dX11_law_11 : decode cX11_law 11 = .ok (.iload_n 1, 1) := by decide +kernel
theorem dX11_law_12 : decode cX11_law 12 = .ok (.aload_n 0, 1) := by decide +kernel
theorem dX11_law_13 : decode cX11_law 13 = .ok (.getfield 146, 3) := by decide +kernel
theorem dX11_law_16 : decode cX11_law 16 = .ok (.if_icmp .le 5, 3) := by decide +kernel
theorem dX11_law_19 : decode cX11_law 19 = .ok (.iconst (-1), 1) := by decide +kernel
theorem dX11_law_20 : decode cX11_law 20 = .ok (.ireturn, 1) := by decide +kernel
theorem dX11_law_21 : decode cX11_law 21 = .ok (.aload_n 0, 1) := by decide +kernel
theorem dX11_law_22 : decode cX11_law 22 = .ok (.iload_n 1, 1) := by decide +kernel
theorem dX11_law_23 : decode cX11_law 23 = .ok (.invokevirtual 235, 3) := by decide +kernel
theorem dX11_law_26 : decode cX11_law 26 = .ok (.aload_n 0, 1) := by decide +kernel
theorem dX11_law_27 : decode cX11_law 27 = .ok (.invokevirtual 238, 3) := by decide +kernel
theorem dX11_law_30 : decode cX11_law 30 = .ok (.istore_n 2, 1) := by decide +kernel
theorem dX11_law_31 : decode cX11_law 31 = .ok (.iload_n 2, 1) := by decide +kernel
theorem dX11_law_32 : decode cX11_law 32 = .ok (.ifCond .eq 39, 3) := by decide +kernel
theorem dX11_law_35 : decode cX11_law 35 = .ok (.aload_n 0, 1) := by decide +kernel
theorem dX11_law_36 : decode cX11_law 36 = .ok (.getfield 152, 3) := by decide +kernel
theorem dX11_law_39 : decode cX11_law 39 = .ok (.aload_n 0, 1) := by decide +kernel
theorem dX11_law_40 : decode cX11_law 40 = .ok (.getfield 155, 3) := by decide +kernel
theorem dX11_law_43 : decode cX11_law 43 = .ok (.if_icmp .ge 28, 3) := by decide +kernel
theorem dX11_law_46 : decode cX11_law 46 = .ok (.aload_n 0, 1) := by decide +kernel
theorem dX11_law_47 : decode cX11_law 47 = .ok (.bipush 59, 2) := by decide +kernel
theorem dX11_law_49 : decode cX11_law 49 = .ok (.invokevirtual 241, 3) := by decide +kernel
theorem dX11_law_52 : decode cX11_law 52 = .ok (.ifCond .eq 14, 3) := by decide +kernel
theorem dX11_law_55 : decode cX11_law 55 = .ok (.aload_n 0, 1) := by decide +kernel
theorem dX11_law_56 : decode cX11_law 56 = .ok (.invokevirtual 238, 3) := by decide +kernel
theorem dX11_law_59 : decode cX11_law 59 = .ok (.ifCond .eq 7, 3) := by decide +kernel
theorem dX11_law_62 : decode cX11_law 62 = .ok (.iconst 1, 1) := by decide +kernel
theorem dX11_law_63 : decode cX11_law 63 = .ok (.goto 4, 3) := by decide +kernel
theorem dX11_law_66 : decode cX11_law 66 = .ok (.iconst 0, 1) := by decide +kernel
theorem dX11_law_67 : decode cX11_law 67 = .ok (.istore_n 2, 1) := by decide +kernel
theorem dX11_law_68 : decode cX11_law 68 = .ok (.goto (-37), 3) := by decide +kernel
theorem dX11_law_71 : decode cX11_law 71 = .ok (.aload_n 0, 1) := by decide +kernel
theorem dX11_law_72 : decode cX11_law 72 = .ok (.iconst 0, 1) := by decide +kernel
theorem dX11_law_73 : decode cX11_law 73 = .ok (.putfield 146, 3) := by decide +kernel
theorem dX11_law_76 : decode cX11_law 76 = .ok (.iload_n 2, 1) := by decide +kernel
theorem dX11_law_77 : decode cX11_law 77 = .ok (.ifCond .ne 8, 3) := by decide +kernel
theorem dX11_law_80 : decode cX11_law 80 = .ok (.aload_n 0, 1) := by decide +kernel
theorem dX11_law_81 : decode cX11_law 81 = .ok (.getfield 162, 3) := by decide +kernel
theorem dX11_law_84 : decode cX11_law 84 = .ok (.ireturn, 1) := by decide +kernel
theorem dX11_law_85 : decode cX11_law 85 = .ok (.aload_n 0, 1) := by decide +kernel
theorem dX11_law_86 : decode cX11_law 86 = .ok (.aload_n 0, 1) := by decide +kernel
theorem dX11_law_87 : decode cX11_law 87 = .ok (.getfield 229, 3) := by decide +kernel
theorem dX11_law_90 : decode cX11_law 90 = .ok (.putfield 244, 3) := by decide +kernel
theorem dX11_law_93 : decode cX11_law 93 = .ok (.iconst 0, 1) := by decide +kernel
theorem dX11_law_94 : decode cX11_law 94 = .ok (.istore_n 3, 1) := by decide +kernel
theorem dX11_law_95 : decode cX11_law 95 = .ok (.iload_n 3, 1) := by decide +kernel
theorem dX11_law_96 : decode cX11_law 96 = .ok (.aload_n 0, 1) := by decide +kernel
theorem dX11_law_97 : decode cX11_law 97 = .ok (.getfield 175, 3) := by decide +kernel
theorem dX11_law_100 : decode cX11_law 100 = .ok (.if_icmp .ge 21, 3) := by decide +kernel
theorem dX11_law_103 : decode cX11_law 103 = .ok (.aload_n 0, 1) := by decide +kernel
theorem dX11_law_104 : decode cX11_law 104 = .ok (.getfield 53, 3) := by decide +kernel
theorem dX11_law_107 : decode cX11_law 107 = .ok (.iload_n 3, 1) := by decide +kernel
theorem dX11_law_108 : decode cX11_law 108 = .ok (.aload_n 0, 1) := by decide +kernel
theorem dX11_law_109 : decode cX11_law 109 = .ok (.getfield 35, 3) := by decide +kernel
theorem dX11_law_112 : decode cX11_law 112 = .ok (.iload_n 3, 1) := by decide +kernel
theorem dX11_law_113 : decode cX11_law 113 = .ok (.iaload, 1) := by decide +kernel
theorem dX11_law_114 : decode cX11_law 114 = .ok (.iastore, 1) := by decide +kernel
theorem dX11_law_115 : decode cX11_law 115 = .ok (.iinc 3 1, 3) := by decide +kernel
theorem dX11_law_118 : decode cX11_law 118 = .ok (.goto (-23), 3) := by decide +kernel
theorem dX11_law_121 : decode cX11_law 121 = .ok (.iconst 0, 1) := by decide +kernel
theorem dX11_law_122 : decode cX11_law 122 = .ok (.istore_n 3, 1) := by decide +kernel
theorem dX11_law_123 : decode cX11_law 123 = .ok (.iload_n 3, 1) := by decide +kernel
theorem dX11_law_124 : decode cX11_law 124 = .ok (.aload_n 0, 1) := by decide +kernel
theorem dX11_law_125 : decode cX11_law 125 = .ok (.getfield 229, 3) := by decide +kernel
theorem dX11_law_128 : decode cX11_law 128 = .ok (.if_icmp .ge 57, 3) := by decide +kernel
theorem dX11_law_131 : decode cX11_law 131 = .ok (.aload_n 0, 1) := by decide +kernel
theorem dX11_law_132 : decode cX11_law 132 = .ok (.getfield 56, 3) := by decide +kernel
theorem dX11_law_135 : decode cX11_law 135 = .ok (.iload_n 3, 1) := by decide +kernel
theorem dX11_law_136 : decode cX11_law 136 = .ok (.aload_n 0, 1) := by decide +kernel
theorem dX11_law_137 : decode cX11_law 137 = .ok (.getfield 41, 3) := by decide +kernel
theorem dX11_law_140 : decode cX11_law 140 = .ok (.iload_n 3, 1) := by decide +kernel
theorem dX11_law_141 : decode cX11_law 141 = .ok (.iaload, 1) := by decide +kernel
theorem dX11_law_142 : decode cX11_law 142 = .ok (.iastore, 1) := by decide +kernel
theorem dX11_law_143 : decode cX11_law 143 = .ok (.aload_n 0, 1) := by decide +kernel
theorem dX11_law_144 : decode cX11_law 144 = .ok (.getfield 59, 3) := by decide +kernel
theorem dX11_law_147 : decode cX11_law 147 = .ok (.iload_n 3, 1) := by decide +kernel
theorem dX11_law_148 : decode cX11_law 148 = .ok (.aload_n 0, 1) := by decide +kernel
theorem dX11_law_149 : decode cX11_law 149 = .ok (.getfield 44, 3) := by decide +kernel
theorem dX11_law_152 : decode cX11_law 152 = .ok (.iload_n 3, 1) := by decide +kernel
theorem dX11_law_153 : decode cX11_law 153 = .ok (.iaload, 1) := by decide +kernel
theorem dX11_law_154 : decode cX11_law 154 = .ok (.iastore, 1) := by decide +kernel
theorem dX11_law_155 : decode cX11_law 155 = .ok (.aload_n 0, 1) := by decide +kernel
theorem dX11_law_156 : decode cX11_law 156 = .ok (.getfield 62, 3) := by decide +kernel
theorem dX11_law_159 : decode cX11_law 159 = .ok (.iload_n 3, 1) := by decide +kernel
theorem dX11_law_160 : decode cX11_law 160 = .ok (.aload_n 0, 1) := by decide +kernel
theorem dX11_law_161 : decode cX11_law 161 = .ok (.getfield 47, 3) := by decide +kernel
theorem dX11_law_164 : decode cX11_law 164 = .ok (.iload_n 3, 1) := by decide +kernel
theorem dX11_law_165 : decode cX11_law 165 = .ok (.iaload, 1) := by decide +kernel
theorem dX11_law_166 : decode cX11_law 166 = .ok (.iastore, 1) := by decide +kernel
theorem dX11_law_167 : decode cX11_law 167 = .ok (.aload_n 0, 1) := by decide +kernel
theorem dX11_law_168 : decode cX11_law 168 = .ok (.getfield 65, 3) := by decide +kernel
theorem dX11_law_171 : decode cX11_law 171 = .ok (.iload_n 3, 1) := by decide +kernel
theorem dX11_law_172 : decode cX11_law 172 = .ok (.aload_n 0, 1) := by decide +kernel
theorem dX11_law_173 : decode cX11_law 173 = .ok (.getfield 50, 3) := by decide +kernel
theorem dX11_law_176 : decode cX11_law 176 = .ok (.iload_n 3, 1) := by decide +kernel
theorem dX11_law_177 : decode cX11_law 177 = .ok (.iaload, 1) := by decide +kernel
theorem dX11_law_178 : decode cX11_law 178 = .ok (.iastore, 1) := by decide +kernel
theorem dX11_law_179 : decode cX11_law 179 = .ok (.iinc 3 1, 3) := by decide +kernel
theorem dX11_law_182 : decode cX11_law 182 = .ok (.goto (-59), 3) := by decide +kernel
theorem dX11_law_185 : decode cX11_law 185 = .ok (.aload_n 0, 1) := by decide +kernel
theorem dX11_law_186 : decode cX11_law 186 = .ok (.getfield 229, 3) := by decide +kernel
theorem dX11_law_189 : decode cX11_law 189 = .ok (.ireturn, 1) := by decide +kernel
theorem dX11_reckon_0 : decode cX11_reckon 0 = .ok (.iload_n 0, 1) := by decide +kernel
theorem dX11_reckon_1 : decode cX11_reckon 1 = .ok (.tableswitch 85 2 8 #[43, 47, 51, 55, 59, 63, 74], 43) := by decide +kernel
theorem dX11_reckon_44 : decode cX11_reckon 44 = .ok (.iload_n 1, 1) := by decide +kernel
theorem dX11_reckon_45 : decode cX11_reckon 45 = .ok (.iload_n 2, 1) := by decide +kernel
theorem dX11_reckon_46 : decode cX11_reckon 46 = .ok (.iadd, 1) := by decide +kernel
theorem dX11_reckon_47 : decode cX11_reckon 47 = .ok (.ireturn, 1) := by decide +kernel
theorem dX11_reckon_48 : decode cX11_reckon 48 = .ok (.iload_n 1, 1) := by decide +kernel
theorem dX11_reckon_49 : decode cX11_reckon 49 = .ok (.iload_n 2, 1) := by decide +kernel
theorem dX11_reckon_50 : decode cX11_reckon 50 = .ok (.isub, 1) := by decide +kernel
theorem dX11_reckon_51 : decode cX11_reckon 51 = .ok (.ireturn, 1) := by decide +kernel
theorem dX11_reckon_52 : decode cX11_reckon 52 = .ok (.iload_n 1, 1) := by decide +kernel
theorem dX11_reckon_53 : decode cX11_reckon 53 = .ok (.iload_n 2, 1) := by decide +kernel
theorem dX11_reckon_54 : decode cX11_reckon 54 = .ok (.imul, 1) := by decide +kernel
theorem dX11_reckon_55 : decode cX11_reckon 55 = .ok (.ireturn, 1) := by decide +kernel
theorem dX11_reckon_56 : decode cX11_reckon 56 = .ok (.iload_n 1, 1) := by decide +kernel
theorem dX11_reckon_57 : decode cX11_reckon 57 = .ok (.iload_n 2, 1) := by decide +kernel
theorem dX11_reckon_58 : decode cX11_reckon 58 = .ok (.idiv, 1) := by decide +kernel
theorem dX11_reckon_59 : decode cX11_reckon 59 = .ok (.ireturn, 1) := by decide +kernel
theorem dX11_reckon_60 : decode cX11_reckon 60 = .ok (.iload_n 1, 1) := by decide +kernel
theorem dX11_reckon_61 : decode cX11_reckon 61 = .ok (.iload_n 2, 1) := by decide +kernel
theorem dX11_reckon_62 : decode cX11_reckon 62 = .ok (.irem, 1) := by decide +kernel
theorem dX11_reckon_63 : decode cX11_reckon 63 = .ok (.ireturn, 1) := by decide +kernel
theorem dX11_reckon_64 : decode cX11_reckon 64 = .ok (.iload_n 1, 1) := by decide +kernel
theorem dX11_reckon_65 : decode cX11_reckon 65 = .ok (.iload_n 2, 1) := by decide +kernel
theorem dX11_reckon_66 : decode cX11_reckon 66 = .ok (.if_icmp .ge 7, 3) := by decide +kernel
theorem dX11_reckon_69 : decode cX11_reckon 69 = .ok (.iconst 1, 1) := by decide +kernel
theorem dX11_reckon_70 : decode cX11_reckon 70 = .ok (.goto 4, 3) := by decide +kernel
theorem dX11_reckon_73 : decode cX11_reckon 73 = .ok (.iconst 0, 1) := by decide +kernel
theorem dX11_reckon_74 : decode cX11_reckon 74 = .ok (.ireturn, 1) := by decide +kernel
theorem dX11_reckon_75 : decode cX11_reckon 75 = .ok (.iload_n 1, 1) := by decide +kernel
theorem dX11_reckon_76 : decode cX11_reckon 76 = .ok (.iload_n 2, 1) := by decide +kernel
theorem dX11_reckon_77 : decode cX11_reckon 77 = .ok (.if_icmp .le 7, 3) := by decide +kernel
theorem dX11_reckon_80 : decode cX11_reckon 80 = .ok (.iconst 1, 1) := by decide +kernel
theorem dX11_reckon_81 : decode cX11_reckon 81 = .ok (.goto 4, 3) := by decide +kernel
theorem dX11_reckon_84 : decode cX11_reckon 84 = .ok (.iconst 0, 1) := by decide +kernel
theorem dX11_reckon_85 : decode cX11_reckon 85 = .ok (.ireturn, 1) := by decide +kernel
theorem dX11_reckon_86 : decode cX11_reckon 86 = .ok (.iload_n 1, 1) := by decide +kernel
theorem dX11_reckon_87 : decode cX11_reckon 87 = .ok (.iload_n 2, 1) := by decide +kernel
theorem dX11_reckon_88 : decode cX11_reckon 88 = .ok (.if_icmp .ne 7, 3) := by decide +kernel
theorem dX11_reckon_91 : decode cX11_reckon 91 = .ok (.iconst 1, 1) := by decide +kernel
theorem dX11_reckon_92 : decode cX11_reckon 92 = .ok (.goto 4, 3) := by decide +kernel
theorem dX11_reckon_95 : decode cX11_reckon 95 = .ok (.iconst 0, 1) := by decide +kernel
theorem dX11_reckon_96 : decode cX11_reckon 96 = .ok (.ireturn, 1) := by decide +kernel
theorem dX11_comesTo_0 : decode cX11_comesTo 0 = .ok (.iconst 0, 1) := by decide +kernel
theorem dX11_comesTo_1 : decode cX11_comesTo 1 = .ok (.istore_n 3, 1) := by decide +kernel
theorem dX11_comesTo_2 : decode cX11_comesTo 2 = .ok (.sipush 260, 3) := by decide +kernel
theorem dX11_comesTo_5 : decode cX11_comesTo 5 = .ok (.iload_n 1, 1) := by decide +kernel
theorem dX11_comesTo_6 : decode cX11_comesTo 6 = .ok (.sipush 260, 3) := by decide +kernel
theorem dX11_comesTo_9 : decode cX11_comesTo 9 = .ok (.idiv, 1) := by decide +kernel
theorem dX11_comesTo_10 : decode cX11_comesTo 10 = .ok (.imul, 1) := by decide +kernel
theorem dX11_comesTo_11 : decode cX11_comesTo 11 = .ok (.istore 4, 2) := by decide +kernel
theorem dX11_comesTo_13 : decode cX11_comesTo 13 = .ok (.iload_n 1, 1) := by decide +kernel
theorem dX11_comesTo_14 : decode cX11_comesTo 14 = .ok (.istore 5, 2) := by decide +kernel
theorem dX11_comesTo_16 : decode cX11_comesTo 16 = .ok (.iload 5, 2) := by decide +kernel
theorem dX11_comesTo_18 : decode cX11_comesTo 18 = .ok (.iload_n 2, 1) := by decide +kernel
theorem dX11_comesTo_19 : decode cX11_comesTo 19 = .ok (.if_icmp .ge 214, 3) := by decide +kernel
theorem dX11_comesTo_22 : decode cX11_comesTo 22 = .ok (.aload_n 0, 1) := by decide +kernel
theorem dX11_comesTo_23 : decode cX11_comesTo 23 = .ok (.getfield 53, 3) := by decide +kernel
theorem dX11_comesTo_26 : decode cX11_comesTo 26 = .ok (.iload 5, 2) := by decide +kernel
theorem dX11_comesTo_28 : decode cX11_comesTo 28 = .ok (.iaload, 1) := by decide +kernel
theorem dX11_comesTo_29 : decode cX11_comesTo 29 = .ok (.ldc 178, 2) := by decide +kernel
theorem dX11_comesTo_31 : decode cX11_comesTo 31 = .ok (.idiv, 1) := by decide +kernel
theorem dX11_comesTo_32 : decode cX11_comesTo 32 = .ok (.istore 6, 2) := by decide +kernel
theorem dX11_comesTo_34 : decode cX11_comesTo 34 = .ok (.aload_n 0, 1) := by decide +kernel
theorem dX11_comesTo_35 : decode cX11_comesTo 35 = .ok (.getfield 53, 3) := by decide +kernel
theorem dX11_comesTo_38 : decode cX11_comesTo 38 = .ok (.iload 5, 2) := by decide +kernel
theorem dX11_comesTo_40 : decode cX11_comesTo 40 = .ok (.iaload, 1) := by decide +kernel
theorem dX11_comesTo_41 : decode cX11_comesTo 41 = .ok (.ldc 178, 2) := by decide +kernel
theorem dX11_comesTo_43 : decode cX11_comesTo 43 = .ok (.irem, 1) := by decide +kernel
theorem dX11_comesTo_44 : decode cX11_comesTo 44 = .ok (.istore 7, 2) := by decide +kernel
theorem dX11_comesTo_46 : decode cX11_comesTo 46 = .ok (.iload 5, 2) := by decide +kernel
theorem dX11_comesTo_48 : decode cX11_comesTo 48 = .ok (.iconst 1, 1) := by decide +kernel
theorem dX11_comesTo_49 : decode cX11_comesTo 49 = .ok (.iadd, 1) := by decide +kernel
theorem dX11_comesTo_50 : decode cX11_comesTo 50 = .ok (.istore 5, 2) := by decide +kernel
theorem dX11_comesTo_52 : decode cX11_comesTo 52 = .ok (.iload 6, 2) := by decide +kernel
theorem dX11_comesTo_54 : decode cX11_comesTo 54 = .ok (.ifCond .eq 9, 3) := by decide +kernel
theorem dX11_comesTo_57 : decode cX11_comesTo 57 = .ok (.iload 6, 2) := by decide +kernel
theorem dX11_comesTo_59 : decode cX11_comesTo 59 = .ok (.iconst 1, 1) := by decide +kernel
theorem dX11_comesTo_60 : decode cX11_comesTo 60 = .ok (.if_icmp .ne 33, 3) := by decide +kernel
theorem dX11_comesTo_63 : decode cX11_comesTo 63 = .ok (.aload_n 0, 1) := by decide +kernel
theorem dX11_comesTo_64 : decode cX11_comesTo 64 = .ok (.getfield 68, 3) := by decide +kernel
theorem dX11_comesTo_67 : decode cX11_comesTo 67 = .ok (.iload_n 3, 1) := by decide +kernel
theorem dX11_comesTo_68 : decode cX11_comesTo 68 = .ok (.iload 6, 2) := by decide +kernel
theorem dX11_comesTo_70 : decode cX11_comesTo 70 = .ok (.ifCond .ne 8, 3) := by decide +kernel
theorem dX11_comesTo_73 : decode cX11_comesTo 73 = .ok (.iload 7, 2) := by decide +kernel
theorem dX11_comesTo_75 : decode cX11_comesTo 75 = .ok (.goto 10, 3) := by decide +kernel
theorem dX11_comesTo_78 : decode cX11_comesTo 78 = .ok (.aload_n 0, 1) := by decide +kernel
theorem dX11_comesTo_79 : decode cX11_comesTo 79 = .ok (.getfield 71, 3) := by decide +kernel
theorem dX11_comesTo_82 : decode cX11_comesTo 82 = .ok (.iload 7, 2) := by decide +kernel
theorem dX11_comesTo_84 : decode cX11_comesTo 84 = .ok (.iaload, 1) := by decide +kernel
theorem dX11_comesTo_85 : decode cX11_comesTo 85 = .ok (.iastore, 1) := by decide +kernel
theorem dX11_comesTo_86 : decode cX11_comesTo 86 = .ok (.iload_n 3, 1) := by decide +kernel
theorem dX11_comesTo_87 : decode cX11_comesTo 87 = .ok (.iconst 1, 1) := by decide +kernel
theorem dX11_comesTo_88 : decode cX11_comesTo 88 = .ok (.iadd, 1) := by decide +kernel
theorem dX11_comesTo_89 : decode cX11_comesTo 89 = .ok (.istore_n 3, 1) := by decide +kernel
theorem dX11_comesTo_90 : decode cX11_comesTo 90 = .ok (.goto 140, 3) := by decide +kernel
theorem dX11_comesTo_93 : decode cX11_comesTo 93 = .ok (.iload 6, 2) := by decide +kernel
theorem dX11_comesTo_95 : decode cX11_comesTo 95 = .ok (.bipush 10, 2) := by decide +kernel
theorem dX11_comesTo_97 : decode cX11_comesTo 97 = .ok (.if_icmp .ne 24, 3) := by decide +kernel
theorem dX11_comesTo_100 : decode cX11_comesTo 100 = .ok (.aload_n 0, 1) := by decide +kernel
theorem dX11_comesTo_101 : decode cX11_comesTo 101 = .ok (.getfield 68, 3) := by decide +kernel
theorem dX11_comesTo_104 : decode cX11_comesTo 104 = .ok (.iload_n 3, 1) := by decide +kernel
theorem dX11_comesTo_105 : decode cX11_comesTo 105 = .ok (.iconst 1, 1) := by decide +kernel
theorem dX11_comesTo_106 : decode cX11_comesTo 106 = .ok (.isub, 1) := by decide +kernel
theorem dX11_comesTo_107 : decode cX11_comesTo 107 = .ok (.iconst 1, 1) := by decide +kernel
theorem dX11_comesTo_108 : decode cX11_comesTo 108 = .ok (.aload_n 0, 1) := by decide +kernel
theorem dX11_comesTo_109 : decode cX11_comesTo 109 = .ok (.getfield 68, 3) := by decide +kernel
theorem dX11_comesTo_112 : decode cX11_comesTo 112 = .ok (.iload_n 3, 1) := by decide +kernel
theorem dX11_comesTo_113 : decode cX11_comesTo 113 = .ok (.iconst 1, 1) := by decide +kernel
theorem dX11_comesTo_114 : decode cX11_comesTo 114 = .ok (.isub, 1) := by decide +kernel
theorem dX11_comesTo_115 : decode cX11_comesTo 115 = .ok (.iaload, 1) := by decide +kernel
theorem dX11_comesTo_116 : decode cX11_comesTo 116 = .ok (.isub, 1) := by decide +kernel
theorem dX11_comesTo_117 : decode cX11_comesTo 117 = .ok (.iastore, 1) := by decide +kernel
theorem dX11_comesTo_118 : decode cX11_comesTo 118 = .ok (.goto 112, 3) := by decide +kernel
theorem dX11_comesTo_121 : decode cX11_comesTo 121 = .ok (.iload 6, 2) := by decide +kernel
theorem dX11_comesTo_123 : decode cX11_comesTo 123 = .ok (.bipush 11, 2) := by decide +kernel
theorem dX11_comesTo_125 : decode cX11_comesTo 125 = .ok (.if_icmp .eq 10, 3) := by decide +kernel
theorem dX11_comesTo_128 : decode cX11_comesTo 128 = .ok (.iload 6, 2) := by decide +kernel
theorem dX11_comesTo_130 : decode cX11_comesTo 130 = .ok (.bipush 12, 2) := by decide +kernel
theorem dX11_comesTo_132 : decode cX11_comesTo 132 = .ok (.if_icmp .ne 43, 3) := by decide +kernel
theorem dX11_comesTo_135 : decode cX11_comesTo 135 = .ok (.aload_n 0, 1) := by decide +kernel
theorem dX11_comesTo_136 : decode cX11_comesTo 136 = .ok (.getfield 68, 3) := by decide +kernel
theorem dX11_comesTo_139 : decode cX11_comesTo 139 = .ok (.iload_n 3, 1) := by decide +kernel
theorem dX11_comesTo_140 : decode cX11_comesTo 140 = .ok (.iconst 1, 1) := by decide +kernel
theorem dX11_comesTo_141 : decode cX11_comesTo 141 = .ok (.isub, 1) := by decide +kernel
theorem dX11_comesTo_142 : decode cX11_comesTo 142 = .ok (.iaload, 1) := by decide +kernel
theorem dX11_comesTo_143 : decode cX11_comesTo 143 = .ok (.iload 6, 2) := by decide +kernel
theorem dX11_comesTo_145 : decode cX11_comesTo 145 = .ok (.bipush 12, 2) := by decide +kernel
theorem dX11_comesTo_147 : decode cX11_comesTo 147 = .ok (.if_icmp .ne 7, 3) := by decide +kernel
theorem dX11_comesTo_150 : decode cX11_comesTo 150 = .ok (.iconst 1, 1) := by decide +kernel
theorem dX11_comesTo_151 : decode cX11_comesTo 151 = .ok (.goto 4, 3) := by decide +kernel
theorem dX11_comesTo_154 : decode cX11_comesTo 154 = .ok (.iconst 0, 1) := by decide +kernel
theorem dX11_comesTo_155 : decode cX11_comesTo 155 = .ok (.if_icmp .ne 13, 3) := by decide +kernel
theorem dX11_comesTo_158 : decode cX11_comesTo 158 = .ok (.iload 4, 2) := by decide +kernel
theorem dX11_comesTo_160 : decode cX11_comesTo 160 = .ok (.iload 7, 2) := by decide +kernel
theorem dX11_comesTo_162 : decode cX11_comesTo 162 = .ok (.iadd, 1) := by decide +kernel
theorem dX11_comesTo_163 : decode cX11_comesTo 163 = .ok (.istore 5, 2) := by decide +kernel
theorem dX11_comesTo_165 : decode cX11_comesTo 165 = .ok (.goto 65, 3) := by decide +kernel
theorem dX11_comesTo_168 : decode cX11_comesTo 168 = .ok (.iload_n 3, 1) := by decide +kernel
theorem dX11_comesTo_169 : decode cX11_comesTo 169 = .ok (.iconst 1, 1) := by decide +kernel
theorem dX11_comesTo_170 : decode cX11_comesTo 170 = .ok (.isub, 1) := by decide +kernel
theorem dX11_comesTo_171 : decode cX11_comesTo 171 = .ok (.istore_n 3, 1) := by decide +kernel
theorem dX11_comesTo_172 : decode cX11_comesTo 172 = .ok (.goto 58, 3) := by decide +kernel
theorem dX11_comesTo_175 : decode cX11_comesTo 175 = .ok (.iload_n 3, 1) := by decide +kernel
theorem dX11_comesTo_176 : decode cX11_comesTo 176 = .ok (.iconst 1, 1) := by decide +kernel
theorem dX11_comesTo_177 : decode cX11_comesTo 177 = .ok (.isub, 1) := by decide +kernel
theorem dX11_comesTo_178 : decode cX11_comesTo 178 = .ok (.istore_n 3, 1) := by decide +kernel
theorem dX11_comesTo_179 : decode cX11_comesTo 179 = .ok (.iload 6, 2) := by decide +kernel
theorem dX11_comesTo_181 : decode cX11_comesTo 181 = .ok (.iconst 5, 1) := by decide +kernel
theorem dX11_comesTo_182 : decode cX11_comesTo 182 = .ok (.if_icmp .eq 10, 3) := by decide +kernel
theorem dX11_comesTo_185 : decode cX11_comesTo 185 = .ok (.iload 6, 2) := by decide +kernel
theorem dX11_comesTo_187 : decode cX11_comesTo 187 = .ok (.bipush 6, 2) := by decide +kernel
theorem dX11_comesTo_189 : decode cX11_comesTo 189 = .ok (.if_icmp .ne 14, 3) := by decide +kernel
theorem dX11_comesTo_192 : decode cX11_comesTo 192 = .ok (.aload_n 0, 1) := by decide +kernel
theorem dX11_comesTo_193 : decode cX11_comesTo 193 = .ok (.getfield 68, 3) := by decide +kernel
theorem dX11_comesTo_196 : decode cX11_comesTo 196 = .ok (.iload_n 3, 1) := by decide +kernel
theorem dX11_comesTo_197 : decode cX11_comesTo 197 = .ok (.iaload, 1) := by decide +kernel
theorem dX11_comesTo_198 : decode cX11_comesTo 198 = .ok (.ifCond .ne 5, 3) := by decide +kernel
theorem dX11_comesTo_201 : decode cX11_comesTo 201 = .ok (.iconst 0, 1) := by decide +kernel
theorem dX11_comesTo_202 : decode cX11_comesTo 202 = .ok (.ireturn, 1) := by decide +kernel
theorem dX11_comesTo_203 : decode cX11_comesTo 203 = .ok (.aload_n 0, 1) := by decide +kernel
theorem dX11_comesTo_204 : decode cX11_comesTo 204 = .ok (.getfield 68, 3) := by decide +kernel
theorem dX11_comesTo_207 : decode cX11_comesTo 207 = .ok (.iload_n 3, 1) := by decide +kernel
theorem dX11_comesTo_208 : decode cX11_comesTo 208 = .ok (.iconst 1, 1) := by decide +kernel
theorem dX11_comesTo_209 : decode cX11_comesTo 209 = .ok (.isub, 1) := by decide +kernel
theorem dX11_comesTo_210 : decode cX11_comesTo 210 = .ok (.iload 6, 2) := by decide +kernel
theorem dX11_comesTo_212 : decode cX11_comesTo 212 = .ok (.aload_n 0, 1) := by decide +kernel
theorem dX11_comesTo_213 : decode cX11_comesTo 213 = .ok (.getfield 68, 3) := by decide +kernel
theorem dX11_comesTo_216 : decode cX11_comesTo 216 = .ok (.iload_n 3, 1) := by decide +kernel
theorem dX11_comesTo_217 : decode cX11_comesTo 217 = .ok (.iconst 1, 1) := by decide +kernel
theorem dX11_comesTo_218 : decode cX11_comesTo 218 = .ok (.isub, 1) := by decide +kernel
theorem dX11_comesTo_219 : decode cX11_comesTo 219 = .ok (.iaload, 1) := by decide +kernel
theorem dX11_comesTo_220 : decode cX11_comesTo 220 = .ok (.aload_n 0, 1) := by decide +kernel
theorem dX11_comesTo_221 : decode cX11_comesTo 221 = .ok (.getfield 68, 3) := by decide +kernel
theorem dX11_comesTo_224 : decode cX11_comesTo 224 = .ok (.iload_n 3, 1) := by decide +kernel
theorem dX11_comesTo_225 : decode cX11_comesTo 225 = .ok (.iaload, 1) := by decide +kernel
theorem dX11_comesTo_226 : decode cX11_comesTo 226 = .ok (.invokestatic 247, 3) := by decide +kernel
theorem dX11_comesTo_229 : decode cX11_comesTo 229 = .ok (.iastore, 1) := by decide +kernel
theorem dX11_comesTo_230 : decode cX11_comesTo 230 = .ok (.goto (-214), 3) := by decide +kernel
theorem dX11_comesTo_233 : decode cX11_comesTo 233 = .ok (.aload_n 0, 1) := by decide +kernel
theorem dX11_comesTo_234 : decode cX11_comesTo 234 = .ok (.getfield 68, 3) := by decide +kernel
theorem dX11_comesTo_237 : decode cX11_comesTo 237 = .ok (.iconst 0, 1) := by decide +kernel
theorem dX11_comesTo_238 : decode cX11_comesTo 238 = .ok (.iaload, 1) := by decide +kernel
theorem dX11_comesTo_239 : decode cX11_comesTo 239 = .ok (.ireturn, 1) := by decide +kernel
theorem dX11_byLaw_0 : decode cX11_byLaw 0 = .ok (.iconst 0, 1) := by decide +kernel
theorem dX11_byLaw_1 : decode cX11_byLaw 1 = .ok (.istore_n 3, 1) := by decide +kernel
theorem dX11_byLaw_2 : decode cX11_byLaw 2 = .ok (.iload_n 3, 1) := by decide +kernel
theorem dX11_byLaw_3 : decode cX11_byLaw 3 = .ok (.aload_n 0, 1) := by decide +kernel
theorem dX11_byLaw_4 : decode cX11_byLaw 4 = .ok (.getfield 244, 3) := by decide +kernel
theorem dX11_byLaw_7 : decode cX11_byLaw 7 = .ok (.if_icmp .ge 82, 3) := by decide +kernel
theorem dX11_byLaw_10 : decode cX11_byLaw 10 = .ok (.aload_n 0, 1) := by decide +kernel
theorem dX11_byLaw_11 : decode cX11_byLaw 11 = .ok (.getfield 56, 3) := by decide +kernel
theorem dX11_byLaw_14 : decode cX11_byLaw 14 = .ok (.iload_n 3, 1) := by decide +kernel
theorem dX11_byLaw_15 : decode cX11_byLaw 15 = .ok (.iaload, 1) := by decide +kernel
theorem dX11_byLaw_16 : decode cX11_byLaw 16 = .ok (.iload_n 1, 1) := by decide +kernel
theorem dX11_byLaw_17 : decode cX11_byLaw 17 = .ok (.if_icmp .ne 66, 3) := by decide +kernel
theorem dX11_byLaw_20 : decode cX11_byLaw 20 = .ok (.aload_n 0, 1) := by decide +kernel
theorem dX11_byLaw_21 : decode cX11_byLaw 21 = .ok (.aload_n 0, 1) := by decide +kernel
theorem dX11_byLaw_22 : decode cX11_byLaw 22 = .ok (.getfield 62, 3) := by decide +kernel
theorem dX11_byLaw_25 : decode cX11_byLaw 25 = .ok (.iload_n 3, 1) := by decide +kernel
theorem dX11_byLaw_26 : decode cX11_byLaw 26 = .ok (.iaload, 1) := by decide +kernel
theorem dX11_byLaw_27 : decode cX11_byLaw 27 = .ok (.aload_n 0, 1) := by decide +kernel
theorem dX11_byLaw_28 : decode cX11_byLaw 28 = .ok (.getfield 65, 3) := by decide +kernel
theorem dX11_byLaw_31 : decode cX11_byLaw 31 = .ok (.iload_n 3, 1) := by decide +kernel
theorem dX11_byLaw_32 : decode cX11_byLaw 32 = .ok (.iaload, 1) := by decide +kernel
theorem dX11_byLaw_33 : decode cX11_byLaw 33 = .ok (.invokevirtual 251, 3) := by decide +kernel
theorem dX11_byLaw_36 : decode cX11_byLaw 36 = .ok (.iconst 1, 1) := by decide +kernel
theorem dX11_byLaw_37 : decode cX11_byLaw 37 = .ok (.if_icmp .eq 6, 3) := by decide +kernel
theorem dX11_byLaw_40 : decode cX11_byLaw 40 = .ok (.goto 43, 3) := by decide +kernel
theorem dX11_byLaw_43 : decode cX11_byLaw 43 = .ok (.aload_n 0, 1) := by decide +kernel
theorem dX11_byLaw_44 : decode cX11_byLaw 44 = .ok (.aload_n 0, 1) := by decide +kernel
theorem dX11_byLaw_45 : decode cX11_byLaw 45 = .ok (.getfield 59, 3) := by decide +kernel
theorem dX11_byLaw_48 : decode cX11_byLaw 48 = .ok (.iload_n 3, 1) := by decide +kernel
theorem dX11_byLaw_49 : decode cX11_byLaw 49 = .ok (.iaload, 1) := by decide +kernel
theorem dX11_byLaw_50 : decode cX11_byLaw 50 = .ok (.aload_n 0, 1) := by decide +kernel
theorem dX11_byLaw_51 : decode cX11_byLaw 51 = .ok (.getfield 62, 3) := by decide +kernel
theorem dX11_byLaw_54 : decode cX11_byLaw 54 = .ok (.iload_n 3, 1) := by decide +kernel
theorem dX11_byLaw_55 : decode cX11_byLaw 55 = .ok (.iaload, 1) := by decide +kernel
theorem dX11_byLaw_56 : decode cX11_byLaw 56 = .ok (.invokevirtual 251, 3) := by decide +kernel
theorem dX11_byLaw_59 : decode cX11_byLaw 59 = .ok (.istore 4, 2) := by decide +kernel
theorem dX11_byLaw_61 : decode cX11_byLaw 61 = .ok (.iload 4, 2) := by decide +kernel
theorem dX11_byLaw_63 : decode cX11_byLaw 63 = .ok (.ifCond .ge 7, 3) := by decide +kernel
theorem dX11_byLaw_66 : decode cX11_byLaw 66 = .ok (.iconst 0, 1) := by decide +kernel
theorem dX11_byLaw_67 : decode cX11_byLaw 67 = .ok (.goto 15, 3) := by decide +kernel
theorem dX11_byLaw_70 : decode cX11_byLaw 70 = .ok (.iload 4, 2) := by decide +kernel
theorem dX11_byLaw_72 : decode cX11_byLaw 72 = .ok (.iload_n 2, 1) := by decide +kernel
theorem dX11_byLaw_73 : decode cX11_byLaw 73 = .ok (.if_icmp .le 7, 3) := by decide +kernel
theorem dX11_byLaw_76 : decode cX11_byLaw 76 = .ok (.iload_n 2, 1) := by decide +kernel
theorem dX11_byLaw_77 : decode cX11_byLaw 77 = .ok (.goto 5, 3) := by decide +kernel
theorem dX11_byLaw_80 : decode cX11_byLaw 80 = .ok (.iload 4, 2) := by decide +kernel
theorem dX11_byLaw_82 : decode cX11_byLaw 82 = .ok (.ireturn, 1) := by decide +kernel
theorem dX11_byLaw_83 : decode cX11_byLaw 83 = .ok (.iinc 3 1, 3) := by decide +kernel
theorem dX11_byLaw_86 : decode cX11_byLaw 86 = .ok (.goto (-84), 3) := by decide +kernel
theorem dX11_byLaw_89 : decode cX11_byLaw 89 = .ok (.iconst 0, 1) := by decide +kernel
theorem dX11_byLaw_90 : decode cX11_byLaw 90 = .ok (.ireturn, 1) := by decide +kernel
theorem dX11_holdsAny_0 : decode cX11_holdsAny 0 = .ok (.iconst 0, 1) := by decide +kernel
theorem dX11_holdsAny_1 : decode cX11_holdsAny 1 = .ok (.istore_n 2, 1) := by decide +kernel
theorem dX11_holdsAny_2 : decode cX11_holdsAny 2 = .ok (.iload_n 2, 1) := by decide +kernel
theorem dX11_holdsAny_3 : decode cX11_holdsAny 3 = .ok (.aload_n 0, 1) := by decide +kernel
theorem dX11_holdsAny_4 : decode cX11_holdsAny 4 = .ok (.getfield 244, 3) := by decide +kernel
theorem dX11_holdsAny_7 : decode cX11_holdsAny 7 = .ok (.if_icmp .ge 41, 3) := by decide +kernel
theorem dX11_holdsAny_10 : decode cX11_holdsAny 10 = .ok (.aload_n 0, 1) := by decide +kernel
theorem dX11_holdsAny_11 : decode cX11_holdsAny 11 = .ok (.getfield 56, 3) := by decide +kernel
theorem dX11_holdsAny_14 : decode cX11_holdsAny 14 = .ok (.iload_n 2, 1) := by decide +kernel
theorem dX11_holdsAny_15 : decode cX11_holdsAny 15 = .ok (.iaload, 1) := by decide +kernel
theorem dX11_holdsAny_16 : decode cX11_holdsAny 16 = .ok (.iload_n 1, 1) := by decide +kernel
theorem dX11_holdsAny_17 : decode cX11_holdsAny 17 = .ok (.if_icmp .ne 25, 3) := by decide +kernel
theorem dX11_holdsAny_20 : decode cX11_holdsAny 20 = .ok (.aload_n 0, 1) := by decide +kernel
theorem dX11_holdsAny_21 : decode cX11_holdsAny 21 = .ok (.aload_n 0, 1) := by decide +kernel
theorem dX11_holdsAny_22 : decode cX11_holdsAny 22 = .ok (.getfield 62, 3) := by decide +kernel
theorem dX11_holdsAny_25 : decode cX11_holdsAny 25 = .ok (.iload_n 2, 1) := by decide +kernel
theorem dX11_holdsAny_26 : decode cX11_holdsAny 26 = .ok (.iaload, 1) := by decide +kernel
theorem dX11_holdsAny_27 : decode cX11_holdsAny 27 = .ok (.aload_n 0, 1) := by decide +kernel
theorem dX11_holdsAny_28 : decode cX11_holdsAny 28 = .ok (.getfield 65, 3) := by decide +kernel
theorem dX11_holdsAny_31 : decode cX11_holdsAny 31 = .ok (.iload_n 2, 1) := by decide +kernel
theorem dX11_holdsAny_32 : decode cX11_holdsAny 32 = .ok (.iaload, 1) := by decide +kernel
theorem dX11_holdsAny_33 : decode cX11_holdsAny 33 = .ok (.invokevirtual 251, 3) := by decide +kernel
theorem dX11_holdsAny_36 : decode cX11_holdsAny 36 = .ok (.iconst 1, 1) := by decide +kernel
theorem dX11_holdsAny_37 : decode cX11_holdsAny 37 = .ok (.if_icmp .ne 5, 3) := by decide +kernel
theorem dX11_holdsAny_40 : decode cX11_holdsAny 40 = .ok (.iconst 1, 1) := by decide +kernel
theorem dX11_holdsAny_41 : decode cX11_holdsAny 41 = .ok (.ireturn, 1) := by decide +kernel
theorem dX11_holdsAny_42 : decode cX11_holdsAny 42 = .ok (.iinc 2 1, 3) := by decide +kernel
theorem dX11_holdsAny_45 : decode cX11_holdsAny 45 = .ok (.goto (-43), 3) := by decide +kernel
theorem dX11_holdsAny_48 : decode cX11_holdsAny 48 = .ok (.iconst 0, 1) := by decide +kernel
theorem dX11_holdsAny_49 : decode cX11_holdsAny 49 = .ok (.ireturn, 1) := by decide +kernel
theorem dX11_feels_0 : decode cX11_feels 0 = .ok (.aload_n 0, 1) := by decide +kernel
theorem dX11_feels_1 : decode cX11_feels 1 = .ok (.getfield 71, 3) := by decide +kernel
theorem dX11_feels_4 : decode cX11_feels 4 = .ok (.iconst 0, 1) := by decide +kernel
theorem dX11_feels_5 : decode cX11_feels 5 = .ok (.iload_n 1, 1) := by decide +kernel
theorem dX11_feels_6 : decode cX11_feels 6 = .ok (.iastore, 1) := by decide +kernel
theorem dX11_feels_7 : decode cX11_feels 7 = .ok (.aload_n 0, 1) := by decide +kernel
theorem dX11_feels_8 : decode cX11_feels 8 = .ok (.getfield 71, 3) := by decide +kernel
theorem dX11_feels_11 : decode cX11_feels 11 = .ok (.iconst 1, 1) := by decide +kernel
theorem dX11_feels_12 : decode cX11_feels 12 = .ok (.aload_n 0, 1) := by decide +kernel
theorem dX11_feels_13 : decode cX11_feels 13 = .ok (.getfield 7, 3) := by decide +kernel
theorem dX11_feels_16 : decode cX11_feels 16 = .ok (.bipush 16, 2) := by decide +kernel
theorem dX11_feels_18 : decode cX11_feels 18 = .ok (.iload_n 1, 1) := by decide +kernel
theorem dX11_feels_19 : decode cX11_feels 19 = .ok (.iadd, 1) := by decide +kernel
theorem dX11_feels_20 : decode cX11_feels 20 = .ok (.iaload, 1) := by decide +kernel
theorem dX11_feels_21 : decode cX11_feels 21 = .ok (.iastore, 1) := by decide +kernel
theorem dX11_feels_22 : decode cX11_feels 22 = .ok (.aload_n 0, 1) := by decide +kernel
theorem dX11_feels_23 : decode cX11_feels 23 = .ok (.getfield 71, 3) := by decide +kernel
theorem dX11_feels_26 : decode cX11_feels 26 = .ok (.iconst 2, 1) := by decide +kernel
theorem dX11_feels_27 : decode cX11_feels 27 = .ok (.aload_n 0, 1) := by decide +kernel
theorem dX11_feels_28 : decode cX11_feels 28 = .ok (.getfield 7, 3) := by decide +kernel
theorem dX11_feels_31 : decode cX11_feels 31 = .ok (.bipush 32, 2) := by decide +kernel
theorem dX11_feels_33 : decode cX11_feels 33 = .ok (.iload_n 1, 1) := by decide +kernel
theorem dX11_feels_34 : decode cX11_feels 34 = .ok (.iadd, 1) := by decide +kernel
theorem dX11_feels_35 : decode cX11_feels 35 = .ok (.iaload, 1) := by decide +kernel
theorem dX11_feels_36 : decode cX11_feels 36 = .ok (.iastore, 1) := by decide +kernel
theorem dX11_feels_37 : decode cX11_feels 37 = .ok (.aload_n 0, 1) := by decide +kernel
theorem dX11_feels_38 : decode cX11_feels 38 = .ok (.getfield 71, 3) := by decide +kernel
theorem dX11_feels_41 : decode cX11_feels 41 = .ok (.iconst 3, 1) := by decide +kernel
theorem dX11_feels_42 : decode cX11_feels 42 = .ok (.aload_n 0, 1) := by decide +kernel
theorem dX11_feels_43 : decode cX11_feels 43 = .ok (.getfield 7, 3) := by decide +kernel
theorem dX11_feels_46 : decode cX11_feels 46 = .ok (.bipush 80, 2) := by decide +kernel
theorem dX11_feels_48 : decode cX11_feels 48 = .ok (.iload_n 1, 1) := by decide +kernel
theorem dX11_feels_49 : decode cX11_feels 49 = .ok (.iadd, 1) := by decide +kernel
theorem dX11_feels_50 : decode cX11_feels 50 = .ok (.iaload, 1) := by decide +kernel
theorem dX11_feels_51 : decode cX11_feels 51 = .ok (.iastore, 1) := by decide +kernel
theorem dX11_feels_52 : decode cX11_feels 52 = .ok (.aload_n 0, 1) := by decide +kernel
theorem dX11_feels_53 : decode cX11_feels 53 = .ok (.getfield 71, 3) := by decide +kernel
theorem dX11_feels_56 : decode cX11_feels 56 = .ok (.iconst 4, 1) := by decide +kernel
theorem dX11_feels_57 : decode cX11_feels 57 = .ok (.aload_n 0, 1) := by decide +kernel
theorem dX11_feels_58 : decode cX11_feels 58 = .ok (.getfield 7, 3) := by decide +kernel
theorem dX11_feels_61 : decode cX11_feels 61 = .ok (.sipush 388, 3) := by decide +kernel
theorem dX11_feels_64 : decode cX11_feels 64 = .ok (.iaload, 1) := by decide +kernel
theorem dX11_feels_65 : decode cX11_feels 65 = .ok (.bipush 100, 2) := by decide +kernel
theorem dX11_feels_67 : decode cX11_feels 67 = .ok (.idiv, 1) := by decide +kernel
theorem dX11_feels_68 : decode cX11_feels 68 = .ok (.iastore, 1) := by decide +kernel
theorem dX11_feels_69 : decode cX11_feels 69 = .ok (.aload_n 0, 1) := by decide +kernel
theorem dX11_feels_70 : decode cX11_feels 70 = .ok (.getfield 71, 3) := by decide +kernel
theorem dX11_feels_73 : decode cX11_feels 73 = .ok (.iconst 5, 1) := by decide +kernel
theorem dX11_feels_74 : decode cX11_feels 74 = .ok (.aload_n 0, 1) := by decide +kernel
theorem dX11_feels_75 : decode cX11_feels 75 = .ok (.getfield 7, 3) := by decide +kernel
theorem dX11_feels_78 : decode cX11_feels 78 = .ok (.sipush 389, 3) := by decide +kernel
theorem dX11_feels_81 : decode cX11_feels 81 = .ok (.iaload, 1) := by decide +kernel
theorem dX11_feels_82 : decode cX11_feels 82 = .ok (.bipush 60, 2) := by decide +kernel
theorem dX11_feels_84 : decode cX11_feels 84 = .ok (.irem, 1) := by decide +kernel
theorem dX11_feels_85 : decode cX11_feels 85 = .ok (.iastore, 1) := by decide +kernel
theorem dX11_feels_86 : decode cX11_feels 86 = .ok (.aload_n 0, 1) := by decide +kernel
theorem dX11_feels_87 : decode cX11_feels 87 = .ok (.getfield 71, 3) := by decide +kernel
theorem dX11_feels_90 : decode cX11_feels 90 = .ok (.bipush 6, 2) := by decide +kernel
theorem dX11_feels_92 : decode cX11_feels 92 = .ok (.aload_n 0, 1) := by decide +kernel
theorem dX11_feels_93 : decode cX11_feels 93 = .ok (.getfield 7, 3) := by decide +kernel
theorem dX11_feels_96 : decode cX11_feels 96 = .ok (.sipush 389, 3) := by decide +kernel
theorem dX11_feels_99 : decode cX11_feels 99 = .ok (.iaload, 1) := by decide +kernel
theorem dX11_feels_100 : decode cX11_feels 100 = .ok (.bipush 60, 2) := by decide +kernel
theorem dX11_feels_102 : decode cX11_feels 102 = .ok (.idiv, 1) := by decide +kernel
theorem dX11_feels_103 : decode cX11_feels 103 = .ok (.bipush 24, 2) := by decide +kernel
theorem dX11_feels_105 : decode cX11_feels 105 = .ok (.irem, 1) := by decide +kernel
theorem dX11_feels_106 : decode cX11_feels 106 = .ok (.iastore, 1) := by decide +kernel
theorem dX11_feels_107 : decode cX11_feels 107 = .ok (.aload_n 0, 1) := by decide +kernel
theorem dX11_feels_108 : decode cX11_feels 108 = .ok (.getfield 71, 3) := by decide +kernel
theorem dX11_feels_111 : decode cX11_feels 111 = .ok (.bipush 7, 2) := by decide +kernel
theorem dX11_feels_113 : decode cX11_feels 113 = .ok (.iconst 0, 1) := by decide +kernel
theorem dX11_feels_114 : decode cX11_feels 114 = .ok (.iastore, 1) := by decide +kernel
theorem dX11_feels_115 : decode cX11_feels 115 = .ok (.aload_n 0, 1) := by decide +kernel
theorem dX11_feels_116 : decode cX11_feels 116 = .ok (.getfield 71, 3) := by decide +kernel
theorem dX11_feels_119 : decode cX11_feels 119 = .ok (.bipush 8, 2) := by decide +kernel
theorem dX11_feels_121 : decode cX11_feels 121 = .ok (.iconst 0, 1) := by decide +kernel
theorem dX11_feels_122 : decode cX11_feels 122 = .ok (.iastore, 1) := by decide +kernel
theorem dX11_feels_123 : decode cX11_feels 123 = .ok (.aload_n 0, 1) := by decide +kernel
theorem dX11_feels_124 : decode cX11_feels 124 = .ok (.getfield 71, 3) := by decide +kernel
theorem dX11_feels_127 : decode cX11_feels 127 = .ok (.bipush 9, 2) := by decide +kernel
theorem dX11_feels_129 : decode cX11_feels 129 = .ok (.iconst 0, 1) := by decide +kernel
theorem dX11_feels_130 : decode cX11_feels 130 = .ok (.iastore, 1) := by decide +kernel
theorem dX11_feels_131 : decode cX11_feels 131 = .ok (.return_, 1) := by decide +kernel
theorem dX11_readsPence_0 : decode cX11_readsPence 0 = .ok (.aload_n 0, 1) := by decide +kernel
theorem dX11_readsPence_1 : decode cX11_readsPence 1 = .ok (.getfield 152, 3) := by decide +kernel
theorem dX11_readsPence_4 : decode cX11_readsPence 4 = .ok (.istore_n 1, 1) := by decide +kernel
theorem dX11_readsPence_5 : decode cX11_readsPence 5 = .ok (.aload_n 0, 1) := by decide +kernel
theorem dX11_readsPence_6 : decode cX11_readsPence 6 = .ok (.invokevirtual 171, 3) := by decide +kernel
theorem dX11_readsPence_9 : decode cX11_readsPence 9 = .ok (.ifCond .ne 13, 3) := by decide +kernel
theorem dX11_readsPence_12 : decode cX11_readsPence 12 = .ok (.aload_n 0, 1) := by decide +kernel
theorem dX11_readsPence_13 : decode cX11_readsPence 13 = .ok (.iconst 1, 1) := by decide +kernel
theorem dX11_readsPence_14 : decode cX11_readsPence 14 = .ok (.aload_n 0, 1) := by decide +kernel
theorem dX11_readsPence_15 : decode cX11_readsPence 15 = .ok (.getfield 152, 3) := by decide +kernel
theorem dX11_readsPence_18 : decode cX11_readsPence 18 = .ok (.invokevirtual 165, 3) := by decide +kernel
theorem dX11_readsPence_21 : decode cX11_readsPence 21 = .ok (.ireturn, 1) := by decide +kernel
theorem dX11_readsPence_22 : decode cX11_readsPence 22 = .ok (.aload_n 0, 1) := by decide +kernel
theorem dX11_readsPence_23 : decode cX11_readsPence 23 = .ok (.iconst 0, 1) := by decide +kernel
theorem dX11_readsPence_24 : decode cX11_readsPence 24 = .ok (.putfield 168, 3) := by decide +kernel
theorem dX11_readsPence_27 : decode cX11_readsPence 27 = .ok (.aload_n 0, 1) := by decide +kernel
theorem dX11_readsPence_28 : decode cX11_readsPence 28 = .ok (.invokevirtual 171, 3) := by decide +kernel
theorem dX11_readsPence_31 : decode cX11_readsPence 31 = .ok (.ifCond .eq 55, 3) := by decide +kernel
theorem dX11_readsPence_34 : decode cX11_readsPence 34 = .ok (.aload_n 0, 1) := by decide +kernel
theorem dX11_readsPence_35 : decode cX11_readsPence 35 = .ok (.getfield 152, 3) := by decide +kernel
theorem dX11_readsPence_38 : decode cX11_readsPence 38 = .ok (.iload_n 1, 1) := by decide +kernel
theorem dX11_readsPence_39 : decode cX11_readsPence 39 = .ok (.iconst 5, 1) := by decide +kernel
theorem dX11_readsPence_40 : decode cX11_readsPence 40 = .ok (.iadd, 1) := by decide +kernel
theorem dX11_readsPence_41 : decode cX11_readsPence 41 = .ok (.if_icmp .ne 13, 3) := by decide +kernel
theorem dX11_readsPence_44 : decode cX11_readsPence 44 = .ok (.aload_n 0, 1) := by decide +kernel
theorem dX11_readsPence_45 : decode cX11_readsPence 45 = .ok (.iconst 2, 1) := by decide +kernel
theorem dX11_readsPence_46 : decode cX11_readsPence 46 = .ok (.aload_n 0, 1) := by decide +kernel
theorem dX11_readsPence_47 : decode cX11_readsPence 47 = .ok (.getfield 152, 3) := by decide +kernel
theorem dX11_readsPence_50 : decode cX11_readsPence 50 = .ok (.invokevirtual 165, 3) := by decide +kernel
theorem dX11_readsPence_53 : decode cX11_readsPence 53 = .ok (.ireturn, 1) := by decide +kernel
theorem dX11_readsPence_54 : decode cX11_readsPence 54 = .ok (.aload_n 0, 1) := by decide +kernel
theorem dX11_readsPence_55 : decode cX11_readsPence 55 = .ok (.bipush 10, 2) := by decide +kernel
theorem dX11_readsPence_57 : decode cX11_readsPence 57 = .ok (.aload_n 0, 1) := by decide +kernel
theorem dX11_readsPence_58 : decode cX11_readsPence 58 = .ok (.getfield 168, 3) := by decide +kernel
theorem dX11_readsPence_61 : decode cX11_readsPence 61 = .ok (.imul, 1) := by decide +kernel
theorem dX11_readsPence_62 : decode cX11_readsPence 62 = .ok (.aload_n 0, 1) := by decide +kernel
theorem dX11_readsPence_63 : decode cX11_readsPence 63 = .ok (.invokevirtual 158, 3) := by decide +kernel
theorem dX11_readsPence_66 : decode cX11_readsPence 66 = .ok (.iadd, 1) := by decide +kernel
theorem dX11_readsPence_67 : decode cX11_readsPence 67 = .ok (.bipush 48, 2) := by decide +kernel
theorem dX11_readsPence_69 : decode cX11_readsPence 69 = .ok (.isub, 1) := by decide +kernel
theorem dX11_readsPence_70 : decode cX11_readsPence 70 = .ok (.putfield 168, 3) := by decide +kernel
theorem dX11_readsPence_73 : decode cX11_readsPence 73 = .ok (.aload_n 0, 1) := by decide +kernel
theorem dX11_readsPence_74 : decode cX11_readsPence 74 = .ok (.aload_n 0, 1) := by decide +kernel
theorem dX11_readsPence_75 : decode cX11_readsPence 75 = .ok (.getfield 152, 3) := by decide +kernel
theorem dX11_readsPence_78 : decode cX11_readsPence 78 = .ok (.iconst 1, 1) := by decide +kernel
theorem dX11_readsPence_79 : decode cX11_readsPence 79 = .ok (.iadd, 1) := by decide +kernel
theorem dX11_readsPence_80 : decode cX11_readsPence 80 = .ok (.putfield 152, 3) := by decide +kernel
theorem dX11_readsPence_83 : decode cX11_readsPence 83 = .ok (.goto (-56), 3) := by decide +kernel
theorem dX11_readsPence_86 : decode cX11_readsPence 86 = .ok (.iconst 1, 1) := by decide +kernel
theorem dX11_readsPence_87 : decode cX11_readsPence 87 = .ok (.ireturn, 1) := by decide +kernel
theorem dX11_readsMore_0 : decode cX11_readsMore 0 = .ok (.aload_n 0, 1) := by decide +kernel
theorem dX11_readsMore_1 : decode cX11_readsMore 1 = .ok (.invokevirtual 158, 3) := by decide +kernel
theorem dX11_readsMore_4 : decode cX11_readsMore 4 = .ok (.istore_n 2, 1) := by decide +kernel
theorem dX11_readsMore_5 : decode cX11_readsMore 5 = .ok (.iload_n 2, 1) := by decide +kernel
theorem dX11_readsMore_6 : decode cX11_readsMore 6 = .ok (.bipush 43, 2) := by decide +kernel
theorem dX11_readsMore_8 : decode cX11_readsMore 8 = .ok (.if_icmp .eq 19, 3) := by decide +kernel
theorem dX11_readsMore_11 : decode cX11_readsMore 11 = .ok (.iload_n 2, 1) := by decide +kernel
theorem dX11_readsMore_12 : decode cX11_readsMore 12 = .ok (.bipush 45, 2) := by decide +kernel
theorem dX11_readsMore_14 : decode cX11_readsMore 14 = .ok (.if_icmp .eq 13, 3) := by decide +kernel
theorem dX11_readsMore_17 : decode cX11_readsMore 17 = .ok (.aload_n 0, 1) := by decide +kernel
theorem dX11_readsMore_18 : decode cX11_readsMore 18 = .ok (.iconst 1, 1) := by decide +kernel
theorem dX11_readsMore_19 : decode cX11_readsMore 19 = .ok (.aload_n 0, 1) := by decide +kernel
theorem dX11_readsMore_20 : decode cX11_readsMore 20 = .ok (.getfield 152, 3) := by decide +kernel
theorem dX11_readsMore_23 : decode cX11_readsMore 23 = .ok (.invokevirtual 165, 3) := by decide +kernel
theorem dX11_readsMore_26 : decode cX11_readsMore 26 = .ok (.ireturn, 1) := by decide +kernel
theorem dX11_readsMore_27 : decode cX11_readsMore 27 = .ok (.aload_n 0, 1) := by decide +kernel
theorem dX11_readsMore_28 : decode cX11_readsMore 28 = .ok (.aload_n 0, 1) := by decide +kernel
theorem dX11_readsMore_29 : decode cX11_readsMore 29 = .ok (.getfield 152, 3) := by decide +kernel
theorem dX11_readsMore_32 : decode cX11_readsMore 32 = .ok (.iconst 1, 1) := by decide +kernel
theorem dX11_readsMore_33 : decode cX11_readsMore 33 = .ok (.iadd, 1) := by decide +kernel
theorem dX11_readsMore_34 : decode cX11_readsMore 34 = .ok (.putfield 152, 3) := by decide +kernel
theorem dX11_readsMore_37 : decode cX11_readsMore 37 = .ok (.aload_n 0, 1) := by decide +kernel
theorem dX11_readsMore_38 : decode cX11_readsMore 38 = .ok (.invokevirtual 254, 3) := by decide +kernel
theorem dX11_readsMore_41 : decode cX11_readsMore 41 = .ok (.ifCond .ne 5, 3) := by decide +kernel
theorem dX11_readsMore_44 : decode cX11_readsMore 44 = .ok (.iconst 0, 1) := by decide +kernel
theorem dX11_readsMore_45 : decode cX11_readsMore 45 = .ok (.ireturn, 1) := by decide +kernel
theorem dX11_readsMore_46 : decode cX11_readsMore 46 = .ok (.aload_n 0, 1) := by decide +kernel
theorem dX11_readsMore_47 : decode cX11_readsMore 47 = .ok (.getfield 7, 3) := by decide +kernel
theorem dX11_readsMore_50 : decode cX11_readsMore 50 = .ok (.iload_n 1, 1) := by decide +kernel
theorem dX11_readsMore_51 : decode cX11_readsMore 51 = .ok (.iconst 0, 1) := by decide +kernel
theorem dX11_readsMore_52 : decode cX11_readsMore 52 = .ok (.ldc 131, 2) := by decide +kernel
theorem dX11_readsMore_54 : decode cX11_readsMore 54 = .ok (.aload_n 0, 1) := by decide +kernel
theorem dX11_readsMore_55 : decode cX11_readsMore 55 = .ok (.getfield 7, 3) := by decide +kernel
theorem dX11_readsMore_58 : decode cX11_readsMore 58 = .ok (.iload_n 1, 1) := by decide +kernel
theorem dX11_readsMore_59 : decode cX11_readsMore 59 = .ok (.iaload, 1) := by decide +kernel
theorem dX11_readsMore_60 : decode cX11_readsMore 60 = .ok (.iload_n 2, 1) := by decide +kernel
theorem dX11_readsMore_61 : decode cX11_readsMore 61 = .ok (.bipush 43, 2) := by decide +kernel
theorem dX11_readsMore_63 : decode cX11_readsMore 63 = .ok (.if_icmp .ne 10, 3) := by decide +kernel
theorem dX11_readsMore_66 : decode cX11_readsMore 66 = .ok (.aload_n 0, 1) := by decide +kernel
theorem dX11_readsMore_67 : decode cX11_readsMore 67 = .ok (.getfield 168, 3) := by decide +kernel
theorem dX11_readsMore_70 : decode cX11_readsMore 70 = .ok (.goto 8, 3) := by decide +kernel
theorem dX11_readsMore_73 : decode cX11_readsMore 73 = .ok (.aload_n 0, 1) := by decide +kernel
theorem dX11_readsMore_74 : decode cX11_readsMore 74 = .ok (.getfield 168, 3) := by decide +kernel
theorem dX11_readsMore_77 : decode cX11_readsMore 77 = .ok (.ineg, 1) := by decide +kernel
theorem dX11_readsMore_78 : decode cX11_readsMore 78 = .ok (.iadd, 1) := by decide +kernel
theorem dX11_readsMore_79 : decode cX11_readsMore 79 = .ok (.invokestatic 257, 3) := by decide +kernel
theorem dX11_readsMore_82 : decode cX11_readsMore 82 = .ok (.invokestatic 136, 3) := by decide +kernel
theorem dX11_readsMore_85 : decode cX11_readsMore 85 = .ok (.iastore, 1) := by decide +kernel
theorem dX11_readsMore_86 : decode cX11_readsMore 86 = .ok (.iconst 1, 1) := by decide +kernel
theorem dX11_readsMore_87 : decode cX11_readsMore 87 = .ok (.ireturn, 1) := by decide +kernel
theorem dX11_readsLine_0 : decode cX11_readsLine 0 = .ok (.aload_n 0, 1) := by decide +kernel
theorem dX11_readsLine_1 : decode cX11_readsLine 1 = .ok (.invokevirtual 158, 3) := by decide +kernel
theorem dX11_readsLine_4 : decode cX11_readsLine 4 = .ok (.istore_n 1, 1) := by decide +kernel
theorem dX11_readsLine_5 : decode cX11_readsLine 5 = .ok (.iload_n 1, 1) := by decide +kernel
theorem dX11_readsLine_6 : decode cX11_readsLine 6 = .ok (.bipush 97, 2) := by decide +kernel
theorem dX11_readsLine_8 : decode cX11_readsLine 8 = .ok (.isub, 1) := by decide +kernel
theorem dX11_readsLine_9 : decode cX11_readsLine 9 = .ok (.istore_n 2, 1) := by decide +kernel
theorem dX11_readsLine_10 : decode cX11_readsLine 10 = .ok (.iload_n 1, 1) := by decide +kernel
theorem dX11_readsLine_11 : decode cX11_readsLine 11 = .ok (.bipush 70, 2) := by decide +kernel
theorem dX11_readsLine_13 : decode cX11_readsLine 13 = .ok (.if_icmp .eq 23, 3) := by decide +kernel
theorem dX11_readsLine_16 : decode cX11_readsLine 16 = .ok (.iload_n 2, 1) := by decide +kernel
theorem dX11_readsLine_17 : decode cX11_readsLine 17 = .ok (.iconst 0, 1) := by decide +kernel
theorem dX11_readsLine_18 : decode cX11_readsLine 18 = .ok (.bipush 15, 2) := by decide +kernel
theorem dX11_readsLine_20 : decode cX11_readsLine 20 = .ok (.invokestatic 111, 3) := by decide +kernel
theorem dX11_readsLine_23 : decode cX11_readsLine 23 = .ok (.ifCond .ne 13, 3) := by decide +kernel
theorem dX11_readsLine_26 : decode cX11_readsLine 26 = .ok (.aload_n 0, 1) := by decide +kernel
theorem dX11_readsLine_27 : decode cX11_readsLine 27 = .ok (.iconst 1, 1) := by decide +kernel
theorem dX11_readsLine_28 : decode cX11_readsLine 28 = .ok (.aload_n 0, 1) := by decide +kernel
theorem dX11_readsLine_29 : decode cX11_readsLine 29 = .ok (.getfield 152, 3) := by decide +kernel
theorem dX11_readsLine_32 : decode cX11_readsLine 32 = .ok (.invokevirtual 165, 3) := by decide +kernel
theorem dX11_readsLine_35 : decode cX11_readsLine 35 = .ok (.ireturn, 1) := by decide +kernel
theorem dX11_readsLine_36 : decode cX11_readsLine 36 = .ok (.aload_n 0, 1) := by decide +kernel
theorem dX11_readsLine_37 : decode cX11_readsLine 37 = .ok (.getfield 260, 3) := by decide +kernel
theorem dX11_readsLine_40 : decode cX11_readsLine 40 = .ok (.bipush 20, 2) := by decide +kernel
theorem dX11_readsLine_42 : decode cX11_readsLine 42 = .ok (.if_icmp .ne 13, 3) := by decide +kernel
theorem dX11_readsLine_45 : decode cX11_readsLine 45 = .ok (.aload_n 0, 1) := by decide +kernel
theorem dX11_readsLine_46 : decode cX11_readsLine 46 = .ok (.iconst 4, 1) := by decide +kernel
theorem dX11_readsLine_47 : decode cX11_readsLine 47 = .ok (.aload_n 0, 1) := by decide +kernel
theorem dX11_readsLine_48 : decode cX11_readsLine 48 = .ok (.getfield 152, 3) := by decide +kernel
theorem dX11_readsLine_51 : decode cX11_readsLine 51 = .ok (.invokevirtual 165, 3) := by decide +kernel
theorem dX11_readsLine_54 : decode cX11_readsLine 54 = .ok (.ireturn, 1) := by decide +kernel
theorem dX11_readsLine_55 : decode cX11_readsLine 55 = .ok (.aload_n 0, 1) := by decide +kernel
theorem dX11_readsLine_56 : decode cX11_readsLine 56 = .ok (.aload_n 0, 1) := by decide +kernel
theorem dX11_readsLine_57 : decode cX11_readsLine 57 = .ok (.getfield 260, 3) := by decide +kernel
theorem dX11_readsLine_60 : decode cX11_readsLine 60 = .ok (.iconst 1, 1) := by decide +kernel
theorem dX11_readsLine_61 : decode cX11_readsLine 61 = .ok (.iadd, 1) := by decide +kernel
theorem dX11_readsLine_62 : decode cX11_readsLine 62 = .ok (.putfield 260, 3) := by decide +kernel
theorem dX11_readsLine_65 : decode cX11_readsLine 65 = .ok (.iload_n 1, 1) := by decide +kernel
theorem dX11_readsLine_66 : decode cX11_readsLine 66 = .ok (.bipush 70, 2) := by decide +kernel
theorem dX11_readsLine_68 : decode cX11_readsLine 68 = .ok (.if_icmp .eq 22, 3) := by decide +kernel
theorem dX11_readsLine_71 : decode cX11_readsLine 71 = .ok (.aload_n 0, 1) := by decide +kernel
theorem dX11_readsLine_72 : decode cX11_readsLine 72 = .ok (.iload_n 2, 1) := by decide +kernel
theorem dX11_readsLine_73 : decode cX11_readsLine 73 = .ok (.invokevirtual 119, 3) := by decide +kernel
theorem dX11_readsLine_76 : decode cX11_readsLine 76 = .ok (.ifCond .ne 14, 3) := by decide +kernel
theorem dX11_readsLine_79 : decode cX11_readsLine 79 = .ok (.aload_n 0, 1) := by decide +kernel
theorem dX11_readsLine_80 : decode cX11_readsLine 80 = .ok (.bipush 7, 2) := by decide +kernel
theorem dX11_readsLine_82 : decode cX11_readsLine 82 = .ok (.aload_n 0, 1) := by decide +kernel
theorem dX11_readsLine_83 : decode cX11_readsLine 83 = .ok (.getfield 152, 3) := by decide +kernel
theorem dX11_readsLine_86 : decode cX11_readsLine 86 = .ok (.invokevirtual 165, 3) := by decide +kernel
theorem dX11_readsLine_89 : decode cX11_readsLine 89 = .ok (.ireturn, 1) := by decide +kernel
theorem dX11_readsLine_90 : decode cX11_readsLine 90 = .ok (.aload_n 0, 1) := by decide +kernel
theorem dX11_readsLine_91 : decode cX11_readsLine 91 = .ok (.aload_n 0, 1) := by decide +kernel
theorem dX11_readsLine_92 : decode cX11_readsLine 92 = .ok (.getfield 152, 3) := by decide +kernel
theorem dX11_readsLine_95 : decode cX11_readsLine 95 = .ok (.iconst 1, 1) := by decide +kernel
theorem dX11_readsLine_96 : decode cX11_readsLine 96 = .ok (.iadd, 1) := by decide +kernel
theorem dX11_readsLine_97 : decode cX11_readsLine 97 = .ok (.putfield 152, 3) := by decide +kernel
theorem dX11_readsLine_100 : decode cX11_readsLine 100 = .ok (.iload_n 1, 1) := by decide +kernel
theorem dX11_readsLine_101 : decode cX11_readsLine 101 = .ok (.bipush 70, 2) := by decide +kernel
theorem dX11_readsLine_103 : decode cX11_readsLine 103 = .ok (.if_icmp .ne 11, 3) := by decide +kernel
theorem dX11_readsLine_106 : decode cX11_readsLine 106 = .ok (.aload_n 0, 1) := by decide +kernel
theorem dX11_readsLine_107 : decode cX11_readsLine 107 = .ok (.sipush 388, 3) := by decide +kernel
theorem dX11_readsLine_110 : decode cX11_readsLine 110 = .ok (.invokevirtual 263, 3) := by decide +kernel
theorem dX11_readsLine_113 : decode cX11_readsLine 113 = .ok (.ireturn, 1) := by decide +kernel
theorem dX11_readsLine_114 : decode cX11_readsLine 114 = .ok (.aload_n 0, 1) := by decide +kernel
theorem dX11_readsLine_115 : decode cX11_readsLine 115 = .ok (.invokevirtual 158, 3) := by decide +kernel
theorem dX11_readsLine_118 : decode cX11_readsLine 118 = .ok (.lookupswitch 120 #[(33, 50), (42, 81), (63, 68), (94, 94), (95, 107)], 50) := by decide +kernel
theorem dX11_readsLine_168 : decode cX11_readsLine 168 = .ok (.aload_n 0, 1) := by decide +kernel
theorem dX11_readsLine_169 : decode cX11_readsLine 169 = .ok (.getfield 7, 3) := by decide +kernel
theorem dX11_readsLine_172 : decode cX11_readsLine 172 = .ok (.bipush 48, 2) := by decide +kernel
theorem dX11_readsLine_174 : decode cX11_readsLine 174 = .ok (.iload_n 2, 1) := by decide +kernel
theorem dX11_readsLine_175 : decode cX11_readsLine 175 = .ok (.iadd, 1) := by decide +kernel
theorem dX11_readsLine_176 : decode cX11_readsLine 176 = .ok (.iconst 0, 1) := by decide +kernel
theorem dX11_readsLine_177 : decode cX11_readsLine 177 = .ok (.iastore, 1) := by decide +kernel
theorem dX11_readsLine_178 : decode cX11_readsLine 178 = .ok (.aload_n 0, 1) := by decide +kernel
theorem dX11_readsLine_179 : decode cX11_readsLine 179 = .ok (.iload_n 2, 1) := by decide +kernel
theorem dX11_readsLine_180 : decode cX11_readsLine 180 = .ok (.invokevirtual 127, 3) := by decide +kernel
theorem dX11_readsLine_183 : decode cX11_readsLine 183 = .ok (.goto 64, 3) := by decide +kernel
theorem dX11_readsLine_186 : decode cX11_readsLine 186 = .ok (.aload_n 0, 1) := by decide +kernel
theorem dX11_readsLine_187 : decode cX11_readsLine 187 = .ok (.getfield 7, 3) := by decide +kernel
theorem dX11_readsLine_190 : decode cX11_readsLine 190 = .ok (.bipush 48, 2) := by decide +kernel
theorem dX11_readsLine_192 : decode cX11_readsLine 192 = .ok (.iload_n 2, 1) := by decide +kernel
theorem dX11_readsLine_193 : decode cX11_readsLine 193 = .ok (.iadd, 1) := by decide +kernel
theorem dX11_readsLine_194 : decode cX11_readsLine 194 = .ok (.iconst 1, 1) := by decide +kernel
theorem dX11_readsLine_195 : decode cX11_readsLine 195 = .ok (.iastore, 1) := by decide +kernel
theorem dX11_readsLine_196 : decode cX11_readsLine 196 = .ok (.goto 51, 3) := by decide +kernel
theorem dX11_readsLine_199 : decode cX11_readsLine 199 = .ok (.aload_n 0, 1) := by decide +kernel
theorem dX11_readsLine_200 : decode cX11_readsLine 200 = .ok (.getfield 7, 3) := by decide +kernel
theorem dX11_readsLine_203 : decode cX11_readsLine 203 = .ok (.bipush 32, 2) := by decide +kernel
theorem dX11_readsLine_205 : decode cX11_readsLine 205 = .ok (.iload_n 2, 1) := by decide +kernel
theorem dX11_readsLine_206 : decode cX11_readsLine 206 = .ok (.iadd, 1) := by decide +kernel
theorem dX11_readsLine_207 : decode cX11_readsLine 207 = .ok (.iconst 0, 1) := by decide +kernel
theorem dX11_readsLine_208 : decode cX11_readsLine 208 = .ok (.iastore, 1) := by decide +kernel
theorem dX11_readsLine_209 : decode cX11_readsLine 209 = .ok (.goto 38, 3) := by decide +kernel
theorem dX11_readsLine_212 : decode cX11_readsLine 212 = .ok (.aload_n 0, 1) := by decide +kernel
theorem dX11_readsLine_213 : decode cX11_readsLine 213 = .ok (.getfield 7, 3) := by decide +kernel
theorem dX11_readsLine_216 : decode cX11_readsLine 216 = .ok (.bipush 64, 2) := by decide +kernel
theorem dX11_readsLine_218 : decode cX11_readsLine 218 = .ok (.iload_n 2, 1) := by decide +kernel
theorem dX11_readsLine_219 : decode cX11_readsLine 219 = .ok (.iadd, 1) := by decide +kernel
theorem dX11_readsLine_220 : decode cX11_readsLine 220 = .ok (.iconst 1, 1) := by decide +kernel
theorem dX11_readsLine_221 : decode cX11_readsLine 221 = .ok (.iastore, 1) := by decide +kernel
theorem dX11_readsLine_222 : decode cX11_readsLine 222 = .ok (.goto 25, 3) := by decide +kernel
theorem dX11_readsLine_225 : decode cX11_readsLine 225 = .ok (.aload_n 0, 1) := by decide +kernel
theorem dX11_readsLine_226 : decode cX11_readsLine 226 = .ok (.getfield 7, 3) := by decide +kernel
theorem dX11_readsLine_229 : decode cX11_readsLine 229 = .ok (.bipush 64, 2) := by decide +kernel
theorem dX11_readsLine_231 : decode cX11_readsLine 231 = .ok (.iload_n 2, 1) := by decide +kernel
theorem dX11_readsLine_232 : decode cX11_readsLine 232 = .ok (.iadd, 1) := by decide +kernel
theorem dX11_readsLine_233 : decode cX11_readsLine 233 = .ok (.iconst 0, 1) := by decide +kernel
theorem dX11_readsLine_234 : decode cX11_readsLine 234 = .ok (.iastore, 1) := by decide +kernel
theorem dX11_readsLine_235 : decode cX11_readsLine 235 = .ok (.goto 12, 3) := by decide +kernel
theorem dX11_readsLine_238 : decode cX11_readsLine 238 = .ok (.aload_n 0, 1) := by decide +kernel
theorem dX11_readsLine_239 : decode cX11_readsLine 239 = .ok (.bipush 80, 2) := by decide +kernel
theorem dX11_readsLine_241 : decode cX11_readsLine 241 = .ok (.iload_n 2, 1) := by decide +kernel
theorem dX11_readsLine_242 : decode cX11_readsLine 242 = .ok (.iadd, 1) := by decide +kernel
theorem dX11_readsLine_243 : decode cX11_readsLine 243 = .ok (.invokevirtual 263, 3) := by decide +kernel
theorem dX11_readsLine_246 : decode cX11_readsLine 246 = .ok (.ireturn, 1) := by decide +kernel
theorem dX11_readsLine_247 : decode cX11_readsLine 247 = .ok (.aload_n 0, 1) := by decide +kernel
theorem dX11_readsLine_248 : decode cX11_readsLine 248 = .ok (.aload_n 0, 1) := by decide +kernel
theorem dX11_readsLine_249 : decode cX11_readsLine 249 = .ok (.getfield 152, 3) := by decide +kernel
theorem dX11_readsLine_252 : decode cX11_readsLine 252 = .ok (.iconst 1, 1) := by decide +kernel
theorem dX11_readsLine_253 : decode cX11_readsLine 253 = .ok (.iadd, 1) := by decide +kernel
theorem dX11_readsLine_254 : decode cX11_readsLine 254 = .ok (.putfield 152, 3) := by decide +kernel
theorem dX11_readsLine_257 : decode cX11_readsLine 257 = .ok (.iconst 1, 1) := by decide +kernel
theorem dX11_readsLine_258 : decode cX11_readsLine 258 = .ok (.ireturn, 1) := by decide +kernel
theorem dX11_bill_0 : decode cX11_bill 0 = .ok (.iload_n 1, 1) := by decide +kernel
theorem dX11_bill_1 : decode cX11_bill 1 = .ok (.iconst 1, 1) := by decide +kernel
theorem dX11_bill_2 : decode cX11_bill 2 = .ok (.bipush 120, 2) := by decide +kernel
theorem dX11_bill_4 : decode cX11_bill 4 = .ok (.invokestatic 111, 3) := by decide +kernel
theorem dX11_bill_7 : decode cX11_bill 7 = .ok (.ifCond .eq 11, 3) := by decide +kernel
theorem dX11_bill_10 : decode cX11_bill 10 = .ok (.iload_n 1, 1) := by decide +kernel
theorem dX11_bill_11 : decode cX11_bill 11 = .ok (.aload_n 0, 1) := by decide +kernel
theorem dX11_bill_12 : decode cX11_bill 12 = .ok (.getfield 146, 3) := by decide +kernel
theorem dX11_bill_15 : decode cX11_bill 15 = .ok (.if_icmp .le 5, 3) := by decide +kernel
theorem dX11_bill_18 : decode cX11_bill 18 = .ok (.iconst (-1), 1) := by decide +kernel
theorem dX11_bill_19 : decode cX11_bill 19 = .ok (.ireturn, 1) := by decide +kernel
theorem dX11_bill_20 : decode cX11_bill 20 = .ok (.aload_n 0, 1) := by decide +kernel
theorem dX11_bill_21 : decode cX11_bill 21 = .ok (.iload_n 1, 1) := by decide +kernel
theorem dX11_bill_22 : decode cX11_bill 22 = .ok (.invokevirtual 235, 3) := by decide +kernel
theorem dX11_bill_25 : decode cX11_bill 25 = .ok (.aload_n 0, 1) := by decide +kernel
theorem dX11_bill_26 : decode cX11_bill 26 = .ok (.iconst 0, 1) := by decide +kernel
theorem dX11_bill_27 : decode cX11_bill 27 = .ok (.putfield 260, 3) := by decide +kernel
theorem dX11_bill_30 : decode cX11_bill 30 = .ok (.aload_n 0, 1) := by decide +kernel
theorem dX11_bill_31 : decode cX11_bill 31 = .ok (.getfield 7, 3) := by decide +kernel
theorem dX11_bill_34 : decode cX11_bill 34 = .ok (.aload_n 0, 1) := by decide +kernel
theorem dX11_bill_35 : decode cX11_bill 35 = .ok (.getfield 13, 3) := by decide +kernel
theorem dX11_bill_38 : decode cX11_bill 38 = .ok (.invokestatic 266, 3) := by decide +kernel
theorem dX11_bill_41 : decode cX11_bill 41 = .ok (.aload_n 0, 1) := by decide +kernel
theorem dX11_bill_42 : decode cX11_bill 42 = .ok (.invokevirtual 270, 3) := by decide +kernel
theorem dX11_bill_45 : decode cX11_bill 45 = .ok (.istore_n 2, 1) := by decide +kernel
theorem dX11_bill_46 : decode cX11_bill 46 = .ok (.iload_n 2, 1) := by decide +kernel
theorem dX11_bill_47 : decode cX11_bill 47 = .ok (.ifCond .eq 39, 3) := by decide +kernel
theorem dX11_bill_50 : decode cX11_bill 50 = .ok (.aload_n 0, 1) := by decide +kernel
theorem dX11_bill_51 : decode cX11_bill 51 = .ok (.getfield 152, 3) := by decide +kernel
theorem dX11_bill_54 : decode cX11_bill 54 = .ok (.aload_n 0, 1) := by decide +kernel
theorem dX11_bill_55 : decode cX11_bill 55 = .ok (.getfield 155, 3) := by decide +kernel
theorem dX11_bill_58 : decode cX11_bill 58 = .ok (.if_icmp .ge 28, 3) := by decide +kernel
theorem dX11_bill_61 : decode cX11_bill 61 = .ok (.aload_n 0, 1) := by decide +kernel
theorem dX11_bill_62 : decode cX11_bill 62 = .ok (.bipush 59, 2) := by decide +kernel
theorem dX11_bill_64 : decode cX11_bill 64 = .ok (.invokevirtual 241, 3) := by decide +kernel
theorem dX11_bill_67 : decode cX11_bill 67 = .ok (.ifCond .eq 14, 3) := by decide +kernel
theorem dX11_bill_70 : decode cX11_bill 70 = .ok (.aload_n 0, 1) := by decide +kernel
theorem dX11_bill_71 : decode cX11_bill 71 = .ok (.invokevirtual 270, 3) := by decide +kernel
theorem dX11_bill_74 : decode cX11_bill 74 = .ok (.ifCond .eq 7, 3) := by decide +kernel
theorem dX11_bill_77 : decode cX11_bill 77 = .ok (.iconst 1, 1) := by decide +kernel
theorem dX11_bill_78 : decode cX11_bill 78 = .ok (.goto 4, 3) := by decide +kernel
theorem dX11_bill_81 : decode cX11_bill 81 = .ok (.iconst 0, 1) := by decide +kernel
theorem dX11_bill_82 : decode cX11_bill 82 = .ok (.istore_n 2, 1) := by decide +kernel
theorem dX11_bill_83 : decode cX11_bill 83 = .ok (.goto (-37), 3) := by decide +kernel
theorem dX11_bill_86 : decode cX11_bill 86 = .ok (.aload_n 0, 1) := by decide +kernel
theorem dX11_bill_87 : decode cX11_bill 87 = .ok (.iconst 0, 1) := by decide +kernel
theorem dX11_bill_88 : decode cX11_bill 88 = .ok (.putfield 146, 3) := by decide +kernel
theorem dX11_bill_91 : decode cX11_bill 91 = .ok (.iload_n 2, 1) := by decide +kernel
theorem dX11_bill_92 : decode cX11_bill 92 = .ok (.ifCond .eq 8, 3) := by decide +kernel
theorem dX11_bill_95 : decode cX11_bill 95 = .ok (.aload_n 0, 1) := by decide +kernel
theorem dX11_bill_96 : decode cX11_bill 96 = .ok (.getfield 260, 3) := by decide +kernel
theorem dX11_bill_99 : decode cX11_bill 99 = .ok (.ireturn, 1) := by decide +kernel
theorem dX11_bill_100 : decode cX11_bill 100 = .ok (.aload_n 0, 1) := by decide +kernel
theorem dX11_bill_101 : decode cX11_bill 101 = .ok (.getfield 13, 3) := by decide +kernel
theorem dX11_bill_104 : decode cX11_bill 104 = .ok (.aload_n 0, 1) := by decide +kernel
theorem dX11_bill_105 : decode cX11_bill 105 = .ok (.getfield 7, 3) := by decide +kernel
theorem dX11_bill_108 : decode cX11_bill 108 = .ok (.invokestatic 266, 3) := by decide +kernel
theorem dX11_bill_111 : decode cX11_bill 111 = .ok (.aload_n 0, 1) := by decide +kernel
theorem dX11_bill_112 : decode cX11_bill 112 = .ok (.getfield 162, 3) := by decide +kernel
theorem dX11_bill_115 : decode cX11_bill 115 = .ok (.ireturn, 1) := by decide +kernel
theorem dX11_charges_0 : decode cX11_charges 0 = .ok (.aload_n 0, 1) := by decide +kernel
theorem dX11_charges_1 : decode cX11_charges 1 = .ok (.getfield 108, 3) := by decide +kernel
theorem dX11_charges_4 : decode cX11_charges 4 = .ok (.aload_n 0, 1) := by decide +kernel
theorem dX11_charges_5 : decode cX11_charges 5 = .ok (.getfield 104, 3) := by decide +kernel
theorem dX11_charges_8 : decode cX11_charges 8 = .ok (.aload_n 0, 1) := by decide +kernel
theorem dX11_charges_9 : decode cX11_charges 9 = .ok (.getfield 7, 3) := by decide +kernel
theorem dX11_charges_12 : decode cX11_charges 12 = .ok (.sipush 208, 3) := by decide +kernel
theorem dX11_charges_15 : decode cX11_charges 15 = .ok (.iload_n 1, 1) := by decide +kernel
theorem dX11_charges_16 : decode cX11_charges 16 = .ok (.iadd, 1) := by decide +kernel
theorem dX11_charges_17 : decode cX11_charges 17 = .ok (.iaload, 1) := by decide +kernel
theorem dX11_charges_18 : decode cX11_charges 18 = .ok (.imul, 1) := by decide +kernel
theorem dX11_charges_19 : decode cX11_charges 19 = .ok (.iadd, 1) := by decide +kernel
theorem dX11_charges_20 : decode cX11_charges 20 = .ok (.istore_n 2, 1) := by decide +kernel
theorem dX11_charges_21 : decode cX11_charges 21 = .ok (.aload_n 0, 1) := by decide +kernel
theorem dX11_charges_22 : decode cX11_charges 22 = .ok (.getfield 7, 3) := by decide +kernel
theorem dX11_charges_25 : decode cX11_charges 25 = .ok (.sipush 168, 3) := by decide +kernel
theorem dX11_charges_28 : decode cX11_charges 28 = .ok (.iload_n 1, 1) := by decide +kernel
theorem dX11_charges_29 : decode cX11_charges 29 = .ok (.iadd, 1) := by decide +kernel
theorem dX11_charges_30 : decode cX11_charges 30 = .ok (.iaload, 1) := by decide +kernel
theorem dX11_charges_31 : decode cX11_charges 31 = .ok (.istore_n 3, 1) := by decide +kernel
theorem dX11_charges_32 : decode cX11_charges 32 = .ok (.aload_n 0, 1) := by decide +kernel
theorem dX11_charges_33 : decode cX11_charges 33 = .ok (.getfield 7, 3) := by decide +kernel
theorem dX11_charges_36 : decode cX11_charges 36 = .ok (.bipush 32, 2) := by decide +kernel
theorem dX11_charges_38 : decode cX11_charges 38 = .ok (.iload_n 3, 1) := by decide +kernel
theorem dX11_charges_39 : decode cX11_charges 39 = .ok (.iadd, 1) := by decide +kernel
theorem dX11_charges_40 : decode cX11_charges 40 = .ok (.iaload, 1) := by decide +kernel
theorem dX11_charges_41 : decode cX11_charges 41 = .ok (.iconst 1, 1) := by decide +kernel
theorem dX11_charges_42 : decode cX11_charges 42 = .ok (.if_icmp .ne 31, 3) := by decide +kernel
theorem dX11_charges_45 : decode cX11_charges 45 = .ok (.aload_n 0, 1) := by decide +kernel
theorem dX11_charges_46 : decode cX11_charges 46 = .ok (.getfield 7, 3) := by decide +kernel
theorem dX11_charges_49 : decode cX11_charges 49 = .ok (.bipush 80, 2) := by decide +kernel
theorem dX11_charges_51 : decode cX11_charges 51 = .ok (.iload_n 3, 1) := by decide +kernel
theorem dX11_charges_52 : decode cX11_charges 52 = .ok (.iadd, 1) := by decide +kernel
theorem dX11_charges_53 : decode cX11_charges 53 = .ok (.ldc 131, 2) := by decide +kernel
theorem dX11_charges_55 : decode cX11_charges 55 = .ok (.aload_n 0, 1) := by decide +kernel
theorem dX11_charges_56 : decode cX11_charges 56 = .ok (.getfield 7, 3) := by decide +kernel
theorem dX11_charges_59 : decode cX11_charges 59 = .ok (.bipush 80, 2) := by decide +kernel
theorem dX11_charges_61 : decode cX11_charges 61 = .ok (.iload_n 3, 1) := by decide +kernel
theorem dX11_charges_62 : decode cX11_charges 62 = .ok (.iadd, 1) := by decide +kernel
theorem dX11_charges_63 : decode cX11_charges 63 = .ok (.iaload, 1) := by decide +kernel
theorem dX11_charges_64 : decode cX11_charges 64 = .ok (.iload_n 2, 1) := by decide +kernel
theorem dX11_charges_65 : decode cX11_charges 65 = .ok (.iadd, 1) := by decide +kernel
theorem dX11_charges_66 : decode cX11_charges 66 = .ok (.invokestatic 257, 3) := by decide +kernel
theorem dX11_charges_69 : decode cX11_charges 69 = .ok (.iastore, 1) := by decide +kernel
theorem dX11_charges_70 : decode cX11_charges 70 = .ok (.goto 25, 3) := by decide +kernel
theorem dX11_charges_73 : decode cX11_charges 73 = .ok (.aload_n 0, 1) := by decide +kernel
theorem dX11_charges_74 : decode cX11_charges 74 = .ok (.getfield 7, 3) := by decide +kernel
theorem dX11_charges_77 : decode cX11_charges 77 = .ok (.sipush 388, 3) := by decide +kernel
theorem dX11_charges_80 : decode cX11_charges 80 = .ok (.iconst 0, 1) := by decide +kernel
theorem dX11_charges_81 : decode cX11_charges 81 = .ok (.aload_n 0, 1) := by decide +kernel
theorem dX11_charges_82 : decode cX11_charges 82 = .ok (.getfield 7, 3) := by decide +kernel
theorem dX11_charges_85 : decode cX11_charges 85 = .ok (.sipush 388, 3) := by decide +kernel
theorem dX11_charges_88 : decode cX11_charges 88 = .ok (.iaload, 1) := by decide +kernel
theorem dX11_charges_89 : decode cX11_charges 89 = .ok (.iload_n 2, 1) := by decide +kernel
theorem dX11_charges_90 : decode cX11_charges 90 = .ok (.isub, 1) := by decide +kernel
theorem dX11_charges_91 : decode cX11_charges 91 = .ok (.invokestatic 136, 3) := by decide +kernel
theorem dX11_charges_94 : decode cX11_charges 94 = .ok (.iastore, 1) := by decide +kernel
theorem dX11_charges_95 : decode cX11_charges 95 = .ok (.aload_n 0, 1) := by decide +kernel
theorem dX11_charges_96 : decode cX11_charges 96 = .ok (.getfield 7, 3) := by decide +kernel
theorem dX11_charges_99 : decode cX11_charges 99 = .ok (.sipush 188, 3) := by decide +kernel
theorem dX11_charges_102 : decode cX11_charges 102 = .ok (.iload_n 1, 1) := by decide +kernel
theorem dX11_charges_103 : decode cX11_charges 103 = .ok (.iadd, 1) := by decide +kernel
theorem dX11_charges_104 : decode cX11_charges 104 = .ok (.aload_n 0, 1) := by decide +kernel
theorem dX11_charges_105 : decode cX11_charges 105 = .ok (.getfield 7, 3) := by decide +kernel
theorem dX11_charges_108 : decode cX11_charges 108 = .ok (.sipush 188, 3) := by decide +kernel
theorem dX11_charges_111 : decode cX11_charges 111 = .ok (.iload_n 1, 1) := by decide +kernel
theorem dX11_charges_112 : decode cX11_charges 112 = .ok (.iadd, 1) := by decide +kernel
theorem dX11_charges_113 : decode cX11_charges 113 = .ok (.iaload, 1) := by decide +kernel
theorem dX11_charges_114 : decode cX11_charges 114 = .ok (.iconst 1, 1) := by decide +kernel
theorem dX11_charges_115 : decode cX11_charges 115 = .ok (.isub, 1) := by decide +kernel
theorem dX11_charges_116 : decode cX11_charges 116 = .ok (.iastore, 1) := by decide +kernel
theorem dX11_charges_117 : decode cX11_charges 117 = .ok (.return_, 1) := by decide +kernel
theorem dX11_freePlace_0 : decode cX11_freePlace 0 = .ok (.iconst 0, 1) := by decide +kernel
theorem dX11_freePlace_1 : decode cX11_freePlace 1 = .ok (.istore_n 1, 1) := by decide +kernel
theorem dX11_freePlace_2 : decode cX11_freePlace 2 = .ok (.iload_n 1, 1) := by decide +kernel
theorem dX11_freePlace_3 : decode cX11_freePlace 3 = .ok (.bipush 20, 2) := by decide +kernel
theorem dX11_freePlace_5 : decode cX11_freePlace 5 = .ok (.if_icmp .ge 23, 3) := by decide +kernel
theorem dX11_freePlace_8 : decode cX11_freePlace 8 = .ok (.aload_n 0, 1) := by decide +kernel
theorem dX11_freePlace_9 : decode cX11_freePlace 9 = .ok (.getfield 7, 3) := by decide +kernel
theorem dX11_freePlace_12 : decode cX11_freePlace 12 = .ok (.sipush 188, 3) := by decide +kernel
theorem dX11_freePlace_15 : decode cX11_freePlace 15 = .ok (.iload_n 1, 1) := by decide +kernel
theorem dX11_freePlace_16 : decode cX11_freePlace 16 = .ok (.iadd, 1) := by decide +kernel
theorem dX11_freePlace_17 : decode cX11_freePlace 17 = .ok (.iaload, 1) := by decide +kernel
theorem dX11_freePlace_18 : decode cX11_freePlace 18 = .ok (.ifCond .le 10, 3) := by decide +kernel
theorem dX11_freePlace_21 : decode cX11_freePlace 21 = .ok (.iload_n 1, 1) := by decide +kernel
theorem dX11_freePlace_22 : decode cX11_freePlace 22 = .ok (.iconst 1, 1) := by decide +kernel
theorem dX11_freePlace_23 : decode cX11_freePlace 23 = .ok (.iadd, 1) := by decide +kernel
theorem dX11_freePlace_24 : decode cX11_freePlace 24 = .ok (.istore_n 1, 1) := by decide +kernel
theorem dX11_freePlace_25 : decode cX11_freePlace 25 = .ok (.goto (-23), 3) := by decide +kernel
theorem dX11_freePlace_28 : decode cX11_freePlace 28 = .ok (.iload_n 1, 1) := by decide +kernel
theorem dX11_freePlace_29 : decode cX11_freePlace 29 = .ok (.ireturn, 1) := by decide +kernel
theorem dX11_rings_0 : decode cX11_rings 0 = .ok (.iload_n 1, 1) := by decide +kernel
theorem dX11_rings_1 : decode cX11_rings 1 = .ok (.iload_n 2, 1) := by decide +kernel
theorem dX11_rings_2 : decode cX11_rings 2 = .ok (.if_icmp .eq 11, 3) := by decide +kernel
theorem dX11_rings_5 : decode cX11_rings 5 = .ok (.aload_n 0, 1) := by decide +kernel
theorem dX11_rings_6 : decode cX11_rings 6 = .ok (.iload_n 2, 1) := by decide +kernel
theorem dX11_rings_7 : decode cX11_rings 7 = .ok (.invokevirtual 273, 3) := by decide +kernel
theorem dX11_rings_10 : decode cX11_rings 10 = .ok (.ifCond .ne 7, 3) := by decide +kernel
theorem dX11_rings_13 : decode cX11_rings 13 = .ok (.iconst (-1), 1) := by decide +kernel
theorem dX11_rings_14 : decode cX11_rings 14 = .ok (.goto 25, 3) := by decide +kernel
theorem dX11_rings_17 : decode cX11_rings 17 = .ok (.aload_n 0, 1) := by decide +kernel
theorem dX11_rings_18 : decode cX11_rings 18 = .ok (.aload_n 0, 1) := by decide +kernel
theorem dX11_rings_19 : decode cX11_rings 19 = .ok (.getfield 7, 3) := by decide +kernel
theorem dX11_rings_22 : decode cX11_rings 22 = .ok (.bipush 16, 2) := by decide +kernel
theorem dX11_rings_24 : decode cX11_rings 24 = .ok (.iload_n 1, 1) := by decide +kernel
theorem dX11_rings_25 : decode cX11_rings 25 = .ok (.iadd, 1) := by decide +kernel
theorem dX11_rings_26 : decode cX11_rings 26 = .ok (.iaload, 1) := by decide +kernel
theorem dX11_rings_27 : decode cX11_rings 27 = .ok (.aload_n 0, 1) := by decide +kernel
theorem dX11_rings_28 : decode cX11_rings 28 = .ok (.getfield 7, 3) := by decide +kernel
theorem dX11_rings_31 : decode cX11_rings 31 = .ok (.bipush 16, 2) := by decide +kernel
theorem dX11_rings_33 : decode cX11_rings 33 = .ok (.iload_n 2, 1) := by decide +kernel
theorem dX11_rings_34 : decode cX11_rings 34 = .ok (.iadd, 1) := by decide +kernel
theorem dX11_rings_35 : decode cX11_rings 35 = .ok (.iaload, 1) := by decide +kernel
theorem dX11_rings_36 : decode cX11_rings 36 = .ok (.invokevirtual 276, 3) := by decide +kernel
theorem dX11_rings_39 : decode cX11_rings 39 = .ok (.istore_n 3, 1) := by decide +kernel
theorem dX11_rings_40 : decode cX11_rings 40 = .ok (.aload_n 0, 1) := by decide +kernel
theorem dX11_rings_41 : decode cX11_rings 41 = .ok (.invokevirtual 279, 3) := by decide +kernel
theorem dX11_rings_44 : decode cX11_rings 44 = .ok (.istore 4, 2) := by decide +kernel
theorem dX11_rings_46 : decode cX11_rings 46 = .ok (.iload_n 3, 1) := by decide +kernel
theorem dX11_rings_47 : decode cX11_rings 47 = .ok (.iconst (-1), 1) := by decide +kernel
theorem dX11_rings_48 : decode cX11_rings 48 = .ok (.if_icmp .eq 10, 3) := by decide +kernel
theorem dX11_rings_51 : decode cX11_rings 51 = .ok (.iload 4, 2) := by decide +kernel
theorem dX11_rings_53 : decode cX11_rings 53 = .ok (.bipush 20, 2) := by decide +kernel
theorem dX11_rings_55 : decode cX11_rings 55 = .ok (.if_icmp .ne 14, 3) := by decide +kernel
theorem dX11_rings_58 : decode cX11_rings 58 = .ok (.aload_n 0, 1) := by decide +kernel
theorem dX11_rings_59 : decode cX11_rings 59 = .ok (.aload_n 0, 1) := by decide +kernel
theorem dX11_rings_60 : decode cX11_rings 60 = .ok (.getfield 282, 3) := by decide +kernel
theorem dX11_rings_63 : decode cX11_rings 63 = .ok (.iconst 1, 1) := by decide +kernel
theorem dX11_rings_64 : decode cX11_rings 64 = .ok (.iadd, 1) := by decide +kernel
theorem dX11_rings_65 : decode cX11_rings 65 = .ok (.putfield 282, 3) := by decide +kernel
theorem dX11_rings_68 : decode cX11_rings 68 = .ok (.return_, 1) := by decide +kernel
theorem dX11_rings_69 : decode cX11_rings 69 = .ok (.aload_n 0, 1) := by decide +kernel
theorem dX11_rings_70 : decode cX11_rings 70 = .ok (.iload_n 1, 1) := by decide +kernel
theorem dX11_rings_71 : decode cX11_rings 71 = .ok (.invokevirtual 285, 3) := by decide +kernel
theorem dX11_rings_74 : decode cX11_rings 74 = .ok (.aload_n 0, 1) := by decide +kernel
theorem dX11_rings_75 : decode cX11_rings 75 = .ok (.getfield 71, 3) := by decide +kernel
theorem dX11_rings_78 : decode cX11_rings 78 = .ok (.bipush 7, 2) := by decide +kernel
theorem dX11_rings_80 : decode cX11_rings 80 = .ok (.iload_n 2, 1) := by decide +kernel
theorem dX11_rings_81 : decode cX11_rings 81 = .ok (.iastore, 1) := by decide +kernel
theorem dX11_rings_82 : decode cX11_rings 82 = .ok (.aload_n 0, 1) := by decide +kernel
theorem dX11_rings_83 : decode cX11_rings 83 = .ok (.getfield 71, 3) := by decide +kernel
theorem dX11_rings_86 : decode cX11_rings 86 = .ok (.bipush 8, 2) := by decide +kernel
theorem dX11_rings_88 : decode cX11_rings 88 = .ok (.aload_n 0, 1) := by decide +kernel
theorem dX11_rings_89 : decode cX11_rings 89 = .ok (.getfield 7, 3) := by decide +kernel
theorem dX11_rings_92 : decode cX11_rings 92 = .ok (.bipush 32, 2) := by decide +kernel
theorem dX11_rings_94 : decode cX11_rings 94 = .ok (.iload_n 2, 1) := by decide +kernel
theorem dX11_rings_95 : decode cX11_rings 95 = .ok (.iadd, 1) := by decide +kernel
theorem dX11_rings_96 : decode cX11_rings 96 = .ok (.iaload, 1) := by decide +kernel
theorem dX11_rings_97 : decode cX11_rings 97 = .ok (.iconst 1, 1) := by decide +kernel
theorem dX11_rings_98 : decode cX11_rings 98 = .ok (.if_icmp .ne 7, 3) := by decide +kernel
theorem dX11_rings_101 : decode cX11_rings 101 = .ok (.iconst 0, 1) := by decide +kernel
theorem dX11_rings_102 : decode cX11_rings 102 = .ok (.goto 4, 3) := by decide +kernel
theorem dX11_rings_105 : decode cX11_rings 105 = .ok (.iconst 1, 1) := by decide +kernel
theorem dX11_rings_106 : decode cX11_rings 106 = .ok (.iastore, 1) := by decide +kernel
theorem dX11_rings_107 : decode cX11_rings 107 = .ok (.aload_n 0, 1) := by decide +kernel
theorem dX11_rings_108 : decode cX11_rings 108 = .ok (.getfield 71, 3) := by decide +kernel
theorem dX11_rings_111 : decode cX11_rings 111 = .ok (.bipush 9, 2) := by decide +kernel
theorem dX11_rings_113 : decode cX11_rings 113 = .ok (.iload_n 3, 1) := by decide +kernel
theorem dX11_rings_114 : decode cX11_rings 114 = .ok (.iastore, 1) := by decide +kernel
theorem dX11_rings_115 : decode cX11_rings 115 = .ok (.aload_n 0, 1) := by decide +kernel
theorem dX11_rings_116 : decode cX11_rings 116 = .ok (.bipush 108, 2) := by decide +kernel
theorem dX11_rings_118 : decode cX11_rings 118 = .ok (.bipush 99, 2) := by decide +kernel
theorem dX11_rings_120 : decode cX11_rings 120 = .ok (.invokevirtual 288, 3) := by decide +kernel
theorem dX11_rings_123 : decode cX11_rings 123 = .ok (.istore 5, 2) := by decide +kernel
theorem dX11_rings_125 : decode cX11_rings 125 = .ok (.iload 5, 2) := by decide +kernel
theorem dX11_rings_127 : decode cX11_rings 127 = .ok (.ifCond .ne 4, 3) := by decide +kernel
theorem dX11_rings_130 : decode cX11_rings 130 = .ok (.return_, 1) := by decide +kernel
theorem dX11_rings_131 : decode cX11_rings 131 = .ok (.aload_n 0, 1) := by decide +kernel
theorem dX11_rings_132 : decode cX11_rings 132 = .ok (.getfield 7, 3) := by decide +kernel
theorem dX11_rings_135 : decode cX11_rings 135 = .ok (.sipush 128, 3) := by decide +kernel
theorem dX11_rings_138 : decode cX11_rings 138 = .ok (.iload 4, 2) := by decide +kernel
theorem dX11_rings_140 : decode cX11_rings 140 = .ok (.iadd, 1) := by decide +kernel
theorem dX11_rings_141 : decode cX11_rings 141 = .ok (.iload_n 1, 1) := by decide +kernel
theorem dX11_rings_142 : decode cX11_rings 142 = .ok (.iastore, 1) := by decide +kernel
theorem dX11_rings_143 : decode cX11_rings 143 = .ok (.aload_n 0, 1) := by decide +kernel
theorem dX11_rings_144 : decode cX11_rings 144 = .ok (.getfield 7, 3) := by decide +kernel
theorem dX11_rings_147 : decode cX11_rings 147 = .ok (.sipush 148, 3) := by decide +kernel
theorem dX11_rings_150 : decode cX11_rings 150 = .ok (.iload 4, 2) := by decide +kernel
theorem dX11_rings_152 : decode cX11_rings 152 = .ok (.iadd, 1) := by decide +kernel
theorem dX11_rings_153 : decode cX11_rings 153 = .ok (.iload_n 2, 1) := by decide +kernel
theorem dX11_rings_154 : decode cX11_rings 154 = .ok (.iastore, 1) := by decide +kernel
theorem dX11_rings_155 : decode cX11_rings 155 = .ok (.aload_n 0, 1) := by decide +kernel
theorem dX11_rings_156 : decode cX11_rings 156 = .ok (.getfield 7, 3) := by decide +kernel
theorem dX11_rings_159 : decode cX11_rings 159 = .ok (.sipush 168, 3) := by decide +kernel
theorem dX11_rings_162 : decode cX11_rings 162 = .ok (.iload 4, 2) := by decide +kernel
theorem dX11_rings_164 : decode cX11_rings 164 = .ok (.iadd, 1) := by decide +kernel
theorem dX11_rings_165 : decode cX11_rings 165 = .ok (.aload_n 0, 1) := by decide +kernel
theorem dX11_rings_166 : decode cX11_rings 166 = .ok (.bipush 118, 2) := by decide +kernel
theorem dX11_rings_168 : decode cX11_rings 168 = .ok (.invokevirtual 291, 3) := by decide +kernel
theorem dX11_rings_171 : decode cX11_rings 171 = .ok (.ifCond .eq 7, 3) := by decide +kernel
theorem dX11_rings_174 : decode cX11_rings 174 = .ok (.iload_n 2, 1) := by decide +kernel
theorem dX11_rings_175 : decode cX11_rings 175 = .ok (.goto 4, 3) := by decide +kernel
theorem dX11_rings_178 : decode cX11_rings 178 = .ok (.iload_n 1, 1) := by decide +kernel
theorem dX11_rings_179 : decode cX11_rings 179 = .ok (.iastore, 1) := by decide +kernel
theorem dX11_rings_180 : decode cX11_rings 180 = .ok (.aload_n 0, 1) := by decide +kernel
theorem dX11_rings_181 : decode cX11_rings 181 = .ok (.getfield 7, 3) := by decide +kernel
theorem dX11_rings_184 : decode cX11_rings 184 = .ok (.sipush 188, 3) := by decide +kernel
theorem dX11_rings_187 : decode cX11_rings 187 = .ok (.iload 4, 2) := by decide +kernel
theorem dX11_rings_189 : decode cX11_rings 189 = .ok (.iadd, 1) := by decide +kernel
theorem dX11_rings_190 : decode cX11_rings 190 = .ok (.iload 5, 2) := by decide +kernel
theorem dX11_rings_192 : decode cX11_rings 192 = .ok (.iastore, 1) := by decide +kernel
theorem dX11_rings_193 : decode cX11_rings 193 = .ok (.aload_n 0, 1) := by decide +kernel
theorem dX11_rings_194 : decode cX11_rings 194 = .ok (.getfield 7, 3) := by decide +kernel
theorem dX11_rings_197 : decode cX11_rings 197 = .ok (.sipush 208, 3) := by decide +kernel
theorem dX11_rings_200 : decode cX11_rings 200 = .ok (.iload 4, 2) := by decide +kernel
theorem dX11_rings_202 : decode cX11_rings 202 = .ok (.iadd, 1) := by decide +kernel
theorem dX11_rings_203 : decode cX11_rings 203 = .ok (.iload_n 3, 1) := by decide +kernel
theorem dX11_rings_204 : decode cX11_rings 204 = .ok (.iastore, 1) := by decide +kernel
theorem dX11_rings_205 : decode cX11_rings 205 = .ok (.iconst 0, 1) := by decide +kernel
theorem dX11_rings_206 : decode cX11_rings 206 = .ok (.istore 6, 2) := by decide +kernel
theorem dX11_rings_208 : decode cX11_rings 208 = .ok (.iload 6, 2) := by decide +kernel
theorem dX11_rings_210 : decode cX11_rings 210 = .ok (.iload_n 3, 1) := by decide +kernel
theorem dX11_rings_211 : decode cX11_rings 211 = .ok (.if_icmp .gt 33, 3) := by decide +kernel
theorem dX11_rings_214 : decode cX11_rings 214 = .ok (.aload_n 0, 1) := by decide +kernel
theorem dX11_rings_215 : decode cX11_rings 215 = .ok (.getfield 7, 3) := by decide +kernel
theorem dX11_rings_218 : decode cX11_rings 218 = .ok (.sipush 228, 3) := by decide +kernel
theorem dX11_rings_221 : decode cX11_rings 221 = .ok (.bipush 8, 2) := by decide +kernel
theorem dX11_rings_223 : decode cX11_rings 223 = .ok (.iload 4, 2) := by decide +kernel
theorem dX11_rings_225 : decode cX11_rings 225 = .ok (.imul, 1) := by decide +kernel
theorem dX11_rings_226 : decode cX11_rings 226 = .ok (.iadd, 1) := by decide +kernel
theorem dX11_rings_227 : decode cX11_rings 227 = .ok (.iload 6, 2) := by decide +kernel
theorem dX11_rings_229 : decode cX11_rings 229 = .ok (.iadd, 1) := by decide +kernel
theorem dX11_rings_230 : decode cX11_rings 230 = .ok (.aload_n 0, 1) := by decide +kernel
theorem dX11_rings_231 : decode cX11_rings 231 = .ok (.getfield 28, 3) := by decide +kernel
theorem dX11_rings_234 : decode cX11_rings 234 = .ok (.iload 6, 2) := by decide +kernel
theorem dX11_rings_236 : decode cX11_rings 236 = .ok (.iaload, 1) := by decide +kernel
theorem dX11_rings_237 : decode cX11_rings 237 = .ok (.iastore, 1) := by decide +kernel
theorem dX11_rings_238 : decode cX11_rings 238 = .ok (.iinc 6 1, 3) := by decide +kernel
theorem dX11_rings_241 : decode cX11_rings 241 = .ok (.goto (-33), 3) := by decide +kernel
theorem dX11_rings_244 : decode cX11_rings 244 = .ok (.aload_n 0, 1) := by decide +kernel
theorem dX11_rings_245 : decode cX11_rings 245 = .ok (.getfield 7, 3) := by decide +kernel
theorem dX11_rings_248 : decode cX11_rings 248 = .ok (.bipush 96, 2) := by decide +kernel
theorem dX11_rings_250 : decode cX11_rings 250 = .ok (.iload_n 1, 1) := by decide +kernel
theorem dX11_rings_251 : decode cX11_rings 251 = .ok (.iadd, 1) := by decide +kernel
theorem dX11_rings_252 : decode cX11_rings 252 = .ok (.sipush 9999, 3) := by decide +kernel
theorem dX11_rings_255 : decode cX11_rings 255 = .ok (.aload_n 0, 1) := by decide +kernel
theorem dX11_rings_256 : decode cX11_rings 256 = .ok (.getfield 7, 3) := by decide +kernel
theorem dX11_rings_259 : decode cX11_rings 259 = .ok (.bipush 96, 2) := by decide +kernel
theorem dX11_rings_261 : decode cX11_rings 261 = .ok (.iload_n 1, 1) := by decide +kernel
theorem dX11_rings_262 : decode cX11_rings 262 = .ok (.iadd, 1) := by decide +kernel
theorem dX11_rings_263 : decode cX11_rings 263 = .ok (.iaload, 1) := by decide +kernel
theorem dX11_rings_264 : decode cX11_rings 264 = .ok (.iconst 1, 1) := by decide +kernel
theorem dX11_rings_265 : decode cX11_rings 265 = .ok (.iadd, 1) := by decide +kernel
theorem dX11_rings_266 : decode cX11_rings 266 = .ok (.invokestatic 257, 3) := by decide +kernel
theorem dX11_rings_269 : decode cX11_rings 269 = .ok (.iastore, 1) := by decide +kernel
theorem dX11_rings_270 : decode cX11_rings 270 = .ok (.aload_n 0, 1) := by decide +kernel
theorem dX11_rings_271 : decode cX11_rings 271 = .ok (.getfield 7, 3) := by decide +kernel
theorem dX11_rings_274 : decode cX11_rings 274 = .ok (.bipush 112, 2) := by decide +kernel
theorem dX11_rings_276 : decode cX11_rings 276 = .ok (.iload_n 2, 1) := by decide +kernel
theorem dX11_rings_277 : decode cX11_rings 277 = .ok (.iadd, 1) := by decide +kernel
theorem dX11_rings_278 : decode cX11_rings 278 = .ok (.sipush 9999, 3) := by decide +kernel
theorem dX11_rings_281 : decode cX11_rings 281 = .ok (.aload_n 0, 1) := by decide +kernel
theorem dX11_rings_282 : decode cX11_rings 282 = .ok (.getfield 7, 3) := by decide +kernel
theorem dX11_rings_285 : decode cX11_rings 285 = .ok (.bipush 112, 2) := by decide +kernel
theorem dX11_rings_287 : decode cX11_rings 287 = .ok (.iload_n 2, 1) := by decide +kernel
theorem dX11_rings_288 : decode cX11_rings 288 = .ok (.iadd, 1) := by decide +kernel
theorem dX11_rings_289 : decode cX11_rings 289 = .ok (.iaload, 1) := by decide +kernel
theorem dX11_rings_290 : decode cX11_rings 290 = .ok (.iconst 1, 1) := by decide +kernel
theorem dX11_rings_291 : decode cX11_rings 291 = .ok (.iadd, 1) := by decide +kernel
theorem dX11_rings_292 : decode cX11_rings 292 = .ok (.invokestatic 257, 3) := by decide +kernel
theorem dX11_rings_295 : decode cX11_rings 295 = .ok (.iastore, 1) := by decide +kernel
theorem dX11_rings_296 : decode cX11_rings 296 = .ok (.aload_n 0, 1) := by decide +kernel
theorem dX11_rings_297 : decode cX11_rings 297 = .ok (.aload_n 0, 1) := by decide +kernel
theorem dX11_rings_298 : decode cX11_rings 298 = .ok (.getfield 294, 3) := by decide +kernel
theorem dX11_rings_301 : decode cX11_rings 301 = .ok (.iconst 1, 1) := by decide +kernel
theorem dX11_rings_302 : decode cX11_rings 302 = .ok (.iadd, 1) := by decide +kernel
theorem dX11_rings_303 : decode cX11_rings 303 = .ok (.putfield 294, 3) := by decide +kernel
theorem dX11_rings_306 : decode cX11_rings 306 = .ok (.return_, 1) := by decide +kernel
theorem dX11_turnOf_0 : decode cX11_turnOf 0 = .ok (.aload_n 0, 1) := by decide +kernel
theorem dX11_turnOf_1 : decode cX11_turnOf 1 = .ok (.iload_n 1, 1) := by decide +kernel
theorem dX11_turnOf_2 : decode cX11_turnOf 2 = .ok (.invokevirtual 285, 3) := by decide +kernel
theorem dX11_turnOf_5 : decode cX11_turnOf 5 = .ok (.aload_n 0, 1) := by decide +kernel
theorem dX11_turnOf_6 : decode cX11_turnOf 6 = .ok (.bipush 114, 2) := by decide +kernel
theorem dX11_turnOf_8 : decode cX11_turnOf 8 = .ok (.bipush 10, 2) := by decide +kernel
theorem dX11_turnOf_10 : decode cX11_turnOf 10 = .ok (.invokevirtual 288, 3) := by decide +kernel
theorem dX11_turnOf_13 : decode cX11_turnOf 13 = .ok (.istore_n 2, 1) := by decide +kernel
theorem dX11_turnOf_14 : decode cX11_turnOf 14 = .ok (.aload_n 0, 1) := by decide +kernel
theorem dX11_turnOf_15 : decode cX11_turnOf 15 = .ok (.bipush 119, 2) := by decide +kernel
theorem dX11_turnOf_17 : decode cX11_turnOf 17 = .ok (.bipush 15, 2) := by decide +kernel
theorem dX11_turnOf_19 : decode cX11_turnOf 19 = .ok (.invokevirtual 288, 3) := by decide +kernel
theorem dX11_turnOf_22 : decode cX11_turnOf 22 = .ok (.istore_n 3, 1) := by decide +kernel
theorem dX11_turnOf_23 : decode cX11_turnOf 23 = .ok (.aload_n 0, 1) := by decide +kernel
theorem dX11_turnOf_24 : decode cX11_turnOf 24 = .ok (.getfield 7, 3) := by decide +kernel
theorem dX11_turnOf_27 : decode cX11_turnOf 27 = .ok (.sipush 390, 3) := by decide +kernel
theorem dX11_turnOf_30 : decode cX11_turnOf 30 = .ok (.sipush 25173, 3) := by decide +kernel
theorem dX11_turnOf_33 : decode cX11_turnOf 33 = .ok (.aload_n 0, 1) := by decide +kernel
theorem dX11_turnOf_34 : decode cX11_turnOf 34 = .ok (.getfield 7, 3) := by decide +kernel
theorem dX11_turnOf_37 : decode cX11_turnOf 37 = .ok (.sipush 390, 3) := by decide +kernel
theorem dX11_turnOf_40 : decode cX11_turnOf 40 = .ok (.iaload, 1) := by decide +kernel
theorem dX11_turnOf_41 : decode cX11_turnOf 41 = .ok (.imul, 1) := by decide +kernel
theorem dX11_turnOf_42 : decode cX11_turnOf 42 = .ok (.sipush 13849, 3) := by decide +kernel
theorem dX11_turnOf_45 : decode cX11_turnOf 45 = .ok (.iadd, 1) := by decide +kernel
theorem dX11_turnOf_46 : decode cX11_turnOf 46 = .ok (.ldc_w 297, 3) := by decide +kernel
theorem dX11_turnOf_49 : decode cX11_turnOf 49 = .ok (.irem, 1) := by decide +kernel
theorem dX11_turnOf_50 : decode cX11_turnOf 50 = .ok (.iastore, 1) := by decide +kernel
theorem dX11_turnOf_51 : decode cX11_turnOf 51 = .ok (.aload_n 0, 1) := by decide +kernel
theorem dX11_turnOf_52 : decode cX11_turnOf 52 = .ok (.getfield 7, 3) := by decide +kernel
theorem dX11_turnOf_55 : decode cX11_turnOf 55 = .ok (.sipush 390, 3) := by decide +kernel
theorem dX11_turnOf_58 : decode cX11_turnOf 58 = .ok (.iaload, 1) := by decide +kernel
theorem dX11_turnOf_59 : decode cX11_turnOf 59 = .ok (.bipush 10, 2) := by decide +kernel
theorem dX11_turnOf_61 : decode cX11_turnOf 61 = .ok (.irem, 1) := by decide +kernel
theorem dX11_turnOf_62 : decode cX11_turnOf 62 = .ok (.iload_n 2, 1) := by decide +kernel
theorem dX11_turnOf_63 : decode cX11_turnOf 63 = .ok (.if_icmp .ge 9, 3) := by decide +kernel
theorem dX11_turnOf_66 : decode cX11_turnOf 66 = .ok (.aload_n 0, 1) := by decide +kernel
theorem dX11_turnOf_67 : decode cX11_turnOf 67 = .ok (.iload_n 1, 1) := by decide +kernel
theorem dX11_turnOf_68 : decode cX11_turnOf 68 = .ok (.iload_n 3, 1) := by decide +kernel
theorem dX11_turnOf_69 : decode cX11_turnOf 69 = .ok (.invokevirtual 298, 3) := by decide +kernel
theorem dX11_turnOf_72 : decode cX11_turnOf 72 = .ok (.return_, 1) := by decide +kernel
theorem dX11_mayBeCut_0 : decode cX11_mayBeCut 0 = .ok (.aload_n 0, 1) := by decide +kernel
theorem dX11_mayBeCut_1 : decode cX11_mayBeCut 1 = .ok (.iload_n 1, 1) := by decide +kernel
theorem dX11_mayBeCut_2 : decode cX11_mayBeCut 2 = .ok (.invokevirtual 285, 3) := by decide +kernel
theorem dX11_mayBeCut_5 : decode cX11_mayBeCut 5 = .ok (.aload_n 0, 1) := by decide +kernel
theorem dX11_mayBeCut_6 : decode cX11_mayBeCut 6 = .ok (.bipush 120, 2) := by decide +kernel
theorem dX11_mayBeCut_8 : decode cX11_mayBeCut 8 = .ok (.invokevirtual 291, 3) := by decide +kernel
theorem dX11_mayBeCut_11 : decode cX11_mayBeCut 11 = .ok (.ifCond .ne 4, 3) := by decide +kernel
theorem dX11_mayBeCut_14 : decode cX11_mayBeCut 14 = .ok (.return_, 1) := by decide +kernel
theorem dX11_mayBeCut_15 : decode cX11_mayBeCut 15 = .ok (.aload_n 0, 1) := by decide +kernel
theorem dX11_mayBeCut_16 : decode cX11_mayBeCut 16 = .ok (.getfield 7, 3) := by decide +kernel
theorem dX11_mayBeCut_19 : decode cX11_mayBeCut 19 = .ok (.bipush 48, 2) := by decide +kernel
theorem dX11_mayBeCut_21 : decode cX11_mayBeCut 21 = .ok (.iload_n 1, 1) := by decide +kernel
theorem dX11_mayBeCut_22 : decode cX11_mayBeCut 22 = .ok (.iadd, 1) := by decide +kernel
theorem dX11_mayBeCut_23 : decode cX11_mayBeCut 23 = .ok (.iconst 0, 1) := by decide +kernel
theorem dX11_mayBeCut_24 : decode cX11_mayBeCut 24 = .ok (.iastore, 1) := by decide +kernel
theorem dX11_mayBeCut_25 : decode cX11_mayBeCut 25 = .ok (.aload_n 0, 1) := by decide +kernel
theorem dX11_mayBeCut_26 : decode cX11_mayBeCut 26 = .ok (.iload_n 1, 1) := by decide +kernel
theorem dX11_mayBeCut_27 : decode cX11_mayBeCut 27 = .ok (.invokevirtual 127, 3) := by decide +kernel
theorem dX11_mayBeCut_30 : decode cX11_mayBeCut 30 = .ok (.aload_n 0, 1) := by decide +kernel
theorem dX11_mayBeCut_31 : decode cX11_mayBeCut 31 = .ok (.aload_n 0, 1) := by decide +kernel
theorem dX11_mayBeCut_32 : decode cX11_mayBeCut 32 = .ok (.getfield 301, 3) := by decide +kernel
theorem dX11_mayBeCut_35 : decode cX11_mayBeCut 35 = .ok (.iconst 1, 1) := by decide +kernel
theorem dX11_mayBeCut_36 : decode cX11_mayBeCut 36 = .ok (.iadd, 1) := by decide +kernel
theorem dX11_mayBeCut_37 : decode cX11_mayBeCut 37 = .ok (.putfield 301, 3) := by decide +kernel
theorem dX11_mayBeCut_40 : decode cX11_mayBeCut 40 = .ok (.return_, 1) := by decide +kernel
theorem dX11_minuteGoes_0 : decode cX11_minuteGoes 0 = .ok (.iconst 0, 1) := by decide +kernel
theorem dX11_minuteGoes_1 : decode cX11_minuteGoes 1 = .ok (.istore_n 1, 1) := by decide +kernel
theorem dX11_minuteGoes_2 : decode cX11_minuteGoes 2 = .ok (.iload_n 1, 1) := by decide +kernel
theorem dX11_minuteGoes_3 : decode cX11_minuteGoes 3 = .ok (.bipush 20, 2) := by decide +kernel
theorem dX11_minuteGoes_5 : decode cX11_minuteGoes 5 = .ok (.if_icmp .ge 27, 3) := by decide +kernel
theorem dX11_minuteGoes_8 : decode cX11_minuteGoes 8 = .ok (.aload_n 0, 1) := by decide +kernel
theorem dX11_minuteGoes_9 : decode cX11_minuteGoes 9 = .ok (.getfield 7, 3) := by decide +kernel
theorem dX11_minuteGoes_12 : decode cX11_minuteGoes 12 = .ok (.sipush 188, 3) := by decide +kernel
theorem dX11_minuteGoes_15 : decode cX11_minuteGoes 15 = .ok (.iload_n 1, 1) := by decide +kernel
theorem dX11_minuteGoes_16 : decode cX11_minuteGoes 16 = .ok (.iadd, 1) := by decide +kernel
theorem dX11_minuteGoes_17 : decode cX11_minuteGoes 17 = .ok (.iaload, 1) := by decide +kernel
theorem dX11_minuteGoes_18 : decode cX11_minuteGoes 18 = .ok (.ifCond .le 8, 3) := by decide +kernel
theorem dX11_minuteGoes_21 : decode cX11_minuteGoes 21 = .ok (.aload_n 0, 1) := by decide +kernel
theorem dX11_minuteGoes_22 : decode cX11_minuteGoes 22 = .ok (.iload_n 1, 1) := by decide +kernel
theorem dX11_minuteGoes_23 : decode cX11_minuteGoes 23 = .ok (.invokevirtual 304, 3) := by decide +kernel
theorem dX11_minuteGoes_26 : decode cX11_minuteGoes 26 = .ok (.iinc 1 1, 3) := by decide +kernel
theorem dX11_minuteGoes_29 : decode cX11_minuteGoes 29 = .ok (.goto (-27), 3) := by decide +kernel
theorem dX11_minuteGoes_32 : decode cX11_minuteGoes 32 = .ok (.iconst 0, 1) := by decide +kernel
theorem dX11_minuteGoes_33 : decode cX11_minuteGoes 33 = .ok (.istore_n 1, 1) := by decide +kernel
theorem dX11_minuteGoes_34 : decode cX11_minuteGoes 34 = .ok (.iload_n 1, 1) := by decide +kernel
theorem dX11_minuteGoes_35 : decode cX11_minuteGoes 35 = .ok (.bipush 16, 2) := by decide +kernel
theorem dX11_minuteGoes_37 : decode cX11_minuteGoes 37 = .ok (.if_icmp .ge 22, 3) := by decide +kernel
theorem dX11_minuteGoes_40 : decode cX11_minuteGoes 40 = .ok (.aload_n 0, 1) := by decide +kernel
theorem dX11_minuteGoes_41 : decode cX11_minuteGoes 41 = .ok (.iload_n 1, 1) := by decide +kernel
theorem dX11_minuteGoes_42 : decode cX11_minuteGoes 42 = .ok (.invokevirtual 273, 3) := by decide +kernel
theorem dX11_minuteGoes_45 : decode cX11_minuteGoes 45 = .ok (.ifCond .eq 8, 3) := by decide +kernel
theorem dX11_minuteGoes_48 : decode cX11_minuteGoes 48 = .ok (.aload_n 0, 1) := by decide +kernel
theorem dX11_minuteGoes_49 : decode cX11_minuteGoes 49 = .ok (.iload_n 1, 1) := by decide +kernel
theorem dX11_minuteGoes_50 : decode cX11_minuteGoes 50 = .ok (.invokevirtual 307, 3) := by decide +kernel
theorem dX11_minuteGoes_53 : decode cX11_minuteGoes 53 = .ok (.iinc 1 1, 3) := by decide +kernel
theorem dX11_minuteGoes_56 : decode cX11_minuteGoes 56 = .ok (.goto (-22), 3) := by decide +kernel
theorem dX11_minuteGoes_59 : decode cX11_minuteGoes 59 = .ok (.iconst 0, 1) := by decide +kernel
theorem dX11_minuteGoes_60 : decode cX11_minuteGoes 60 = .ok (.istore_n 1, 1) := by decide +kernel
theorem dX11_minuteGoes_61 : decode cX11_minuteGoes 61 = .ok (.iload_n 1, 1) := by decide +kernel
theorem dX11_minuteGoes_62 : decode cX11_minuteGoes 62 = .ok (.bipush 16, 2) := by decide +kernel
theorem dX11_minuteGoes_64 : decode cX11_minuteGoes 64 = .ok (.if_icmp .ge 35, 3) := by decide +kernel
theorem dX11_minuteGoes_67 : decode cX11_minuteGoes 67 = .ok (.aload_n 0, 1) := by decide +kernel
theorem dX11_minuteGoes_68 : decode cX11_minuteGoes 68 = .ok (.iload_n 1, 1) := by decide +kernel
theorem dX11_minuteGoes_69 : decode cX11_minuteGoes 69 = .ok (.invokevirtual 119, 3) := by decide +kernel
theorem dX11_minuteGoes_72 : decode cX11_minuteGoes 72 = .ok (.ifCond .eq 21, 3) := by decide +kernel
theorem dX11_minuteGoes_75 : decode cX11_minuteGoes 75 = .ok (.aload_n 0, 1) := by decide +kernel
theorem dX11_minuteGoes_76 : decode cX11_minuteGoes 76 = .ok (.getfield 7, 3) := by decide +kernel
theorem dX11_minuteGoes_79 : decode cX11_minuteGoes 79 = .ok (.bipush 48, 2) := by decide +kernel
theorem dX11_minuteGoes_81 : decode cX11_minuteGoes 81 = .ok (.iload_n 1, 1) := by decide +kernel
theorem dX11_minuteGoes_82 : decode cX11_minuteGoes 82 = .ok (.iadd, 1) := by decide +kernel
theorem dX11_minuteGoes_83 : decode cX11_minuteGoes 83 = .ok (.iaload, 1) := by decide +kernel
theorem dX11_minuteGoes_84 : decode cX11_minuteGoes 84 = .ok (.iconst 1, 1) := by decide +kernel
theorem dX11_minuteGoes_85 : decode cX11_minuteGoes 85 = .ok (.if_icmp .ne 8, 3) := by decide +kernel
theorem dX11_minuteGoes_88 : decode cX11_minuteGoes 88 = .ok (.aload_n 0, 1) := by decide +kernel
theorem dX11_minuteGoes_89 : decode cX11_minuteGoes 89 = .ok (.iload_n 1, 1) := by decide +kernel
theorem dX11_minuteGoes_90 : decode cX11_minuteGoes 90 = .ok (.invokevirtual 310, 3) := by decide +kernel
theorem dX11_minuteGoes_93 : decode cX11_minuteGoes 93 = .ok (.iinc 1 1, 3) := by decide +kernel
theorem dX11_minuteGoes_96 : decode cX11_minuteGoes 96 = .ok (.goto (-35), 3) := by decide +kernel
theorem dX11_minuteGoes_99 : decode cX11_minuteGoes 99 = .ok (.aload_n 0, 1) := by decide +kernel
theorem dX11_minuteGoes_100 : decode cX11_minuteGoes 100 = .ok (.getfield 7, 3) := by decide +kernel
theorem dX11_minuteGoes_103 : decode cX11_minuteGoes 103 = .ok (.sipush 389, 3) := by decide +kernel
theorem dX11_minuteGoes_106 : decode cX11_minuteGoes 106 = .ok (.aload_n 0, 1) := by decide +kernel
theorem dX11_minuteGoes_107 : decode cX11_minuteGoes 107 = .ok (.getfield 7, 3) := by decide +kernel
theorem dX11_minuteGoes_110 : decode cX11_minuteGoes 110 = .ok (.sipush 389, 3) := by decide +kernel
theorem dX11_minuteGoes_113 : decode cX11_minuteGoes 113 = .ok (.iaload, 1) := by decide +kernel
theorem dX11_minuteGoes_114 : decode cX11_minuteGoes 114 = .ok (.iconst 1, 1) := by decide +kernel
theorem dX11_minuteGoes_115 : decode cX11_minuteGoes 115 = .ok (.iadd, 1) := by decide +kernel
theorem dX11_minuteGoes_116 : decode cX11_minuteGoes 116 = .ok (.iastore, 1) := by decide +kernel
theorem dX11_minuteGoes_117 : decode cX11_minuteGoes 117 = .ok (.return_, 1) := by decide +kernel
theorem dX11_beginsMinutes_0 : decode cX11_beginsMinutes 0 = .ok (.aload_n 0, 1) := by decide +kernel
theorem dX11_beginsMinutes_1 : decode cX11_beginsMinutes 1 = .ok (.iconst 0, 1) := by decide +kernel
theorem dX11_beginsMinutes_2 : decode cX11_beginsMinutes 2 = .ok (.putfield 294, 3) := by decide +kernel
theorem dX11_beginsMinutes_5 : decode cX11_beginsMinutes 5 = .ok (.aload_n 0, 1) := by decide +kernel
theorem dX11_beginsMinutes_6 : decode cX11_beginsMinutes 6 = .ok (.iconst 0, 1) := by decide +kernel
theorem dX11_beginsMinutes_7 : decode cX11_beginsMinutes 7 = .ok (.putfield 282, 3) := by decide +kernel
theorem dX11_beginsMinutes_10 : decode cX11_beginsMinutes 10 = .ok (.aload_n 0, 1) := by decide +kernel
theorem dX11_beginsMinutes_11 : decode cX11_beginsMinutes 11 = .ok (.iconst 0, 1) := by decide +kernel
theorem dX11_beginsMinutes_12 : decode cX11_beginsMinutes 12 = .ok (.putfield 301, 3) := by decide +kernel
theorem dX11_beginsMinutes_15 : decode cX11_beginsMinutes 15 = .ok (.return_, 1) := by decide +kernel
theorem dX11_minutesGo_0 : decode cX11_minutesGo 0 = .ok (.aload_n 0, 1) := by decide +kernel
theorem dX11_minutesGo_1 : decode cX11_minutesGo 1 = .ok (.invokevirtual 313, 3) := by decide +kernel
theorem dX11_minutesGo_4 : decode cX11_minutesGo 4 = .ok (.iconst 0, 1) := by decide +kernel
theorem dX11_minutesGo_5 : decode cX11_minutesGo 5 = .ok (.istore_n 2, 1) := by decide +kernel
theorem dX11_minutesGo_6 : decode cX11_minutesGo 6 = .ok (.iload_n 2, 1) := by decide +kernel
theorem dX11_minutesGo_7 : decode cX11_minutesGo 7 = .ok (.iload_n 1, 1) := by decide +kernel
theorem dX11_minutesGo_8 : decode cX11_minutesGo 8 = .ok (.if_icmp .ge 27, 3) := by decide +kernel
theorem dX11_minutesGo_11 : decode cX11_minutesGo 11 = .ok (.aload_n 0, 1) := by decide +kernel
theorem dX11_minutesGo_12 : decode cX11_minutesGo 12 = .ok (.getfield 7, 3) := by decide +kernel
theorem dX11_minutesGo_15 : decode cX11_minutesGo 15 = .ok (.sipush 389, 3) := by decide +kernel
theorem dX11_minutesGo_18 : decode cX11_minutesGo 18 = .ok (.iaload, 1) := by decide +kernel
theorem dX11_minutesGo_19 : decode cX11_minutesGo 19 = .ok (.ldc_w 316, 3) := by decide +kernel
theorem dX11_minutesGo_22 : decode cX11_minutesGo 22 = .ok (.if_icmp .ge 13, 3) := by decide +kernel
theorem dX11_minutesGo_25 : decode cX11_minutesGo 25 = .ok (.aload_n 0, 1) := by decide +kernel
theorem dX11_minutesGo_26 : decode cX11_minutesGo 26 = .ok (.invokevirtual 317, 3) := by decide +kernel
theorem dX11_minutesGo_29 : decode cX11_minutesGo 29 = .ok (.iinc 2 1, 3) := by decide +kernel
theorem dX11_minutesGo_32 : decode cX11_minutesGo 32 = .ok (.goto (-26), 3) := by decide +kernel
theorem dX11_minutesGo_35 : decode cX11_minutesGo 35 = .ok (.return_, 1) := by decide +kernel
theorem dX11_minutes_0 : decode cX11_minutes 0 = .ok (.iload_n 1, 1) := by decide +kernel
theorem dX11_minutes_1 : decode cX11_minutes 1 = .ok (.iconst 1, 1) := by decide +kernel
theorem dX11_minutes_2 : decode cX11_minutes 2 = .ok (.sipush 240, 3) := by decide +kernel
theorem dX11_minutes_5 : decode cX11_minutes 5 = .ok (.invokestatic 111, 3) := by decide +kernel
theorem dX11_minutes_8 : decode cX11_minutes 8 = .ok (.ifCond .ne 5, 3) := by decide +kernel
theorem dX11_minutes_11 : decode cX11_minutes 11 = .ok (.iconst (-1), 1) := by decide +kernel
theorem dX11_minutes_12 : decode cX11_minutes 12 = .ok (.ireturn, 1) := by decide +kernel
theorem dX11_minutes_13 : decode cX11_minutes 13 = .ok (.aload_n 0, 1) := by decide +kernel
theorem dX11_minutes_14 : decode cX11_minutes 14 = .ok (.iload_n 1, 1) := by decide +kernel
theorem dX11_minutes_15 : decode cX11_minutes 15 = .ok (.invokevirtual 320, 3) := by decide +kernel
theorem dX11_minutes_18 : decode cX11_minutes 18 = .ok (.aload_n 0, 1) := by decide +kernel
theorem dX11_minutes_19 : decode cX11_minutes 19 = .ok (.getfield 294, 3) := by decide +kernel
theorem dX11_minutes_22 : decode cX11_minutes 22 = .ok (.ireturn, 1) := by decide +kernel
theorem dX11_callsNow_0 : decode cX11_callsNow 0 = .ok (.iconst 0, 1) := by decide +kernel
theorem dX11_callsNow_1 : decode cX11_callsNow 1 = .ok (.istore_n 1, 1) := by decide +kernel
theorem dX11_callsNow_2 : decode cX11_callsNow 2 = .ok (.iconst 0, 1) := by decide +kernel
theorem dX11_callsNow_3 : decode cX11_callsNow 3 = .ok (.istore_n 2, 1) := by decide +kernel
theorem dX11_callsNow_4 : decode cX11_callsNow 4 = .ok (.iload_n 2, 1) := by decide +kernel
theorem dX11_callsNow_5 : decode cX11_callsNow 5 = .ok (.bipush 20, 2) := by decide +kernel
theorem dX11_callsNow_7 : decode cX11_callsNow 7 = .ok (.if_icmp .ge 26, 3) := by decide +kernel
theorem dX11_callsNow_10 : decode cX11_callsNow 10 = .ok (.aload_n 0, 1) := by decide +kernel
theorem dX11_callsNow_11 : decode cX11_callsNow 11 = .ok (.getfield 7, 3) := by decide +kernel
theorem dX11_callsNow_14 : decode cX11_callsNow 14 = .ok (.sipush 188, 3) := by decide +kernel
theorem dX11_callsNow_17 : decode cX11_callsNow 17 = .ok (.iload_n 2, 1) := by decide +kernel
theorem dX11_callsNow_18 : decode cX11_callsNow 18 = .ok (.iadd, 1) := by decide +kernel
theorem dX11_callsNow_19 : decode cX11_callsNow 19 = .ok (.iaload, 1) := by decide +kernel
theorem dX11_callsNow_20 : decode cX11_callsNow 20 = .ok (.ifCond .le 7, 3) := by decide +kernel
theorem dX11_callsNow_23 : decode cX11_callsNow 23 = .ok (.iload_n 1, 1) := by decide +kernel
theorem dX11_callsNow_24 : decode cX11_callsNow 24 = .ok (.iconst 1, 1) := by decide +kernel
theorem dX11_callsNow_25 : decode cX11_callsNow 25 = .ok (.iadd, 1) := by decide +kernel
theorem dX11_callsNow_26 : decode cX11_callsNow 26 = .ok (.istore_n 1, 1) := by decide +kernel
theorem dX11_callsNow_27 : decode cX11_callsNow 27 = .ok (.iinc 2 1, 3) := by decide +kernel
theorem dX11_callsNow_30 : decode cX11_callsNow 30 = .ok (.goto (-26), 3) := by decide +kernel
theorem dX11_callsNow_33 : decode cX11_callsNow 33 = .ok (.iload_n 1, 1) := by decide +kernel
theorem dX11_callsNow_34 : decode cX11_callsNow 34 = .ok (.ireturn, 1) := by decide +kernel
theorem dX11_tried_0 : decode cX11_tried 0 = .ok (.iload_n 1, 1) := by decide +kernel
theorem dX11_tried_1 : decode cX11_tried 1 = .ok (.iconst 1, 1) := by decide +kernel
theorem dX11_tried_2 : decode cX11_tried 2 = .ok (.sipush 240, 3) := by decide +kernel
theorem dX11_tried_5 : decode cX11_tried 5 = .ok (.invokestatic 111, 3) := by decide +kernel
theorem dX11_tried_8 : decode cX11_tried 8 = .ok (.ifCond .eq 23, 3) := by decide +kernel
theorem dX11_tried_11 : decode cX11_tried 11 = .ok (.iload_n 2, 1) := by decide +kernel
theorem dX11_tried_12 : decode cX11_tried 12 = .ok (.iconst 0, 1) := by decide +kernel
theorem dX11_tried_13 : decode cX11_tried 13 = .ok (.iconst 4, 1) := by decide +kernel
theorem dX11_tried_14 : decode cX11_tried 14 = .ok (.invokestatic 111, 3) := by decide +kernel
theorem dX11_tried_17 : decode cX11_tried 17 = .ok (.ifCond .ne 16, 3) := by decide +kernel
theorem dX11_tried_20 : decode cX11_tried 20 = .ok (.aload_n 0, 1) := by decide +kernel
theorem dX11_tried_21 : decode cX11_tried 21 = .ok (.iload_n 2, 1) := by decide +kernel
theorem dX11_tried_22 : decode cX11_tried 22 = .ok (.bipush 100, 2) := by decide +kernel
theorem dX11_tried_24 : decode cX11_tried 24 = .ok (.isub, 1) := by decide +kernel
theorem dX11_tried_25 : decode cX11_tried 25 = .ok (.invokevirtual 119, 3) := by decide +kernel
theorem dX11_tried_28 : decode cX11_tried 28 = .ok (.ifCond .ne 5, 3) := by decide +kernel
theorem dX11_tried_31 : decode cX11_tried 31 = .ok (.iconst (-1), 1) := by decide +kernel
theorem dX11_tried_32 : decode cX11_tried 32 = .ok (.ireturn, 1) := by decide +kernel
theorem dX11_tried_33 : decode cX11_tried 33 = .ok (.aload_n 0, 1) := by decide +kernel
theorem dX11_tried_34 : decode cX11_tried 34 = .ok (.getfield 7, 3) := by decide +kernel
theorem dX11_tried_37 : decode cX11_tried 37 = .ok (.aload_n 0, 1) := by decide +kernel
theorem dX11_tried_38 : decode cX11_tried 38 = .ok (.getfield 13, 3) := by decide +kernel
theorem dX11_tried_41 : decode cX11_tried 41 = .ok (.invokestatic 266, 3) := by decide +kernel
theorem dX11_tried_44 : decode cX11_tried 44 = .ok (.aload_n 0, 1) := by decide +kernel
theorem dX11_tried_45 : decode cX11_tried 45 = .ok (.iload_n 1, 1) := by decide +kernel
theorem dX11_tried_46 : decode cX11_tried 46 = .ok (.invokevirtual 320, 3) := by decide +kernel
theorem dX11_tried_49 : decode cX11_tried 49 = .ok (.iload_n 2, 1) := by decide +kernel
theorem dX11_tried_50 : decode cX11_tried 50 = .ok (.tableswitch 87 0 4 #[34, 42, 50, 71, 79], 34) := by decide +kernel
theorem dX11_tried_84 : decode cX11_tried 84 = .ok (.aload_n 0, 1) := by decide +kernel
theorem dX11_tried_85 : decode cX11_tried 85 = .ok (.getfield 294, 3) := by decide +kernel
theorem dX11_tried_88 : decode cX11_tried 88 = .ok (.istore_n 3, 1) := by decide +kernel
theorem dX11_tried_89 : decode cX11_tried 89 = .ok (.goto 61, 3) := by decide +kernel
theorem dX11_tried_92 : decode cX11_tried 92 = .ok (.aload_n 0, 1) := by decide +kernel
theorem dX11_tried_93 : decode cX11_tried 93 = .ok (.getfield 282, 3) := by decide +kernel
theorem dX11_tried_96 : decode cX11_tried 96 = .ok (.istore_n 3, 1) := by decide +kernel
theorem dX11_tried_97 : decode cX11_tried 97 = .ok (.goto 53, 3) := by decide +kernel
theorem dX11_tried_100 : decode cX11_tried 100 = .ok (.aload_n 0, 1) := by decide +kernel
theorem dX11_tried_101 : decode cX11_tried 101 = .ok (.getfield 13, 3) := by decide +kernel
theorem dX11_tried_104 : decode cX11_tried 104 = .ok (.sipush 388, 3) := by decide +kernel
theorem dX11_tried_107 : decode cX11_tried 107 = .ok (.iaload, 1) := by decide +kernel
theorem dX11_tried_108 : decode cX11_tried 108 = .ok (.aload_n 0, 1) := by decide +kernel
theorem dX11_tried_109 : decode cX11_tried 109 = .ok (.getfield 7, 3) := by decide +kernel
theorem dX11_tried_112 : decode cX11_tried 112 = .ok (.sipush 388, 3) := by decide +kernel
theorem dX11_tried_115 : decode cX11_tried 115 = .ok (.iaload, 1) := by decide +kernel
theorem dX11_tried_116 : decode cX11_tried 116 = .ok (.isub, 1) := by decide +kernel
theorem dX11_tried_117 : decode cX11_tried 117 = .ok (.istore_n 3, 1) := by decide +kernel
theorem dX11_tried_118 : decode cX11_tried 118 = .ok (.goto 32, 3) := by decide +kernel
theorem dX11_tried_121 : decode cX11_tried 121 = .ok (.aload_n 0, 1) := by decide +kernel
theorem dX11_tried_122 : decode cX11_tried 122 = .ok (.getfield 301, 3) := by decide +kernel
theorem dX11_tried_125 : decode cX11_tried 125 = .ok (.istore_n 3, 1) := by decide +kernel
theorem dX11_tried_126 : decode cX11_tried 126 = .ok (.goto 24, 3) := by decide +kernel
theorem dX11_tried_129 : decode cX11_tried 129 = .ok (.aload_n 0, 1) := by decide +kernel
theorem dX11_tried_130 : decode cX11_tried 130 = .ok (.invokevirtual 323, 3) := by decide +kernel
theorem dX11_tried_133 : decode cX11_tried 133 = .ok (.istore_n 3, 1) := by decide +kernel
theorem dX11_tried_134 : decode cX11_tried 134 = .ok (.goto 16, 3) := by decide +kernel
theorem dX11_tried_137 : decode cX11_tried 137 = .ok (.aload_n 0, 1) := by decide +kernel
theorem dX11_tried_138 : decode cX11_tried 138 = .ok (.getfield 7, 3) := by decide +kernel
theorem dX11_tried_141 : decode cX11_tried 141 = .ok (.bipush 80, 2) := by decide +kernel
theorem dX11_tried_143 : decode cX11_tried 143 = .ok (.iload_n 2, 1) := by decide +kernel
theorem dX11_tried_144 : decode cX11_tried 144 = .ok (.iadd, 1) := by decide +kernel
theorem dX11_tried_145 : decode cX11_tried 145 = .ok (.bipush 100, 2) := by decide +kernel
theorem dX11_tried_147 : decode cX11_tried 147 = .ok (.isub, 1) := by decide +kernel
theorem dX11_tried_148 : decode cX11_tried 148 = .ok (.iaload, 1) := by decide +kernel
theorem dX11_tried_149 : decode cX11_tried 149 = .ok (.istore_n 3, 1) := by decide +kernel
theorem dX11_tried_150 : decode cX11_tried 150 = .ok (.aload_n 0, 1) := by decide +kernel
theorem dX11_tried_151 : decode cX11_tried 151 = .ok (.getfield 13, 3) := by decide +kernel
theorem dX11_tried_154 : decode cX11_tried 154 = .ok (.aload_n 0, 1) := by decide +kernel
theorem dX11_tried_155 : decode cX11_tried 155 = .ok (.getfield 7, 3) := by decide +kernel
theorem dX11_tried_158 : decode cX11_tried 158 = .ok (.invokestatic 266, 3) := by decide +kernel
theorem dX11_tried_161 : decode cX11_tried 161 = .ok (.iload_n 3, 1) := by decide +kernel
theorem dX11_tried_162 : decode cX11_tried 162 = .ok (.ireturn, 1) := by decide +kernel
theorem dX11_talksWith_0 : decode cX11_talksWith 0 = .ok (.aload_n 0, 1) := by decide +kernel
theorem dX11_talksWith_1 : decode cX11_talksWith 1 = .ok (.iload_n 1, 1) := by decide +kernel
theorem dX11_talksWith_2 : decode cX11_talksWith 2 = .ok (.invokevirtual 115, 3) := by decide +kernel
theorem dX11_talksWith_5 : decode cX11_talksWith 5 = .ok (.istore_n 2, 1) := by decide +kernel
theorem dX11_talksWith_6 : decode cX11_talksWith 6 = .ok (.iload_n 2, 1) := by decide +kernel
theorem dX11_talksWith_7 : decode cX11_talksWith 7 = .ok (.iconst (-1), 1) := by decide +kernel
theorem dX11_talksWith_8 : decode cX11_talksWith 8 = .ok (.if_icmp .ne 6, 3) := by decide +kernel
theorem dX11_talksWith_11 : decode cX11_talksWith 11 = .ok (.bipush (-2), 2) := by decide +kernel
theorem dX11_talksWith_13 : decode cX11_talksWith 13 = .ok (.ireturn, 1) := by decide +kernel
theorem dX11_talksWith_14 : decode cX11_talksWith 14 = .ok (.aload_n 0, 1) := by decide +kernel
theorem dX11_talksWith_15 : decode cX11_talksWith 15 = .ok (.getfield 7, 3) := by decide +kernel
theorem dX11_talksWith_18 : decode cX11_talksWith 18 = .ok (.sipush 128, 3) := by decide +kernel
theorem dX11_talksWith_21 : decode cX11_talksWith 21 = .ok (.iload_n 2, 1) := by decide +kernel
theorem dX11_talksWith_22 : decode cX11_talksWith 22 = .ok (.iadd, 1) := by decide +kernel
theorem dX11_talksWith_23 : decode cX11_talksWith 23 = .ok (.iaload, 1) := by decide +kernel
theorem dX11_talksWith_24 : decode cX11_talksWith 24 = .ok (.iload_n 1, 1) := by decide +kernel
theorem dX11_talksWith_25 : decode cX11_talksWith 25 = .ok (.if_icmp .ne 16, 3) := by decide +kernel
theorem dX11_talksWith_28 : decode cX11_talksWith 28 = .ok (.aload_n 0, 1) := by decide +kernel
theorem dX11_talksWith_29 : decode cX11_talksWith 29 = .ok (.getfield 7, 3) := by decide +kernel
theorem dX11_talksWith_32 : decode cX11_talksWith 32 = .ok (.sipush 148, 3) := by decide +kernel
theorem dX11_talksWith_35 : decode cX11_talksWith 35 = .ok (.iload_n 2, 1) := by decide +kernel
theorem dX11_talksWith_36 : decode cX11_talksWith 36 = .ok (.iadd, 1) := by decide +kernel
theorem dX11_talksWith_37 : decode cX11_talksWith 37 = .ok (.iaload, 1) := by decide +kernel
theorem dX11_talksWith_38 : decode cX11_talksWith 38 = .ok (.goto 13, 3) := by decide +kernel
theorem dX11_talksWith_41 : decode cX11_talksWith 41 = .ok (.aload_n 0, 1) := by decide +kernel
theorem dX11_talksWith_42 : decode cX11_talksWith 42 = .ok (.getfield 7, 3) := by decide +kernel
theorem dX11_talksWith_45 : decode cX11_talksWith 45 = .ok (.sipush 128, 3) := by decide +kernel
theorem dX11_talksWith_48 : decode cX11_talksWith 48 = .ok (.iload_n 2, 1) := by decide +kernel
theorem dX11_talksWith_49 : decode cX11_talksWith 49 = .ok (.iadd, 1) := by decide +kernel
theorem dX11_talksWith_50 : decode cX11_talksWith 50 = .ok (.iaload, 1) := by decide +kernel
theorem dX11_talksWith_51 : decode cX11_talksWith 51 = .ok (.ireturn, 1) := by decide +kernel
theorem dX11_subscriberIs_0 : decode cX11_subscriberIs 0 = .ok (.aload_n 0, 1) := by decide +kernel
theorem dX11_subscriberIs_1 : decode cX11_subscriberIs 1 = .ok (.iload_n 1, 1) := by decide +kernel
theorem dX11_subscriberIs_2 : decode cX11_subscriberIs 2 = .ok (.invokevirtual 119, 3) := by decide +kernel
theorem dX11_subscriberIs_5 : decode cX11_subscriberIs 5 = .ok (.ifCond .ne 5, 3) := by decide +kernel
theorem dX11_subscriberIs_8 : decode cX11_subscriberIs 8 = .ok (.iconst (-1), 1) := by decide +kernel
theorem dX11_subscriberIs_9 : decode cX11_subscriberIs 9 = .ok (.ireturn, 1) := by decide +kernel
theorem dX11_subscriberIs_10 : decode cX11_subscriberIs 10 = .ok (.iload_n 2, 1) := by decide +kernel
theorem dX11_subscriberIs_11 : decode cX11_subscriberIs 11 = .ok (.tableswitch 121 0 7 #[45, 55, 65, 75, 85, 95, 101, 111], 45) := by decide +kernel
theorem dX11_subscriberIs_56 : decode cX11_subscriberIs 56 = .ok (.aload_n 0, 1) := by decide +kernel
theorem dX11_subscriberIs_57 : decode cX11_subscriberIs 57 = .ok (.getfield 7, 3) := by decide +kernel
theorem dX11_subscriberIs_60 : decode cX11_subscriberIs 60 = .ok (.bipush 16, 2) := by decide +kernel
theorem dX11_subscriberIs_62 : decode cX11_subscriberIs 62 = .ok (.iload_n 1, 1) := by decide +kernel
theorem dX11_subscriberIs_63 : decode cX11_subscriberIs 63 = .ok (.iadd, 1) := by decide +kernel
theorem dX11_subscriberIs_64 : decode cX11_subscriberIs 64 = .ok (.iaload, 1) := by decide +kernel
theorem dX11_subscriberIs_65 : decode cX11_subscriberIs 65 = .ok (.ireturn, 1) := by decide +kernel
theorem dX11_subscriberIs_66 : decode cX11_subscriberIs 66 = .ok (.aload_n 0, 1) := by decide +kernel
theorem dX11_subscriberIs_67 : decode cX11_subscriberIs 67 = .ok (.getfield 7, 3) := by decide +kernel
theorem dX11_subscriberIs_70 : decode cX11_subscriberIs 70 = .ok (.bipush 32, 2) := by decide +kernel
theorem dX11_subscriberIs_72 : decode cX11_subscriberIs 72 = .ok (.iload_n 1, 1) := by decide +kernel
theorem dX11_subscriberIs_73 : decode cX11_subscriberIs 73 = .ok (.iadd, 1) := by decide +kernel
theorem dX11_subscriberIs_74 : decode cX11_subscriberIs 74 = .ok (.iaload, 1) := by decide +kernel
theorem dX11_subscriberIs_75 : decode cX11_subscriberIs 75 = .ok (.ireturn, 1) := by decide +kernel
theorem dX11_subscriberIs_76 : decode cX11_subscriberIs 76 = .ok (.aload_n 0, 1) := by decide +kernel
theorem dX11_subscriberIs_77 : decode cX11_subscriberIs 77 = .ok (.getfield 7, 3) := by decide +kernel
theorem dX11_subscriberIs_80 : decode cX11_subscriberIs 80 = .ok (.bipush 48, 2) := by decide +kernel
theorem dX11_subscriberIs_82 : decode cX11_subscriberIs 82 = .ok (.iload_n 1, 1) := by decide +kernel
theorem dX11_subscriberIs_83 : decode cX11_subscriberIs 83 = .ok (.iadd, 1) := by decide +kernel
theorem dX11_subscriberIs_84 : decode cX11_subscriberIs 84 = .ok (.iaload, 1) := by decide +kernel
theorem dX11_subscriberIs_85 : decode cX11_subscriberIs 85 = .ok (.ireturn, 1) := by decide +kernel
theorem dX11_subscriberIs_86 : decode cX11_subscriberIs 86 = .ok (.aload_n 0, 1) := by decide +kernel
theorem dX11_subscriberIs_87 : decode cX11_subscriberIs 87 = .ok (.getfield 7, 3) := by decide +kernel
theorem dX11_subscriberIs_90 : decode cX11_subscriberIs 90 = .ok (.bipush 64, 2) := by decide +kernel
theorem dX11_subscriberIs_92 : decode cX11_subscriberIs 92 = .ok (.iload_n 1, 1) := by decide +kernel
theorem dX11_subscriberIs_93 : decode cX11_subscriberIs 93 = .ok (.iadd, 1) := by decide +kernel
theorem dX11_subscriberIs_94 : decode cX11_subscriberIs 94 = .ok (.iaload, 1) := by decide +kernel
theorem dX11_subscriberIs_95 : decode cX11_subscriberIs 95 = .ok (.ireturn, 1) := by decide +kernel
theorem dX11_subscriberIs_96 : decode cX11_subscriberIs 96 = .ok (.aload_n 0, 1) := by decide +kernel
theorem dX11_subscriberIs_97 : decode cX11_subscriberIs 97 = .ok (.getfield 7, 3) := by decide +kernel
theorem dX11_subscriberIs_100 : decode cX11_subscriberIs 100 = .ok (.bipush 80, 2) := by decide +kernel
theorem dX11_subscriberIs_102 : decode cX11_subscriberIs 102 = .ok (.iload_n 1, 1) := by decide +kernel
theorem dX11_subscriberIs_103 : decode cX11_subscriberIs 103 = .ok (.iadd, 1) := by decide +kernel
theorem dX11_subscriberIs_104 : decode cX11_subscriberIs 104 = .ok (.iaload, 1) := by decide +kernel
theorem dX11_subscriberIs_105 : decode cX11_subscriberIs 105 = .ok (.ireturn, 1) := by decide +kernel
theorem dX11_subscriberIs_106 : decode cX11_subscriberIs 106 = .ok (.aload_n 0, 1) := by decide +kernel
theorem dX11_subscriberIs_107 : decode cX11_subscriberIs 107 = .ok (.iload_n 1, 1) := by decide +kernel
theorem dX11_subscriberIs_108 : decode cX11_subscriberIs 108 = .ok (.invokevirtual 326, 3) := by decide +kernel
theorem dX11_subscriberIs_111 : decode cX11_subscriberIs 111 = .ok (.ireturn, 1) := by decide +kernel
theorem dX11_subscriberIs_112 : decode cX11_subscriberIs 112 = .ok (.aload_n 0, 1) := by decide +kernel
theorem dX11_subscriberIs_113 : decode cX11_subscriberIs 113 = .ok (.getfield 7, 3) := by decide +kernel
theorem dX11_subscriberIs_116 : decode cX11_subscriberIs 116 = .ok (.bipush 96, 2) := by decide +kernel
theorem dX11_subscriberIs_118 : decode cX11_subscriberIs 118 = .ok (.iload_n 1, 1) := by decide +kernel
theorem dX11_subscriberIs_119 : decode cX11_subscriberIs 119 = .ok (.iadd, 1) := by decide +kernel
theorem dX11_subscriberIs_120 : decode cX11_subscriberIs 120 = .ok (.iaload, 1) := by decide +kernel
theorem dX11_subscriberIs_121 : decode cX11_subscriberIs 121 = .ok (.ireturn, 1) := by decide +kernel
theorem dX11_subscriberIs_122 : decode cX11_subscriberIs 122 = .ok (.aload_n 0, 1) := by decide +kernel
theorem dX11_subscriberIs_123 : decode cX11_subscriberIs 123 = .ok (.getfield 7, 3) := by decide +kernel
theorem dX11_subscriberIs_126 : decode cX11_subscriberIs 126 = .ok (.bipush 112, 2) := by decide +kernel
theorem dX11_subscriberIs_128 : decode cX11_subscriberIs 128 = .ok (.iload_n 1, 1) := by decide +kernel
theorem dX11_subscriberIs_129 : decode cX11_subscriberIs 129 = .ok (.iadd, 1) := by decide +kernel
theorem dX11_subscriberIs_130 : decode cX11_subscriberIs 130 = .ok (.iaload, 1) := by decide +kernel
theorem dX11_subscriberIs_131 : decode cX11_subscriberIs 131 = .ok (.ireturn, 1) := by decide +kernel
theorem dX11_subscriberIs_132 : decode cX11_subscriberIs 132 = .ok (.iconst (-1), 1) := by decide +kernel
theorem dX11_subscriberIs_133 : decode cX11_subscriberIs 133 = .ok (.ireturn, 1) := by decide +kernel
theorem dX11_callIs_0 : decode cX11_callIs 0 = .ok (.iload_n 1, 1) := by decide +kernel
theorem dX11_callIs_1 : decode cX11_callIs 1 = .ok (.iconst 0, 1) := by decide +kernel
theorem dX11_callIs_2 : decode cX11_callIs 2 = .ok (.bipush 19, 2) := by decide +kernel
theorem dX11_callIs_4 : decode cX11_callIs 4 = .ok (.invokestatic 111, 3) := by decide +kernel
theorem dX11_callIs_7 : decode cX11_callIs 7 = .ok (.ifCond .eq 12, 3) := by decide +kernel
theorem dX11_callIs_10 : decode cX11_callIs 10 = .ok (.iload_n 2, 1) := by decide +kernel
theorem dX11_callIs_11 : decode cX11_callIs 11 = .ok (.iconst 0, 1) := by decide +kernel
theorem dX11_callIs_12 : decode cX11_callIs 12 = .ok (.iconst 4, 1) := by decide +kernel
theorem dX11_callIs_13 : decode cX11_callIs 13 = .ok (.invokestatic 111, 3) := by decide +kernel
theorem dX11_callIs_16 : decode cX11_callIs 16 = .ok (.ifCond .ne 5, 3) := by decide +kernel
theorem dX11_callIs_19 : decode cX11_callIs 19 = .ok (.iconst (-1), 1) := by decide +kernel
theorem dX11_callIs_20 : decode cX11_callIs 20 = .ok (.ireturn, 1) := by decide +kernel
theorem dX11_callIs_21 : decode cX11_callIs 21 = .ok (.aload_n 0, 1) := by decide +kernel
theorem dX11_callIs_22 : decode cX11_callIs 22 = .ok (.getfield 7, 3) := by decide +kernel
theorem dX11_callIs_25 : decode cX11_callIs 25 = .ok (.sipush 188, 3) := by decide +kernel
theorem dX11_callIs_28 : decode cX11_callIs 28 = .ok (.iload_n 1, 1) := by decide +kernel
theorem dX11_callIs_29 : decode cX11_callIs 29 = .ok (.iadd, 1) := by decide +kernel
theorem dX11_callIs_30 : decode cX11_callIs 30 = .ok (.iaload, 1) := by decide +kernel
theorem dX11_callIs_31 : decode cX11_callIs 31 = .ok (.ifCond .ne 8, 3) := by decide +kernel
theorem dX11_callIs_34 : decode cX11_callIs 34 = .ok (.bipush (-2), 2) := by decide +kernel
theorem dX11_callIs_36 : decode cX11_callIs 36 = .ok (.goto 18, 3) := by decide +kernel
theorem dX11_callIs_39 : decode cX11_callIs 39 = .ok (.aload_n 0, 1) := by decide +kernel
theorem dX11_callIs_40 : decode cX11_callIs 40 = .ok (.getfield 7, 3) := by decide +kernel
theorem dX11_callIs_43 : decode cX11_callIs 43 = .ok (.sipush 128, 3) := by decide +kernel
theorem dX11_callIs_46 : decode cX11_callIs 46 = .ok (.bipush 20, 2) := by decide +kernel
theorem dX11_callIs_48 : decode cX11_callIs 48 = .ok (.iload_n 2, 1) := by decide +kernel
theorem dX11_callIs_49 : decode cX11_callIs 49 = .ok (.imul, 1) := by decide +kernel
theorem dX11_callIs_50 : decode cX11_callIs 50 = .ok (.iadd, 1) := by decide +kernel
theorem dX11_callIs_51 : decode cX11_callIs 51 = .ok (.iload_n 1, 1) := by decide +kernel
theorem dX11_callIs_52 : decode cX11_callIs 52 = .ok (.iadd, 1) := by decide +kernel
theorem dX11_callIs_53 : decode cX11_callIs 53 = .ok (.iaload, 1) := by decide +kernel
theorem dX11_callIs_54 : decode cX11_callIs 54 = .ok (.ireturn, 1) := by decide +kernel
theorem dX11_circuits_0 : decode cX11_circuits 0 = .ok (.iload_n 1, 1) := by decide +kernel
theorem dX11_circuits_1 : decode cX11_circuits 1 = .ok (.iload_n 2, 1) := by decide +kernel
theorem dX11_circuits_2 : decode cX11_circuits 2 = .ok (.invokestatic 123, 3) := by decide +kernel
theorem dX11_circuits_5 : decode cX11_circuits 5 = .ok (.ifCond .eq 12, 3) := by decide +kernel
theorem dX11_circuits_8 : decode cX11_circuits 8 = .ok (.iload_n 3, 1) := by decide +kernel
theorem dX11_circuits_9 : decode cX11_circuits 9 = .ok (.iconst 0, 1) := by decide +kernel
theorem dX11_circuits_10 : decode cX11_circuits 10 = .ok (.iconst 1, 1) := by decide +kernel
theorem dX11_circuits_11 : decode cX11_circuits 11 = .ok (.invokestatic 111, 3) := by decide +kernel
theorem dX11_circuits_14 : decode cX11_circuits 14 = .ok (.ifCond .ne 5, 3) := by decide +kernel
theorem dX11_circuits_17 : decode cX11_circuits 17 = .ok (.iconst (-1), 1) := by decide +kernel
theorem dX11_circuits_18 : decode cX11_circuits 18 = .ok (.ireturn, 1) := by decide +kernel
theorem dX11_circuits_19 : decode cX11_circuits 19 = .ok (.iload_n 3, 1) := by decide +kernel
theorem dX11_circuits_20 : decode cX11_circuits 20 = .ok (.ifCond .ne 17, 3) := by decide +kernel
theorem dX11_circuits_23 : decode cX11_circuits 23 = .ok (.aload_n 0, 1) := by decide +kernel
theorem dX11_circuits_24 : decode cX11_circuits 24 = .ok (.getfield 19, 3) := by decide +kernel
theorem dX11_circuits_27 : decode cX11_circuits 27 = .ok (.bipush 8, 2) := by decide +kernel
theorem dX11_circuits_29 : decode cX11_circuits 29 = .ok (.iload_n 1, 1) := by decide +kernel
theorem dX11_circuits_30 : decode cX11_circuits 30 = .ok (.imul, 1) := by decide +kernel
theorem dX11_circuits_31 : decode cX11_circuits 31 = .ok (.iload_n 2, 1) := by decide +kernel
theorem dX11_circuits_32 : decode cX11_circuits 32 = .ok (.iadd, 1) := by decide +kernel
theorem dX11_circuits_33 : decode cX11_circuits 33 = .ok (.iaload, 1) := by decide +kernel
theorem dX11_circuits_34 : decode cX11_circuits 34 = .ok (.goto 9, 3) := by decide +kernel
theorem dX11_circuits_37 : decode cX11_circuits 37 = .ok (.aload_n 0, 1) := by decide +kernel
theorem dX11_circuits_38 : decode cX11_circuits 38 = .ok (.iload_n 1, 1) := by decide +kernel
theorem dX11_circuits_39 : decode cX11_circuits 39 = .ok (.iload_n 2, 1) := by decide +kernel
theorem dX11_circuits_40 : decode cX11_circuits 40 = .ok (.invokevirtual 139, 3) := by decide +kernel
theorem dX11_circuits_43 : decode cX11_circuits 43 = .ok (.ireturn, 1) := by decide +kernel
theorem dX11_route_0 : decode cX11_route 0 = .ok (.iload_n 1, 1) := by decide +kernel
theorem dX11_route_1 : decode cX11_route 1 = .ok (.iconst 0, 1) := by decide +kernel
theorem dX11_route_2 : decode cX11_route 2 = .ok (.bipush 7, 2) := by decide +kernel
theorem dX11_route_4 : decode cX11_route 4 = .ok (.invokestatic 111, 3) := by decide +kernel
theorem dX11_route_7 : decode cX11_route 7 = .ok (.ifCond .eq 29, 3) := by decide +kernel
theorem dX11_route_10 : decode cX11_route 10 = .ok (.iload_n 2, 1) := by decide +kernel
theorem dX11_route_11 : decode cX11_route 11 = .ok (.iconst 0, 1) := by decide +kernel
theorem dX11_route_12 : decode cX11_route 12 = .ok (.bipush 7, 2) := by decide +kernel
theorem dX11_route_14 : decode cX11_route 14 = .ok (.invokestatic 111, 3) := by decide +kernel
theorem dX11_route_17 : decode cX11_route 17 = .ok (.ifCond .eq 19, 3) := by decide +kernel
theorem dX11_route_20 : decode cX11_route 20 = .ok (.iload_n 3, 1) := by decide +kernel
theorem dX11_route_21 : decode cX11_route 21 = .ok (.iconst 0, 1) := by decide +kernel
theorem dX11_route_22 : decode cX11_route 22 = .ok (.bipush 7, 2) := by decide +kernel
theorem dX11_route_24 : decode cX11_route 24 = .ok (.invokestatic 111, 3) := by decide +kernel
theorem dX11_route_27 : decode cX11_route 27 = .ok (.ifCond .ne 11, 3) := by decide +kernel
theorem dX11_route_30 : decode cX11_route 30 = .ok (.iload_n 3, 1) := by decide +kernel
theorem dX11_route_31 : decode cX11_route 31 = .ok (.bipush 100, 2) := by decide +kernel
theorem dX11_route_33 : decode cX11_route 33 = .ok (.if_icmp .eq 5, 3) := by decide +kernel
theorem dX11_route_36 : decode cX11_route 36 = .ok (.iconst (-1), 1) := by decide +kernel
theorem dX11_route_37 : decode cX11_route 37 = .ok (.ireturn, 1) := by decide +kernel
theorem dX11_route_38 : decode cX11_route 38 = .ok (.aload_n 0, 1) := by decide +kernel
theorem dX11_route_39 : decode cX11_route 39 = .ok (.iload_n 1, 1) := by decide +kernel
theorem dX11_route_40 : decode cX11_route 40 = .ok (.iload_n 2, 1) := by decide +kernel
theorem dX11_route_41 : decode cX11_route 41 = .ok (.invokevirtual 276, 3) := by decide +kernel
theorem dX11_route_44 : decode cX11_route 44 = .ok (.istore 4, 2) := by decide +kernel
theorem dX11_route_46 : decode cX11_route 46 = .ok (.iload 4, 2) := by decide +kernel
theorem dX11_route_48 : decode cX11_route 48 = .ok (.iconst (-1), 1) := by decide +kernel
theorem dX11_route_49 : decode cX11_route 49 = .ok (.if_icmp .ne 6, 3) := by decide +kernel
theorem dX11_route_52 : decode cX11_route 52 = .ok (.bipush (-2), 2) := by decide +kernel
theorem dX11_route_54 : decode cX11_route 54 = .ok (.ireturn, 1) := by decide +kernel
theorem dX11_route_55 : decode cX11_route 55 = .ok (.iload_n 3, 1) := by decide +kernel
theorem dX11_route_56 : decode cX11_route 56 = .ok (.bipush 100, 2) := by decide +kernel
theorem dX11_route_58 : decode cX11_route 58 = .ok (.if_icmp .ne 8, 3) := by decide +kernel
theorem dX11_route_61 : decode cX11_route 61 = .ok (.iload 4, 2) := by decide +kernel
theorem dX11_route_63 : decode cX11_route 63 = .ok (.goto 20, 3) := by decide +kernel
theorem dX11_route_66 : decode cX11_route 66 = .ok (.iload_n 3, 1) := by decide +kernel
theorem dX11_route_67 : decode cX11_route 67 = .ok (.iload 4, 2) := by decide +kernel
theorem dX11_route_69 : decode cX11_route 69 = .ok (.if_icmp .gt 12, 3) := by decide +kernel
theorem dX11_route_72 : decode cX11_route 72 = .ok (.aload_n 0, 1) := by decide +kernel
theorem dX11_route_73 : decode cX11_route 73 = .ok (.getfield 28, 3) := by decide +kernel
theorem dX11_route_76 : decode cX11_route 76 = .ok (.iload_n 3, 1) := by decide +kernel
theorem dX11_route_77 : decode cX11_route 77 = .ok (.iaload, 1) := by decide +kernel
theorem dX11_route_78 : decode cX11_route 78 = .ok (.goto 5, 3) := by decide +kernel
theorem dX11_route_81 : decode cX11_route 81 = .ok (.bipush (-4), 2) := by decide +kernel
theorem dX11_route_83 : decode cX11_route 83 = .ok (.ireturn, 1) := by decide +kernel
theorem dX11_fundLasts_0 : decode cX11_fundLasts 0 = .ok (.iload_n 1, 1) := by decide +kernel
theorem dX11_fundLasts_1 : decode cX11_fundLasts 1 = .ok (.iconst 1, 1) := by decide +kernel
theorem dX11_fundLasts_2 : decode cX11_fundLasts 2 = .ok (.sipush 240, 3) := by decide +kernel
theorem dX11_fundLasts_5 : decode cX11_fundLasts 5 = .ok (.invokestatic 111, 3) := by decide +kernel
theorem dX11_fundLasts_8 : decode cX11_fundLasts 8 = .ok (.ifCond .ne 5, 3) := by decide +kernel
theorem dX11_fundLasts_11 : decode cX11_fundLasts 11 = .ok (.iconst (-1), 1) := by decide +kernel
theorem dX11_fundLasts_12 : decode cX11_fundLasts 12 = .ok (.ireturn, 1) := by decide +kernel
theorem dX11_fundLasts_13 : decode cX11_fundLasts 13 = .ok (.aload_n 0, 1) := by decide +kernel
theorem dX11_fundLasts_14 : decode cX11_fundLasts 14 = .ok (.getfield 7, 3) := by decide +kernel
theorem dX11_fundLasts_17 : decode cX11_fundLasts 17 = .ok (.sipush 388, 3) := by decide +kernel
theorem dX11_fundLasts_20 : decode cX11_fundLasts 20 = .ok (.iaload, 1) := by decide +kernel
theorem dX11_fundLasts_21 : decode cX11_fundLasts 21 = .ok (.ifCond .ne 5, 3) := by decide +kernel
theorem dX11_fundLasts_24 : decode cX11_fundLasts 24 = .ok (.iconst 0, 1) := by decide +kernel
theorem dX11_fundLasts_25 : decode cX11_fundLasts 25 = .ok (.ireturn, 1) := by decide +kernel
theorem dX11_fundLasts_26 : decode cX11_fundLasts 26 = .ok (.aload_n 0, 1) := by decide +kernel
theorem dX11_fundLasts_27 : decode cX11_fundLasts 27 = .ok (.getfield 7, 3) := by decide +kernel
theorem dX11_fundLasts_30 : decode cX11_fundLasts 30 = .ok (.aload_n 0, 1) := by decide +kernel
theorem dX11_fundLasts_31 : decode cX11_fundLasts 31 = .ok (.getfield 13, 3) := by decide +kernel
theorem dX11_fundLasts_34 : decode cX11_fundLasts 34 = .ok (.invokestatic 266, 3) := by decide +kernel
theorem dX11_fundLasts_37 : decode cX11_fundLasts 37 = .ok (.aload_n 0, 1) := by decide +kernel
theorem dX11_fundLasts_38 : decode cX11_fundLasts 38 = .ok (.invokevirtual 313, 3) := by decide +kernel
theorem dX11_fundLasts_41 : decode cX11_fundLasts 41 = .ok (.bipush (-2), 2) := by decide +kernel
theorem dX11_fundLasts_43 : decode cX11_fundLasts 43 = .ok (.istore_n 2, 1) := by decide +kernel
theorem dX11_fundLasts_44 : decode cX11_fundLasts 44 = .ok (.iconst 1, 1) := by decide +kernel
theorem dX11_fundLasts_45 : decode cX11_fundLasts 45 = .ok (.istore_n 3, 1) := by decide +kernel
theorem dX11_fundLasts_46 : decode cX11_fundLasts 46 = .ok (.iload_n 3, 1) := by decide +kernel
theorem dX11_fundLasts_47 : decode cX11_fundLasts 47 = .ok (.iload_n 1, 1) := by decide +kernel
theorem dX11_fundLasts_48 : decode cX11_fundLasts 48 = .ok (.if_icmp .gt 46, 3) := by decide +kernel
theorem dX11_fundLasts_51 : decode cX11_fundLasts 51 = .ok (.iload_n 2, 1) := by decide +kernel
theorem dX11_fundLasts_52 : decode cX11_fundLasts 52 = .ok (.bipush (-2), 2) := by decide +kernel
theorem dX11_fundLasts_54 : decode cX11_fundLasts 54 = .ok (.if_icmp .ne 40, 3) := by decide +kernel
theorem dX11_fundLasts_57 : decode cX11_fundLasts 57 = .ok (.aload_n 0, 1) := by decide +kernel
theorem dX11_fundLasts_58 : decode cX11_fundLasts 58 = .ok (.getfield 7, 3) := by decide +kernel
theorem dX11_fundLasts_61 : decode cX11_fundLasts 61 = .ok (.sipush 389, 3) := by decide +kernel
theorem dX11_fundLasts_64 : decode cX11_fundLasts 64 = .ok (.iaload, 1) := by decide +kernel
theorem dX11_fundLasts_65 : decode cX11_fundLasts 65 = .ok (.ldc_w 316, 3) := by decide +kernel
theorem dX11_fundLasts_68 : decode cX11_fundLasts 68 = .ok (.if_icmp .ge 26, 3) := by decide +kernel
theorem dX11_fundLasts_71 : decode cX11_fundLasts 71 = .ok (.aload_n 0, 1) := by decide +kernel
theorem dX11_fundLasts_72 : decode cX11_fundLasts 72 = .ok (.invokevirtual 317, 3) := by decide +kernel
theorem dX11_fundLasts_75 : decode cX11_fundLasts 75 = .ok (.aload_n 0, 1) := by decide +kernel
theorem dX11_fundLasts_76 : decode cX11_fundLasts 76 = .ok (.getfield 7, 3) := by decide +kernel
theorem dX11_fundLasts_79 : decode cX11_fundLasts 79 = .ok (.sipush 388, 3) := by decide +kernel
theorem dX11_fundLasts_82 : decode cX11_fundLasts 82 = .ok (.iaload, 1) := by decide +kernel
theorem dX11_fundLasts_83 : decode cX11_fundLasts 83 = .ok (.ifCond .ne 5, 3) := by decide +kernel
theorem dX11_fundLasts_86 : decode cX11_fundLasts 86 = .ok (.iload_n 3, 1) := by decide +kernel
theorem dX11_fundLasts_87 : decode cX11_fundLasts 87 = .ok (.istore_n 2, 1) := by decide +kernel
theorem dX11_fundLasts_88 : decode cX11_fundLasts 88 = .ok (.iinc 3 1, 3) := by decide +kernel
theorem dX11_fundLasts_91 : decode cX11_fundLasts 91 = .ok (.goto (-45), 3) := by decide +kernel
theorem dX11_fundLasts_94 : decode cX11_fundLasts 94 = .ok (.aload_n 0, 1) := by decide +kernel
theorem dX11_fundLasts_95 : decode cX11_fundLasts 95 = .ok (.getfield 13, 3) := by decide +kernel
theorem dX11_fundLasts_98 : decode cX11_fundLasts 98 = .ok (.aload_n 0, 1) := by decide +kernel
theorem dX11_fundLasts_99 : decode cX11_fundLasts 99 = .ok (.getfield 7, 3) := by decide +kernel
theorem dX11_fundLasts_102 : decode cX11_fundLasts 102 = .ok (.invokestatic 266, 3) := by decide +kernel
theorem dX11_fundLasts_105 : decode cX11_fundLasts 105 = .ok (.iload_n 2, 1) := by decide +kernel
theorem dX11_fundLasts_106 : decode cX11_fundLasts 106 = .ok (.ireturn, 1) := by decide +kernel
theorem dX11_oneMore_0 : decode cX11_oneMore 0 = .ok (.iconst 0, 1) := by decide +kernel
theorem dX11_oneMore_1 : decode cX11_oneMore 1 = .ok (.istore_n 3, 1) := by decide +kernel
theorem dX11_oneMore_2 : decode cX11_oneMore 2 = .ok (.iload_n 3, 1) := by decide +kernel
theorem dX11_oneMore_3 : decode cX11_oneMore 3 = .ok (.bipush 8, 2) := by decide +kernel
theorem dX11_oneMore_5 : decode cX11_oneMore 5 = .ok (.if_icmp .ge 16, 3) := by decide +kernel
theorem dX11_oneMore_8 : decode cX11_oneMore 8 = .ok (.aload_n 0, 1) := by decide +kernel
theorem dX11_oneMore_9 : decode cX11_oneMore 9 = .ok (.getfield 77, 3) := by decide +kernel
theorem dX11_oneMore_12 : decode cX11_oneMore 12 = .ok (.iload_n 3, 1) := by decide +kernel
theorem dX11_oneMore_13 : decode cX11_oneMore 13 = .ok (.iconst (-1), 1) := by decide +kernel
theorem dX11_oneMore_14 : decode cX11_oneMore 14 = .ok (.iastore, 1) := by decide +kernel
theorem dX11_oneMore_15 : decode cX11_oneMore 15 = .ok (.iinc 3 1, 3) := by decide +kernel
theorem dX11_oneMore_18 : decode cX11_oneMore 18 = .ok (.goto (-16), 3) := by decide +kernel
theorem dX11_oneMore_21 : decode cX11_oneMore 21 = .ok (.aload_n 0, 1) := by decide +kernel
theorem dX11_oneMore_22 : decode cX11_oneMore 22 = .ok (.getfield 77, 3) := by decide +kernel
theorem dX11_oneMore_25 : decode cX11_oneMore 25 = .ok (.iload_n 1, 1) := by decide +kernel
theorem dX11_oneMore_26 : decode cX11_oneMore 26 = .ok (.iload_n 1, 1) := by decide +kernel
theorem dX11_oneMore_27 : decode cX11_oneMore 27 = .ok (.iastore, 1) := by decide +kernel
theorem dX11_oneMore_28 : decode cX11_oneMore 28 = .ok (.aload_n 0, 1) := by decide +kernel
theorem dX11_oneMore_29 : decode cX11_oneMore 29 = .ok (.getfield 25, 3) := by decide +kernel
theorem dX11_oneMore_32 : decode cX11_oneMore 32 = .ok (.iconst 0, 1) := by decide +kernel
theorem dX11_oneMore_33 : decode cX11_oneMore 33 = .ok (.iload_n 1, 1) := by decide +kernel
theorem dX11_oneMore_34 : decode cX11_oneMore 34 = .ok (.iastore, 1) := by decide +kernel
theorem dX11_oneMore_35 : decode cX11_oneMore 35 = .ok (.iconst 1, 1) := by decide +kernel
theorem dX11_oneMore_36 : decode cX11_oneMore 36 = .ok (.istore_n 3, 1) := by decide +kernel
theorem dX11_oneMore_37 : decode cX11_oneMore 37 = .ok (.iconst 0, 1) := by decide +kernel
theorem dX11_oneMore_38 : decode cX11_oneMore 38 = .ok (.istore 4, 2) := by decide +kernel
theorem dX11_oneMore_40 : decode cX11_oneMore 40 = .ok (.iload 4, 2) := by decide +kernel
theorem dX11_oneMore_42 : decode cX11_oneMore 42 = .ok (.iload_n 3, 1) := by decide +kernel
theorem dX11_oneMore_43 : decode cX11_oneMore 43 = .ok (.if_icmp .ge 86, 3) := by decide +kernel
theorem dX11_oneMore_46 : decode cX11_oneMore 46 = .ok (.iconst 0, 1) := by decide +kernel
theorem dX11_oneMore_47 : decode cX11_oneMore 47 = .ok (.istore 5, 2) := by decide +kernel
theorem dX11_oneMore_49 : decode cX11_oneMore 49 = .ok (.iload 5, 2) := by decide +kernel
theorem dX11_oneMore_51 : decode cX11_oneMore 51 = .ok (.bipush 8, 2) := by decide +kernel
theorem dX11_oneMore_53 : decode cX11_oneMore 53 = .ok (.if_icmp .ge 70, 3) := by decide +kernel
theorem dX11_oneMore_56 : decode cX11_oneMore 56 = .ok (.aload_n 0, 1) := by decide +kernel
theorem dX11_oneMore_57 : decode cX11_oneMore 57 = .ok (.getfield 77, 3) := by decide +kernel
theorem dX11_oneMore_60 : decode cX11_oneMore 60 = .ok (.iload 5, 2) := by decide +kernel
theorem dX11_oneMore_62 : decode cX11_oneMore 62 = .ok (.iaload, 1) := by decide +kernel
theorem dX11_oneMore_63 : decode cX11_oneMore 63 = .ok (.iconst (-1), 1) := by decide +kernel
theorem dX11_oneMore_64 : decode cX11_oneMore 64 = .ok (.if_icmp .ne 53, 3) := by decide +kernel
theorem dX11_oneMore_67 : decode cX11_oneMore 67 = .ok (.aload_n 0, 1) := by decide +kernel
theorem dX11_oneMore_68 : decode cX11_oneMore 68 = .ok (.getfield 74, 3) := by decide +kernel
theorem dX11_oneMore_71 : decode cX11_oneMore 71 = .ok (.bipush 8, 2) := by decide +kernel
theorem dX11_oneMore_73 : decode cX11_oneMore 73 = .ok (.aload_n 0, 1) := by decide +kernel
theorem dX11_oneMore_74 : decode cX11_oneMore 74 = .ok (.getfield 25, 3) := by decide +kernel
theorem dX11_oneMore_77 : decode cX11_oneMore 77 = .ok (.iload 4, 2) := by decide +kernel
theorem dX11_oneMore_79 : decode cX11_oneMore 79 = .ok (.iaload, 1) := by decide +kernel
theorem dX11_oneMore_80 : decode cX11_oneMore 80 = .ok (.imul, 1) := by decide +kernel
theorem dX11_oneMore_81 : decode cX11_oneMore 81 = .ok (.iload 5, 2) := by decide +kernel
theorem dX11_oneMore_83 : decode cX11_oneMore 83 = .ok (.iadd, 1) := by decide +kernel
theorem dX11_oneMore_84 : decode cX11_oneMore 84 = .ok (.iaload, 1) := by decide +kernel
theorem dX11_oneMore_85 : decode cX11_oneMore 85 = .ok (.ifCond .ne 6, 3) := by decide +kernel
theorem dX11_oneMore_88 : decode cX11_oneMore 88 = .ok (.goto 29, 3) := by decide +kernel
theorem dX11_oneMore_91 : decode cX11_oneMore 91 = .ok (.aload_n 0, 1) := by decide +kernel
theorem dX11_oneMore_92 : decode cX11_oneMore 92 = .ok (.getfield 77, 3) := by decide +kernel
theorem dX11_oneMore_95 : decode cX11_oneMore 95 = .ok (.iload 5, 2) := by decide +kernel
theorem dX11_oneMore_97 : decode cX11_oneMore 97 = .ok (.aload_n 0, 1) := by decide +kernel
theorem dX11_oneMore_98 : decode cX11_oneMore 98 = .ok (.getfield 25, 3) := by decide +kernel
theorem dX11_oneMore_101 : decode cX11_oneMore 101 = .ok (.iload 4, 2) := by decide +kernel
theorem dX11_oneMore_103 : decode cX11_oneMore 103 = .ok (.iaload, 1) := by decide +kernel
theorem dX11_oneMore_104 : decode cX11_oneMore 104 = .ok (.iastore, 1) := by decide +kernel
theorem dX11_oneMore_105 : decode cX11_oneMore 105 = .ok (.aload_n 0, 1) := by decide +kernel
theorem dX11_oneMore_106 : decode cX11_oneMore 106 = .ok (.getfield 25, 3) := by decide +kernel
theorem dX11_oneMore_109 : decode cX11_oneMore 109 = .ok (.iload_n 3, 1) := by decide +kernel
theorem dX11_oneMore_110 : decode cX11_oneMore 110 = .ok (.iload 5, 2) := by decide +kernel
theorem dX11_oneMore_112 : decode cX11_oneMore 112 = .ok (.iastore, 1) := by decide +kernel
theorem dX11_oneMore_113 : decode cX11_oneMore 113 = .ok (.iload_n 3, 1) := by decide +kernel
theorem dX11_oneMore_114 : decode cX11_oneMore 114 = .ok (.iconst 1, 1) := by decide +kernel
theorem dX11_oneMore_115 : decode cX11_oneMore 115 = .ok (.iadd, 1) := by decide +kernel
theorem dX11_oneMore_116 : decode cX11_oneMore 116 = .ok (.istore_n 3, 1) := by decide +kernel
theorem dX11_oneMore_117 : decode cX11_oneMore 117 = .ok (.iinc 5 1, 3) := by decide +kernel
theorem dX11_oneMore_120 : decode cX11_oneMore 120 = .ok (.goto (-71), 3) := by decide +kernel
theorem dX11_oneMore_123 : decode cX11_oneMore 123 = .ok (.iinc 4 1, 3) := by decide +kernel
theorem dX11_oneMore_126 : decode cX11_oneMore 126 = .ok (.goto (-86), 3) := by decide +kernel
theorem dX11_oneMore_129 : decode cX11_oneMore 129 = .ok (.aload_n 0, 1) := by decide +kernel
theorem dX11_oneMore_130 : decode cX11_oneMore 130 = .ok (.getfield 77, 3) := by decide +kernel
theorem dX11_oneMore_133 : decode cX11_oneMore 133 = .ok (.iload_n 2, 1) := by decide +kernel
theorem dX11_oneMore_134 : decode cX11_oneMore 134 = .ok (.iaload, 1) := by decide +kernel
theorem dX11_oneMore_135 : decode cX11_oneMore 135 = .ok (.iconst (-1), 1) := by decide +kernel
theorem dX11_oneMore_136 : decode cX11_oneMore 136 = .ok (.if_icmp .ne 5, 3) := by decide +kernel
theorem dX11_oneMore_139 : decode cX11_oneMore 139 = .ok (.iconst 0, 1) := by decide +kernel
theorem dX11_oneMore_140 : decode cX11_oneMore 140 = .ok (.ireturn, 1) := by decide +kernel
theorem dX11_oneMore_141 : decode cX11_oneMore 141 = .ok (.iload_n 2, 1) := by decide +kernel
theorem dX11_oneMore_142 : decode cX11_oneMore 142 = .ok (.istore 4, 2) := by decide +kernel
theorem dX11_oneMore_144 : decode cX11_oneMore 144 = .ok (.iload 4, 2) := by decide +kernel
theorem dX11_oneMore_146 : decode cX11_oneMore 146 = .ok (.iload_n 1, 1) := by decide +kernel
theorem dX11_oneMore_147 : decode cX11_oneMore 147 = .ok (.if_icmp .eq 75, 3) := by decide +kernel
theorem dX11_oneMore_150 : decode cX11_oneMore 150 = .ok (.aload_n 0, 1) := by decide +kernel
theorem dX11_oneMore_151 : decode cX11_oneMore 151 = .ok (.getfield 77, 3) := by decide +kernel
theorem dX11_oneMore_154 : decode cX11_oneMore 154 = .ok (.iload 4, 2) := by decide +kernel
theorem dX11_oneMore_156 : decode cX11_oneMore 156 = .ok (.iaload, 1) := by decide +kernel
theorem dX11_oneMore_157 : decode cX11_oneMore 157 = .ok (.istore 5, 2) := by decide +kernel
theorem dX11_oneMore_159 : decode cX11_oneMore 159 = .ok (.aload_n 0, 1) := by decide +kernel
theorem dX11_oneMore_160 : decode cX11_oneMore 160 = .ok (.getfield 74, 3) := by decide +kernel
theorem dX11_oneMore_163 : decode cX11_oneMore 163 = .ok (.bipush 8, 2) := by decide +kernel
theorem dX11_oneMore_165 : decode cX11_oneMore 165 = .ok (.iload 5, 2) := by decide +kernel
theorem dX11_oneMore_167 : decode cX11_oneMore 167 = .ok (.imul, 1) := by decide +kernel
theorem dX11_oneMore_168 : decode cX11_oneMore 168 = .ok (.iload 4, 2) := by decide +kernel
theorem dX11_oneMore_170 : decode cX11_oneMore 170 = .ok (.iadd, 1) := by decide +kernel
theorem dX11_oneMore_171 : decode cX11_oneMore 171 = .ok (.aload_n 0, 1) := by decide +kernel
theorem dX11_oneMore_172 : decode cX11_oneMore 172 = .ok (.getfield 74, 3) := by decide +kernel
theorem dX11_oneMore_175 : decode cX11_oneMore 175 = .ok (.bipush 8, 2) := by decide +kernel
theorem dX11_oneMore_177 : decode cX11_oneMore 177 = .ok (.iload 5, 2) := by decide +kernel
theorem dX11_oneMore_179 : decode cX11_oneMore 179 = .ok (.imul, 1) := by decide +kernel
theorem dX11_oneMore_180 : decode cX11_oneMore 180 = .ok (.iload 4, 2) := by decide +kernel
theorem dX11_oneMore_182 : decode cX11_oneMore 182 = .ok (.iadd, 1) := by decide +kernel
theorem dX11_oneMore_183 : decode cX11_oneMore 183 = .ok (.iaload, 1) := by decide +kernel
theorem dX11_oneMore_184 : decode cX11_oneMore 184 = .ok (.iconst 1, 1) := by decide +kernel
theorem dX11_oneMore_185 : decode cX11_oneMore 185 = .ok (.isub, 1) := by decide +kernel
theorem dX11_oneMore_186 : decode cX11_oneMore 186 = .ok (.iastore, 1) := by decide +kernel
theorem dX11_oneMore_187 : decode cX11_oneMore 187 = .ok (.aload_n 0, 1) := by decide +kernel
theorem dX11_oneMore_188 : decode cX11_oneMore 188 = .ok (.getfield 74, 3) := by decide +kernel
theorem dX11_oneMore_191 : decode cX11_oneMore 191 = .ok (.bipush 8, 2) := by decide +kernel
theorem dX11_oneMore_193 : decode cX11_oneMore 193 = .ok (.iload 4, 2) := by decide +kernel
theorem dX11_oneMore_195 : decode cX11_oneMore 195 = .ok (.imul, 1) := by decide +kernel
theorem dX11_oneMore_196 : decode cX11_oneMore 196 = .ok (.iload 5, 2) := by decide +kernel
theorem dX11_oneMore_198 : decode cX11_oneMore 198 = .ok (.iadd, 1) := by decide +kernel
theorem dX11_oneMore_199 : decode cX11_oneMore 199 = .ok (.aload_n 0, 1) := by decide +kernel
theorem dX11_oneMore_200 : decode cX11_oneMore 200 = .ok (.getfield 74, 3) := by decide +kernel
theorem dX11_oneMore_203 : decode cX11_oneMore 203 = .ok (.bipush 8, 2) := by decide +kernel
theorem dX11_oneMore_205 : decode cX11_oneMore 205 = .ok (.iload 4, 2) := by decide +kernel
theorem dX11_oneMore_207 : decode cX11_oneMore 207 = .ok (.imul, 1) := by decide +kernel
theorem dX11_oneMore_208 : decode cX11_oneMore 208 = .ok (.iload 5, 2) := by decide +kernel
theorem dX11_oneMore_210 : decode cX11_oneMore 210 = .ok (.iadd, 1) := by decide +kernel
theorem dX11_oneMore_211 : decode cX11_oneMore 211 = .ok (.iaload, 1) := by decide +kernel
theorem dX11_oneMore_212 : decode cX11_oneMore 212 = .ok (.iconst 1, 1) := by decide +kernel
theorem dX11_oneMore_213 : decode cX11_oneMore 213 = .ok (.iadd, 1) := by decide +kernel
theorem dX11_oneMore_214 : decode cX11_oneMore 214 = .ok (.iastore, 1) := by decide +kernel
theorem dX11_oneMore_215 : decode cX11_oneMore 215 = .ok (.iload 5, 2) := by decide +kernel
theorem dX11_oneMore_217 : decode cX11_oneMore 217 = .ok (.istore 4, 2) := by decide +kernel
theorem dX11_oneMore_219 : decode cX11_oneMore 219 = .ok (.goto (-75), 3) := by decide +kernel
theorem dX11_oneMore_222 : decode cX11_oneMore 222 = .ok (.iconst 1, 1) := by decide +kernel
theorem dX11_oneMore_223 : decode cX11_oneMore 223 = .ok (.ireturn, 1) := by decide +kernel
theorem dX11_flowBetween_0 : decode cX11_flowBetween 0 = .ok (.iconst 0, 1) := by decide +kernel
theorem dX11_flowBetween_1 : decode cX11_flowBetween 1 = .ok (.istore 4, 2) := by decide +kernel
theorem dX11_flowBetween_3 : decode cX11_flowBetween 3 = .ok (.iload 4, 2) := by decide +kernel
theorem dX11_flowBetween_5 : decode cX11_flowBetween 5 = .ok (.bipush 64, 2) := by decide +kernel
theorem dX11_flowBetween_7 : decode cX11_flowBetween 7 = .ok (.if_icmp .ge 27, 3) := by decide +kernel
theorem dX11_flowBetween_10 : decode cX11_flowBetween 10 = .ok (.aload_n 0, 1) := by decide +kernel
theorem dX11_flowBetween_11 : decode cX11_flowBetween 11 = .ok (.getfield 74, 3) := by decide +kernel
theorem dX11_flowBetween_14 : decode cX11_flowBetween 14 = .ok (.iload 4, 2) := by decide +kernel
theorem dX11_flowBetween_16 : decode cX11_flowBetween 16 = .ok (.iload_n 3, 1) := by decide +kernel
theorem dX11_flowBetween_17 : decode cX11_flowBetween 17 = .ok (.aload_n 0, 1) := by decide +kernel
theorem dX11_flowBetween_18 : decode cX11_flowBetween 18 = .ok (.getfield 19, 3) := by decide +kernel
theorem dX11_flowBetween_21 : decode cX11_flowBetween 21 = .ok (.iload 4, 2) := by decide +kernel
theorem dX11_flowBetween_23 : decode cX11_flowBetween 23 = .ok (.iaload, 1) := by decide +kernel
theorem dX11_flowBetween_24 : decode cX11_flowBetween 24 = .ok (.invokestatic 257, 3) := by decide +kernel
theorem dX11_flowBetween_27 : decode cX11_flowBetween 27 = .ok (.iastore, 1) := by decide +kernel
theorem dX11_flowBetween_28 : decode cX11_flowBetween 28 = .ok (.iinc 4 1, 3) := by decide +kernel
theorem dX11_flowBetween_31 : decode cX11_flowBetween 31 = .ok (.goto (-28), 3) := by decide +kernel
theorem dX11_flowBetween_34 : decode cX11_flowBetween 34 = .ok (.iconst 0, 1) := by decide +kernel
theorem dX11_flowBetween_35 : decode cX11_flowBetween 35 = .ok (.istore 4, 2) := by decide +kernel
theorem dX11_flowBetween_37 : decode cX11_flowBetween 37 = .ok (.aload_n 0, 1) := by decide +kernel
theorem dX11_flowBetween_38 : decode cX11_flowBetween 38 = .ok (.iload_n 1, 1) := by decide +kernel
theorem dX11_flowBetween_39 : decode cX11_flowBetween 39 = .ok (.iload_n 2, 1) := by decide +kernel
theorem dX11_flowBetween_40 : decode cX11_flowBetween 40 = .ok (.invokevirtual 329, 3) := by decide +kernel
theorem dX11_flowBetween_43 : decode cX11_flowBetween 43 = .ok (.ifCond .eq 12, 3) := by decide +kernel
theorem dX11_flowBetween_46 : decode cX11_flowBetween 46 = .ok (.iload 4, 2) := by decide +kernel
theorem dX11_flowBetween_48 : decode cX11_flowBetween 48 = .ok (.iconst 1, 1) := by decide +kernel
theorem dX11_flowBetween_49 : decode cX11_flowBetween 49 = .ok (.iadd, 1) := by decide +kernel
theorem dX11_flowBetween_50 : decode cX11_flowBetween 50 = .ok (.istore 4, 2) := by decide +kernel
theorem dX11_flowBetween_52 : decode cX11_flowBetween 52 = .ok (.goto (-15), 3) := by decide +kernel
theorem dX11_flowBetween_55 : decode cX11_flowBetween 55 = .ok (.iload 4, 2) := by decide +kernel
theorem dX11_flowBetween_57 : decode cX11_flowBetween 57 = .ok (.ireturn, 1) := by decide +kernel
theorem dX11_atOnce_0 : decode cX11_atOnce 0 = .ok (.iload_n 1, 1) := by decide +kernel
theorem dX11_atOnce_1 : decode cX11_atOnce 1 = .ok (.iload_n 2, 1) := by decide +kernel
theorem dX11_atOnce_2 : decode cX11_atOnce 2 = .ok (.invokestatic 123, 3) := by decide +kernel
theorem dX11_atOnce_5 : decode cX11_atOnce 5 = .ok (.ifCond .eq 14, 3) := by decide +kernel
theorem dX11_atOnce_8 : decode cX11_atOnce 8 = .ok (.aload_n 0, 1) := by decide +kernel
theorem dX11_atOnce_9 : decode cX11_atOnce 9 = .ok (.iload_n 1, 1) := by decide +kernel
theorem dX11_atOnce_10 : decode cX11_atOnce 10 = .ok (.iload_n 2, 1) := by decide +kernel
theorem dX11_atOnce_11 : decode cX11_atOnce 11 = .ok (.bipush 9, 2) := by decide +kernel
theorem dX11_atOnce_13 : decode cX11_atOnce 13 = .ok (.invokevirtual 332, 3) := by decide +kernel
theorem dX11_atOnce_16 : decode cX11_atOnce 16 = .ok (.goto 4, 3) := by decide +kernel
theorem dX11_atOnce_19 : decode cX11_atOnce 19 = .ok (.iconst (-1), 1) := by decide +kernel
theorem dX11_atOnce_20 : decode cX11_atOnce 20 = .ok (.ireturn, 1) := by decide +kernel
theorem dX11_stops_0 : decode cX11_stops 0 = .ok (.iload_n 1, 1) := by decide +kernel
theorem dX11_stops_1 : decode cX11_stops 1 = .ok (.iload_n 2, 1) := by decide +kernel
theorem dX11_stops_2 : decode cX11_stops 2 = .ok (.invokestatic 123, 3) := by decide +kernel
theorem dX11_stops_5 : decode cX11_stops 5 = .ok (.ifCond .eq 13, 3) := by decide +kernel
theorem dX11_stops_8 : decode cX11_stops 8 = .ok (.aload_n 0, 1) := by decide +kernel
theorem dX11_stops_9 : decode cX11_stops 9 = .ok (.iload_n 1, 1) := by decide +kernel
theorem dX11_stops_10 : decode cX11_stops 10 = .ok (.iload_n 2, 1) := by decide +kernel
theorem dX11_stops_11 : decode cX11_stops 11 = .ok (.iconst 1, 1) := by decide +kernel
theorem dX11_stops_12 : decode cX11_stops 12 = .ok (.invokevirtual 332, 3) := by decide +kernel
theorem dX11_stops_15 : decode cX11_stops 15 = .ok (.goto 4, 3) := by decide +kernel
theorem dX11_stops_18 : decode cX11_stops 18 = .ok (.iconst (-1), 1) := by decide +kernel
theorem dX11_stops_19 : decode cX11_stops 19 = .ok (.ireturn, 1) := by decide +kernel
theorem dX11_inTheMiddle_0 : decode cX11_inTheMiddle 0 = .ok (.iconst (-1), 1) := by decide +kernel
theorem dX11_inTheMiddle_1 : decode cX11_inTheMiddle 1 = .ok (.istore_n 1, 1) := by decide +kernel
theorem dX11_inTheMiddle_2 : decode cX11_inTheMiddle 2 = .ok (.iconst 0, 1) := by decide +kernel
theorem dX11_inTheMiddle_3 : decode cX11_inTheMiddle 3 = .ok (.istore_n 2, 1) := by decide +kernel
theorem dX11_inTheMiddle_4 : decode cX11_inTheMiddle 4 = .ok (.iconst 0, 1) := by decide +kernel
theorem dX11_inTheMiddle_5 : decode cX11_inTheMiddle 5 = .ok (.istore_n 3, 1) := by decide +kernel
theorem dX11_inTheMiddle_6 : decode cX11_inTheMiddle 6 = .ok (.iconst 0, 1) := by decide +kernel
theorem dX11_inTheMiddle_7 : decode cX11_inTheMiddle 7 = .ok (.istore 4, 2) := by decide +kernel
theorem dX11_inTheMiddle_9 : decode cX11_inTheMiddle 9 = .ok (.iload 4, 2) := by decide +kernel
theorem dX11_inTheMiddle_11 : decode cX11_inTheMiddle 11 = .ok (.bipush 8, 2) := by decide +kernel
theorem dX11_inTheMiddle_13 : decode cX11_inTheMiddle 13 = .ok (.if_icmp .ge 100, 3) := by decide +kernel
theorem dX11_inTheMiddle_16 : decode cX11_inTheMiddle 16 = .ok (.aload_n 0, 1) := by decide +kernel
theorem dX11_inTheMiddle_17 : decode cX11_inTheMiddle 17 = .ok (.iload 4, 2) := by decide +kernel
theorem dX11_inTheMiddle_19 : decode cX11_inTheMiddle 19 = .ok (.iconst 0, 1) := by decide +kernel
theorem dX11_inTheMiddle_20 : decode cX11_inTheMiddle 20 = .ok (.invokevirtual 142, 3) := by decide +kernel
theorem dX11_inTheMiddle_23 : decode cX11_inTheMiddle 23 = .ok (.iconst 0, 1) := by decide +kernel
theorem dX11_inTheMiddle_24 : decode cX11_inTheMiddle 24 = .ok (.istore 5, 2) := by decide +kernel
theorem dX11_inTheMiddle_26 : decode cX11_inTheMiddle 26 = .ok (.iconst 0, 1) := by decide +kernel
theorem dX11_inTheMiddle_27 : decode cX11_inTheMiddle 27 = .ok (.istore 6, 2) := by decide +kernel
theorem dX11_inTheMiddle_29 : decode cX11_inTheMiddle 29 = .ok (.iconst 0, 1) := by decide +kernel
theorem dX11_inTheMiddle_30 : decode cX11_inTheMiddle 30 = .ok (.istore 7, 2) := by decide +kernel
theorem dX11_inTheMiddle_32 : decode cX11_inTheMiddle 32 = .ok (.iload 7, 2) := by decide +kernel
theorem dX11_inTheMiddle_34 : decode cX11_inTheMiddle 34 = .ok (.bipush 8, 2) := by decide +kernel
theorem dX11_inTheMiddle_36 : decode cX11_inTheMiddle 36 = .ok (.if_icmp .ge 41, 3) := by decide +kernel
theorem dX11_inTheMiddle_39 : decode cX11_inTheMiddle 39 = .ok (.aload_n 0, 1) := by decide +kernel
theorem dX11_inTheMiddle_40 : decode cX11_inTheMiddle 40 = .ok (.getfield 22, 3) := by decide +kernel
theorem dX11_inTheMiddle_43 : decode cX11_inTheMiddle 43 = .ok (.iload 7, 2) := by decide +kernel
theorem dX11_inTheMiddle_45 : decode cX11_inTheMiddle 45 = .ok (.iaload, 1) := by decide +kernel
theorem dX11_inTheMiddle_46 : decode cX11_inTheMiddle 46 = .ok (.iconst (-1), 1) := by decide +kernel
theorem dX11_inTheMiddle_47 : decode cX11_inTheMiddle 47 = .ok (.if_icmp .ne 6, 3) := by decide +kernel
theorem dX11_inTheMiddle_50 : decode cX11_inTheMiddle 50 = .ok (.goto 21, 3) := by decide +kernel
theorem dX11_inTheMiddle_53 : decode cX11_inTheMiddle 53 = .ok (.iload 5, 2) := by decide +kernel
theorem dX11_inTheMiddle_55 : decode cX11_inTheMiddle 55 = .ok (.iconst 1, 1) := by decide +kernel
theorem dX11_inTheMiddle_56 : decode cX11_inTheMiddle 56 = .ok (.iadd, 1) := by decide +kernel
theorem dX11_inTheMiddle_57 : decode cX11_inTheMiddle 57 = .ok (.istore 5, 2) := by decide +kernel
theorem dX11_inTheMiddle_59 : decode cX11_inTheMiddle 59 = .ok (.iload 6, 2) := by decide +kernel
theorem dX11_inTheMiddle_61 : decode cX11_inTheMiddle 61 = .ok (.aload_n 0, 1) := by decide +kernel
theorem dX11_inTheMiddle_62 : decode cX11_inTheMiddle 62 = .ok (.getfield 22, 3) := by decide +kernel
theorem dX11_inTheMiddle_65 : decode cX11_inTheMiddle 65 = .ok (.iload 7, 2) := by decide +kernel
theorem dX11_inTheMiddle_67 : decode cX11_inTheMiddle 67 = .ok (.iaload, 1) := by decide +kernel
theorem dX11_inTheMiddle_68 : decode cX11_inTheMiddle 68 = .ok (.iadd, 1) := by decide +kernel
theorem dX11_inTheMiddle_69 : decode cX11_inTheMiddle 69 = .ok (.istore 6, 2) := by decide +kernel
theorem dX11_inTheMiddle_71 : decode cX11_inTheMiddle 71 = .ok (.iinc 7 1, 3) := by decide +kernel
theorem dX11_inTheMiddle_74 : decode cX11_inTheMiddle 74 = .ok (.goto (-42), 3) := by decide +kernel
theorem dX11_inTheMiddle_77 : decode cX11_inTheMiddle 77 = .ok (.iload 5, 2) := by decide +kernel
theorem dX11_inTheMiddle_79 : decode cX11_inTheMiddle 79 = .ok (.iload_n 2, 1) := by decide +kernel
theorem dX11_inTheMiddle_80 : decode cX11_inTheMiddle 80 = .ok (.if_icmp .lt 27, 3) := by decide +kernel
theorem dX11_inTheMiddle_83 : decode cX11_inTheMiddle 83 = .ok (.iload 5, 2) := by decide +kernel
theorem dX11_inTheMiddle_85 : decode cX11_inTheMiddle 85 = .ok (.iload_n 2, 1) := by decide +kernel
theorem dX11_inTheMiddle_86 : decode cX11_inTheMiddle 86 = .ok (.if_icmp .ne 12, 3) := by decide +kernel
theorem dX11_inTheMiddle_89 : decode cX11_inTheMiddle 89 = .ok (.iload 6, 2) := by decide +kernel
theorem dX11_inTheMiddle_91 : decode cX11_inTheMiddle 91 = .ok (.iload_n 3, 1) := by decide +kernel
theorem dX11_inTheMiddle_92 : decode cX11_inTheMiddle 92 = .ok (.if_icmp .lt 6, 3) := by decide +kernel
theorem dX11_inTheMiddle_95 : decode cX11_inTheMiddle 95 = .ok (.goto 12, 3) := by decide +kernel
theorem dX11_inTheMiddle_98 : decode cX11_inTheMiddle 98 = .ok (.iload 4, 2) := by decide +kernel
theorem dX11_inTheMiddle_100 : decode cX11_inTheMiddle 100 = .ok (.istore_n 1, 1) := by decide +kernel
theorem dX11_inTheMiddle_101 : decode cX11_inTheMiddle 101 = .ok (.iload 5, 2) := by decide +kernel
theorem dX11_inTheMiddle_103 : decode cX11_inTheMiddle 103 = .ok (.istore_n 2, 1) := by decide +kernel
theorem dX11_inTheMiddle_104 : decode cX11_inTheMiddle 104 = .ok (.iload 6, 2) := by decide +kernel
theorem dX11_inTheMiddle_106 : decode cX11_inTheMiddle 106 = .ok (.istore_n 3, 1) := by decide +kernel
theorem dX11_inTheMiddle_107 : decode cX11_inTheMiddle 107 = .ok (.iinc 4 1, 3) := by decide +kernel
theorem dX11_inTheMiddle_110 : decode cX11_inTheMiddle 110 = .ok (.goto (-101), 3) := by decide +kernel
theorem dX11_inTheMiddle_113 : decode cX11_inTheMiddle 113 = .ok (.iload_n 1, 1) := by decide +kernel
theorem dX11_inTheMiddle_114 : decode cX11_inTheMiddle 114 = .ok (.ireturn, 1) := by decide +kernel
theorem dX11_sumOf_0 : decode cX11_sumOf 0 = .ok (.iconst 0, 1) := by decide +kernel
theorem dX11_sumOf_1 : decode cX11_sumOf 1 = .ok (.istore 5, 2) := by decide +kernel
theorem dX11_sumOf_3 : decode cX11_sumOf 3 = .ok (.iconst 0, 1) := by decide +kernel
theorem dX11_sumOf_4 : decode cX11_sumOf 4 = .ok (.istore 6, 2) := by decide +kernel
theorem dX11_sumOf_6 : decode cX11_sumOf 6 = .ok (.iload 6, 2) := by decide +kernel
theorem dX11_sumOf_8 : decode cX11_sumOf 8 = .ok (.iload_n 2, 1) := by decide +kernel
theorem dX11_sumOf_9 : decode cX11_sumOf 9 = .ok (.if_icmp .ge 34, 3) := by decide +kernel
theorem dX11_sumOf_12 : decode cX11_sumOf 12 = .ok (.iload_n 1, 1) := by decide +kernel
theorem dX11_sumOf_13 : decode cX11_sumOf 13 = .ok (.iload 6, 2) := by decide +kernel
theorem dX11_sumOf_15 : decode cX11_sumOf 15 = .ok (.invokestatic 335, 3) := by decide +kernel
theorem dX11_sumOf_18 : decode cX11_sumOf 18 = .ok (.ifCond .eq 19, 3) := by decide +kernel
theorem dX11_sumOf_21 : decode cX11_sumOf 21 = .ok (.iload 5, 2) := by decide +kernel
theorem dX11_sumOf_23 : decode cX11_sumOf 23 = .ok (.aload_n 0, 1) := by decide +kernel
theorem dX11_sumOf_24 : decode cX11_sumOf 24 = .ok (.iload_n 3, 1) := by decide +kernel
theorem dX11_sumOf_25 : decode cX11_sumOf 25 = .ok (.iload 4, 2) := by decide +kernel
theorem dX11_sumOf_27 : decode cX11_sumOf 27 = .ok (.iload 6, 2) := by decide +kernel
theorem dX11_sumOf_29 : decode cX11_sumOf 29 = .ok (.imul, 1) := by decide +kernel
theorem dX11_sumOf_30 : decode cX11_sumOf 30 = .ok (.iadd, 1) := by decide +kernel
theorem dX11_sumOf_31 : decode cX11_sumOf 31 = .ok (.invokevirtual 338, 3) := by decide +kernel
theorem dX11_sumOf_34 : decode cX11_sumOf 34 = .ok (.iadd, 1) := by decide +kernel
theorem dX11_sumOf_35 : decode cX11_sumOf 35 = .ok (.istore 5, 2) := by decide +kernel
theorem dX11_sumOf_37 : decode cX11_sumOf 37 = .ok (.iinc 6 1, 3) := by decide +kernel
theorem dX11_sumOf_40 : decode cX11_sumOf 40 = .ok (.goto (-34), 3) := by decide +kernel
theorem dX11_sumOf_43 : decode cX11_sumOf 43 = .ok (.iload 5, 2) := by decide +kernel
theorem dX11_sumOf_45 : decode cX11_sumOf 45 = .ok (.ireturn, 1) := by decide +kernel
theorem dX11_cut_0 : decode cX11_cut 0 = .ok (.iload_n 1, 1) := by decide +kernel
theorem dX11_cut_1 : decode cX11_cut 1 = .ok (.iconst 1, 1) := by decide +kernel
theorem dX11_cut_2 : decode cX11_cut 2 = .ok (.bipush 12, 2) := by decide +kernel
theorem dX11_cut_4 : decode cX11_cut 4 = .ok (.invokestatic 111, 3) := by decide +kernel
theorem dX11_cut_7 : decode cX11_cut 7 = .ok (.ifCond .eq 33, 3) := by decide +kernel
theorem dX11_cut_10 : decode cX11_cut 10 = .ok (.iload_n 2, 1) := by decide +kernel
theorem dX11_cut_11 : decode cX11_cut 11 = .ok (.iconst 0, 1) := by decide +kernel
theorem dX11_cut_12 : decode cX11_cut 12 = .ok (.sipush 3060, 3) := by decide +kernel
theorem dX11_cut_15 : decode cX11_cut 15 = .ok (.invokestatic 111, 3) := by decide +kernel
theorem dX11_cut_18 : decode cX11_cut 18 = .ok (.ifCond .eq 22, 3) := by decide +kernel
theorem dX11_cut_21 : decode cX11_cut 21 = .ok (.iload_n 3, 1) := by decide +kernel
theorem dX11_cut_22 : decode cX11_cut 22 = .ok (.iconst 0, 1) := by decide +kernel
theorem dX11_cut_23 : decode cX11_cut 23 = .ok (.iconst 1, 1) := by decide +kernel
theorem dX11_cut_24 : decode cX11_cut 24 = .ok (.invokestatic 111, 3) := by decide +kernel
theorem dX11_cut_27 : decode cX11_cut 27 = .ok (.ifCond .eq 13, 3) := by decide +kernel
theorem dX11_cut_30 : decode cX11_cut 30 = .ok (.iconst 2, 1) := by decide +kernel
theorem dX11_cut_31 : decode cX11_cut 31 = .ok (.iload_n 1, 1) := by decide +kernel
theorem dX11_cut_32 : decode cX11_cut 32 = .ok (.imul, 1) := by decide +kernel
theorem dX11_cut_33 : decode cX11_cut 33 = .ok (.aload_n 0, 1) := by decide +kernel
theorem dX11_cut_34 : decode cX11_cut 34 = .ok (.getfield 146, 3) := by decide +kernel
theorem dX11_cut_37 : decode cX11_cut 37 = .ok (.if_icmp .le 5, 3) := by decide +kernel
theorem dX11_cut_40 : decode cX11_cut 40 = .ok (.iconst (-1), 1) := by decide +kernel
theorem dX11_cut_41 : decode cX11_cut 41 = .ok (.ireturn, 1) := by decide +kernel
theorem dX11_cut_42 : decode cX11_cut 42 = .ok (.aload_n 0, 1) := by decide +kernel
theorem dX11_cut_43 : decode cX11_cut 43 = .ok (.iconst 0, 1) := by decide +kernel
theorem dX11_cut_44 : decode cX11_cut 44 = .ok (.putfield 146, 3) := by decide +kernel
theorem dX11_cut_47 : decode cX11_cut 47 = .ok (.iconst 0, 1) := by decide +kernel
theorem dX11_cut_48 : decode cX11_cut 48 = .ok (.istore 4, 2) := by decide +kernel
theorem dX11_cut_50 : decode cX11_cut 50 = .ok (.iconst 0, 1) := by decide +kernel
theorem dX11_cut_51 : decode cX11_cut 51 = .ok (.istore 5, 2) := by decide +kernel
theorem dX11_cut_53 : decode cX11_cut 53 = .ok (.iconst 1, 1) := by decide +kernel
theorem dX11_cut_54 : decode cX11_cut 54 = .ok (.istore 6, 2) := by decide +kernel
theorem dX11_cut_56 : decode cX11_cut 56 = .ok (.iload 6, 2) := by decide +kernel
theorem dX11_cut_58 : decode cX11_cut 58 = .ok (.iconst 1, 1) := by decide +kernel
theorem dX11_cut_59 : decode cX11_cut 59 = .ok (.iload_n 1, 1) := by decide +kernel
theorem dX11_cut_60 : decode cX11_cut 60 = .ok (.ishl, 1) := by decide +kernel
theorem dX11_cut_61 : decode cX11_cut 61 = .ok (.if_icmp .ge 51, 3) := by decide +kernel
theorem dX11_cut_64 : decode cX11_cut 64 = .ok (.aload_n 0, 1) := by decide +kernel
theorem dX11_cut_65 : decode cX11_cut 65 = .ok (.iload 6, 2) := by decide +kernel
theorem dX11_cut_67 : decode cX11_cut 67 = .ok (.iload_n 1, 1) := by decide +kernel
theorem dX11_cut_68 : decode cX11_cut 68 = .ok (.iconst 0, 1) := by decide +kernel
theorem dX11_cut_69 : decode cX11_cut 69 = .ok (.iconst 2, 1) := by decide +kernel
theorem dX11_cut_70 : decode cX11_cut 70 = .ok (.invokevirtual 341, 3) := by decide +kernel
theorem dX11_cut_73 : decode cX11_cut 73 = .ok (.istore 7, 2) := by decide +kernel
theorem dX11_cut_75 : decode cX11_cut 75 = .ok (.iload 7, 2) := by decide +kernel
theorem dX11_cut_77 : decode cX11_cut 77 = .ok (.iload 5, 2) := by decide +kernel
theorem dX11_cut_79 : decode cX11_cut 79 = .ok (.if_icmp .le 27, 3) := by decide +kernel
theorem dX11_cut_82 : decode cX11_cut 82 = .ok (.aload_n 0, 1) := by decide +kernel
theorem dX11_cut_83 : decode cX11_cut 83 = .ok (.iload 6, 2) := by decide +kernel
theorem dX11_cut_85 : decode cX11_cut 85 = .ok (.iload_n 1, 1) := by decide +kernel
theorem dX11_cut_86 : decode cX11_cut 86 = .ok (.iconst 1, 1) := by decide +kernel
theorem dX11_cut_87 : decode cX11_cut 87 = .ok (.iconst 2, 1) := by decide +kernel
theorem dX11_cut_88 : decode cX11_cut 88 = .ok (.invokevirtual 341, 3) := by decide +kernel
theorem dX11_cut_91 : decode cX11_cut 91 = .ok (.iload_n 2, 1) := by decide +kernel
theorem dX11_cut_92 : decode cX11_cut 92 = .ok (.if_icmp .le 6, 3) := by decide +kernel
theorem dX11_cut_95 : decode cX11_cut 95 = .ok (.goto 11, 3) := by decide +kernel
theorem dX11_cut_98 : decode cX11_cut 98 = .ok (.iload 7, 2) := by decide +kernel
theorem dX11_cut_100 : decode cX11_cut 100 = .ok (.istore 5, 2) := by decide +kernel
theorem dX11_cut_102 : decode cX11_cut 102 = .ok (.iload 6, 2) := by decide +kernel
theorem dX11_cut_104 : decode cX11_cut 104 = .ok (.istore 4, 2) := by decide +kernel
theorem dX11_cut_106 : decode cX11_cut 106 = .ok (.iinc 6 1, 3) := by decide +kernel
theorem dX11_cut_109 : decode cX11_cut 109 = .ok (.goto (-53), 3) := by decide +kernel
theorem dX11_cut_112 : decode cX11_cut 112 = .ok (.iload_n 3, 1) := by decide +kernel
theorem dX11_cut_113 : decode cX11_cut 113 = .ok (.ifCond .ne 8, 3) := by decide +kernel
theorem dX11_cut_116 : decode cX11_cut 116 = .ok (.iload 5, 2) := by decide +kernel
theorem dX11_cut_118 : decode cX11_cut 118 = .ok (.goto 5, 3) := by decide +kernel
theorem dX11_cut_121 : decode cX11_cut 121 = .ok (.iload 4, 2) := by decide +kernel
theorem dX11_cut_123 : decode cX11_cut 123 = .ok (.ireturn, 1) := by decide +kernel
theorem dX11_heir_0 : decode cX11_heir 0 = .ok (.iload_n 1, 1) := by decide +kernel
theorem dX11_heir_1 : decode cX11_heir 1 = .ok (.iconst 1, 1) := by decide +kernel
theorem dX11_heir_2 : decode cX11_heir 2 = .ok (.bipush 12, 2) := by decide +kernel
theorem dX11_heir_4 : decode cX11_heir 4 = .ok (.invokestatic 111, 3) := by decide +kernel
theorem dX11_heir_7 : decode cX11_heir 7 = .ok (.ifCond .eq 31, 3) := by decide +kernel
theorem dX11_heir_10 : decode cX11_heir 10 = .ok (.iload_n 2, 1) := by decide +kernel
theorem dX11_heir_11 : decode cX11_heir 11 = .ok (.iconst 0, 1) := by decide +kernel
theorem dX11_heir_12 : decode cX11_heir 12 = .ok (.sipush 3060, 3) := by decide +kernel
theorem dX11_heir_15 : decode cX11_heir 15 = .ok (.invokestatic 111, 3) := by decide +kernel
theorem dX11_heir_18 : decode cX11_heir 18 = .ok (.ifCond .eq 20, 3) := by decide +kernel
theorem dX11_heir_21 : decode cX11_heir 21 = .ok (.iload_n 3, 1) := by decide +kernel
theorem dX11_heir_22 : decode cX11_heir 22 = .ok (.iconst 0, 1) := by decide +kernel
theorem dX11_heir_23 : decode cX11_heir 23 = .ok (.iconst 1, 1) := by decide +kernel
theorem dX11_heir_24 : decode cX11_heir 24 = .ok (.invokestatic 111, 3) := by decide +kernel
theorem dX11_heir_27 : decode cX11_heir 27 = .ok (.ifCond .eq 11, 3) := by decide +kernel
theorem dX11_heir_30 : decode cX11_heir 30 = .ok (.iload_n 1, 1) := by decide +kernel
theorem dX11_heir_31 : decode cX11_heir 31 = .ok (.aload_n 0, 1) := by decide +kernel
theorem dX11_heir_32 : decode cX11_heir 32 = .ok (.getfield 146, 3) := by decide +kernel
theorem dX11_heir_35 : decode cX11_heir 35 = .ok (.if_icmp .le 5, 3) := by decide +kernel
theorem dX11_heir_38 : decode cX11_heir 38 = .ok (.iconst (-1), 1) := by decide +kernel
theorem dX11_heir_39 : decode cX11_heir 39 = .ok (.ireturn, 1) := by decide +kernel
theorem dX11_heir_40 : decode cX11_heir 40 = .ok (.aload_n 0, 1) := by decide +kernel
theorem dX11_heir_41 : decode cX11_heir 41 = .ok (.iconst 0, 1) := by decide +kernel
theorem dX11_heir_42 : decode cX11_heir 42 = .ok (.putfield 146, 3) := by decide +kernel
theorem dX11_heir_45 : decode cX11_heir 45 = .ok (.iconst 0, 1) := by decide +kernel
theorem dX11_heir_46 : decode cX11_heir 46 = .ok (.istore 4, 2) := by decide +kernel
theorem dX11_heir_48 : decode cX11_heir 48 = .ok (.bipush (-2), 2) := by decide +kernel
theorem dX11_heir_50 : decode cX11_heir 50 = .ok (.istore 5, 2) := by decide +kernel
theorem dX11_heir_52 : decode cX11_heir 52 = .ok (.iconst 0, 1) := by decide +kernel
theorem dX11_heir_53 : decode cX11_heir 53 = .ok (.istore 6, 2) := by decide +kernel
theorem dX11_heir_55 : decode cX11_heir 55 = .ok (.iload 6, 2) := by decide +kernel
theorem dX11_heir_57 : decode cX11_heir 57 = .ok (.iconst 1, 1) := by decide +kernel
theorem dX11_heir_58 : decode cX11_heir 58 = .ok (.iload_n 1, 1) := by decide +kernel
theorem dX11_heir_59 : decode cX11_heir 59 = .ok (.ishl, 1) := by decide +kernel
theorem dX11_heir_60 : decode cX11_heir 60 = .ok (.if_icmp .ge 55, 3) := by decide +kernel
theorem dX11_heir_63 : decode cX11_heir 63 = .ok (.aload_n 0, 1) := by decide +kernel
theorem dX11_heir_64 : decode cX11_heir 64 = .ok (.iload 6, 2) := by decide +kernel
theorem dX11_heir_66 : decode cX11_heir 66 = .ok (.iload_n 1, 1) := by decide +kernel
theorem dX11_heir_67 : decode cX11_heir 67 = .ok (.iconst 0, 1) := by decide +kernel
theorem dX11_heir_68 : decode cX11_heir 68 = .ok (.iconst 1, 1) := by decide +kernel
theorem dX11_heir_69 : decode cX11_heir 69 = .ok (.invokevirtual 341, 3) := by decide +kernel
theorem dX11_heir_72 : decode cX11_heir 72 = .ok (.iload_n 2, 1) := by decide +kernel
theorem dX11_heir_73 : decode cX11_heir 73 = .ok (.if_icmp .eq 6, 3) := by decide +kernel
theorem dX11_heir_76 : decode cX11_heir 76 = .ok (.goto 33, 3) := by decide +kernel
theorem dX11_heir_79 : decode cX11_heir 79 = .ok (.iload 4, 2) := by decide +kernel
theorem dX11_heir_81 : decode cX11_heir 81 = .ok (.iconst 1, 1) := by decide +kernel
theorem dX11_heir_82 : decode cX11_heir 82 = .ok (.iadd, 1) := by decide +kernel
theorem dX11_heir_83 : decode cX11_heir 83 = .ok (.istore 4, 2) := by decide +kernel
theorem dX11_heir_85 : decode cX11_heir 85 = .ok (.iload 5, 2) := by decide +kernel
theorem dX11_heir_87 : decode cX11_heir 87 = .ok (.bipush (-2), 2) := by decide +kernel
theorem dX11_heir_89 : decode cX11_heir 89 = .ok (.if_icmp .eq 16, 3) := by decide +kernel
theorem dX11_heir_92 : decode cX11_heir 92 = .ok (.iload 6, 2) := by decide +kernel
theorem dX11_heir_94 : decode cX11_heir 94 = .ok (.invokestatic 345, 3) := by decide +kernel
theorem dX11_heir_97 : decode cX11_heir 97 = .ok (.iload 5, 2) := by decide +kernel
theorem dX11_heir_99 : decode cX11_heir 99 = .ok (.invokestatic 345, 3) := by decide +kernel
theorem dX11_heir_102 : decode cX11_heir 102 = .ok (.if_icmp .ge 7, 3) := by decide +kernel
theorem dX11_heir_105 : decode cX11_heir 105 = .ok (.iload 6, 2) := by decide +kernel
theorem dX11_heir_107 : decode cX11_heir 107 = .ok (.istore 5, 2) := by decide +kernel
theorem dX11_heir_109 : decode cX11_heir 109 = .ok (.iinc 6 1, 3) := by decide +kernel
theorem dX11_heir_112 : decode cX11_heir 112 = .ok (.goto (-57), 3) := by decide +kernel
theorem dX11_heir_115 : decode cX11_heir 115 = .ok (.iload_n 3, 1) := by decide +kernel
theorem dX11_heir_116 : decode cX11_heir 116 = .ok (.ifCond .ne 8, 3) := by decide +kernel
theorem dX11_heir_119 : decode cX11_heir 119 = .ok (.iload 4, 2) := by decide +kernel
theorem dX11_heir_121 : decode cX11_heir 121 = .ok (.goto 5, 3) := by decide +kernel
theorem dX11_heir_124 : decode cX11_heir 124 = .ok (.iload 5, 2) := by decide +kernel
theorem dX11_heir_126 : decode cX11_heir 126 = .ok (.ireturn, 1) := by decide +kernel
theorem dX11_atOnceIn_0 : decode cX11_atOnceIn 0 = .ok (.iconst 0, 1) := by decide +kernel
theorem dX11_atOnceIn_1 : decode cX11_atOnceIn 1 = .ok (.istore_n 3, 1) := by decide +kernel
theorem dX11_atOnceIn_2 : decode cX11_atOnceIn 2 = .ok (.iconst 0, 1) := by decide +kernel
theorem dX11_atOnceIn_3 : decode cX11_atOnceIn 3 = .ok (.istore 4, 2) := by decide +kernel
theorem dX11_atOnceIn_5 : decode cX11_atOnceIn 5 = .ok (.iload 4, 2) := by decide +kernel
theorem dX11_atOnceIn_7 : decode cX11_atOnceIn 7 = .ok (.iload_n 1, 1) := by decide +kernel
theorem dX11_atOnceIn_8 : decode cX11_atOnceIn 8 = .ok (.if_icmp .ge 48, 3) := by decide +kernel
theorem dX11_atOnceIn_11 : decode cX11_atOnceIn 11 = .ok (.aload_n 0, 1) := by decide +kernel
theorem dX11_atOnceIn_12 : decode cX11_atOnceIn 12 = .ok (.iconst 2, 1) := by decide +kernel
theorem dX11_atOnceIn_13 : decode cX11_atOnceIn 13 = .ok (.iload 4, 2) := by decide +kernel
theorem dX11_atOnceIn_15 : decode cX11_atOnceIn 15 = .ok (.imul, 1) := by decide +kernel
theorem dX11_atOnceIn_16 : decode cX11_atOnceIn 16 = .ok (.invokevirtual 338, 3) := by decide +kernel
theorem dX11_atOnceIn_19 : decode cX11_atOnceIn 19 = .ok (.iload_n 2, 1) := by decide +kernel
theorem dX11_atOnceIn_20 : decode cX11_atOnceIn 20 = .ok (.if_icmp .gt 30, 3) := by decide +kernel
theorem dX11_atOnceIn_23 : decode cX11_atOnceIn 23 = .ok (.iload_n 2, 1) := by decide +kernel
theorem dX11_atOnceIn_24 : decode cX11_atOnceIn 24 = .ok (.aload_n 0, 1) := by decide +kernel
theorem dX11_atOnceIn_25 : decode cX11_atOnceIn 25 = .ok (.iconst 2, 1) := by decide +kernel
theorem dX11_atOnceIn_26 : decode cX11_atOnceIn 26 = .ok (.iload 4, 2) := by decide +kernel
theorem dX11_atOnceIn_28 : decode cX11_atOnceIn 28 = .ok (.imul, 1) := by decide +kernel
theorem dX11_atOnceIn_29 : decode cX11_atOnceIn 29 = .ok (.invokevirtual 338, 3) := by decide +kernel
theorem dX11_atOnceIn_32 : decode cX11_atOnceIn 32 = .ok (.aload_n 0, 1) := by decide +kernel
theorem dX11_atOnceIn_33 : decode cX11_atOnceIn 33 = .ok (.iconst 2, 1) := by decide +kernel
theorem dX11_atOnceIn_34 : decode cX11_atOnceIn 34 = .ok (.iload 4, 2) := by decide +kernel
theorem dX11_atOnceIn_36 : decode cX11_atOnceIn 36 = .ok (.imul, 1) := by decide +kernel
theorem dX11_atOnceIn_37 : decode cX11_atOnceIn 37 = .ok (.iconst 1, 1) := by decide +kernel
theorem dX11_atOnceIn_38 : decode cX11_atOnceIn 38 = .ok (.iadd, 1) := by decide +kernel
theorem dX11_atOnceIn_39 : decode cX11_atOnceIn 39 = .ok (.invokevirtual 338, 3) := by decide +kernel
theorem dX11_atOnceIn_42 : decode cX11_atOnceIn 42 = .ok (.iadd, 1) := by decide +kernel
theorem dX11_atOnceIn_43 : decode cX11_atOnceIn 43 = .ok (.if_icmp .ge 7, 3) := by decide +kernel
theorem dX11_atOnceIn_46 : decode cX11_atOnceIn 46 = .ok (.iload_n 3, 1) := by decide +kernel
theorem dX11_atOnceIn_47 : decode cX11_atOnceIn 47 = .ok (.iconst 1, 1) := by decide +kernel
theorem dX11_atOnceIn_48 : decode cX11_atOnceIn 48 = .ok (.iadd, 1) := by decide +kernel
theorem dX11_atOnceIn_49 : decode cX11_atOnceIn 49 = .ok (.istore_n 3, 1) := by decide +kernel
theorem dX11_atOnceIn_50 : decode cX11_atOnceIn 50 = .ok (.iinc 4 1, 3) := by decide +kernel
theorem dX11_atOnceIn_53 : decode cX11_atOnceIn 53 = .ok (.goto (-48), 3) := by decide +kernel
theorem dX11_atOnceIn_56 : decode cX11_atOnceIn 56 = .ok (.iload_n 3, 1) := by decide +kernel
theorem dX11_atOnceIn_57 : decode cX11_atOnceIn 57 = .ok (.ireturn, 1) := by decide +kernel
theorem dX11_laysRow_0 : decode cX11_laysRow 0 = .ok (.iconst 0, 1) := by decide +kernel
theorem dX11_laysRow_1 : decode cX11_laysRow 1 = .ok (.istore_n 2, 1) := by decide +kernel
theorem dX11_laysRow_2 : decode cX11_laysRow 2 = .ok (.iload_n 2, 1) := by decide +kernel
theorem dX11_laysRow_3 : decode cX11_laysRow 3 = .ok (.iload_n 1, 1) := by decide +kernel
theorem dX11_laysRow_4 : decode cX11_laysRow 4 = .ok (.if_icmp .ge 67, 3) := by decide +kernel
theorem dX11_laysRow_7 : decode cX11_laysRow 7 = .ok (.iload_n 2, 1) := by decide +kernel
theorem dX11_laysRow_8 : decode cX11_laysRow 8 = .ok (.istore_n 3, 1) := by decide +kernel
theorem dX11_laysRow_9 : decode cX11_laysRow 9 = .ok (.iload_n 3, 1) := by decide +kernel
theorem dX11_laysRow_10 : decode cX11_laysRow 10 = .ok (.ifCond .le 48, 3) := by decide +kernel
theorem dX11_laysRow_13 : decode cX11_laysRow 13 = .ok (.aload_n 0, 1) := by decide +kernel
theorem dX11_laysRow_14 : decode cX11_laysRow 14 = .ok (.iconst 2, 1) := by decide +kernel
theorem dX11_laysRow_15 : decode cX11_laysRow 15 = .ok (.aload_n 0, 1) := by decide +kernel
theorem dX11_laysRow_16 : decode cX11_laysRow 16 = .ok (.getfield 80, 3) := by decide +kernel
theorem dX11_laysRow_19 : decode cX11_laysRow 19 = .ok (.iload_n 3, 1) := by decide +kernel
theorem dX11_laysRow_20 : decode cX11_laysRow 20 = .ok (.iconst 1, 1) := by decide +kernel
theorem dX11_laysRow_21 : decode cX11_laysRow 21 = .ok (.isub, 1) := by decide +kernel
theorem dX11_laysRow_22 : decode cX11_laysRow 22 = .ok (.iaload, 1) := by decide +kernel
theorem dX11_laysRow_23 : decode cX11_laysRow 23 = .ok (.imul, 1) := by decide +kernel
theorem dX11_laysRow_24 : decode cX11_laysRow 24 = .ok (.invokevirtual 338, 3) := by decide +kernel
theorem dX11_laysRow_27 : decode cX11_laysRow 27 = .ok (.aload_n 0, 1) := by decide +kernel
theorem dX11_laysRow_28 : decode cX11_laysRow 28 = .ok (.iconst 2, 1) := by decide +kernel
theorem dX11_laysRow_29 : decode cX11_laysRow 29 = .ok (.iload_n 2, 1) := by decide +kernel
theorem dX11_laysRow_30 : decode cX11_laysRow 30 = .ok (.imul, 1) := by decide +kernel
theorem dX11_laysRow_31 : decode cX11_laysRow 31 = .ok (.invokevirtual 338, 3) := by decide +kernel
theorem dX11_laysRow_34 : decode cX11_laysRow 34 = .ok (.if_icmp .le 24, 3) := by decide +kernel
theorem dX11_laysRow_37 : decode cX11_laysRow 37 = .ok (.aload_n 0, 1) := by decide +kernel
theorem dX11_laysRow_38 : decode cX11_laysRow 38 = .ok (.getfield 80, 3) := by decide +kernel
theorem dX11_laysRow_41 : decode cX11_laysRow 41 = .ok (.iload_n 3, 1) := by decide +kernel
theorem dX11_laysRow_42 : decode cX11_laysRow 42 = .ok (.aload_n 0, 1) := by decide +kernel
theorem dX11_laysRow_43 : decode cX11_laysRow 43 = .ok (.getfield 80, 3) := by decide +kernel
theorem dX11_laysRow_46 : decode cX11_laysRow 46 = .ok (.iload_n 3, 1) := by decide +kernel
theorem dX11_laysRow_47 : decode cX11_laysRow 47 = .ok (.iconst 1, 1) := by decide +kernel
theorem dX11_laysRow_48 : decode cX11_laysRow 48 = .ok (.isub, 1) := by decide +kernel
theorem dX11_laysRow_49 : decode cX11_laysRow 49 = .ok (.iaload, 1) := by decide +kernel
theorem dX11_laysRow_50 : decode cX11_laysRow 50 = .ok (.iastore, 1) := by decide +kernel
theorem dX11_laysRow_51 : decode cX11_laysRow 51 = .ok (.iload_n 3, 1) := by decide +kernel
theorem dX11_laysRow_52 : decode cX11_laysRow 52 = .ok (.iconst 1, 1) := by decide +kernel
theorem dX11_laysRow_53 : decode cX11_laysRow 53 = .ok (.isub, 1) := by decide +kernel
theorem dX11_laysRow_54 : decode cX11_laysRow 54 = .ok (.istore_n 3, 1) := by decide +kernel
theorem dX11_laysRow_55 : decode cX11_laysRow 55 = .ok (.goto (-46), 3) := by decide +kernel
theorem dX11_laysRow_58 : decode cX11_laysRow 58 = .ok (.aload_n 0, 1) := by decide +kernel
theorem dX11_laysRow_59 : decode cX11_laysRow 59 = .ok (.getfield 80, 3) := by decide +kernel
theorem dX11_laysRow_62 : decode cX11_laysRow 62 = .ok (.iload_n 3, 1) := by decide +kernel
theorem dX11_laysRow_63 : decode cX11_laysRow 63 = .ok (.iload_n 2, 1) := by decide +kernel
theorem dX11_laysRow_64 : decode cX11_laysRow 64 = .ok (.iastore, 1) := by decide +kernel
theorem dX11_laysRow_65 : decode cX11_laysRow 65 = .ok (.iinc 2 1, 3) := by decide +kernel
theorem dX11_laysRow_68 : decode cX11_laysRow 68 = .ok (.goto (-66), 3) := by decide +kernel
theorem dX11_laysRow_71 : decode cX11_laysRow 71 = .ok (.return_, 1) := by decide +kernel
theorem dX11_areEnough_0 : decode cX11_areEnough 0 = .ok (.iconst 0, 1) := by decide +kernel
theorem dX11_areEnough_1 : decode cX11_areEnough 1 = .ok (.istore 4, 2) := by decide +kernel
theorem dX11_areEnough_3 : decode cX11_areEnough 3 = .ok (.iload 4, 2) := by decide +kernel
theorem dX11_areEnough_5 : decode cX11_areEnough 5 = .ok (.iload_n 2, 1) := by decide +kernel
theorem dX11_areEnough_6 : decode cX11_areEnough 6 = .ok (.if_icmp .ge 17, 3) := by decide +kernel
theorem dX11_areEnough_9 : decode cX11_areEnough 9 = .ok (.aload_n 0, 1) := by decide +kernel
theorem dX11_areEnough_10 : decode cX11_areEnough 10 = .ok (.getfield 83, 3) := by decide +kernel
theorem dX11_areEnough_13 : decode cX11_areEnough 13 = .ok (.iload 4, 2) := by decide +kernel
theorem dX11_areEnough_15 : decode cX11_areEnough 15 = .ok (.iconst 0, 1) := by decide +kernel
theorem dX11_areEnough_16 : decode cX11_areEnough 16 = .ok (.iastore, 1) := by decide +kernel
theorem dX11_areEnough_17 : decode cX11_areEnough 17 = .ok (.iinc 4 1, 3) := by decide +kernel
theorem dX11_areEnough_20 : decode cX11_areEnough 20 = .ok (.goto (-17), 3) := by decide +kernel
theorem dX11_areEnough_23 : decode cX11_areEnough 23 = .ok (.iconst 0, 1) := by decide +kernel
theorem dX11_areEnough_24 : decode cX11_areEnough 24 = .ok (.istore 4, 2) := by decide +kernel
theorem dX11_areEnough_26 : decode cX11_areEnough 26 = .ok (.iload 4, 2) := by decide +kernel
theorem dX11_areEnough_28 : decode cX11_areEnough 28 = .ok (.iload_n 1, 1) := by decide +kernel
theorem dX11_areEnough_29 : decode cX11_areEnough 29 = .ok (.if_icmp .ge 113, 3) := by decide +kernel
theorem dX11_areEnough_32 : decode cX11_areEnough 32 = .ok (.iconst 0, 1) := by decide +kernel
theorem dX11_areEnough_33 : decode cX11_areEnough 33 = .ok (.istore 5, 2) := by decide +kernel
theorem dX11_areEnough_35 : decode cX11_areEnough 35 = .ok (.iconst 1, 1) := by decide +kernel
theorem dX11_areEnough_36 : decode cX11_areEnough 36 = .ok (.istore 6, 2) := by decide +kernel
theorem dX11_areEnough_38 : decode cX11_areEnough 38 = .ok (.iload 6, 2) := by decide +kernel
theorem dX11_areEnough_40 : decode cX11_areEnough 40 = .ok (.iload_n 2, 1) := by decide +kernel
theorem dX11_areEnough_41 : decode cX11_areEnough 41 = .ok (.if_icmp .ge 30, 3) := by decide +kernel
theorem dX11_areEnough_44 : decode cX11_areEnough 44 = .ok (.aload_n 0, 1) := by decide +kernel
theorem dX11_areEnough_45 : decode cX11_areEnough 45 = .ok (.getfield 83, 3) := by decide +kernel
theorem dX11_areEnough_48 : decode cX11_areEnough 48 = .ok (.iload 6, 2) := by decide +kernel
theorem dX11_areEnough_50 : decode cX11_areEnough 50 = .ok (.iaload, 1) := by decide +kernel
theorem dX11_areEnough_51 : decode cX11_areEnough 51 = .ok (.aload_n 0, 1) := by decide +kernel
theorem dX11_areEnough_52 : decode cX11_areEnough 52 = .ok (.getfield 83, 3) := by decide +kernel
theorem dX11_areEnough_55 : decode cX11_areEnough 55 = .ok (.iload 5, 2) := by decide +kernel
theorem dX11_areEnough_57 : decode cX11_areEnough 57 = .ok (.iaload, 1) := by decide +kernel
theorem dX11_areEnough_58 : decode cX11_areEnough 58 = .ok (.if_icmp .ge 7, 3) := by decide +kernel
theorem dX11_areEnough_61 : decode cX11_areEnough 61 = .ok (.iload 6, 2) := by decide +kernel
theorem dX11_areEnough_63 : decode cX11_areEnough 63 = .ok (.istore 5, 2) := by decide +kernel
theorem dX11_areEnough_65 : decode cX11_areEnough 65 = .ok (.iinc 6 1, 3) := by decide +kernel
theorem dX11_areEnough_68 : decode cX11_areEnough 68 = .ok (.goto (-30), 3) := by decide +kernel
theorem dX11_areEnough_71 : decode cX11_areEnough 71 = .ok (.aload_n 0, 1) := by decide +kernel
theorem dX11_areEnough_72 : decode cX11_areEnough 72 = .ok (.iconst 2, 1) := by decide +kernel
theorem dX11_areEnough_73 : decode cX11_areEnough 73 = .ok (.aload_n 0, 1) := by decide +kernel
theorem dX11_areEnough_74 : decode cX11_areEnough 74 = .ok (.getfield 80, 3) := by decide +kernel
theorem dX11_areEnough_77 : decode cX11_areEnough 77 = .ok (.iload 4, 2) := by decide +kernel
theorem dX11_areEnough_79 : decode cX11_areEnough 79 = .ok (.iaload, 1) := by decide +kernel
theorem dX11_areEnough_80 : decode cX11_areEnough 80 = .ok (.imul, 1) := by decide +kernel
theorem dX11_areEnough_81 : decode cX11_areEnough 81 = .ok (.invokevirtual 338, 3) := by decide +kernel
theorem dX11_areEnough_84 : decode cX11_areEnough 84 = .ok (.istore 6, 2) := by decide +kernel
theorem dX11_areEnough_86 : decode cX11_areEnough 86 = .ok (.iload 6, 2) := by decide +kernel
theorem dX11_areEnough_88 : decode cX11_areEnough 88 = .ok (.aload_n 0, 1) := by decide +kernel
theorem dX11_areEnough_89 : decode cX11_areEnough 89 = .ok (.getfield 83, 3) := by decide +kernel
theorem dX11_areEnough_92 : decode cX11_areEnough 92 = .ok (.iload 5, 2) := by decide +kernel
theorem dX11_areEnough_94 : decode cX11_areEnough 94 = .ok (.iaload, 1) := by decide +kernel
theorem dX11_areEnough_95 : decode cX11_areEnough 95 = .ok (.invokestatic 136, 3) := by decide +kernel
theorem dX11_areEnough_98 : decode cX11_areEnough 98 = .ok (.istore 7, 2) := by decide +kernel
theorem dX11_areEnough_100 : decode cX11_areEnough 100 = .ok (.iload 7, 2) := by decide +kernel
theorem dX11_areEnough_102 : decode cX11_areEnough 102 = .ok (.iload 6, 2) := by decide +kernel
theorem dX11_areEnough_104 : decode cX11_areEnough 104 = .ok (.isub, 1) := by decide +kernel
theorem dX11_areEnough_105 : decode cX11_areEnough 105 = .ok (.iload_n 3, 1) := by decide +kernel
theorem dX11_areEnough_106 : decode cX11_areEnough 106 = .ok (.if_icmp .le 5, 3) := by decide +kernel
theorem dX11_areEnough_109 : decode cX11_areEnough 109 = .ok (.iconst 0, 1) := by decide +kernel
theorem dX11_areEnough_110 : decode cX11_areEnough 110 = .ok (.ireturn, 1) := by decide +kernel
theorem dX11_areEnough_111 : decode cX11_areEnough 111 = .ok (.aload_n 0, 1) := by decide +kernel
theorem dX11_areEnough_112 : decode cX11_areEnough 112 = .ok (.getfield 83, 3) := by decide +kernel
theorem dX11_areEnough_115 : decode cX11_areEnough 115 = .ok (.iload 5, 2) := by decide +kernel
theorem dX11_areEnough_117 : decode cX11_areEnough 117 = .ok (.iload 7, 2) := by decide +kernel
theorem dX11_areEnough_119 : decode cX11_areEnough 119 = .ok (.aload_n 0, 1) := by decide +kernel
theorem dX11_areEnough_120 : decode cX11_areEnough 120 = .ok (.iconst 2, 1) := by decide +kernel
theorem dX11_areEnough_121 : decode cX11_areEnough 121 = .ok (.aload_n 0, 1) := by decide +kernel
theorem dX11_areEnough_122 : decode cX11_areEnough 122 = .ok (.getfield 80, 3) := by decide +kernel
theorem dX11_areEnough_125 : decode cX11_areEnough 125 = .ok (.iload 4, 2) := by decide +kernel
theorem dX11_areEnough_127 : decode cX11_areEnough 127 = .ok (.iaload, 1) := by decide +kernel
theorem dX11_areEnough_128 : decode cX11_areEnough 128 = .ok (.imul, 1) := by decide +kernel
theorem dX11_areEnough_129 : decode cX11_areEnough 129 = .ok (.iconst 1, 1) := by decide +kernel
theorem dX11_areEnough_130 : decode cX11_areEnough 130 = .ok (.iadd, 1) := by decide +kernel
theorem dX11_areEnough_131 : decode cX11_areEnough 131 = .ok (.invokevirtual 338, 3) := by decide +kernel
theorem dX11_areEnough_134 : decode cX11_areEnough 134 = .ok (.iadd, 1) := by decide +kernel
theorem dX11_areEnough_135 : decode cX11_areEnough 135 = .ok (.iastore, 1) := by decide +kernel
theorem dX11_areEnough_136 : decode cX11_areEnough 136 = .ok (.iinc 4 1, 3) := by decide +kernel
theorem dX11_areEnough_139 : decode cX11_areEnough 139 = .ok (.goto (-113), 3) := by decide +kernel
theorem dX11_areEnough_142 : decode cX11_areEnough 142 = .ok (.iconst 1, 1) := by decide +kernel
theorem dX11_areEnough_143 : decode cX11_areEnough 143 = .ok (.ireturn, 1) := by decide +kernel
theorem dX11_busy_0 : decode cX11_busy 0 = .ok (.iload_n 1, 1) := by decide +kernel
theorem dX11_busy_1 : decode cX11_busy 1 = .ok (.iconst 1, 1) := by decide +kernel
theorem dX11_busy_2 : decode cX11_busy 2 = .ok (.bipush 10, 2) := by decide +kernel
theorem dX11_busy_4 : decode cX11_busy 4 = .ok (.invokestatic 111, 3) := by decide +kernel
theorem dX11_busy_7 : decode cX11_busy 7 = .ok (.ifCond .eq 33, 3) := by decide +kernel
theorem dX11_busy_10 : decode cX11_busy 10 = .ok (.iload_n 2, 1) := by decide +kernel
theorem dX11_busy_11 : decode cX11_busy 11 = .ok (.iconst 0, 1) := by decide +kernel
theorem dX11_busy_12 : decode cX11_busy 12 = .ok (.iconst 1, 1) := by decide +kernel
theorem dX11_busy_13 : decode cX11_busy 13 = .ok (.invokestatic 111, 3) := by decide +kernel
theorem dX11_busy_16 : decode cX11_busy 16 = .ok (.ifCond .ne 14, 3) := by decide +kernel
theorem dX11_busy_19 : decode cX11_busy 19 = .ok (.iload_n 2, 1) := by decide +kernel
theorem dX11_busy_20 : decode cX11_busy 20 = .ok (.bipush 100, 2) := by decide +kernel
theorem dX11_busy_22 : decode cX11_busy 22 = .ok (.bipush 120, 2) := by decide +kernel
theorem dX11_busy_24 : decode cX11_busy 24 = .ok (.invokestatic 111, 3) := by decide +kernel
theorem dX11_busy_27 : decode cX11_busy 27 = .ok (.ifCond .eq 13, 3) := by decide +kernel
theorem dX11_busy_30 : decode cX11_busy 30 = .ok (.iconst 2, 1) := by decide +kernel
theorem dX11_busy_31 : decode cX11_busy 31 = .ok (.iload_n 1, 1) := by decide +kernel
theorem dX11_busy_32 : decode cX11_busy 32 = .ok (.imul, 1) := by decide +kernel
theorem dX11_busy_33 : decode cX11_busy 33 = .ok (.aload_n 0, 1) := by decide +kernel
theorem dX11_busy_34 : decode cX11_busy 34 = .ok (.getfield 146, 3) := by decide +kernel
theorem dX11_busy_37 : decode cX11_busy 37 = .ok (.if_icmp .le 5, 3) := by decide +kernel
theorem dX11_busy_40 : decode cX11_busy 40 = .ok (.iconst (-1), 1) := by decide +kernel
theorem dX11_busy_41 : decode cX11_busy 41 = .ok (.ireturn, 1) := by decide +kernel
theorem dX11_busy_42 : decode cX11_busy 42 = .ok (.aload_n 0, 1) := by decide +kernel
theorem dX11_busy_43 : decode cX11_busy 43 = .ok (.iconst 0, 1) := by decide +kernel
theorem dX11_busy_44 : decode cX11_busy 44 = .ok (.putfield 146, 3) := by decide +kernel
theorem dX11_busy_47 : decode cX11_busy 47 = .ok (.iconst 0, 1) := by decide +kernel
theorem dX11_busy_48 : decode cX11_busy 48 = .ok (.istore_n 3, 1) := by decide +kernel
theorem dX11_busy_49 : decode cX11_busy 49 = .ok (.iload_n 3, 1) := by decide +kernel
theorem dX11_busy_50 : decode cX11_busy 50 = .ok (.iload_n 1, 1) := by decide +kernel
theorem dX11_busy_51 : decode cX11_busy 51 = .ok (.if_icmp .ge 24, 3) := by decide +kernel
theorem dX11_busy_54 : decode cX11_busy 54 = .ok (.aload_n 0, 1) := by decide +kernel
theorem dX11_busy_55 : decode cX11_busy 55 = .ok (.iconst 2, 1) := by decide +kernel
theorem dX11_busy_56 : decode cX11_busy 56 = .ok (.iload_n 3, 1) := by decide +kernel
theorem dX11_busy_57 : decode cX11_busy 57 = .ok (.imul, 1) := by decide +kernel
theorem dX11_busy_58 : decode cX11_busy 58 = .ok (.iconst 1, 1) := by decide +kernel
theorem dX11_busy_59 : decode cX11_busy 59 = .ok (.iadd, 1) := by decide +kernel
theorem dX11_busy_60 : decode cX11_busy 60 = .ok (.invokevirtual 338, 3) := by decide +kernel
theorem dX11_busy_63 : decode cX11_busy 63 = .ok (.ifCond .ne 6, 3) := by decide +kernel
theorem dX11_busy_66 : decode cX11_busy 66 = .ok (.bipush (-2), 2) := by decide +kernel
theorem dX11_busy_68 : decode cX11_busy 68 = .ok (.ireturn, 1) := by decide +kernel
theorem dX11_busy_69 : decode cX11_busy 69 = .ok (.iinc 3 1, 3) := by decide +kernel
theorem dX11_busy_72 : decode cX11_busy 72 = .ok (.goto (-23), 3) := by decide +kernel
theorem dX11_busy_75 : decode cX11_busy 75 = .ok (.iload_n 2, 1) := by decide +kernel
theorem dX11_busy_76 : decode cX11_busy 76 = .ok (.bipush 100, 2) := by decide +kernel
theorem dX11_busy_78 : decode cX11_busy 78 = .ok (.if_icmp .lt 32, 3) := by decide +kernel
theorem dX11_busy_81 : decode cX11_busy 81 = .ok (.aload_n 0, 1) := by decide +kernel
theorem dX11_busy_82 : decode cX11_busy 82 = .ok (.iload_n 1, 1) := by decide +kernel
theorem dX11_busy_83 : decode cX11_busy 83 = .ok (.invokevirtual 348, 3) := by decide +kernel
theorem dX11_busy_86 : decode cX11_busy 86 = .ok (.iconst 1, 1) := by decide +kernel
theorem dX11_busy_87 : decode cX11_busy 87 = .ok (.istore_n 3, 1) := by decide +kernel
theorem dX11_busy_88 : decode cX11_busy 88 = .ok (.aload_n 0, 1) := by decide +kernel
theorem dX11_busy_89 : decode cX11_busy 89 = .ok (.iload_n 1, 1) := by decide +kernel
theorem dX11_busy_90 : decode cX11_busy 90 = .ok (.iload_n 3, 1) := by decide +kernel
theorem dX11_busy_91 : decode cX11_busy 91 = .ok (.iload_n 2, 1) := by decide +kernel
theorem dX11_busy_92 : decode cX11_busy 92 = .ok (.bipush 100, 2) := by decide +kernel
theorem dX11_busy_94 : decode cX11_busy 94 = .ok (.isub, 1) := by decide +kernel
theorem dX11_busy_95 : decode cX11_busy 95 = .ok (.invokevirtual 351, 3) := by decide +kernel
theorem dX11_busy_98 : decode cX11_busy 98 = .ok (.ifCond .ne 10, 3) := by decide +kernel
theorem dX11_busy_101 : decode cX11_busy 101 = .ok (.iload_n 3, 1) := by decide +kernel
theorem dX11_busy_102 : decode cX11_busy 102 = .ok (.iconst 1, 1) := by decide +kernel
theorem dX11_busy_103 : decode cX11_busy 103 = .ok (.iadd, 1) := by decide +kernel
theorem dX11_busy_104 : decode cX11_busy 104 = .ok (.istore_n 3, 1) := by decide +kernel
theorem dX11_busy_105 : decode cX11_busy 105 = .ok (.goto (-17), 3) := by decide +kernel
theorem dX11_busy_108 : decode cX11_busy 108 = .ok (.iload_n 3, 1) := by decide +kernel
theorem dX11_busy_109 : decode cX11_busy 109 = .ok (.ireturn, 1) := by decide +kernel
theorem dX11_busy_110 : decode cX11_busy 110 = .ok (.iconst 0, 1) := by decide +kernel
theorem dX11_busy_111 : decode cX11_busy 111 = .ok (.istore_n 3, 1) := by decide +kernel
theorem dX11_busy_112 : decode cX11_busy 112 = .ok (.iconst 0, 1) := by decide +kernel
theorem dX11_busy_113 : decode cX11_busy 113 = .ok (.istore 4, 2) := by decide +kernel
theorem dX11_busy_115 : decode cX11_busy 115 = .ok (.iconst 0, 1) := by decide +kernel
theorem dX11_busy_116 : decode cX11_busy 116 = .ok (.istore 5, 2) := by decide +kernel
theorem dX11_busy_118 : decode cX11_busy 118 = .ok (.iload 5, 2) := by decide +kernel
theorem dX11_busy_120 : decode cX11_busy 120 = .ok (.sipush 512, 3) := by decide +kernel
theorem dX11_busy_123 : decode cX11_busy 123 = .ok (.if_icmp .ge 35, 3) := by decide +kernel
theorem dX11_busy_126 : decode cX11_busy 126 = .ok (.aload_n 0, 1) := by decide +kernel
theorem dX11_busy_127 : decode cX11_busy 127 = .ok (.iload_n 1, 1) := by decide +kernel
theorem dX11_busy_128 : decode cX11_busy 128 = .ok (.iload 5, 2) := by decide +kernel
theorem dX11_busy_130 : decode cX11_busy 130 = .ok (.invokevirtual 354, 3) := by decide +kernel
theorem dX11_busy_133 : decode cX11_busy 133 = .ok (.iload_n 3, 1) := by decide +kernel
theorem dX11_busy_134 : decode cX11_busy 134 = .ok (.if_icmp .gt 6, 3) := by decide +kernel
theorem dX11_busy_137 : decode cX11_busy 137 = .ok (.goto 15, 3) := by decide +kernel
theorem dX11_busy_140 : decode cX11_busy 140 = .ok (.aload_n 0, 1) := by decide +kernel
theorem dX11_busy_141 : decode cX11_busy 141 = .ok (.iload_n 1, 1) := by decide +kernel
theorem dX11_busy_142 : decode cX11_busy 142 = .ok (.iload 5, 2) := by decide +kernel
theorem dX11_busy_144 : decode cX11_busy 144 = .ok (.invokevirtual 354, 3) := by decide +kernel
theorem dX11_busy_147 : decode cX11_busy 147 = .ok (.istore_n 3, 1) := by decide +kernel
theorem dX11_busy_148 : decode cX11_busy 148 = .ok (.iload 5, 2) := by decide +kernel
theorem dX11_busy_150 : decode cX11_busy 150 = .ok (.istore 4, 2) := by decide +kernel
theorem dX11_busy_152 : decode cX11_busy 152 = .ok (.iinc 5 1, 3) := by decide +kernel
theorem dX11_busy_155 : decode cX11_busy 155 = .ok (.goto (-37), 3) := by decide +kernel
theorem dX11_busy_158 : decode cX11_busy 158 = .ok (.iload_n 2, 1) := by decide +kernel
theorem dX11_busy_159 : decode cX11_busy 159 = .ok (.ifCond .ne 7, 3) := by decide +kernel
theorem dX11_busy_162 : decode cX11_busy 162 = .ok (.iload_n 3, 1) := by decide +kernel
theorem dX11_busy_163 : decode cX11_busy 163 = .ok (.goto 5, 3) := by decide +kernel
theorem dX11_busy_166 : decode cX11_busy 166 = .ok (.iload 4, 2) := by decide +kernel
theorem dX11_busy_168 : decode cX11_busy 168 = .ok (.ireturn, 1) := by decide +kernel
theorem dX11_cheapest_0 : decode cX11_cheapest 0 = .ok (.iload_n 1, 1) := by decide +kernel
theorem dX11_cheapest_1 : decode cX11_cheapest 1 = .ok (.iconst 1, 1) := by decide +kernel
theorem dX11_cheapest_2 : decode cX11_cheapest 2 = .ok (.iconst 5, 1) := by decide +kernel
theorem dX11_cheapest_3 : decode cX11_cheapest 3 = .ok (.invokestatic 111, 3) := by decide +kernel
theorem dX11_cheapest_6 : decode cX11_cheapest 6 = .ok (.ifCond .eq 41, 3) := by decide +kernel
theorem dX11_cheapest_9 : decode cX11_cheapest 9 = .ok (.iload_n 2, 1) := by decide +kernel
theorem dX11_cheapest_10 : decode cX11_cheapest 10 = .ok (.iconst 1, 1) := by decide +kernel
theorem dX11_cheapest_11 : decode cX11_cheapest 11 = .ok (.sipush 240, 3) := by decide +kernel
theorem dX11_cheapest_14 : decode cX11_cheapest 14 = .ok (.invokestatic 111, 3) := by decide +kernel
theorem dX11_cheapest_17 : decode cX11_cheapest 17 = .ok (.ifCond .eq 30, 3) := by decide +kernel
theorem dX11_cheapest_20 : decode cX11_cheapest 20 = .ok (.iload_n 3, 1) := by decide +kernel
theorem dX11_cheapest_21 : decode cX11_cheapest 21 = .ok (.iconst 0, 1) := by decide +kernel
theorem dX11_cheapest_22 : decode cX11_cheapest 22 = .ok (.iload_n 1, 1) := by decide +kernel
theorem dX11_cheapest_23 : decode cX11_cheapest 23 = .ok (.iconst 1, 1) := by decide +kernel
theorem dX11_cheapest_24 : decode cX11_cheapest 24 = .ok (.isub, 1) := by decide +kernel
theorem dX11_cheapest_25 : decode cX11_cheapest 25 = .ok (.invokestatic 111, 3) := by decide +kernel
theorem dX11_cheapest_28 : decode cX11_cheapest 28 = .ok (.ifCond .ne 9, 3) := by decide +kernel
theorem dX11_cheapest_31 : decode cX11_cheapest 31 = .ok (.iload_n 3, 1) := by decide +kernel
theorem dX11_cheapest_32 : decode cX11_cheapest 32 = .ok (.bipush 100, 2) := by decide +kernel
theorem dX11_cheapest_34 : decode cX11_cheapest 34 = .ok (.if_icmp .ne 13, 3) := by decide +kernel
theorem dX11_cheapest_37 : decode cX11_cheapest 37 = .ok (.iconst 2, 1) := by decide +kernel
theorem dX11_cheapest_38 : decode cX11_cheapest 38 = .ok (.iload_n 1, 1) := by decide +kernel
theorem dX11_cheapest_39 : decode cX11_cheapest 39 = .ok (.imul, 1) := by decide +kernel
theorem dX11_cheapest_40 : decode cX11_cheapest 40 = .ok (.aload_n 0, 1) := by decide +kernel
theorem dX11_cheapest_41 : decode cX11_cheapest 41 = .ok (.getfield 146, 3) := by decide +kernel
theorem dX11_cheapest_44 : decode cX11_cheapest 44 = .ok (.if_icmp .le 5, 3) := by decide +kernel
theorem dX11_cheapest_47 : decode cX11_cheapest 47 = .ok (.iconst (-1), 1) := by decide +kernel
theorem dX11_cheapest_48 : decode cX11_cheapest 48 = .ok (.ireturn, 1) := by decide +kernel
theorem dX11_cheapest_49 : decode cX11_cheapest 49 = .ok (.aload_n 0, 1) := by decide +kernel
theorem dX11_cheapest_50 : decode cX11_cheapest 50 = .ok (.iconst 0, 1) := by decide +kernel
theorem dX11_cheapest_51 : decode cX11_cheapest 51 = .ok (.putfield 146, 3) := by decide +kernel
theorem dX11_cheapest_54 : decode cX11_cheapest 54 = .ok (.iconst 0, 1) := by decide +kernel
theorem dX11_cheapest_55 : decode cX11_cheapest 55 = .ok (.istore 4, 2) := by decide +kernel
theorem dX11_cheapest_57 : decode cX11_cheapest 57 = .ok (.iload 4, 2) := by decide +kernel
theorem dX11_cheapest_59 : decode cX11_cheapest 59 = .ok (.iload_n 1, 1) := by decide +kernel
theorem dX11_cheapest_60 : decode cX11_cheapest 60 = .ok (.if_icmp .ge 42, 3) := by decide +kernel
theorem dX11_cheapest_63 : decode cX11_cheapest 63 = .ok (.aload_n 0, 1) := by decide +kernel
theorem dX11_cheapest_64 : decode cX11_cheapest 64 = .ok (.iconst 2, 1) := by decide +kernel
theorem dX11_cheapest_65 : decode cX11_cheapest 65 = .ok (.iload 4, 2) := by decide +kernel
theorem dX11_cheapest_67 : decode cX11_cheapest 67 = .ok (.imul, 1) := by decide +kernel
theorem dX11_cheapest_68 : decode cX11_cheapest 68 = .ok (.invokevirtual 338, 3) := by decide +kernel
theorem dX11_cheapest_71 : decode cX11_cheapest 71 = .ok (.iconst 1, 1) := by decide +kernel
theorem dX11_cheapest_72 : decode cX11_cheapest 72 = .ok (.bipush 60, 2) := by decide +kernel
theorem dX11_cheapest_74 : decode cX11_cheapest 74 = .ok (.invokestatic 111, 3) := by decide +kernel
theorem dX11_cheapest_77 : decode cX11_cheapest 77 = .ok (.ifCond .eq 16, 3) := by decide +kernel
theorem dX11_cheapest_80 : decode cX11_cheapest 80 = .ok (.aload_n 0, 1) := by decide +kernel
theorem dX11_cheapest_81 : decode cX11_cheapest 81 = .ok (.iconst 2, 1) := by decide +kernel
theorem dX11_cheapest_82 : decode cX11_cheapest 82 = .ok (.iload 4, 2) := by decide +kernel
theorem dX11_cheapest_84 : decode cX11_cheapest 84 = .ok (.imul, 1) := by decide +kernel
theorem dX11_cheapest_85 : decode cX11_cheapest 85 = .ok (.iconst 1, 1) := by decide +kernel
theorem dX11_cheapest_86 : decode cX11_cheapest 86 = .ok (.iadd, 1) := by decide +kernel
theorem dX11_cheapest_87 : decode cX11_cheapest 87 = .ok (.invokevirtual 338, 3) := by decide +kernel
theorem dX11_cheapest_90 : decode cX11_cheapest 90 = .ok (.ifCond .ne 6, 3) := by decide +kernel
theorem dX11_cheapest_93 : decode cX11_cheapest 93 = .ok (.bipush (-2), 2) := by decide +kernel
theorem dX11_cheapest_95 : decode cX11_cheapest 95 = .ok (.ireturn, 1) := by decide +kernel
theorem dX11_cheapest_96 : decode cX11_cheapest 96 = .ok (.iinc 4 1, 3) := by decide +kernel
theorem dX11_cheapest_99 : decode cX11_cheapest 99 = .ok (.goto (-42), 3) := by decide +kernel
theorem dX11_cheapest_102 : decode cX11_cheapest 102 = .ok (.aload_n 0, 1) := by decide +kernel
theorem dX11_cheapest_103 : decode cX11_cheapest 103 = .ok (.getfield 86, 3) := by decide +kernel
theorem dX11_cheapest_106 : decode cX11_cheapest 106 = .ok (.iconst 0, 1) := by decide +kernel
theorem dX11_cheapest_107 : decode cX11_cheapest 107 = .ok (.iconst 0, 1) := by decide +kernel
theorem dX11_cheapest_108 : decode cX11_cheapest 108 = .ok (.iastore, 1) := by decide +kernel
theorem dX11_cheapest_109 : decode cX11_cheapest 109 = .ok (.iconst 1, 1) := by decide +kernel
theorem dX11_cheapest_110 : decode cX11_cheapest 110 = .ok (.istore 4, 2) := by decide +kernel
theorem dX11_cheapest_112 : decode cX11_cheapest 112 = .ok (.iload 4, 2) := by decide +kernel
theorem dX11_cheapest_114 : decode cX11_cheapest 114 = .ok (.iload_n 2, 1) := by decide +kernel
theorem dX11_cheapest_115 : decode cX11_cheapest 115 = .ok (.if_icmp .gt 82, 3) := by decide +kernel
theorem dX11_cheapest_118 : decode cX11_cheapest 118 = .ok (.aload_n 0, 1) := by decide +kernel
theorem dX11_cheapest_119 : decode cX11_cheapest 119 = .ok (.getfield 86, 3) := by decide +kernel
theorem dX11_cheapest_122 : decode cX11_cheapest 122 = .ok (.iload 4, 2) := by decide +kernel
theorem dX11_cheapest_124 : decode cX11_cheapest 124 = .ok (.ldc_w 357, 3) := by decide +kernel
theorem dX11_cheapest_127 : decode cX11_cheapest 127 = .ok (.iastore, 1) := by decide +kernel
theorem dX11_cheapest_128 : decode cX11_cheapest 128 = .ok (.iconst 0, 1) := by decide +kernel
theorem dX11_cheapest_129 : decode cX11_cheapest 129 = .ok (.istore 5, 2) := by decide +kernel
theorem dX11_cheapest_131 : decode cX11_cheapest 131 = .ok (.iload 5, 2) := by decide +kernel
theorem dX11_cheapest_133 : decode cX11_cheapest 133 = .ok (.iload_n 1, 1) := by decide +kernel
theorem dX11_cheapest_134 : decode cX11_cheapest 134 = .ok (.if_icmp .ge 57, 3) := by decide +kernel
theorem dX11_cheapest_137 : decode cX11_cheapest 137 = .ok (.aload_n 0, 1) := by decide +kernel
theorem dX11_cheapest_138 : decode cX11_cheapest 138 = .ok (.getfield 86, 3) := by decide +kernel
theorem dX11_cheapest_141 : decode cX11_cheapest 141 = .ok (.iload 4, 2) := by decide +kernel
theorem dX11_cheapest_143 : decode cX11_cheapest 143 = .ok (.aload_n 0, 1) := by decide +kernel
theorem dX11_cheapest_144 : decode cX11_cheapest 144 = .ok (.getfield 86, 3) := by decide +kernel
theorem dX11_cheapest_147 : decode cX11_cheapest 147 = .ok (.iload 4, 2) := by decide +kernel
theorem dX11_cheapest_149 : decode cX11_cheapest 149 = .ok (.iaload, 1) := by decide +kernel
theorem dX11_cheapest_150 : decode cX11_cheapest 150 = .ok (.aload_n 0, 1) := by decide +kernel
theorem dX11_cheapest_151 : decode cX11_cheapest 151 = .ok (.iconst 2, 1) := by decide +kernel
theorem dX11_cheapest_152 : decode cX11_cheapest 152 = .ok (.iload 5, 2) := by decide +kernel
theorem dX11_cheapest_154 : decode cX11_cheapest 154 = .ok (.imul, 1) := by decide +kernel
theorem dX11_cheapest_155 : decode cX11_cheapest 155 = .ok (.iconst 1, 1) := by decide +kernel
theorem dX11_cheapest_156 : decode cX11_cheapest 156 = .ok (.iadd, 1) := by decide +kernel
theorem dX11_cheapest_157 : decode cX11_cheapest 157 = .ok (.invokevirtual 338, 3) := by decide +kernel
theorem dX11_cheapest_160 : decode cX11_cheapest 160 = .ok (.aload_n 0, 1) := by decide +kernel
theorem dX11_cheapest_161 : decode cX11_cheapest 161 = .ok (.getfield 86, 3) := by decide +kernel
theorem dX11_cheapest_164 : decode cX11_cheapest 164 = .ok (.iconst 0, 1) := by decide +kernel
theorem dX11_cheapest_165 : decode cX11_cheapest 165 = .ok (.iload 4, 2) := by decide +kernel
theorem dX11_cheapest_167 : decode cX11_cheapest 167 = .ok (.aload_n 0, 1) := by decide +kernel
theorem dX11_cheapest_168 : decode cX11_cheapest 168 = .ok (.iconst 2, 1) := by decide +kernel
theorem dX11_cheapest_169 : decode cX11_cheapest 169 = .ok (.iload 5, 2) := by decide +kernel
theorem dX11_cheapest_171 : decode cX11_cheapest 171 = .ok (.imul, 1) := by decide +kernel
theorem dX11_cheapest_172 : decode cX11_cheapest 172 = .ok (.invokevirtual 338, 3) := by decide +kernel
theorem dX11_cheapest_175 : decode cX11_cheapest 175 = .ok (.isub, 1) := by decide +kernel
theorem dX11_cheapest_176 : decode cX11_cheapest 176 = .ok (.invokestatic 136, 3) := by decide +kernel
theorem dX11_cheapest_179 : decode cX11_cheapest 179 = .ok (.iaload, 1) := by decide +kernel
theorem dX11_cheapest_180 : decode cX11_cheapest 180 = .ok (.iadd, 1) := by decide +kernel
theorem dX11_cheapest_181 : decode cX11_cheapest 181 = .ok (.invokestatic 257, 3) := by decide +kernel
theorem dX11_cheapest_184 : decode cX11_cheapest 184 = .ok (.iastore, 1) := by decide +kernel
theorem dX11_cheapest_185 : decode cX11_cheapest 185 = .ok (.iinc 5 1, 3) := by decide +kernel
theorem dX11_cheapest_188 : decode cX11_cheapest 188 = .ok (.goto (-57), 3) := by decide +kernel
theorem dX11_cheapest_191 : decode cX11_cheapest 191 = .ok (.iinc 4 1, 3) := by decide +kernel
theorem dX11_cheapest_194 : decode cX11_cheapest 194 = .ok (.goto (-82), 3) := by decide +kernel
theorem dX11_cheapest_197 : decode cX11_cheapest 197 = .ok (.iload_n 3, 1) := by decide +kernel
theorem dX11_cheapest_198 : decode cX11_cheapest 198 = .ok (.bipush 100, 2) := by decide +kernel
theorem dX11_cheapest_200 : decode cX11_cheapest 200 = .ok (.if_icmp .ne 10, 3) := by decide +kernel
theorem dX11_cheapest_203 : decode cX11_cheapest 203 = .ok (.aload_n 0, 1) := by decide +kernel
theorem dX11_cheapest_204 : decode cX11_cheapest 204 = .ok (.getfield 86, 3) := by decide +kernel
theorem dX11_cheapest_207 : decode cX11_cheapest 207 = .ok (.iload_n 2, 1) := by decide +kernel
theorem dX11_cheapest_208 : decode cX11_cheapest 208 = .ok (.iaload, 1) := by decide +kernel
theorem dX11_cheapest_209 : decode cX11_cheapest 209 = .ok (.ireturn, 1) := by decide +kernel
theorem dX11_cheapest_210 : decode cX11_cheapest 210 = .ok (.aload_n 0, 1) := by decide +kernel
theorem dX11_cheapest_211 : decode cX11_cheapest 211 = .ok (.iload_n 1, 1) := by decide +kernel
theorem dX11_cheapest_212 : decode cX11_cheapest 212 = .ok (.iload_n 2, 1) := by decide +kernel
theorem dX11_cheapest_213 : decode cX11_cheapest 213 = .ok (.iload_n 3, 1) := by decide +kernel
theorem dX11_cheapest_214 : decode cX11_cheapest 214 = .ok (.invokevirtual 358, 3) := by decide +kernel
theorem dX11_cheapest_217 : decode cX11_cheapest 217 = .ok (.ireturn, 1) := by decide +kernel
theorem dX11_laysPence_0 : decode cX11_laysPence 0 = .ok (.iconst 0, 1) := by decide +kernel
theorem dX11_laysPence_1 : decode cX11_laysPence 1 = .ok (.istore_n 3, 1) := by decide +kernel
theorem dX11_laysPence_2 : decode cX11_laysPence 2 = .ok (.iload_n 3, 1) := by decide +kernel
theorem dX11_laysPence_3 : decode cX11_laysPence 3 = .ok (.iload_n 2, 1) := by decide +kernel
theorem dX11_laysPence_4 : decode cX11_laysPence 4 = .ok (.if_icmp .gt 32, 3) := by decide +kernel
theorem dX11_laysPence_7 : decode cX11_laysPence 7 = .ok (.aload_n 0, 1) := by decide +kernel
theorem dX11_laysPence_8 : decode cX11_laysPence 8 = .ok (.getfield 89, 3) := by decide +kernel
theorem dX11_laysPence_11 : decode cX11_laysPence 11 = .ok (.sipush 241, 3) := by decide +kernel
theorem dX11_laysPence_14 : decode cX11_laysPence 14 = .ok (.iload_n 1, 1) := by decide +kernel
theorem dX11_laysPence_15 : decode cX11_laysPence 15 = .ok (.imul, 1) := by decide +kernel
theorem dX11_laysPence_16 : decode cX11_laysPence 16 = .ok (.iload_n 3, 1) := by decide +kernel
theorem dX11_laysPence_17 : decode cX11_laysPence 17 = .ok (.iadd, 1) := by decide +kernel
theorem dX11_laysPence_18 : decode cX11_laysPence 18 = .ok (.iload_n 3, 1) := by decide +kernel
theorem dX11_laysPence_19 : decode cX11_laysPence 19 = .ok (.ifCond .ne 7, 3) := by decide +kernel
theorem dX11_laysPence_22 : decode cX11_laysPence 22 = .ok (.iconst 0, 1) := by decide +kernel
theorem dX11_laysPence_23 : decode cX11_laysPence 23 = .ok (.goto 6, 3) := by decide +kernel
theorem dX11_laysPence_26 : decode cX11_laysPence 26 = .ok (.ldc_w 357, 3) := by decide +kernel
theorem dX11_laysPence_29 : decode cX11_laysPence 29 = .ok (.iastore, 1) := by decide +kernel
theorem dX11_laysPence_30 : decode cX11_laysPence 30 = .ok (.iinc 3 1, 3) := by decide +kernel
theorem dX11_laysPence_33 : decode cX11_laysPence 33 = .ok (.goto (-31), 3) := by decide +kernel
theorem dX11_laysPence_36 : decode cX11_laysPence 36 = .ok (.iload_n 1, 1) := by decide +kernel
theorem dX11_laysPence_37 : decode cX11_laysPence 37 = .ok (.iconst 1, 1) := by decide +kernel
theorem dX11_laysPence_38 : decode cX11_laysPence 38 = .ok (.isub, 1) := by decide +kernel
theorem dX11_laysPence_39 : decode cX11_laysPence 39 = .ok (.istore_n 3, 1) := by decide +kernel
theorem dX11_laysPence_40 : decode cX11_laysPence 40 = .ok (.iload_n 3, 1) := by decide +kernel
theorem dX11_laysPence_41 : decode cX11_laysPence 41 = .ok (.ifCond .lt 103, 3) := by decide +kernel
theorem dX11_laysPence_44 : decode cX11_laysPence 44 = .ok (.iconst 0, 1) := by decide +kernel
theorem dX11_laysPence_45 : decode cX11_laysPence 45 = .ok (.istore 4, 2) := by decide +kernel
theorem dX11_laysPence_47 : decode cX11_laysPence 47 = .ok (.iload 4, 2) := by decide +kernel
theorem dX11_laysPence_49 : decode cX11_laysPence 49 = .ok (.iload_n 2, 1) := by decide +kernel
theorem dX11_laysPence_50 : decode cX11_laysPence 50 = .ok (.if_icmp .gt 88, 3) := by decide +kernel
theorem dX11_laysPence_53 : decode cX11_laysPence 53 = .ok (.aload_n 0, 1) := by decide +kernel
theorem dX11_laysPence_54 : decode cX11_laysPence 54 = .ok (.getfield 89, 3) := by decide +kernel
theorem dX11_laysPence_57 : decode cX11_laysPence 57 = .ok (.sipush 241, 3) := by decide +kernel
theorem dX11_laysPence_60 : decode cX11_laysPence 60 = .ok (.iload_n 3, 1) := by decide +kernel
theorem dX11_laysPence_61 : decode cX11_laysPence 61 = .ok (.iconst 1, 1) := by decide +kernel
theorem dX11_laysPence_62 : decode cX11_laysPence 62 = .ok (.iadd, 1) := by decide +kernel
theorem dX11_laysPence_63 : decode cX11_laysPence 63 = .ok (.imul, 1) := by decide +kernel
theorem dX11_laysPence_64 : decode cX11_laysPence 64 = .ok (.iload 4, 2) := by decide +kernel
theorem dX11_laysPence_66 : decode cX11_laysPence 66 = .ok (.iadd, 1) := by decide +kernel
theorem dX11_laysPence_67 : decode cX11_laysPence 67 = .ok (.iaload, 1) := by decide +kernel
theorem dX11_laysPence_68 : decode cX11_laysPence 68 = .ok (.istore 5, 2) := by decide +kernel
theorem dX11_laysPence_70 : decode cX11_laysPence 70 = .ok (.iload 4, 2) := by decide +kernel
theorem dX11_laysPence_72 : decode cX11_laysPence 72 = .ok (.ifCond .le 45, 3) := by decide +kernel
theorem dX11_laysPence_75 : decode cX11_laysPence 75 = .ok (.iload 5, 2) := by decide +kernel
theorem dX11_laysPence_77 : decode cX11_laysPence 77 = .ok (.aload_n 0, 1) := by decide +kernel
theorem dX11_laysPence_78 : decode cX11_laysPence 78 = .ok (.iconst 2, 1) := by decide +kernel
theorem dX11_laysPence_79 : decode cX11_laysPence 79 = .ok (.iload_n 3, 1) := by decide +kernel
theorem dX11_laysPence_80 : decode cX11_laysPence 80 = .ok (.imul, 1) := by decide +kernel
theorem dX11_laysPence_81 : decode cX11_laysPence 81 = .ok (.iconst 1, 1) := by decide +kernel
theorem dX11_laysPence_82 : decode cX11_laysPence 82 = .ok (.iadd, 1) := by decide +kernel
theorem dX11_laysPence_83 : decode cX11_laysPence 83 = .ok (.invokevirtual 338, 3) := by decide +kernel
theorem dX11_laysPence_86 : decode cX11_laysPence 86 = .ok (.aload_n 0, 1) := by decide +kernel
theorem dX11_laysPence_87 : decode cX11_laysPence 87 = .ok (.getfield 89, 3) := by decide +kernel
theorem dX11_laysPence_90 : decode cX11_laysPence 90 = .ok (.sipush 241, 3) := by decide +kernel
theorem dX11_laysPence_93 : decode cX11_laysPence 93 = .ok (.iload_n 3, 1) := by decide +kernel
theorem dX11_laysPence_94 : decode cX11_laysPence 94 = .ok (.imul, 1) := by decide +kernel
theorem dX11_laysPence_95 : decode cX11_laysPence 95 = .ok (.iconst 0, 1) := by decide +kernel
theorem dX11_laysPence_96 : decode cX11_laysPence 96 = .ok (.iload 4, 2) := by decide +kernel
theorem dX11_laysPence_98 : decode cX11_laysPence 98 = .ok (.aload_n 0, 1) := by decide +kernel
theorem dX11_laysPence_99 : decode cX11_laysPence 99 = .ok (.iconst 2, 1) := by decide +kernel
theorem dX11_laysPence_100 : decode cX11_laysPence 100 = .ok (.iload_n 3, 1) := by decide +kernel
theorem dX11_laysPence_101 : decode cX11_laysPence 101 = .ok (.imul, 1) := by decide +kernel
theorem dX11_laysPence_102 : decode cX11_laysPence 102 = .ok (.invokevirtual 338, 3) := by decide +kernel
theorem dX11_laysPence_105 : decode cX11_laysPence 105 = .ok (.isub, 1) := by decide +kernel
theorem dX11_laysPence_106 : decode cX11_laysPence 106 = .ok (.invokestatic 136, 3) := by decide +kernel
theorem dX11_laysPence_109 : decode cX11_laysPence 109 = .ok (.iadd, 1) := by decide +kernel
theorem dX11_laysPence_110 : decode cX11_laysPence 110 = .ok (.iaload, 1) := by decide +kernel
theorem dX11_laysPence_111 : decode cX11_laysPence 111 = .ok (.iadd, 1) := by decide +kernel
theorem dX11_laysPence_112 : decode cX11_laysPence 112 = .ok (.invokestatic 257, 3) := by decide +kernel
theorem dX11_laysPence_115 : decode cX11_laysPence 115 = .ok (.istore 5, 2) := by decide +kernel
theorem dX11_laysPence_117 : decode cX11_laysPence 117 = .ok (.aload_n 0, 1) := by decide +kernel
theorem dX11_laysPence_118 : decode cX11_laysPence 118 = .ok (.getfield 89, 3) := by decide +kernel
theorem dX11_laysPence_121 : decode cX11_laysPence 121 = .ok (.sipush 241, 3) := by decide +kernel
theorem dX11_laysPence_124 : decode cX11_laysPence 124 = .ok (.iload_n 3, 1) := by decide +kernel
theorem dX11_laysPence_125 : decode cX11_laysPence 125 = .ok (.imul, 1) := by decide +kernel
theorem dX11_laysPence_126 : decode cX11_laysPence 126 = .ok (.iload 4, 2) := by decide +kernel
theorem dX11_laysPence_128 : decode cX11_laysPence 128 = .ok (.iadd, 1) := by decide +kernel
theorem dX11_laysPence_129 : decode cX11_laysPence 129 = .ok (.iload 5, 2) := by decide +kernel
theorem dX11_laysPence_131 : decode cX11_laysPence 131 = .ok (.iastore, 1) := by decide +kernel
theorem dX11_laysPence_132 : decode cX11_laysPence 132 = .ok (.iinc 4 1, 3) := by decide +kernel
theorem dX11_laysPence_135 : decode cX11_laysPence 135 = .ok (.goto (-88), 3) := by decide +kernel
theorem dX11_laysPence_138 : decode cX11_laysPence 138 = .ok (.iinc 3 (-1), 3) := by decide +kernel
theorem dX11_laysPence_141 : decode cX11_laysPence 141 = .ok (.goto (-101), 3) := by decide +kernel
theorem dX11_laysPence_144 : decode cX11_laysPence 144 = .ok (.return_, 1) := by decide +kernel
theorem dX11_timesOf_0 : decode cX11_timesOf 0 = .ok (.aload_n 0, 1) := by decide +kernel
theorem dX11_timesOf_1 : decode cX11_timesOf 1 = .ok (.iload_n 1, 1) := by decide +kernel
theorem dX11_timesOf_2 : decode cX11_timesOf 2 = .ok (.iload_n 2, 1) := by decide +kernel
theorem dX11_timesOf_3 : decode cX11_timesOf 3 = .ok (.invokevirtual 361, 3) := by decide +kernel
theorem dX11_timesOf_6 : decode cX11_timesOf 6 = .ok (.iload_n 2, 1) := by decide +kernel
theorem dX11_timesOf_7 : decode cX11_timesOf 7 = .ok (.istore 4, 2) := by decide +kernel
theorem dX11_timesOf_9 : decode cX11_timesOf 9 = .ok (.aload_n 0, 1) := by decide +kernel
theorem dX11_timesOf_10 : decode cX11_timesOf 10 = .ok (.getfield 89, 3) := by decide +kernel
theorem dX11_timesOf_13 : decode cX11_timesOf 13 = .ok (.iload_n 2, 1) := by decide +kernel
theorem dX11_timesOf_14 : decode cX11_timesOf 14 = .ok (.iaload, 1) := by decide +kernel
theorem dX11_timesOf_15 : decode cX11_timesOf 15 = .ok (.istore 5, 2) := by decide +kernel
theorem dX11_timesOf_17 : decode cX11_timesOf 17 = .ok (.iconst 0, 1) := by decide +kernel
theorem dX11_timesOf_18 : decode cX11_timesOf 18 = .ok (.istore 6, 2) := by decide +kernel
theorem dX11_timesOf_20 : decode cX11_timesOf 20 = .ok (.iconst 0, 1) := by decide +kernel
theorem dX11_timesOf_21 : decode cX11_timesOf 21 = .ok (.istore 7, 2) := by decide +kernel
theorem dX11_timesOf_23 : decode cX11_timesOf 23 = .ok (.iload 7, 2) := by decide +kernel
theorem dX11_timesOf_25 : decode cX11_timesOf 25 = .ok (.iload_n 3, 1) := by decide +kernel
theorem dX11_timesOf_26 : decode cX11_timesOf 26 = .ok (.if_icmp .gt 115, 3) := by decide +kernel
theorem dX11_timesOf_29 : decode cX11_timesOf 29 = .ok (.iconst 0, 1) := by decide +kernel
theorem dX11_timesOf_30 : decode cX11_timesOf 30 = .ok (.istore 6, 2) := by decide +kernel
theorem dX11_timesOf_32 : decode cX11_timesOf 32 = .ok (.iconst 1, 1) := by decide +kernel
theorem dX11_timesOf_33 : decode cX11_timesOf 33 = .ok (.istore 8, 2) := by decide +kernel
theorem dX11_timesOf_35 : decode cX11_timesOf 35 = .ok (.iload 8, 2) := by decide +kernel
theorem dX11_timesOf_37 : decode cX11_timesOf 37 = .ok (.ifCond .eq 98, 3) := by decide +kernel
theorem dX11_timesOf_40 : decode cX11_timesOf 40 = .ok (.iconst 0, 1) := by decide +kernel
theorem dX11_timesOf_41 : decode cX11_timesOf 41 = .ok (.iload 4, 2) := by decide +kernel
theorem dX11_timesOf_43 : decode cX11_timesOf 43 = .ok (.aload_n 0, 1) := by decide +kernel
theorem dX11_timesOf_44 : decode cX11_timesOf 44 = .ok (.iconst 2, 1) := by decide +kernel
theorem dX11_timesOf_45 : decode cX11_timesOf 45 = .ok (.iload 7, 2) := by decide +kernel
theorem dX11_timesOf_47 : decode cX11_timesOf 47 = .ok (.imul, 1) := by decide +kernel
theorem dX11_timesOf_48 : decode cX11_timesOf 48 = .ok (.invokevirtual 338, 3) := by decide +kernel
theorem dX11_timesOf_51 : decode cX11_timesOf 51 = .ok (.isub, 1) := by decide +kernel
theorem dX11_timesOf_52 : decode cX11_timesOf 52 = .ok (.invokestatic 136, 3) := by decide +kernel
theorem dX11_timesOf_55 : decode cX11_timesOf 55 = .ok (.istore 9, 2) := by decide +kernel
theorem dX11_timesOf_57 : decode cX11_timesOf 57 = .ok (.iload 4, 2) := by decide +kernel
theorem dX11_timesOf_59 : decode cX11_timesOf 59 = .ok (.ifCond .le 37, 3) := by decide +kernel
theorem dX11_timesOf_62 : decode cX11_timesOf 62 = .ok (.aload_n 0, 1) := by decide +kernel
theorem dX11_timesOf_63 : decode cX11_timesOf 63 = .ok (.iconst 2, 1) := by decide +kernel
theorem dX11_timesOf_64 : decode cX11_timesOf 64 = .ok (.iload 7, 2) := by decide +kernel
theorem dX11_timesOf_66 : decode cX11_timesOf 66 = .ok (.imul, 1) := by decide +kernel
theorem dX11_timesOf_67 : decode cX11_timesOf 67 = .ok (.iconst 1, 1) := by decide +kernel
theorem dX11_timesOf_68 : decode cX11_timesOf 68 = .ok (.iadd, 1) := by decide +kernel
theorem dX11_timesOf_69 : decode cX11_timesOf 69 = .ok (.invokevirtual 338, 3) := by decide +kernel
theorem dX11_timesOf_72 : decode cX11_timesOf 72 = .ok (.aload_n 0, 1) := by decide +kernel
theorem dX11_timesOf_73 : decode cX11_timesOf 73 = .ok (.getfield 89, 3) := by decide +kernel
theorem dX11_timesOf_76 : decode cX11_timesOf 76 = .ok (.sipush 241, 3) := by decide +kernel
theorem dX11_timesOf_79 : decode cX11_timesOf 79 = .ok (.iload 7, 2) := by decide +kernel
theorem dX11_timesOf_81 : decode cX11_timesOf 81 = .ok (.imul, 1) := by decide +kernel
theorem dX11_timesOf_82 : decode cX11_timesOf 82 = .ok (.iload 9, 2) := by decide +kernel
theorem dX11_timesOf_84 : decode cX11_timesOf 84 = .ok (.iadd, 1) := by decide +kernel
theorem dX11_timesOf_85 : decode cX11_timesOf 85 = .ok (.iaload, 1) := by decide +kernel
theorem dX11_timesOf_86 : decode cX11_timesOf 86 = .ok (.iadd, 1) := by decide +kernel
theorem dX11_timesOf_87 : decode cX11_timesOf 87 = .ok (.iload 5, 2) := by decide +kernel
theorem dX11_timesOf_89 : decode cX11_timesOf 89 = .ok (.if_icmp .ne 7, 3) := by decide +kernel
theorem dX11_timesOf_92 : decode cX11_timesOf 92 = .ok (.iconst 1, 1) := by decide +kernel
theorem dX11_timesOf_93 : decode cX11_timesOf 93 = .ok (.goto 4, 3) := by decide +kernel
theorem dX11_timesOf_96 : decode cX11_timesOf 96 = .ok (.iconst 0, 1) := by decide +kernel
theorem dX11_timesOf_97 : decode cX11_timesOf 97 = .ok (.istore 8, 2) := by decide +kernel
theorem dX11_timesOf_99 : decode cX11_timesOf 99 = .ok (.iload 8, 2) := by decide +kernel
theorem dX11_timesOf_101 : decode cX11_timesOf 101 = .ok (.ifCond .ne 6, 3) := by decide +kernel
theorem dX11_timesOf_104 : decode cX11_timesOf 104 = .ok (.goto (-69), 3) := by decide +kernel
theorem dX11_timesOf_107 : decode cX11_timesOf 107 = .ok (.iload 6, 2) := by decide +kernel
theorem dX11_timesOf_109 : decode cX11_timesOf 109 = .ok (.iconst 1, 1) := by decide +kernel
theorem dX11_timesOf_110 : decode cX11_timesOf 110 = .ok (.iadd, 1) := by decide +kernel
theorem dX11_timesOf_111 : decode cX11_timesOf 111 = .ok (.istore 6, 2) := by decide +kernel
theorem dX11_timesOf_113 : decode cX11_timesOf 113 = .ok (.iload 9, 2) := by decide +kernel
theorem dX11_timesOf_115 : decode cX11_timesOf 115 = .ok (.istore 4, 2) := by decide +kernel
theorem dX11_timesOf_117 : decode cX11_timesOf 117 = .ok (.iload 5, 2) := by decide +kernel
theorem dX11_timesOf_119 : decode cX11_timesOf 119 = .ok (.aload_n 0, 1) := by decide +kernel
theorem dX11_timesOf_120 : decode cX11_timesOf 120 = .ok (.iconst 2, 1) := by decide +kernel
theorem dX11_timesOf_121 : decode cX11_timesOf 121 = .ok (.iload 7, 2) := by decide +kernel
theorem dX11_timesOf_123 : decode cX11_timesOf 123 = .ok (.imul, 1) := by decide +kernel
theorem dX11_timesOf_124 : decode cX11_timesOf 124 = .ok (.iconst 1, 1) := by decide +kernel
theorem dX11_timesOf_125 : decode cX11_timesOf 125 = .ok (.iadd, 1) := by decide +kernel
theorem dX11_timesOf_126 : decode cX11_timesOf 126 = .ok (.invokevirtual 338, 3) := by decide +kernel
theorem dX11_timesOf_129 : decode cX11_timesOf 129 = .ok (.isub, 1) := by decide +kernel
theorem dX11_timesOf_130 : decode cX11_timesOf 130 = .ok (.istore 5, 2) := by decide +kernel
theorem dX11_timesOf_132 : decode cX11_timesOf 132 = .ok (.goto (-97), 3) := by decide +kernel
theorem dX11_timesOf_135 : decode cX11_timesOf 135 = .ok (.iinc 7 1, 3) := by decide +kernel
theorem dX11_timesOf_138 : decode cX11_timesOf 138 = .ok (.goto (-115), 3) := by decide +kernel
theorem dX11_timesOf_141 : decode cX11_timesOf 141 = .ok (.iload 6, 2) := by decide +kernel
theorem dX11_timesOf_143 : decode cX11_timesOf 143 = .ok (.ireturn, 1) := by decide +kernel
theorem dX11_longFor_0 : decode cX11_longFor 0 = .ok (.iconst 0, 1) := by decide +kernel
theorem dX11_longFor_1 : decode cX11_longFor 1 = .ok (.istore_n 3, 1) := by decide +kernel
theorem dX11_longFor_2 : decode cX11_longFor 2 = .ok (.iload_n 1, 1) := by decide +kernel
theorem dX11_longFor_3 : decode cX11_longFor 3 = .ok (.iconst 1, 1) := by decide +kernel
theorem dX11_longFor_4 : decode cX11_longFor 4 = .ok (.iadd, 1) := by decide +kernel
theorem dX11_longFor_5 : decode cX11_longFor 5 = .ok (.istore 4, 2) := by decide +kernel
theorem dX11_longFor_7 : decode cX11_longFor 7 = .ok (.iload 4, 2) := by decide +kernel
theorem dX11_longFor_9 : decode cX11_longFor 9 = .ok (.iload_n 2, 1) := by decide +kernel
theorem dX11_longFor_10 : decode cX11_longFor 10 = .ok (.if_icmp .ge 114, 3) := by decide +kernel
theorem dX11_longFor_13 : decode cX11_longFor 13 = .ok (.aload_n 0, 1) := by decide +kernel
theorem dX11_longFor_14 : decode cX11_longFor 14 = .ok (.iload 4, 2) := by decide +kernel
theorem dX11_longFor_16 : decode cX11_longFor 16 = .ok (.invokevirtual 338, 3) := by decide +kernel
theorem dX11_longFor_19 : decode cX11_longFor 19 = .ok (.iload_n 1, 1) := by decide +kernel
theorem dX11_longFor_20 : decode cX11_longFor 20 = .ok (.if_icmp .eq 6, 3) := by decide +kernel
theorem dX11_longFor_23 : decode cX11_longFor 23 = .ok (.goto 95, 3) := by decide +kernel
theorem dX11_longFor_26 : decode cX11_longFor 26 = .ok (.iconst 1, 1) := by decide +kernel
theorem dX11_longFor_27 : decode cX11_longFor 27 = .ok (.istore 5, 2) := by decide +kernel
theorem dX11_longFor_29 : decode cX11_longFor 29 = .ok (.iload_n 1, 1) := by decide +kernel
theorem dX11_longFor_30 : decode cX11_longFor 30 = .ok (.iconst 1, 1) := by decide +kernel
theorem dX11_longFor_31 : decode cX11_longFor 31 = .ok (.iadd, 1) := by decide +kernel
theorem dX11_longFor_32 : decode cX11_longFor 32 = .ok (.istore 6, 2) := by decide +kernel
theorem dX11_longFor_34 : decode cX11_longFor 34 = .ok (.iload 6, 2) := by decide +kernel
theorem dX11_longFor_36 : decode cX11_longFor 36 = .ok (.iload_n 2, 1) := by decide +kernel
theorem dX11_longFor_37 : decode cX11_longFor 37 = .ok (.if_icmp .ge 66, 3) := by decide +kernel
theorem dX11_longFor_40 : decode cX11_longFor 40 = .ok (.aload_n 0, 1) := by decide +kernel
theorem dX11_longFor_41 : decode cX11_longFor 41 = .ok (.iload 6, 2) := by decide +kernel
theorem dX11_longFor_43 : decode cX11_longFor 43 = .ok (.invokevirtual 338, 3) := by decide +kernel
theorem dX11_longFor_46 : decode cX11_longFor 46 = .ok (.iload_n 1, 1) := by decide +kernel
theorem dX11_longFor_47 : decode cX11_longFor 47 = .ok (.if_icmp .ne 50, 3) := by decide +kernel
theorem dX11_longFor_50 : decode cX11_longFor 50 = .ok (.aload_n 0, 1) := by decide +kernel
theorem dX11_longFor_51 : decode cX11_longFor 51 = .ok (.getfield 92, 3) := by decide +kernel
theorem dX11_longFor_54 : decode cX11_longFor 54 = .ok (.iload 6, 2) := by decide +kernel
theorem dX11_longFor_56 : decode cX11_longFor 56 = .ok (.iaload, 1) := by decide +kernel
theorem dX11_longFor_57 : decode cX11_longFor 57 = .ok (.aload_n 0, 1) := by decide +kernel
theorem dX11_longFor_58 : decode cX11_longFor 58 = .ok (.getfield 92, 3) := by decide +kernel
theorem dX11_longFor_61 : decode cX11_longFor 61 = .ok (.iload 4, 2) := by decide +kernel
theorem dX11_longFor_63 : decode cX11_longFor 63 = .ok (.iaload, 1) := by decide +kernel
theorem dX11_longFor_64 : decode cX11_longFor 64 = .ok (.if_icmp .gt 27, 3) := by decide +kernel
theorem dX11_longFor_67 : decode cX11_longFor 67 = .ok (.aload_n 0, 1) := by decide +kernel
theorem dX11_longFor_68 : decode cX11_longFor 68 = .ok (.getfield 92, 3) := by decide +kernel
theorem dX11_longFor_71 : decode cX11_longFor 71 = .ok (.iload 6, 2) := by decide +kernel
theorem dX11_longFor_73 : decode cX11_longFor 73 = .ok (.iaload, 1) := by decide +kernel
theorem dX11_longFor_74 : decode cX11_longFor 74 = .ok (.aload_n 0, 1) := by decide +kernel
theorem dX11_longFor_75 : decode cX11_longFor 75 = .ok (.getfield 92, 3) := by decide +kernel
theorem dX11_longFor_78 : decode cX11_longFor 78 = .ok (.iload 4, 2) := by decide +kernel
theorem dX11_longFor_80 : decode cX11_longFor 80 = .ok (.iaload, 1) := by decide +kernel
theorem dX11_longFor_81 : decode cX11_longFor 81 = .ok (.if_icmp .ne 16, 3) := by decide +kernel
theorem dX11_longFor_84 : decode cX11_longFor 84 = .ok (.iload 6, 2) := by decide +kernel
theorem dX11_longFor_86 : decode cX11_longFor 86 = .ok (.iload 4, 2) := by decide +kernel
theorem dX11_longFor_88 : decode cX11_longFor 88 = .ok (.if_icmp .ge 9, 3) := by decide +kernel
theorem dX11_longFor_91 : decode cX11_longFor 91 = .ok (.iload 5, 2) := by decide +kernel
theorem dX11_longFor_93 : decode cX11_longFor 93 = .ok (.iconst 1, 1) := by decide +kernel
theorem dX11_longFor_94 : decode cX11_longFor 94 = .ok (.iadd, 1) := by decide +kernel
theorem dX11_longFor_95 : decode cX11_longFor 95 = .ok (.istore 5, 2) := by decide +kernel
theorem dX11_longFor_97 : decode cX11_longFor 97 = .ok (.iinc 6 1, 3) := by decide +kernel
theorem dX11_longFor_100 : decode cX11_longFor 100 = .ok (.goto (-66), 3) := by decide +kernel
theorem dX11_longFor_103 : decode cX11_longFor 103 = .ok (.iload_n 3, 1) := by decide +kernel
theorem dX11_longFor_104 : decode cX11_longFor 104 = .ok (.iload 5, 2) := by decide +kernel
theorem dX11_longFor_106 : decode cX11_longFor 106 = .ok (.aload_n 0, 1) := by decide +kernel
theorem dX11_longFor_107 : decode cX11_longFor 107 = .ok (.getfield 92, 3) := by decide +kernel
theorem dX11_longFor_110 : decode cX11_longFor 110 = .ok (.iload 4, 2) := by decide +kernel
theorem dX11_longFor_112 : decode cX11_longFor 112 = .ok (.iaload, 1) := by decide +kernel
theorem dX11_longFor_113 : decode cX11_longFor 113 = .ok (.iadd, 1) := by decide +kernel
theorem dX11_longFor_114 : decode cX11_longFor 114 = .ok (.invokestatic 136, 3) := by decide +kernel
theorem dX11_longFor_117 : decode cX11_longFor 117 = .ok (.istore_n 3, 1) := by decide +kernel
theorem dX11_longFor_118 : decode cX11_longFor 118 = .ok (.iinc 4 1, 3) := by decide +kernel
theorem dX11_longFor_121 : decode cX11_longFor 121 = .ok (.goto (-114), 3) := by decide +kernel
theorem dX11_longFor_124 : decode cX11_longFor 124 = .ok (.iload_n 3, 1) := by decide +kernel
theorem dX11_longFor_125 : decode cX11_longFor 125 = .ok (.ireturn, 1) := by decide +kernel
theorem dX11_told_0 : decode cX11_told 0 = .ok (.iload_n 1, 1) := by decide +kernel
theorem dX11_told_1 : decode cX11_told 1 = .ok (.iconst 2, 1) := by decide +kernel
theorem dX11_told_2 : decode cX11_told 2 = .ok (.bipush 16, 2) := by decide +kernel
theorem dX11_told_4 : decode cX11_told 4 = .ok (.invokestatic 111, 3) := by decide +kernel
theorem dX11_told_7 : decode cX11_told 7 = .ok (.ifCond .eq 20, 3) := by decide +kernel
theorem dX11_told_10 : decode cX11_told 10 = .ok (.iload_n 2, 1) := by decide +kernel
theorem dX11_told_11 : decode cX11_told 11 = .ok (.iconst 0, 1) := by decide +kernel
theorem dX11_told_12 : decode cX11_told 12 = .ok (.iconst 1, 1) := by decide +kernel
theorem dX11_told_13 : decode cX11_told 13 = .ok (.invokestatic 111, 3) := by decide +kernel
theorem dX11_told_16 : decode cX11_told 16 = .ok (.ifCond .eq 11, 3) := by decide +kernel
theorem dX11_told_19 : decode cX11_told 19 = .ok (.iload_n 1, 1) := by decide +kernel
theorem dX11_told_20 : decode cX11_told 20 = .ok (.aload_n 0, 1) := by decide +kernel
theorem dX11_told_21 : decode cX11_told 21 = .ok (.getfield 146, 3) := by decide +kernel
theorem dX11_told_24 : decode cX11_told 24 = .ok (.if_icmp .le 5, 3) := by decide +kernel
theorem dX11_told_27 : decode cX11_told 27 = .ok (.iconst (-1), 1) := by decide +kernel
theorem dX11_told_28 : decode cX11_told 28 = .ok (.ireturn, 1) := by decide +kernel
theorem dX11_told_29 : decode cX11_told 29 = .ok (.aload_n 0, 1) := by decide +kernel
theorem dX11_told_30 : decode cX11_told 30 = .ok (.iconst 0, 1) := by decide +kernel
theorem dX11_told_31 : decode cX11_told 31 = .ok (.putfield 146, 3) := by decide +kernel
theorem dX11_told_34 : decode cX11_told 34 = .ok (.iconst 1, 1) := by decide +kernel
theorem dX11_told_35 : decode cX11_told 35 = .ok (.istore_n 3, 1) := by decide +kernel
theorem dX11_told_36 : decode cX11_told 36 = .ok (.iload_n 3, 1) := by decide +kernel
theorem dX11_told_37 : decode cX11_told 37 = .ok (.iload_n 1, 1) := by decide +kernel
theorem dX11_told_38 : decode cX11_told 38 = .ok (.if_icmp .ge 21, 3) := by decide +kernel
theorem dX11_told_41 : decode cX11_told 41 = .ok (.aload_n 0, 1) := by decide +kernel
theorem dX11_told_42 : decode cX11_told 42 = .ok (.iload_n 3, 1) := by decide +kernel
theorem dX11_told_43 : decode cX11_told 43 = .ok (.invokevirtual 338, 3) := by decide +kernel
theorem dX11_told_46 : decode cX11_told 46 = .ok (.iload_n 3, 1) := by decide +kernel
theorem dX11_told_47 : decode cX11_told 47 = .ok (.if_icmp .lt 6, 3) := by decide +kernel
theorem dX11_told_50 : decode cX11_told 50 = .ok (.bipush (-2), 2) := by decide +kernel
theorem dX11_told_52 : decode cX11_told 52 = .ok (.ireturn, 1) := by decide +kernel
theorem dX11_told_53 : decode cX11_told 53 = .ok (.iinc 3 1, 3) := by decide +kernel
theorem dX11_told_56 : decode cX11_told 56 = .ok (.goto (-20), 3) := by decide +kernel
theorem dX11_told_59 : decode cX11_told 59 = .ok (.aload_n 0, 1) := by decide +kernel
theorem dX11_told_60 : decode cX11_told 60 = .ok (.getfield 31, 3) := by decide +kernel
theorem dX11_told_63 : decode cX11_told 63 = .ok (.iconst 0, 1) := by decide +kernel
theorem dX11_told_64 : decode cX11_told 64 = .ok (.iconst (-1), 1) := by decide +kernel
theorem dX11_told_65 : decode cX11_told 65 = .ok (.bastore, 1) := by decide +kernel
theorem dX11_told_66 : decode cX11_told 66 = .ok (.iload_n 1, 1) := by decide +kernel
theorem dX11_told_67 : decode cX11_told 67 = .ok (.iconst 1, 1) := by decide +kernel
theorem dX11_told_68 : decode cX11_told 68 = .ok (.isub, 1) := by decide +kernel
theorem dX11_told_69 : decode cX11_told 69 = .ok (.istore_n 3, 1) := by decide +kernel
theorem dX11_told_70 : decode cX11_told 70 = .ok (.iload_n 3, 1) := by decide +kernel
theorem dX11_told_71 : decode cX11_told 71 = .ok (.ifCond .lt 21, 3) := by decide +kernel
theorem dX11_told_74 : decode cX11_told 74 = .ok (.aload_n 0, 1) := by decide +kernel
theorem dX11_told_75 : decode cX11_told 75 = .ok (.getfield 92, 3) := by decide +kernel
theorem dX11_told_78 : decode cX11_told 78 = .ok (.iload_n 3, 1) := by decide +kernel
theorem dX11_told_79 : decode cX11_told 79 = .ok (.aload_n 0, 1) := by decide +kernel
theorem dX11_told_80 : decode cX11_told 80 = .ok (.iload_n 3, 1) := by decide +kernel
theorem dX11_told_81 : decode cX11_told 81 = .ok (.iload_n 1, 1) := by decide +kernel
theorem dX11_told_82 : decode cX11_told 82 = .ok (.invokevirtual 364, 3) := by decide +kernel
theorem dX11_told_85 : decode cX11_told 85 = .ok (.iastore, 1) := by decide +kernel
theorem dX11_told_86 : decode cX11_told 86 = .ok (.iinc 3 (-1), 3) := by decide +kernel
theorem dX11_told_89 : decode cX11_told 89 = .ok (.goto (-19), 3) := by decide +kernel
theorem dX11_told_92 : decode cX11_told 92 = .ok (.iload_n 2, 1) := by decide +kernel
theorem dX11_told_93 : decode cX11_told 93 = .ok (.ifCond .ne 10, 3) := by decide +kernel
theorem dX11_told_96 : decode cX11_told 96 = .ok (.aload_n 0, 1) := by decide +kernel
theorem dX11_told_97 : decode cX11_told 97 = .ok (.getfield 92, 3) := by decide +kernel
theorem dX11_told_100 : decode cX11_told 100 = .ok (.iconst 0, 1) := by decide +kernel
theorem dX11_told_101 : decode cX11_told 101 = .ok (.iaload, 1) := by decide +kernel
theorem dX11_told_102 : decode cX11_told 102 = .ok (.ireturn, 1) := by decide +kernel
theorem dX11_told_103 : decode cX11_told 103 = .ok (.iconst (-1), 1) := by decide +kernel
theorem dX11_told_104 : decode cX11_told 104 = .ok (.istore_n 3, 1) := by decide +kernel
theorem dX11_told_105 : decode cX11_told 105 = .ok (.iconst 1, 1) := by decide +kernel
theorem dX11_told_106 : decode cX11_told 106 = .ok (.istore 4, 2) := by decide +kernel
theorem dX11_told_108 : decode cX11_told 108 = .ok (.iload 4, 2) := by decide +kernel
theorem dX11_told_110 : decode cX11_told 110 = .ok (.iload_n 1, 1) := by decide +kernel
theorem dX11_told_111 : decode cX11_told 111 = .ok (.if_icmp .ge 42, 3) := by decide +kernel
theorem dX11_told_114 : decode cX11_told 114 = .ok (.aload_n 0, 1) := by decide +kernel
theorem dX11_told_115 : decode cX11_told 115 = .ok (.iload 4, 2) := by decide +kernel
theorem dX11_told_117 : decode cX11_told 117 = .ok (.invokevirtual 338, 3) := by decide +kernel
theorem dX11_told_120 : decode cX11_told 120 = .ok (.ifCond .ne 27, 3) := by decide +kernel
theorem dX11_told_123 : decode cX11_told 123 = .ok (.iload_n 3, 1) := by decide +kernel
theorem dX11_told_124 : decode cX11_told 124 = .ok (.iconst (-1), 1) := by decide +kernel
theorem dX11_told_125 : decode cX11_told 125 = .ok (.if_icmp .eq 19, 3) := by decide +kernel
theorem dX11_told_128 : decode cX11_told 128 = .ok (.aload_n 0, 1) := by decide +kernel
theorem dX11_told_129 : decode cX11_told 129 = .ok (.getfield 92, 3) := by decide +kernel
theorem dX11_told_132 : decode cX11_told 132 = .ok (.iload 4, 2) := by decide +kernel
theorem dX11_told_134 : decode cX11_told 134 = .ok (.iaload, 1) := by decide +kernel
theorem dX11_told_135 : decode cX11_told 135 = .ok (.aload_n 0, 1) := by decide +kernel
theorem dX11_told_136 : decode cX11_told 136 = .ok (.getfield 92, 3) := by decide +kernel
theorem dX11_told_139 : decode cX11_told 139 = .ok (.iload_n 3, 1) := by decide +kernel
theorem dX11_told_140 : decode cX11_told 140 = .ok (.iaload, 1) := by decide +kernel
theorem dX11_told_141 : decode cX11_told 141 = .ok (.if_icmp .le 6, 3) := by decide +kernel
theorem dX11_told_144 : decode cX11_told 144 = .ok (.iload 4, 2) := by decide +kernel
theorem dX11_told_146 : decode cX11_told 146 = .ok (.istore_n 3, 1) := by decide +kernel
theorem dX11_told_147 : decode cX11_told 147 = .ok (.iinc 4 1, 3) := by decide +kernel
theorem dX11_told_150 : decode cX11_told 150 = .ok (.goto (-42), 3) := by decide +kernel
theorem dX11_told_153 : decode cX11_told 153 = .ok (.iload_n 3, 1) := by decide +kernel
theorem dX11_told_154 : decode cX11_told 154 = .ok (.ireturn, 1) := by decide +kernel
theorem dX11_laysAlphabet_0 : decode cX11_laysAlphabet 0 = .ok (.iconst 0, 1) := by decide +kernel
theorem dX11_laysAlphabet_1 : decode cX11_laysAlphabet 1 = .ok (.istore_n 2, 1) := by decide +kernel
theorem dX11_laysAlphabet_2 : decode cX11_laysAlphabet 2 = .ok (.iconst 0, 1) := by decide +kernel
theorem dX11_laysAlphabet_3 : decode cX11_laysAlphabet 3 = .ok (.istore_n 3, 1) := by decide +kernel
theorem dX11_laysAlphabet_4 : decode cX11_laysAlphabet 4 = .ok (.iconst 0, 1) := by decide +kernel
theorem dX11_laysAlphabet_5 : decode cX11_laysAlphabet 5 = .ok (.istore 4, 2) := by decide +kernel
theorem dX11_laysAlphabet_7 : decode cX11_laysAlphabet 7 = .ok (.iload 4, 2) := by decide +kernel
theorem dX11_laysAlphabet_9 : decode cX11_laysAlphabet 9 = .ok (.iload_n 1, 1) := by decide +kernel
theorem dX11_laysAlphabet_10 : decode cX11_laysAlphabet 10 = .ok (.bipush 26, 2) := by decide +kernel
theorem dX11_laysAlphabet_12 : decode cX11_laysAlphabet 12 = .ok (.iadd, 1) := by decide +kernel
theorem dX11_laysAlphabet_13 : decode cX11_laysAlphabet 13 = .ok (.if_icmp .ge 64, 3) := by decide +kernel
theorem dX11_laysAlphabet_16 : decode cX11_laysAlphabet 16 = .ok (.iload 4, 2) := by decide +kernel
theorem dX11_laysAlphabet_18 : decode cX11_laysAlphabet 18 = .ok (.iload_n 1, 1) := by decide +kernel
theorem dX11_laysAlphabet_19 : decode cX11_laysAlphabet 19 = .ok (.if_icmp .ge 15, 3) := by decide +kernel
theorem dX11_laysAlphabet_22 : decode cX11_laysAlphabet 22 = .ok (.aload_n 0, 1) := by decide +kernel
theorem dX11_laysAlphabet_23 : decode cX11_laysAlphabet 23 = .ok (.iload 4, 2) := by decide +kernel
theorem dX11_laysAlphabet_25 : decode cX11_laysAlphabet 25 = .ok (.invokevirtual 338, 3) := by decide +kernel
theorem dX11_laysAlphabet_28 : decode cX11_laysAlphabet 28 = .ok (.bipush 65, 2) := by decide +kernel
theorem dX11_laysAlphabet_30 : decode cX11_laysAlphabet 30 = .ok (.isub, 1) := by decide +kernel
theorem dX11_laysAlphabet_31 : decode cX11_laysAlphabet 31 = .ok (.goto 7, 3) := by decide +kernel
theorem dX11_laysAlphabet_34 : decode cX11_laysAlphabet 34 = .ok (.iload 4, 2) := by decide +kernel
theorem dX11_laysAlphabet_36 : decode cX11_laysAlphabet 36 = .ok (.iload_n 1, 1) := by decide +kernel
theorem dX11_laysAlphabet_37 : decode cX11_laysAlphabet 37 = .ok (.isub, 1) := by decide +kernel
theorem dX11_laysAlphabet_38 : decode cX11_laysAlphabet 38 = .ok (.istore 5, 2) := by decide +kernel
theorem dX11_laysAlphabet_40 : decode cX11_laysAlphabet 40 = .ok (.iload_n 2, 1) := by decide +kernel
theorem dX11_laysAlphabet_41 : decode cX11_laysAlphabet 41 = .ok (.iload 5, 2) := by decide +kernel
theorem dX11_laysAlphabet_43 : decode cX11_laysAlphabet 43 = .ok (.invokestatic 335, 3) := by decide +kernel
theorem dX11_laysAlphabet_46 : decode cX11_laysAlphabet 46 = .ok (.ifCond .eq 6, 3) := by decide +kernel
theorem dX11_laysAlphabet_49 : decode cX11_laysAlphabet 49 = .ok (.goto 22, 3) := by decide +kernel
theorem dX11_laysAlphabet_52 : decode cX11_laysAlphabet 52 = .ok (.iload_n 2, 1) := by decide +kernel
theorem dX11_laysAlphabet_53 : decode cX11_laysAlphabet 53 = .ok (.iconst 1, 1) := by decide +kernel
theorem dX11_laysAlphabet_54 : decode cX11_laysAlphabet 54 = .ok (.iload 5, 2) := by decide +kernel
theorem dX11_laysAlphabet_56 : decode cX11_laysAlphabet 56 = .ok (.ishl, 1) := by decide +kernel
theorem dX11_laysAlphabet_57 : decode cX11_laysAlphabet 57 = .ok (.ior, 1) := by decide +kernel
theorem dX11_laysAlphabet_58 : decode cX11_laysAlphabet 58 = .ok (.istore_n 2, 1) := by decide +kernel
theorem dX11_laysAlphabet_59 : decode cX11_laysAlphabet 59 = .ok (.aload_n 0, 1) := by decide +kernel
theorem dX11_laysAlphabet_60 : decode cX11_laysAlphabet 60 = .ok (.getfield 95, 3) := by decide +kernel
theorem dX11_laysAlphabet_63 : decode cX11_laysAlphabet 63 = .ok (.iload_n 3, 1) := by decide +kernel
theorem dX11_laysAlphabet_64 : decode cX11_laysAlphabet 64 = .ok (.iload 5, 2) := by decide +kernel
theorem dX11_laysAlphabet_66 : decode cX11_laysAlphabet 66 = .ok (.iastore, 1) := by decide +kernel
theorem dX11_laysAlphabet_67 : decode cX11_laysAlphabet 67 = .ok (.iload_n 3, 1) := by decide +kernel
theorem dX11_laysAlphabet_68 : decode cX11_laysAlphabet 68 = .ok (.iconst 1, 1) := by decide +kernel
theorem dX11_laysAlphabet_69 : decode cX11_laysAlphabet 69 = .ok (.iadd, 1) := by decide +kernel
theorem dX11_laysAlphabet_70 : decode cX11_laysAlphabet 70 = .ok (.istore_n 3, 1) := by decide +kernel
theorem dX11_laysAlphabet_71 : decode cX11_laysAlphabet 71 = .ok (.iinc 4 1, 3) := by decide +kernel
theorem dX11_laysAlphabet_74 : decode cX11_laysAlphabet 74 = .ok (.goto (-67), 3) := by decide +kernel
theorem dX11_laysAlphabet_77 : decode cX11_laysAlphabet 77 = .ok (.return_, 1) := by decide +kernel
theorem dX11_epitaph_0 : decode cX11_epitaph 0 = .ok (.iload_n 1, 1) := by decide +kernel
theorem dX11_epitaph_1 : decode cX11_epitaph 1 = .ok (.iconst 1, 1) := by decide +kernel
theorem dX11_epitaph_2 : decode cX11_epitaph 2 = .ok (.bipush 30, 2) := by decide +kernel
theorem dX11_epitaph_4 : decode cX11_epitaph 4 = .ok (.invokestatic 111, 3) := by decide +kernel
theorem dX11_epitaph_7 : decode cX11_epitaph 7 = .ok (.ifCond .eq 35, 3) := by decide +kernel
theorem dX11_epitaph_10 : decode cX11_epitaph 10 = .ok (.iload_n 2, 1) := by decide +kernel
theorem dX11_epitaph_11 : decode cX11_epitaph 11 = .ok (.iconst 1, 1) := by decide +kernel
theorem dX11_epitaph_12 : decode cX11_epitaph 12 = .ok (.bipush 30, 2) := by decide +kernel
theorem dX11_epitaph_14 : decode cX11_epitaph 14 = .ok (.invokestatic 111, 3) := by decide +kernel
theorem dX11_epitaph_17 : decode cX11_epitaph 17 = .ok (.ifCond .eq 25, 3) := by decide +kernel
theorem dX11_epitaph_20 : decode cX11_epitaph 20 = .ok (.iload 4, 2) := by decide +kernel
theorem dX11_epitaph_22 : decode cX11_epitaph 22 = .ok (.iconst 0, 1) := by decide +kernel
theorem dX11_epitaph_23 : decode cX11_epitaph 23 = .ok (.iload_n 2, 1) := by decide +kernel
theorem dX11_epitaph_24 : decode cX11_epitaph 24 = .ok (.iconst 1, 1) := by decide +kernel
theorem dX11_epitaph_25 : decode cX11_epitaph 25 = .ok (.isub, 1) := by decide +kernel
theorem dX11_epitaph_26 : decode cX11_epitaph 26 = .ok (.invokestatic 111, 3) := by decide +kernel
theorem dX11_epitaph_29 : decode cX11_epitaph 29 = .ok (.ifCond .eq 13, 3) := by decide +kernel
theorem dX11_epitaph_32 : decode cX11_epitaph 32 = .ok (.iload_n 1, 1) := by decide +kernel
theorem dX11_epitaph_33 : decode cX11_epitaph 33 = .ok (.iload_n 2, 1) := by decide +kernel
theorem dX11_epitaph_34 : decode cX11_epitaph 34 = .ok (.iadd, 1) := by decide +kernel
theorem dX11_epitaph_35 : decode cX11_epitaph 35 = .ok (.aload_n 0, 1) := by decide +kernel
theorem dX11_epitaph_36 : decode cX11_epitaph 36 = .ok (.getfield 146, 3) := by decide +kernel
theorem dX11_epitaph_39 : decode cX11_epitaph 39 = .ok (.if_icmp .le 5, 3) := by decide +kernel
theorem dX11_epitaph_42 : decode cX11_epitaph 42 = .ok (.iconst (-1), 1) := by decide +kernel
theorem dX11_epitaph_43 : decode cX11_epitaph 43 = .ok (.ireturn, 1) := by decide +kernel
theorem dX11_epitaph_44 : decode cX11_epitaph 44 = .ok (.aload_n 0, 1) := by decide +kernel
theorem dX11_epitaph_45 : decode cX11_epitaph 45 = .ok (.iconst 0, 1) := by decide +kernel
theorem dX11_epitaph_46 : decode cX11_epitaph 46 = .ok (.putfield 146, 3) := by decide +kernel
theorem dX11_epitaph_49 : decode cX11_epitaph 49 = .ok (.iconst 0, 1) := by decide +kernel
theorem dX11_epitaph_50 : decode cX11_epitaph 50 = .ok (.istore 5, 2) := by decide +kernel
theorem dX11_epitaph_52 : decode cX11_epitaph 52 = .ok (.iload 5, 2) := by decide +kernel
theorem dX11_epitaph_54 : decode cX11_epitaph 54 = .ok (.iload_n 1, 1) := by decide +kernel
theorem dX11_epitaph_55 : decode cX11_epitaph 55 = .ok (.iload_n 2, 1) := by decide +kernel
theorem dX11_epitaph_56 : decode cX11_epitaph 56 = .ok (.iadd, 1) := by decide +kernel
theorem dX11_epitaph_57 : decode cX11_epitaph 57 = .ok (.if_icmp .ge 32, 3) := by decide +kernel
theorem dX11_epitaph_60 : decode cX11_epitaph 60 = .ok (.aload_n 0, 1) := by decide +kernel
theorem dX11_epitaph_61 : decode cX11_epitaph 61 = .ok (.iload 5, 2) := by decide +kernel
theorem dX11_epitaph_63 : decode cX11_epitaph 63 = .ok (.invokevirtual 338, 3) := by decide +kernel
theorem dX11_epitaph_66 : decode cX11_epitaph 66 = .ok (.bipush 65, 2) := by decide +kernel
theorem dX11_epitaph_68 : decode cX11_epitaph 68 = .ok (.bipush 90, 2) := by decide +kernel
theorem dX11_epitaph_70 : decode cX11_epitaph 70 = .ok (.invokestatic 111, 3) := by decide +kernel
theorem dX11_epitaph_73 : decode cX11_epitaph 73 = .ok (.ifCond .ne 10, 3) := by decide +kernel
theorem dX11_epitaph_76 : decode cX11_epitaph 76 = .ok (.sipush (-1000), 3) := by decide +kernel
theorem dX11_epitaph_79 : decode cX11_epitaph 79 = .ok (.iload 5, 2) := by decide +kernel
theorem dX11_epitaph_81 : decode cX11_epitaph 81 = .ok (.isub, 1) := by decide +kernel
theorem dX11_epitaph_82 : decode cX11_epitaph 82 = .ok (.ireturn, 1) := by decide +kernel
theorem dX11_epitaph_83 : decode cX11_epitaph 83 = .ok (.iinc 5 1, 3) := by decide +kernel
theorem dX11_epitaph_86 : decode cX11_epitaph 86 = .ok (.goto (-34), 3) := by decide +kernel
theorem dX11_epitaph_89 : decode cX11_epitaph 89 = .ok (.aload_n 0, 1) := by decide +kernel
theorem dX11_epitaph_90 : decode cX11_epitaph 90 = .ok (.iload_n 1, 1) := by decide +kernel
theorem dX11_epitaph_91 : decode cX11_epitaph 91 = .ok (.invokevirtual 367, 3) := by decide +kernel
theorem dX11_epitaph_94 : decode cX11_epitaph 94 = .ok (.aload_n 0, 1) := by decide +kernel
theorem dX11_epitaph_95 : decode cX11_epitaph 95 = .ok (.iload_n 1, 1) := by decide +kernel
theorem dX11_epitaph_96 : decode cX11_epitaph 96 = .ok (.iload 4, 2) := by decide +kernel
theorem dX11_epitaph_98 : decode cX11_epitaph 98 = .ok (.iadd, 1) := by decide +kernel
theorem dX11_epitaph_99 : decode cX11_epitaph 99 = .ok (.invokevirtual 338, 3) := by decide +kernel
theorem dX11_epitaph_102 : decode cX11_epitaph 102 = .ok (.bipush 65, 2) := by decide +kernel
theorem dX11_epitaph_104 : decode cX11_epitaph 104 = .ok (.isub, 1) := by decide +kernel
theorem dX11_epitaph_105 : decode cX11_epitaph 105 = .ok (.istore 5, 2) := by decide +kernel
theorem dX11_epitaph_107 : decode cX11_epitaph 107 = .ok (.iload_n 3, 1) := by decide +kernel
theorem dX11_epitaph_108 : decode cX11_epitaph 108 = .ok (.ifCond .ne 11, 3) := by decide +kernel
theorem dX11_epitaph_111 : decode cX11_epitaph 111 = .ok (.aload_n 0, 1) := by decide +kernel
theorem dX11_epitaph_112 : decode cX11_epitaph 112 = .ok (.getfield 95, 3) := by decide +kernel
theorem dX11_epitaph_115 : decode cX11_epitaph 115 = .ok (.iload 5, 2) := by decide +kernel
theorem dX11_epitaph_117 : decode cX11_epitaph 117 = .ok (.iaload, 1) := by decide +kernel
theorem dX11_epitaph_118 : decode cX11_epitaph 118 = .ok (.ireturn, 1) := by decide +kernel
theorem dX11_epitaph_119 : decode cX11_epitaph 119 = .ok (.iconst 0, 1) := by decide +kernel
theorem dX11_epitaph_120 : decode cX11_epitaph 120 = .ok (.istore 6, 2) := by decide +kernel
theorem dX11_epitaph_122 : decode cX11_epitaph 122 = .ok (.aload_n 0, 1) := by decide +kernel
theorem dX11_epitaph_123 : decode cX11_epitaph 123 = .ok (.getfield 95, 3) := by decide +kernel
theorem dX11_epitaph_126 : decode cX11_epitaph 126 = .ok (.iload 6, 2) := by decide +kernel
theorem dX11_epitaph_128 : decode cX11_epitaph 128 = .ok (.iaload, 1) := by decide +kernel
theorem dX11_epitaph_129 : decode cX11_epitaph 129 = .ok (.iload 5, 2) := by decide +kernel
theorem dX11_epitaph_131 : decode cX11_epitaph 131 = .ok (.if_icmp .eq 12, 3) := by decide +kernel
theorem dX11_epitaph_134 : decode cX11_epitaph 134 = .ok (.iload 6, 2) := by decide +kernel
theorem dX11_epitaph_136 : decode cX11_epitaph 136 = .ok (.iconst 1, 1) := by decide +kernel
theorem dX11_epitaph_137 : decode cX11_epitaph 137 = .ok (.iadd, 1) := by decide +kernel
theorem dX11_epitaph_138 : decode cX11_epitaph 138 = .ok (.istore 6, 2) := by decide +kernel
theorem dX11_epitaph_140 : decode cX11_epitaph 140 = .ok (.goto (-18), 3) := by decide +kernel
theorem dX11_epitaph_143 : decode cX11_epitaph 143 = .ok (.iload 6, 2) := by decide +kernel
theorem dX11_epitaph_145 : decode cX11_epitaph 145 = .ok (.ireturn, 1) := by decide +kernel
theorem dX11_faultOfDigits_0 : decode cX11_faultOfDigits 0 = .ok (.iconst 0, 1) := by decide +kernel
theorem dX11_faultOfDigits_1 : decode cX11_faultOfDigits 1 = .ok (.istore_n 2, 1) := by decide +kernel
theorem dX11_faultOfDigits_2 : decode cX11_faultOfDigits 2 = .ok (.iload_n 2, 1) := by decide +kernel
theorem dX11_faultOfDigits_3 : decode cX11_faultOfDigits 3 = .ok (.iload_n 1, 1) := by decide +kernel
theorem dX11_faultOfDigits_4 : decode cX11_faultOfDigits 4 = .ok (.if_icmp .ge 30, 3) := by decide +kernel
theorem dX11_faultOfDigits_7 : decode cX11_faultOfDigits 7 = .ok (.aload_n 0, 1) := by decide +kernel
theorem dX11_faultOfDigits_8 : decode cX11_faultOfDigits 8 = .ok (.iload_n 2, 1) := by decide +kernel
theorem dX11_faultOfDigits_9 : decode cX11_faultOfDigits 9 = .ok (.invokevirtual 338, 3) := by decide +kernel
theorem dX11_faultOfDigits_12 : decode cX11_faultOfDigits 12 = .ok (.bipush 48, 2) := by decide +kernel
theorem dX11_faultOfDigits_14 : decode cX11_faultOfDigits 14 = .ok (.bipush 57, 2) := by decide +kernel
theorem dX11_faultOfDigits_16 : decode cX11_faultOfDigits 16 = .ok (.invokestatic 111, 3) := by decide +kernel
theorem dX11_faultOfDigits_19 : decode cX11_faultOfDigits 19 = .ok (.ifCond .ne 9, 3) := by decide +kernel
theorem dX11_faultOfDigits_22 : decode cX11_faultOfDigits 22 = .ok (.sipush (-1000), 3) := by decide +kernel
theorem dX11_faultOfDigits_25 : decode cX11_faultOfDigits 25 = .ok (.iload_n 2, 1) := by decide +kernel
theorem dX11_faultOfDigits_26 : decode cX11_faultOfDigits 26 = .ok (.isub, 1) := by decide +kernel
theorem dX11_faultOfDigits_27 : decode cX11_faultOfDigits 27 = .ok (.ireturn, 1) := by decide +kernel
theorem dX11_faultOfDigits_28 : decode cX11_faultOfDigits 28 = .ok (.iinc 2 1, 3) := by decide +kernel
theorem dX11_faultOfDigits_31 : decode cX11_faultOfDigits 31 = .ok (.goto (-29), 3) := by decide +kernel
theorem dX11_faultOfDigits_34 : decode cX11_faultOfDigits 34 = .ok (.iconst 0, 1) := by decide +kernel
theorem dX11_faultOfDigits_35 : decode cX11_faultOfDigits 35 = .ok (.ireturn, 1) := by decide +kernel
theorem dX11_code_0 : decode cX11_code 0 = .ok (.iload_n 1, 1) := by decide +kernel
theorem dX11_code_1 : decode cX11_code 1 = .ok (.iconst 0, 1) := by decide +kernel
theorem dX11_code_2 : decode cX11_code 2 = .ok (.bipush 7, 2) := by decide +kernel
theorem dX11_code_4 : decode cX11_code 4 = .ok (.invokestatic 111, 3) := by decide +kernel
theorem dX11_code_7 : decode cX11_code 7 = .ok (.ifCond .eq 21, 3) := by decide +kernel
theorem dX11_code_10 : decode cX11_code 10 = .ok (.iload_n 2, 1) := by decide +kernel
theorem dX11_code_11 : decode cX11_code 11 = .ok (.iconst 1, 1) := by decide +kernel
theorem dX11_code_12 : decode cX11_code 12 = .ok (.bipush 6, 2) := by decide +kernel
theorem dX11_code_14 : decode cX11_code 14 = .ok (.invokestatic 111, 3) := by decide +kernel
theorem dX11_code_17 : decode cX11_code 17 = .ok (.ifCond .eq 11, 3) := by decide +kernel
theorem dX11_code_20 : decode cX11_code 20 = .ok (.iload_n 2, 1) := by decide +kernel
theorem dX11_code_21 : decode cX11_code 21 = .ok (.aload_n 0, 1) := by decide +kernel
theorem dX11_code_22 : decode cX11_code 22 = .ok (.getfield 146, 3) := by decide +kernel
theorem dX11_code_25 : decode cX11_code 25 = .ok (.if_icmp .le 5, 3) := by decide +kernel
theorem dX11_code_28 : decode cX11_code 28 = .ok (.iconst (-1), 1) := by decide +kernel
theorem dX11_code_29 : decode cX11_code 29 = .ok (.ireturn, 1) := by decide +kernel
theorem dX11_code_30 : decode cX11_code 30 = .ok (.aload_n 0, 1) := by decide +kernel
theorem dX11_code_31 : decode cX11_code 31 = .ok (.iconst 0, 1) := by decide +kernel
theorem dX11_code_32 : decode cX11_code 32 = .ok (.putfield 146, 3) := by decide +kernel
theorem dX11_code_35 : decode cX11_code 35 = .ok (.aload_n 0, 1) := by decide +kernel
theorem dX11_code_36 : decode cX11_code 36 = .ok (.iload_n 2, 1) := by decide +kernel
theorem dX11_code_37 : decode cX11_code 37 = .ok (.invokevirtual 370, 3) := by decide +kernel
theorem dX11_code_40 : decode cX11_code 40 = .ok (.istore_n 3, 1) := by decide +kernel
theorem dX11_code_41 : decode cX11_code 41 = .ok (.iload_n 3, 1) := by decide +kernel
theorem dX11_code_42 : decode cX11_code 42 = .ok (.ifCond .eq 5, 3) := by decide +kernel
theorem dX11_code_45 : decode cX11_code 45 = .ok (.iload_n 3, 1) := by decide +kernel
theorem dX11_code_46 : decode cX11_code 46 = .ok (.ireturn, 1) := by decide +kernel
theorem dX11_code_47 : decode cX11_code 47 = .ok (.aload_n 0, 1) := by decide +kernel
theorem dX11_code_48 : decode cX11_code 48 = .ok (.getfield 101, 3) := by decide +kernel
theorem dX11_code_51 : decode cX11_code 51 = .ok (.iload_n 1, 1) := by decide +kernel
theorem dX11_code_52 : decode cX11_code 52 = .ok (.iload_n 2, 1) := by decide +kernel
theorem dX11_code_53 : decode cX11_code 53 = .ok (.iastore, 1) := by decide +kernel
theorem dX11_code_54 : decode cX11_code 54 = .ok (.iconst 0, 1) := by decide +kernel
theorem dX11_code_55 : decode cX11_code 55 = .ok (.istore 4, 2) := by decide +kernel
theorem dX11_code_57 : decode cX11_code 57 = .ok (.iload 4, 2) := by decide +kernel
theorem dX11_code_59 : decode cX11_code 59 = .ok (.iload_n 2, 1) := by decide +kernel
theorem dX11_code_60 : decode cX11_code 60 = .ok (.if_icmp .ge 28, 3) := by decide +kernel
theorem dX11_code_63 : decode cX11_code 63 = .ok (.aload_n 0, 1) := by decide +kernel
theorem dX11_code_64 : decode cX11_code 64 = .ok (.getfield 98, 3) := by decide +kernel
theorem dX11_code_67 : decode cX11_code 67 = .ok (.bipush 6, 2) := by decide +kernel
theorem dX11_code_69 : decode cX11_code 69 = .ok (.iload_n 1, 1) := by decide +kernel
theorem dX11_code_70 : decode cX11_code 70 = .ok (.imul, 1) := by decide +kernel
theorem dX11_code_71 : decode cX11_code 71 = .ok (.iload 4, 2) := by decide +kernel
theorem dX11_code_73 : decode cX11_code 73 = .ok (.iadd, 1) := by decide +kernel
theorem dX11_code_74 : decode cX11_code 74 = .ok (.aload_n 0, 1) := by decide +kernel
theorem dX11_code_75 : decode cX11_code 75 = .ok (.getfield 31, 3) := by decide +kernel
theorem dX11_code_78 : decode cX11_code 78 = .ok (.iload 4, 2) := by decide +kernel
theorem dX11_code_80 : decode cX11_code 80 = .ok (.baload, 1) := by decide +kernel
theorem dX11_code_81 : decode cX11_code 81 = .ok (.bastore, 1) := by decide +kernel
theorem dX11_code_82 : decode cX11_code 82 = .ok (.iinc 4 1, 3) := by decide +kernel
theorem dX11_code_85 : decode cX11_code 85 = .ok (.goto (-28), 3) := by decide +kernel
theorem dX11_code_88 : decode cX11_code 88 = .ok (.iload_n 2, 1) := by decide +kernel
theorem dX11_code_89 : decode cX11_code 89 = .ok (.ireturn, 1) := by decide +kernel
theorem dX11_beginsWith_0 : decode cX11_beginsWith 0 = .ok (.aload_n 0, 1) := by decide +kernel
theorem dX11_beginsWith_1 : decode cX11_beginsWith 1 = .ok (.getfield 101, 3) := by decide +kernel
theorem dX11_beginsWith_4 : decode cX11_beginsWith 4 = .ok (.iload_n 1, 1) := by decide +kernel
theorem dX11_beginsWith_5 : decode cX11_beginsWith 5 = .ok (.iaload, 1) := by decide +kernel
theorem dX11_beginsWith_6 : decode cX11_beginsWith 6 = .ok (.ifCond .eq 13, 3) := by decide +kernel
theorem dX11_beginsWith_9 : decode cX11_beginsWith 9 = .ok (.aload_n 0, 1) := by decide +kernel
theorem dX11_beginsWith_10 : decode cX11_beginsWith 10 = .ok (.getfield 101, 3) := by decide +kernel
theorem dX11_beginsWith_13 : decode cX11_beginsWith 13 = .ok (.iload_n 1, 1) := by decide +kernel
theorem dX11_beginsWith_14 : decode cX11_beginsWith 14 = .ok (.iaload, 1) := by decide +kernel
theorem dX11_beginsWith_15 : decode cX11_beginsWith 15 = .ok (.iload_n 2, 1) := by decide +kernel
theorem dX11_beginsWith_16 : decode cX11_beginsWith 16 = .ok (.if_icmp .le 5, 3) := by decide +kernel
theorem dX11_beginsWith_19 : decode cX11_beginsWith 19 = .ok (.iconst 0, 1) := by decide +kernel
theorem dX11_beginsWith_20 : decode cX11_beginsWith 20 = .ok (.ireturn, 1) := by decide +kernel
theorem dX11_beginsWith_21 : decode cX11_beginsWith 21 = .ok (.iconst 0, 1) := by decide +kernel
theorem dX11_beginsWith_22 : decode cX11_beginsWith 22 = .ok (.istore_n 3, 1) := by decide +kernel
theorem dX11_beginsWith_23 : decode cX11_beginsWith 23 = .ok (.iload_n 3, 1) := by decide +kernel
theorem dX11_beginsWith_24 : decode cX11_beginsWith 24 = .ok (.aload_n 0, 1) := by decide +kernel
theorem dX11_beginsWith_25 : decode cX11_beginsWith 25 = .ok (.getfield 101, 3) := by decide +kernel
theorem dX11_beginsWith_28 : decode cX11_beginsWith 28 = .ok (.iload_n 1, 1) := by decide +kernel
theorem dX11_beginsWith_29 : decode cX11_beginsWith 29 = .ok (.iaload, 1) := by decide +kernel
theorem dX11_beginsWith_30 : decode cX11_beginsWith 30 = .ok (.if_icmp .ge 31, 3) := by decide +kernel
theorem dX11_beginsWith_33 : decode cX11_beginsWith 33 = .ok (.aload_n 0, 1) := by decide +kernel
theorem dX11_beginsWith_34 : decode cX11_beginsWith 34 = .ok (.getfield 98, 3) := by decide +kernel
theorem dX11_beginsWith_37 : decode cX11_beginsWith 37 = .ok (.bipush 6, 2) := by decide +kernel
theorem dX11_beginsWith_39 : decode cX11_beginsWith 39 = .ok (.iload_n 1, 1) := by decide +kernel
theorem dX11_beginsWith_40 : decode cX11_beginsWith 40 = .ok (.imul, 1) := by decide +kernel
theorem dX11_beginsWith_41 : decode cX11_beginsWith 41 = .ok (.iload_n 3, 1) := by decide +kernel
theorem dX11_beginsWith_42 : decode cX11_beginsWith 42 = .ok (.iadd, 1) := by decide +kernel
theorem dX11_beginsWith_43 : decode cX11_beginsWith 43 = .ok (.baload, 1) := by decide +kernel
theorem dX11_beginsWith_44 : decode cX11_beginsWith 44 = .ok (.aload_n 0, 1) := by decide +kernel
theorem dX11_beginsWith_45 : decode cX11_beginsWith 45 = .ok (.getfield 31, 3) := by decide +kernel
theorem dX11_beginsWith_48 : decode cX11_beginsWith 48 = .ok (.iload_n 3, 1) := by decide +kernel
theorem dX11_beginsWith_49 : decode cX11_beginsWith 49 = .ok (.baload, 1) := by decide +kernel
theorem dX11_beginsWith_50 : decode cX11_beginsWith 50 = .ok (.if_icmp .eq 5, 3) := by decide +kernel
theorem dX11_beginsWith_53 : decode cX11_beginsWith 53 = .ok (.iconst 0, 1) := by decide +kernel
theorem dX11_beginsWith_54 : decode cX11_beginsWith 54 = .ok (.ireturn, 1) := by decide +kernel
theorem dX11_beginsWith_55 : decode cX11_beginsWith 55 = .ok (.iinc 3 1, 3) := by decide +kernel
theorem dX11_beginsWith_58 : decode cX11_beginsWith 58 = .ok (.goto (-35), 3) := by decide +kernel
theorem dX11_beginsWith_61 : decode cX11_beginsWith 61 = .ok (.iconst 1, 1) := by decide +kernel
theorem dX11_beginsWith_62 : decode cX11_beginsWith 62 = .ok (.ireturn, 1) := by decide +kernel
theorem dX11_dialled_0 : decode cX11_dialled 0 = .ok (.iload_n 1, 1) := by decide +kernel
theorem dX11_dialled_1 : decode cX11_dialled 1 = .ok (.iconst 1, 1) := by decide +kernel
theorem dX11_dialled_2 : decode cX11_dialled 2 = .ok (.bipush 12, 2) := by decide +kernel
theorem dX11_dialled_4 : decode cX11_dialled 4 = .ok (.invokestatic 111, 3) := by decide +kernel
theorem dX11_dialled_7 : decode cX11_dialled 7 = .ok (.ifCond .eq 20, 3) := by decide +kernel
theorem dX11_dialled_10 : decode cX11_dialled 10 = .ok (.iload_n 2, 1) := by decide +kernel
theorem dX11_dialled_11 : decode cX11_dialled 11 = .ok (.iconst 0, 1) := by decide +kernel
theorem dX11_dialled_12 : decode cX11_dialled 12 = .ok (.iconst 1, 1) := by decide +kernel
theorem dX11_dialled_13 : decode cX11_dialled 13 = .ok (.invokestatic 111, 3) := by decide +kernel
theorem dX11_dialled_16 : decode cX11_dialled 16 = .ok (.ifCond .eq 11, 3) := by decide +kernel
theorem dX11_dialled_19 : decode cX11_dialled 19 = .ok (.iload_n 1, 1) := by decide +kernel
theorem dX11_dialled_20 : decode cX11_dialled 20 = .ok (.aload_n 0, 1) := by decide +kernel
theorem dX11_dialled_21 : decode cX11_dialled 21 = .ok (.getfield 146, 3) := by decide +kernel
theorem dX11_dialled_24 : decode cX11_dialled 24 = .ok (.if_icmp .le 5, 3) := by decide +kernel
theorem dX11_dialled_27 : decode cX11_dialled 27 = .ok (.iconst (-1), 1) := by decide +kernel
theorem dX11_dialled_28 : decode cX11_dialled 28 = .ok (.ireturn, 1) := by decide +kernel
theorem dX11_dialled_29 : decode cX11_dialled 29 = .ok (.aload_n 0, 1) := by decide +kernel
theorem dX11_dialled_30 : decode cX11_dialled 30 = .ok (.iconst 0, 1) := by decide +kernel
theorem dX11_dialled_31 : decode cX11_dialled 31 = .ok (.putfield 146, 3) := by decide +kernel
theorem dX11_dialled_34 : decode cX11_dialled 34 = .ok (.aload_n 0, 1) := by decide +kernel
theorem dX11_dialled_35 : decode cX11_dialled 35 = .ok (.iload_n 1, 1) := by decide +kernel
theorem dX11_dialled_36 : decode cX11_dialled 36 = .ok (.invokevirtual 370, 3) := by decide +kernel
theorem dX11_dialled_39 : decode cX11_dialled 39 = .ok (.istore_n 3, 1) := by decide +kernel
theorem dX11_dialled_40 : decode cX11_dialled 40 = .ok (.iload_n 3, 1) := by decide +kernel
theorem dX11_dialled_41 : decode cX11_dialled 41 = .ok (.ifCond .eq 5, 3) := by decide +kernel
theorem dX11_dialled_44 : decode cX11_dialled 44 = .ok (.iload_n 3, 1) := by decide +kernel
theorem dX11_dialled_45 : decode cX11_dialled 45 = .ok (.ireturn, 1) := by decide +kernel
theorem dX11_dialled_46 : decode cX11_dialled 46 = .ok (.bipush (-2), 2) := by decide +kernel
theorem dX11_dialled_48 : decode cX11_dialled 48 = .ok (.istore 4, 2) := by decide +kernel
theorem dX11_dialled_50 : decode cX11_dialled 50 = .ok (.iconst 0, 1) := by decide +kernel
theorem dX11_dialled_51 : decode cX11_dialled 51 = .ok (.istore 5, 2) := by decide +kernel
theorem dX11_dialled_53 : decode cX11_dialled 53 = .ok (.iload 5, 2) := by decide +kernel
theorem dX11_dialled_55 : decode cX11_dialled 55 = .ok (.bipush 8, 2) := by decide +kernel
theorem dX11_dialled_57 : decode cX11_dialled 57 = .ok (.if_icmp .ge 47, 3) := by decide +kernel
theorem dX11_dialled_60 : decode cX11_dialled 60 = .ok (.aload_n 0, 1) := by decide +kernel
theorem dX11_dialled_61 : decode cX11_dialled 61 = .ok (.iload 5, 2) := by decide +kernel
theorem dX11_dialled_63 : decode cX11_dialled 63 = .ok (.iload_n 1, 1) := by decide +kernel
theorem dX11_dialled_64 : decode cX11_dialled 64 = .ok (.invokevirtual 373, 3) := by decide +kernel
theorem dX11_dialled_67 : decode cX11_dialled 67 = .ok (.ifCond .eq 31, 3) := by decide +kernel
theorem dX11_dialled_70 : decode cX11_dialled 70 = .ok (.iload 4, 2) := by decide +kernel
theorem dX11_dialled_72 : decode cX11_dialled 72 = .ok (.bipush (-2), 2) := by decide +kernel
theorem dX11_dialled_74 : decode cX11_dialled 74 = .ok (.if_icmp .eq 20, 3) := by decide +kernel
theorem dX11_dialled_77 : decode cX11_dialled 77 = .ok (.aload_n 0, 1) := by decide +kernel
theorem dX11_dialled_78 : decode cX11_dialled 78 = .ok (.getfield 101, 3) := by decide +kernel
theorem dX11_dialled_81 : decode cX11_dialled 81 = .ok (.iload 5, 2) := by decide +kernel
theorem dX11_dialled_83 : decode cX11_dialled 83 = .ok (.iaload, 1) := by decide +kernel
theorem dX11_dialled_84 : decode cX11_dialled 84 = .ok (.aload_n 0, 1) := by decide +kernel
theorem dX11_dialled_85 : decode cX11_dialled 85 = .ok (.getfield 101, 3) := by decide +kernel
theorem dX11_dialled_88 : decode cX11_dialled 88 = .ok (.iload 4, 2) := by decide +kernel
theorem dX11_dialled_90 : decode cX11_dialled 90 = .ok (.iaload, 1) := by decide +kernel
theorem dX11_dialled_91 : decode cX11_dialled 91 = .ok (.if_icmp .le 7, 3) := by decide +kernel
theorem dX11_dialled_94 : decode cX11_dialled 94 = .ok (.iload 5, 2) := by decide +kernel
theorem dX11_dialled_96 : decode cX11_dialled 96 = .ok (.istore 4, 2) := by decide +kernel
theorem dX11_dialled_98 : decode cX11_dialled 98 = .ok (.iinc 5 1, 3) := by decide +kernel
theorem dX11_dialled_101 : decode cX11_dialled 101 = .ok (.goto (-48), 3) := by decide +kernel
theorem dX11_dialled_104 : decode cX11_dialled 104 = .ok (.iload_n 2, 1) := by decide +kernel
theorem dX11_dialled_105 : decode cX11_dialled 105 = .ok (.ifCond .eq 10, 3) := by decide +kernel
theorem dX11_dialled_108 : decode cX11_dialled 108 = .ok (.iload 4, 2) := by decide +kernel
theorem dX11_dialled_110 : decode cX11_dialled 110 = .ok (.bipush (-2), 2) := by decide +kernel
theorem dX11_dialled_112 : decode cX11_dialled 112 = .ok (.if_icmp .ne 8, 3) := by decide +kernel
theorem dX11_dialled_115 : decode cX11_dialled 115 = .ok (.iload 4, 2) := by decide +kernel
theorem dX11_dialled_117 : decode cX11_dialled 117 = .ok (.goto 12, 3) := by decide +kernel
theorem dX11_dialled_120 : decode cX11_dialled 120 = .ok (.iload_n 1, 1) := by decide +kernel
theorem dX11_dialled_121 : decode cX11_dialled 121 = .ok (.aload_n 0, 1) := by decide +kernel
theorem dX11_dialled_122 : decode cX11_dialled 122 = .ok (.getfield 101, 3) := by decide +kernel
theorem dX11_dialled_125 : decode cX11_dialled 125 = .ok (.iload 4, 2) := by decide +kernel
theorem dX11_dialled_127 : decode cX11_dialled 127 = .ok (.iaload, 1) := by decide +kernel
theorem dX11_dialled_128 : decode cX11_dialled 128 = .ok (.isub, 1) := by decide +kernel
theorem dX11_dialled_129 : decode cX11_dialled 129 = .ok (.ireturn, 1) := by decide +kernel
theorem dX11_isWithin_0 : decode cX11_isWithin 0 = .ok (.aload_n 0, 1) := by decide +kernel
theorem dX11_isWithin_1 : decode cX11_isWithin 1 = .ok (.getfield 101, 3) := by decide +kernel
theorem dX11_isWithin_4 : decode cX11_isWithin 4 = .ok (.iload_n 1, 1) := by decide +kernel
theorem dX11_isWithin_5 : decode cX11_isWithin 5 = .ok (.iaload, 1) := by decide +kernel
theorem dX11_isWithin_6 : decode cX11_isWithin 6 = .ok (.ifCond .eq 18, 3) := by decide +kernel
theorem dX11_isWithin_9 : decode cX11_isWithin 9 = .ok (.aload_n 0, 1) := by decide +kernel
theorem dX11_isWithin_10 : decode cX11_isWithin 10 = .ok (.getfield 101, 3) := by decide +kernel
theorem dX11_isWithin_13 : decode cX11_isWithin 13 = .ok (.iload_n 1, 1) := by decide +kernel
theorem dX11_isWithin_14 : decode cX11_isWithin 14 = .ok (.iaload, 1) := by decide +kernel
theorem dX11_isWithin_15 : decode cX11_isWithin 15 = .ok (.aload_n 0, 1) := by decide +kernel
theorem dX11_isWithin_16 : decode cX11_isWithin 16 = .ok (.getfield 101, 3) := by decide +kernel
theorem dX11_isWithin_19 : decode cX11_isWithin 19 = .ok (.iload_n 2, 1) := by decide +kernel
theorem dX11_isWithin_20 : decode cX11_isWithin 20 = .ok (.iaload, 1) := by decide +kernel
theorem dX11_isWithin_21 : decode cX11_isWithin 21 = .ok (.if_icmp .le 5, 3) := by decide +kernel
theorem dX11_isWithin_24 : decode cX11_isWithin 24 = .ok (.iconst 0, 1) := by decide +kernel
theorem dX11_isWithin_25 : decode cX11_isWithin 25 = .ok (.ireturn, 1) := by decide +kernel
theorem dX11_isWithin_26 : decode cX11_isWithin 26 = .ok (.iconst 0, 1) := by decide +kernel
theorem dX11_isWithin_27 : decode cX11_isWithin 27 = .ok (.istore_n 3, 1) := by decide +kernel
theorem dX11_isWithin_28 : decode cX11_isWithin 28 = .ok (.iload_n 3, 1) := by decide +kernel
theorem dX11_isWithin_29 : decode cX11_isWithin 29 = .ok (.aload_n 0, 1) := by decide +kernel
theorem dX11_isWithin_30 : decode cX11_isWithin 30 = .ok (.getfield 101, 3) := by decide +kernel
theorem dX11_isWithin_33 : decode cX11_isWithin 33 = .ok (.iload_n 1, 1) := by decide +kernel
theorem dX11_isWithin_34 : decode cX11_isWithin 34 = .ok (.iaload, 1) := by decide +kernel
theorem dX11_isWithin_35 : decode cX11_isWithin 35 = .ok (.if_icmp .ge 36, 3) := by decide +kernel
theorem dX11_isWithin_38 : decode cX11_isWithin 38 = .ok (.aload_n 0, 1) := by decide +kernel
theorem dX11_isWithin_39 : decode cX11_isWithin 39 = .ok (.getfield 98, 3) := by decide +kernel
theorem dX11_isWithin_42 : decode cX11_isWithin 42 = .ok (.bipush 6, 2) := by decide +kernel
theorem dX11_isWithin_44 : decode cX11_isWithin 44 = .ok (.iload_n 1, 1) := by decide +kernel
theorem dX11_isWithin_45 : decode cX11_isWithin 45 = .ok (.imul, 1) := by decide +kernel
theorem dX11_isWithin_46 : decode cX11_isWithin 46 = .ok (.iload_n 3, 1) := by decide +kernel
theorem dX11_isWithin_47 : decode cX11_isWithin 47 = .ok (.iadd, 1) := by decide +kernel
theorem dX11_isWithin_48 : decode cX11_isWithin 48 = .ok (.baload, 1) := by decide +kernel
theorem dX11_isWithin_49 : decode cX11_isWithin 49 = .ok (.aload_n 0, 1) := by decide +kernel
theorem dX11_isWithin_50 : decode cX11_isWithin 50 = .ok (.getfield 98, 3) := by decide +kernel
theorem dX11_isWithin_53 : decode cX11_isWithin 53 = .ok (.bipush 6, 2) := by decide +kernel
theorem dX11_isWithin_55 : decode cX11_isWithin 55 = .ok (.iload_n 2, 1) := by decide +kernel
theorem dX11_isWithin_56 : decode cX11_isWithin 56 = .ok (.imul, 1) := by decide +kernel
theorem dX11_isWithin_57 : decode cX11_isWithin 57 = .ok (.iload_n 3, 1) := by decide +kernel
theorem dX11_isWithin_58 : decode cX11_isWithin 58 = .ok (.iadd, 1) := by decide +kernel
theorem dX11_isWithin_59 : decode cX11_isWithin 59 = .ok (.baload, 1) := by decide +kernel
theorem dX11_isWithin_60 : decode cX11_isWithin 60 = .ok (.if_icmp .eq 5, 3) := by decide +kernel
theorem dX11_isWithin_63 : decode cX11_isWithin 63 = .ok (.iconst 0, 1) := by decide +kernel
theorem dX11_isWithin_64 : decode cX11_isWithin 64 = .ok (.ireturn, 1) := by decide +kernel
theorem dX11_isWithin_65 : decode cX11_isWithin 65 = .ok (.iinc 3 1, 3) := by decide +kernel
theorem dX11_isWithin_68 : decode cX11_isWithin 68 = .ok (.goto (-40), 3) := by decide +kernel
theorem dX11_isWithin_71 : decode cX11_isWithin 71 = .ok (.iconst 1, 1) := by decide +kernel
theorem dX11_isWithin_72 : decode cX11_isWithin 72 = .ok (.ireturn, 1) := by decide +kernel
theorem dX11_clear_0 : decode cX11_clear 0 = .ok (.iconst 0, 1) := by decide +kernel
theorem dX11_clear_1 : decode cX11_clear 1 = .ok (.istore_n 1, 1) := by decide +kernel
theorem dX11_clear_2 : decode cX11_clear 2 = .ok (.iload_n 1, 1) := by decide +kernel
theorem dX11_clear_3 : decode cX11_clear 3 = .ok (.bipush 8, 2) := by decide +kernel
theorem dX11_clear_5 : decode cX11_clear 5 = .ok (.if_icmp .ge 39, 3) := by decide +kernel
theorem dX11_clear_8 : decode cX11_clear 8 = .ok (.iconst 0, 1) := by decide +kernel
theorem dX11_clear_9 : decode cX11_clear 9 = .ok (.istore_n 2, 1) := by decide +kernel
theorem dX11_clear_10 : decode cX11_clear 10 = .ok (.iload_n 2, 1) := by decide +kernel
theorem dX11_clear_11 : decode cX11_clear 11 = .ok (.bipush 8, 2) := by decide +kernel
theorem dX11_clear_13 : decode cX11_clear 13 = .ok (.if_icmp .ge 25, 3) := by decide +kernel
theorem dX11_clear_16 : decode cX11_clear 16 = .ok (.iload_n 1, 1) := by decide +kernel
theorem dX11_clear_17 : decode cX11_clear 17 = .ok (.iload_n 2, 1) := by decide +kernel
theorem dX11_clear_18 : decode cX11_clear 18 = .ok (.if_icmp .eq 14, 3) := by decide +kernel
theorem dX11_clear_21 : decode cX11_clear 21 = .ok (.aload_n 0, 1) := by decide +kernel
theorem dX11_clear_22 : decode cX11_clear 22 = .ok (.iload_n 1, 1) := by decide +kernel
theorem dX11_clear_23 : decode cX11_clear 23 = .ok (.iload_n 2, 1) := by decide +kernel
theorem dX11_clear_24 : decode cX11_clear 24 = .ok (.invokevirtual 376, 3) := by decide +kernel
theorem dX11_clear_27 : decode cX11_clear 27 = .ok (.ifCond .eq 5, 3) := by decide +kernel
theorem dX11_clear_30 : decode cX11_clear 30 = .ok (.iconst 0, 1) := by decide +kernel
theorem dX11_clear_31 : decode cX11_clear 31 = .ok (.ireturn, 1) := by decide +kernel
theorem dX11_clear_32 : decode cX11_clear 32 = .ok (.iinc 2 1, 3) := by decide +kernel
theorem dX11_clear_35 : decode cX11_clear 35 = .ok (.goto (-25), 3) := by decide +kernel
theorem dX11_clear_38 : decode cX11_clear 38 = .ok (.iinc 1 1, 3) := by decide +kernel
theorem dX11_clear_41 : decode cX11_clear 41 = .ok (.goto (-39), 3) := by decide +kernel
theorem dX11_clear_44 : decode cX11_clear 44 = .ok (.iconst 1, 1) := by decide +kernel
theorem dX11_clear_45 : decode cX11_clear 45 = .ok (.ireturn, 1) := by decide +kernel
theorem dX11_digitOf_0 : decode cX11_digitOf 0 = .ok (.iload_n 0, 1) := by decide +kernel
theorem dX11_digitOf_1 : decode cX11_digitOf 1 = .ok (.istore_n 3, 1) := by decide +kernel
theorem dX11_digitOf_2 : decode cX11_digitOf 2 = .ok (.iload_n 1, 1) := by decide +kernel
theorem dX11_digitOf_3 : decode cX11_digitOf 3 = .ok (.iconst 1, 1) := by decide +kernel
theorem dX11_digitOf_4 : decode cX11_digitOf 4 = .ok (.isub, 1) := by decide +kernel
theorem dX11_digitOf_5 : decode cX11_digitOf 5 = .ok (.istore 4, 2) := by decide +kernel
theorem dX11_digitOf_7 : decode cX11_digitOf 7 = .ok (.iload 4, 2) := by decide +kernel
theorem dX11_digitOf_9 : decode cX11_digitOf 9 = .ok (.iload_n 2, 1) := by decide +kernel
theorem dX11_digitOf_10 : decode cX11_digitOf 10 = .ok (.if_icmp .le 14, 3) := by decide +kernel
theorem dX11_digitOf_13 : decode cX11_digitOf 13 = .ok (.iload_n 3, 1) := by decide +kernel
theorem dX11_digitOf_14 : decode cX11_digitOf 14 = .ok (.bipush 10, 2) := by decide +kernel
theorem dX11_digitOf_16 : decode cX11_digitOf 16 = .ok (.idiv, 1) := by decide +kernel
theorem dX11_digitOf_17 : decode cX11_digitOf 17 = .ok (.istore_n 3, 1) := by decide +kernel
theorem dX11_digitOf_18 : decode cX11_digitOf 18 = .ok (.iinc 4 (-1), 3) := by decide +kernel
theorem dX11_digitOf_21 : decode cX11_digitOf 21 = .ok (.goto (-14), 3) := by decide +kernel
theorem dX11_digitOf_24 : decode cX11_digitOf 24 = .ok (.bipush 48, 2) := by decide +kernel
theorem dX11_digitOf_26 : decode cX11_digitOf 26 = .ok (.iload_n 3, 1) := by decide +kernel
theorem dX11_digitOf_27 : decode cX11_digitOf 27 = .ok (.bipush 10, 2) := by decide +kernel
theorem dX11_digitOf_29 : decode cX11_digitOf 29 = .ok (.irem, 1) := by decide +kernel
theorem dX11_digitOf_30 : decode cX11_digitOf 30 = .ok (.iadd, 1) := by decide +kernel
theorem dX11_digitOf_31 : decode cX11_digitOf 31 = .ok (.ireturn, 1) := by decide +kernel
theorem dX11_clashes_0 : decode cX11_clashes 0 = .ok (.aload_n 0, 1) := by decide +kernel
theorem dX11_clashes_1 : decode cX11_clashes 1 = .ok (.getfield 101, 3) := by decide +kernel
theorem dX11_clashes_4 : decode cX11_clashes 4 = .ok (.iload_n 3, 1) := by decide +kernel
theorem dX11_clashes_5 : decode cX11_clashes 5 = .ok (.iaload, 1) := by decide +kernel
theorem dX11_clashes_6 : decode cX11_clashes 6 = .ok (.ifCond .ne 5, 3) := by decide +kernel
theorem dX11_clashes_9 : decode cX11_clashes 9 = .ok (.iconst 0, 1) := by decide +kernel
theorem dX11_clashes_10 : decode cX11_clashes 10 = .ok (.ireturn, 1) := by decide +kernel
theorem dX11_clashes_11 : decode cX11_clashes 11 = .ok (.iconst 0, 1) := by decide +kernel
theorem dX11_clashes_12 : decode cX11_clashes 12 = .ok (.istore 4, 2) := by decide +kernel
theorem dX11_clashes_14 : decode cX11_clashes 14 = .ok (.iload 4, 2) := by decide +kernel
theorem dX11_clashes_16 : decode cX11_clashes 16 = .ok (.iload_n 2, 1) := by decide +kernel
theorem dX11_clashes_17 : decode cX11_clashes 17 = .ok (.if_icmp .ge 44, 3) := by decide +kernel
theorem dX11_clashes_20 : decode cX11_clashes 20 = .ok (.iload 4, 2) := by decide +kernel
theorem dX11_clashes_22 : decode cX11_clashes 22 = .ok (.aload_n 0, 1) := by decide +kernel
theorem dX11_clashes_23 : decode cX11_clashes 23 = .ok (.getfield 101, 3) := by decide +kernel
theorem dX11_clashes_26 : decode cX11_clashes 26 = .ok (.iload_n 3, 1) := by decide +kernel
theorem dX11_clashes_27 : decode cX11_clashes 27 = .ok (.iaload, 1) := by decide +kernel
theorem dX11_clashes_28 : decode cX11_clashes 28 = .ok (.if_icmp .ge 33, 3) := by decide +kernel
theorem dX11_clashes_31 : decode cX11_clashes 31 = .ok (.aload_n 0, 1) := by decide +kernel
theorem dX11_clashes_32 : decode cX11_clashes 32 = .ok (.getfield 98, 3) := by decide +kernel
theorem dX11_clashes_35 : decode cX11_clashes 35 = .ok (.bipush 6, 2) := by decide +kernel
theorem dX11_clashes_37 : decode cX11_clashes 37 = .ok (.iload_n 3, 1) := by decide +kernel
theorem dX11_clashes_38 : decode cX11_clashes 38 = .ok (.imul, 1) := by decide +kernel
theorem dX11_clashes_39 : decode cX11_clashes 39 = .ok (.iload 4, 2) := by decide +kernel
theorem dX11_clashes_41 : decode cX11_clashes 41 = .ok (.iadd, 1) := by decide +kernel
theorem dX11_clashes_42 : decode cX11_clashes 42 = .ok (.baload, 1) := by decide +kernel
theorem dX11_clashes_43 : decode cX11_clashes 43 = .ok (.iload_n 1, 1) := by decide +kernel
theorem dX11_clashes_44 : decode cX11_clashes 44 = .ok (.iload_n 2, 1) := by decide +kernel
theorem dX11_clashes_45 : decode cX11_clashes 45 = .ok (.iload 4, 2) := by decide +kernel
theorem dX11_clashes_47 : decode cX11_clashes 47 = .ok (.invokestatic 379, 3) := by decide +kernel
theorem dX11_clashes_50 : decode cX11_clashes 50 = .ok (.if_icmp .eq 5, 3) := by decide +kernel
theorem dX11_clashes_53 : decode cX11_clashes 53 = .ok (.iconst 0, 1) := by decide +kernel
theorem dX11_clashes_54 : decode cX11_clashes 54 = .ok (.ireturn, 1) := by decide +kernel
theorem dX11_clashes_55 : decode cX11_clashes 55 = .ok (.iinc 4 1, 3) := by decide +kernel
theorem dX11_clashes_58 : decode cX11_clashes 58 = .ok (.goto (-44), 3) := by decide +kernel
theorem dX11_clashes_61 : decode cX11_clashes 61 = .ok (.iconst 1, 1) := by decide +kernel
theorem dX11_clashes_62 : decode cX11_clashes 62 = .ok (.ireturn, 1) := by decide +kernel
theorem dX11_freeCode_0 : decode cX11_freeCode 0 = .ok (.iload_n 1, 1) := by decide +kernel
theorem dX11_freeCode_1 : decode cX11_freeCode 1 = .ok (.iconst 1, 1) := by decide +kernel
theorem dX11_freeCode_2 : decode cX11_freeCode 2 = .ok (.iconst 3, 1) := by decide +kernel
theorem dX11_freeCode_3 : decode cX11_freeCode 3 = .ok (.invokestatic 111, 3) := by decide +kernel
theorem dX11_freeCode_6 : decode cX11_freeCode 6 = .ok (.ifCond .ne 5, 3) := by decide +kernel
theorem dX11_freeCode_9 : decode cX11_freeCode 9 = .ok (.iconst (-1), 1) := by decide +kernel
theorem dX11_freeCode_10 : decode cX11_freeCode 10 = .ok (.ireturn, 1) := by decide +kernel
theorem dX11_freeCode_11 : decode cX11_freeCode 11 = .ok (.aload_n 0, 1) := by decide +kernel
theorem dX11_freeCode_12 : decode cX11_freeCode 12 = .ok (.invokevirtual 382, 3) := by decide +kernel
theorem dX11_freeCode_15 : decode cX11_freeCode 15 = .ok (.ifCond .ne 6, 3) := by decide +kernel
theorem dX11_freeCode_18 : decode cX11_freeCode 18 = .ok (.bipush (-2), 2) := by decide +kernel
theorem dX11_freeCode_20 : decode cX11_freeCode 20 = .ok (.ireturn, 1) := by decide +kernel
theorem dX11_freeCode_21 : decode cX11_freeCode 21 = .ok (.iload_n 1, 1) := by decide +kernel
theorem dX11_freeCode_22 : decode cX11_freeCode 22 = .ok (.iconst 1, 1) := by decide +kernel
theorem dX11_freeCode_23 : decode cX11_freeCode 23 = .ok (.if_icmp .ne 8, 3) := by decide +kernel
theorem dX11_freeCode_26 : decode cX11_freeCode 26 = .ok (.bipush 10, 2) := by decide +kernel
theorem dX11_freeCode_28 : decode cX11_freeCode 28 = .ok (.goto 16, 3) := by decide +kernel
theorem dX11_freeCode_31 : decode cX11_freeCode 31 = .ok (.iload_n 1, 1) := by decide +kernel
theorem dX11_freeCode_32 : decode cX11_freeCode 32 = .ok (.iconst 2, 1) := by decide +kernel
theorem dX11_freeCode_33 : decode cX11_freeCode 33 = .ok (.if_icmp .ne 8, 3) := by decide +kernel
theorem dX11_freeCode_36 : decode cX11_freeCode 36 = .ok (.bipush 100, 2) := by decide +kernel
theorem dX11_freeCode_38 : decode cX11_freeCode 38 = .ok (.goto 6, 3) := by decide +kernel
theorem dX11_freeCode_41 : decode cX11_freeCode 41 = .ok (.sipush 1000, 3) := by decide +kernel
theorem dX11_freeCode_44 : decode cX11_freeCode 44 = .ok (.istore_n 2, 1) := by decide +kernel
theorem dX11_freeCode_45 : decode cX11_freeCode 45 = .ok (.iconst 0, 1) := by decide +kernel
theorem dX11_freeCode_46 : decode cX11_freeCode 46 = .ok (.istore_n 3, 1) := by decide +kernel
theorem dX11_freeCode_47 : decode cX11_freeCode 47 = .ok (.iload_n 3, 1) := by decide +kernel
theorem dX11_freeCode_48 : decode cX11_freeCode 48 = .ok (.iload_n 2, 1) := by decide +kernel
theorem dX11_freeCode_49 : decode cX11_freeCode 49 = .ok (.if_icmp .ge 49, 3) := by decide +kernel
theorem dX11_freeCode_52 : decode cX11_freeCode 52 = .ok (.iconst 1, 1) := by decide +kernel
theorem dX11_freeCode_53 : decode cX11_freeCode 53 = .ok (.istore 4, 2) := by decide +kernel
theorem dX11_freeCode_55 : decode cX11_freeCode 55 = .ok (.iconst 0, 1) := by decide +kernel
theorem dX11_freeCode_56 : decode cX11_freeCode 56 = .ok (.istore 5, 2) := by decide +kernel
theorem dX11_freeCode_58 : decode cX11_freeCode 58 = .ok (.iload 5, 2) := by decide +kernel
theorem dX11_freeCode_60 : decode cX11_freeCode 60 = .ok (.bipush 8, 2) := by decide +kernel
theorem dX11_freeCode_62 : decode cX11_freeCode 62 = .ok (.if_icmp .ge 23, 3) := by decide +kernel
theorem dX11_freeCode_65 : decode cX11_freeCode 65 = .ok (.aload_n 0, 1) := by decide +kernel
theorem dX11_freeCode_66 : decode cX11_freeCode 66 = .ok (.iload_n 3, 1) := by decide +kernel
theorem dX11_freeCode_67 : decode cX11_freeCode 67 = .ok (.iload_n 1, 1) := by decide +kernel
theorem dX11_freeCode_68 : decode cX11_freeCode 68 = .ok (.iload 5, 2) := by decide +kernel
theorem dX11_freeCode_70 : decode cX11_freeCode 70 = .ok (.invokevirtual 385, 3) := by decide +kernel
theorem dX11_freeCode_73 : decode cX11_freeCode 73 = .ok (.ifCond .eq 6, 3) := by decide +kernel
theorem dX11_freeCode_76 : decode cX11_freeCode 76 = .ok (.iconst 0, 1) := by decide +kernel
theorem dX11_freeCode_77 : decode cX11_freeCode 77 = .ok (.istore 4, 2) := by decide +kernel
theorem dX11_freeCode_79 : decode cX11_freeCode 79 = .ok (.iinc 5 1, 3) := by decide +kernel
theorem dX11_freeCode_82 : decode cX11_freeCode 82 = .ok (.goto (-24), 3) := by decide +kernel
theorem dX11_freeCode_85 : decode cX11_freeCode 85 = .ok (.iload 4, 2) := by decide +kernel
theorem dX11_freeCode_87 : decode cX11_freeCode 87 = .ok (.ifCond .eq 5, 3) := by decide +kernel
theorem dX11_freeCode_90 : decode cX11_freeCode 90 = .ok (.iload_n 3, 1) := by decide +kernel
theorem dX11_freeCode_91 : decode cX11_freeCode 91 = .ok (.ireturn, 1) := by decide +kernel
theorem dX11_freeCode_92 : decode cX11_freeCode 92 = .ok (.iinc 3 1, 3) := by decide +kernel
theorem dX11_freeCode_95 : decode cX11_freeCode 95 = .ok (.goto (-48), 3) := by decide +kernel
theorem dX11_freeCode_98 : decode cX11_freeCode 98 = .ok (.bipush (-2), 2) := by decide +kernel
theorem dX11_freeCode_100 : decode cX11_freeCode 100 = .ok (.ireturn, 1) := by decide +kernel
theorem dX11_seed_0 : decode cX11_seed 0 = .ok (.iload_n 1, 1) := by decide +kernel
theorem dX11_seed_1 : decode cX11_seed 1 = .ok (.iconst 0, 1) := by decide +kernel
theorem dX11_seed_2 : decode cX11_seed 2 = .ok (.ldc_w 388, 3) := by decide +kernel
theorem dX11_seed_5 : decode cX11_seed 5 = .ok (.invokestatic 111, 3) := by decide +kernel
theorem dX11_seed_8 : decode cX11_seed 8 = .ok (.ifCond .ne 5, 3) := by decide +kernel
theorem dX11_seed_11 : decode cX11_seed 11 = .ok (.iconst 0, 1) := by decide +kernel
theorem dX11_seed_12 : decode cX11_seed 12 = .ok (.ireturn, 1) := by decide +kernel
theorem dX11_seed_13 : decode cX11_seed 13 = .ok (.aload_n 0, 1) := by decide +kernel
theorem dX11_seed_14 : decode cX11_seed 14 = .ok (.getfield 7, 3) := by decide +kernel
theorem dX11_seed_17 : decode cX11_seed 17 = .ok (.sipush 390, 3) := by decide +kernel
theorem dX11_seed_20 : decode cX11_seed 20 = .ok (.iload_n 1, 1) := by decide +kernel
theorem dX11_seed_21 : decode cX11_seed 21 = .ok (.iastore, 1) := by decide +kernel
theorem dX11_seed_22 : decode cX11_seed 22 = .ok (.iconst 1, 1) := by decide +kernel
theorem dX11_seed_23 : decode cX11_seed 23 = .ok (.ireturn, 1) := by decide +kernel
theorem dX11_keep_0 : decode cX11_keep 0 = .ok (.aload_n 0, 1) := by decide +kernel
theorem dX11_keep_1 : decode cX11_keep 1 = .ok (.iconst 1, 1) := by decide +kernel
theorem dX11_keep_2 : decode cX11_keep 2 = .ok (.putfield 389, 3) := by decide +kernel
theorem dX11_keep_5 : decode cX11_keep 5 = .ok (.aload_n 0, 1) := by decide +kernel
theorem dX11_keep_6 : decode cX11_keep 6 = .ok (.getfield 7, 3) := by decide +kernel
theorem dX11_keep_9 : decode cX11_keep 9 = .ok (.aload_n 0, 1) := by decide +kernel
theorem dX11_keep_10 : decode cX11_keep 10 = .ok (.getfield 16, 3) := by decide +kernel
theorem dX11_keep_13 : decode cX11_keep 13 = .ok (.invokestatic 266, 3) := by decide +kernel
theorem dX11_keep_16 : decode cX11_keep 16 = .ok (.aload_n 0, 1) := by decide +kernel
theorem dX11_keep_17 : decode cX11_keep 17 = .ok (.getfield 7, 3) := by decide +kernel
theorem dX11_keep_20 : decode cX11_keep 20 = .ok (.sipush 389, 3) := by decide +kernel
theorem dX11_keep_23 : decode cX11_keep 23 = .ok (.iaload, 1) := by decide +kernel
theorem dX11_keep_24 : decode cX11_keep 24 = .ok (.ireturn, 1) := by decide +kernel
theorem dX11_undo_0 : decode cX11_undo 0 = .ok (.aload_n 0, 1) := by decide +kernel
theorem dX11_undo_1 : decode cX11_undo 1 = .ok (.getfield 389, 3) := by decide +kernel
theorem dX11_undo_4 : decode cX11_undo 4 = .ok (.ifCond .ne 5, 3) := by decide +kernel
theorem dX11_undo_7 : decode cX11_undo 7 = .ok (.iconst 0, 1) := by decide +kernel
theorem dX11_undo_8 : decode cX11_undo 8 = .ok (.ireturn, 1) := by decide +kernel
theorem dX11_undo_9 : decode cX11_undo 9 = .ok (.aload_n 0, 1) := by decide +kernel
theorem dX11_undo_10 : decode cX11_undo 10 = .ok (.getfield 16, 3) := by decide +kernel
theorem dX11_undo_13 : decode cX11_undo 13 = .ok (.aload_n 0, 1) := by decide +kernel
theorem dX11_undo_14 : decode cX11_undo 14 = .ok (.getfield 7, 3) := by decide +kernel
theorem dX11_undo_17 : decode cX11_undo 17 = .ok (.invokestatic 266, 3) := by decide +kernel
theorem dX11_undo_20 : decode cX11_undo 20 = .ok (.iconst 1, 1) := by decide +kernel
theorem dX11_undo_21 : decode cX11_undo 21 = .ok (.ireturn, 1) := by decide +kernel
theorem dX11_check_0 : decode cX11_check 0 = .ok (.iload_n 1, 1) := by decide +kernel
theorem dX11_check_1 : decode cX11_check 1 = .ok (.iconst 0, 1) := by decide +kernel
theorem dX11_check_2 : decode cX11_check 2 = .ok (.bipush 16, 2) := by decide +kernel
theorem dX11_check_4 : decode cX11_check 4 = .ok (.invokestatic 111, 3) := by decide +kernel
theorem dX11_check_7 : decode cX11_check 7 = .ok (.ifCond .eq 11, 3) := by decide +kernel
theorem dX11_check_10 : decode cX11_check 10 = .ok (.iload_n 1, 1) := by decide +kernel
theorem dX11_check_11 : decode cX11_check 11 = .ok (.aload_n 0, 1) := by decide +kernel
theorem dX11_check_12 : decode cX11_check 12 = .ok (.getfield 146, 3) := by decide +kernel
theorem dX11_check_15 : decode cX11_check 15 = .ok (.if_icmp .le 6, 3) := by decide +kernel
theorem dX11_check_18 : decode cX11_check 18 = .ok (.bipush (-2), 2) := by decide +kernel
theorem dX11_check_20 : decode cX11_check 20 = .ok (.ireturn, 1) := by decide +kernel
theorem dX11_check_21 : decode cX11_check 21 = .ok (.aload_n 0, 1) := by decide +kernel
theorem dX11_check_22 : decode cX11_check 22 = .ok (.iconst 0, 1) := by decide +kernel
theorem dX11_check_23 : decode cX11_check 23 = .ok (.putfield 146, 3) := by decide +kernel
theorem dX11_check_26 : decode cX11_check 26 = .ok (.iconst 0, 1) := by decide +kernel
theorem dX11_check_27 : decode cX11_check 27 = .ok (.istore_n 2, 1) := by decide +kernel
theorem dX11_check_28 : decode cX11_check 28 = .ok (.iload_n 2, 1) := by decide +kernel
theorem dX11_check_29 : decode cX11_check 29 = .ok (.iload_n 1, 1) := by decide +kernel
theorem dX11_check_30 : decode cX11_check 30 = .ok (.if_icmp .ge 44, 3) := by decide +kernel
theorem dX11_check_33 : decode cX11_check 33 = .ok (.aload_n 0, 1) := by decide +kernel
theorem dX11_check_34 : decode cX11_check 34 = .ok (.iload_n 2, 1) := by decide +kernel
theorem dX11_check_35 : decode cX11_check 35 = .ok (.invokevirtual 338, 3) := by decide +kernel
theorem dX11_check_38 : decode cX11_check 38 = .ok (.aload_n 0, 1) := by decide +kernel
theorem dX11_check_39 : decode cX11_check 39 = .ok (.iload_n 2, 1) := by decide +kernel
theorem dX11_check_40 : decode cX11_check 40 = .ok (.invokevirtual 119, 3) := by decide +kernel
theorem dX11_check_43 : decode cX11_check 43 = .ok (.ifCond .eq 19, 3) := by decide +kernel
theorem dX11_check_46 : decode cX11_check 46 = .ok (.aload_n 0, 1) := by decide +kernel
theorem dX11_check_47 : decode cX11_check 47 = .ok (.getfield 7, 3) := by decide +kernel
theorem dX11_check_50 : decode cX11_check 50 = .ok (.bipush 80, 2) := by decide +kernel
theorem dX11_check_52 : decode cX11_check 52 = .ok (.iload_n 2, 1) := by decide +kernel
theorem dX11_check_53 : decode cX11_check 53 = .ok (.iadd, 1) := by decide +kernel
theorem dX11_check_54 : decode cX11_check 54 = .ok (.iaload, 1) := by decide +kernel
theorem dX11_check_55 : decode cX11_check 55 = .ok (.sipush 256, 3) := by decide +kernel
theorem dX11_check_58 : decode cX11_check 58 = .ok (.irem, 1) := by decide +kernel
theorem dX11_check_59 : decode cX11_check 59 = .ok (.goto 4, 3) := by decide +kernel
theorem dX11_check_62 : decode cX11_check 62 = .ok (.iconst 0, 1) := by decide +kernel
theorem dX11_check_63 : decode cX11_check 63 = .ok (.if_icmp .eq 5, 3) := by decide +kernel
theorem dX11_check_66 : decode cX11_check 66 = .ok (.iload_n 2, 1) := by decide +kernel
theorem dX11_check_67 : decode cX11_check 67 = .ok (.ireturn, 1) := by decide +kernel
theorem dX11_check_68 : decode cX11_check 68 = .ok (.iinc 2 1, 3) := by decide +kernel
theorem dX11_check_71 : decode cX11_check 71 = .ok (.goto (-43), 3) := by decide +kernel
theorem dX11_check_74 : decode cX11_check 74 = .ok (.iconst (-1), 1) := by decide +kernel
theorem dX11_check_75 : decode cX11_check 75 = .ok (.ireturn, 1) := by decide +kernel
theorem dX11_setOf_0 : decode cX11_setOf 0 = .ok (.iconst 0, 1) := by decide +kernel
theorem dX11_setOf_1 : decode cX11_setOf 1 = .ok (.istore_n 3, 1) := by decide +kernel
theorem dX11_setOf_2 : decode cX11_setOf 2 = .ok (.iconst 0, 1) := by decide +kernel
theorem dX11_setOf_3 : decode cX11_setOf 3 = .ok (.istore 4, 2) := by decide +kernel
theorem dX11_setOf_5 : decode cX11_setOf 5 = .ok (.iload 4, 2) := by decide +kernel
theorem dX11_setOf_7 : decode cX11_setOf 7 = .ok (.bipush 16, 2) := by decide +kernel
theorem dX11_setOf_9 : decode cX11_setOf 9 = .ok (.if_icmp .ge 38, 3) := by decide +kernel
theorem dX11_setOf_12 : decode cX11_setOf 12 = .ok (.aload_n 0, 1) := by decide +kernel
theorem dX11_setOf_13 : decode cX11_setOf 13 = .ok (.iload 4, 2) := by decide +kernel
theorem dX11_setOf_15 : decode cX11_setOf 15 = .ok (.invokevirtual 119, 3) := by decide +kernel
theorem dX11_setOf_18 : decode cX11_setOf 18 = .ok (.ifCond .eq 23, 3) := by decide +kernel
theorem dX11_setOf_21 : decode cX11_setOf 21 = .ok (.aload_n 0, 1) := by decide +kernel
theorem dX11_setOf_22 : decode cX11_setOf 22 = .ok (.getfield 7, 3) := by decide +kernel
theorem dX11_setOf_25 : decode cX11_setOf 25 = .ok (.iload_n 1, 1) := by decide +kernel
theorem dX11_setOf_26 : decode cX11_setOf 26 = .ok (.iload 4, 2) := by decide +kernel
theorem dX11_setOf_28 : decode cX11_setOf 28 = .ok (.iadd, 1) := by decide +kernel
theorem dX11_setOf_29 : decode cX11_setOf 29 = .ok (.iaload, 1) := by decide +kernel
theorem dX11_setOf_30 : decode cX11_setOf 30 = .ok (.iload_n 2, 1) := by decide +kernel
theorem dX11_setOf_31 : decode cX11_setOf 31 = .ok (.if_icmp .ne 10, 3) := by decide +kernel
theorem dX11_setOf_34 : decode cX11_setOf 34 = .ok (.iload_n 3, 1) := by decide +kernel
theorem dX11_setOf_35 : decode cX11_setOf 35 = .ok (.iconst 1, 1) := by decide +kernel
theorem dX11_setOf_36 : decode cX11_setOf 36 = .ok (.iload 4, 2) := by decide +kernel
theorem dX11_setOf_38 : decode cX11_setOf 38 = .ok (.ishl, 1) := by decide +kernel
theorem dX11_setOf_39 : decode cX11_setOf 39 = .ok (.ior, 1) := by decide +kernel
theorem dX11_setOf_40 : decode cX11_setOf 40 = .ok (.istore_n 3, 1) := by decide +kernel
theorem dX11_setOf_41 : decode cX11_setOf 41 = .ok (.iinc 4 1, 3) := by decide +kernel
theorem dX11_setOf_44 : decode cX11_setOf 44 = .ok (.goto (-39), 3) := by decide +kernel
theorem dX11_setOf_47 : decode cX11_setOf 47 = .ok (.iload_n 3, 1) := by decide +kernel
theorem dX11_setOf_48 : decode cX11_setOf 48 = .ok (.ireturn, 1) := by decide +kernel
theorem dX11_count_0 : decode cX11_count 0 = .ok (.iconst 0, 1) := by decide +kernel
theorem dX11_count_1 : decode cX11_count 1 = .ok (.istore_n 2, 1) := by decide +kernel
theorem dX11_count_2 : decode cX11_count 2 = .ok (.iload_n 1, 1) := by decide +kernel
theorem dX11_count_3 : decode cX11_count 3 = .ok (.tableswitch 152 0 9 #[53, 62, 71, 78, 86, 94, 128, 133, 138, 143], 53) := by decide +kernel
theorem dX11_count_56 : decode cX11_count 56 = .ok (.aload_n 0, 1) := by decide +kernel
theorem dX11_count_57 : decode cX11_count 57 = .ok (.getfield 7, 3) := by decide +kernel
theorem dX11_count_60 : decode cX11_count 60 = .ok (.sipush 389, 3) := by decide +kernel
theorem dX11_count_63 : decode cX11_count 63 = .ok (.iaload, 1) := by decide +kernel
theorem dX11_count_64 : decode cX11_count 64 = .ok (.ireturn, 1) := by decide +kernel
theorem dX11_count_65 : decode cX11_count 65 = .ok (.aload_n 0, 1) := by decide +kernel
theorem dX11_count_66 : decode cX11_count 66 = .ok (.getfield 7, 3) := by decide +kernel
theorem dX11_count_69 : decode cX11_count 69 = .ok (.sipush 388, 3) := by decide +kernel
theorem dX11_count_72 : decode cX11_count 72 = .ok (.iaload, 1) := by decide +kernel
theorem dX11_count_73 : decode cX11_count 73 = .ok (.ireturn, 1) := by decide +kernel
theorem dX11_count_74 : decode cX11_count 74 = .ok (.aload_n 0, 1) := by decide +kernel
theorem dX11_count_75 : decode cX11_count 75 = .ok (.iconst 0, 1) := by decide +kernel
theorem dX11_count_76 : decode cX11_count 76 = .ok (.iconst 1, 1) := by decide +kernel
theorem dX11_count_77 : decode cX11_count 77 = .ok (.invokevirtual 393, 3) := by decide +kernel
theorem dX11_count_80 : decode cX11_count 80 = .ok (.ireturn, 1) := by decide +kernel
theorem dX11_count_81 : decode cX11_count 81 = .ok (.aload_n 0, 1) := by decide +kernel
theorem dX11_count_82 : decode cX11_count 82 = .ok (.bipush 32, 2) := by decide +kernel
theorem dX11_count_84 : decode cX11_count 84 = .ok (.iconst 0, 1) := by decide +kernel
theorem dX11_count_85 : decode cX11_count 85 = .ok (.invokevirtual 393, 3) := by decide +kernel
theorem dX11_count_88 : decode cX11_count 88 = .ok (.ireturn, 1) := by decide +kernel
theorem dX11_count_89 : decode cX11_count 89 = .ok (.aload_n 0, 1) := by decide +kernel
theorem dX11_count_90 : decode cX11_count 90 = .ok (.bipush 48, 2) := by decide +kernel
theorem dX11_count_92 : decode cX11_count 92 = .ok (.iconst 0, 1) := by decide +kernel
theorem dX11_count_93 : decode cX11_count 93 = .ok (.invokevirtual 393, 3) := by decide +kernel
theorem dX11_count_96 : decode cX11_count 96 = .ok (.ireturn, 1) := by decide +kernel
theorem dX11_count_97 : decode cX11_count 97 = .ok (.iconst 0, 1) := by decide +kernel
theorem dX11_count_98 : decode cX11_count 98 = .ok (.istore_n 3, 1) := by decide +kernel
theorem dX11_count_99 : decode cX11_count 99 = .ok (.iload_n 3, 1) := by decide +kernel
theorem dX11_count_100 : decode cX11_count 100 = .ok (.bipush 16, 2) := by decide +kernel
theorem dX11_count_102 : decode cX11_count 102 = .ok (.if_icmp .ge 27, 3) := by decide +kernel
theorem dX11_count_105 : decode cX11_count 105 = .ok (.iload_n 2, 1) := by decide +kernel
theorem dX11_count_106 : decode cX11_count 106 = .ok (.aload_n 0, 1) := by decide +kernel
theorem dX11_count_107 : decode cX11_count 107 = .ok (.iload_n 3, 1) := by decide +kernel
theorem dX11_count_108 : decode cX11_count 108 = .ok (.invokevirtual 273, 3) := by decide +kernel
theorem dX11_count_111 : decode cX11_count 111 = .ok (.ifCond .eq 9, 3) := by decide +kernel
theorem dX11_count_114 : decode cX11_count 114 = .ok (.iconst 1, 1) := by decide +kernel
theorem dX11_count_115 : decode cX11_count 115 = .ok (.iload_n 3, 1) := by decide +kernel
theorem dX11_count_116 : decode cX11_count 116 = .ok (.ishl, 1) := by decide +kernel
theorem dX11_count_117 : decode cX11_count 117 = .ok (.goto 4, 3) := by decide +kernel
theorem dX11_count_120 : decode cX11_count 120 = .ok (.iconst 0, 1) := by decide +kernel
theorem dX11_count_121 : decode cX11_count 121 = .ok (.ior, 1) := by decide +kernel
theorem dX11_count_122 : decode cX11_count 122 = .ok (.istore_n 2, 1) := by decide +kernel
theorem dX11_count_123 : decode cX11_count 123 = .ok (.iinc 3 1, 3) := by decide +kernel
theorem dX11_count_126 : decode cX11_count 126 = .ok (.goto (-27), 3) := by decide +kernel
theorem dX11_count_129 : decode cX11_count 129 = .ok (.iload_n 2, 1) := by decide +kernel
theorem dX11_count_130 : decode cX11_count 130 = .ok (.ireturn, 1) := by decide +kernel
theorem dX11_count_131 : decode cX11_count 131 = .ok (.aload_n 0, 1) := by decide +kernel
theorem dX11_count_132 : decode cX11_count 132 = .ok (.invokevirtual 323, 3) := by decide +kernel
theorem dX11_count_135 : decode cX11_count 135 = .ok (.ireturn, 1) := by decide +kernel
theorem dX11_count_136 : decode cX11_count 136 = .ok (.aload_n 0, 1) := by decide +kernel
theorem dX11_count_137 : decode cX11_count 137 = .ok (.getfield 244, 3) := by decide +kernel
theorem dX11_count_140 : decode cX11_count 140 = .ok (.ireturn, 1) := by decide +kernel
theorem dX11_count_141 : decode cX11_count 141 = .ok (.aload_n 0, 1) := by decide +kernel
theorem dX11_count_142 : decode cX11_count 142 = .ok (.getfield 146, 3) := by decide +kernel
theorem dX11_count_145 : decode cX11_count 145 = .ok (.ireturn, 1) := by decide +kernel
theorem dX11_count_146 : decode cX11_count 146 = .ok (.aload_n 0, 1) := by decide +kernel
theorem dX11_count_147 : decode cX11_count 147 = .ok (.getfield 7, 3) := by decide +kernel
theorem dX11_count_150 : decode cX11_count 150 = .ok (.sipush 390, 3) := by decide +kernel
theorem dX11_count_153 : decode cX11_count 153 = .ok (.iaload, 1) := by decide +kernel
theorem dX11_count_154 : decode cX11_count 154 = .ok (.ireturn, 1) := by decide +kernel
theorem dX11_count_155 : decode cX11_count 155 = .ok (.iload_n 1, 1) := by decide +kernel
theorem dX11_count_156 : decode cX11_count 156 = .ok (.bipush 10, 2) := by decide +kernel
theorem dX11_count_158 : decode cX11_count 158 = .ok (.bipush 17, 2) := by decide +kernel
theorem dX11_count_160 : decode cX11_count 160 = .ok (.invokestatic 111, 3) := by decide +kernel
theorem dX11_count_163 : decode cX11_count 163 = .ok (.ifCond .eq 27, 3) := by decide +kernel
theorem dX11_count_166 : decode cX11_count 166 = .ok (.aload_n 0, 1) := by decide +kernel
theorem dX11_count_167 : decode cX11_count 167 = .ok (.getfield 101, 3) := by decide +kernel
theorem dX11_count_170 : decode cX11_count 170 = .ok (.iload_n 1, 1) := by decide +kernel
theorem dX11_count_171 : decode cX11_count 171 = .ok (.bipush 10, 2) := by decide +kernel
theorem dX11_count_173 : decode cX11_count 173 = .ok (.isub, 1) := by decide +kernel
theorem dX11_count_174 : decode cX11_count 174 = .ok (.iaload, 1) := by decide +kernel
theorem dX11_count_175 : decode cX11_count 175 = .ok (.ifCond .le 15, 3) := by decide +kernel
theorem dX11_count_178 : decode cX11_count 178 = .ok (.aload_n 0, 1) := by decide +kernel
theorem dX11_count_179 : decode cX11_count 179 = .ok (.getfield 101, 3) := by decide +kernel
theorem dX11_count_182 : decode cX11_count 182 = .ok (.iload_n 1, 1) := by decide +kernel
theorem dX11_count_183 : decode cX11_count 183 = .ok (.bipush 10, 2) := by decide +kernel
theorem dX11_count_185 : decode cX11_count 185 = .ok (.isub, 1) := by decide +kernel
theorem dX11_count_186 : decode cX11_count 186 = .ok (.iaload, 1) := by decide +kernel
theorem dX11_count_187 : decode cX11_count 187 = .ok (.goto 4, 3) := by decide +kernel
theorem dX11_count_190 : decode cX11_count 190 = .ok (.iconst (-1), 1) := by decide +kernel
theorem dX11_count_191 : decode cX11_count 191 = .ok (.ireturn, 1) := by decide +kernel
