theorem dX7_init_0 : decode cX7_init 0 = .ok (.aload_n 0, 1) := by decide +kernel
theorem dX7_init_1 : decode cX7_init 1 = .ok (.invokespecial 1, 3) := by decide +kernel
theorem dX7_init_4 : decode cX7_init 4 = .ok (.aload_n 0, 1) := by decide +kernel
theorem dX7_init_5 : decode cX7_init 5 = .ok (.sipush 20480, 3) := by decide +kernel
theorem dX7_init_8 : decode cX7_init 8 = .ok (.newarray .int, 2) := by decide +kernel
theorem dX7_init_10 : decode cX7_init 10 = .ok (.putfield 7, 3) := by decide +kernel
theorem dX7_init_13 : decode cX7_init 13 = .ok (.aload_n 0, 1) := by decide +kernel
theorem dX7_init_14 : decode cX7_init 14 = .ok (.sipush 20480, 3) := by decide +kernel
theorem dX7_init_17 : decode cX7_init 17 = .ok (.newarray .int, 2) := by decide +kernel
theorem dX7_init_19 : decode cX7_init 19 = .ok (.putfield 13, 3) := by decide +kernel
theorem dX7_init_22 : decode cX7_init 22 = .ok (.aload_n 0, 1) := by decide +kernel
theorem dX7_init_23 : decode cX7_init 23 = .ok (.sipush 20480, 3) := by decide +kernel
theorem dX7_init_26 : decode cX7_init 26 = .ok (.newarray .int, 2) := by decide +kernel
theorem dX7_init_28 : decode cX7_init 28 = .ok (.putfield 16, 3) := by decide +kernel
theorem dX7_init_31 : decode cX7_init 31 = .ok (.aload_n 0, 1) := by decide +kernel
theorem dX7_init_32 : decode cX7_init 32 = .ok (.sipush 20480, 3) := by decide +kernel
theorem dX7_init_35 : decode cX7_init 35 = .ok (.newarray .int, 2) := by decide +kernel
theorem dX7_init_37 : decode cX7_init 37 = .ok (.putfield 19, 3) := by decide +kernel
theorem dX7_init_40 : decode cX7_init 40 = .ok (.aload_n 0, 1) := by decide +kernel
theorem dX7_init_41 : decode cX7_init 41 = .ok (.sipush 20480, 3) := by decide +kernel
theorem dX7_init_44 : decode cX7_init 44 = .ok (.newarray .boolean, 2) := by decide +kernel
theorem dX7_init_46 : decode cX7_init 46 = .ok (.putfield 22, 3) := by decide +kernel
theorem dX7_init_49 : decode cX7_init 49 = .ok (.aload_n 0, 1) := by decide +kernel
theorem dX7_init_50 : decode cX7_init 50 = .ok (.sipush 20480, 3) := by decide +kernel
theorem dX7_init_53 : decode cX7_init 53 = .ok (.putfield 26, 3) := by decide +kernel
theorem dX7_init_56 : decode cX7_init 56 = .ok (.aload_n 0, 1) := by decide +kernel
theorem dX7_init_57 : decode cX7_init 57 = .ok (.ldc 30, 2) := by decide +kernel
theorem dX7_init_59 : decode cX7_init 59 = .ok (.newarray .int, 2) := by decide +kernel
theorem dX7_init_61 : decode cX7_init 61 = .ok (.putfield 31, 3) := by decide +kernel
theorem dX7_init_64 : decode cX7_init 64 = .ok (.aload_n 0, 1) := by decide +kernel
theorem dX7_init_65 : decode cX7_init 65 = .ok (.bipush 8, 2) := by decide +kernel
theorem dX7_init_67 : decode cX7_init 67 = .ok (.newarray .int, 2) := by decide +kernel
theorem dX7_init_69 : decode cX7_init 69 = .ok (.putfield 34, 3) := by decide +kernel
theorem dX7_init_72 : decode cX7_init 72 = .ok (.aload_n 0, 1) := by decide +kernel
theorem dX7_init_73 : decode cX7_init 73 = .ok (.bipush 16, 2) := by decide +kernel
theorem dX7_init_75 : decode cX7_init 75 = .ok (.newarray .int, 2) := by decide +kernel
theorem dX7_init_77 : decode cX7_init 77 = .ok (.putfield 37, 3) := by decide +kernel
theorem dX7_init_80 : decode cX7_init 80 = .ok (.aload_n 0, 1) := by decide +kernel
theorem dX7_init_81 : decode cX7_init 81 = .ok (.iconst 2, 1) := by decide +kernel
theorem dX7_init_82 : decode cX7_init 82 = .ok (.newarray .boolean, 2) := by decide +kernel
theorem dX7_init_84 : decode cX7_init 84 = .ok (.putfield 40, 3) := by decide +kernel
theorem dX7_init_87 : decode cX7_init 87 = .ok (.aload_n 0, 1) := by decide +kernel
theorem dX7_init_88 : decode cX7_init 88 = .ok (.bipush 24, 2) := by decide +kernel
theorem dX7_init_90 : decode cX7_init 90 = .ok (.newarray .int, 2) := by decide +kernel
theorem dX7_init_92 : decode cX7_init 92 = .ok (.putfield 43, 3) := by decide +kernel
theorem dX7_init_95 : decode cX7_init 95 = .ok (.aload_n 0, 1) := by decide +kernel
theorem dX7_init_96 : decode cX7_init 96 = .ok (.bipush 24, 2) := by decide +kernel
theorem dX7_init_98 : decode cX7_init 98 = .ok (.newarray .int, 2) := by decide +kernel
theorem dX7_init_100 : decode cX7_init 100 = .ok (.putfield 46, 3) := by decide +kernel
theorem dX7_init_103 : decode cX7_init 103 = .ok (.aload_n 0, 1) := by decide +kernel
theorem dX7_init_104 : decode cX7_init 104 = .ok (.bipush 40, 2) := by decide +kernel
theorem dX7_init_106 : decode cX7_init 106 = .ok (.newarray .int, 2) := by decide +kernel
theorem dX7_init_108 : decode cX7_init 108 = .ok (.putfield 49, 3) := by decide +kernel
theorem dX7_init_111 : decode cX7_init 111 = .ok (.aload_n 0, 1) := by decide +kernel
theorem dX7_init_112 : decode cX7_init 112 = .ok (.bipush 8, 2) := by decide +kernel
theorem dX7_init_114 : decode cX7_init 114 = .ok (.putfield 52, 3) := by decide +kernel
theorem dX7_init_117 : decode cX7_init 117 = .ok (.aload_n 0, 1) := by decide +kernel
theorem dX7_init_118 : decode cX7_init 118 = .ok (.bipush 6, 2) := by decide +kernel
theorem dX7_init_120 : decode cX7_init 120 = .ok (.putfield 55, 3) := by decide +kernel
theorem dX7_init_123 : decode cX7_init 123 = .ok (.aload_n 0, 1) := by decide +kernel
theorem dX7_init_124 : decode cX7_init 124 = .ok (.iconst 4, 1) := by decide +kernel
theorem dX7_init_125 : decode cX7_init 125 = .ok (.putfield 58, 3) := by decide +kernel
theorem dX7_init_128 : decode cX7_init 128 = .ok (.aload_n 0, 1) := by decide +kernel
theorem dX7_init_129 : decode cX7_init 129 = .ok (.sipush 240, 3) := by decide +kernel
theorem dX7_init_132 : decode cX7_init 132 = .ok (.newarray .int, 2) := by decide +kernel
theorem dX7_init_134 : decode cX7_init 134 = .ok (.putfield 61, 3) := by decide +kernel
theorem dX7_init_137 : decode cX7_init 137 = .ok (.aload_n 0, 1) := by decide +kernel
theorem dX7_init_138 : decode cX7_init 138 = .ok (.sipush 20480, 3) := by decide +kernel
theorem dX7_init_141 : decode cX7_init 141 = .ok (.newarray .int, 2) := by decide +kernel
theorem dX7_init_143 : decode cX7_init 143 = .ok (.putfield 64, 3) := by decide +kernel
theorem dX7_init_146 : decode cX7_init 146 = .ok (.aload_n 0, 1) := by decide +kernel
theorem dX7_init_147 : decode cX7_init 147 = .ok (.sipush 240, 3) := by decide +kernel
theorem dX7_init_150 : decode cX7_init 150 = .ok (.newarray .int, 2) := by decide +kernel
theorem dX7_init_152 : decode cX7_init 152 = .ok (.putfield 67, 3) := by decide +kernel
theorem dX7_init_155 : decode cX7_init 155 = .ok (.aload_n 0, 1) := by decide +kernel
theorem dX7_init_156 : decode cX7_init 156 = .ok (.sipush 512, 3) := by decide +kernel
theorem dX7_init_159 : decode cX7_init 159 = .ok (.newarray .int, 2) := by decide +kernel
theorem dX7_init_161 : decode cX7_init 161 = .ok (.putfield 70, 3) := by decide +kernel
theorem dX7_init_164 : decode cX7_init 164 = .ok (.aload_n 0, 1) := by decide +kernel
theorem dX7_init_165 : decode cX7_init 165 = .ok (.sipush 512, 3) := by decide +kernel
theorem dX7_init_168 : decode cX7_init 168 = .ok (.newarray .int, 2) := by decide +kernel
theorem dX7_init_170 : decode cX7_init 170 = .ok (.putfield 73, 3) := by decide +kernel
theorem dX7_init_173 : decode cX7_init 173 = .ok (.aload_n 0, 1) := by decide +kernel
theorem dX7_init_174 : decode cX7_init 174 = .ok (.sipush 512, 3) := by decide +kernel
theorem dX7_init_177 : decode cX7_init 177 = .ok (.newarray .int, 2) := by decide +kernel
theorem dX7_init_179 : decode cX7_init 179 = .ok (.putfield 76, 3) := by decide +kernel
theorem dX7_init_182 : decode cX7_init 182 = .ok (.aload_n 0, 1) := by decide +kernel
theorem dX7_init_183 : decode cX7_init 183 = .ok (.sipush 512, 3) := by decide +kernel
theorem dX7_init_186 : decode cX7_init 186 = .ok (.newarray .int, 2) := by decide +kernel
theorem dX7_init_188 : decode cX7_init 188 = .ok (.putfield 79, 3) := by decide +kernel
theorem dX7_init_191 : decode cX7_init 191 = .ok (.aload_n 0, 1) := by decide +kernel
theorem dX7_init_192 : decode cX7_init 192 = .ok (.sipush 512, 3) := by decide +kernel
theorem dX7_init_195 : decode cX7_init 195 = .ok (.newarray .boolean, 2) := by decide +kernel
theorem dX7_init_197 : decode cX7_init 197 = .ok (.putfield 82, 3) := by decide +kernel
theorem dX7_init_200 : decode cX7_init 200 = .ok (.aload_n 0, 1) := by decide +kernel
theorem dX7_init_201 : decode cX7_init 201 = .ok (.sipush 512, 3) := by decide +kernel
theorem dX7_init_204 : decode cX7_init 204 = .ok (.newarray .int, 2) := by decide +kernel
theorem dX7_init_206 : decode cX7_init 206 = .ok (.putfield 85, 3) := by decide +kernel
theorem dX7_init_209 : decode cX7_init 209 = .ok (.aload_n 0, 1) := by decide +kernel
theorem dX7_init_210 : decode cX7_init 210 = .ok (.sipush 512, 3) := by decide +kernel
theorem dX7_init_213 : decode cX7_init 213 = .ok (.newarray .int, 2) := by decide +kernel
theorem dX7_init_215 : decode cX7_init 215 = .ok (.putfield 88, 3) := by decide +kernel
theorem dX7_init_218 : decode cX7_init 218 = .ok (.aload_n 0, 1) := by decide +kernel
theorem dX7_init_219 : decode cX7_init 219 = .ok (.sipush 512, 3) := by decide +kernel
theorem dX7_init_222 : decode cX7_init 222 = .ok (.newarray .int, 2) := by decide +kernel
theorem dX7_init_224 : decode cX7_init 224 = .ok (.putfield 91, 3) := by decide +kernel
theorem dX7_init_227 : decode cX7_init 227 = .ok (.aload_n 0, 1) := by decide +kernel
theorem dX7_init_228 : decode cX7_init 228 = .ok (.sipush 512, 3) := by decide +kernel
theorem dX7_init_231 : decode cX7_init 231 = .ok (.newarray .int, 2) := by decide +kernel
theorem dX7_init_233 : decode cX7_init 233 = .ok (.putfield 94, 3) := by decide +kernel
theorem dX7_init_236 : decode cX7_init 236 = .ok (.aload_n 0, 1) := by decide +kernel
theorem dX7_init_237 : decode cX7_init 237 = .ok (.sipush 512, 3) := by decide +kernel
theorem dX7_init_240 : decode cX7_init 240 = .ok (.newarray .int, 2) := by decide +kernel
theorem dX7_init_242 : decode cX7_init 242 = .ok (.putfield 97, 3) := by decide +kernel
theorem dX7_init_245 : decode cX7_init 245 = .ok (.iconst 0, 1) := by decide +kernel
theorem dX7_init_246 : decode cX7_init 246 = .ok (.istore_n 1, 1) := by decide +kernel
theorem dX7_init_247 : decode cX7_init 247 = .ok (.iload_n 1, 1) := by decide +kernel
theorem dX7_init_248 : decode cX7_init 248 = .ok (.bipush 8, 2) := by decide +kernel
theorem dX7_init_250 : decode cX7_init 250 = .ok (.if_icmp .ge 20, 3) := by decide +kernel
theorem dX7_init_253 : decode cX7_init 253 = .ok (.aload_n 0, 1) := by decide +kernel
theorem dX7_init_254 : decode cX7_init 254 = .ok (.getfield 34, 3) := by decide +kernel
theorem dX7_init_257 : decode cX7_init 257 = .ok (.iload_n 1, 1) := by decide +kernel
theorem dX7_init_258 : decode cX7_init 258 = .ok (.aload_n 0, 1) := by decide +kernel
theorem dX7_init_259 : decode cX7_init 259 = .ok (.iconst 0, 1) := by decide +kernel
theorem dX7_init_260 : decode cX7_init 260 = .ok (.invokevirtual 100, 3) := by decide +kernel
theorem dX7_init_263 : decode cX7_init 263 = .ok (.iastore, 1) := by decide +kernel
theorem dX7_init_264 : decode cX7_init 264 = .ok (.iinc 1 1, 3) := by decide +kernel
theorem dX7_init_267 : decode cX7_init 267 = .ok (.goto (-20), 3) := by decide +kernel
theorem dX7_init_270 : decode cX7_init 270 = .ok (.return_, 1) := by decide +kernel
theorem dX7_in_0 : decode cX7_in 0 = .ok (.iload_n 0, 1) := by decide +kernel
theorem dX7_in_1 : decode cX7_in 1 = .ok (.iload_n 1, 1) := by decide +kernel
theorem dX7_in_2 : decode cX7_in 2 = .ok (.if_icmp .lt 12, 3) := by decide +kernel
theorem dX7_in_5 : decode cX7_in 5 = .ok (.iload_n 0, 1) := by decide +kernel
theorem dX7_in_6 : decode cX7_in 6 = .ok (.iload_n 2, 1) := by decide +kernel
theorem dX7_in_7 : decode cX7_in 7 = .ok (.if_icmp .gt 7, 3) := by decide +kernel
theorem dX7_in_10 : decode cX7_in 10 = .ok (.iconst 1, 1) := by decide +kernel
theorem dX7_in_11 : decode cX7_in 11 = .ok (.goto 4, 3) := by decide +kernel
theorem dX7_in_14 : decode cX7_in 14 = .ok (.iconst 0, 1) := by decide +kernel
theorem dX7_in_15 : decode cX7_in 15 = .ok (.ireturn, 1) := by decide +kernel
theorem dX7_isSlot_0 : decode cX7_isSlot 0 = .ok (.iload_n 0, 1) := by decide +kernel
theorem dX7_isSlot_1 : decode cX7_isSlot 1 = .ok (.iconst 0, 1) := by decide +kernel
theorem dX7_isSlot_2 : decode cX7_isSlot 2 = .ok (.bipush 7, 2) := by decide +kernel
theorem dX7_isSlot_4 : decode cX7_isSlot 4 = .ok (.invokestatic 104, 3) := by decide +kernel
theorem dX7_isSlot_7 : decode cX7_isSlot 7 = .ok (.ireturn, 1) := by decide +kernel
theorem dX7_newCell_0 : decode cX7_newCell 0 = .ok (.aload_n 0, 1) := by decide +kernel
theorem dX7_newCell_1 : decode cX7_newCell 1 = .ok (.getfield 7, 3) := by decide +kernel
theorem dX7_newCell_4 : decode cX7_newCell 4 = .ok (.aload_n 0, 1) := by decide +kernel
theorem dX7_newCell_5 : decode cX7_newCell 5 = .ok (.getfield 108, 3) := by decide +kernel
theorem dX7_newCell_8 : decode cX7_newCell 8 = .ok (.iaload, 1) := by decide +kernel
theorem dX7_newCell_9 : decode cX7_newCell 9 = .ok (.ifCond .eq 20, 3) := by decide +kernel
theorem dX7_newCell_12 : decode cX7_newCell 12 = .ok (.aload_n 0, 1) := by decide +kernel
theorem dX7_newCell_13 : decode cX7_newCell 13 = .ok (.aload_n 0, 1) := by decide +kernel
theorem dX7_newCell_14 : decode cX7_newCell 14 = .ok (.getfield 108, 3) := by decide +kernel
theorem dX7_newCell_17 : decode cX7_newCell 17 = .ok (.iconst 1, 1) := by decide +kernel
theorem dX7_newCell_18 : decode cX7_newCell 18 = .ok (.iadd, 1) := by decide +kernel
theorem dX7_newCell_19 : decode cX7_newCell 19 = .ok (.sipush 20480, 3) := by decide +kernel
theorem dX7_newCell_22 : decode cX7_newCell 22 = .ok (.irem, 1) := by decide +kernel
theorem dX7_newCell_23 : decode cX7_newCell 23 = .ok (.putfield 108, 3) := by decide +kernel
theorem dX7_newCell_26 : decode cX7_newCell 26 = .ok (.goto (-26), 3) := by decide +kernel
theorem dX7_newCell_29 : decode cX7_newCell 29 = .ok (.aload_n 0, 1) := by decide +kernel
theorem dX7_newCell_30 : decode cX7_newCell 30 = .ok (.getfield 7, 3) := by decide +kernel
theorem dX7_newCell_33 : decode cX7_newCell 33 = .ok (.aload_n 0, 1) := by decide +kernel
theorem dX7_newCell_34 : decode cX7_newCell 34 = .ok (.getfield 108, 3) := by decide +kernel
theorem dX7_newCell_37 : decode cX7_newCell 37 = .ok (.iload_n 1, 1) := by decide +kernel
theorem dX7_newCell_38 : decode cX7_newCell 38 = .ok (.iastore, 1) := by decide +kernel
theorem dX7_newCell_39 : decode cX7_newCell 39 = .ok (.aload_n 0, 1) := by decide +kernel
theorem dX7_newCell_40 : decode cX7_newCell 40 = .ok (.getfield 13, 3) := by decide +kernel
theorem dX7_newCell_43 : decode cX7_newCell 43 = .ok (.aload_n 0, 1) := by decide +kernel
theorem dX7_newCell_44 : decode cX7_newCell 44 = .ok (.getfield 108, 3) := by decide +kernel
theorem dX7_newCell_47 : decode cX7_newCell 47 = .ok (.iload_n 2, 1) := by decide +kernel
theorem dX7_newCell_48 : decode cX7_newCell 48 = .ok (.iastore, 1) := by decide +kernel
theorem dX7_newCell_49 : decode cX7_newCell 49 = .ok (.aload_n 0, 1) := by decide +kernel
theorem dX7_newCell_50 : decode cX7_newCell 50 = .ok (.getfield 16, 3) := by decide +kernel
theorem dX7_newCell_53 : decode cX7_newCell 53 = .ok (.aload_n 0, 1) := by decide +kernel
theorem dX7_newCell_54 : decode cX7_newCell 54 = .ok (.getfield 108, 3) := by decide +kernel
theorem dX7_newCell_57 : decode cX7_newCell 57 = .ok (.iload_n 3, 1) := by decide +kernel
theorem dX7_newCell_58 : decode cX7_newCell 58 = .ok (.iastore, 1) := by decide +kernel
theorem dX7_newCell_59 : decode cX7_newCell 59 = .ok (.aload_n 0, 1) := by decide +kernel
theorem dX7_newCell_60 : decode cX7_newCell 60 = .ok (.getfield 19, 3) := by decide +kernel
theorem dX7_newCell_63 : decode cX7_newCell 63 = .ok (.aload_n 0, 1) := by decide +kernel
theorem dX7_newCell_64 : decode cX7_newCell 64 = .ok (.getfield 108, 3) := by decide +kernel
theorem dX7_newCell_67 : decode cX7_newCell 67 = .ok (.iload 4, 2) := by decide +kernel
theorem dX7_newCell_69 : decode cX7_newCell 69 = .ok (.iastore, 1) := by decide +kernel
theorem dX7_newCell_70 : decode cX7_newCell 70 = .ok (.aload_n 0, 1) := by decide +kernel
theorem dX7_newCell_71 : decode cX7_newCell 71 = .ok (.dup, 1) := by decide +kernel
theorem dX7_newCell_72 : decode cX7_newCell 72 = .ok (.getfield 26, 3) := by decide +kernel
theorem dX7_newCell_75 : decode cX7_newCell 75 = .ok (.iconst 1, 1) := by decide +kernel
theorem dX7_newCell_76 : decode cX7_newCell 76 = .ok (.isub, 1) := by decide +kernel
theorem dX7_newCell_77 : decode cX7_newCell 77 = .ok (.putfield 26, 3) := by decide +kernel
theorem dX7_newCell_80 : decode cX7_newCell 80 = .ok (.aload_n 0, 1) := by decide +kernel
theorem dX7_newCell_81 : decode cX7_newCell 81 = .ok (.getfield 108, 3) := by decide +kernel
theorem dX7_newCell_84 : decode cX7_newCell 84 = .ok (.ireturn, 1) := by decide +kernel
theorem dX7_keepText_0 : decode cX7_keepText 0 = .ok (.aload_n 0, 1) := by decide +kernel
theorem dX7_keepText_1 : decode cX7_keepText 1 = .ok (.getfield 31, 3) := by decide +kernel
theorem dX7_keepText_4 : decode cX7_keepText 4 = .ok (.aload_n 0, 1) := by decide +kernel
theorem dX7_keepText_5 : decode cX7_keepText 5 = .ok (.getfield 111, 3) := by decide +kernel
theorem dX7_keepText_8 : decode cX7_keepText 8 = .ok (.iload_n 1, 1) := by decide +kernel
theorem dX7_keepText_9 : decode cX7_keepText 9 = .ok (.iastore, 1) := by decide +kernel
theorem dX7_keepText_10 : decode cX7_keepText 10 = .ok (.aload_n 0, 1) := by decide +kernel
theorem dX7_keepText_11 : decode cX7_keepText 11 = .ok (.getfield 31, 3) := by decide +kernel
theorem dX7_keepText_14 : decode cX7_keepText 14 = .ok (.aload_n 0, 1) := by decide +kernel
theorem dX7_keepText_15 : decode cX7_keepText 15 = .ok (.getfield 111, 3) := by decide +kernel
theorem dX7_keepText_18 : decode cX7_keepText 18 = .ok (.iconst 1, 1) := by decide +kernel
theorem dX7_keepText_19 : decode cX7_keepText 19 = .ok (.iadd, 1) := by decide +kernel
theorem dX7_keepText_20 : decode cX7_keepText 20 = .ok (.iload_n 2, 1) := by decide +kernel
theorem dX7_keepText_21 : decode cX7_keepText 21 = .ok (.iastore, 1) := by decide +kernel
theorem dX7_keepText_22 : decode cX7_keepText 22 = .ok (.iconst 0, 1) := by decide +kernel
theorem dX7_keepText_23 : decode cX7_keepText 23 = .ok (.istore_n 3, 1) := by decide +kernel
theorem dX7_keepText_24 : decode cX7_keepText 24 = .ok (.iload_n 3, 1) := by decide +kernel
theorem dX7_keepText_25 : decode cX7_keepText 25 = .ok (.iload_n 2, 1) := by decide +kernel
theorem dX7_keepText_26 : decode cX7_keepText 26 = .ok (.if_icmp .ge 28, 3) := by decide +kernel
theorem dX7_keepText_29 : decode cX7_keepText 29 = .ok (.aload_n 0, 1) := by decide +kernel
theorem dX7_keepText_30 : decode cX7_keepText 30 = .ok (.getfield 31, 3) := by decide +kernel
theorem dX7_keepText_33 : decode cX7_keepText 33 = .ok (.aload_n 0, 1) := by decide +kernel
theorem dX7_keepText_34 : decode cX7_keepText 34 = .ok (.getfield 111, 3) := by decide +kernel
theorem dX7_keepText_37 : decode cX7_keepText 37 = .ok (.iconst 2, 1) := by decide +kernel
theorem dX7_keepText_38 : decode cX7_keepText 38 = .ok (.iadd, 1) := by decide +kernel
theorem dX7_keepText_39 : decode cX7_keepText 39 = .ok (.iload_n 3, 1) := by decide +kernel
theorem dX7_keepText_40 : decode cX7_keepText 40 = .ok (.iadd, 1) := by decide +kernel
theorem dX7_keepText_41 : decode cX7_keepText 41 = .ok (.aload_n 0, 1) := by decide +kernel
theorem dX7_keepText_42 : decode cX7_keepText 42 = .ok (.getfield 61, 3) := by decide +kernel
theorem dX7_keepText_45 : decode cX7_keepText 45 = .ok (.iload_n 3, 1) := by decide +kernel
theorem dX7_keepText_46 : decode cX7_keepText 46 = .ok (.iaload, 1) := by decide +kernel
theorem dX7_keepText_47 : decode cX7_keepText 47 = .ok (.iastore, 1) := by decide +kernel
theorem dX7_keepText_48 : decode cX7_keepText 48 = .ok (.iinc 3 1, 3) := by decide +kernel
theorem dX7_keepText_51 : decode cX7_keepText 51 = .ok (.goto (-27), 3) := by decide +kernel
theorem dX7_keepText_54 : decode cX7_keepText 54 = .ok (.aload_n 0, 1) := by decide +kernel
theorem dX7_keepText_55 : decode cX7_keepText 55 = .ok (.getfield 111, 3) := by decide +kernel
theorem dX7_keepText_58 : decode cX7_keepText 58 = .ok (.iconst 2, 1) := by decide +kernel
theorem dX7_keepText_59 : decode cX7_keepText 59 = .ok (.iadd, 1) := by decide +kernel
theorem dX7_keepText_60 : decode cX7_keepText 60 = .ok (.istore_n 3, 1) := by decide +kernel
theorem dX7_keepText_61 : decode cX7_keepText 61 = .ok (.aload_n 0, 1) := by decide +kernel
theorem dX7_keepText_62 : decode cX7_keepText 62 = .ok (.dup, 1) := by decide +kernel
theorem dX7_keepText_63 : decode cX7_keepText 63 = .ok (.getfield 111, 3) := by decide +kernel
theorem dX7_keepText_66 : decode cX7_keepText 66 = .ok (.iload_n 2, 1) := by decide +kernel
theorem dX7_keepText_67 : decode cX7_keepText 67 = .ok (.iconst 2, 1) := by decide +kernel
theorem dX7_keepText_68 : decode cX7_keepText 68 = .ok (.iadd, 1) := by decide +kernel
theorem dX7_keepText_69 : decode cX7_keepText 69 = .ok (.iadd, 1) := by decide +kernel
theorem dX7_keepText_70 : decode cX7_keepText 70 = .ok (.putfield 111, 3) := by decide +kernel
theorem dX7_keepText_73 : decode cX7_keepText 73 = .ok (.iload_n 3, 1) := by decide +kernel
theorem dX7_keepText_74 : decode cX7_keepText 74 = .ok (.ireturn, 1) := by decide +kernel
theorem dX7_newLeaf_0 : decode cX7_newLeaf 0 = .ok (.aload_n 0, 1) := by decide +kernel
theorem dX7_newLeaf_1 : decode cX7_newLeaf 1 = .ok (.iconst 1, 1) := by decide +kernel
theorem dX7_newLeaf_2 : decode cX7_newLeaf 2 = .ok (.iconst 0, 1) := by decide +kernel
theorem dX7_newLeaf_3 : decode cX7_newLeaf 3 = .ok (.iconst 0, 1) := by decide +kernel
theorem dX7_newLeaf_4 : decode cX7_newLeaf 4 = .ok (.iload_n 1, 1) := by decide +kernel
theorem dX7_newLeaf_5 : decode cX7_newLeaf 5 = .ok (.invokevirtual 114, 3) := by decide +kernel
theorem dX7_newLeaf_8 : decode cX7_newLeaf 8 = .ok (.istore_n 2, 1) := by decide +kernel
theorem dX7_newLeaf_9 : decode cX7_newLeaf 9 = .ok (.aload_n 0, 1) := by decide +kernel
theorem dX7_newLeaf_10 : decode cX7_newLeaf 10 = .ok (.getfield 13, 3) := by decide +kernel
theorem dX7_newLeaf_13 : decode cX7_newLeaf 13 = .ok (.iload_n 2, 1) := by decide +kernel
theorem dX7_newLeaf_14 : decode cX7_newLeaf 14 = .ok (.aload_n 0, 1) := by decide +kernel
theorem dX7_newLeaf_15 : decode cX7_newLeaf 15 = .ok (.iload_n 2, 1) := by decide +kernel
theorem dX7_newLeaf_16 : decode cX7_newLeaf 16 = .ok (.iload_n 1, 1) := by decide +kernel
theorem dX7_newLeaf_17 : decode cX7_newLeaf 17 = .ok (.invokevirtual 118, 3) := by decide +kernel
theorem dX7_newLeaf_20 : decode cX7_newLeaf 20 = .ok (.iastore, 1) := by decide +kernel
theorem dX7_newLeaf_21 : decode cX7_newLeaf 21 = .ok (.iload_n 2, 1) := by decide +kernel
theorem dX7_newLeaf_22 : decode cX7_newLeaf 22 = .ok (.ireturn, 1) := by decide +kernel
theorem dX7_newJoin_0 : decode cX7_newJoin 0 = .ok (.aload_n 0, 1) := by decide +kernel
theorem dX7_newJoin_1 : decode cX7_newJoin 1 = .ok (.iconst 2, 1) := by decide +kernel
theorem dX7_newJoin_2 : decode cX7_newJoin 2 = .ok (.iload_n 1, 1) := by decide +kernel
theorem dX7_newJoin_3 : decode cX7_newJoin 3 = .ok (.iload_n 2, 1) := by decide +kernel
theorem dX7_newJoin_4 : decode cX7_newJoin 4 = .ok (.aload_n 0, 1) := by decide +kernel
theorem dX7_newJoin_5 : decode cX7_newJoin 5 = .ok (.getfield 19, 3) := by decide +kernel
theorem dX7_newJoin_8 : decode cX7_newJoin 8 = .ok (.iload_n 1, 1) := by decide +kernel
theorem dX7_newJoin_9 : decode cX7_newJoin 9 = .ok (.iaload, 1) := by decide +kernel
theorem dX7_newJoin_10 : decode cX7_newJoin 10 = .ok (.aload_n 0, 1) := by decide +kernel
theorem dX7_newJoin_11 : decode cX7_newJoin 11 = .ok (.getfield 19, 3) := by decide +kernel
theorem dX7_newJoin_14 : decode cX7_newJoin 14 = .ok (.iload_n 2, 1) := by decide +kernel
theorem dX7_newJoin_15 : decode cX7_newJoin 15 = .ok (.iaload, 1) := by decide +kernel
theorem dX7_newJoin_16 : decode cX7_newJoin 16 = .ok (.iadd, 1) := by decide +kernel
theorem dX7_newJoin_17 : decode cX7_newJoin 17 = .ok (.invokevirtual 114, 3) := by decide +kernel
theorem dX7_newJoin_20 : decode cX7_newJoin 20 = .ok (.ireturn, 1) := by decide +kernel
theorem dX7_clearMarks_0 : decode cX7_clearMarks 0 = .ok (.iconst 0, 1) := by decide +kernel
theorem dX7_clearMarks_1 : decode cX7_clearMarks 1 = .ok (.istore_n 1, 1) := by decide +kernel
theorem dX7_clearMarks_2 : decode cX7_clearMarks 2 = .ok (.iload_n 1, 1) := by decide +kernel
theorem dX7_clearMarks_3 : decode cX7_clearMarks 3 = .ok (.sipush 20480, 3) := by decide +kernel
theorem dX7_clearMarks_6 : decode cX7_clearMarks 6 = .ok (.if_icmp .ge 16, 3) := by decide +kernel
theorem dX7_clearMarks_9 : decode cX7_clearMarks 9 = .ok (.aload_n 0, 1) := by decide +kernel
theorem dX7_clearMarks_10 : decode cX7_clearMarks 10 = .ok (.getfield 22, 3) := by decide +kernel
theorem dX7_clearMarks_13 : decode cX7_clearMarks 13 = .ok (.iload_n 1, 1) := by decide +kernel
theorem dX7_clearMarks_14 : decode cX7_clearMarks 14 = .ok (.iconst 0, 1) := by decide +kernel
theorem dX7_clearMarks_15 : decode cX7_clearMarks 15 = .ok (.bastore, 1) := by decide +kernel
theorem dX7_clearMarks_16 : decode cX7_clearMarks 16 = .ok (.iinc 1 1, 3) := by decide +kernel
theorem dX7_clearMarks_19 : decode cX7_clearMarks 19 = .ok (.goto (-17), 3) := by decide +kernel
theorem dX7_clearMarks_22 : decode cX7_clearMarks 22 = .ok (.return_, 1) := by decide +kernel
theorem dX7_mark_0 : decode cX7_mark 0 = .ok (.iconst 0, 1) := by decide +kernel
theorem dX7_mark_1 : decode cX7_mark 1 = .ok (.istore_n 2, 1) := by decide +kernel
theorem dX7_mark_2 : decode cX7_mark 2 = .ok (.iconst 0, 1) := by decide +kernel
theorem dX7_mark_3 : decode cX7_mark 3 = .ok (.istore_n 3, 1) := by decide +kernel
theorem dX7_mark_4 : decode cX7_mark 4 = .ok (.aload_n 0, 1) := by decide +kernel
theorem dX7_mark_5 : decode cX7_mark 5 = .ok (.getfield 22, 3) := by decide +kernel
theorem dX7_mark_8 : decode cX7_mark 8 = .ok (.iload_n 1, 1) := by decide +kernel
theorem dX7_mark_9 : decode cX7_mark 9 = .ok (.baload, 1) := by decide +kernel
theorem dX7_mark_10 : decode cX7_mark 10 = .ok (.ifCond .ne 19, 3) := by decide +kernel
theorem dX7_mark_13 : decode cX7_mark 13 = .ok (.aload_n 0, 1) := by decide +kernel
theorem dX7_mark_14 : decode cX7_mark 14 = .ok (.getfield 22, 3) := by decide +kernel
theorem dX7_mark_17 : decode cX7_mark 17 = .ok (.iload_n 1, 1) := by decide +kernel
theorem dX7_mark_18 : decode cX7_mark 18 = .ok (.iconst 1, 1) := by decide +kernel
theorem dX7_mark_19 : decode cX7_mark 19 = .ok (.bastore, 1) := by decide +kernel
theorem dX7_mark_20 : decode cX7_mark 20 = .ok (.aload_n 0, 1) := by decide +kernel
theorem dX7_mark_21 : decode cX7_mark 21 = .ok (.getfield 64, 3) := by decide +kernel
theorem dX7_mark_24 : decode cX7_mark 24 = .ok (.iconst 0, 1) := by decide +kernel
theorem dX7_mark_25 : decode cX7_mark 25 = .ok (.iload_n 1, 1) := by decide +kernel
theorem dX7_mark_26 : decode cX7_mark 26 = .ok (.iastore, 1) := by decide +kernel
theorem dX7_mark_27 : decode cX7_mark 27 = .ok (.iconst 1, 1) := by decide +kernel
theorem dX7_mark_28 : decode cX7_mark 28 = .ok (.istore_n 3, 1) := by decide +kernel
theorem dX7_mark_29 : decode cX7_mark 29 = .ok (.iload_n 3, 1) := by decide +kernel
theorem dX7_mark_30 : decode cX7_mark 30 = .ok (.ifCond .le 130, 3) := by decide +kernel
theorem dX7_mark_33 : decode cX7_mark 33 = .ok (.iinc 3 (-1), 3) := by decide +kernel
theorem dX7_mark_36 : decode cX7_mark 36 = .ok (.aload_n 0, 1) := by decide +kernel
theorem dX7_mark_37 : decode cX7_mark 37 = .ok (.getfield 64, 3) := by decide +kernel
theorem dX7_mark_40 : decode cX7_mark 40 = .ok (.iload_n 3, 1) := by decide +kernel
theorem dX7_mark_41 : decode cX7_mark 41 = .ok (.iaload, 1) := by decide +kernel
theorem dX7_mark_42 : decode cX7_mark 42 = .ok (.istore 4, 2) := by decide +kernel
theorem dX7_mark_44 : decode cX7_mark 44 = .ok (.iinc 2 1, 3) := by decide +kernel
theorem dX7_mark_47 : decode cX7_mark 47 = .ok (.aload_n 0, 1) := by decide +kernel
theorem dX7_mark_48 : decode cX7_mark 48 = .ok (.getfield 7, 3) := by decide +kernel
theorem dX7_mark_51 : decode cX7_mark 51 = .ok (.iload 4, 2) := by decide +kernel
theorem dX7_mark_53 : decode cX7_mark 53 = .ok (.iaload, 1) := by decide +kernel
theorem dX7_mark_54 : decode cX7_mark 54 = .ok (.iconst 1, 1) := by decide +kernel
theorem dX7_mark_55 : decode cX7_mark 55 = .ok (.if_icmp .eq 47, 3) := by decide +kernel
theorem dX7_mark_58 : decode cX7_mark 58 = .ok (.aload_n 0, 1) := by decide +kernel
theorem dX7_mark_59 : decode cX7_mark 59 = .ok (.getfield 22, 3) := by decide +kernel
theorem dX7_mark_62 : decode cX7_mark 62 = .ok (.aload_n 0, 1) := by decide +kernel
theorem dX7_mark_63 : decode cX7_mark 63 = .ok (.getfield 13, 3) := by decide +kernel
theorem dX7_mark_66 : decode cX7_mark 66 = .ok (.iload 4, 2) := by decide +kernel
theorem dX7_mark_68 : decode cX7_mark 68 = .ok (.iaload, 1) := by decide +kernel
theorem dX7_mark_69 : decode cX7_mark 69 = .ok (.baload, 1) := by decide +kernel
theorem dX7_mark_70 : decode cX7_mark 70 = .ok (.ifCond .ne 32, 3) := by decide +kernel
theorem dX7_mark_73 : decode cX7_mark 73 = .ok (.aload_n 0, 1) := by decide +kernel
theorem dX7_mark_74 : decode cX7_mark 74 = .ok (.getfield 22, 3) := by decide +kernel
theorem dX7_mark_77 : decode cX7_mark 77 = .ok (.aload_n 0, 1) := by decide +kernel
theorem dX7_mark_78 : decode cX7_mark 78 = .ok (.getfield 13, 3) := by decide +kernel
theorem dX7_mark_81 : decode cX7_mark 81 = .ok (.iload 4, 2) := by decide +kernel
theorem dX7_mark_83 : decode cX7_mark 83 = .ok (.iaload, 1) := by decide +kernel
theorem dX7_mark_84 : decode cX7_mark 84 = .ok (.iconst 1, 1) := by decide +kernel
theorem dX7_mark_85 : decode cX7_mark 85 = .ok (.bastore, 1) := by decide +kernel
theorem dX7_mark_86 : decode cX7_mark 86 = .ok (.aload_n 0, 1) := by decide +kernel
theorem dX7_mark_87 : decode cX7_mark 87 = .ok (.getfield 64, 3) := by decide +kernel
theorem dX7_mark_90 : decode cX7_mark 90 = .ok (.iload_n 3, 1) := by decide +kernel
theorem dX7_mark_91 : decode cX7_mark 91 = .ok (.aload_n 0, 1) := by decide +kernel
theorem dX7_mark_92 : decode cX7_mark 92 = .ok (.getfield 13, 3) := by decide +kernel
theorem dX7_mark_95 : decode cX7_mark 95 = .ok (.iload 4, 2) := by decide +kernel
theorem dX7_mark_97 : decode cX7_mark 97 = .ok (.iaload, 1) := by decide +kernel
theorem dX7_mark_98 : decode cX7_mark 98 = .ok (.iastore, 1) := by decide +kernel
theorem dX7_mark_99 : decode cX7_mark 99 = .ok (.iinc 3 1, 3) := by decide +kernel
theorem dX7_mark_102 : decode cX7_mark 102 = .ok (.aload_n 0, 1) := by decide +kernel
theorem dX7_mark_103 : decode cX7_mark 103 = .ok (.getfield 7, 3) := by decide +kernel
theorem dX7_mark_106 : decode cX7_mark 106 = .ok (.iload 4, 2) := by decide +kernel
theorem dX7_mark_108 : decode cX7_mark 108 = .ok (.iaload, 1) := by decide +kernel
theorem dX7_mark_109 : decode cX7_mark 109 = .ok (.iconst 2, 1) := by decide +kernel
theorem dX7_mark_110 : decode cX7_mark 110 = .ok (.if_icmp .ne 47, 3) := by decide +kernel
theorem dX7_mark_113 : decode cX7_mark 113 = .ok (.aload_n 0, 1) := by decide +kernel
theorem dX7_mark_114 : decode cX7_mark 114 = .ok (.getfield 22, 3) := by decide +kernel
theorem dX7_mark_117 : decode cX7_mark 117 = .ok (.aload_n 0, 1) := by decide +kernel
theorem dX7_mark_118 : decode cX7_mark 118 = .ok (.getfield 16, 3) := by decide +kernel
theorem dX7_mark_121 : decode cX7_mark 121 = .ok (.iload 4, 2) := by decide +kernel
theorem dX7_mark_123 : decode cX7_mark 123 = .ok (.iaload, 1) := by decide +kernel
theorem dX7_mark_124 : decode cX7_mark 124 = .ok (.baload, 1) := by decide +kernel
theorem dX7_mark_125 : decode cX7_mark 125 = .ok (.ifCond .ne 32, 3) := by decide +kernel
theorem dX7_mark_128 : decode cX7_mark 128 = .ok (.aload_n 0, 1) := by decide +kernel
theorem dX7_mark_129 : decode cX7_mark 129 = .ok (.getfield 22, 3) := by decide +kernel
theorem dX7_mark_132 : decode cX7_mark 132 = .ok (.aload_n 0, 1) := by decide +kernel
theorem dX7_mark_133 : decode cX7_mark 133 = .ok (.getfield 16, 3) := by decide +kernel
theorem dX7_mark_136 : decode cX7_mark 136 = .ok (.iload 4, 2) := by decide +kernel
theorem dX7_mark_138 : decode cX7_mark 138 = .ok (.iaload, 1) := by decide +kernel
theorem dX7_mark_139 : decode cX7_mark 139 = .ok (.iconst 1, 1) := by decide +kernel
theorem dX7_mark_140 : decode cX7_mark 140 = .ok (.bastore, 1) := by decide +kernel
theorem dX7_mark_141 : decode cX7_mark 141 = .ok (.aload_n 0, 1) := by decide +kernel
theorem dX7_mark_142 : decode cX7_mark 142 = .ok (.getfield 64, 3) := by decide +kernel
theorem dX7_mark_145 : decode cX7_mark 145 = .ok (.iload_n 3, 1) := by decide +kernel
theorem dX7_mark_146 : decode cX7_mark 146 = .ok (.aload_n 0, 1) := by decide +kernel
theorem dX7_mark_147 : decode cX7_mark 147 = .ok (.getfield 16, 3) := by decide +kernel
theorem dX7_mark_150 : decode cX7_mark 150 = .ok (.iload 4, 2) := by decide +kernel
theorem dX7_mark_152 : decode cX7_mark 152 = .ok (.iaload, 1) := by decide +kernel
theorem dX7_mark_153 : decode cX7_mark 153 = .ok (.iastore, 1) := by decide +kernel
theorem dX7_mark_154 : decode cX7_mark 154 = .ok (.iinc 3 1, 3) := by decide +kernel
theorem dX7_mark_157 : decode cX7_mark 157 = .ok (.goto (-128), 3) := by decide +kernel
theorem dX7_mark_160 : decode cX7_mark 160 = .ok (.iload_n 2, 1) := by decide +kernel
theorem dX7_mark_161 : decode cX7_mark 161 = .ok (.ireturn, 1) := by decide +kernel
theorem dX7_moveUp_0 : decode cX7_moveUp 0 = .ok (.iconst 0, 1) := by decide +kernel
theorem dX7_moveUp_1 : decode cX7_moveUp 1 = .ok (.istore_n 1, 1) := by decide +kernel
theorem dX7_moveUp_2 : decode cX7_moveUp 2 = .ok (.iconst 0, 1) := by decide +kernel
theorem dX7_moveUp_3 : decode cX7_moveUp 3 = .ok (.istore_n 2, 1) := by decide +kernel
theorem dX7_moveUp_4 : decode cX7_moveUp 4 = .ok (.iload_n 2, 1) := by decide +kernel
theorem dX7_moveUp_5 : decode cX7_moveUp 5 = .ok (.aload_n 0, 1) := by decide +kernel
theorem dX7_moveUp_6 : decode cX7_moveUp 6 = .ok (.getfield 111, 3) := by decide +kernel
theorem dX7_moveUp_9 : decode cX7_moveUp 9 = .ok (.if_icmp .ge 104, 3) := by decide +kernel
theorem dX7_moveUp_12 : decode cX7_moveUp 12 = .ok (.aload_n 0, 1) := by decide +kernel
theorem dX7_moveUp_13 : decode cX7_moveUp 13 = .ok (.getfield 31, 3) := by decide +kernel
theorem dX7_moveUp_16 : decode cX7_moveUp 16 = .ok (.iload_n 2, 1) := by decide +kernel
theorem dX7_moveUp_17 : decode cX7_moveUp 17 = .ok (.iaload, 1) := by decide +kernel
theorem dX7_moveUp_18 : decode cX7_moveUp 18 = .ok (.istore_n 3, 1) := by decide +kernel
theorem dX7_moveUp_19 : decode cX7_moveUp 19 = .ok (.aload_n 0, 1) := by decide +kernel
theorem dX7_moveUp_20 : decode cX7_moveUp 20 = .ok (.getfield 31, 3) := by decide +kernel
theorem dX7_moveUp_23 : decode cX7_moveUp 23 = .ok (.iload_n 2, 1) := by decide +kernel
theorem dX7_moveUp_24 : decode cX7_moveUp 24 = .ok (.iconst 1, 1) := by decide +kernel
theorem dX7_moveUp_25 : decode cX7_moveUp 25 = .ok (.iadd, 1) := by decide +kernel
theorem dX7_moveUp_26 : decode cX7_moveUp 26 = .ok (.iaload, 1) := by decide +kernel
theorem dX7_moveUp_27 : decode cX7_moveUp 27 = .ok (.istore 4, 2) := by decide +kernel
theorem dX7_moveUp_29 : decode cX7_moveUp 29 = .ok (.aload_n 0, 1) := by decide +kernel
theorem dX7_moveUp_30 : decode cX7_moveUp 30 = .ok (.getfield 7, 3) := by decide +kernel
theorem dX7_moveUp_33 : decode cX7_moveUp 33 = .ok (.iload_n 3, 1) := by decide +kernel
theorem dX7_moveUp_34 : decode cX7_moveUp 34 = .ok (.iaload, 1) := by decide +kernel
theorem dX7_moveUp_35 : decode cX7_moveUp 35 = .ok (.iconst 1, 1) := by decide +kernel
theorem dX7_moveUp_36 : decode cX7_moveUp 36 = .ok (.if_icmp .ne 67, 3) := by decide +kernel
theorem dX7_moveUp_39 : decode cX7_moveUp 39 = .ok (.aload_n 0, 1) := by decide +kernel
theorem dX7_moveUp_40 : decode cX7_moveUp 40 = .ok (.getfield 13, 3) := by decide +kernel
theorem dX7_moveUp_43 : decode cX7_moveUp 43 = .ok (.iload_n 3, 1) := by decide +kernel
theorem dX7_moveUp_44 : decode cX7_moveUp 44 = .ok (.iaload, 1) := by decide +kernel
theorem dX7_moveUp_45 : decode cX7_moveUp 45 = .ok (.iload_n 2, 1) := by decide +kernel
theorem dX7_moveUp_46 : decode cX7_moveUp 46 = .ok (.iconst 2, 1) := by decide +kernel
theorem dX7_moveUp_47 : decode cX7_moveUp 47 = .ok (.iadd, 1) := by decide +kernel
theorem dX7_moveUp_48 : decode cX7_moveUp 48 = .ok (.if_icmp .ne 55, 3) := by decide +kernel
theorem dX7_moveUp_51 : decode cX7_moveUp 51 = .ok (.iconst 0, 1) := by decide +kernel
theorem dX7_moveUp_52 : decode cX7_moveUp 52 = .ok (.istore 5, 2) := by decide +kernel
theorem dX7_moveUp_54 : decode cX7_moveUp 54 = .ok (.iload 5, 2) := by decide +kernel
theorem dX7_moveUp_56 : decode cX7_moveUp 56 = .ok (.iload 4, 2) := by decide +kernel
theorem dX7_moveUp_58 : decode cX7_moveUp 58 = .ok (.iconst 2, 1) := by decide +kernel
theorem dX7_moveUp_59 : decode cX7_moveUp 59 = .ok (.iadd, 1) := by decide +kernel
theorem dX7_moveUp_60 : decode cX7_moveUp 60 = .ok (.if_icmp .ge 27, 3) := by decide +kernel
theorem dX7_moveUp_63 : decode cX7_moveUp 63 = .ok (.aload_n 0, 1) := by decide +kernel
theorem dX7_moveUp_64 : decode cX7_moveUp 64 = .ok (.getfield 31, 3) := by decide +kernel
theorem dX7_moveUp_67 : decode cX7_moveUp 67 = .ok (.iload_n 1, 1) := by decide +kernel
theorem dX7_moveUp_68 : decode cX7_moveUp 68 = .ok (.iload 5, 2) := by decide +kernel
theorem dX7_moveUp_70 : decode cX7_moveUp 70 = .ok (.iadd, 1) := by decide +kernel
theorem dX7_moveUp_71 : decode cX7_moveUp 71 = .ok (.aload_n 0, 1) := by decide +kernel
theorem dX7_moveUp_72 : decode cX7_moveUp 72 = .ok (.getfield 31, 3) := by decide +kernel
theorem dX7_moveUp_75 : decode cX7_moveUp 75 = .ok (.iload_n 2, 1) := by decide +kernel
theorem dX7_moveUp_76 : decode cX7_moveUp 76 = .ok (.iload 5, 2) := by decide +kernel
theorem dX7_moveUp_78 : decode cX7_moveUp 78 = .ok (.iadd, 1) := by decide +kernel
theorem dX7_moveUp_79 : decode cX7_moveUp 79 = .ok (.iaload, 1) := by decide +kernel
theorem dX7_moveUp_80 : decode cX7_moveUp 80 = .ok (.iastore, 1) := by decide +kernel
theorem dX7_moveUp_81 : decode cX7_moveUp 81 = .ok (.iinc 5 1, 3) := by decide +kernel
theorem dX7_moveUp_84 : decode cX7_moveUp 84 = .ok (.goto (-30), 3) := by decide +kernel
theorem dX7_moveUp_87 : decode cX7_moveUp 87 = .ok (.aload_n 0, 1) := by decide +kernel
theorem dX7_moveUp_88 : decode cX7_moveUp 88 = .ok (.getfield 13, 3) := by decide +kernel
theorem dX7_moveUp_91 : decode cX7_moveUp 91 = .ok (.iload_n 3, 1) := by decide +kernel
theorem dX7_moveUp_92 : decode cX7_moveUp 92 = .ok (.iload_n 1, 1) := by decide +kernel
theorem dX7_moveUp_93 : decode cX7_moveUp 93 = .ok (.iconst 2, 1) := by decide +kernel
theorem dX7_moveUp_94 : decode cX7_moveUp 94 = .ok (.iadd, 1) := by decide +kernel
theorem dX7_moveUp_95 : decode cX7_moveUp 95 = .ok (.iastore, 1) := by decide +kernel
theorem dX7_moveUp_96 : decode cX7_moveUp 96 = .ok (.iload_n 1, 1) := by decide +kernel
theorem dX7_moveUp_97 : decode cX7_moveUp 97 = .ok (.iload 4, 2) := by decide +kernel
theorem dX7_moveUp_99 : decode cX7_moveUp 99 = .ok (.iconst 2, 1) := by decide +kernel
theorem dX7_moveUp_100 : decode cX7_moveUp 100 = .ok (.iadd, 1) := by decide +kernel
theorem dX7_moveUp_101 : decode cX7_moveUp 101 = .ok (.iadd, 1) := by decide +kernel
theorem dX7_moveUp_102 : decode cX7_moveUp 102 = .ok (.istore_n 1, 1) := by decide +kernel
theorem dX7_moveUp_103 : decode cX7_moveUp 103 = .ok (.iload_n 2, 1) := by decide +kernel
theorem dX7_moveUp_104 : decode cX7_moveUp 104 = .ok (.iload 4, 2) := by decide +kernel
theorem dX7_moveUp_106 : decode cX7_moveUp 106 = .ok (.iconst 2, 1) := by decide +kernel
theorem dX7_moveUp_107 : decode cX7_moveUp 107 = .ok (.iadd, 1) := by decide +kernel
theorem dX7_moveUp_108 : decode cX7_moveUp 108 = .ok (.iadd, 1) := by decide +kernel
theorem dX7_moveUp_109 : decode cX7_moveUp 109 = .ok (.istore_n 2, 1) := by decide +kernel
theorem dX7_moveUp_110 : decode cX7_moveUp 110 = .ok (.goto (-106), 3) := by decide +kernel
theorem dX7_moveUp_113 : decode cX7_moveUp 113 = .ok (.aload_n 0, 1) := by decide +kernel
theorem dX7_moveUp_114 : decode cX7_moveUp 114 = .ok (.iload_n 1, 1) := by decide +kernel
theorem dX7_moveUp_115 : decode cX7_moveUp 115 = .ok (.putfield 111, 3) := by decide +kernel
theorem dX7_moveUp_118 : decode cX7_moveUp 118 = .ok (.return_, 1) := by decide +kernel
theorem dX7_makeRoom_0 : decode cX7_makeRoom 0 = .ok (.aload_n 0, 1) := by decide +kernel
theorem dX7_makeRoom_1 : decode cX7_makeRoom 1 = .ok (.getfield 26, 3) := by decide +kernel
theorem dX7_makeRoom_4 : decode cX7_makeRoom 4 = .ok (.sipush 3200, 3) := by decide +kernel
theorem dX7_makeRoom_7 : decode cX7_makeRoom 7 = .ok (.if_icmp .lt 13, 3) := by decide +kernel
theorem dX7_makeRoom_10 : decode cX7_makeRoom 10 = .ok (.aload_n 0, 1) := by decide +kernel
theorem dX7_makeRoom_11 : decode cX7_makeRoom 11 = .ok (.getfield 111, 3) := by decide +kernel
theorem dX7_makeRoom_14 : decode cX7_makeRoom 14 = .ok (.ldc 122, 2) := by decide +kernel
theorem dX7_makeRoom_16 : decode cX7_makeRoom 16 = .ok (.if_icmp .gt 4, 3) := by decide +kernel
theorem dX7_makeRoom_19 : decode cX7_makeRoom 19 = .ok (.return_, 1) := by decide +kernel
theorem dX7_makeRoom_20 : decode cX7_makeRoom 20 = .ok (.aload_n 0, 1) := by decide +kernel
theorem dX7_makeRoom_21 : decode cX7_makeRoom 21 = .ok (.invokevirtual 123, 3) := by decide +kernel
theorem dX7_makeRoom_24 : decode cX7_makeRoom 24 = .ok (.iconst 0, 1) := by decide +kernel
theorem dX7_makeRoom_25 : decode cX7_makeRoom 25 = .ok (.istore_n 1, 1) := by decide +kernel
theorem dX7_makeRoom_26 : decode cX7_makeRoom 26 = .ok (.iload_n 1, 1) := by decide +kernel
theorem dX7_makeRoom_27 : decode cX7_makeRoom 27 = .ok (.bipush 8, 2) := by decide +kernel
theorem dX7_makeRoom_29 : decode cX7_makeRoom 29 = .ok (.if_icmp .ge 58, 3) := by decide +kernel
theorem dX7_makeRoom_32 : decode cX7_makeRoom 32 = .ok (.aload_n 0, 1) := by decide +kernel
theorem dX7_makeRoom_33 : decode cX7_makeRoom 33 = .ok (.aload_n 0, 1) := by decide +kernel
theorem dX7_makeRoom_34 : decode cX7_makeRoom 34 = .ok (.getfield 34, 3) := by decide +kernel
theorem dX7_makeRoom_37 : decode cX7_makeRoom 37 = .ok (.iload_n 1, 1) := by decide +kernel
theorem dX7_makeRoom_38 : decode cX7_makeRoom 38 = .ok (.iaload, 1) := by decide +kernel
theorem dX7_makeRoom_39 : decode cX7_makeRoom 39 = .ok (.invokevirtual 126, 3) := by decide +kernel
theorem dX7_makeRoom_42 : decode cX7_makeRoom 42 = .ok (.pop, 1) := by decide +kernel
theorem dX7_makeRoom_43 : decode cX7_makeRoom 43 = .ok (.iconst 0, 1) := by decide +kernel
theorem dX7_makeRoom_44 : decode cX7_makeRoom 44 = .ok (.istore_n 2, 1) := by decide +kernel
theorem dX7_makeRoom_45 : decode cX7_makeRoom 45 = .ok (.iload_n 2, 1) := by decide +kernel
theorem dX7_makeRoom_46 : decode cX7_makeRoom 46 = .ok (.iconst 2, 1) := by decide +kernel
theorem dX7_makeRoom_47 : decode cX7_makeRoom 47 = .ok (.if_icmp .ge 34, 3) := by decide +kernel
theorem dX7_makeRoom_50 : decode cX7_makeRoom 50 = .ok (.aload_n 0, 1) := by decide +kernel
theorem dX7_makeRoom_51 : decode cX7_makeRoom 51 = .ok (.getfield 40, 3) := by decide +kernel
theorem dX7_makeRoom_54 : decode cX7_makeRoom 54 = .ok (.iload_n 2, 1) := by decide +kernel
theorem dX7_makeRoom_55 : decode cX7_makeRoom 55 = .ok (.baload, 1) := by decide +kernel
theorem dX7_makeRoom_56 : decode cX7_makeRoom 56 = .ok (.ifCond .eq 19, 3) := by decide +kernel
theorem dX7_makeRoom_59 : decode cX7_makeRoom 59 = .ok (.aload_n 0, 1) := by decide +kernel
theorem dX7_makeRoom_60 : decode cX7_makeRoom 60 = .ok (.aload_n 0, 1) := by decide +kernel
theorem dX7_makeRoom_61 : decode cX7_makeRoom 61 = .ok (.getfield 37, 3) := by decide +kernel
theorem dX7_makeRoom_64 : decode cX7_makeRoom 64 = .ok (.bipush 8, 2) := by decide +kernel
theorem dX7_makeRoom_66 : decode cX7_makeRoom 66 = .ok (.iload_n 2, 1) := by decide +kernel
theorem dX7_makeRoom_67 : decode cX7_makeRoom 67 = .ok (.imul, 1) := by decide +kernel
theorem dX7_makeRoom_68 : decode cX7_makeRoom 68 = .ok (.iload_n 1, 1) := by decide +kernel
theorem dX7_makeRoom_69 : decode cX7_makeRoom 69 = .ok (.iadd, 1) := by decide +kernel
theorem dX7_makeRoom_70 : decode cX7_makeRoom 70 = .ok (.iaload, 1) := by decide +kernel
theorem dX7_makeRoom_71 : decode cX7_makeRoom 71 = .ok (.invokevirtual 126, 3) := by decide +kernel
theorem dX7_makeRoom_74 : decode cX7_makeRoom 74 = .ok (.pop, 1) := by decide +kernel
theorem dX7_makeRoom_75 : decode cX7_makeRoom 75 = .ok (.iinc 2 1, 3) := by decide +kernel
theorem dX7_makeRoom_78 : decode cX7_makeRoom 78 = .ok (.goto (-33), 3) := by decide +kernel
theorem dX7_makeRoom_81 : decode cX7_makeRoom 81 = .ok (.iinc 1 1, 3) := by decide +kernel
theorem dX7_makeRoom_84 : decode cX7_makeRoom 84 = .ok (.goto (-58), 3) := by decide +kernel
theorem dX7_makeRoom_87 : decode cX7_makeRoom 87 = .ok (.iconst 0, 1) := by decide +kernel
theorem dX7_makeRoom_88 : decode cX7_makeRoom 88 = .ok (.istore_n 1, 1) := by decide +kernel
theorem dX7_makeRoom_89 : decode cX7_makeRoom 89 = .ok (.iload_n 1, 1) := by decide +kernel
theorem dX7_makeRoom_90 : decode cX7_makeRoom 90 = .ok (.aload_n 0, 1) := by decide +kernel
theorem dX7_makeRoom_91 : decode cX7_makeRoom 91 = .ok (.getfield 129, 3) := by decide +kernel
theorem dX7_makeRoom_94 : decode cX7_makeRoom 94 = .ok (.if_icmp .ge 20, 3) := by decide +kernel
theorem dX7_makeRoom_97 : decode cX7_makeRoom 97 = .ok (.aload_n 0, 1) := by decide +kernel
theorem dX7_makeRoom_98 : decode cX7_makeRoom 98 = .ok (.aload_n 0, 1) := by decide +kernel
theorem dX7_makeRoom_99 : decode cX7_makeRoom 99 = .ok (.getfield 43, 3) := by decide +kernel
theorem dX7_makeRoom_102 : decode cX7_makeRoom 102 = .ok (.iload_n 1, 1) := by decide +kernel
theorem dX7_makeRoom_103 : decode cX7_makeRoom 103 = .ok (.iaload, 1) := by decide +kernel
theorem dX7_makeRoom_104 : decode cX7_makeRoom 104 = .ok (.invokevirtual 126, 3) := by decide +kernel
theorem dX7_makeRoom_107 : decode cX7_makeRoom 107 = .ok (.pop, 1) := by decide +kernel
theorem dX7_makeRoom_108 : decode cX7_makeRoom 108 = .ok (.iinc 1 1, 3) := by decide +kernel
theorem dX7_makeRoom_111 : decode cX7_makeRoom 111 = .ok (.goto (-22), 3) := by decide +kernel
theorem dX7_makeRoom_114 : decode cX7_makeRoom 114 = .ok (.aload_n 0, 1) := by decide +kernel
theorem dX7_makeRoom_115 : decode cX7_makeRoom 115 = .ok (.iconst 0, 1) := by decide +kernel
theorem dX7_makeRoom_116 : decode cX7_makeRoom 116 = .ok (.putfield 26, 3) := by decide +kernel
theorem dX7_makeRoom_119 : decode cX7_makeRoom 119 = .ok (.iconst 0, 1) := by decide +kernel
theorem dX7_makeRoom_120 : decode cX7_makeRoom 120 = .ok (.istore_n 1, 1) := by decide +kernel
theorem dX7_makeRoom_121 : decode cX7_makeRoom 121 = .ok (.iload_n 1, 1) := by decide +kernel
theorem dX7_makeRoom_122 : decode cX7_makeRoom 122 = .ok (.sipush 20480, 3) := by decide +kernel
theorem dX7_makeRoom_125 : decode cX7_makeRoom 125 = .ok (.if_icmp .ge 57, 3) := by decide +kernel
theorem dX7_makeRoom_128 : decode cX7_makeRoom 128 = .ok (.aload_n 0, 1) := by decide +kernel
theorem dX7_makeRoom_129 : decode cX7_makeRoom 129 = .ok (.getfield 7, 3) := by decide +kernel
theorem dX7_makeRoom_132 : decode cX7_makeRoom 132 = .ok (.iload_n 1, 1) := by decide +kernel
theorem dX7_makeRoom_133 : decode cX7_makeRoom 133 = .ok (.aload_n 0, 1) := by decide +kernel
theorem dX7_makeRoom_134 : decode cX7_makeRoom 134 = .ok (.getfield 22, 3) := by decide +kernel
theorem dX7_makeRoom_137 : decode cX7_makeRoom 137 = .ok (.iload_n 1, 1) := by decide +kernel
theorem dX7_makeRoom_138 : decode cX7_makeRoom 138 = .ok (.baload, 1) := by decide +kernel
theorem dX7_makeRoom_139 : decode cX7_makeRoom 139 = .ok (.ifCond .eq 12, 3) := by decide +kernel
theorem dX7_makeRoom_142 : decode cX7_makeRoom 142 = .ok (.aload_n 0, 1) := by decide +kernel
theorem dX7_makeRoom_143 : decode cX7_makeRoom 143 = .ok (.getfield 7, 3) := by decide +kernel
theorem dX7_makeRoom_146 : decode cX7_makeRoom 146 = .ok (.iload_n 1, 1) := by decide +kernel
theorem dX7_makeRoom_147 : decode cX7_makeRoom 147 = .ok (.iaload, 1) := by decide +kernel
theorem dX7_makeRoom_148 : decode cX7_makeRoom 148 = .ok (.goto 4, 3) := by decide +kernel
theorem dX7_makeRoom_151 : decode cX7_makeRoom 151 = .ok (.iconst 0, 1) := by decide +kernel
theorem dX7_makeRoom_152 : decode cX7_makeRoom 152 = .ok (.iastore, 1) := by decide +kernel
theorem dX7_makeRoom_153 : decode cX7_makeRoom 153 = .ok (.aload_n 0, 1) := by decide +kernel
theorem dX7_makeRoom_154 : decode cX7_makeRoom 154 = .ok (.dup, 1) := by decide +kernel
theorem dX7_makeRoom_155 : decode cX7_makeRoom 155 = .ok (.getfield 26, 3) := by decide +kernel
theorem dX7_makeRoom_158 : decode cX7_makeRoom 158 = .ok (.aload_n 0, 1) := by decide +kernel
theorem dX7_makeRoom_159 : decode cX7_makeRoom 159 = .ok (.getfield 22, 3) := by decide +kernel
theorem dX7_makeRoom_162 : decode cX7_makeRoom 162 = .ok (.iload_n 1, 1) := by decide +kernel
theorem dX7_makeRoom_163 : decode cX7_makeRoom 163 = .ok (.baload, 1) := by decide +kernel
theorem dX7_makeRoom_164 : decode cX7_makeRoom 164 = .ok (.ifCond .eq 7, 3) := by decide +kernel
theorem dX7_makeRoom_167 : decode cX7_makeRoom 167 = .ok (.iconst 0, 1) := by decide +kernel
theorem dX7_makeRoom_168 : decode cX7_makeRoom 168 = .ok (.goto 4, 3) := by decide +kernel
theorem dX7_makeRoom_171 : decode cX7_makeRoom 171 = .ok (.iconst 1, 1) := by decide +kernel
theorem dX7_makeRoom_172 : decode cX7_makeRoom 172 = .ok (.iadd, 1) := by decide +kernel
theorem dX7_makeRoom_173 : decode cX7_makeRoom 173 = .ok (.putfield 26, 3) := by decide +kernel
theorem dX7_makeRoom_176 : decode cX7_makeRoom 176 = .ok (.iinc 1 1, 3) := by decide +kernel
theorem dX7_makeRoom_179 : decode cX7_makeRoom 179 = .ok (.goto (-58), 3) := by decide +kernel
theorem dX7_makeRoom_182 : decode cX7_makeRoom 182 = .ok (.aload_n 0, 1) := by decide +kernel
theorem dX7_makeRoom_183 : decode cX7_makeRoom 183 = .ok (.invokevirtual 132, 3) := by decide +kernel
theorem dX7_makeRoom_186 : decode cX7_makeRoom 186 = .ok (.return_, 1) := by decide +kernel
theorem dX7_layPieces_0 : decode cX7_layPieces 0 = .ok (.aload_n 0, 1) := by decide +kernel
theorem dX7_layPieces_1 : decode cX7_layPieces 1 = .ok (.iconst 0, 1) := by decide +kernel
theorem dX7_layPieces_2 : decode cX7_layPieces 2 = .ok (.putfield 135, 3) := by decide +kernel
theorem dX7_layPieces_5 : decode cX7_layPieces 5 = .ok (.iconst 0, 1) := by decide +kernel
theorem dX7_layPieces_6 : decode cX7_layPieces 6 = .ok (.istore_n 2, 1) := by decide +kernel
theorem dX7_layPieces_7 : decode cX7_layPieces 7 = .ok (.iconst 1, 1) := by decide +kernel
theorem dX7_layPieces_8 : decode cX7_layPieces 8 = .ok (.istore_n 3, 1) := by decide +kernel
theorem dX7_layPieces_9 : decode cX7_layPieces 9 = .ok (.aload_n 0, 1) := by decide +kernel
theorem dX7_layPieces_10 : decode cX7_layPieces 10 = .ok (.getfield 70, 3) := by decide +kernel
theorem dX7_layPieces_13 : decode cX7_layPieces 13 = .ok (.iconst 0, 1) := by decide +kernel
theorem dX7_layPieces_14 : decode cX7_layPieces 14 = .ok (.iload_n 1, 1) := by decide +kernel
theorem dX7_layPieces_15 : decode cX7_layPieces 15 = .ok (.iastore, 1) := by decide +kernel
theorem dX7_layPieces_16 : decode cX7_layPieces 16 = .ok (.aload_n 0, 1) := by decide +kernel
theorem dX7_layPieces_17 : decode cX7_layPieces 17 = .ok (.getfield 73, 3) := by decide +kernel
theorem dX7_layPieces_20 : decode cX7_layPieces 20 = .ok (.iconst 0, 1) := by decide +kernel
theorem dX7_layPieces_21 : decode cX7_layPieces 21 = .ok (.iconst 0, 1) := by decide +kernel
theorem dX7_layPieces_22 : decode cX7_layPieces 22 = .ok (.iastore, 1) := by decide +kernel
theorem dX7_layPieces_23 : decode cX7_layPieces 23 = .ok (.iload_n 3, 1) := by decide +kernel
theorem dX7_layPieces_24 : decode cX7_layPieces 24 = .ok (.ifCond .le 126, 3) := by decide +kernel
theorem dX7_layPieces_27 : decode cX7_layPieces 27 = .ok (.iinc 3 (-1), 3) := by decide +kernel
theorem dX7_layPieces_30 : decode cX7_layPieces 30 = .ok (.aload_n 0, 1) := by decide +kernel
theorem dX7_layPieces_31 : decode cX7_layPieces 31 = .ok (.getfield 70, 3) := by decide +kernel
theorem dX7_layPieces_34 : decode cX7_layPieces 34 = .ok (.iload_n 3, 1) := by decide +kernel
theorem dX7_layPieces_35 : decode cX7_layPieces 35 = .ok (.iaload, 1) := by decide +kernel
theorem dX7_layPieces_36 : decode cX7_layPieces 36 = .ok (.istore 4, 2) := by decide +kernel
theorem dX7_layPieces_38 : decode cX7_layPieces 38 = .ok (.aload_n 0, 1) := by decide +kernel
theorem dX7_layPieces_39 : decode cX7_layPieces 39 = .ok (.getfield 73, 3) := by decide +kernel
theorem dX7_layPieces_42 : decode cX7_layPieces 42 = .ok (.iload_n 3, 1) := by decide +kernel
theorem dX7_layPieces_43 : decode cX7_layPieces 43 = .ok (.iaload, 1) := by decide +kernel
theorem dX7_layPieces_44 : decode cX7_layPieces 44 = .ok (.istore 5, 2) := by decide +kernel
theorem dX7_layPieces_46 : decode cX7_layPieces 46 = .ok (.iload 5, 2) := by decide +kernel
theorem dX7_layPieces_48 : decode cX7_layPieces 48 = .ok (.iload_n 2, 1) := by decide +kernel
theorem dX7_layPieces_49 : decode cX7_layPieces 49 = .ok (.if_icmp .le 8, 3) := by decide +kernel
theorem dX7_layPieces_52 : decode cX7_layPieces 52 = .ok (.iload 5, 2) := by decide +kernel
theorem dX7_layPieces_54 : decode cX7_layPieces 54 = .ok (.goto 4, 3) := by decide +kernel
theorem dX7_layPieces_57 : decode cX7_layPieces 57 = .ok (.iload_n 2, 1) := by decide +kernel
