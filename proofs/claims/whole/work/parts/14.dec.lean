theorem dX7_init_0 : decode cX7_init 0 = .ok (.aload_n 0, 1) := by decide +kernel
theorem dX7_init_1 : decode cX7_init 1 = .ok (.invokespecial 1, 3) := by decide +kernel
theorem dX7_init_4 : decode cX7_init 4 = .ok (.aload_n 0, 1) := by decide +kernel
theorem dX7_init_5 : decode cX7_init 5 = .ok (.bipush 32, 2) := by decide +kernel
theorem dX7_init_7 : decode cX7_init 7 = .ok (.newarray .int, 2) := by decide +kernel
theorem dX7_init_9 : decode cX7_init 9 = .ok (.putfield 7, 3) := by decide +kernel
theorem dX7_init_12 : decode cX7_init 12 = .ok (.aload_n 0, 1) := by decide +kernel
theorem dX7_init_13 : decode cX7_init 13 = .ok (.bipush 32, 2) := by decide +kernel
theorem dX7_init_15 : decode cX7_init 15 = .ok (.newarray .int, 2) := by decide +kernel
theorem dX7_init_17 : decode cX7_init 17 = .ok (.putfield 13, 3) := by decide +kernel
theorem dX7_init_20 : decode cX7_init 20 = .ok (.aload_n 0, 1) := by decide +kernel
theorem dX7_init_21 : decode cX7_init 21 = .ok (.bipush 32, 2) := by decide +kernel
theorem dX7_init_23 : decode cX7_init 23 = .ok (.newarray .int, 2) := by decide +kernel
theorem dX7_init_25 : decode cX7_init 25 = .ok (.putfield 16, 3) := by decide +kernel
theorem dX7_init_28 : decode cX7_init 28 = .ok (.aload_n 0, 1) := by decide +kernel
theorem dX7_init_29 : decode cX7_init 29 = .ok (.bipush 32, 2) := by decide +kernel
theorem dX7_init_31 : decode cX7_init 31 = .ok (.newarray .int, 2) := by decide +kernel
theorem dX7_init_33 : decode cX7_init 33 = .ok (.putfield 19, 3) := by decide +kernel
theorem dX7_init_36 : decode cX7_init 36 = .ok (.aload_n 0, 1) := by decide +kernel
theorem dX7_init_37 : decode cX7_init 37 = .ok (.sipush 3840, 3) := by decide +kernel
theorem dX7_init_40 : decode cX7_init 40 = .ok (.newarray .int, 2) := by decide +kernel
theorem dX7_init_42 : decode cX7_init 42 = .ok (.putfield 22, 3) := by decide +kernel
theorem dX7_init_45 : decode cX7_init 45 = .ok (.aload_n 0, 1) := by decide +kernel
theorem dX7_init_46 : decode cX7_init 46 = .ok (.sipush 3840, 3) := by decide +kernel
theorem dX7_init_49 : decode cX7_init 49 = .ok (.newarray .long, 2) := by decide +kernel
theorem dX7_init_51 : decode cX7_init 51 = .ok (.putfield 25, 3) := by decide +kernel
theorem dX7_init_54 : decode cX7_init 54 = .ok (.aload_n 0, 1) := by decide +kernel
theorem dX7_init_55 : decode cX7_init 55 = .ok (.bipush 18, 2) := by decide +kernel
theorem dX7_init_57 : decode cX7_init 57 = .ok (.newarray .long, 2) := by decide +kernel
theorem dX7_init_59 : decode cX7_init 59 = .ok (.putfield 29, 3) := by decide +kernel
theorem dX7_init_62 : decode cX7_init 62 = .ok (.aload_n 0, 1) := by decide +kernel
theorem dX7_init_63 : decode cX7_init 63 = .ok (.iconst (-1), 1) := by decide +kernel
theorem dX7_init_64 : decode cX7_init 64 = .ok (.putfield 32, 3) := by decide +kernel
theorem dX7_init_67 : decode cX7_init 67 = .ok (.aload_n 0, 1) := by decide +kernel
theorem dX7_init_68 : decode cX7_init 68 = .ok (.sipush 3840, 3) := by decide +kernel
theorem dX7_init_71 : decode cX7_init 71 = .ok (.newarray .int, 2) := by decide +kernel
theorem dX7_init_73 : decode cX7_init 73 = .ok (.putfield 36, 3) := by decide +kernel
theorem dX7_init_76 : decode cX7_init 76 = .ok (.aload_n 0, 1) := by decide +kernel
theorem dX7_init_77 : decode cX7_init 77 = .ok (.sipush 3840, 3) := by decide +kernel
theorem dX7_init_80 : decode cX7_init 80 = .ok (.newarray .int, 2) := by decide +kernel
theorem dX7_init_82 : decode cX7_init 82 = .ok (.putfield 39, 3) := by decide +kernel
theorem dX7_init_85 : decode cX7_init 85 = .ok (.aload_n 0, 1) := by decide +kernel
theorem dX7_init_86 : decode cX7_init 86 = .ok (.sipush 3840, 3) := by decide +kernel
theorem dX7_init_89 : decode cX7_init 89 = .ok (.newarray .int, 2) := by decide +kernel
theorem dX7_init_91 : decode cX7_init 91 = .ok (.putfield 42, 3) := by decide +kernel
theorem dX7_init_94 : decode cX7_init 94 = .ok (.aload_n 0, 1) := by decide +kernel
theorem dX7_init_95 : decode cX7_init 95 = .ok (.sipush 3840, 3) := by decide +kernel
theorem dX7_init_98 : decode cX7_init 98 = .ok (.newarray .int, 2) := by decide +kernel
theorem dX7_init_100 : decode cX7_init 100 = .ok (.putfield 45, 3) := by decide +kernel
theorem dX7_init_103 : decode cX7_init 103 = .ok (.aload_n 0, 1) := by decide +kernel
theorem dX7_init_104 : decode cX7_init 104 = .ok (.bipush 32, 2) := by decide +kernel
theorem dX7_init_106 : decode cX7_init 106 = .ok (.newarray .int, 2) := by decide +kernel
theorem dX7_init_108 : decode cX7_init 108 = .ok (.putfield 48, 3) := by decide +kernel
theorem dX7_init_111 : decode cX7_init 111 = .ok (.aload_n 0, 1) := by decide +kernel
theorem dX7_init_112 : decode cX7_init 112 = .ok (.bipush 32, 2) := by decide +kernel
theorem dX7_init_114 : decode cX7_init 114 = .ok (.newarray .int, 2) := by decide +kernel
theorem dX7_init_116 : decode cX7_init 116 = .ok (.putfield 51, 3) := by decide +kernel
theorem dX7_init_119 : decode cX7_init 119 = .ok (.aload_n 0, 1) := by decide +kernel
theorem dX7_init_120 : decode cX7_init 120 = .ok (.bipush 32, 2) := by decide +kernel
theorem dX7_init_122 : decode cX7_init 122 = .ok (.newarray .boolean, 2) := by decide +kernel
theorem dX7_init_124 : decode cX7_init 124 = .ok (.putfield 54, 3) := by decide +kernel
theorem dX7_init_127 : decode cX7_init 127 = .ok (.aload_n 0, 1) := by decide +kernel
theorem dX7_init_128 : decode cX7_init 128 = .ok (.bipush 32, 2) := by decide +kernel
theorem dX7_init_130 : decode cX7_init 130 = .ok (.newarray .boolean, 2) := by decide +kernel
theorem dX7_init_132 : decode cX7_init 132 = .ok (.putfield 58, 3) := by decide +kernel
theorem dX7_init_135 : decode cX7_init 135 = .ok (.aload_n 0, 1) := by decide +kernel
theorem dX7_init_136 : decode cX7_init 136 = .ok (.bipush 32, 2) := by decide +kernel
theorem dX7_init_138 : decode cX7_init 138 = .ok (.newarray .boolean, 2) := by decide +kernel
theorem dX7_init_140 : decode cX7_init 140 = .ok (.putfield 61, 3) := by decide +kernel
theorem dX7_init_143 : decode cX7_init 143 = .ok (.aload_n 0, 1) := by decide +kernel
theorem dX7_init_144 : decode cX7_init 144 = .ok (.bipush 32, 2) := by decide +kernel
theorem dX7_init_146 : decode cX7_init 146 = .ok (.newarray .boolean, 2) := by decide +kernel
theorem dX7_init_148 : decode cX7_init 148 = .ok (.putfield 64, 3) := by decide +kernel
theorem dX7_init_151 : decode cX7_init 151 = .ok (.aload_n 0, 1) := by decide +kernel
theorem dX7_init_152 : decode cX7_init 152 = .ok (.bipush 32, 2) := by decide +kernel
theorem dX7_init_154 : decode cX7_init 154 = .ok (.newarray .long, 2) := by decide +kernel
theorem dX7_init_156 : decode cX7_init 156 = .ok (.putfield 67, 3) := by decide +kernel
theorem dX7_init_159 : decode cX7_init 159 = .ok (.aload_n 0, 1) := by decide +kernel
theorem dX7_init_160 : decode cX7_init 160 = .ok (.bipush 32, 2) := by decide +kernel
theorem dX7_init_162 : decode cX7_init 162 = .ok (.newarray .long, 2) := by decide +kernel
theorem dX7_init_164 : decode cX7_init 164 = .ok (.putfield 70, 3) := by decide +kernel
theorem dX7_init_167 : decode cX7_init 167 = .ok (.aload_n 0, 1) := by decide +kernel
theorem dX7_init_168 : decode cX7_init 168 = .ok (.bipush 121, 2) := by decide +kernel
theorem dX7_init_170 : decode cX7_init 170 = .ok (.newarray .long, 2) := by decide +kernel
theorem dX7_init_172 : decode cX7_init 172 = .ok (.putfield 73, 3) := by decide +kernel
theorem dX7_init_175 : decode cX7_init 175 = .ok (.aload_n 0, 1) := by decide +kernel
theorem dX7_init_176 : decode cX7_init 176 = .ok (.bipush 120, 2) := by decide +kernel
theorem dX7_init_178 : decode cX7_init 178 = .ok (.newarray .long, 2) := by decide +kernel
theorem dX7_init_180 : decode cX7_init 180 = .ok (.putfield 76, 3) := by decide +kernel
theorem dX7_init_183 : decode cX7_init 183 = .ok (.aload_n 0, 1) := by decide +kernel
theorem dX7_init_184 : decode cX7_init 184 = .ok (.bipush 120, 2) := by decide +kernel
theorem dX7_init_186 : decode cX7_init 186 = .ok (.newarray .long, 2) := by decide +kernel
theorem dX7_init_188 : decode cX7_init 188 = .ok (.putfield 79, 3) := by decide +kernel
theorem dX7_init_191 : decode cX7_init 191 = .ok (.aload_n 0, 1) := by decide +kernel
theorem dX7_init_192 : decode cX7_init 192 = .ok (.sipush 1024, 3) := by decide +kernel
theorem dX7_init_195 : decode cX7_init 195 = .ok (.newarray .boolean, 2) := by decide +kernel
theorem dX7_init_197 : decode cX7_init 197 = .ok (.putfield 82, 3) := by decide +kernel
theorem dX7_init_200 : decode cX7_init 200 = .ok (.aload_n 0, 1) := by decide +kernel
theorem dX7_init_201 : decode cX7_init 201 = .ok (.bipush 8, 2) := by decide +kernel
theorem dX7_init_203 : decode cX7_init 203 = .ok (.newarray .long, 2) := by decide +kernel
theorem dX7_init_205 : decode cX7_init 205 = .ok (.putfield 85, 3) := by decide +kernel
theorem dX7_init_208 : decode cX7_init 208 = .ok (.aload_n 0, 1) := by decide +kernel
theorem dX7_init_209 : decode cX7_init 209 = .ok (.bipush 100, 2) := by decide +kernel
theorem dX7_init_211 : decode cX7_init 211 = .ok (.newarray .int, 2) := by decide +kernel
theorem dX7_init_213 : decode cX7_init 213 = .ok (.putfield 88, 3) := by decide +kernel
theorem dX7_init_216 : decode cX7_init 216 = .ok (.aload_n 0, 1) := by decide +kernel
theorem dX7_init_217 : decode cX7_init 217 = .ok (.bipush 100, 2) := by decide +kernel
theorem dX7_init_219 : decode cX7_init 219 = .ok (.newarray .int, 2) := by decide +kernel
theorem dX7_init_221 : decode cX7_init 221 = .ok (.putfield 91, 3) := by decide +kernel
theorem dX7_init_224 : decode cX7_init 224 = .ok (.aload_n 0, 1) := by decide +kernel
theorem dX7_init_225 : decode cX7_init 225 = .ok (.bipush 100, 2) := by decide +kernel
theorem dX7_init_227 : decode cX7_init 227 = .ok (.newarray .int, 2) := by decide +kernel
theorem dX7_init_229 : decode cX7_init 229 = .ok (.putfield 94, 3) := by decide +kernel
theorem dX7_init_232 : decode cX7_init 232 = .ok (.aload_n 0, 1) := by decide +kernel
theorem dX7_init_233 : decode cX7_init 233 = .ok (.sipush 1600, 3) := by decide +kernel
theorem dX7_init_236 : decode cX7_init 236 = .ok (.newarray .long, 2) := by decide +kernel
theorem dX7_init_238 : decode cX7_init 238 = .ok (.putfield 97, 3) := by decide +kernel
theorem dX7_init_241 : decode cX7_init 241 = .ok (.aload_n 0, 1) := by decide +kernel
theorem dX7_init_242 : decode cX7_init 242 = .ok (.sipush 10100, 3) := by decide +kernel
theorem dX7_init_245 : decode cX7_init 245 = .ok (.newarray .long, 2) := by decide +kernel
theorem dX7_init_247 : decode cX7_init 247 = .ok (.putfield 100, 3) := by decide +kernel
theorem dX7_init_250 : decode cX7_init 250 = .ok (.aload_n 0, 1) := by decide +kernel
theorem dX7_init_251 : decode cX7_init 251 = .ok (.sipush 900, 3) := by decide +kernel
theorem dX7_init_254 : decode cX7_init 254 = .ok (.newarray .long, 2) := by decide +kernel
theorem dX7_init_256 : decode cX7_init 256 = .ok (.putfield 103, 3) := by decide +kernel
theorem dX7_init_259 : decode cX7_init 259 = .ok (.iconst 0, 1) := by decide +kernel
theorem dX7_init_260 : decode cX7_init 260 = .ok (.istore_n 1, 1) := by decide +kernel
theorem dX7_init_261 : decode cX7_init 261 = .ok (.iload_n 1, 1) := by decide +kernel
theorem dX7_init_262 : decode cX7_init 262 = .ok (.bipush 18, 2) := by decide +kernel
theorem dX7_init_264 : decode cX7_init 264 = .ok (.if_icmp .ge 16, 3) := by decide +kernel
theorem dX7_init_267 : decode cX7_init 267 = .ok (.aload_n 0, 1) := by decide +kernel
theorem dX7_init_268 : decode cX7_init 268 = .ok (.getfield 29, 3) := by decide +kernel
theorem dX7_init_271 : decode cX7_init 271 = .ok (.iload_n 1, 1) := by decide +kernel
theorem dX7_init_272 : decode cX7_init 272 = .ok (.lconst 1, 1) := by decide +kernel
theorem dX7_init_273 : decode cX7_init 273 = .ok (.lastore, 1) := by decide +kernel
theorem dX7_init_274 : decode cX7_init 274 = .ok (.iinc 1 1, 3) := by decide +kernel
theorem dX7_init_277 : decode cX7_init 277 = .ok (.goto (-16), 3) := by decide +kernel
theorem dX7_init_280 : decode cX7_init 280 = .ok (.return_, 1) := by decide +kernel
theorem dX7_thrown_0 : decode cX7_thrown 0 = .ok (.aload_n 0, 1) := by decide +kernel
theorem dX7_thrown_1 : decode cX7_thrown 1 = .ok (.getfield 106, 3) := by decide +kernel
theorem dX7_thrown_4 : decode cX7_thrown 4 = .ok (.ireturn, 1) := by decide +kernel
theorem dX7_noMethod_0 : decode cX7_noMethod 0 = .ok (.iload_n 1, 1) := by decide +kernel
theorem dX7_noMethod_1 : decode cX7_noMethod 1 = .ok (.ifCond .lt 11, 3) := by decide +kernel
theorem dX7_noMethod_4 : decode cX7_noMethod 4 = .ok (.iload_n 1, 1) := by decide +kernel
theorem dX7_noMethod_5 : decode cX7_noMethod 5 = .ok (.aload_n 0, 1) := by decide +kernel
theorem dX7_noMethod_6 : decode cX7_noMethod 6 = .ok (.getfield 109, 3) := by decide +kernel
theorem dX7_noMethod_9 : decode cX7_noMethod 9 = .ok (.if_icmp .lt 7, 3) := by decide +kernel
theorem dX7_noMethod_12 : decode cX7_noMethod 12 = .ok (.iconst 1, 1) := by decide +kernel
theorem dX7_noMethod_13 : decode cX7_noMethod 13 = .ok (.goto 4, 3) := by decide +kernel
theorem dX7_noMethod_16 : decode cX7_noMethod 16 = .ok (.iconst 0, 1) := by decide +kernel
theorem dX7_noMethod_17 : decode cX7_noMethod 17 = .ok (.ireturn, 1) := by decide +kernel
theorem dX7_method_0 : decode cX7_method 0 = .ok (.aload_n 0, 1) := by decide +kernel
theorem dX7_method_1 : decode cX7_method 1 = .ok (.iload_n 1, 1) := by decide +kernel
theorem dX7_method_2 : decode cX7_method 2 = .ok (.ifCond .lt 29, 3) := by decide +kernel
theorem dX7_method_5 : decode cX7_method 5 = .ok (.iload_n 1, 1) := by decide +kernel
theorem dX7_method_6 : decode cX7_method 6 = .ok (.bipush 8, 2) := by decide +kernel
theorem dX7_method_8 : decode cX7_method 8 = .ok (.if_icmp .gt 23, 3) := by decide +kernel
theorem dX7_method_11 : decode cX7_method 11 = .ok (.iload_n 2, 1) := by decide +kernel
theorem dX7_method_12 : decode cX7_method 12 = .ok (.ifCond .lt 19, 3) := by decide +kernel
theorem dX7_method_15 : decode cX7_method 15 = .ok (.iload_n 2, 1) := by decide +kernel
theorem dX7_method_16 : decode cX7_method 16 = .ok (.iconst 1, 1) := by decide +kernel
theorem dX7_method_17 : decode cX7_method 17 = .ok (.if_icmp .gt 14, 3) := by decide +kernel
theorem dX7_method_20 : decode cX7_method 20 = .ok (.iload_n 3, 1) := by decide +kernel
theorem dX7_method_21 : decode cX7_method 21 = .ok (.iload_n 1, 1) := by decide +kernel
theorem dX7_method_22 : decode cX7_method 22 = .ok (.if_icmp .lt 9, 3) := by decide +kernel
theorem dX7_method_25 : decode cX7_method 25 = .ok (.iload_n 3, 1) := by decide +kernel
theorem dX7_method_26 : decode cX7_method 26 = .ok (.bipush 16, 2) := by decide +kernel
theorem dX7_method_28 : decode cX7_method 28 = .ok (.if_icmp .le 7, 3) := by decide +kernel
theorem dX7_method_31 : decode cX7_method 31 = .ok (.iconst 1, 1) := by decide +kernel
theorem dX7_method_32 : decode cX7_method 32 = .ok (.goto 4, 3) := by decide +kernel
theorem dX7_method_35 : decode cX7_method 35 = .ok (.iconst 0, 1) := by decide +kernel
theorem dX7_method_36 : decode cX7_method 36 = .ok (.putfield 106, 3) := by decide +kernel
theorem dX7_method_39 : decode cX7_method 39 = .ok (.aload_n 0, 1) := by decide +kernel
theorem dX7_method_40 : decode cX7_method 40 = .ok (.getfield 106, 3) := by decide +kernel
theorem dX7_method_43 : decode cX7_method 43 = .ok (.ifCond .le 5, 3) := by decide +kernel
theorem dX7_method_46 : decode cX7_method 46 = .ok (.iconst 0, 1) := by decide +kernel
theorem dX7_method_47 : decode cX7_method 47 = .ok (.ireturn, 1) := by decide +kernel
theorem dX7_method_48 : decode cX7_method 48 = .ok (.aload_n 0, 1) := by decide +kernel
theorem dX7_method_49 : decode cX7_method 49 = .ok (.getfield 109, 3) := by decide +kernel
theorem dX7_method_52 : decode cX7_method 52 = .ok (.bipush 32, 2) := by decide +kernel
theorem dX7_method_54 : decode cX7_method 54 = .ok (.if_icmp .ne 5, 3) := by decide +kernel
theorem dX7_method_57 : decode cX7_method 57 = .ok (.iconst (-1), 1) := by decide +kernel
theorem dX7_method_58 : decode cX7_method 58 = .ok (.ireturn, 1) := by decide +kernel
theorem dX7_method_59 : decode cX7_method 59 = .ok (.aload_n 0, 1) := by decide +kernel
theorem dX7_method_60 : decode cX7_method 60 = .ok (.getfield 7, 3) := by decide +kernel
theorem dX7_method_63 : decode cX7_method 63 = .ok (.aload_n 0, 1) := by decide +kernel
theorem dX7_method_64 : decode cX7_method 64 = .ok (.getfield 109, 3) := by decide +kernel
theorem dX7_method_67 : decode cX7_method 67 = .ok (.iload_n 1, 1) := by decide +kernel
theorem dX7_method_68 : decode cX7_method 68 = .ok (.iastore, 1) := by decide +kernel
theorem dX7_method_69 : decode cX7_method 69 = .ok (.aload_n 0, 1) := by decide +kernel
theorem dX7_method_70 : decode cX7_method 70 = .ok (.getfield 13, 3) := by decide +kernel
theorem dX7_method_73 : decode cX7_method 73 = .ok (.aload_n 0, 1) := by decide +kernel
theorem dX7_method_74 : decode cX7_method 74 = .ok (.getfield 109, 3) := by decide +kernel
theorem dX7_method_77 : decode cX7_method 77 = .ok (.iload_n 2, 1) := by decide +kernel
theorem dX7_method_78 : decode cX7_method 78 = .ok (.iastore, 1) := by decide +kernel
theorem dX7_method_79 : decode cX7_method 79 = .ok (.aload_n 0, 1) := by decide +kernel
theorem dX7_method_80 : decode cX7_method 80 = .ok (.getfield 16, 3) := by decide +kernel
theorem dX7_method_83 : decode cX7_method 83 = .ok (.aload_n 0, 1) := by decide +kernel
theorem dX7_method_84 : decode cX7_method 84 = .ok (.getfield 109, 3) := by decide +kernel
theorem dX7_method_87 : decode cX7_method 87 = .ok (.iload_n 3, 1) := by decide +kernel
theorem dX7_method_88 : decode cX7_method 88 = .ok (.iastore, 1) := by decide +kernel
theorem dX7_method_89 : decode cX7_method 89 = .ok (.aload_n 0, 1) := by decide +kernel
theorem dX7_method_90 : decode cX7_method 90 = .ok (.getfield 19, 3) := by decide +kernel
theorem dX7_method_93 : decode cX7_method 93 = .ok (.aload_n 0, 1) := by decide +kernel
theorem dX7_method_94 : decode cX7_method 94 = .ok (.getfield 109, 3) := by decide +kernel
theorem dX7_method_97 : decode cX7_method 97 = .ok (.iconst 0, 1) := by decide +kernel
theorem dX7_method_98 : decode cX7_method 98 = .ok (.iastore, 1) := by decide +kernel
theorem dX7_method_99 : decode cX7_method 99 = .ok (.aload_n 0, 1) := by decide +kernel
theorem dX7_method_100 : decode cX7_method 100 = .ok (.dup, 1) := by decide +kernel
theorem dX7_method_101 : decode cX7_method 101 = .ok (.getfield 109, 3) := by decide +kernel
theorem dX7_method_104 : decode cX7_method 104 = .ok (.iconst 1, 1) := by decide +kernel
theorem dX7_method_105 : decode cX7_method 105 = .ok (.iadd, 1) := by decide +kernel
theorem dX7_method_106 : decode cX7_method 106 = .ok (.putfield 109, 3) := by decide +kernel
theorem dX7_method_109 : decode cX7_method 109 = .ok (.aload_n 0, 1) := by decide +kernel
theorem dX7_method_110 : decode cX7_method 110 = .ok (.getfield 109, 3) := by decide +kernel
theorem dX7_method_113 : decode cX7_method 113 = .ok (.iconst 1, 1) := by decide +kernel
theorem dX7_method_114 : decode cX7_method 114 = .ok (.isub, 1) := by decide +kernel
theorem dX7_method_115 : decode cX7_method 115 = .ok (.ireturn, 1) := by decide +kernel
theorem dX7_add_0 : decode cX7_add 0 = .ok (.aload_n 0, 1) := by decide +kernel
theorem dX7_add_1 : decode cX7_add 1 = .ok (.aload_n 0, 1) := by decide +kernel
theorem dX7_add_2 : decode cX7_add 2 = .ok (.iload_n 1, 1) := by decide +kernel
theorem dX7_add_3 : decode cX7_add 3 = .ok (.invokevirtual 112, 3) := by decide +kernel
theorem dX7_add_6 : decode cX7_add 6 = .ok (.ifCond .eq 7, 3) := by decide +kernel
theorem dX7_add_9 : decode cX7_add 9 = .ok (.iconst 1, 1) := by decide +kernel
theorem dX7_add_10 : decode cX7_add 10 = .ok (.goto 4, 3) := by decide +kernel
theorem dX7_add_13 : decode cX7_add 13 = .ok (.iconst 0, 1) := by decide +kernel
theorem dX7_add_14 : decode cX7_add 14 = .ok (.putfield 106, 3) := by decide +kernel
theorem dX7_add_17 : decode cX7_add 17 = .ok (.aload_n 0, 1) := by decide +kernel
theorem dX7_add_18 : decode cX7_add 18 = .ok (.getfield 106, 3) := by decide +kernel
theorem dX7_add_21 : decode cX7_add 21 = .ok (.ifCond .le 5, 3) := by decide +kernel
theorem dX7_add_24 : decode cX7_add 24 = .ok (.iconst 0, 1) := by decide +kernel
theorem dX7_add_25 : decode cX7_add 25 = .ok (.ireturn, 1) := by decide +kernel
theorem dX7_add_26 : decode cX7_add 26 = .ok (.aload_n 0, 1) := by decide +kernel
theorem dX7_add_27 : decode cX7_add 27 = .ok (.getfield 19, 3) := by decide +kernel
theorem dX7_add_30 : decode cX7_add 30 = .ok (.iload_n 1, 1) := by decide +kernel
theorem dX7_add_31 : decode cX7_add 31 = .ok (.iaload, 1) := by decide +kernel
theorem dX7_add_32 : decode cX7_add 32 = .ok (.bipush 120, 2) := by decide +kernel
theorem dX7_add_34 : decode cX7_add 34 = .ok (.if_icmp .ne 5, 3) := by decide +kernel
theorem dX7_add_37 : decode cX7_add 37 = .ok (.iconst (-1), 1) := by decide +kernel
theorem dX7_add_38 : decode cX7_add 38 = .ok (.ireturn, 1) := by decide +kernel
theorem dX7_add_39 : decode cX7_add 39 = .ok (.aload_n 0, 1) := by decide +kernel
theorem dX7_add_40 : decode cX7_add 40 = .ok (.getfield 22, 3) := by decide +kernel
theorem dX7_add_43 : decode cX7_add 43 = .ok (.bipush 120, 2) := by decide +kernel
theorem dX7_add_45 : decode cX7_add 45 = .ok (.iload_n 1, 1) := by decide +kernel
theorem dX7_add_46 : decode cX7_add 46 = .ok (.imul, 1) := by decide +kernel
theorem dX7_add_47 : decode cX7_add 47 = .ok (.aload_n 0, 1) := by decide +kernel
theorem dX7_add_48 : decode cX7_add 48 = .ok (.getfield 19, 3) := by decide +kernel
theorem dX7_add_51 : decode cX7_add 51 = .ok (.iload_n 1, 1) := by decide +kernel
theorem dX7_add_52 : decode cX7_add 52 = .ok (.iaload, 1) := by decide +kernel
theorem dX7_add_53 : decode cX7_add 53 = .ok (.iadd, 1) := by decide +kernel
theorem dX7_add_54 : decode cX7_add 54 = .ok (.iload_n 2, 1) := by decide +kernel
theorem dX7_add_55 : decode cX7_add 55 = .ok (.iastore, 1) := by decide +kernel
theorem dX7_add_56 : decode cX7_add 56 = .ok (.aload_n 0, 1) := by decide +kernel
theorem dX7_add_57 : decode cX7_add 57 = .ok (.getfield 25, 3) := by decide +kernel
theorem dX7_add_60 : decode cX7_add 60 = .ok (.bipush 120, 2) := by decide +kernel
theorem dX7_add_62 : decode cX7_add 62 = .ok (.iload_n 1, 1) := by decide +kernel
theorem dX7_add_63 : decode cX7_add 63 = .ok (.imul, 1) := by decide +kernel
theorem dX7_add_64 : decode cX7_add 64 = .ok (.aload_n 0, 1) := by decide +kernel
theorem dX7_add_65 : decode cX7_add 65 = .ok (.getfield 19, 3) := by decide +kernel
theorem dX7_add_68 : decode cX7_add 68 = .ok (.iload_n 1, 1) := by decide +kernel
theorem dX7_add_69 : decode cX7_add 69 = .ok (.iaload, 1) := by decide +kernel
theorem dX7_add_70 : decode cX7_add 70 = .ok (.iadd, 1) := by decide +kernel
theorem dX7_add_71 : decode cX7_add 71 = .ok (.lload_n 3, 1) := by decide +kernel
theorem dX7_add_72 : decode cX7_add 72 = .ok (.lastore, 1) := by decide +kernel
theorem dX7_add_73 : decode cX7_add 73 = .ok (.aload_n 0, 1) := by decide +kernel
theorem dX7_add_74 : decode cX7_add 74 = .ok (.getfield 19, 3) := by decide +kernel
theorem dX7_add_77 : decode cX7_add 77 = .ok (.iload_n 1, 1) := by decide +kernel
theorem dX7_add_78 : decode cX7_add 78 = .ok (.dup2, 1) := by decide +kernel
theorem dX7_add_79 : decode cX7_add 79 = .ok (.iaload, 1) := by decide +kernel
theorem dX7_add_80 : decode cX7_add 80 = .ok (.iconst 1, 1) := by decide +kernel
theorem dX7_add_81 : decode cX7_add 81 = .ok (.iadd, 1) := by decide +kernel
theorem dX7_add_82 : decode cX7_add 82 = .ok (.iastore, 1) := by decide +kernel
theorem dX7_add_83 : decode cX7_add 83 = .ok (.aload_n 0, 1) := by decide +kernel
theorem dX7_add_84 : decode cX7_add 84 = .ok (.getfield 19, 3) := by decide +kernel
theorem dX7_add_87 : decode cX7_add 87 = .ok (.iload_n 1, 1) := by decide +kernel
theorem dX7_add_88 : decode cX7_add 88 = .ok (.iaload, 1) := by decide +kernel
theorem dX7_add_89 : decode cX7_add 89 = .ok (.iconst 1, 1) := by decide +kernel
theorem dX7_add_90 : decode cX7_add 90 = .ok (.isub, 1) := by decide +kernel
theorem dX7_add_91 : decode cX7_add 91 = .ok (.ireturn, 1) := by decide +kernel
theorem dX7_change_0 : decode cX7_change 0 = .ok (.aload_n 0, 1) := by decide +kernel
theorem dX7_change_1 : decode cX7_change 1 = .ok (.aload_n 0, 1) := by decide +kernel
theorem dX7_change_2 : decode cX7_change 2 = .ok (.iload_n 1, 1) := by decide +kernel
theorem dX7_change_3 : decode cX7_change 3 = .ok (.invokevirtual 112, 3) := by decide +kernel
theorem dX7_change_6 : decode cX7_change 6 = .ok (.ifCond .ne 17, 3) := by decide +kernel
theorem dX7_change_9 : decode cX7_change 9 = .ok (.iload_n 2, 1) := by decide +kernel
theorem dX7_change_10 : decode cX7_change 10 = .ok (.ifCond .lt 13, 3) := by decide +kernel
theorem dX7_change_13 : decode cX7_change 13 = .ok (.iload_n 2, 1) := by decide +kernel
theorem dX7_change_14 : decode cX7_change 14 = .ok (.aload_n 0, 1) := by decide +kernel
theorem dX7_change_15 : decode cX7_change 15 = .ok (.getfield 19, 3) := by decide +kernel
theorem dX7_change_18 : decode cX7_change 18 = .ok (.iload_n 1, 1) := by decide +kernel
theorem dX7_change_19 : decode cX7_change 19 = .ok (.iaload, 1) := by decide +kernel
theorem dX7_change_20 : decode cX7_change 20 = .ok (.if_icmp .lt 7, 3) := by decide +kernel
theorem dX7_change_23 : decode cX7_change 23 = .ok (.iconst 1, 1) := by decide +kernel
theorem dX7_change_24 : decode cX7_change 24 = .ok (.goto 4, 3) := by decide +kernel
theorem dX7_change_27 : decode cX7_change 27 = .ok (.iconst 0, 1) := by decide +kernel
theorem dX7_change_28 : decode cX7_change 28 = .ok (.putfield 106, 3) := by decide +kernel
theorem dX7_change_31 : decode cX7_change 31 = .ok (.aload_n 0, 1) := by decide +kernel
theorem dX7_change_32 : decode cX7_change 32 = .ok (.getfield 106, 3) := by decide +kernel
theorem dX7_change_35 : decode cX7_change 35 = .ok (.ifCond .le 5, 3) := by decide +kernel
theorem dX7_change_38 : decode cX7_change 38 = .ok (.iconst 0, 1) := by decide +kernel
theorem dX7_change_39 : decode cX7_change 39 = .ok (.ireturn, 1) := by decide +kernel
theorem dX7_change_40 : decode cX7_change 40 = .ok (.aload_n 0, 1) := by decide +kernel
theorem dX7_change_41 : decode cX7_change 41 = .ok (.getfield 22, 3) := by decide +kernel
theorem dX7_change_44 : decode cX7_change 44 = .ok (.bipush 120, 2) := by decide +kernel
theorem dX7_change_46 : decode cX7_change 46 = .ok (.iload_n 1, 1) := by decide +kernel
theorem dX7_change_47 : decode cX7_change 47 = .ok (.imul, 1) := by decide +kernel
theorem dX7_change_48 : decode cX7_change 48 = .ok (.iload_n 2, 1) := by decide +kernel
theorem dX7_change_49 : decode cX7_change 49 = .ok (.iadd, 1) := by decide +kernel
theorem dX7_change_50 : decode cX7_change 50 = .ok (.iaload, 1) := by decide +kernel
theorem dX7_change_51 : decode cX7_change 51 = .ok (.istore 6, 2) := by decide +kernel
theorem dX7_change_53 : decode cX7_change 53 = .ok (.aload_n 0, 1) := by decide +kernel
theorem dX7_change_54 : decode cX7_change 54 = .ok (.getfield 22, 3) := by decide +kernel
theorem dX7_change_57 : decode cX7_change 57 = .ok (.bipush 120, 2) := by decide +kernel
theorem dX7_change_59 : decode cX7_change 59 = .ok (.iload_n 1, 1) := by decide +kernel
theorem dX7_change_60 : decode cX7_change 60 = .ok (.imul, 1) := by decide +kernel
theorem dX7_change_61 : decode cX7_change 61 = .ok (.iload_n 2, 1) := by decide +kernel
theorem dX7_change_62 : decode cX7_change 62 = .ok (.iadd, 1) := by decide +kernel
theorem dX7_change_63 : decode cX7_change 63 = .ok (.iload_n 3, 1) := by decide +kernel
theorem dX7_change_64 : decode cX7_change 64 = .ok (.iastore, 1) := by decide +kernel
theorem dX7_change_65 : decode cX7_change 65 = .ok (.aload_n 0, 1) := by decide +kernel
theorem dX7_change_66 : decode cX7_change 66 = .ok (.getfield 25, 3) := by decide +kernel
theorem dX7_change_69 : decode cX7_change 69 = .ok (.bipush 120, 2) := by decide +kernel
theorem dX7_change_71 : decode cX7_change 71 = .ok (.iload_n 1, 1) := by decide +kernel
theorem dX7_change_72 : decode cX7_change 72 = .ok (.imul, 1) := by decide +kernel
theorem dX7_change_73 : decode cX7_change 73 = .ok (.iload_n 2, 1) := by decide +kernel
theorem dX7_change_74 : decode cX7_change 74 = .ok (.iadd, 1) := by decide +kernel
theorem dX7_change_75 : decode cX7_change 75 = .ok (.lload 4, 2) := by decide +kernel
theorem dX7_change_77 : decode cX7_change 77 = .ok (.lastore, 1) := by decide +kernel
theorem dX7_change_78 : decode cX7_change 78 = .ok (.iload 6, 2) := by decide +kernel
theorem dX7_change_80 : decode cX7_change 80 = .ok (.ireturn, 1) := by decide +kernel
theorem dX7_cost_0 : decode cX7_cost 0 = .ok (.aload_n 0, 1) := by decide +kernel
theorem dX7_cost_1 : decode cX7_cost 1 = .ok (.iload_n 1, 1) := by decide +kernel
theorem dX7_cost_2 : decode cX7_cost 2 = .ok (.ifCond .lt 9, 3) := by decide +kernel
theorem dX7_cost_5 : decode cX7_cost 5 = .ok (.iload_n 1, 1) := by decide +kernel
theorem dX7_cost_6 : decode cX7_cost 6 = .ok (.bipush 18, 2) := by decide +kernel
theorem dX7_cost_8 : decode cX7_cost 8 = .ok (.if_icmp .lt 7, 3) := by decide +kernel
theorem dX7_cost_11 : decode cX7_cost 11 = .ok (.iconst 1, 1) := by decide +kernel
theorem dX7_cost_12 : decode cX7_cost 12 = .ok (.goto 18, 3) := by decide +kernel
theorem dX7_cost_15 : decode cX7_cost 15 = .ok (.iload_n 2, 1) := by decide +kernel
theorem dX7_cost_16 : decode cX7_cost 16 = .ok (.ifCond .lt 9, 3) := by decide +kernel
theorem dX7_cost_19 : decode cX7_cost 19 = .ok (.iload_n 2, 1) := by decide +kernel
theorem dX7_cost_20 : decode cX7_cost 20 = .ok (.ldc 116, 2) := by decide +kernel
theorem dX7_cost_22 : decode cX7_cost 22 = .ok (.if_icmp .le 7, 3) := by decide +kernel
theorem dX7_cost_25 : decode cX7_cost 25 = .ok (.iconst 2, 1) := by decide +kernel
theorem dX7_cost_26 : decode cX7_cost 26 = .ok (.goto 4, 3) := by decide +kernel
theorem dX7_cost_29 : decode cX7_cost 29 = .ok (.iconst 0, 1) := by decide +kernel
theorem dX7_cost_30 : decode cX7_cost 30 = .ok (.putfield 106, 3) := by decide +kernel
theorem dX7_cost_33 : decode cX7_cost 33 = .ok (.aload_n 0, 1) := by decide +kernel
theorem dX7_cost_34 : decode cX7_cost 34 = .ok (.getfield 106, 3) := by decide +kernel
theorem dX7_cost_37 : decode cX7_cost 37 = .ok (.ifCond .le 5, 3) := by decide +kernel
theorem dX7_cost_40 : decode cX7_cost 40 = .ok (.iconst 0, 1) := by decide +kernel
theorem dX7_cost_41 : decode cX7_cost 41 = .ok (.ireturn, 1) := by decide +kernel
theorem dX7_cost_42 : decode cX7_cost 42 = .ok (.aload_n 0, 1) := by decide +kernel
theorem dX7_cost_43 : decode cX7_cost 43 = .ok (.getfield 29, 3) := by decide +kernel
theorem dX7_cost_46 : decode cX7_cost 46 = .ok (.iload_n 1, 1) := by decide +kernel
theorem dX7_cost_47 : decode cX7_cost 47 = .ok (.laload, 1) := by decide +kernel
theorem dX7_cost_48 : decode cX7_cost 48 = .ok (.l2i, 1) := by decide +kernel
theorem dX7_cost_49 : decode cX7_cost 49 = .ok (.istore_n 3, 1) := by decide +kernel
theorem dX7_cost_50 : decode cX7_cost 50 = .ok (.aload_n 0, 1) := by decide +kernel
theorem dX7_cost_51 : decode cX7_cost 51 = .ok (.getfield 29, 3) := by decide +kernel
theorem dX7_cost_54 : decode cX7_cost 54 = .ok (.iload_n 1, 1) := by decide +kernel
theorem dX7_cost_55 : decode cX7_cost 55 = .ok (.iload_n 2, 1) := by decide +kernel
theorem dX7_cost_56 : decode cX7_cost 56 = .ok (.i2l, 1) := by decide +kernel
theorem dX7_cost_57 : decode cX7_cost 57 = .ok (.lastore, 1) := by decide +kernel
theorem dX7_cost_58 : decode cX7_cost 58 = .ok (.iload_n 3, 1) := by decide +kernel
theorem dX7_cost_59 : decode cX7_cost 59 = .ok (.ireturn, 1) := by decide +kernel
theorem dX7_fault_0 : decode cX7_fault 0 = .ok (.aload_n 0, 1) := by decide +kernel
theorem dX7_fault_1 : decode cX7_fault 1 = .ok (.getfield 48, 3) := by decide +kernel
theorem dX7_fault_4 : decode cX7_fault 4 = .ok (.iload_n 1, 1) := by decide +kernel
theorem dX7_fault_5 : decode cX7_fault 5 = .ok (.iaload, 1) := by decide +kernel
theorem dX7_fault_6 : decode cX7_fault 6 = .ok (.ifCond .ne 17, 3) := by decide +kernel
theorem dX7_fault_9 : decode cX7_fault 9 = .ok (.aload_n 0, 1) := by decide +kernel
theorem dX7_fault_10 : decode cX7_fault 10 = .ok (.getfield 48, 3) := by decide +kernel
theorem dX7_fault_13 : decode cX7_fault 13 = .ok (.iload_n 1, 1) := by decide +kernel
theorem dX7_fault_14 : decode cX7_fault 14 = .ok (.iload_n 2, 1) := by decide +kernel
theorem dX7_fault_15 : decode cX7_fault 15 = .ok (.iastore, 1) := by decide +kernel
theorem dX7_fault_16 : decode cX7_fault 16 = .ok (.aload_n 0, 1) := by decide +kernel
theorem dX7_fault_17 : decode cX7_fault 17 = .ok (.getfield 51, 3) := by decide +kernel
theorem dX7_fault_20 : decode cX7_fault 20 = .ok (.iload_n 1, 1) := by decide +kernel
theorem dX7_fault_21 : decode cX7_fault 21 = .ok (.iload_n 3, 1) := by decide +kernel
theorem dX7_fault_22 : decode cX7_fault 22 = .ok (.iastore, 1) := by decide +kernel
theorem dX7_fault_23 : decode cX7_fault 23 = .ok (.return_, 1) := by decide +kernel
theorem dX7_brackets_0 : decode cX7_brackets 0 = .ok (.iconst (-1), 1) := by decide +kernel
theorem dX7_brackets_1 : decode cX7_brackets 1 = .ok (.istore_n 2, 1) := by decide +kernel
theorem dX7_brackets_2 : decode cX7_brackets 2 = .ok (.iconst 0, 1) := by decide +kernel
theorem dX7_brackets_3 : decode cX7_brackets 3 = .ok (.istore_n 3, 1) := by decide +kernel
theorem dX7_brackets_4 : decode cX7_brackets 4 = .ok (.iload_n 3, 1) := by decide +kernel
theorem dX7_brackets_5 : decode cX7_brackets 5 = .ok (.aload_n 0, 1) := by decide +kernel
theorem dX7_brackets_6 : decode cX7_brackets 6 = .ok (.getfield 19, 3) := by decide +kernel
theorem dX7_brackets_9 : decode cX7_brackets 9 = .ok (.iload_n 1, 1) := by decide +kernel
theorem dX7_brackets_10 : decode cX7_brackets 10 = .ok (.iaload, 1) := by decide +kernel
theorem dX7_brackets_11 : decode cX7_brackets 11 = .ok (.if_icmp .ge 126, 3) := by decide +kernel
theorem dX7_brackets_14 : decode cX7_brackets 14 = .ok (.bipush 120, 2) := by decide +kernel
theorem dX7_brackets_16 : decode cX7_brackets 16 = .ok (.iload_n 1, 1) := by decide +kernel
theorem dX7_brackets_17 : decode cX7_brackets 17 = .ok (.imul, 1) := by decide +kernel
theorem dX7_brackets_18 : decode cX7_brackets 18 = .ok (.iload_n 3, 1) := by decide +kernel
theorem dX7_brackets_19 : decode cX7_brackets 19 = .ok (.iadd, 1) := by decide +kernel
theorem dX7_brackets_20 : decode cX7_brackets 20 = .ok (.istore 4, 2) := by decide +kernel
theorem dX7_brackets_22 : decode cX7_brackets 22 = .ok (.aload_n 0, 1) := by decide +kernel
theorem dX7_brackets_23 : decode cX7_brackets 23 = .ok (.getfield 39, 3) := by decide +kernel
theorem dX7_brackets_26 : decode cX7_brackets 26 = .ok (.iload 4, 2) := by decide +kernel
theorem dX7_brackets_28 : decode cX7_brackets 28 = .ok (.iload_n 2, 1) := by decide +kernel
theorem dX7_brackets_29 : decode cX7_brackets 29 = .ok (.iastore, 1) := by decide +kernel
theorem dX7_brackets_30 : decode cX7_brackets 30 = .ok (.aload_n 0, 1) := by decide +kernel
theorem dX7_brackets_31 : decode cX7_brackets 31 = .ok (.getfield 42, 3) := by decide +kernel
theorem dX7_brackets_34 : decode cX7_brackets 34 = .ok (.iload 4, 2) := by decide +kernel
theorem dX7_brackets_36 : decode cX7_brackets 36 = .ok (.iconst (-1), 1) := by decide +kernel
theorem dX7_brackets_37 : decode cX7_brackets 37 = .ok (.iastore, 1) := by decide +kernel
theorem dX7_brackets_38 : decode cX7_brackets 38 = .ok (.aload_n 0, 1) := by decide +kernel
theorem dX7_brackets_39 : decode cX7_brackets 39 = .ok (.getfield 45, 3) := by decide +kernel
theorem dX7_brackets_42 : decode cX7_brackets 42 = .ok (.iload 4, 2) := by decide +kernel
theorem dX7_brackets_44 : decode cX7_brackets 44 = .ok (.iload_n 2, 1) := by decide +kernel
theorem dX7_brackets_45 : decode cX7_brackets 45 = .ok (.ifCond .ge 7, 3) := by decide +kernel
theorem dX7_brackets_48 : decode cX7_brackets 48 = .ok (.iconst 0, 1) := by decide +kernel
theorem dX7_brackets_49 : decode cX7_brackets 49 = .ok (.goto 16, 3) := by decide +kernel
theorem dX7_brackets_52 : decode cX7_brackets 52 = .ok (.aload_n 0, 1) := by decide +kernel
theorem dX7_brackets_53 : decode cX7_brackets 53 = .ok (.getfield 45, 3) := by decide +kernel
theorem dX7_brackets_56 : decode cX7_brackets 56 = .ok (.bipush 120, 2) := by decide +kernel
theorem dX7_brackets_58 : decode cX7_brackets 58 = .ok (.iload_n 1, 1) := by decide +kernel
theorem dX7_brackets_59 : decode cX7_brackets 59 = .ok (.imul, 1) := by decide +kernel
theorem dX7_brackets_60 : decode cX7_brackets 60 = .ok (.iload_n 2, 1) := by decide +kernel
theorem dX7_brackets_61 : decode cX7_brackets 61 = .ok (.iadd, 1) := by decide +kernel
theorem dX7_brackets_62 : decode cX7_brackets 62 = .ok (.iaload, 1) := by decide +kernel
theorem dX7_brackets_63 : decode cX7_brackets 63 = .ok (.iconst 1, 1) := by decide +kernel
theorem dX7_brackets_64 : decode cX7_brackets 64 = .ok (.iadd, 1) := by decide +kernel
theorem dX7_brackets_65 : decode cX7_brackets 65 = .ok (.iastore, 1) := by decide +kernel
theorem dX7_brackets_66 : decode cX7_brackets 66 = .ok (.aload_n 0, 1) := by decide +kernel
theorem dX7_brackets_67 : decode cX7_brackets 67 = .ok (.getfield 22, 3) := by decide +kernel
theorem dX7_brackets_70 : decode cX7_brackets 70 = .ok (.iload 4, 2) := by decide +kernel
theorem dX7_brackets_72 : decode cX7_brackets 72 = .ok (.iaload, 1) := by decide +kernel
theorem dX7_brackets_73 : decode cX7_brackets 73 = .ok (.bipush 14, 2) := by decide +kernel
theorem dX7_brackets_75 : decode cX7_brackets 75 = .ok (.if_icmp .ne 8, 3) := by decide +kernel
theorem dX7_brackets_78 : decode cX7_brackets 78 = .ok (.iload_n 3, 1) := by decide +kernel
theorem dX7_brackets_79 : decode cX7_brackets 79 = .ok (.istore_n 2, 1) := by decide +kernel
theorem dX7_brackets_80 : decode cX7_brackets 80 = .ok (.goto 51, 3) := by decide +kernel
theorem dX7_brackets_83 : decode cX7_brackets 83 = .ok (.aload_n 0, 1) := by decide +kernel
theorem dX7_brackets_84 : decode cX7_brackets 84 = .ok (.getfield 22, 3) := by decide +kernel
theorem dX7_brackets_87 : decode cX7_brackets 87 = .ok (.iload 4, 2) := by decide +kernel
theorem dX7_brackets_89 : decode cX7_brackets 89 = .ok (.iaload, 1) := by decide +kernel
theorem dX7_brackets_90 : decode cX7_brackets 90 = .ok (.bipush 15, 2) := by decide +kernel
theorem dX7_brackets_92 : decode cX7_brackets 92 = .ok (.if_icmp .ne 39, 3) := by decide +kernel
theorem dX7_brackets_95 : decode cX7_brackets 95 = .ok (.iload_n 2, 1) := by decide +kernel
theorem dX7_brackets_96 : decode cX7_brackets 96 = .ok (.ifCond .lt 35, 3) := by decide +kernel
theorem dX7_brackets_99 : decode cX7_brackets 99 = .ok (.aload_n 0, 1) := by decide +kernel
theorem dX7_brackets_100 : decode cX7_brackets 100 = .ok (.getfield 42, 3) := by decide +kernel
theorem dX7_brackets_103 : decode cX7_brackets 103 = .ok (.iload 4, 2) := by decide +kernel
theorem dX7_brackets_105 : decode cX7_brackets 105 = .ok (.iload_n 2, 1) := by decide +kernel
theorem dX7_brackets_106 : decode cX7_brackets 106 = .ok (.iastore, 1) := by decide +kernel
theorem dX7_brackets_107 : decode cX7_brackets 107 = .ok (.aload_n 0, 1) := by decide +kernel
theorem dX7_brackets_108 : decode cX7_brackets 108 = .ok (.getfield 42, 3) := by decide +kernel
theorem dX7_brackets_111 : decode cX7_brackets 111 = .ok (.bipush 120, 2) := by decide +kernel
theorem dX7_brackets_113 : decode cX7_brackets 113 = .ok (.iload_n 1, 1) := by decide +kernel
theorem dX7_brackets_114 : decode cX7_brackets 114 = .ok (.imul, 1) := by decide +kernel
theorem dX7_brackets_115 : decode cX7_brackets 115 = .ok (.iload_n 2, 1) := by decide +kernel
theorem dX7_brackets_116 : decode cX7_brackets 116 = .ok (.iadd, 1) := by decide +kernel
theorem dX7_brackets_117 : decode cX7_brackets 117 = .ok (.iload_n 3, 1) := by decide +kernel
theorem dX7_brackets_118 : decode cX7_brackets 118 = .ok (.iastore, 1) := by decide +kernel
theorem dX7_brackets_119 : decode cX7_brackets 119 = .ok (.aload_n 0, 1) := by decide +kernel
theorem dX7_brackets_120 : decode cX7_brackets 120 = .ok (.getfield 39, 3) := by decide +kernel
theorem dX7_brackets_123 : decode cX7_brackets 123 = .ok (.bipush 120, 2) := by decide +kernel
theorem dX7_brackets_125 : decode cX7_brackets 125 = .ok (.iload_n 1, 1) := by decide +kernel
theorem dX7_brackets_126 : decode cX7_brackets 126 = .ok (.imul, 1) := by decide +kernel
theorem dX7_brackets_127 : decode cX7_brackets 127 = .ok (.iload_n 2, 1) := by decide +kernel
theorem dX7_brackets_128 : decode cX7_brackets 128 = .ok (.iadd, 1) := by decide +kernel
theorem dX7_brackets_129 : decode cX7_brackets 129 = .ok (.iaload, 1) := by decide +kernel
theorem dX7_brackets_130 : decode cX7_brackets 130 = .ok (.istore_n 2, 1) := by decide +kernel
theorem dX7_brackets_131 : decode cX7_brackets 131 = .ok (.iinc 3 1, 3) := by decide +kernel
theorem dX7_brackets_134 : decode cX7_brackets 134 = .ok (.goto (-130), 3) := by decide +kernel
theorem dX7_brackets_137 : decode cX7_brackets 137 = .ok (.return_, 1) := by decide +kernel
theorem dX7_badArg_0 : decode cX7_badArg 0 = .ok (.bipush 120, 2) := by decide +kernel
theorem dX7_badArg_2 : decode cX7_badArg 2 = .ok (.iload_n 1, 1) := by decide +kernel
theorem dX7_badArg_3 : decode cX7_badArg 3 = .ok (.imul, 1) := by decide +kernel
theorem dX7_badArg_4 : decode cX7_badArg 4 = .ok (.iload_n 2, 1) := by decide +kernel
theorem dX7_badArg_5 : decode cX7_badArg 5 = .ok (.iadd, 1) := by decide +kernel
theorem dX7_badArg_6 : decode cX7_badArg 6 = .ok (.istore_n 3, 1) := by decide +kernel
theorem dX7_badArg_7 : decode cX7_badArg 7 = .ok (.aload_n 0, 1) := by decide +kernel
theorem dX7_badArg_8 : decode cX7_badArg 8 = .ok (.getfield 25, 3) := by decide +kernel
theorem dX7_badArg_11 : decode cX7_badArg 11 = .ok (.iload_n 3, 1) := by decide +kernel
theorem dX7_badArg_12 : decode cX7_badArg 12 = .ok (.laload, 1) := by decide +kernel
theorem dX7_badArg_13 : decode cX7_badArg 13 = .ok (.lstore 4, 2) := by decide +kernel
theorem dX7_badArg_15 : decode cX7_badArg 15 = .ok (.aload_n 0, 1) := by decide +kernel
theorem dX7_badArg_16 : decode cX7_badArg 16 = .ok (.getfield 22, 3) := by decide +kernel
theorem dX7_badArg_19 : decode cX7_badArg 19 = .ok (.iload_n 3, 1) := by decide +kernel
theorem dX7_badArg_20 : decode cX7_badArg 20 = .ok (.iaload, 1) := by decide +kernel
theorem dX7_badArg_21 : decode cX7_badArg 21 = .ok (.tableswitch 182 0 16 #[83, 182, 182, 182, 182, 182, 182, 182, 182, 85, 85, 111, 133, 133, 160, 182, 83], 83) := by decide +kernel
theorem dX7_badArg_104 : decode cX7_badArg 104 = .ok (.iconst 0, 1) := by decide +kernel
theorem dX7_badArg_105 : decode cX7_badArg 105 = .ok (.ireturn, 1) := by decide +kernel
theorem dX7_badArg_106 : decode cX7_badArg 106 = .ok (.lload 4, 2) := by decide +kernel
theorem dX7_badArg_108 : decode cX7_badArg 108 = .ok (.lconst 0, 1) := by decide +kernel
theorem dX7_badArg_109 : decode cX7_badArg 109 = .ok (.lcmp, 1) := by decide +kernel
theorem dX7_badArg_110 : decode cX7_badArg 110 = .ok (.ifCond .lt 16, 3) := by decide +kernel
theorem dX7_badArg_113 : decode cX7_badArg 113 = .ok (.lload 4, 2) := by decide +kernel
theorem dX7_badArg_115 : decode cX7_badArg 115 = .ok (.aload_n 0, 1) := by decide +kernel
theorem dX7_badArg_116 : decode cX7_badArg 116 = .ok (.getfield 16, 3) := by decide +kernel
theorem dX7_badArg_119 : decode cX7_badArg 119 = .ok (.iload_n 1, 1) := by decide +kernel
theorem dX7_badArg_120 : decode cX7_badArg 120 = .ok (.iaload, 1) := by decide +kernel
theorem dX7_badArg_121 : decode cX7_badArg 121 = .ok (.i2l, 1) := by decide +kernel
theorem dX7_badArg_122 : decode cX7_badArg 122 = .ok (.lcmp, 1) := by decide +kernel
theorem dX7_badArg_123 : decode cX7_badArg 123 = .ok (.ifCond .lt 7, 3) := by decide +kernel
theorem dX7_badArg_126 : decode cX7_badArg 126 = .ok (.iconst 1, 1) := by decide +kernel
theorem dX7_badArg_127 : decode cX7_badArg 127 = .ok (.goto 4, 3) := by decide +kernel
theorem dX7_badArg_130 : decode cX7_badArg 130 = .ok (.iconst 0, 1) := by decide +kernel
theorem dX7_badArg_131 : decode cX7_badArg 131 = .ok (.ireturn, 1) := by decide +kernel
theorem dX7_badArg_132 : decode cX7_badArg 132 = .ok (.lload 4, 2) := by decide +kernel
theorem dX7_badArg_134 : decode cX7_badArg 134 = .ok (.lconst 0, 1) := by decide +kernel
theorem dX7_badArg_135 : decode cX7_badArg 135 = .ok (.lcmp, 1) := by decide +kernel
theorem dX7_badArg_136 : decode cX7_badArg 136 = .ok (.ifCond .lt 12, 3) := by decide +kernel
theorem dX7_badArg_139 : decode cX7_badArg 139 = .ok (.lload 4, 2) := by decide +kernel
theorem dX7_badArg_141 : decode cX7_badArg 141 = .ok (.ldc2_w 117, 3) := by decide +kernel
theorem dX7_badArg_144 : decode cX7_badArg 144 = .ok (.lcmp, 1) := by decide +kernel
theorem dX7_badArg_145 : decode cX7_badArg 145 = .ok (.ifCond .le 7, 3) := by decide +kernel
theorem dX7_badArg_148 : decode cX7_badArg 148 = .ok (.iconst 1, 1) := by decide +kernel
theorem dX7_badArg_149 : decode cX7_badArg 149 = .ok (.goto 4, 3) := by decide +kernel
theorem dX7_badArg_152 : decode cX7_badArg 152 = .ok (.iconst 0, 1) := by decide +kernel
theorem dX7_badArg_153 : decode cX7_badArg 153 = .ok (.ireturn, 1) := by decide +kernel
theorem dX7_badArg_154 : decode cX7_badArg 154 = .ok (.lload 4, 2) := by decide +kernel
theorem dX7_badArg_156 : decode cX7_badArg 156 = .ok (.iload_n 2, 1) := by decide +kernel
theorem dX7_badArg_157 : decode cX7_badArg 157 = .ok (.i2l, 1) := by decide +kernel
theorem dX7_badArg_158 : decode cX7_badArg 158 = .ok (.lcmp, 1) := by decide +kernel
theorem dX7_badArg_159 : decode cX7_badArg 159 = .ok (.ifCond .le 16, 3) := by decide +kernel
theorem dX7_badArg_162 : decode cX7_badArg 162 = .ok (.lload 4, 2) := by decide +kernel
theorem dX7_badArg_164 : decode cX7_badArg 164 = .ok (.aload_n 0, 1) := by decide +kernel
theorem dX7_badArg_165 : decode cX7_badArg 165 = .ok (.getfield 19, 3) := by decide +kernel
theorem dX7_badArg_168 : decode cX7_badArg 168 = .ok (.iload_n 1, 1) := by decide +kernel
theorem dX7_badArg_169 : decode cX7_badArg 169 = .ok (.iaload, 1) := by decide +kernel
theorem dX7_badArg_170 : decode cX7_badArg 170 = .ok (.i2l, 1) := by decide +kernel
theorem dX7_badArg_171 : decode cX7_badArg 171 = .ok (.lcmp, 1) := by decide +kernel
theorem dX7_badArg_172 : decode cX7_badArg 172 = .ok (.ifCond .lt 7, 3) := by decide +kernel
theorem dX7_badArg_175 : decode cX7_badArg 175 = .ok (.iconst 1, 1) := by decide +kernel
theorem dX7_badArg_176 : decode cX7_badArg 176 = .ok (.goto 4, 3) := by decide +kernel
theorem dX7_badArg_179 : decode cX7_badArg 179 = .ok (.iconst 0, 1) := by decide +kernel
theorem dX7_badArg_180 : decode cX7_badArg 180 = .ok (.ireturn, 1) := by decide +kernel
theorem dX7_badArg_181 : decode cX7_badArg 181 = .ok (.lload 4, 2) := by decide +kernel
theorem dX7_badArg_183 : decode cX7_badArg 183 = .ok (.lconst 0, 1) := by decide +kernel
theorem dX7_badArg_184 : decode cX7_badArg 184 = .ok (.lcmp, 1) := by decide +kernel
theorem dX7_badArg_185 : decode cX7_badArg 185 = .ok (.ifCond .lt 12, 3) := by decide +kernel
theorem dX7_badArg_188 : decode cX7_badArg 188 = .ok (.lload 4, 2) := by decide +kernel
theorem dX7_badArg_190 : decode cX7_badArg 190 = .ok (.ldc2_w 119, 3) := by decide +kernel
theorem dX7_badArg_193 : decode cX7_badArg 193 = .ok (.lcmp, 1) := by decide +kernel
theorem dX7_badArg_194 : decode cX7_badArg 194 = .ok (.ifCond .le 7, 3) := by decide +kernel
theorem dX7_badArg_197 : decode cX7_badArg 197 = .ok (.iconst 1, 1) := by decide +kernel
theorem dX7_badArg_198 : decode cX7_badArg 198 = .ok (.goto 4, 3) := by decide +kernel
theorem dX7_badArg_201 : decode cX7_badArg 201 = .ok (.iconst 0, 1) := by decide +kernel
theorem dX7_badArg_202 : decode cX7_badArg 202 = .ok (.ireturn, 1) := by decide +kernel
theorem dX7_badArg_203 : decode cX7_badArg 203 = .ok (.lload 4, 2) := by decide +kernel
theorem dX7_badArg_205 : decode cX7_badArg 205 = .ok (.lconst 0, 1) := by decide +kernel
theorem dX7_badArg_206 : decode cX7_badArg 206 = .ok (.lcmp, 1) := by decide +kernel
theorem dX7_badArg_207 : decode cX7_badArg 207 = .ok (.ifCond .eq 7, 3) := by decide +kernel
theorem dX7_badArg_210 : decode cX7_badArg 210 = .ok (.iconst 1, 1) := by decide +kernel
theorem dX7_badArg_211 : decode cX7_badArg 211 = .ok (.goto 4, 3) := by decide +kernel
theorem dX7_badArg_214 : decode cX7_badArg 214 = .ok (.iconst 0, 1) := by decide +kernel
theorem dX7_badArg_215 : decode cX7_badArg 215 = .ok (.ireturn, 1) := by decide +kernel
theorem dX7_forms_0 : decode cX7_forms 0 = .ok (.aload_n 0, 1) := by decide +kernel
theorem dX7_forms_1 : decode cX7_forms 1 = .ok (.iload_n 1, 1) := by decide +kernel
theorem dX7_forms_2 : decode cX7_forms 2 = .ok (.invokevirtual 121, 3) := by decide +kernel
theorem dX7_forms_5 : decode cX7_forms 5 = .ok (.iconst 0, 1) := by decide +kernel
theorem dX7_forms_6 : decode cX7_forms 6 = .ok (.istore_n 2, 1) := by decide +kernel
theorem dX7_forms_7 : decode cX7_forms 7 = .ok (.iload_n 2, 1) := by decide +kernel
theorem dX7_forms_8 : decode cX7_forms 8 = .ok (.aload_n 0, 1) := by decide +kernel
theorem dX7_forms_9 : decode cX7_forms 9 = .ok (.getfield 19, 3) := by decide +kernel
theorem dX7_forms_12 : decode cX7_forms 12 = .ok (.iload_n 1, 1) := by decide +kernel
theorem dX7_forms_13 : decode cX7_forms 13 = .ok (.iaload, 1) := by decide +kernel
theorem dX7_forms_14 : decode cX7_forms 14 = .ok (.if_icmp .ge 241, 3) := by decide +kernel
theorem dX7_forms_17 : decode cX7_forms 17 = .ok (.aload_n 0, 1) := by decide +kernel
theorem dX7_forms_18 : decode cX7_forms 18 = .ok (.getfield 48, 3) := by decide +kernel
theorem dX7_forms_21 : decode cX7_forms 21 = .ok (.iload_n 1, 1) := by decide +kernel
theorem dX7_forms_22 : decode cX7_forms 22 = .ok (.iaload, 1) := by decide +kernel
theorem dX7_forms_23 : decode cX7_forms 23 = .ok (.ifCond .ne 232, 3) := by decide +kernel
theorem dX7_forms_26 : decode cX7_forms 26 = .ok (.bipush 120, 2) := by decide +kernel
theorem dX7_forms_28 : decode cX7_forms 28 = .ok (.iload_n 1, 1) := by decide +kernel
theorem dX7_forms_29 : decode cX7_forms 29 = .ok (.imul, 1) := by decide +kernel
theorem dX7_forms_30 : decode cX7_forms 30 = .ok (.iload_n 2, 1) := by decide +kernel
theorem dX7_forms_31 : decode cX7_forms 31 = .ok (.iadd, 1) := by decide +kernel
theorem dX7_forms_32 : decode cX7_forms 32 = .ok (.istore_n 3, 1) := by decide +kernel
theorem dX7_forms_33 : decode cX7_forms 33 = .ok (.aload_n 0, 1) := by decide +kernel
theorem dX7_forms_34 : decode cX7_forms 34 = .ok (.getfield 22, 3) := by decide +kernel
theorem dX7_forms_37 : decode cX7_forms 37 = .ok (.iload_n 3, 1) := by decide +kernel
theorem dX7_forms_38 : decode cX7_forms 38 = .ok (.iaload, 1) := by decide +kernel
theorem dX7_forms_39 : decode cX7_forms 39 = .ok (.bipush 12, 2) := by decide +kernel
theorem dX7_forms_41 : decode cX7_forms 41 = .ok (.if_icmp .eq 14, 3) := by decide +kernel
theorem dX7_forms_44 : decode cX7_forms 44 = .ok (.aload_n 0, 1) := by decide +kernel
theorem dX7_forms_45 : decode cX7_forms 45 = .ok (.getfield 22, 3) := by decide +kernel
theorem dX7_forms_48 : decode cX7_forms 48 = .ok (.iload_n 3, 1) := by decide +kernel
theorem dX7_forms_49 : decode cX7_forms 49 = .ok (.iaload, 1) := by decide +kernel
theorem dX7_forms_50 : decode cX7_forms 50 = .ok (.bipush 13, 2) := by decide +kernel
theorem dX7_forms_52 : decode cX7_forms 52 = .ok (.if_icmp .ne 7, 3) := by decide +kernel
theorem dX7_forms_55 : decode cX7_forms 55 = .ok (.iconst 1, 1) := by decide +kernel
theorem dX7_forms_56 : decode cX7_forms 56 = .ok (.goto 4, 3) := by decide +kernel
theorem dX7_forms_59 : decode cX7_forms 59 = .ok (.iconst 0, 1) := by decide +kernel
theorem dX7_forms_60 : decode cX7_forms 60 = .ok (.istore 4, 2) := by decide +kernel
theorem dX7_forms_62 : decode cX7_forms 62 = .ok (.aload_n 0, 1) := by decide +kernel
theorem dX7_forms_63 : decode cX7_forms 63 = .ok (.getfield 22, 3) := by decide +kernel
theorem dX7_forms_66 : decode cX7_forms 66 = .ok (.iload_n 3, 1) := by decide +kernel
theorem dX7_forms_67 : decode cX7_forms 67 = .ok (.iaload, 1) := by decide +kernel
theorem dX7_forms_68 : decode cX7_forms 68 = .ok (.ifCond .lt 23, 3) := by decide +kernel
theorem dX7_forms_71 : decode cX7_forms 71 = .ok (.aload_n 0, 1) := by decide +kernel
theorem dX7_forms_72 : decode cX7_forms 72 = .ok (.getfield 22, 3) := by decide +kernel
theorem dX7_forms_75 : decode cX7_forms 75 = .ok (.iload_n 3, 1) := by decide +kernel
theorem dX7_forms_76 : decode cX7_forms 76 = .ok (.iaload, 1) := by decide +kernel
theorem dX7_forms_77 : decode cX7_forms 77 = .ok (.bipush 18, 2) := by decide +kernel
theorem dX7_forms_79 : decode cX7_forms 79 = .ok (.if_icmp .ge 12, 3) := by decide +kernel
theorem dX7_forms_82 : decode cX7_forms 82 = .ok (.aload_n 0, 1) := by decide +kernel
theorem dX7_forms_83 : decode cX7_forms 83 = .ok (.iload_n 1, 1) := by decide +kernel
theorem dX7_forms_84 : decode cX7_forms 84 = .ok (.iload_n 2, 1) := by decide +kernel
theorem dX7_forms_85 : decode cX7_forms 85 = .ok (.invokevirtual 125, 3) := by decide +kernel
theorem dX7_forms_88 : decode cX7_forms 88 = .ok (.ifCond .eq 13, 3) := by decide +kernel
theorem dX7_forms_91 : decode cX7_forms 91 = .ok (.aload_n 0, 1) := by decide +kernel
theorem dX7_forms_92 : decode cX7_forms 92 = .ok (.iload_n 1, 1) := by decide +kernel
theorem dX7_forms_93 : decode cX7_forms 93 = .ok (.iconst 1, 1) := by decide +kernel
theorem dX7_forms_94 : decode cX7_forms 94 = .ok (.iload_n 2, 1) := by decide +kernel
theorem dX7_forms_95 : decode cX7_forms 95 = .ok (.invokevirtual 129, 3) := by decide +kernel
theorem dX7_forms_98 : decode cX7_forms 98 = .ok (.goto 151, 3) := by decide +kernel
theorem dX7_forms_101 : decode cX7_forms 101 = .ok (.aload_n 0, 1) := by decide +kernel
theorem dX7_forms_102 : decode cX7_forms 102 = .ok (.getfield 22, 3) := by decide +kernel
theorem dX7_forms_105 : decode cX7_forms 105 = .ok (.iload_n 3, 1) := by decide +kernel
theorem dX7_forms_106 : decode cX7_forms 106 = .ok (.iaload, 1) := by decide +kernel
theorem dX7_forms_107 : decode cX7_forms 107 = .ok (.bipush 14, 2) := by decide +kernel
theorem dX7_forms_109 : decode cX7_forms 109 = .ok (.if_icmp .eq 14, 3) := by decide +kernel
theorem dX7_forms_112 : decode cX7_forms 112 = .ok (.aload_n 0, 1) := by decide +kernel
theorem dX7_forms_113 : decode cX7_forms 113 = .ok (.getfield 22, 3) := by decide +kernel
theorem dX7_forms_116 : decode cX7_forms 116 = .ok (.iload_n 3, 1) := by decide +kernel
theorem dX7_forms_117 : decode cX7_forms 117 = .ok (.iaload, 1) := by decide +kernel
theorem dX7_forms_118 : decode cX7_forms 118 = .ok (.bipush 15, 2) := by decide +kernel
theorem dX7_forms_120 : decode cX7_forms 120 = .ok (.if_icmp .ne 12, 3) := by decide +kernel
theorem dX7_forms_123 : decode cX7_forms 123 = .ok (.aload_n 0, 1) := by decide +kernel
theorem dX7_forms_124 : decode cX7_forms 124 = .ok (.getfield 42, 3) := by decide +kernel
theorem dX7_forms_127 : decode cX7_forms 127 = .ok (.iload_n 3, 1) := by decide +kernel
theorem dX7_forms_128 : decode cX7_forms 128 = .ok (.iaload, 1) := by decide +kernel
theorem dX7_forms_129 : decode cX7_forms 129 = .ok (.ifCond .lt 25, 3) := by decide +kernel
theorem dX7_forms_132 : decode cX7_forms 132 = .ok (.aload_n 0, 1) := by decide +kernel
theorem dX7_forms_133 : decode cX7_forms 133 = .ok (.getfield 22, 3) := by decide +kernel
theorem dX7_forms_136 : decode cX7_forms 136 = .ok (.iload_n 3, 1) := by decide +kernel
theorem dX7_forms_137 : decode cX7_forms 137 = .ok (.iaload, 1) := by decide +kernel
theorem dX7_forms_138 : decode cX7_forms 138 = .ok (.bipush 14, 2) := by decide +kernel
theorem dX7_forms_140 : decode cX7_forms 140 = .ok (.if_icmp .ne 24, 3) := by decide +kernel
theorem dX7_forms_143 : decode cX7_forms 143 = .ok (.aload_n 0, 1) := by decide +kernel
theorem dX7_forms_144 : decode cX7_forms 144 = .ok (.getfield 45, 3) := by decide +kernel
theorem dX7_forms_147 : decode cX7_forms 147 = .ok (.iload_n 3, 1) := by decide +kernel
theorem dX7_forms_148 : decode cX7_forms 148 = .ok (.iaload, 1) := by decide +kernel
theorem dX7_forms_149 : decode cX7_forms 149 = .ok (.bipush 8, 2) := by decide +kernel
theorem dX7_forms_151 : decode cX7_forms 151 = .ok (.if_icmp .lt 13, 3) := by decide +kernel
theorem dX7_forms_154 : decode cX7_forms 154 = .ok (.aload_n 0, 1) := by decide +kernel
theorem dX7_forms_155 : decode cX7_forms 155 = .ok (.iload_n 1, 1) := by decide +kernel
theorem dX7_forms_156 : decode cX7_forms 156 = .ok (.iconst 2, 1) := by decide +kernel
theorem dX7_forms_157 : decode cX7_forms 157 = .ok (.iload_n 2, 1) := by decide +kernel
theorem dX7_forms_158 : decode cX7_forms 158 = .ok (.invokevirtual 129, 3) := by decide +kernel
theorem dX7_forms_161 : decode cX7_forms 161 = .ok (.goto 88, 3) := by decide +kernel
theorem dX7_forms_164 : decode cX7_forms 164 = .ok (.iload 4, 2) := by decide +kernel
theorem dX7_forms_166 : decode cX7_forms 166 = .ok (.ifCond .eq 39, 3) := by decide +kernel
theorem dX7_forms_169 : decode cX7_forms 169 = .ok (.aload_n 0, 1) := by decide +kernel
theorem dX7_forms_170 : decode cX7_forms 170 = .ok (.getfield 39, 3) := by decide +kernel
theorem dX7_forms_173 : decode cX7_forms 173 = .ok (.bipush 120, 2) := by decide +kernel
theorem dX7_forms_175 : decode cX7_forms 175 = .ok (.iload_n 1, 1) := by decide +kernel
theorem dX7_forms_176 : decode cX7_forms 176 = .ok (.imul, 1) := by decide +kernel
theorem dX7_forms_177 : decode cX7_forms 177 = .ok (.aload_n 0, 1) := by decide +kernel
theorem dX7_forms_178 : decode cX7_forms 178 = .ok (.getfield 25, 3) := by decide +kernel
theorem dX7_forms_181 : decode cX7_forms 181 = .ok (.iload_n 3, 1) := by decide +kernel
theorem dX7_forms_182 : decode cX7_forms 182 = .ok (.laload, 1) := by decide +kernel
theorem dX7_forms_183 : decode cX7_forms 183 = .ok (.l2i, 1) := by decide +kernel
theorem dX7_forms_184 : decode cX7_forms 184 = .ok (.iadd, 1) := by decide +kernel
theorem dX7_forms_185 : decode cX7_forms 185 = .ok (.iaload, 1) := by decide +kernel
theorem dX7_forms_186 : decode cX7_forms 186 = .ok (.aload_n 0, 1) := by decide +kernel
theorem dX7_forms_187 : decode cX7_forms 187 = .ok (.getfield 39, 3) := by decide +kernel
theorem dX7_forms_190 : decode cX7_forms 190 = .ok (.iload_n 3, 1) := by decide +kernel
theorem dX7_forms_191 : decode cX7_forms 191 = .ok (.iaload, 1) := by decide +kernel
theorem dX7_forms_192 : decode cX7_forms 192 = .ok (.if_icmp .eq 13, 3) := by decide +kernel
theorem dX7_forms_195 : decode cX7_forms 195 = .ok (.aload_n 0, 1) := by decide +kernel
theorem dX7_forms_196 : decode cX7_forms 196 = .ok (.iload_n 1, 1) := by decide +kernel
theorem dX7_forms_197 : decode cX7_forms 197 = .ok (.iconst 3, 1) := by decide +kernel
theorem dX7_forms_198 : decode cX7_forms 198 = .ok (.iload_n 2, 1) := by decide +kernel
theorem dX7_forms_199 : decode cX7_forms 199 = .ok (.invokevirtual 129, 3) := by decide +kernel
theorem dX7_forms_202 : decode cX7_forms 202 = .ok (.goto 47, 3) := by decide +kernel
theorem dX7_forms_205 : decode cX7_forms 205 = .ok (.aload_n 0, 1) := by decide +kernel
theorem dX7_forms_206 : decode cX7_forms 206 = .ok (.getfield 22, 3) := by decide +kernel
theorem dX7_forms_209 : decode cX7_forms 209 = .ok (.iload_n 3, 1) := by decide +kernel
theorem dX7_forms_210 : decode cX7_forms 210 = .ok (.iaload, 1) := by decide +kernel
theorem dX7_forms_211 : decode cX7_forms 211 = .ok (.bipush 16, 2) := by decide +kernel
theorem dX7_forms_213 : decode cX7_forms 213 = .ok (.if_icmp .ne 36, 3) := by decide +kernel
theorem dX7_forms_216 : decode cX7_forms 216 = .ok (.aload_n 0, 1) := by decide +kernel
theorem dX7_forms_217 : decode cX7_forms 217 = .ok (.getfield 25, 3) := by decide +kernel
theorem dX7_forms_220 : decode cX7_forms 220 = .ok (.iload_n 3, 1) := by decide +kernel
theorem dX7_forms_221 : decode cX7_forms 221 = .ok (.laload, 1) := by decide +kernel
theorem dX7_forms_222 : decode cX7_forms 222 = .ok (.lconst 0, 1) := by decide +kernel
theorem dX7_forms_223 : decode cX7_forms 223 = .ok (.lcmp, 1) := by decide +kernel
theorem dX7_forms_224 : decode cX7_forms 224 = .ok (.ifCond .lt 18, 3) := by decide +kernel
theorem dX7_forms_227 : decode cX7_forms 227 = .ok (.aload_n 0, 1) := by decide +kernel
theorem dX7_forms_228 : decode cX7_forms 228 = .ok (.getfield 25, 3) := by decide +kernel
theorem dX7_forms_231 : decode cX7_forms 231 = .ok (.iload_n 3, 1) := by decide +kernel
theorem dX7_forms_232 : decode cX7_forms 232 = .ok (.laload, 1) := by decide +kernel
theorem dX7_forms_233 : decode cX7_forms 233 = .ok (.aload_n 0, 1) := by decide +kernel
theorem dX7_forms_234 : decode cX7_forms 234 = .ok (.getfield 109, 3) := by decide +kernel
theorem dX7_forms_237 : decode cX7_forms 237 = .ok (.i2l, 1) := by decide +kernel
theorem dX7_forms_238 : decode cX7_forms 238 = .ok (.lcmp, 1) := by decide +kernel
theorem dX7_forms_239 : decode cX7_forms 239 = .ok (.ifCond .lt 10, 3) := by decide +kernel
theorem dX7_forms_242 : decode cX7_forms 242 = .ok (.aload_n 0, 1) := by decide +kernel
theorem dX7_forms_243 : decode cX7_forms 243 = .ok (.iload_n 1, 1) := by decide +kernel
theorem dX7_forms_244 : decode cX7_forms 244 = .ok (.iconst 4, 1) := by decide +kernel
theorem dX7_forms_245 : decode cX7_forms 245 = .ok (.iload_n 2, 1) := by decide +kernel
theorem dX7_forms_246 : decode cX7_forms 246 = .ok (.invokevirtual 129, 3) := by decide +kernel
theorem dX7_forms_249 : decode cX7_forms 249 = .ok (.iinc 2 1, 3) := by decide +kernel
theorem dX7_forms_252 : decode cX7_forms 252 = .ok (.goto (-245), 3) := by decide +kernel
theorem dX7_forms_255 : decode cX7_forms 255 = .ok (.return_, 1) := by decide +kernel
theorem dX7_takes_0 : decode cX7_takes 0 = .ok (.aload_n 0, 1) := by decide +kernel
theorem dX7_takes_1 : decode cX7_takes 1 = .ok (.getfield 22, 3) := by decide +kernel
theorem dX7_takes_4 : decode cX7_takes 4 = .ok (.iload_n 2, 1) := by decide +kernel
theorem dX7_takes_5 : decode cX7_takes 5 = .ok (.iaload, 1) := by decide +kernel
theorem dX7_takes_6 : decode cX7_takes 6 = .ok (.tableswitch 116 1 17 #[82, 82, 84, 84, 84, 84, 84, 84, 116, 82, 86, 116, 82, 116, 116, 96, 109], 82) := by decide +kernel
theorem dX7_takes_88 : decode cX7_takes 88 = .ok (.iconst 1, 1) := by decide +kernel
theorem dX7_takes_89 : decode cX7_takes 89 = .ok (.ireturn, 1) := by decide +kernel
theorem dX7_takes_90 : decode cX7_takes 90 = .ok (.iconst 2, 1) := by decide +kernel
theorem dX7_takes_91 : decode cX7_takes 91 = .ok (.ireturn, 1) := by decide +kernel
theorem dX7_takes_92 : decode cX7_takes 92 = .ok (.aload_n 0, 1) := by decide +kernel
theorem dX7_takes_93 : decode cX7_takes 93 = .ok (.getfield 25, 3) := by decide +kernel
theorem dX7_takes_96 : decode cX7_takes 96 = .ok (.iload_n 2, 1) := by decide +kernel
theorem dX7_takes_97 : decode cX7_takes 97 = .ok (.laload, 1) := by decide +kernel
theorem dX7_takes_98 : decode cX7_takes 98 = .ok (.l2i, 1) := by decide +kernel
theorem dX7_takes_99 : decode cX7_takes 99 = .ok (.iconst 1, 1) := by decide +kernel
theorem dX7_takes_100 : decode cX7_takes 100 = .ok (.iadd, 1) := by decide +kernel
theorem dX7_takes_101 : decode cX7_takes 101 = .ok (.ireturn, 1) := by decide +kernel
theorem dX7_takes_102 : decode cX7_takes 102 = .ok (.aload_n 0, 1) := by decide +kernel
theorem dX7_takes_103 : decode cX7_takes 103 = .ok (.getfield 7, 3) := by decide +kernel
theorem dX7_takes_106 : decode cX7_takes 106 = .ok (.aload_n 0, 1) := by decide +kernel
theorem dX7_takes_107 : decode cX7_takes 107 = .ok (.getfield 25, 3) := by decide +kernel
theorem dX7_takes_110 : decode cX7_takes 110 = .ok (.iload_n 2, 1) := by decide +kernel
theorem dX7_takes_111 : decode cX7_takes 111 = .ok (.laload, 1) := by decide +kernel
theorem dX7_takes_112 : decode cX7_takes 112 = .ok (.l2i, 1) := by decide +kernel
theorem dX7_takes_113 : decode cX7_takes 113 = .ok (.iaload, 1) := by decide +kernel
theorem dX7_takes_114 : decode cX7_takes 114 = .ok (.ireturn, 1) := by decide +kernel
theorem dX7_takes_115 : decode cX7_takes 115 = .ok (.aload_n 0, 1) := by decide +kernel
theorem dX7_takes_116 : decode cX7_takes 116 = .ok (.getfield 13, 3) := by decide +kernel
theorem dX7_takes_119 : decode cX7_takes 119 = .ok (.iload_n 1, 1) := by decide +kernel
theorem dX7_takes_120 : decode cX7_takes 120 = .ok (.iaload, 1) := by decide +kernel
theorem dX7_takes_121 : decode cX7_takes 121 = .ok (.ireturn, 1) := by decide +kernel
theorem dX7_takes_122 : decode cX7_takes 122 = .ok (.iconst 0, 1) := by decide +kernel
theorem dX7_takes_123 : decode cX7_takes 123 = .ok (.ireturn, 1) := by decide +kernel
theorem dX7_grows_0 : decode cX7_grows 0 = .ok (.aload_n 0, 1) := by decide +kernel
theorem dX7_grows_1 : decode cX7_grows 1 = .ok (.getfield 22, 3) := by decide +kernel
theorem dX7_grows_4 : decode cX7_grows 4 = .ok (.iload_n 2, 1) := by decide +kernel
theorem dX7_grows_5 : decode cX7_grows 5 = .ok (.iaload, 1) := by decide +kernel
theorem dX7_grows_6 : decode cX7_grows 6 = .ok (.tableswitch 124 0 17 #[86, 88, 86, 124, 88, 88, 88, 88, 88, 86, 88, 86, 124, 88, 124, 124, 90, 116], 86) := by decide +kernel
theorem dX7_grows_92 : decode cX7_grows 92 = .ok (.iconst 1, 1) := by decide +kernel
theorem dX7_grows_93 : decode cX7_grows 93 = .ok (.ireturn, 1) := by decide +kernel
theorem dX7_grows_94 : decode cX7_grows 94 = .ok (.iconst (-1), 1) := by decide +kernel
theorem dX7_grows_95 : decode cX7_grows 95 = .ok (.ireturn, 1) := by decide +kernel
theorem dX7_grows_96 : decode cX7_grows 96 = .ok (.aload_n 0, 1) := by decide +kernel
theorem dX7_grows_97 : decode cX7_grows 97 = .ok (.getfield 13, 3) := by decide +kernel
theorem dX7_grows_100 : decode cX7_grows 100 = .ok (.aload_n 0, 1) := by decide +kernel
theorem dX7_grows_101 : decode cX7_grows 101 = .ok (.getfield 25, 3) := by decide +kernel
theorem dX7_grows_104 : decode cX7_grows 104 = .ok (.iload_n 2, 1) := by decide +kernel
theorem dX7_grows_105 : decode cX7_grows 105 = .ok (.laload, 1) := by decide +kernel
theorem dX7_grows_106 : decode cX7_grows 106 = .ok (.l2i, 1) := by decide +kernel
theorem dX7_grows_107 : decode cX7_grows 107 = .ok (.iaload, 1) := by decide +kernel
theorem dX7_grows_108 : decode cX7_grows 108 = .ok (.aload_n 0, 1) := by decide +kernel
theorem dX7_grows_109 : decode cX7_grows 109 = .ok (.getfield 7, 3) := by decide +kernel
theorem dX7_grows_112 : decode cX7_grows 112 = .ok (.aload_n 0, 1) := by decide +kernel
theorem dX7_grows_113 : decode cX7_grows 113 = .ok (.getfield 25, 3) := by decide +kernel
theorem dX7_grows_116 : decode cX7_grows 116 = .ok (.iload_n 2, 1) := by decide +kernel
theorem dX7_grows_117 : decode cX7_grows 117 = .ok (.laload, 1) := by decide +kernel
theorem dX7_grows_118 : decode cX7_grows 118 = .ok (.l2i, 1) := by decide +kernel
theorem dX7_grows_119 : decode cX7_grows 119 = .ok (.iaload, 1) := by decide +kernel
theorem dX7_grows_120 : decode cX7_grows 120 = .ok (.isub, 1) := by decide +kernel
theorem dX7_grows_121 : decode cX7_grows 121 = .ok (.ireturn, 1) := by decide +kernel
theorem dX7_grows_122 : decode cX7_grows 122 = .ok (.aload_n 0, 1) := by decide +kernel
theorem dX7_grows_123 : decode cX7_grows 123 = .ok (.getfield 13, 3) := by decide +kernel
theorem dX7_grows_126 : decode cX7_grows 126 = .ok (.iload_n 1, 1) := by decide +kernel
theorem dX7_grows_127 : decode cX7_grows 127 = .ok (.iaload, 1) := by decide +kernel
theorem dX7_grows_128 : decode cX7_grows 128 = .ok (.ineg, 1) := by decide +kernel
theorem dX7_grows_129 : decode cX7_grows 129 = .ok (.ireturn, 1) := by decide +kernel
theorem dX7_grows_130 : decode cX7_grows 130 = .ok (.iconst 0, 1) := by decide +kernel
theorem dX7_grows_131 : decode cX7_grows 131 = .ok (.ireturn, 1) := by decide +kernel
theorem dX7_isOther_0 : decode cX7_isOther 0 = .ok (.iload_n 2, 1) := by decide +kernel
theorem dX7_isOther_1 : decode cX7_isOther 1 = .ok (.aload_n 0, 1) := by decide +kernel
theorem dX7_isOther_2 : decode cX7_isOther 2 = .ok (.getfield 19, 3) := by decide +kernel
theorem dX7_isOther_5 : decode cX7_isOther 5 = .ok (.iload_n 1, 1) := by decide +kernel
theorem dX7_isOther_6 : decode cX7_isOther 6 = .ok (.iaload, 1) := by decide +kernel
theorem dX7_isOther_7 : decode cX7_isOther 7 = .ok (.if_icmp .ge 36, 3) := by decide +kernel
theorem dX7_isOther_10 : decode cX7_isOther 10 = .ok (.aload_n 0, 1) := by decide +kernel
theorem dX7_isOther_11 : decode cX7_isOther 11 = .ok (.getfield 36, 3) := by decide +kernel
theorem dX7_isOther_14 : decode cX7_isOther 14 = .ok (.bipush 120, 2) := by decide +kernel
theorem dX7_isOther_16 : decode cX7_isOther 16 = .ok (.iload_n 1, 1) := by decide +kernel
theorem dX7_isOther_17 : decode cX7_isOther 17 = .ok (.imul, 1) := by decide +kernel
theorem dX7_isOther_18 : decode cX7_isOther 18 = .ok (.iload_n 2, 1) := by decide +kernel
theorem dX7_isOther_19 : decode cX7_isOther 19 = .ok (.iadd, 1) := by decide +kernel
theorem dX7_isOther_20 : decode cX7_isOther 20 = .ok (.iaload, 1) := by decide +kernel
theorem dX7_isOther_21 : decode cX7_isOther 21 = .ok (.ifCond .lt 22, 3) := by decide +kernel
theorem dX7_isOther_24 : decode cX7_isOther 24 = .ok (.aload_n 0, 1) := by decide +kernel
theorem dX7_isOther_25 : decode cX7_isOther 25 = .ok (.getfield 36, 3) := by decide +kernel
theorem dX7_isOther_28 : decode cX7_isOther 28 = .ok (.bipush 120, 2) := by decide +kernel
theorem dX7_isOther_30 : decode cX7_isOther 30 = .ok (.iload_n 1, 1) := by decide +kernel
theorem dX7_isOther_31 : decode cX7_isOther 31 = .ok (.imul, 1) := by decide +kernel
theorem dX7_isOther_32 : decode cX7_isOther 32 = .ok (.iload_n 2, 1) := by decide +kernel
theorem dX7_isOther_33 : decode cX7_isOther 33 = .ok (.iadd, 1) := by decide +kernel
theorem dX7_isOther_34 : decode cX7_isOther 34 = .ok (.iaload, 1) := by decide +kernel
theorem dX7_isOther_35 : decode cX7_isOther 35 = .ok (.iload_n 3, 1) := by decide +kernel
theorem dX7_isOther_36 : decode cX7_isOther 36 = .ok (.if_icmp .eq 7, 3) := by decide +kernel
theorem dX7_isOther_39 : decode cX7_isOther 39 = .ok (.iconst 1, 1) := by decide +kernel
theorem dX7_isOther_40 : decode cX7_isOther 40 = .ok (.goto 4, 3) := by decide +kernel
theorem dX7_isOther_43 : decode cX7_isOther 43 = .ok (.iconst 0, 1) := by decide +kernel
theorem dX7_isOther_44 : decode cX7_isOther 44 = .ok (.ireturn, 1) := by decide +kernel
theorem dX7_tell_0 : decode cX7_tell 0 = .ok (.iload_n 2, 1) := by decide +kernel
theorem dX7_tell_1 : decode cX7_tell 1 = .ok (.aload_n 0, 1) := by decide +kernel
theorem dX7_tell_2 : decode cX7_tell 2 = .ok (.getfield 19, 3) := by decide +kernel
theorem dX7_tell_5 : decode cX7_tell 5 = .ok (.iload_n 1, 1) := by decide +kernel
theorem dX7_tell_6 : decode cX7_tell 6 = .ok (.iaload, 1) := by decide +kernel
theorem dX7_tell_7 : decode cX7_tell 7 = .ok (.if_icmp .ge 15, 3) := by decide +kernel
theorem dX7_tell_10 : decode cX7_tell 10 = .ok (.aload_n 0, 1) := by decide +kernel
theorem dX7_tell_11 : decode cX7_tell 11 = .ok (.getfield 36, 3) := by decide +kernel
theorem dX7_tell_14 : decode cX7_tell 14 = .ok (.bipush 120, 2) := by decide +kernel
theorem dX7_tell_16 : decode cX7_tell 16 = .ok (.iload_n 1, 1) := by decide +kernel
theorem dX7_tell_17 : decode cX7_tell 17 = .ok (.imul, 1) := by decide +kernel
theorem dX7_tell_18 : decode cX7_tell 18 = .ok (.iload_n 2, 1) := by decide +kernel
theorem dX7_tell_19 : decode cX7_tell 19 = .ok (.iadd, 1) := by decide +kernel
theorem dX7_tell_20 : decode cX7_tell 20 = .ok (.iload_n 3, 1) := by decide +kernel
theorem dX7_tell_21 : decode cX7_tell 21 = .ok (.iastore, 1) := by decide +kernel
theorem dX7_tell_22 : decode cX7_tell 22 = .ok (.return_, 1) := by decide +kernel
theorem dX7_onward_0 : decode cX7_onward 0 = .ok (.bipush 120, 2) := by decide +kernel
theorem dX7_onward_2 : decode cX7_onward 2 = .ok (.iload_n 1, 1) := by decide +kernel
theorem dX7_onward_3 : decode cX7_onward 3 = .ok (.imul, 1) := by decide +kernel
theorem dX7_onward_4 : decode cX7_onward 4 = .ok (.iload_n 2, 1) := by decide +kernel
theorem dX7_onward_5 : decode cX7_onward 5 = .ok (.iadd, 1) := by decide +kernel
theorem dX7_onward_6 : decode cX7_onward 6 = .ok (.istore_n 3, 1) := by decide +kernel
theorem dX7_onward_7 : decode cX7_onward 7 = .ok (.aload_n 0, 1) := by decide +kernel
theorem dX7_onward_8 : decode cX7_onward 8 = .ok (.getfield 22, 3) := by decide +kernel
theorem dX7_onward_11 : decode cX7_onward 11 = .ok (.iload_n 3, 1) := by decide +kernel
theorem dX7_onward_12 : decode cX7_onward 12 = .ok (.iaload, 1) := by decide +kernel
theorem dX7_onward_13 : decode cX7_onward 13 = .ok (.bipush 12, 2) := by decide +kernel
theorem dX7_onward_15 : decode cX7_onward 15 = .ok (.if_icmp .eq 14, 3) := by decide +kernel
theorem dX7_onward_18 : decode cX7_onward 18 = .ok (.aload_n 0, 1) := by decide +kernel
theorem dX7_onward_19 : decode cX7_onward 19 = .ok (.getfield 22, 3) := by decide +kernel
theorem dX7_onward_22 : decode cX7_onward 22 = .ok (.iload_n 3, 1) := by decide +kernel
theorem dX7_onward_23 : decode cX7_onward 23 = .ok (.iaload, 1) := by decide +kernel
theorem dX7_onward_24 : decode cX7_onward 24 = .ok (.bipush 17, 2) := by decide +kernel
theorem dX7_onward_26 : decode cX7_onward 26 = .ok (.if_icmp .ne 7, 3) := by decide +kernel
theorem dX7_onward_29 : decode cX7_onward 29 = .ok (.iconst (-1), 1) := by decide +kernel
theorem dX7_onward_30 : decode cX7_onward 30 = .ok (.goto 39, 3) := by decide +kernel
theorem dX7_onward_33 : decode cX7_onward 33 = .ok (.aload_n 0, 1) := by decide +kernel
theorem dX7_onward_34 : decode cX7_onward 34 = .ok (.getfield 22, 3) := by decide +kernel
theorem dX7_onward_37 : decode cX7_onward 37 = .ok (.iload_n 3, 1) := by decide +kernel
theorem dX7_onward_38 : decode cX7_onward 38 = .ok (.iaload, 1) := by decide +kernel
theorem dX7_onward_39 : decode cX7_onward 39 = .ok (.bipush 14, 2) := by decide +kernel
theorem dX7_onward_41 : decode cX7_onward 41 = .ok (.if_icmp .ne 25, 3) := by decide +kernel
theorem dX7_onward_44 : decode cX7_onward 44 = .ok (.aload_n 0, 1) := by decide +kernel
theorem dX7_onward_45 : decode cX7_onward 45 = .ok (.getfield 25, 3) := by decide +kernel
theorem dX7_onward_48 : decode cX7_onward 48 = .ok (.iload_n 3, 1) := by decide +kernel
theorem dX7_onward_49 : decode cX7_onward 49 = .ok (.laload, 1) := by decide +kernel
theorem dX7_onward_50 : decode cX7_onward 50 = .ok (.lconst 0, 1) := by decide +kernel
theorem dX7_onward_51 : decode cX7_onward 51 = .ok (.lcmp, 1) := by decide +kernel
theorem dX7_onward_52 : decode cX7_onward 52 = .ok (.ifCond .ne 14, 3) := by decide +kernel
theorem dX7_onward_55 : decode cX7_onward 55 = .ok (.aload_n 0, 1) := by decide +kernel
theorem dX7_onward_56 : decode cX7_onward 56 = .ok (.getfield 42, 3) := by decide +kernel
theorem dX7_onward_59 : decode cX7_onward 59 = .ok (.iload_n 3, 1) := by decide +kernel
theorem dX7_onward_60 : decode cX7_onward 60 = .ok (.iaload, 1) := by decide +kernel
theorem dX7_onward_61 : decode cX7_onward 61 = .ok (.iconst 1, 1) := by decide +kernel
theorem dX7_onward_62 : decode cX7_onward 62 = .ok (.iadd, 1) := by decide +kernel
theorem dX7_onward_63 : decode cX7_onward 63 = .ok (.goto 6, 3) := by decide +kernel
theorem dX7_onward_66 : decode cX7_onward 66 = .ok (.iload_n 2, 1) := by decide +kernel
theorem dX7_onward_67 : decode cX7_onward 67 = .ok (.iconst 1, 1) := by decide +kernel
theorem dX7_onward_68 : decode cX7_onward 68 = .ok (.iadd, 1) := by decide +kernel
theorem dX7_onward_69 : decode cX7_onward 69 = .ok (.ireturn, 1) := by decide +kernel
theorem dX7_heights_0 : decode cX7_heights 0 = .ok (.iconst 0, 1) := by decide +kernel
theorem dX7_heights_1 : decode cX7_heights 1 = .ok (.istore_n 2, 1) := by decide +kernel
theorem dX7_heights_2 : decode cX7_heights 2 = .ok (.iload_n 2, 1) := by decide +kernel
theorem dX7_heights_3 : decode cX7_heights 3 = .ok (.aload_n 0, 1) := by decide +kernel
theorem dX7_heights_4 : decode cX7_heights 4 = .ok (.getfield 19, 3) := by decide +kernel
theorem dX7_heights_7 : decode cX7_heights 7 = .ok (.iload_n 1, 1) := by decide +kernel
theorem dX7_heights_8 : decode cX7_heights 8 = .ok (.iaload, 1) := by decide +kernel
theorem dX7_heights_9 : decode cX7_heights 9 = .ok (.if_icmp .ge 21, 3) := by decide +kernel
theorem dX7_heights_12 : decode cX7_heights 12 = .ok (.aload_n 0, 1) := by decide +kernel
theorem dX7_heights_13 : decode cX7_heights 13 = .ok (.getfield 36, 3) := by decide +kernel
theorem dX7_heights_16 : decode cX7_heights 16 = .ok (.bipush 120, 2) := by decide +kernel
theorem dX7_heights_18 : decode cX7_heights 18 = .ok (.iload_n 1, 1) := by decide +kernel
theorem dX7_heights_19 : decode cX7_heights 19 = .ok (.imul, 1) := by decide +kernel
theorem dX7_heights_20 : decode cX7_heights 20 = .ok (.iload_n 2, 1) := by decide +kernel
theorem dX7_heights_21 : decode cX7_heights 21 = .ok (.iadd, 1) := by decide +kernel
theorem dX7_heights_22 : decode cX7_heights 22 = .ok (.iconst (-1), 1) := by decide +kernel
theorem dX7_heights_23 : decode cX7_heights 23 = .ok (.iastore, 1) := by decide +kernel
theorem dX7_heights_24 : decode cX7_heights 24 = .ok (.iinc 2 1, 3) := by decide +kernel
theorem dX7_heights_27 : decode cX7_heights 27 = .ok (.goto (-25), 3) := by decide +kernel
theorem dX7_heights_30 : decode cX7_heights 30 = .ok (.aload_n 0, 1) := by decide +kernel
theorem dX7_heights_31 : decode cX7_heights 31 = .ok (.getfield 19, 3) := by decide +kernel
theorem dX7_heights_34 : decode cX7_heights 34 = .ok (.iload_n 1, 1) := by decide +kernel
theorem dX7_heights_35 : decode cX7_heights 35 = .ok (.iaload, 1) := by decide +kernel
theorem dX7_heights_36 : decode cX7_heights 36 = .ok (.ifCond .ne 12, 3) := by decide +kernel
theorem dX7_heights_39 : decode cX7_heights 39 = .ok (.aload_n 0, 1) := by decide +kernel
theorem dX7_heights_40 : decode cX7_heights 40 = .ok (.iload_n 1, 1) := by decide +kernel
theorem dX7_heights_41 : decode cX7_heights 41 = .ok (.bipush 9, 2) := by decide +kernel
theorem dX7_heights_43 : decode cX7_heights 43 = .ok (.iconst 0, 1) := by decide +kernel
theorem dX7_heights_44 : decode cX7_heights 44 = .ok (.invokevirtual 129, 3) := by decide +kernel
theorem dX7_heights_47 : decode cX7_heights 47 = .ok (.return_, 1) := by decide +kernel
theorem dX7_heights_48 : decode cX7_heights 48 = .ok (.aload_n 0, 1) := by decide +kernel
theorem dX7_heights_49 : decode cX7_heights 49 = .ok (.getfield 36, 3) := by decide +kernel
theorem dX7_heights_52 : decode cX7_heights 52 = .ok (.bipush 120, 2) := by decide +kernel
theorem dX7_heights_54 : decode cX7_heights 54 = .ok (.iload_n 1, 1) := by decide +kernel
theorem dX7_heights_55 : decode cX7_heights 55 = .ok (.imul, 1) := by decide +kernel
theorem dX7_heights_56 : decode cX7_heights 56 = .ok (.iconst 0, 1) := by decide +kernel
theorem dX7_heights_57 : decode cX7_heights 57 = .ok (.iastore, 1) := by decide +kernel
theorem dX7_heights_58 : decode cX7_heights 58 = .ok (.iconst 0, 1) := by decide +kernel
theorem dX7_heights_59 : decode cX7_heights 59 = .ok (.istore_n 2, 1) := by decide +kernel
theorem dX7_heights_60 : decode cX7_heights 60 = .ok (.iload_n 2, 1) := by decide +kernel
theorem dX7_heights_61 : decode cX7_heights 61 = .ok (.aload_n 0, 1) := by decide +kernel
theorem dX7_heights_62 : decode cX7_heights 62 = .ok (.getfield 19, 3) := by decide +kernel
theorem dX7_heights_65 : decode cX7_heights 65 = .ok (.iload_n 1, 1) := by decide +kernel
theorem dX7_heights_66 : decode cX7_heights 66 = .ok (.iaload, 1) := by decide +kernel
theorem dX7_heights_67 : decode cX7_heights 67 = .ok (.if_icmp .ge 315, 3) := by decide +kernel
theorem dX7_heights_70 : decode cX7_heights 70 = .ok (.aload_n 0, 1) := by decide +kernel
theorem dX7_heights_71 : decode cX7_heights 71 = .ok (.getfield 48, 3) := by decide +kernel
theorem dX7_heights_74 : decode cX7_heights 74 = .ok (.iload_n 1, 1) := by decide +kernel
theorem dX7_heights_75 : decode cX7_heights 75 = .ok (.iaload, 1) := by decide +kernel
theorem dX7_heights_76 : decode cX7_heights 76 = .ok (.ifCond .ne 306, 3) := by decide +kernel
theorem dX7_heights_79 : decode cX7_heights 79 = .ok (.bipush 120, 2) := by decide +kernel
theorem dX7_heights_81 : decode cX7_heights 81 = .ok (.iload_n 1, 1) := by decide +kernel
theorem dX7_heights_82 : decode cX7_heights 82 = .ok (.imul, 1) := by decide +kernel
theorem dX7_heights_83 : decode cX7_heights 83 = .ok (.iload_n 2, 1) := by decide +kernel
theorem dX7_heights_84 : decode cX7_heights 84 = .ok (.iadd, 1) := by decide +kernel
theorem dX7_heights_85 : decode cX7_heights 85 = .ok (.istore_n 3, 1) := by decide +kernel
theorem dX7_heights_86 : decode cX7_heights 86 = .ok (.aload_n 0, 1) := by decide +kernel
theorem dX7_heights_87 : decode cX7_heights 87 = .ok (.getfield 36, 3) := by decide +kernel
theorem dX7_heights_90 : decode cX7_heights 90 = .ok (.iload_n 3, 1) := by decide +kernel
theorem dX7_heights_91 : decode cX7_heights 91 = .ok (.iaload, 1) := by decide +kernel
theorem dX7_heights_92 : decode cX7_heights 92 = .ok (.istore 4, 2) := by decide +kernel
theorem dX7_heights_94 : decode cX7_heights 94 = .ok (.iload 4, 2) := by decide +kernel
theorem dX7_heights_96 : decode cX7_heights 96 = .ok (.ifCond .lt 280, 3) := by decide +kernel
theorem dX7_heights_99 : decode cX7_heights 99 = .ok (.iload 4, 2) := by decide +kernel
theorem dX7_heights_101 : decode cX7_heights 101 = .ok (.aload_n 0, 1) := by decide +kernel
theorem dX7_heights_102 : decode cX7_heights 102 = .ok (.iload_n 1, 1) := by decide +kernel
theorem dX7_heights_103 : decode cX7_heights 103 = .ok (.iload_n 3, 1) := by decide +kernel
theorem dX7_heights_104 : decode cX7_heights 104 = .ok (.invokevirtual 133, 3) := by decide +kernel
theorem dX7_heights_107 : decode cX7_heights 107 = .ok (.iadd, 1) := by decide +kernel
theorem dX7_heights_108 : decode cX7_heights 108 = .ok (.istore 5, 2) := by decide +kernel
theorem dX7_heights_110 : decode cX7_heights 110 = .ok (.aload_n 0, 1) := by decide +kernel
theorem dX7_heights_111 : decode cX7_heights 111 = .ok (.iload_n 1, 1) := by decide +kernel
theorem dX7_heights_112 : decode cX7_heights 112 = .ok (.iload_n 2, 1) := by decide +kernel
theorem dX7_heights_113 : decode cX7_heights 113 = .ok (.invokevirtual 137, 3) := by decide +kernel
theorem dX7_heights_116 : decode cX7_heights 116 = .ok (.istore 6, 2) := by decide +kernel
theorem dX7_heights_118 : decode cX7_heights 118 = .ok (.aload_n 0, 1) := by decide +kernel
theorem dX7_heights_119 : decode cX7_heights 119 = .ok (.getfield 22, 3) := by decide +kernel
theorem dX7_heights_122 : decode cX7_heights 122 = .ok (.iload_n 3, 1) := by decide +kernel
theorem dX7_heights_123 : decode cX7_heights 123 = .ok (.iaload, 1) := by decide +kernel
theorem dX7_heights_124 : decode cX7_heights 124 = .ok (.bipush 12, 2) := by decide +kernel
theorem dX7_heights_126 : decode cX7_heights 126 = .ok (.if_icmp .eq 14, 3) := by decide +kernel
theorem dX7_heights_129 : decode cX7_heights 129 = .ok (.aload_n 0, 1) := by decide +kernel
theorem dX7_heights_130 : decode cX7_heights 130 = .ok (.getfield 22, 3) := by decide +kernel
theorem dX7_heights_133 : decode cX7_heights 133 = .ok (.iload_n 3, 1) := by decide +kernel
theorem dX7_heights_134 : decode cX7_heights 134 = .ok (.iaload, 1) := by decide +kernel
theorem dX7_heights_135 : decode cX7_heights 135 = .ok (.bipush 13, 2) := by decide +kernel
theorem dX7_heights_137 : decode cX7_heights 137 = .ok (.if_icmp .ne 7, 3) := by decide +kernel
theorem dX7_heights_140 : decode cX7_heights 140 = .ok (.iconst 1, 1) := by decide +kernel
theorem dX7_heights_141 : decode cX7_heights 141 = .ok (.goto 4, 3) := by decide +kernel
theorem dX7_heights_144 : decode cX7_heights 144 = .ok (.iconst 0, 1) := by decide +kernel
theorem dX7_heights_145 : decode cX7_heights 145 = .ok (.istore 7, 2) := by decide +kernel
theorem dX7_heights_147 : decode cX7_heights 147 = .ok (.iload 7, 2) := by decide +kernel
theorem dX7_heights_149 : decode cX7_heights 149 = .ok (.ifCond .eq 13, 3) := by decide +kernel
theorem dX7_heights_152 : decode cX7_heights 152 = .ok (.aload_n 0, 1) := by decide +kernel
theorem dX7_heights_153 : decode cX7_heights 153 = .ok (.getfield 25, 3) := by decide +kernel
theorem dX7_heights_156 : decode cX7_heights 156 = .ok (.iload_n 3, 1) := by decide +kernel
theorem dX7_heights_157 : decode cX7_heights 157 = .ok (.laload, 1) := by decide +kernel
theorem dX7_heights_158 : decode cX7_heights 158 = .ok (.l2i, 1) := by decide +kernel
theorem dX7_heights_159 : decode cX7_heights 159 = .ok (.goto 4, 3) := by decide +kernel
theorem dX7_heights_162 : decode cX7_heights 162 = .ok (.iconst (-1), 1) := by decide +kernel
theorem dX7_heights_163 : decode cX7_heights 163 = .ok (.istore 8, 2) := by decide +kernel
theorem dX7_heights_165 : decode cX7_heights 165 = .ok (.iload 6, 2) := by decide +kernel
theorem dX7_heights_167 : decode cX7_heights 167 = .ok (.ifCond .lt 15, 3) := by decide +kernel
theorem dX7_heights_170 : decode cX7_heights 170 = .ok (.aload_n 0, 1) := by decide +kernel
theorem dX7_heights_171 : decode cX7_heights 171 = .ok (.iload_n 1, 1) := by decide +kernel
theorem dX7_heights_172 : decode cX7_heights 172 = .ok (.iload 6, 2) := by decide +kernel
theorem dX7_heights_174 : decode cX7_heights 174 = .ok (.iload 5, 2) := by decide +kernel
theorem dX7_heights_176 : decode cX7_heights 176 = .ok (.invokevirtual 140, 3) := by decide +kernel
theorem dX7_heights_179 : decode cX7_heights 179 = .ok (.ifCond .ne 52, 3) := by decide +kernel
theorem dX7_heights_182 : decode cX7_heights 182 = .ok (.iload 7, 2) := by decide +kernel
theorem dX7_heights_184 : decode cX7_heights 184 = .ok (.ifCond .eq 15, 3) := by decide +kernel
theorem dX7_heights_187 : decode cX7_heights 187 = .ok (.aload_n 0, 1) := by decide +kernel
theorem dX7_heights_188 : decode cX7_heights 188 = .ok (.iload_n 1, 1) := by decide +kernel
theorem dX7_heights_189 : decode cX7_heights 189 = .ok (.iload 8, 2) := by decide +kernel
theorem dX7_heights_191 : decode cX7_heights 191 = .ok (.iload 5, 2) := by decide +kernel
theorem dX7_heights_193 : decode cX7_heights 193 = .ok (.invokevirtual 140, 3) := by decide +kernel
theorem dX7_heights_196 : decode cX7_heights 196 = .ok (.ifCond .ne 35, 3) := by decide +kernel
theorem dX7_heights_199 : decode cX7_heights 199 = .ok (.aload_n 0, 1) := by decide +kernel
theorem dX7_heights_200 : decode cX7_heights 200 = .ok (.getfield 22, 3) := by decide +kernel
theorem dX7_heights_203 : decode cX7_heights 203 = .ok (.iload_n 3, 1) := by decide +kernel
theorem dX7_heights_204 : decode cX7_heights 204 = .ok (.iaload, 1) := by decide +kernel
theorem dX7_heights_205 : decode cX7_heights 205 = .ok (.bipush 15, 2) := by decide +kernel
theorem dX7_heights_207 : decode cX7_heights 207 = .ok (.if_icmp .ne 28, 3) := by decide +kernel
theorem dX7_heights_210 : decode cX7_heights 210 = .ok (.aload_n 0, 1) := by decide +kernel
theorem dX7_heights_211 : decode cX7_heights 211 = .ok (.getfield 36, 3) := by decide +kernel
theorem dX7_heights_214 : decode cX7_heights 214 = .ok (.bipush 120, 2) := by decide +kernel
theorem dX7_heights_216 : decode cX7_heights 216 = .ok (.iload_n 1, 1) := by decide +kernel
theorem dX7_heights_217 : decode cX7_heights 217 = .ok (.imul, 1) := by decide +kernel
theorem dX7_heights_218 : decode cX7_heights 218 = .ok (.aload_n 0, 1) := by decide +kernel
theorem dX7_heights_219 : decode cX7_heights 219 = .ok (.getfield 42, 3) := by decide +kernel
theorem dX7_heights_222 : decode cX7_heights 222 = .ok (.iload_n 3, 1) := by decide +kernel
theorem dX7_heights_223 : decode cX7_heights 223 = .ok (.iaload, 1) := by decide +kernel
theorem dX7_heights_224 : decode cX7_heights 224 = .ok (.iadd, 1) := by decide +kernel
theorem dX7_heights_225 : decode cX7_heights 225 = .ok (.iaload, 1) := by decide +kernel
theorem dX7_heights_226 : decode cX7_heights 226 = .ok (.iload 4, 2) := by decide +kernel
theorem dX7_heights_228 : decode cX7_heights 228 = .ok (.if_icmp .eq 7, 3) := by decide +kernel
theorem dX7_heights_231 : decode cX7_heights 231 = .ok (.iconst 1, 1) := by decide +kernel
theorem dX7_heights_232 : decode cX7_heights 232 = .ok (.goto 4, 3) := by decide +kernel
theorem dX7_heights_235 : decode cX7_heights 235 = .ok (.iconst 0, 1) := by decide +kernel
theorem dX7_heights_236 : decode cX7_heights 236 = .ok (.istore 9, 2) := by decide +kernel
theorem dX7_heights_238 : decode cX7_heights 238 = .ok (.iload 4, 2) := by decide +kernel
theorem dX7_heights_240 : decode cX7_heights 240 = .ok (.aload_n 0, 1) := by decide +kernel
theorem dX7_heights_241 : decode cX7_heights 241 = .ok (.iload_n 1, 1) := by decide +kernel
theorem dX7_heights_242 : decode cX7_heights 242 = .ok (.iload_n 3, 1) := by decide +kernel
theorem dX7_heights_243 : decode cX7_heights 243 = .ok (.invokevirtual 144, 3) := by decide +kernel
theorem dX7_heights_246 : decode cX7_heights 246 = .ok (.if_icmp .ge 13, 3) := by decide +kernel
theorem dX7_heights_249 : decode cX7_heights 249 = .ok (.aload_n 0, 1) := by decide +kernel
theorem dX7_heights_250 : decode cX7_heights 250 = .ok (.iload_n 1, 1) := by decide +kernel
theorem dX7_heights_251 : decode cX7_heights 251 = .ok (.iconst 5, 1) := by decide +kernel
theorem dX7_heights_252 : decode cX7_heights 252 = .ok (.iload_n 2, 1) := by decide +kernel
theorem dX7_heights_253 : decode cX7_heights 253 = .ok (.invokevirtual 129, 3) := by decide +kernel
theorem dX7_heights_256 : decode cX7_heights 256 = .ok (.goto 120, 3) := by decide +kernel
theorem dX7_heights_259 : decode cX7_heights 259 = .ok (.iload 5, 2) := by decide +kernel
theorem dX7_heights_261 : decode cX7_heights 261 = .ok (.bipush 100, 2) := by decide +kernel
theorem dX7_heights_263 : decode cX7_heights 263 = .ok (.if_icmp .le 14, 3) := by decide +kernel
theorem dX7_heights_266 : decode cX7_heights 266 = .ok (.aload_n 0, 1) := by decide +kernel
theorem dX7_heights_267 : decode cX7_heights 267 = .ok (.iload_n 1, 1) := by decide +kernel
theorem dX7_heights_268 : decode cX7_heights 268 = .ok (.bipush 6, 2) := by decide +kernel
theorem dX7_heights_270 : decode cX7_heights 270 = .ok (.iload_n 2, 1) := by decide +kernel
theorem dX7_heights_271 : decode cX7_heights 271 = .ok (.invokevirtual 129, 3) := by decide +kernel
theorem dX7_heights_274 : decode cX7_heights 274 = .ok (.goto 102, 3) := by decide +kernel
theorem dX7_heights_277 : decode cX7_heights 277 = .ok (.iload 9, 2) := by decide +kernel
theorem dX7_heights_279 : decode cX7_heights 279 = .ok (.ifCond .eq 14, 3) := by decide +kernel
theorem dX7_heights_282 : decode cX7_heights 282 = .ok (.aload_n 0, 1) := by decide +kernel
theorem dX7_heights_283 : decode cX7_heights 283 = .ok (.iload_n 1, 1) := by decide +kernel
theorem dX7_heights_284 : decode cX7_heights 284 = .ok (.bipush 7, 2) := by decide +kernel
theorem dX7_heights_286 : decode cX7_heights 286 = .ok (.iload_n 2, 1) := by decide +kernel
theorem dX7_heights_287 : decode cX7_heights 287 = .ok (.invokevirtual 129, 3) := by decide +kernel
theorem dX7_heights_290 : decode cX7_heights 290 = .ok (.goto 86, 3) := by decide +kernel
theorem dX7_heights_293 : decode cX7_heights 293 = .ok (.aload_n 0, 1) := by decide +kernel
theorem dX7_heights_294 : decode cX7_heights 294 = .ok (.getfield 22, 3) := by decide +kernel
theorem dX7_heights_297 : decode cX7_heights 297 = .ok (.iload_n 3, 1) := by decide +kernel
theorem dX7_heights_298 : decode cX7_heights 298 = .ok (.iaload, 1) := by decide +kernel
theorem dX7_heights_299 : decode cX7_heights 299 = .ok (.bipush 17, 2) := by decide +kernel
theorem dX7_heights_301 : decode cX7_heights 301 = .ok (.if_icmp .ne 25, 3) := by decide +kernel
theorem dX7_heights_304 : decode cX7_heights 304 = .ok (.iload 4, 2) := by decide +kernel
theorem dX7_heights_306 : decode cX7_heights 306 = .ok (.aload_n 0, 1) := by decide +kernel
theorem dX7_heights_307 : decode cX7_heights 307 = .ok (.getfield 13, 3) := by decide +kernel
theorem dX7_heights_310 : decode cX7_heights 310 = .ok (.iload_n 1, 1) := by decide +kernel
theorem dX7_heights_311 : decode cX7_heights 311 = .ok (.iaload, 1) := by decide +kernel
theorem dX7_heights_312 : decode cX7_heights 312 = .ok (.if_icmp .le 14, 3) := by decide +kernel
theorem dX7_heights_315 : decode cX7_heights 315 = .ok (.aload_n 0, 1) := by decide +kernel
theorem dX7_heights_316 : decode cX7_heights 316 = .ok (.iload_n 1, 1) := by decide +kernel
theorem dX7_heights_317 : decode cX7_heights 317 = .ok (.bipush 8, 2) := by decide +kernel
theorem dX7_heights_319 : decode cX7_heights 319 = .ok (.iload_n 2, 1) := by decide +kernel
theorem dX7_heights_320 : decode cX7_heights 320 = .ok (.invokevirtual 129, 3) := by decide +kernel
theorem dX7_heights_323 : decode cX7_heights 323 = .ok (.goto 53, 3) := by decide +kernel
theorem dX7_heights_326 : decode cX7_heights 326 = .ok (.iload 6, 2) := by decide +kernel
theorem dX7_heights_328 : decode cX7_heights 328 = .ok (.aload_n 0, 1) := by decide +kernel
theorem dX7_heights_329 : decode cX7_heights 329 = .ok (.getfield 19, 3) := by decide +kernel
theorem dX7_heights_332 : decode cX7_heights 332 = .ok (.iload_n 1, 1) := by decide +kernel
theorem dX7_heights_333 : decode cX7_heights 333 = .ok (.iaload, 1) := by decide +kernel
theorem dX7_heights_334 : decode cX7_heights 334 = .ok (.if_icmp .lt 14, 3) := by decide +kernel
theorem dX7_heights_337 : decode cX7_heights 337 = .ok (.aload_n 0, 1) := by decide +kernel
theorem dX7_heights_338 : decode cX7_heights 338 = .ok (.iload_n 1, 1) := by decide +kernel
theorem dX7_heights_339 : decode cX7_heights 339 = .ok (.bipush 9, 2) := by decide +kernel
theorem dX7_heights_341 : decode cX7_heights 341 = .ok (.iload_n 2, 1) := by decide +kernel
theorem dX7_heights_342 : decode cX7_heights 342 = .ok (.invokevirtual 129, 3) := by decide +kernel
theorem dX7_heights_345 : decode cX7_heights 345 = .ok (.goto 31, 3) := by decide +kernel
theorem dX7_heights_348 : decode cX7_heights 348 = .ok (.iload 6, 2) := by decide +kernel
theorem dX7_heights_350 : decode cX7_heights 350 = .ok (.ifCond .lt 12, 3) := by decide +kernel
theorem dX7_heights_353 : decode cX7_heights 353 = .ok (.aload_n 0, 1) := by decide +kernel
theorem dX7_heights_354 : decode cX7_heights 354 = .ok (.iload_n 1, 1) := by decide +kernel
theorem dX7_heights_355 : decode cX7_heights 355 = .ok (.iload 6, 2) := by decide +kernel
theorem dX7_heights_357 : decode cX7_heights 357 = .ok (.iload 5, 2) := by decide +kernel
theorem dX7_heights_359 : decode cX7_heights 359 = .ok (.invokevirtual 147, 3) := by decide +kernel
theorem dX7_heights_362 : decode cX7_heights 362 = .ok (.iload 7, 2) := by decide +kernel
theorem dX7_heights_364 : decode cX7_heights 364 = .ok (.ifCond .eq 12, 3) := by decide +kernel
theorem dX7_heights_367 : decode cX7_heights 367 = .ok (.aload_n 0, 1) := by decide +kernel
theorem dX7_heights_368 : decode cX7_heights 368 = .ok (.iload_n 1, 1) := by decide +kernel
theorem dX7_heights_369 : decode cX7_heights 369 = .ok (.iload 8, 2) := by decide +kernel
theorem dX7_heights_371 : decode cX7_heights 371 = .ok (.iload 5, 2) := by decide +kernel
theorem dX7_heights_373 : decode cX7_heights 373 = .ok (.invokevirtual 147, 3) := by decide +kernel
theorem dX7_heights_376 : decode cX7_heights 376 = .ok (.iinc 2 1, 3) := by decide +kernel
theorem dX7_heights_379 : decode cX7_heights 379 = .ok (.goto (-319), 3) := by decide +kernel
theorem dX7_heights_382 : decode cX7_heights 382 = .ok (.return_, 1) := by decide +kernel
theorem dX7_examine_0 : decode cX7_examine 0 = .ok (.aload_n 0, 1) := by decide +kernel
theorem dX7_examine_1 : decode cX7_examine 1 = .ok (.getfield 48, 3) := by decide +kernel
theorem dX7_examine_4 : decode cX7_examine 4 = .ok (.iload_n 1, 1) := by decide +kernel
theorem dX7_examine_5 : decode cX7_examine 5 = .ok (.iconst 0, 1) := by decide +kernel
theorem dX7_examine_6 : decode cX7_examine 6 = .ok (.iastore, 1) := by decide +kernel
theorem dX7_examine_7 : decode cX7_examine 7 = .ok (.aload_n 0, 1) := by decide +kernel
theorem dX7_examine_8 : decode cX7_examine 8 = .ok (.getfield 51, 3) := by decide +kernel
theorem dX7_examine_11 : decode cX7_examine 11 = .ok (.iload_n 1, 1) := by decide +kernel
theorem dX7_examine_12 : decode cX7_examine 12 = .ok (.iconst (-1), 1) := by decide +kernel
theorem dX7_examine_13 : decode cX7_examine 13 = .ok (.iastore, 1) := by decide +kernel
theorem dX7_examine_14 : decode cX7_examine 14 = .ok (.aload_n 0, 1) := by decide +kernel
theorem dX7_examine_15 : decode cX7_examine 15 = .ok (.iload_n 1, 1) := by decide +kernel
theorem dX7_examine_16 : decode cX7_examine 16 = .ok (.invokevirtual 150, 3) := by decide +kernel
theorem dX7_examine_19 : decode cX7_examine 19 = .ok (.aload_n 0, 1) := by decide +kernel
theorem dX7_examine_20 : decode cX7_examine 20 = .ok (.getfield 48, 3) := by decide +kernel
theorem dX7_examine_23 : decode cX7_examine 23 = .ok (.iload_n 1, 1) := by decide +kernel
theorem dX7_examine_24 : decode cX7_examine 24 = .ok (.iaload, 1) := by decide +kernel
theorem dX7_examine_25 : decode cX7_examine 25 = .ok (.ifCond .ne 8, 3) := by decide +kernel
theorem dX7_examine_28 : decode cX7_examine 28 = .ok (.aload_n 0, 1) := by decide +kernel
theorem dX7_examine_29 : decode cX7_examine 29 = .ok (.iload_n 1, 1) := by decide +kernel
theorem dX7_examine_30 : decode cX7_examine 30 = .ok (.invokevirtual 153, 3) := by decide +kernel
theorem dX7_examine_33 : decode cX7_examine 33 = .ok (.return_, 1) := by decide +kernel
theorem dX7_examineAll_0 : decode cX7_examineAll 0 = .ok (.iconst 0, 1) := by decide +kernel
theorem dX7_examineAll_1 : decode cX7_examineAll 1 = .ok (.istore_n 1, 1) := by decide +kernel
theorem dX7_examineAll_2 : decode cX7_examineAll 2 = .ok (.iload_n 1, 1) := by decide +kernel
theorem dX7_examineAll_3 : decode cX7_examineAll 3 = .ok (.aload_n 0, 1) := by decide +kernel
theorem dX7_examineAll_4 : decode cX7_examineAll 4 = .ok (.getfield 109, 3) := by decide +kernel
theorem dX7_examineAll_7 : decode cX7_examineAll 7 = .ok (.if_icmp .ge 14, 3) := by decide +kernel
theorem dX7_examineAll_10 : decode cX7_examineAll 10 = .ok (.aload_n 0, 1) := by decide +kernel
theorem dX7_examineAll_11 : decode cX7_examineAll 11 = .ok (.iload_n 1, 1) := by decide +kernel
theorem dX7_examineAll_12 : decode cX7_examineAll 12 = .ok (.invokevirtual 156, 3) := by decide +kernel
theorem dX7_examineAll_15 : decode cX7_examineAll 15 = .ok (.iinc 1 1, 3) := by decide +kernel
theorem dX7_examineAll_18 : decode cX7_examineAll 18 = .ok (.goto (-16), 3) := by decide +kernel
theorem dX7_examineAll_21 : decode cX7_examineAll 21 = .ok (.return_, 1) := by decide +kernel
theorem dX7_check_0 : decode cX7_check 0 = .ok (.aload_n 0, 1) := by decide +kernel
theorem dX7_check_1 : decode cX7_check 1 = .ok (.aload_n 0, 1) := by decide +kernel
theorem dX7_check_2 : decode cX7_check 2 = .ok (.iload_n 1, 1) := by decide +kernel
theorem dX7_check_3 : decode cX7_check 3 = .ok (.invokevirtual 112, 3) := by decide +kernel
theorem dX7_check_6 : decode cX7_check 6 = .ok (.ifCond .eq 7, 3) := by decide +kernel
theorem dX7_check_9 : decode cX7_check 9 = .ok (.iconst 1, 1) := by decide +kernel
theorem dX7_check_10 : decode cX7_check 10 = .ok (.goto 4, 3) := by decide +kernel
theorem dX7_check_13 : decode cX7_check 13 = .ok (.iconst 0, 1) := by decide +kernel
theorem dX7_check_14 : decode cX7_check 14 = .ok (.putfield 106, 3) := by decide +kernel
theorem dX7_check_17 : decode cX7_check 17 = .ok (.aload_n 0, 1) := by decide +kernel
theorem dX7_check_18 : decode cX7_check 18 = .ok (.getfield 106, 3) := by decide +kernel
theorem dX7_check_21 : decode cX7_check 21 = .ok (.ifCond .le 5, 3) := by decide +kernel
theorem dX7_check_24 : decode cX7_check 24 = .ok (.iconst 0, 1) := by decide +kernel
theorem dX7_check_25 : decode cX7_check 25 = .ok (.ireturn, 1) := by decide +kernel
theorem dX7_check_26 : decode cX7_check 26 = .ok (.aload_n 0, 1) := by decide +kernel
theorem dX7_check_27 : decode cX7_check 27 = .ok (.iload_n 1, 1) := by decide +kernel
theorem dX7_check_28 : decode cX7_check 28 = .ok (.invokevirtual 156, 3) := by decide +kernel
theorem dX7_check_31 : decode cX7_check 31 = .ok (.aload_n 0, 1) := by decide +kernel
theorem dX7_check_32 : decode cX7_check 32 = .ok (.aload_n 0, 1) := by decide +kernel
theorem dX7_check_33 : decode cX7_check 33 = .ok (.getfield 51, 3) := by decide +kernel
theorem dX7_check_36 : decode cX7_check 36 = .ok (.iload_n 1, 1) := by decide +kernel
theorem dX7_check_37 : decode cX7_check 37 = .ok (.iaload, 1) := by decide +kernel
theorem dX7_check_38 : decode cX7_check 38 = .ok (.putfield 32, 3) := by decide +kernel
theorem dX7_check_41 : decode cX7_check 41 = .ok (.aload_n 0, 1) := by decide +kernel
theorem dX7_check_42 : decode cX7_check 42 = .ok (.getfield 48, 3) := by decide +kernel
theorem dX7_check_45 : decode cX7_check 45 = .ok (.iload_n 1, 1) := by decide +kernel
theorem dX7_check_46 : decode cX7_check 46 = .ok (.iaload, 1) := by decide +kernel
theorem dX7_check_47 : decode cX7_check 47 = .ok (.ireturn, 1) := by decide +kernel
theorem dX7_place_0 : decode cX7_place 0 = .ok (.aload_n 0, 1) := by decide +kernel
theorem dX7_place_1 : decode cX7_place 1 = .ok (.iconst 0, 1) := by decide +kernel
theorem dX7_place_2 : decode cX7_place 2 = .ok (.putfield 106, 3) := by decide +kernel
theorem dX7_place_5 : decode cX7_place 5 = .ok (.aload_n 0, 1) := by decide +kernel
theorem dX7_place_6 : decode cX7_place 6 = .ok (.getfield 32, 3) := by decide +kernel
theorem dX7_place_9 : decode cX7_place 9 = .ok (.ireturn, 1) := by decide +kernel
theorem dX7_height_0 : decode cX7_height 0 = .ok (.aload_n 0, 1) := by decide +kernel
theorem dX7_height_1 : decode cX7_height 1 = .ok (.aload_n 0, 1) := by decide +kernel
theorem dX7_height_2 : decode cX7_height 2 = .ok (.iload_n 1, 1) := by decide +kernel
theorem dX7_height_3 : decode cX7_height 3 = .ok (.invokevirtual 112, 3) := by decide +kernel
theorem dX7_height_6 : decode cX7_height 6 = .ok (.ifCond .ne 17, 3) := by decide +kernel
theorem dX7_height_9 : decode cX7_height 9 = .ok (.iload_n 2, 1) := by decide +kernel
theorem dX7_height_10 : decode cX7_height 10 = .ok (.ifCond .lt 13, 3) := by decide +kernel
theorem dX7_height_13 : decode cX7_height 13 = .ok (.iload_n 2, 1) := by decide +kernel
theorem dX7_height_14 : decode cX7_height 14 = .ok (.aload_n 0, 1) := by decide +kernel
theorem dX7_height_15 : decode cX7_height 15 = .ok (.getfield 19, 3) := by decide +kernel
theorem dX7_height_18 : decode cX7_height 18 = .ok (.iload_n 1, 1) := by decide +kernel
theorem dX7_height_19 : decode cX7_height 19 = .ok (.iaload, 1) := by decide +kernel
theorem dX7_height_20 : decode cX7_height 20 = .ok (.if_icmp .lt 7, 3) := by decide +kernel
theorem dX7_height_23 : decode cX7_height 23 = .ok (.iconst 1, 1) := by decide +kernel
theorem dX7_height_24 : decode cX7_height 24 = .ok (.goto 4, 3) := by decide +kernel
theorem dX7_height_27 : decode cX7_height 27 = .ok (.iconst 0, 1) := by decide +kernel
theorem dX7_height_28 : decode cX7_height 28 = .ok (.putfield 106, 3) := by decide +kernel
theorem dX7_height_31 : decode cX7_height 31 = .ok (.aload_n 0, 1) := by decide +kernel
theorem dX7_height_32 : decode cX7_height 32 = .ok (.getfield 106, 3) := by decide +kernel
theorem dX7_height_35 : decode cX7_height 35 = .ok (.ifCond .le 5, 3) := by decide +kernel
theorem dX7_height_38 : decode cX7_height 38 = .ok (.iconst 0, 1) := by decide +kernel
theorem dX7_height_39 : decode cX7_height 39 = .ok (.ireturn, 1) := by decide +kernel
theorem dX7_height_40 : decode cX7_height 40 = .ok (.aload_n 0, 1) := by decide +kernel
theorem dX7_height_41 : decode cX7_height 41 = .ok (.iload_n 1, 1) := by decide +kernel
theorem dX7_height_42 : decode cX7_height 42 = .ok (.invokevirtual 156, 3) := by decide +kernel
theorem dX7_height_45 : decode cX7_height 45 = .ok (.aload_n 0, 1) := by decide +kernel
theorem dX7_height_46 : decode cX7_height 46 = .ok (.getfield 48, 3) := by decide +kernel
theorem dX7_height_49 : decode cX7_height 49 = .ok (.iload_n 1, 1) := by decide +kernel
theorem dX7_height_50 : decode cX7_height 50 = .ok (.iaload, 1) := by decide +kernel
theorem dX7_height_51 : decode cX7_height 51 = .ok (.ifCond .le 7, 3) := by decide +kernel
theorem dX7_height_54 : decode cX7_height 54 = .ok (.iconst (-1), 1) := by decide +kernel
theorem dX7_height_55 : decode cX7_height 55 = .ok (.goto 14, 3) := by decide +kernel
theorem dX7_height_58 : decode cX7_height 58 = .ok (.aload_n 0, 1) := by decide +kernel
theorem dX7_height_59 : decode cX7_height 59 = .ok (.getfield 36, 3) := by decide +kernel
theorem dX7_height_62 : decode cX7_height 62 = .ok (.bipush 120, 2) := by decide +kernel
theorem dX7_height_64 : decode cX7_height 64 = .ok (.iload_n 1, 1) := by decide +kernel
theorem dX7_height_65 : decode cX7_height 65 = .ok (.imul, 1) := by decide +kernel
theorem dX7_height_66 : decode cX7_height 66 = .ok (.iload_n 2, 1) := by decide +kernel
theorem dX7_height_67 : decode cX7_height 67 = .ok (.iadd, 1) := by decide +kernel
theorem dX7_height_68 : decode cX7_height 68 = .ok (.iaload, 1) := by decide +kernel
theorem dX7_height_69 : decode cX7_height 69 = .ok (.ireturn, 1) := by decide +kernel
theorem dX7_plus_0 : decode cX7_plus 0 = .ok (.lload_n 0, 1) := by decide +kernel
theorem dX7_plus_1 : decode cX7_plus 1 = .ok (.ldc2_w 159, 3) := by decide +kernel
theorem dX7_plus_4 : decode cX7_plus 4 = .ok (.lcmp, 1) := by decide +kernel
theorem dX7_plus_5 : decode cX7_plus 5 = .ok (.ifCond .eq 11, 3) := by decide +kernel
theorem dX7_plus_8 : decode cX7_plus 8 = .ok (.lload_n 2, 1) := by decide +kernel
theorem dX7_plus_9 : decode cX7_plus 9 = .ok (.ldc2_w 159, 3) := by decide +kernel
theorem dX7_plus_12 : decode cX7_plus 12 = .ok (.lcmp, 1) := by decide +kernel
theorem dX7_plus_13 : decode cX7_plus 13 = .ok (.ifCond .ne 7, 3) := by decide +kernel
theorem dX7_plus_16 : decode cX7_plus 16 = .ok (.ldc2_w 159, 3) := by decide +kernel
theorem dX7_plus_19 : decode cX7_plus 19 = .ok (.lreturn, 1) := by decide +kernel
theorem dX7_plus_20 : decode cX7_plus 20 = .ok (.lload_n 0, 1) := by decide +kernel
theorem dX7_plus_21 : decode cX7_plus 21 = .ok (.lload_n 2, 1) := by decide +kernel
theorem dX7_plus_22 : decode cX7_plus 22 = .ok (.ladd, 1) := by decide +kernel
theorem dX7_plus_23 : decode cX7_plus 23 = .ok (.lstore 4, 2) := by decide +kernel
theorem dX7_plus_25 : decode cX7_plus 25 = .ok (.lload 4, 2) := by decide +kernel
theorem dX7_plus_27 : decode cX7_plus 27 = .ok (.lconst 0, 1) := by decide +kernel
theorem dX7_plus_28 : decode cX7_plus 28 = .ok (.lcmp, 1) := by decide +kernel
theorem dX7_plus_29 : decode cX7_plus 29 = .ok (.ifCond .ge 9, 3) := by decide +kernel
theorem dX7_plus_32 : decode cX7_plus 32 = .ok (.ldc2_w 159, 3) := by decide +kernel
theorem dX7_plus_35 : decode cX7_plus 35 = .ok (.goto 5, 3) := by decide +kernel
theorem dX7_plus_38 : decode cX7_plus 38 = .ok (.lload 4, 2) := by decide +kernel
theorem dX7_plus_40 : decode cX7_plus 40 = .ok (.lreturn, 1) := by decide +kernel
theorem dX7_times_0 : decode cX7_times 0 = .ok (.lload_n 2, 1) := by decide +kernel
theorem dX7_times_1 : decode cX7_times 1 = .ok (.lconst 0, 1) := by decide +kernel
theorem dX7_times_2 : decode cX7_times 2 = .ok (.lcmp, 1) := by decide +kernel
theorem dX7_times_3 : decode cX7_times 3 = .ok (.ifCond .eq 9, 3) := by decide +kernel
theorem dX7_times_6 : decode cX7_times 6 = .ok (.lload_n 0, 1) := by decide +kernel
theorem dX7_times_7 : decode cX7_times 7 = .ok (.lconst 0, 1) := by decide +kernel
theorem dX7_times_8 : decode cX7_times 8 = .ok (.lcmp, 1) := by decide +kernel
theorem dX7_times_9 : decode cX7_times 9 = .ok (.ifCond .ne 5, 3) := by decide +kernel
theorem dX7_times_12 : decode cX7_times 12 = .ok (.lconst 0, 1) := by decide +kernel
theorem dX7_times_13 : decode cX7_times 13 = .ok (.lreturn, 1) := by decide +kernel
theorem dX7_times_14 : decode cX7_times 14 = .ok (.lload_n 0, 1) := by decide +kernel
theorem dX7_times_15 : decode cX7_times 15 = .ok (.ldc2_w 159, 3) := by decide +kernel
theorem dX7_times_18 : decode cX7_times 18 = .ok (.lcmp, 1) := by decide +kernel
theorem dX7_times_19 : decode cX7_times 19 = .ok (.ifCond .eq 13, 3) := by decide +kernel
theorem dX7_times_22 : decode cX7_times 22 = .ok (.lload_n 0, 1) := by decide +kernel
theorem dX7_times_23 : decode cX7_times 23 = .ok (.ldc2_w 161, 3) := by decide +kernel
theorem dX7_times_26 : decode cX7_times 26 = .ok (.lload_n 2, 1) := by decide +kernel
theorem dX7_times_27 : decode cX7_times 27 = .ok (.ldiv, 1) := by decide +kernel
theorem dX7_times_28 : decode cX7_times 28 = .ok (.lcmp, 1) := by decide +kernel
theorem dX7_times_29 : decode cX7_times 29 = .ok (.ifCond .le 9, 3) := by decide +kernel
theorem dX7_times_32 : decode cX7_times 32 = .ok (.ldc2_w 159, 3) := by decide +kernel
theorem dX7_times_35 : decode cX7_times 35 = .ok (.goto 6, 3) := by decide +kernel
theorem dX7_times_38 : decode cX7_times 38 = .ok (.lload_n 0, 1) := by decide +kernel
theorem dX7_times_39 : decode cX7_times 39 = .ok (.lload_n 2, 1) := by decide +kernel
theorem dX7_times_40 : decode cX7_times 40 = .ok (.lmul, 1) := by decide +kernel
theorem dX7_times_41 : decode cX7_times 41 = .ok (.lreturn, 1) := by decide +kernel
theorem dX7_greater_0 : decode cX7_greater 0 = .ok (.lload_n 0, 1) := by decide +kernel
theorem dX7_greater_1 : decode cX7_greater 1 = .ok (.ldc2_w 159, 3) := by decide +kernel
theorem dX7_greater_4 : decode cX7_greater 4 = .ok (.lcmp, 1) := by decide +kernel
theorem dX7_greater_5 : decode cX7_greater 5 = .ok (.ifCond .eq 11, 3) := by decide +kernel
theorem dX7_greater_8 : decode cX7_greater 8 = .ok (.lload_n 2, 1) := by decide +kernel
theorem dX7_greater_9 : decode cX7_greater 9 = .ok (.ldc2_w 159, 3) := by decide +kernel
theorem dX7_greater_12 : decode cX7_greater 12 = .ok (.lcmp, 1) := by decide +kernel
theorem dX7_greater_13 : decode cX7_greater 13 = .ok (.ifCond .ne 9, 3) := by decide +kernel
theorem dX7_greater_16 : decode cX7_greater 16 = .ok (.ldc2_w 159, 3) := by decide +kernel
theorem dX7_greater_19 : decode cX7_greater 19 = .ok (.goto 14, 3) := by decide +kernel
theorem dX7_greater_22 : decode cX7_greater 22 = .ok (.lload_n 0, 1) := by decide +kernel
theorem dX7_greater_23 : decode cX7_greater 23 = .ok (.lload_n 2, 1) := by decide +kernel
theorem dX7_greater_24 : decode cX7_greater 24 = .ok (.lcmp, 1) := by decide +kernel
theorem dX7_greater_25 : decode cX7_greater 25 = .ok (.ifCond .le 7, 3) := by decide +kernel
theorem dX7_greater_28 : decode cX7_greater 28 = .ok (.lload_n 0, 1) := by decide +kernel
theorem dX7_greater_29 : decode cX7_greater 29 = .ok (.goto 4, 3) := by decide +kernel
theorem dX7_greater_32 : decode cX7_greater 32 = .ok (.lload_n 2, 1) := by decide +kernel
theorem dX7_greater_33 : decode cX7_greater 33 = .ok (.lreturn, 1) := by decide +kernel
theorem dX7_reach_0 : decode cX7_reach 0 = .ok (.aload_n 0, 1) := by decide +kernel
theorem dX7_reach_1 : decode cX7_reach 1 = .ok (.getfield 73, 3) := by decide +kernel
theorem dX7_reach_4 : decode cX7_reach 4 = .ok (.iload_n 1, 1) := by decide +kernel
theorem dX7_reach_5 : decode cX7_reach 5 = .ok (.aload_n 0, 1) := by decide +kernel
theorem dX7_reach_6 : decode cX7_reach 6 = .ok (.getfield 73, 3) := by decide +kernel
theorem dX7_reach_9 : decode cX7_reach 9 = .ok (.iload_n 1, 1) := by decide +kernel
theorem dX7_reach_10 : decode cX7_reach 10 = .ok (.laload, 1) := by decide +kernel
theorem dX7_reach_11 : decode cX7_reach 11 = .ok (.lload_n 2, 1) := by decide +kernel
theorem dX7_reach_12 : decode cX7_reach 12 = .ok (.invokestatic 163, 3) := by decide +kernel
theorem dX7_reach_15 : decode cX7_reach 15 = .ok (.lastore, 1) := by decide +kernel
theorem dX7_reach_16 : decode cX7_reach 16 = .ok (.return_, 1) := by decide +kernel
theorem dX7_region_0 : decode cX7_region 0 = .ok (.iconst 0, 1) := by decide +kernel
theorem dX7_region_1 : decode cX7_region 1 = .ok (.istore_n 3, 1) := by decide +kernel
theorem dX7_region_2 : decode cX7_region 2 = .ok (.iload_n 3, 1) := by decide +kernel
theorem dX7_region_3 : decode cX7_region 3 = .ok (.aload_n 0, 1) := by decide +kernel
theorem dX7_region_4 : decode cX7_region 4 = .ok (.getfield 19, 3) := by decide +kernel
theorem dX7_region_7 : decode cX7_region 7 = .ok (.iload_n 1, 1) := by decide +kernel
theorem dX7_region_8 : decode cX7_region 8 = .ok (.iaload, 1) := by decide +kernel
theorem dX7_region_9 : decode cX7_region 9 = .ok (.if_icmp .gt 18, 3) := by decide +kernel
theorem dX7_region_12 : decode cX7_region 12 = .ok (.aload_n 0, 1) := by decide +kernel
theorem dX7_region_13 : decode cX7_region 13 = .ok (.getfield 73, 3) := by decide +kernel
theorem dX7_region_16 : decode cX7_region 16 = .ok (.iload_n 3, 1) := by decide +kernel
theorem dX7_region_17 : decode cX7_region 17 = .ok (.ldc2_w 167, 3) := by decide +kernel
theorem dX7_region_20 : decode cX7_region 20 = .ok (.lastore, 1) := by decide +kernel
theorem dX7_region_21 : decode cX7_region 21 = .ok (.iinc 3 1, 3) := by decide +kernel
theorem dX7_region_24 : decode cX7_region 24 = .ok (.goto (-22), 3) := by decide +kernel
theorem dX7_region_27 : decode cX7_region 27 = .ok (.aload_n 0, 1) := by decide +kernel
theorem dX7_region_28 : decode cX7_region 28 = .ok (.getfield 73, 3) := by decide +kernel
theorem dX7_region_31 : decode cX7_region 31 = .ok (.iload_n 2, 1) := by decide +kernel
theorem dX7_region_32 : decode cX7_region 32 = .ok (.iconst 1, 1) := by decide +kernel
theorem dX7_region_33 : decode cX7_region 33 = .ok (.iadd, 1) := by decide +kernel
theorem dX7_region_34 : decode cX7_region 34 = .ok (.lconst 0, 1) := by decide +kernel
theorem dX7_region_35 : decode cX7_region 35 = .ok (.lastore, 1) := by decide +kernel
theorem dX7_region_36 : decode cX7_region 36 = .ok (.ldc2_w 167, 3) := by decide +kernel
theorem dX7_region_39 : decode cX7_region 39 = .ok (.lstore_n 3, 1) := by decide +kernel
theorem dX7_region_40 : decode cX7_region 40 = .ok (.ldc2_w 167, 3) := by decide +kernel
theorem dX7_region_43 : decode cX7_region 43 = .ok (.lstore 5, 2) := by decide +kernel
theorem dX7_region_45 : decode cX7_region 45 = .ok (.iload_n 2, 1) := by decide +kernel
theorem dX7_region_46 : decode cX7_region 46 = .ok (.iconst 1, 1) := by decide +kernel
theorem dX7_region_47 : decode cX7_region 47 = .ok (.iadd, 1) := by decide +kernel
theorem dX7_region_48 : decode cX7_region 48 = .ok (.istore 7, 2) := by decide +kernel
theorem dX7_region_50 : decode cX7_region 50 = .ok (.iload 7, 2) := by decide +kernel
theorem dX7_region_52 : decode cX7_region 52 = .ok (.aload_n 0, 1) := by decide +kernel
theorem dX7_region_53 : decode cX7_region 53 = .ok (.getfield 19, 3) := by decide +kernel
theorem dX7_region_56 : decode cX7_region 56 = .ok (.iload_n 1, 1) := by decide +kernel
theorem dX7_region_57 : decode cX7_region 57 = .ok (.iaload, 1) := by decide +kernel
theorem dX7_region_58 : decode cX7_region 58 = .ok (.if_icmp .ge 359, 3) := by decide +kernel
theorem dX7_region_61 : decode cX7_region 61 = .ok (.bipush 120, 2) := by decide +kernel
theorem dX7_region_63 : decode cX7_region 63 = .ok (.iload_n 1, 1) := by decide +kernel
theorem dX7_region_64 : decode cX7_region 64 = .ok (.imul, 1) := by decide +kernel
theorem dX7_region_65 : decode cX7_region 65 = .ok (.iload 7, 2) := by decide +kernel
theorem dX7_region_67 : decode cX7_region 67 = .ok (.iadd, 1) := by decide +kernel
theorem dX7_region_68 : decode cX7_region 68 = .ok (.istore 8, 2) := by decide +kernel
theorem dX7_region_70 : decode cX7_region 70 = .ok (.aload_n 0, 1) := by decide +kernel
theorem dX7_region_71 : decode cX7_region 71 = .ok (.getfield 39, 3) := by decide +kernel
theorem dX7_region_74 : decode cX7_region 74 = .ok (.iload 8, 2) := by decide +kernel
theorem dX7_region_76 : decode cX7_region 76 = .ok (.iaload, 1) := by decide +kernel
theorem dX7_region_77 : decode cX7_region 77 = .ok (.iload_n 2, 1) := by decide +kernel
theorem dX7_region_78 : decode cX7_region 78 = .ok (.if_icmp .ne 333, 3) := by decide +kernel
theorem dX7_region_81 : decode cX7_region 81 = .ok (.aload_n 0, 1) := by decide +kernel
theorem dX7_region_82 : decode cX7_region 82 = .ok (.getfield 73, 3) := by decide +kernel
theorem dX7_region_85 : decode cX7_region 85 = .ok (.iload 7, 2) := by decide +kernel
theorem dX7_region_87 : decode cX7_region 87 = .ok (.laload, 1) := by decide +kernel
theorem dX7_region_88 : decode cX7_region 88 = .ok (.ldc2_w 167, 3) := by decide +kernel
theorem dX7_region_91 : decode cX7_region 91 = .ok (.lcmp, 1) := by decide +kernel
theorem dX7_region_92 : decode cX7_region 92 = .ok (.ifCond .eq 319, 3) := by decide +kernel
theorem dX7_region_95 : decode cX7_region 95 = .ok (.aload_n 0, 1) := by decide +kernel
theorem dX7_region_96 : decode cX7_region 96 = .ok (.getfield 73, 3) := by decide +kernel
theorem dX7_region_99 : decode cX7_region 99 = .ok (.iload 7, 2) := by decide +kernel
theorem dX7_region_101 : decode cX7_region 101 = .ok (.laload, 1) := by decide +kernel
theorem dX7_region_102 : decode cX7_region 102 = .ok (.aload_n 0, 1) := by decide +kernel
theorem dX7_region_103 : decode cX7_region 103 = .ok (.getfield 29, 3) := by decide +kernel
theorem dX7_region_106 : decode cX7_region 106 = .ok (.aload_n 0, 1) := by decide +kernel
theorem dX7_region_107 : decode cX7_region 107 = .ok (.getfield 22, 3) := by decide +kernel
theorem dX7_region_110 : decode cX7_region 110 = .ok (.iload 8, 2) := by decide +kernel
theorem dX7_region_112 : decode cX7_region 112 = .ok (.iaload, 1) := by decide +kernel
theorem dX7_region_113 : decode cX7_region 113 = .ok (.laload, 1) := by decide +kernel
theorem dX7_region_114 : decode cX7_region 114 = .ok (.invokestatic 169, 3) := by decide +kernel
theorem dX7_region_117 : decode cX7_region 117 = .ok (.lstore 9, 2) := by decide +kernel
theorem dX7_region_119 : decode cX7_region 119 = .ok (.aload_n 0, 1) := by decide +kernel
theorem dX7_region_120 : decode cX7_region 120 = .ok (.getfield 22, 3) := by decide +kernel
theorem dX7_region_123 : decode cX7_region 123 = .ok (.iload 8, 2) := by decide +kernel
theorem dX7_region_125 : decode cX7_region 125 = .ok (.iaload, 1) := by decide +kernel
theorem dX7_region_126 : decode cX7_region 126 = .ok (.bipush 16, 2) := by decide +kernel
theorem dX7_region_128 : decode cX7_region 128 = .ok (.if_icmp .ne 23, 3) := by decide +kernel
theorem dX7_region_131 : decode cX7_region 131 = .ok (.lload 9, 2) := by decide +kernel
theorem dX7_region_133 : decode cX7_region 133 = .ok (.aload_n 0, 1) := by decide +kernel
theorem dX7_region_134 : decode cX7_region 134 = .ok (.getfield 70, 3) := by decide +kernel
theorem dX7_region_137 : decode cX7_region 137 = .ok (.aload_n 0, 1) := by decide +kernel
theorem dX7_region_138 : decode cX7_region 138 = .ok (.getfield 25, 3) := by decide +kernel
theorem dX7_region_141 : decode cX7_region 141 = .ok (.iload 8, 2) := by decide +kernel
theorem dX7_region_143 : decode cX7_region 143 = .ok (.laload, 1) := by decide +kernel
theorem dX7_region_144 : decode cX7_region 144 = .ok (.l2i, 1) := by decide +kernel
theorem dX7_region_145 : decode cX7_region 145 = .ok (.laload, 1) := by decide +kernel
theorem dX7_region_146 : decode cX7_region 146 = .ok (.invokestatic 169, 3) := by decide +kernel
theorem dX7_region_149 : decode cX7_region 149 = .ok (.lstore 9, 2) := by decide +kernel
theorem dX7_region_151 : decode cX7_region 151 = .ok (.aload_n 0, 1) := by decide +kernel
theorem dX7_region_152 : decode cX7_region 152 = .ok (.getfield 22, 3) := by decide +kernel
theorem dX7_region_155 : decode cX7_region 155 = .ok (.iload 8, 2) := by decide +kernel
theorem dX7_region_157 : decode cX7_region 157 = .ok (.iaload, 1) := by decide +kernel
theorem dX7_region_158 : decode cX7_region 158 = .ok (.bipush 17, 2) := by decide +kernel
theorem dX7_region_160 : decode cX7_region 160 = .ok (.if_icmp .ne 13, 3) := by decide +kernel
theorem dX7_region_163 : decode cX7_region 163 = .ok (.lload_n 3, 1) := by decide +kernel
theorem dX7_region_164 : decode cX7_region 164 = .ok (.lload 9, 2) := by decide +kernel
theorem dX7_region_166 : decode cX7_region 166 = .ok (.invokestatic 163, 3) := by decide +kernel
theorem dX7_region_169 : decode cX7_region 169 = .ok (.lstore_n 3, 1) := by decide +kernel
theorem dX7_region_170 : decode cX7_region 170 = .ok (.goto 241, 3) := by decide +kernel
theorem dX7_region_173 : decode cX7_region 173 = .ok (.aload_n 0, 1) := by decide +kernel
theorem dX7_region_174 : decode cX7_region 174 = .ok (.getfield 22, 3) := by decide +kernel
theorem dX7_region_177 : decode cX7_region 177 = .ok (.iload 8, 2) := by decide +kernel
theorem dX7_region_179 : decode cX7_region 179 = .ok (.iaload, 1) := by decide +kernel
theorem dX7_region_180 : decode cX7_region 180 = .ok (.bipush 15, 2) := by decide +kernel
theorem dX7_region_182 : decode cX7_region 182 = .ok (.if_icmp .ne 15, 3) := by decide +kernel
theorem dX7_region_185 : decode cX7_region 185 = .ok (.lload 5, 2) := by decide +kernel
theorem dX7_region_187 : decode cX7_region 187 = .ok (.lload 9, 2) := by decide +kernel
theorem dX7_region_189 : decode cX7_region 189 = .ok (.invokestatic 163, 3) := by decide +kernel
theorem dX7_region_192 : decode cX7_region 192 = .ok (.lstore 5, 2) := by decide +kernel
theorem dX7_region_194 : decode cX7_region 194 = .ok (.goto 217, 3) := by decide +kernel
theorem dX7_region_197 : decode cX7_region 197 = .ok (.aload_n 0, 1) := by decide +kernel
theorem dX7_region_198 : decode cX7_region 198 = .ok (.getfield 22, 3) := by decide +kernel
theorem dX7_region_201 : decode cX7_region 201 = .ok (.iload 8, 2) := by decide +kernel
theorem dX7_region_203 : decode cX7_region 203 = .ok (.iaload, 1) := by decide +kernel
theorem dX7_region_204 : decode cX7_region 204 = .ok (.bipush 14, 2) := by decide +kernel
theorem dX7_region_206 : decode cX7_region 206 = .ok (.if_icmp .ne 145, 3) := by decide +kernel
theorem dX7_region_209 : decode cX7_region 209 = .ok (.aload_n 0, 1) := by decide +kernel
theorem dX7_region_210 : decode cX7_region 210 = .ok (.getfield 25, 3) := by decide +kernel
theorem dX7_region_213 : decode cX7_region 213 = .ok (.iload 8, 2) := by decide +kernel
theorem dX7_region_215 : decode cX7_region 215 = .ok (.laload, 1) := by decide +kernel
theorem dX7_region_216 : decode cX7_region 216 = .ok (.lconst 0, 1) := by decide +kernel
theorem dX7_region_217 : decode cX7_region 217 = .ok (.lcmp, 1) := by decide +kernel
theorem dX7_region_218 : decode cX7_region 218 = .ok (.ifCond .le 133, 3) := by decide +kernel
theorem dX7_region_221 : decode cX7_region 221 = .ok (.aload_n 0, 1) := by decide +kernel
theorem dX7_region_222 : decode cX7_region 222 = .ok (.getfield 76, 3) := by decide +kernel
theorem dX7_region_225 : decode cX7_region 225 = .ok (.iload 7, 2) := by decide +kernel
theorem dX7_region_227 : decode cX7_region 227 = .ok (.laload, 1) := by decide +kernel
theorem dX7_region_228 : decode cX7_region 228 = .ok (.ldc2_w 167, 3) := by decide +kernel
theorem dX7_region_231 : decode cX7_region 231 = .ok (.lcmp, 1) := by decide +kernel
theorem dX7_region_232 : decode cX7_region 232 = .ok (.ifCond .eq 7, 3) := by decide +kernel
theorem dX7_region_235 : decode cX7_region 235 = .ok (.iconst 1, 1) := by decide +kernel
theorem dX7_region_236 : decode cX7_region 236 = .ok (.goto 4, 3) := by decide +kernel
theorem dX7_region_239 : decode cX7_region 239 = .ok (.iconst 0, 1) := by decide +kernel
theorem dX7_region_240 : decode cX7_region 240 = .ok (.istore 11, 2) := by decide +kernel
theorem dX7_region_242 : decode cX7_region 242 = .ok (.aload_n 0, 1) := by decide +kernel
theorem dX7_region_243 : decode cX7_region 243 = .ok (.getfield 79, 3) := by decide +kernel
theorem dX7_region_246 : decode cX7_region 246 = .ok (.iload 7, 2) := by decide +kernel
theorem dX7_region_248 : decode cX7_region 248 = .ok (.laload, 1) := by decide +kernel
theorem dX7_region_249 : decode cX7_region 249 = .ok (.ldc2_w 167, 3) := by decide +kernel
theorem dX7_region_252 : decode cX7_region 252 = .ok (.lcmp, 1) := by decide +kernel
theorem dX7_region_253 : decode cX7_region 253 = .ok (.ifCond .eq 55, 3) := by decide +kernel
theorem dX7_region_256 : decode cX7_region 256 = .ok (.iload 11, 2) := by decide +kernel
theorem dX7_region_258 : decode cX7_region 258 = .ok (.ifCond .eq 25, 3) := by decide +kernel
theorem dX7_region_261 : decode cX7_region 261 = .ok (.aload_n 0, 1) := by decide +kernel
theorem dX7_region_262 : decode cX7_region 262 = .ok (.getfield 76, 3) := by decide +kernel
theorem dX7_region_265 : decode cX7_region 265 = .ok (.iload 7, 2) := by decide +kernel
theorem dX7_region_267 : decode cX7_region 267 = .ok (.laload, 1) := by decide +kernel
theorem dX7_region_268 : decode cX7_region 268 = .ok (.aload_n 0, 1) := by decide +kernel
theorem dX7_region_269 : decode cX7_region 269 = .ok (.getfield 25, 3) := by decide +kernel
theorem dX7_region_272 : decode cX7_region 272 = .ok (.iload 8, 2) := by decide +kernel
theorem dX7_region_274 : decode cX7_region 274 = .ok (.laload, 1) := by decide +kernel
theorem dX7_region_275 : decode cX7_region 275 = .ok (.lconst 1, 1) := by decide +kernel
theorem dX7_region_276 : decode cX7_region 276 = .ok (.lsub, 1) := by decide +kernel
theorem dX7_region_277 : decode cX7_region 277 = .ok (.invokestatic 172, 3) := by decide +kernel
theorem dX7_region_280 : decode cX7_region 280 = .ok (.goto 4, 3) := by decide +kernel
theorem dX7_region_283 : decode cX7_region 283 = .ok (.lconst 0, 1) := by decide +kernel
theorem dX7_region_284 : decode cX7_region 284 = .ok (.lstore 12, 2) := by decide +kernel
theorem dX7_region_286 : decode cX7_region 286 = .ok (.lload_n 3, 1) := by decide +kernel
theorem dX7_region_287 : decode cX7_region 287 = .ok (.lload 9, 2) := by decide +kernel
theorem dX7_region_289 : decode cX7_region 289 = .ok (.lload 12, 2) := by decide +kernel
theorem dX7_region_291 : decode cX7_region 291 = .ok (.invokestatic 169, 3) := by decide +kernel
theorem dX7_region_294 : decode cX7_region 294 = .ok (.aload_n 0, 1) := by decide +kernel
theorem dX7_region_295 : decode cX7_region 295 = .ok (.getfield 79, 3) := by decide +kernel
theorem dX7_region_298 : decode cX7_region 298 = .ok (.iload 7, 2) := by decide +kernel
theorem dX7_region_300 : decode cX7_region 300 = .ok (.laload, 1) := by decide +kernel
theorem dX7_region_301 : decode cX7_region 301 = .ok (.invokestatic 169, 3) := by decide +kernel
theorem dX7_region_304 : decode cX7_region 304 = .ok (.invokestatic 163, 3) := by decide +kernel
theorem dX7_region_307 : decode cX7_region 307 = .ok (.lstore_n 3, 1) := by decide +kernel
theorem dX7_region_308 : decode cX7_region 308 = .ok (.iload 11, 2) := by decide +kernel
theorem dX7_region_310 : decode cX7_region 310 = .ok (.ifCond .eq 38, 3) := by decide +kernel
theorem dX7_region_313 : decode cX7_region 313 = .ok (.aload_n 0, 1) := by decide +kernel
theorem dX7_region_314 : decode cX7_region 314 = .ok (.aload_n 0, 1) := by decide +kernel
theorem dX7_region_315 : decode cX7_region 315 = .ok (.getfield 42, 3) := by decide +kernel
theorem dX7_region_318 : decode cX7_region 318 = .ok (.iload 8, 2) := by decide +kernel
theorem dX7_region_320 : decode cX7_region 320 = .ok (.iaload, 1) := by decide +kernel
theorem dX7_region_321 : decode cX7_region 321 = .ok (.iconst 1, 1) := by decide +kernel
theorem dX7_region_322 : decode cX7_region 322 = .ok (.iadd, 1) := by decide +kernel
theorem dX7_region_323 : decode cX7_region 323 = .ok (.lload 9, 2) := by decide +kernel
theorem dX7_region_325 : decode cX7_region 325 = .ok (.aload_n 0, 1) := by decide +kernel
theorem dX7_region_326 : decode cX7_region 326 = .ok (.getfield 76, 3) := by decide +kernel
theorem dX7_region_329 : decode cX7_region 329 = .ok (.iload 7, 2) := by decide +kernel
theorem dX7_region_331 : decode cX7_region 331 = .ok (.laload, 1) := by decide +kernel
theorem dX7_region_332 : decode cX7_region 332 = .ok (.aload_n 0, 1) := by decide +kernel
theorem dX7_region_333 : decode cX7_region 333 = .ok (.getfield 25, 3) := by decide +kernel
theorem dX7_region_336 : decode cX7_region 336 = .ok (.iload 8, 2) := by decide +kernel
theorem dX7_region_338 : decode cX7_region 338 = .ok (.laload, 1) := by decide +kernel
theorem dX7_region_339 : decode cX7_region 339 = .ok (.invokestatic 172, 3) := by decide +kernel
theorem dX7_region_342 : decode cX7_region 342 = .ok (.invokestatic 169, 3) := by decide +kernel
theorem dX7_region_345 : decode cX7_region 345 = .ok (.invokevirtual 175, 3) := by decide +kernel
theorem dX7_region_348 : decode cX7_region 348 = .ok (.goto 63, 3) := by decide +kernel
theorem dX7_region_351 : decode cX7_region 351 = .ok (.aload_n 0, 1) := by decide +kernel
theorem dX7_region_352 : decode cX7_region 352 = .ok (.iload_n 1, 1) := by decide +kernel
theorem dX7_region_353 : decode cX7_region 353 = .ok (.iload 7, 2) := by decide +kernel
theorem dX7_region_355 : decode cX7_region 355 = .ok (.invokevirtual 137, 3) := by decide +kernel
theorem dX7_region_358 : decode cX7_region 358 = .ok (.istore 11, 2) := by decide +kernel
theorem dX7_region_360 : decode cX7_region 360 = .ok (.iload 11, 2) := by decide +kernel
theorem dX7_region_362 : decode cX7_region 362 = .ok (.ifCond .lt 11, 3) := by decide +kernel
theorem dX7_region_365 : decode cX7_region 365 = .ok (.aload_n 0, 1) := by decide +kernel
theorem dX7_region_366 : decode cX7_region 366 = .ok (.iload 11, 2) := by decide +kernel
theorem dX7_region_368 : decode cX7_region 368 = .ok (.lload 9, 2) := by decide +kernel
theorem dX7_region_370 : decode cX7_region 370 = .ok (.invokevirtual 175, 3) := by decide +kernel
theorem dX7_region_373 : decode cX7_region 373 = .ok (.aload_n 0, 1) := by decide +kernel
theorem dX7_region_374 : decode cX7_region 374 = .ok (.getfield 22, 3) := by decide +kernel
theorem dX7_region_377 : decode cX7_region 377 = .ok (.iload 8, 2) := by decide +kernel
theorem dX7_region_379 : decode cX7_region 379 = .ok (.iaload, 1) := by decide +kernel
theorem dX7_region_380 : decode cX7_region 380 = .ok (.bipush 12, 2) := by decide +kernel
theorem dX7_region_382 : decode cX7_region 382 = .ok (.if_icmp .eq 15, 3) := by decide +kernel
theorem dX7_region_385 : decode cX7_region 385 = .ok (.aload_n 0, 1) := by decide +kernel
theorem dX7_region_386 : decode cX7_region 386 = .ok (.getfield 22, 3) := by decide +kernel
theorem dX7_region_389 : decode cX7_region 389 = .ok (.iload 8, 2) := by decide +kernel
theorem dX7_region_391 : decode cX7_region 391 = .ok (.iaload, 1) := by decide +kernel
theorem dX7_region_392 : decode cX7_region 392 = .ok (.bipush 13, 2) := by decide +kernel
theorem dX7_region_394 : decode cX7_region 394 = .ok (.if_icmp .ne 17, 3) := by decide +kernel
theorem dX7_region_397 : decode cX7_region 397 = .ok (.aload_n 0, 1) := by decide +kernel
theorem dX7_region_398 : decode cX7_region 398 = .ok (.aload_n 0, 1) := by decide +kernel
theorem dX7_region_399 : decode cX7_region 399 = .ok (.getfield 25, 3) := by decide +kernel
theorem dX7_region_402 : decode cX7_region 402 = .ok (.iload 8, 2) := by decide +kernel
theorem dX7_region_404 : decode cX7_region 404 = .ok (.laload, 1) := by decide +kernel
theorem dX7_region_405 : decode cX7_region 405 = .ok (.l2i, 1) := by decide +kernel
theorem dX7_region_406 : decode cX7_region 406 = .ok (.lload 9, 2) := by decide +kernel
theorem dX7_region_408 : decode cX7_region 408 = .ok (.invokevirtual 175, 3) := by decide +kernel
theorem dX7_region_411 : decode cX7_region 411 = .ok (.iinc 7 1, 3) := by decide +kernel
theorem dX7_region_414 : decode cX7_region 414 = .ok (.goto (-364), 3) := by decide +kernel
theorem dX7_region_417 : decode cX7_region 417 = .ok (.iload_n 2, 1) := by decide +kernel
theorem dX7_region_418 : decode cX7_region 418 = .ok (.ifCond .lt 18, 3) := by decide +kernel
theorem dX7_region_421 : decode cX7_region 421 = .ok (.aload_n 0, 1) := by decide +kernel
theorem dX7_region_422 : decode cX7_region 422 = .ok (.getfield 76, 3) := by decide +kernel
theorem dX7_region_425 : decode cX7_region 425 = .ok (.iload_n 2, 1) := by decide +kernel
theorem dX7_region_426 : decode cX7_region 426 = .ok (.lload 5, 2) := by decide +kernel
theorem dX7_region_428 : decode cX7_region 428 = .ok (.lastore, 1) := by decide +kernel
theorem dX7_region_429 : decode cX7_region 429 = .ok (.aload_n 0, 1) := by decide +kernel
theorem dX7_region_430 : decode cX7_region 430 = .ok (.getfield 79, 3) := by decide +kernel
theorem dX7_region_433 : decode cX7_region 433 = .ok (.iload_n 2, 1) := by decide +kernel
theorem dX7_region_434 : decode cX7_region 434 = .ok (.lload_n 3, 1) := by decide +kernel
theorem dX7_region_435 : decode cX7_region 435 = .ok (.lastore, 1) := by decide +kernel
theorem dX7_region_436 : decode cX7_region 436 = .ok (.lload_n 3, 1) := by decide +kernel
theorem dX7_region_437 : decode cX7_region 437 = .ok (.lreturn, 1) := by decide +kernel
theorem dX7_boundOne_0 : decode cX7_boundOne 0 = .ok (.aload_n 0, 1) := by decide +kernel
theorem dX7_boundOne_1 : decode cX7_boundOne 1 = .ok (.getfield 19, 3) := by decide +kernel
theorem dX7_boundOne_4 : decode cX7_boundOne 4 = .ok (.iload_n 1, 1) := by decide +kernel
theorem dX7_boundOne_5 : decode cX7_boundOne 5 = .ok (.iaload, 1) := by decide +kernel
theorem dX7_boundOne_6 : decode cX7_boundOne 6 = .ok (.iconst 1, 1) := by decide +kernel
