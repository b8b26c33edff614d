theorem dX7_boundOne_7 : decode cX7_boundOne 7 = .ok (.isub, 1) := by decide +kernel
theorem dX7_boundOne_8 : decode cX7_boundOne 8 = .ok (.istore_n 2, 1) := by decide +kernel
theorem dX7_boundOne_9 : decode cX7_boundOne 9 = .ok (.iload_n 2, 1) := by decide +kernel
theorem dX7_boundOne_10 : decode cX7_boundOne 10 = .ok (.ifCond .lt 32, 3) := by decide +kernel
theorem dX7_boundOne_13 : decode cX7_boundOne 13 = .ok (.aload_n 0, 1) := by decide +kernel
theorem dX7_boundOne_14 : decode cX7_boundOne 14 = .ok (.getfield 22, 3) := by decide +kernel
theorem dX7_boundOne_17 : decode cX7_boundOne 17 = .ok (.bipush 120, 2) := by decide +kernel
theorem dX7_boundOne_19 : decode cX7_boundOne 19 = .ok (.iload_n 1, 1) := by decide +kernel
theorem dX7_boundOne_20 : decode cX7_boundOne 20 = .ok (.imul, 1) := by decide +kernel
theorem dX7_boundOne_21 : decode cX7_boundOne 21 = .ok (.iload_n 2, 1) := by decide +kernel
theorem dX7_boundOne_22 : decode cX7_boundOne 22 = .ok (.iadd, 1) := by decide +kernel
theorem dX7_boundOne_23 : decode cX7_boundOne 23 = .ok (.iaload, 1) := by decide +kernel
theorem dX7_boundOne_24 : decode cX7_boundOne 24 = .ok (.bipush 14, 2) := by decide +kernel
theorem dX7_boundOne_26 : decode cX7_boundOne 26 = .ok (.if_icmp .ne 10, 3) := by decide +kernel
theorem dX7_boundOne_29 : decode cX7_boundOne 29 = .ok (.aload_n 0, 1) := by decide +kernel
theorem dX7_boundOne_30 : decode cX7_boundOne 30 = .ok (.iload_n 1, 1) := by decide +kernel
theorem dX7_boundOne_31 : decode cX7_boundOne 31 = .ok (.iload_n 2, 1) := by decide +kernel
theorem dX7_boundOne_32 : decode cX7_boundOne 32 = .ok (.invokevirtual 179, 3) := by decide +kernel
theorem dX7_boundOne_35 : decode cX7_boundOne 35 = .ok (.lstore_n 3, 1) := by decide +kernel
theorem dX7_boundOne_36 : decode cX7_boundOne 36 = .ok (.iinc 2 (-1), 3) := by decide +kernel
theorem dX7_boundOne_39 : decode cX7_boundOne 39 = .ok (.goto (-30), 3) := by decide +kernel
theorem dX7_boundOne_42 : decode cX7_boundOne 42 = .ok (.aload_n 0, 1) := by decide +kernel
theorem dX7_boundOne_43 : decode cX7_boundOne 43 = .ok (.getfield 70, 3) := by decide +kernel
theorem dX7_boundOne_46 : decode cX7_boundOne 46 = .ok (.iload_n 1, 1) := by decide +kernel
theorem dX7_boundOne_47 : decode cX7_boundOne 47 = .ok (.aload_n 0, 1) := by decide +kernel
theorem dX7_boundOne_48 : decode cX7_boundOne 48 = .ok (.iload_n 1, 1) := by decide +kernel
theorem dX7_boundOne_49 : decode cX7_boundOne 49 = .ok (.iconst (-1), 1) := by decide +kernel
theorem dX7_boundOne_50 : decode cX7_boundOne 50 = .ok (.invokevirtual 179, 3) := by decide +kernel
theorem dX7_boundOne_53 : decode cX7_boundOne 53 = .ok (.lastore, 1) := by decide +kernel
theorem dX7_boundOne_54 : decode cX7_boundOne 54 = .ok (.lconst 0, 1) := by decide +kernel
theorem dX7_boundOne_55 : decode cX7_boundOne 55 = .ok (.lstore_n 2, 1) := by decide +kernel
theorem dX7_boundOne_56 : decode cX7_boundOne 56 = .ok (.iconst 0, 1) := by decide +kernel
theorem dX7_boundOne_57 : decode cX7_boundOne 57 = .ok (.istore 4, 2) := by decide +kernel
theorem dX7_boundOne_59 : decode cX7_boundOne 59 = .ok (.iload 4, 2) := by decide +kernel
theorem dX7_boundOne_61 : decode cX7_boundOne 61 = .ok (.aload_n 0, 1) := by decide +kernel
theorem dX7_boundOne_62 : decode cX7_boundOne 62 = .ok (.getfield 19, 3) := by decide +kernel
theorem dX7_boundOne_65 : decode cX7_boundOne 65 = .ok (.iload_n 1, 1) := by decide +kernel
theorem dX7_boundOne_66 : decode cX7_boundOne 66 = .ok (.iaload, 1) := by decide +kernel
theorem dX7_boundOne_67 : decode cX7_boundOne 67 = .ok (.if_icmp .ge 133, 3) := by decide +kernel
theorem dX7_boundOne_70 : decode cX7_boundOne 70 = .ok (.bipush 120, 2) := by decide +kernel
theorem dX7_boundOne_72 : decode cX7_boundOne 72 = .ok (.iload_n 1, 1) := by decide +kernel
theorem dX7_boundOne_73 : decode cX7_boundOne 73 = .ok (.imul, 1) := by decide +kernel
theorem dX7_boundOne_74 : decode cX7_boundOne 74 = .ok (.iload 4, 2) := by decide +kernel
theorem dX7_boundOne_76 : decode cX7_boundOne 76 = .ok (.iadd, 1) := by decide +kernel
theorem dX7_boundOne_77 : decode cX7_boundOne 77 = .ok (.istore 5, 2) := by decide +kernel
theorem dX7_boundOne_79 : decode cX7_boundOne 79 = .ok (.aload_n 0, 1) := by decide +kernel
theorem dX7_boundOne_80 : decode cX7_boundOne 80 = .ok (.getfield 36, 3) := by decide +kernel
theorem dX7_boundOne_83 : decode cX7_boundOne 83 = .ok (.iload 5, 2) := by decide +kernel
theorem dX7_boundOne_85 : decode cX7_boundOne 85 = .ok (.iaload, 1) := by decide +kernel
theorem dX7_boundOne_86 : decode cX7_boundOne 86 = .ok (.istore 6, 2) := by decide +kernel
theorem dX7_boundOne_88 : decode cX7_boundOne 88 = .ok (.iload 6, 2) := by decide +kernel
theorem dX7_boundOne_90 : decode cX7_boundOne 90 = .ok (.ifCond .lt 104, 3) := by decide +kernel
theorem dX7_boundOne_93 : decode cX7_boundOne 93 = .ok (.aload_n 0, 1) := by decide +kernel
theorem dX7_boundOne_94 : decode cX7_boundOne 94 = .ok (.getfield 16, 3) := by decide +kernel
theorem dX7_boundOne_97 : decode cX7_boundOne 97 = .ok (.iload_n 1, 1) := by decide +kernel
theorem dX7_boundOne_98 : decode cX7_boundOne 98 = .ok (.iaload, 1) := by decide +kernel
theorem dX7_boundOne_99 : decode cX7_boundOne 99 = .ok (.aload_n 0, 1) := by decide +kernel
theorem dX7_boundOne_100 : decode cX7_boundOne 100 = .ok (.iload_n 1, 1) := by decide +kernel
theorem dX7_boundOne_101 : decode cX7_boundOne 101 = .ok (.iload 5, 2) := by decide +kernel
theorem dX7_boundOne_103 : decode cX7_boundOne 103 = .ok (.invokevirtual 133, 3) := by decide +kernel
theorem dX7_boundOne_106 : decode cX7_boundOne 106 = .ok (.ifCond .le 16, 3) := by decide +kernel
theorem dX7_boundOne_109 : decode cX7_boundOne 109 = .ok (.iload 6, 2) := by decide +kernel
theorem dX7_boundOne_111 : decode cX7_boundOne 111 = .ok (.aload_n 0, 1) := by decide +kernel
theorem dX7_boundOne_112 : decode cX7_boundOne 112 = .ok (.iload_n 1, 1) := by decide +kernel
theorem dX7_boundOne_113 : decode cX7_boundOne 113 = .ok (.iload 5, 2) := by decide +kernel
theorem dX7_boundOne_115 : decode cX7_boundOne 115 = .ok (.invokevirtual 133, 3) := by decide +kernel
theorem dX7_boundOne_118 : decode cX7_boundOne 118 = .ok (.iadd, 1) := by decide +kernel
theorem dX7_boundOne_119 : decode cX7_boundOne 119 = .ok (.goto 5, 3) := by decide +kernel
theorem dX7_boundOne_122 : decode cX7_boundOne 122 = .ok (.iload 6, 2) := by decide +kernel
theorem dX7_boundOne_124 : decode cX7_boundOne 124 = .ok (.iadd, 1) := by decide +kernel
theorem dX7_boundOne_125 : decode cX7_boundOne 125 = .ok (.i2l, 1) := by decide +kernel
theorem dX7_boundOne_126 : decode cX7_boundOne 126 = .ok (.lstore 7, 2) := by decide +kernel
theorem dX7_boundOne_128 : decode cX7_boundOne 128 = .ok (.lload_n 2, 1) := by decide +kernel
theorem dX7_boundOne_129 : decode cX7_boundOne 129 = .ok (.lload 7, 2) := by decide +kernel
theorem dX7_boundOne_131 : decode cX7_boundOne 131 = .ok (.invokestatic 163, 3) := by decide +kernel
theorem dX7_boundOne_134 : decode cX7_boundOne 134 = .ok (.lstore_n 2, 1) := by decide +kernel
theorem dX7_boundOne_135 : decode cX7_boundOne 135 = .ok (.aload_n 0, 1) := by decide +kernel
theorem dX7_boundOne_136 : decode cX7_boundOne 136 = .ok (.getfield 22, 3) := by decide +kernel
theorem dX7_boundOne_139 : decode cX7_boundOne 139 = .ok (.iload 5, 2) := by decide +kernel
theorem dX7_boundOne_141 : decode cX7_boundOne 141 = .ok (.iaload, 1) := by decide +kernel
theorem dX7_boundOne_142 : decode cX7_boundOne 142 = .ok (.bipush 16, 2) := by decide +kernel
theorem dX7_boundOne_144 : decode cX7_boundOne 144 = .ok (.if_icmp .ne 50, 3) := by decide +kernel
theorem dX7_boundOne_147 : decode cX7_boundOne 147 = .ok (.aload_n 0, 1) := by decide +kernel
theorem dX7_boundOne_148 : decode cX7_boundOne 148 = .ok (.getfield 25, 3) := by decide +kernel
theorem dX7_boundOne_151 : decode cX7_boundOne 151 = .ok (.iload 5, 2) := by decide +kernel
theorem dX7_boundOne_153 : decode cX7_boundOne 153 = .ok (.laload, 1) := by decide +kernel
theorem dX7_boundOne_154 : decode cX7_boundOne 154 = .ok (.l2i, 1) := by decide +kernel
theorem dX7_boundOne_155 : decode cX7_boundOne 155 = .ok (.istore 9, 2) := by decide +kernel
theorem dX7_boundOne_157 : decode cX7_boundOne 157 = .ok (.lload_n 2, 1) := by decide +kernel
theorem dX7_boundOne_158 : decode cX7_boundOne 158 = .ok (.aload_n 0, 1) := by decide +kernel
theorem dX7_boundOne_159 : decode cX7_boundOne 159 = .ok (.getfield 16, 3) := by decide +kernel
theorem dX7_boundOne_162 : decode cX7_boundOne 162 = .ok (.iload_n 1, 1) := by decide +kernel
theorem dX7_boundOne_163 : decode cX7_boundOne 163 = .ok (.iaload, 1) := by decide +kernel
theorem dX7_boundOne_164 : decode cX7_boundOne 164 = .ok (.iload 6, 2) := by decide +kernel
theorem dX7_boundOne_166 : decode cX7_boundOne 166 = .ok (.iadd, 1) := by decide +kernel
theorem dX7_boundOne_167 : decode cX7_boundOne 167 = .ok (.aload_n 0, 1) := by decide +kernel
theorem dX7_boundOne_168 : decode cX7_boundOne 168 = .ok (.getfield 7, 3) := by decide +kernel
theorem dX7_boundOne_171 : decode cX7_boundOne 171 = .ok (.iload 9, 2) := by decide +kernel
theorem dX7_boundOne_173 : decode cX7_boundOne 173 = .ok (.iaload, 1) := by decide +kernel
theorem dX7_boundOne_174 : decode cX7_boundOne 174 = .ok (.isub, 1) := by decide +kernel
theorem dX7_boundOne_175 : decode cX7_boundOne 175 = .ok (.i2l, 1) := by decide +kernel
theorem dX7_boundOne_176 : decode cX7_boundOne 176 = .ok (.ldc2_w 183, 3) := by decide +kernel
theorem dX7_boundOne_179 : decode cX7_boundOne 179 = .ok (.ladd, 1) := by decide +kernel
theorem dX7_boundOne_180 : decode cX7_boundOne 180 = .ok (.aload_n 0, 1) := by decide +kernel
theorem dX7_boundOne_181 : decode cX7_boundOne 181 = .ok (.getfield 67, 3) := by decide +kernel
theorem dX7_boundOne_184 : decode cX7_boundOne 184 = .ok (.iload 9, 2) := by decide +kernel
theorem dX7_boundOne_186 : decode cX7_boundOne 186 = .ok (.laload, 1) := by decide +kernel
theorem dX7_boundOne_187 : decode cX7_boundOne 187 = .ok (.invokestatic 169, 3) := by decide +kernel
theorem dX7_boundOne_190 : decode cX7_boundOne 190 = .ok (.invokestatic 163, 3) := by decide +kernel
theorem dX7_boundOne_193 : decode cX7_boundOne 193 = .ok (.lstore_n 2, 1) := by decide +kernel
theorem dX7_boundOne_194 : decode cX7_boundOne 194 = .ok (.iinc 4 1, 3) := by decide +kernel
theorem dX7_boundOne_197 : decode cX7_boundOne 197 = .ok (.goto (-138), 3) := by decide +kernel
theorem dX7_boundOne_200 : decode cX7_boundOne 200 = .ok (.aload_n 0, 1) := by decide +kernel
theorem dX7_boundOne_201 : decode cX7_boundOne 201 = .ok (.getfield 67, 3) := by decide +kernel
theorem dX7_boundOne_204 : decode cX7_boundOne 204 = .ok (.iload_n 1, 1) := by decide +kernel
theorem dX7_boundOne_205 : decode cX7_boundOne 205 = .ok (.lload_n 2, 1) := by decide +kernel
theorem dX7_boundOne_206 : decode cX7_boundOne 206 = .ok (.lastore, 1) := by decide +kernel
theorem dX7_boundOne_207 : decode cX7_boundOne 207 = .ok (.aload_n 0, 1) := by decide +kernel
theorem dX7_boundOne_208 : decode cX7_boundOne 208 = .ok (.getfield 64, 3) := by decide +kernel
theorem dX7_boundOne_211 : decode cX7_boundOne 211 = .ok (.iload_n 1, 1) := by decide +kernel
theorem dX7_boundOne_212 : decode cX7_boundOne 212 = .ok (.iconst 1, 1) := by decide +kernel
theorem dX7_boundOne_213 : decode cX7_boundOne 213 = .ok (.bastore, 1) := by decide +kernel
theorem dX7_boundOne_214 : decode cX7_boundOne 214 = .ok (.return_, 1) := by decide +kernel
theorem dX7_calls_0 : decode cX7_calls 0 = .ok (.iconst 0, 1) := by decide +kernel
theorem dX7_calls_1 : decode cX7_calls 1 = .ok (.istore_n 3, 1) := by decide +kernel
theorem dX7_calls_2 : decode cX7_calls 2 = .ok (.iload_n 3, 1) := by decide +kernel
theorem dX7_calls_3 : decode cX7_calls 3 = .ok (.aload_n 0, 1) := by decide +kernel
theorem dX7_calls_4 : decode cX7_calls 4 = .ok (.getfield 19, 3) := by decide +kernel
theorem dX7_calls_7 : decode cX7_calls 7 = .ok (.iload_n 1, 1) := by decide +kernel
theorem dX7_calls_8 : decode cX7_calls 8 = .ok (.iaload, 1) := by decide +kernel
theorem dX7_calls_9 : decode cX7_calls 9 = .ok (.if_icmp .ge 54, 3) := by decide +kernel
theorem dX7_calls_12 : decode cX7_calls 12 = .ok (.bipush 120, 2) := by decide +kernel
theorem dX7_calls_14 : decode cX7_calls 14 = .ok (.iload_n 1, 1) := by decide +kernel
theorem dX7_calls_15 : decode cX7_calls 15 = .ok (.imul, 1) := by decide +kernel
theorem dX7_calls_16 : decode cX7_calls 16 = .ok (.iload_n 3, 1) := by decide +kernel
theorem dX7_calls_17 : decode cX7_calls 17 = .ok (.iadd, 1) := by decide +kernel
theorem dX7_calls_18 : decode cX7_calls 18 = .ok (.istore 4, 2) := by decide +kernel
theorem dX7_calls_20 : decode cX7_calls 20 = .ok (.aload_n 0, 1) := by decide +kernel
theorem dX7_calls_21 : decode cX7_calls 21 = .ok (.getfield 22, 3) := by decide +kernel
theorem dX7_calls_24 : decode cX7_calls 24 = .ok (.iload 4, 2) := by decide +kernel
theorem dX7_calls_26 : decode cX7_calls 26 = .ok (.iaload, 1) := by decide +kernel
theorem dX7_calls_27 : decode cX7_calls 27 = .ok (.bipush 16, 2) := by decide +kernel
theorem dX7_calls_29 : decode cX7_calls 29 = .ok (.if_icmp .ne 28, 3) := by decide +kernel
theorem dX7_calls_32 : decode cX7_calls 32 = .ok (.aload_n 0, 1) := by decide +kernel
theorem dX7_calls_33 : decode cX7_calls 33 = .ok (.getfield 36, 3) := by decide +kernel
theorem dX7_calls_36 : decode cX7_calls 36 = .ok (.iload 4, 2) := by decide +kernel
theorem dX7_calls_38 : decode cX7_calls 38 = .ok (.iaload, 1) := by decide +kernel
theorem dX7_calls_39 : decode cX7_calls 39 = .ok (.ifCond .lt 18, 3) := by decide +kernel
theorem dX7_calls_42 : decode cX7_calls 42 = .ok (.aload_n 0, 1) := by decide +kernel
theorem dX7_calls_43 : decode cX7_calls 43 = .ok (.getfield 25, 3) := by decide +kernel
theorem dX7_calls_46 : decode cX7_calls 46 = .ok (.iload 4, 2) := by decide +kernel
theorem dX7_calls_48 : decode cX7_calls 48 = .ok (.laload, 1) := by decide +kernel
theorem dX7_calls_49 : decode cX7_calls 49 = .ok (.iload_n 2, 1) := by decide +kernel
theorem dX7_calls_50 : decode cX7_calls 50 = .ok (.i2l, 1) := by decide +kernel
theorem dX7_calls_51 : decode cX7_calls 51 = .ok (.lcmp, 1) := by decide +kernel
theorem dX7_calls_52 : decode cX7_calls 52 = .ok (.ifCond .ne 5, 3) := by decide +kernel
theorem dX7_calls_55 : decode cX7_calls 55 = .ok (.iconst 1, 1) := by decide +kernel
theorem dX7_calls_56 : decode cX7_calls 56 = .ok (.ireturn, 1) := by decide +kernel
theorem dX7_calls_57 : decode cX7_calls 57 = .ok (.iinc 3 1, 3) := by decide +kernel
theorem dX7_calls_60 : decode cX7_calls 60 = .ok (.goto (-58), 3) := by decide +kernel
theorem dX7_calls_63 : decode cX7_calls 63 = .ok (.iconst 0, 1) := by decide +kernel
theorem dX7_calls_64 : decode cX7_calls 64 = .ok (.ireturn, 1) := by decide +kernel
theorem dX7_analyseFrom_0 : decode cX7_analyseFrom 0 = .ok (.aload_n 0, 1) := by decide +kernel
theorem dX7_analyseFrom_1 : decode cX7_analyseFrom 1 = .ok (.invokevirtual 185, 3) := by decide +kernel
theorem dX7_analyseFrom_4 : decode cX7_analyseFrom 4 = .ok (.iconst 0, 1) := by decide +kernel
theorem dX7_analyseFrom_5 : decode cX7_analyseFrom 5 = .ok (.istore_n 2, 1) := by decide +kernel
theorem dX7_analyseFrom_6 : decode cX7_analyseFrom 6 = .ok (.iload_n 2, 1) := by decide +kernel
theorem dX7_analyseFrom_7 : decode cX7_analyseFrom 7 = .ok (.bipush 32, 2) := by decide +kernel
theorem dX7_analyseFrom_9 : decode cX7_analyseFrom 9 = .ok (.if_icmp .ge 46, 3) := by decide +kernel
theorem dX7_analyseFrom_12 : decode cX7_analyseFrom 12 = .ok (.aload_n 0, 1) := by decide +kernel
theorem dX7_analyseFrom_13 : decode cX7_analyseFrom 13 = .ok (.getfield 54, 3) := by decide +kernel
theorem dX7_analyseFrom_16 : decode cX7_analyseFrom 16 = .ok (.iload_n 2, 1) := by decide +kernel
theorem dX7_analyseFrom_17 : decode cX7_analyseFrom 17 = .ok (.iload_n 2, 1) := by decide +kernel
theorem dX7_analyseFrom_18 : decode cX7_analyseFrom 18 = .ok (.iload_n 1, 1) := by decide +kernel
theorem dX7_analyseFrom_19 : decode cX7_analyseFrom 19 = .ok (.if_icmp .ne 7, 3) := by decide +kernel
theorem dX7_analyseFrom_22 : decode cX7_analyseFrom 22 = .ok (.iconst 1, 1) := by decide +kernel
theorem dX7_analyseFrom_23 : decode cX7_analyseFrom 23 = .ok (.goto 4, 3) := by decide +kernel
theorem dX7_analyseFrom_26 : decode cX7_analyseFrom 26 = .ok (.iconst 0, 1) := by decide +kernel
theorem dX7_analyseFrom_27 : decode cX7_analyseFrom 27 = .ok (.bastore, 1) := by decide +kernel
theorem dX7_analyseFrom_28 : decode cX7_analyseFrom 28 = .ok (.aload_n 0, 1) := by decide +kernel
theorem dX7_analyseFrom_29 : decode cX7_analyseFrom 29 = .ok (.getfield 58, 3) := by decide +kernel
theorem dX7_analyseFrom_32 : decode cX7_analyseFrom 32 = .ok (.iload_n 2, 1) := by decide +kernel
theorem dX7_analyseFrom_33 : decode cX7_analyseFrom 33 = .ok (.iconst 0, 1) := by decide +kernel
theorem dX7_analyseFrom_34 : decode cX7_analyseFrom 34 = .ok (.bastore, 1) := by decide +kernel
theorem dX7_analyseFrom_35 : decode cX7_analyseFrom 35 = .ok (.aload_n 0, 1) := by decide +kernel
theorem dX7_analyseFrom_36 : decode cX7_analyseFrom 36 = .ok (.getfield 61, 3) := by decide +kernel
theorem dX7_analyseFrom_39 : decode cX7_analyseFrom 39 = .ok (.iload_n 2, 1) := by decide +kernel
theorem dX7_analyseFrom_40 : decode cX7_analyseFrom 40 = .ok (.iconst 0, 1) := by decide +kernel
theorem dX7_analyseFrom_41 : decode cX7_analyseFrom 41 = .ok (.bastore, 1) := by decide +kernel
theorem dX7_analyseFrom_42 : decode cX7_analyseFrom 42 = .ok (.aload_n 0, 1) := by decide +kernel
theorem dX7_analyseFrom_43 : decode cX7_analyseFrom 43 = .ok (.getfield 64, 3) := by decide +kernel
theorem dX7_analyseFrom_46 : decode cX7_analyseFrom 46 = .ok (.iload_n 2, 1) := by decide +kernel
theorem dX7_analyseFrom_47 : decode cX7_analyseFrom 47 = .ok (.iconst 0, 1) := by decide +kernel
theorem dX7_analyseFrom_48 : decode cX7_analyseFrom 48 = .ok (.bastore, 1) := by decide +kernel
theorem dX7_analyseFrom_49 : decode cX7_analyseFrom 49 = .ok (.iinc 2 1, 3) := by decide +kernel
theorem dX7_analyseFrom_52 : decode cX7_analyseFrom 52 = .ok (.goto (-46), 3) := by decide +kernel
theorem dX7_analyseFrom_55 : decode cX7_analyseFrom 55 = .ok (.iconst 0, 1) := by decide +kernel
theorem dX7_analyseFrom_56 : decode cX7_analyseFrom 56 = .ok (.istore_n 2, 1) := by decide +kernel
theorem dX7_analyseFrom_57 : decode cX7_analyseFrom 57 = .ok (.iconst 1, 1) := by decide +kernel
theorem dX7_analyseFrom_58 : decode cX7_analyseFrom 58 = .ok (.istore_n 3, 1) := by decide +kernel
theorem dX7_analyseFrom_59 : decode cX7_analyseFrom 59 = .ok (.iload_n 3, 1) := by decide +kernel
theorem dX7_analyseFrom_60 : decode cX7_analyseFrom 60 = .ok (.ifCond .eq 95, 3) := by decide +kernel
theorem dX7_analyseFrom_63 : decode cX7_analyseFrom 63 = .ok (.iconst 0, 1) := by decide +kernel
theorem dX7_analyseFrom_64 : decode cX7_analyseFrom 64 = .ok (.istore_n 3, 1) := by decide +kernel
theorem dX7_analyseFrom_65 : decode cX7_analyseFrom 65 = .ok (.iconst 0, 1) := by decide +kernel
theorem dX7_analyseFrom_66 : decode cX7_analyseFrom 66 = .ok (.istore 4, 2) := by decide +kernel
theorem dX7_analyseFrom_68 : decode cX7_analyseFrom 68 = .ok (.iload 4, 2) := by decide +kernel
theorem dX7_analyseFrom_70 : decode cX7_analyseFrom 70 = .ok (.aload_n 0, 1) := by decide +kernel
theorem dX7_analyseFrom_71 : decode cX7_analyseFrom 71 = .ok (.getfield 109, 3) := by decide +kernel
theorem dX7_analyseFrom_74 : decode cX7_analyseFrom 74 = .ok (.if_icmp .ge 78, 3) := by decide +kernel
theorem dX7_analyseFrom_77 : decode cX7_analyseFrom 77 = .ok (.iconst 0, 1) := by decide +kernel
theorem dX7_analyseFrom_78 : decode cX7_analyseFrom 78 = .ok (.istore 5, 2) := by decide +kernel
theorem dX7_analyseFrom_80 : decode cX7_analyseFrom 80 = .ok (.iload 5, 2) := by decide +kernel
theorem dX7_analyseFrom_82 : decode cX7_analyseFrom 82 = .ok (.aload_n 0, 1) := by decide +kernel
theorem dX7_analyseFrom_83 : decode cX7_analyseFrom 83 = .ok (.getfield 109, 3) := by decide +kernel
theorem dX7_analyseFrom_86 : decode cX7_analyseFrom 86 = .ok (.if_icmp .ge 60, 3) := by decide +kernel
theorem dX7_analyseFrom_89 : decode cX7_analyseFrom 89 = .ok (.aload_n 0, 1) := by decide +kernel
theorem dX7_analyseFrom_90 : decode cX7_analyseFrom 90 = .ok (.getfield 54, 3) := by decide +kernel
theorem dX7_analyseFrom_93 : decode cX7_analyseFrom 93 = .ok (.iload 4, 2) := by decide +kernel
theorem dX7_analyseFrom_95 : decode cX7_analyseFrom 95 = .ok (.baload, 1) := by decide +kernel
theorem dX7_analyseFrom_96 : decode cX7_analyseFrom 96 = .ok (.ifCond .eq 50, 3) := by decide +kernel
theorem dX7_analyseFrom_99 : decode cX7_analyseFrom 99 = .ok (.aload_n 0, 1) := by decide +kernel
theorem dX7_analyseFrom_100 : decode cX7_analyseFrom 100 = .ok (.getfield 48, 3) := by decide +kernel
theorem dX7_analyseFrom_103 : decode cX7_analyseFrom 103 = .ok (.iload 4, 2) := by decide +kernel
theorem dX7_analyseFrom_105 : decode cX7_analyseFrom 105 = .ok (.iaload, 1) := by decide +kernel
theorem dX7_analyseFrom_106 : decode cX7_analyseFrom 106 = .ok (.ifCond .ne 40, 3) := by decide +kernel
theorem dX7_analyseFrom_109 : decode cX7_analyseFrom 109 = .ok (.aload_n 0, 1) := by decide +kernel
theorem dX7_analyseFrom_110 : decode cX7_analyseFrom 110 = .ok (.getfield 54, 3) := by decide +kernel
theorem dX7_analyseFrom_113 : decode cX7_analyseFrom 113 = .ok (.iload 5, 2) := by decide +kernel
theorem dX7_analyseFrom_115 : decode cX7_analyseFrom 115 = .ok (.baload, 1) := by decide +kernel
theorem dX7_analyseFrom_116 : decode cX7_analyseFrom 116 = .ok (.ifCond .ne 24, 3) := by decide +kernel
theorem dX7_analyseFrom_119 : decode cX7_analyseFrom 119 = .ok (.aload_n 0, 1) := by decide +kernel
theorem dX7_analyseFrom_120 : decode cX7_analyseFrom 120 = .ok (.iload 4, 2) := by decide +kernel
theorem dX7_analyseFrom_122 : decode cX7_analyseFrom 122 = .ok (.iload 5, 2) := by decide +kernel
theorem dX7_analyseFrom_124 : decode cX7_analyseFrom 124 = .ok (.invokevirtual 188, 3) := by decide +kernel
theorem dX7_analyseFrom_127 : decode cX7_analyseFrom 127 = .ok (.ifCond .eq 13, 3) := by decide +kernel
theorem dX7_analyseFrom_130 : decode cX7_analyseFrom 130 = .ok (.aload_n 0, 1) := by decide +kernel
theorem dX7_analyseFrom_131 : decode cX7_analyseFrom 131 = .ok (.getfield 54, 3) := by decide +kernel
theorem dX7_analyseFrom_134 : decode cX7_analyseFrom 134 = .ok (.iload 5, 2) := by decide +kernel
theorem dX7_analyseFrom_136 : decode cX7_analyseFrom 136 = .ok (.iconst 1, 1) := by decide +kernel
theorem dX7_analyseFrom_137 : decode cX7_analyseFrom 137 = .ok (.bastore, 1) := by decide +kernel
theorem dX7_analyseFrom_138 : decode cX7_analyseFrom 138 = .ok (.iconst 1, 1) := by decide +kernel
theorem dX7_analyseFrom_139 : decode cX7_analyseFrom 139 = .ok (.istore_n 3, 1) := by decide +kernel
theorem dX7_analyseFrom_140 : decode cX7_analyseFrom 140 = .ok (.iinc 5 1, 3) := by decide +kernel
theorem dX7_analyseFrom_143 : decode cX7_analyseFrom 143 = .ok (.goto (-63), 3) := by decide +kernel
theorem dX7_analyseFrom_146 : decode cX7_analyseFrom 146 = .ok (.iinc 4 1, 3) := by decide +kernel
theorem dX7_analyseFrom_149 : decode cX7_analyseFrom 149 = .ok (.goto (-81), 3) := by decide +kernel
theorem dX7_analyseFrom_152 : decode cX7_analyseFrom 152 = .ok (.goto (-93), 3) := by decide +kernel
theorem dX7_analyseFrom_155 : decode cX7_analyseFrom 155 = .ok (.iconst 0, 1) := by decide +kernel
theorem dX7_analyseFrom_156 : decode cX7_analyseFrom 156 = .ok (.istore 4, 2) := by decide +kernel
theorem dX7_analyseFrom_158 : decode cX7_analyseFrom 158 = .ok (.iload 4, 2) := by decide +kernel
theorem dX7_analyseFrom_160 : decode cX7_analyseFrom 160 = .ok (.aload_n 0, 1) := by decide +kernel
theorem dX7_analyseFrom_161 : decode cX7_analyseFrom 161 = .ok (.getfield 109, 3) := by decide +kernel
theorem dX7_analyseFrom_164 : decode cX7_analyseFrom 164 = .ok (.if_icmp .ge 51, 3) := by decide +kernel
theorem dX7_analyseFrom_167 : decode cX7_analyseFrom 167 = .ok (.aload_n 0, 1) := by decide +kernel
theorem dX7_analyseFrom_168 : decode cX7_analyseFrom 168 = .ok (.getfield 58, 3) := by decide +kernel
theorem dX7_analyseFrom_171 : decode cX7_analyseFrom 171 = .ok (.iload 4, 2) := by decide +kernel
theorem dX7_analyseFrom_173 : decode cX7_analyseFrom 173 = .ok (.aload_n 0, 1) := by decide +kernel
theorem dX7_analyseFrom_174 : decode cX7_analyseFrom 174 = .ok (.getfield 54, 3) := by decide +kernel
theorem dX7_analyseFrom_177 : decode cX7_analyseFrom 177 = .ok (.iload 4, 2) := by decide +kernel
theorem dX7_analyseFrom_179 : decode cX7_analyseFrom 179 = .ok (.baload, 1) := by decide +kernel
theorem dX7_analyseFrom_180 : decode cX7_analyseFrom 180 = .ok (.ifCond .eq 17, 3) := by decide +kernel
theorem dX7_analyseFrom_183 : decode cX7_analyseFrom 183 = .ok (.aload_n 0, 1) := by decide +kernel
theorem dX7_analyseFrom_184 : decode cX7_analyseFrom 184 = .ok (.getfield 48, 3) := by decide +kernel
theorem dX7_analyseFrom_187 : decode cX7_analyseFrom 187 = .ok (.iload 4, 2) := by decide +kernel
theorem dX7_analyseFrom_189 : decode cX7_analyseFrom 189 = .ok (.iaload, 1) := by decide +kernel
theorem dX7_analyseFrom_190 : decode cX7_analyseFrom 190 = .ok (.ifCond .le 7, 3) := by decide +kernel
theorem dX7_analyseFrom_193 : decode cX7_analyseFrom 193 = .ok (.iconst 1, 1) := by decide +kernel
theorem dX7_analyseFrom_194 : decode cX7_analyseFrom 194 = .ok (.goto 4, 3) := by decide +kernel
theorem dX7_analyseFrom_197 : decode cX7_analyseFrom 197 = .ok (.iconst 0, 1) := by decide +kernel
theorem dX7_analyseFrom_198 : decode cX7_analyseFrom 198 = .ok (.bastore, 1) := by decide +kernel
theorem dX7_analyseFrom_199 : decode cX7_analyseFrom 199 = .ok (.iload_n 2, 1) := by decide +kernel
theorem dX7_analyseFrom_200 : decode cX7_analyseFrom 200 = .ok (.aload_n 0, 1) := by decide +kernel
theorem dX7_analyseFrom_201 : decode cX7_analyseFrom 201 = .ok (.getfield 58, 3) := by decide +kernel
theorem dX7_analyseFrom_204 : decode cX7_analyseFrom 204 = .ok (.iload 4, 2) := by decide +kernel
theorem dX7_analyseFrom_206 : decode cX7_analyseFrom 206 = .ok (.baload, 1) := by decide +kernel
theorem dX7_analyseFrom_207 : decode cX7_analyseFrom 207 = .ok (.ior, 1) := by decide +kernel
theorem dX7_analyseFrom_208 : decode cX7_analyseFrom 208 = .ok (.istore_n 2, 1) := by decide +kernel
theorem dX7_analyseFrom_209 : decode cX7_analyseFrom 209 = .ok (.iinc 4 1, 3) := by decide +kernel
theorem dX7_analyseFrom_212 : decode cX7_analyseFrom 212 = .ok (.goto (-54), 3) := by decide +kernel
theorem dX7_analyseFrom_215 : decode cX7_analyseFrom 215 = .ok (.iload_n 2, 1) := by decide +kernel
theorem dX7_analyseFrom_216 : decode cX7_analyseFrom 216 = .ok (.ifCond .eq 5, 3) := by decide +kernel
theorem dX7_analyseFrom_219 : decode cX7_analyseFrom 219 = .ok (.iconst 1, 1) := by decide +kernel
theorem dX7_analyseFrom_220 : decode cX7_analyseFrom 220 = .ok (.ireturn, 1) := by decide +kernel
theorem dX7_analyseFrom_221 : decode cX7_analyseFrom 221 = .ok (.aload_n 0, 1) := by decide +kernel
theorem dX7_analyseFrom_222 : decode cX7_analyseFrom 222 = .ok (.invokevirtual 191, 3) := by decide +kernel
theorem dX7_analyseFrom_225 : decode cX7_analyseFrom 225 = .ok (.ifCond .eq 7, 3) := by decide +kernel
theorem dX7_analyseFrom_228 : decode cX7_analyseFrom 228 = .ok (.iconst 2, 1) := by decide +kernel
theorem dX7_analyseFrom_229 : decode cX7_analyseFrom 229 = .ok (.goto 7, 3) := by decide +kernel
theorem dX7_analyseFrom_232 : decode cX7_analyseFrom 232 = .ok (.aload_n 0, 1) := by decide +kernel
theorem dX7_analyseFrom_233 : decode cX7_analyseFrom 233 = .ok (.invokevirtual 195, 3) := by decide +kernel
theorem dX7_analyseFrom_236 : decode cX7_analyseFrom 236 = .ok (.ireturn, 1) := by decide +kernel
theorem dX7_isRound_0 : decode cX7_isRound 0 = .ok (.iconst 0, 1) := by decide +kernel
theorem dX7_isRound_1 : decode cX7_isRound 1 = .ok (.istore_n 1, 1) := by decide +kernel
theorem dX7_isRound_2 : decode cX7_isRound 2 = .ok (.iload_n 1, 1) := by decide +kernel
theorem dX7_isRound_3 : decode cX7_isRound 3 = .ok (.aload_n 0, 1) := by decide +kernel
theorem dX7_isRound_4 : decode cX7_isRound 4 = .ok (.getfield 109, 3) := by decide +kernel
theorem dX7_isRound_7 : decode cX7_isRound 7 = .ok (.if_icmp .ge 59, 3) := by decide +kernel
theorem dX7_isRound_10 : decode cX7_isRound 10 = .ok (.iconst 0, 1) := by decide +kernel
theorem dX7_isRound_11 : decode cX7_isRound 11 = .ok (.istore_n 2, 1) := by decide +kernel
theorem dX7_isRound_12 : decode cX7_isRound 12 = .ok (.iload_n 2, 1) := by decide +kernel
theorem dX7_isRound_13 : decode cX7_isRound 13 = .ok (.aload_n 0, 1) := by decide +kernel
theorem dX7_isRound_14 : decode cX7_isRound 14 = .ok (.getfield 109, 3) := by decide +kernel
theorem dX7_isRound_17 : decode cX7_isRound 17 = .ok (.if_icmp .ge 43, 3) := by decide +kernel
theorem dX7_isRound_20 : decode cX7_isRound 20 = .ok (.aload_n 0, 1) := by decide +kernel
theorem dX7_isRound_21 : decode cX7_isRound 21 = .ok (.getfield 82, 3) := by decide +kernel
theorem dX7_isRound_24 : decode cX7_isRound 24 = .ok (.bipush 32, 2) := by decide +kernel
theorem dX7_isRound_26 : decode cX7_isRound 26 = .ok (.iload_n 1, 1) := by decide +kernel
theorem dX7_isRound_27 : decode cX7_isRound 27 = .ok (.imul, 1) := by decide +kernel
theorem dX7_isRound_28 : decode cX7_isRound 28 = .ok (.iload_n 2, 1) := by decide +kernel
theorem dX7_isRound_29 : decode cX7_isRound 29 = .ok (.iadd, 1) := by decide +kernel
theorem dX7_isRound_30 : decode cX7_isRound 30 = .ok (.aload_n 0, 1) := by decide +kernel
theorem dX7_isRound_31 : decode cX7_isRound 31 = .ok (.getfield 54, 3) := by decide +kernel
theorem dX7_isRound_34 : decode cX7_isRound 34 = .ok (.iload_n 1, 1) := by decide +kernel
theorem dX7_isRound_35 : decode cX7_isRound 35 = .ok (.baload, 1) := by decide +kernel
theorem dX7_isRound_36 : decode cX7_isRound 36 = .ok (.ifCond .eq 16, 3) := by decide +kernel
theorem dX7_isRound_39 : decode cX7_isRound 39 = .ok (.aload_n 0, 1) := by decide +kernel
theorem dX7_isRound_40 : decode cX7_isRound 40 = .ok (.iload_n 1, 1) := by decide +kernel
theorem dX7_isRound_41 : decode cX7_isRound 41 = .ok (.iload_n 2, 1) := by decide +kernel
theorem dX7_isRound_42 : decode cX7_isRound 42 = .ok (.invokevirtual 188, 3) := by decide +kernel
theorem dX7_isRound_45 : decode cX7_isRound 45 = .ok (.ifCond .eq 7, 3) := by decide +kernel
theorem dX7_isRound_48 : decode cX7_isRound 48 = .ok (.iconst 1, 1) := by decide +kernel
theorem dX7_isRound_49 : decode cX7_isRound 49 = .ok (.goto 4, 3) := by decide +kernel
theorem dX7_isRound_52 : decode cX7_isRound 52 = .ok (.iconst 0, 1) := by decide +kernel
theorem dX7_isRound_53 : decode cX7_isRound 53 = .ok (.bastore, 1) := by decide +kernel
theorem dX7_isRound_54 : decode cX7_isRound 54 = .ok (.iinc 2 1, 3) := by decide +kernel
theorem dX7_isRound_57 : decode cX7_isRound 57 = .ok (.goto (-45), 3) := by decide +kernel
theorem dX7_isRound_60 : decode cX7_isRound 60 = .ok (.iinc 1 1, 3) := by decide +kernel
theorem dX7_isRound_63 : decode cX7_isRound 63 = .ok (.goto (-61), 3) := by decide +kernel
theorem dX7_isRound_66 : decode cX7_isRound 66 = .ok (.iconst 0, 1) := by decide +kernel
theorem dX7_isRound_67 : decode cX7_isRound 67 = .ok (.istore_n 1, 1) := by decide +kernel
theorem dX7_isRound_68 : decode cX7_isRound 68 = .ok (.iload_n 1, 1) := by decide +kernel
theorem dX7_isRound_69 : decode cX7_isRound 69 = .ok (.aload_n 0, 1) := by decide +kernel
theorem dX7_isRound_70 : decode cX7_isRound 70 = .ok (.getfield 109, 3) := by decide +kernel
theorem dX7_isRound_73 : decode cX7_isRound 73 = .ok (.if_icmp .ge 88, 3) := by decide +kernel
theorem dX7_isRound_76 : decode cX7_isRound 76 = .ok (.iconst 0, 1) := by decide +kernel
theorem dX7_isRound_77 : decode cX7_isRound 77 = .ok (.istore_n 2, 1) := by decide +kernel
theorem dX7_isRound_78 : decode cX7_isRound 78 = .ok (.iload_n 2, 1) := by decide +kernel
theorem dX7_isRound_79 : decode cX7_isRound 79 = .ok (.aload_n 0, 1) := by decide +kernel
theorem dX7_isRound_80 : decode cX7_isRound 80 = .ok (.getfield 109, 3) := by decide +kernel
theorem dX7_isRound_83 : decode cX7_isRound 83 = .ok (.if_icmp .ge 72, 3) := by decide +kernel
theorem dX7_isRound_86 : decode cX7_isRound 86 = .ok (.iconst 0, 1) := by decide +kernel
theorem dX7_isRound_87 : decode cX7_isRound 87 = .ok (.istore_n 3, 1) := by decide +kernel
theorem dX7_isRound_88 : decode cX7_isRound 88 = .ok (.iload_n 3, 1) := by decide +kernel
theorem dX7_isRound_89 : decode cX7_isRound 89 = .ok (.aload_n 0, 1) := by decide +kernel
theorem dX7_isRound_90 : decode cX7_isRound 90 = .ok (.getfield 109, 3) := by decide +kernel
theorem dX7_isRound_93 : decode cX7_isRound 93 = .ok (.if_icmp .ge 56, 3) := by decide +kernel
theorem dX7_isRound_96 : decode cX7_isRound 96 = .ok (.aload_n 0, 1) := by decide +kernel
theorem dX7_isRound_97 : decode cX7_isRound 97 = .ok (.getfield 82, 3) := by decide +kernel
theorem dX7_isRound_100 : decode cX7_isRound 100 = .ok (.bipush 32, 2) := by decide +kernel
theorem dX7_isRound_102 : decode cX7_isRound 102 = .ok (.iload_n 2, 1) := by decide +kernel
theorem dX7_isRound_103 : decode cX7_isRound 103 = .ok (.imul, 1) := by decide +kernel
theorem dX7_isRound_104 : decode cX7_isRound 104 = .ok (.iload_n 3, 1) := by decide +kernel
theorem dX7_isRound_105 : decode cX7_isRound 105 = .ok (.iadd, 1) := by decide +kernel
theorem dX7_isRound_106 : decode cX7_isRound 106 = .ok (.dup2, 1) := by decide +kernel
theorem dX7_isRound_107 : decode cX7_isRound 107 = .ok (.baload, 1) := by decide +kernel
theorem dX7_isRound_108 : decode cX7_isRound 108 = .ok (.aload_n 0, 1) := by decide +kernel
theorem dX7_isRound_109 : decode cX7_isRound 109 = .ok (.getfield 82, 3) := by decide +kernel
theorem dX7_isRound_112 : decode cX7_isRound 112 = .ok (.bipush 32, 2) := by decide +kernel
theorem dX7_isRound_114 : decode cX7_isRound 114 = .ok (.iload_n 2, 1) := by decide +kernel
theorem dX7_isRound_115 : decode cX7_isRound 115 = .ok (.imul, 1) := by decide +kernel
theorem dX7_isRound_116 : decode cX7_isRound 116 = .ok (.iload_n 1, 1) := by decide +kernel
theorem dX7_isRound_117 : decode cX7_isRound 117 = .ok (.iadd, 1) := by decide +kernel
theorem dX7_isRound_118 : decode cX7_isRound 118 = .ok (.baload, 1) := by decide +kernel
theorem dX7_isRound_119 : decode cX7_isRound 119 = .ok (.ifCond .eq 21, 3) := by decide +kernel
theorem dX7_isRound_122 : decode cX7_isRound 122 = .ok (.aload_n 0, 1) := by decide +kernel
theorem dX7_isRound_123 : decode cX7_isRound 123 = .ok (.getfield 82, 3) := by decide +kernel
theorem dX7_isRound_126 : decode cX7_isRound 126 = .ok (.bipush 32, 2) := by decide +kernel
theorem dX7_isRound_128 : decode cX7_isRound 128 = .ok (.iload_n 1, 1) := by decide +kernel
theorem dX7_isRound_129 : decode cX7_isRound 129 = .ok (.imul, 1) := by decide +kernel
theorem dX7_isRound_130 : decode cX7_isRound 130 = .ok (.iload_n 3, 1) := by decide +kernel
theorem dX7_isRound_131 : decode cX7_isRound 131 = .ok (.iadd, 1) := by decide +kernel
theorem dX7_isRound_132 : decode cX7_isRound 132 = .ok (.baload, 1) := by decide +kernel
theorem dX7_isRound_133 : decode cX7_isRound 133 = .ok (.ifCond .eq 7, 3) := by decide +kernel
theorem dX7_isRound_136 : decode cX7_isRound 136 = .ok (.iconst 1, 1) := by decide +kernel
theorem dX7_isRound_137 : decode cX7_isRound 137 = .ok (.goto 4, 3) := by decide +kernel
theorem dX7_isRound_140 : decode cX7_isRound 140 = .ok (.iconst 0, 1) := by decide +kernel
theorem dX7_isRound_141 : decode cX7_isRound 141 = .ok (.ior, 1) := by decide +kernel
theorem dX7_isRound_142 : decode cX7_isRound 142 = .ok (.bastore, 1) := by decide +kernel
theorem dX7_isRound_143 : decode cX7_isRound 143 = .ok (.iinc 3 1, 3) := by decide +kernel
theorem dX7_isRound_146 : decode cX7_isRound 146 = .ok (.goto (-58), 3) := by decide +kernel
theorem dX7_isRound_149 : decode cX7_isRound 149 = .ok (.iinc 2 1, 3) := by decide +kernel
theorem dX7_isRound_152 : decode cX7_isRound 152 = .ok (.goto (-74), 3) := by decide +kernel
theorem dX7_isRound_155 : decode cX7_isRound 155 = .ok (.iinc 1 1, 3) := by decide +kernel
theorem dX7_isRound_158 : decode cX7_isRound 158 = .ok (.goto (-90), 3) := by decide +kernel
theorem dX7_isRound_161 : decode cX7_isRound 161 = .ok (.iconst 0, 1) := by decide +kernel
theorem dX7_isRound_162 : decode cX7_isRound 162 = .ok (.istore_n 1, 1) := by decide +kernel
theorem dX7_isRound_163 : decode cX7_isRound 163 = .ok (.iconst 0, 1) := by decide +kernel
theorem dX7_isRound_164 : decode cX7_isRound 164 = .ok (.istore_n 2, 1) := by decide +kernel
theorem dX7_isRound_165 : decode cX7_isRound 165 = .ok (.iload_n 2, 1) := by decide +kernel
theorem dX7_isRound_166 : decode cX7_isRound 166 = .ok (.aload_n 0, 1) := by decide +kernel
theorem dX7_isRound_167 : decode cX7_isRound 167 = .ok (.getfield 109, 3) := by decide +kernel
theorem dX7_isRound_170 : decode cX7_isRound 170 = .ok (.if_icmp .ge 52, 3) := by decide +kernel
theorem dX7_isRound_173 : decode cX7_isRound 173 = .ok (.aload_n 0, 1) := by decide +kernel
theorem dX7_isRound_174 : decode cX7_isRound 174 = .ok (.getfield 61, 3) := by decide +kernel
theorem dX7_isRound_177 : decode cX7_isRound 177 = .ok (.iload_n 2, 1) := by decide +kernel
theorem dX7_isRound_178 : decode cX7_isRound 178 = .ok (.aload_n 0, 1) := by decide +kernel
theorem dX7_isRound_179 : decode cX7_isRound 179 = .ok (.getfield 54, 3) := by decide +kernel
theorem dX7_isRound_182 : decode cX7_isRound 182 = .ok (.iload_n 2, 1) := by decide +kernel
theorem dX7_isRound_183 : decode cX7_isRound 183 = .ok (.baload, 1) := by decide +kernel
theorem dX7_isRound_184 : decode cX7_isRound 184 = .ok (.ifCond .eq 21, 3) := by decide +kernel
theorem dX7_isRound_187 : decode cX7_isRound 187 = .ok (.aload_n 0, 1) := by decide +kernel
theorem dX7_isRound_188 : decode cX7_isRound 188 = .ok (.getfield 82, 3) := by decide +kernel
theorem dX7_isRound_191 : decode cX7_isRound 191 = .ok (.bipush 32, 2) := by decide +kernel
theorem dX7_isRound_193 : decode cX7_isRound 193 = .ok (.iload_n 2, 1) := by decide +kernel
theorem dX7_isRound_194 : decode cX7_isRound 194 = .ok (.imul, 1) := by decide +kernel
theorem dX7_isRound_195 : decode cX7_isRound 195 = .ok (.iload_n 2, 1) := by decide +kernel
theorem dX7_isRound_196 : decode cX7_isRound 196 = .ok (.iadd, 1) := by decide +kernel
theorem dX7_isRound_197 : decode cX7_isRound 197 = .ok (.baload, 1) := by decide +kernel
theorem dX7_isRound_198 : decode cX7_isRound 198 = .ok (.ifCond .eq 7, 3) := by decide +kernel
theorem dX7_isRound_201 : decode cX7_isRound 201 = .ok (.iconst 1, 1) := by decide +kernel
theorem dX7_isRound_202 : decode cX7_isRound 202 = .ok (.goto 4, 3) := by decide +kernel
theorem dX7_isRound_205 : decode cX7_isRound 205 = .ok (.iconst 0, 1) := by decide +kernel
theorem dX7_isRound_206 : decode cX7_isRound 206 = .ok (.bastore, 1) := by decide +kernel
theorem dX7_isRound_207 : decode cX7_isRound 207 = .ok (.iload_n 1, 1) := by decide +kernel
theorem dX7_isRound_208 : decode cX7_isRound 208 = .ok (.aload_n 0, 1) := by decide +kernel
theorem dX7_isRound_209 : decode cX7_isRound 209 = .ok (.getfield 61, 3) := by decide +kernel
theorem dX7_isRound_212 : decode cX7_isRound 212 = .ok (.iload_n 2, 1) := by decide +kernel
theorem dX7_isRound_213 : decode cX7_isRound 213 = .ok (.baload, 1) := by decide +kernel
theorem dX7_isRound_214 : decode cX7_isRound 214 = .ok (.ior, 1) := by decide +kernel
theorem dX7_isRound_215 : decode cX7_isRound 215 = .ok (.istore_n 1, 1) := by decide +kernel
theorem dX7_isRound_216 : decode cX7_isRound 216 = .ok (.iinc 2 1, 3) := by decide +kernel
theorem dX7_isRound_219 : decode cX7_isRound 219 = .ok (.goto (-54), 3) := by decide +kernel
theorem dX7_isRound_222 : decode cX7_isRound 222 = .ok (.iload_n 1, 1) := by decide +kernel
theorem dX7_isRound_223 : decode cX7_isRound 223 = .ok (.ireturn, 1) := by decide +kernel
theorem dX7_boundAll_0 : decode cX7_boundAll 0 = .ok (.iconst 1, 1) := by decide +kernel
theorem dX7_boundAll_1 : decode cX7_boundAll 1 = .ok (.istore_n 1, 1) := by decide +kernel
theorem dX7_boundAll_2 : decode cX7_boundAll 2 = .ok (.iload_n 1, 1) := by decide +kernel
theorem dX7_boundAll_3 : decode cX7_boundAll 3 = .ok (.ifCond .eq 112, 3) := by decide +kernel
theorem dX7_boundAll_6 : decode cX7_boundAll 6 = .ok (.iconst 0, 1) := by decide +kernel
theorem dX7_boundAll_7 : decode cX7_boundAll 7 = .ok (.istore_n 1, 1) := by decide +kernel
theorem dX7_boundAll_8 : decode cX7_boundAll 8 = .ok (.iconst 0, 1) := by decide +kernel
theorem dX7_boundAll_9 : decode cX7_boundAll 9 = .ok (.istore_n 2, 1) := by decide +kernel
theorem dX7_boundAll_10 : decode cX7_boundAll 10 = .ok (.iload_n 2, 1) := by decide +kernel
theorem dX7_boundAll_11 : decode cX7_boundAll 11 = .ok (.aload_n 0, 1) := by decide +kernel
theorem dX7_boundAll_12 : decode cX7_boundAll 12 = .ok (.getfield 109, 3) := by decide +kernel
theorem dX7_boundAll_15 : decode cX7_boundAll 15 = .ok (.if_icmp .ge 97, 3) := by decide +kernel
theorem dX7_boundAll_18 : decode cX7_boundAll 18 = .ok (.aload_n 0, 1) := by decide +kernel
theorem dX7_boundAll_19 : decode cX7_boundAll 19 = .ok (.getfield 54, 3) := by decide +kernel
theorem dX7_boundAll_22 : decode cX7_boundAll 22 = .ok (.iload_n 2, 1) := by decide +kernel
theorem dX7_boundAll_23 : decode cX7_boundAll 23 = .ok (.baload, 1) := by decide +kernel
theorem dX7_boundAll_24 : decode cX7_boundAll 24 = .ok (.ifCond .eq 16, 3) := by decide +kernel
theorem dX7_boundAll_27 : decode cX7_boundAll 27 = .ok (.aload_n 0, 1) := by decide +kernel
theorem dX7_boundAll_28 : decode cX7_boundAll 28 = .ok (.getfield 64, 3) := by decide +kernel
theorem dX7_boundAll_31 : decode cX7_boundAll 31 = .ok (.iload_n 2, 1) := by decide +kernel
theorem dX7_boundAll_32 : decode cX7_boundAll 32 = .ok (.baload, 1) := by decide +kernel
theorem dX7_boundAll_33 : decode cX7_boundAll 33 = .ok (.ifCond .ne 7, 3) := by decide +kernel
theorem dX7_boundAll_36 : decode cX7_boundAll 36 = .ok (.iconst 1, 1) := by decide +kernel
theorem dX7_boundAll_37 : decode cX7_boundAll 37 = .ok (.goto 4, 3) := by decide +kernel
theorem dX7_boundAll_40 : decode cX7_boundAll 40 = .ok (.iconst 0, 1) := by decide +kernel
theorem dX7_boundAll_41 : decode cX7_boundAll 41 = .ok (.istore_n 3, 1) := by decide +kernel
theorem dX7_boundAll_42 : decode cX7_boundAll 42 = .ok (.iconst 0, 1) := by decide +kernel
theorem dX7_boundAll_43 : decode cX7_boundAll 43 = .ok (.istore 4, 2) := by decide +kernel
theorem dX7_boundAll_45 : decode cX7_boundAll 45 = .ok (.iload 4, 2) := by decide +kernel
theorem dX7_boundAll_47 : decode cX7_boundAll 47 = .ok (.aload_n 0, 1) := by decide +kernel
theorem dX7_boundAll_48 : decode cX7_boundAll 48 = .ok (.getfield 109, 3) := by decide +kernel
theorem dX7_boundAll_51 : decode cX7_boundAll 51 = .ok (.if_icmp .ge 44, 3) := by decide +kernel
theorem dX7_boundAll_54 : decode cX7_boundAll 54 = .ok (.iload_n 3, 1) := by decide +kernel
theorem dX7_boundAll_55 : decode cX7_boundAll 55 = .ok (.ifCond .eq 40, 3) := by decide +kernel
theorem dX7_boundAll_58 : decode cX7_boundAll 58 = .ok (.aload_n 0, 1) := by decide +kernel
theorem dX7_boundAll_59 : decode cX7_boundAll 59 = .ok (.getfield 82, 3) := by decide +kernel
theorem dX7_boundAll_62 : decode cX7_boundAll 62 = .ok (.bipush 32, 2) := by decide +kernel
theorem dX7_boundAll_64 : decode cX7_boundAll 64 = .ok (.iload_n 2, 1) := by decide +kernel
theorem dX7_boundAll_65 : decode cX7_boundAll 65 = .ok (.imul, 1) := by decide +kernel
theorem dX7_boundAll_66 : decode cX7_boundAll 66 = .ok (.iload 4, 2) := by decide +kernel
theorem dX7_boundAll_68 : decode cX7_boundAll 68 = .ok (.iadd, 1) := by decide +kernel
theorem dX7_boundAll_69 : decode cX7_boundAll 69 = .ok (.baload, 1) := by decide +kernel
theorem dX7_boundAll_70 : decode cX7_boundAll 70 = .ok (.ifCond .eq 13, 3) := by decide +kernel
theorem dX7_boundAll_73 : decode cX7_boundAll 73 = .ok (.aload_n 0, 1) := by decide +kernel
theorem dX7_boundAll_74 : decode cX7_boundAll 74 = .ok (.getfield 64, 3) := by decide +kernel
theorem dX7_boundAll_77 : decode cX7_boundAll 77 = .ok (.iload 4, 2) := by decide +kernel
theorem dX7_boundAll_79 : decode cX7_boundAll 79 = .ok (.baload, 1) := by decide +kernel
theorem dX7_boundAll_80 : decode cX7_boundAll 80 = .ok (.ifCond .eq 7, 3) := by decide +kernel
theorem dX7_boundAll_83 : decode cX7_boundAll 83 = .ok (.iconst 1, 1) := by decide +kernel
theorem dX7_boundAll_84 : decode cX7_boundAll 84 = .ok (.goto 4, 3) := by decide +kernel
theorem dX7_boundAll_87 : decode cX7_boundAll 87 = .ok (.iconst 0, 1) := by decide +kernel
theorem dX7_boundAll_88 : decode cX7_boundAll 88 = .ok (.istore_n 3, 1) := by decide +kernel
theorem dX7_boundAll_89 : decode cX7_boundAll 89 = .ok (.iinc 4 1, 3) := by decide +kernel
theorem dX7_boundAll_92 : decode cX7_boundAll 92 = .ok (.goto (-47), 3) := by decide +kernel
theorem dX7_boundAll_95 : decode cX7_boundAll 95 = .ok (.iload_n 3, 1) := by decide +kernel
theorem dX7_boundAll_96 : decode cX7_boundAll 96 = .ok (.ifCond .eq 10, 3) := by decide +kernel
theorem dX7_boundAll_99 : decode cX7_boundAll 99 = .ok (.aload_n 0, 1) := by decide +kernel
theorem dX7_boundAll_100 : decode cX7_boundAll 100 = .ok (.iload_n 2, 1) := by decide +kernel
theorem dX7_boundAll_101 : decode cX7_boundAll 101 = .ok (.invokevirtual 199, 3) := by decide +kernel
theorem dX7_boundAll_104 : decode cX7_boundAll 104 = .ok (.iconst 1, 1) := by decide +kernel
theorem dX7_boundAll_105 : decode cX7_boundAll 105 = .ok (.istore_n 1, 1) := by decide +kernel
theorem dX7_boundAll_106 : decode cX7_boundAll 106 = .ok (.iinc 2 1, 3) := by decide +kernel
theorem dX7_boundAll_109 : decode cX7_boundAll 109 = .ok (.goto (-99), 3) := by decide +kernel
theorem dX7_boundAll_112 : decode cX7_boundAll 112 = .ok (.goto (-110), 3) := by decide +kernel
theorem dX7_boundAll_115 : decode cX7_boundAll 115 = .ok (.iconst 0, 1) := by decide +kernel
theorem dX7_boundAll_116 : decode cX7_boundAll 116 = .ok (.istore_n 2, 1) := by decide +kernel
theorem dX7_boundAll_117 : decode cX7_boundAll 117 = .ok (.iconst 0, 1) := by decide +kernel
theorem dX7_boundAll_118 : decode cX7_boundAll 118 = .ok (.istore_n 3, 1) := by decide +kernel
theorem dX7_boundAll_119 : decode cX7_boundAll 119 = .ok (.iload_n 3, 1) := by decide +kernel
theorem dX7_boundAll_120 : decode cX7_boundAll 120 = .ok (.aload_n 0, 1) := by decide +kernel
theorem dX7_boundAll_121 : decode cX7_boundAll 121 = .ok (.getfield 109, 3) := by decide +kernel
theorem dX7_boundAll_124 : decode cX7_boundAll 124 = .ok (.if_icmp .ge 52, 3) := by decide +kernel
theorem dX7_boundAll_127 : decode cX7_boundAll 127 = .ok (.iload_n 2, 1) := by decide +kernel
theorem dX7_boundAll_128 : decode cX7_boundAll 128 = .ok (.aload_n 0, 1) := by decide +kernel
theorem dX7_boundAll_129 : decode cX7_boundAll 129 = .ok (.getfield 64, 3) := by decide +kernel
theorem dX7_boundAll_132 : decode cX7_boundAll 132 = .ok (.iload_n 3, 1) := by decide +kernel
theorem dX7_boundAll_133 : decode cX7_boundAll 133 = .ok (.baload, 1) := by decide +kernel
theorem dX7_boundAll_134 : decode cX7_boundAll 134 = .ok (.ifCond .eq 33, 3) := by decide +kernel
theorem dX7_boundAll_137 : decode cX7_boundAll 137 = .ok (.aload_n 0, 1) := by decide +kernel
theorem dX7_boundAll_138 : decode cX7_boundAll 138 = .ok (.getfield 67, 3) := by decide +kernel
theorem dX7_boundAll_141 : decode cX7_boundAll 141 = .ok (.iload_n 3, 1) := by decide +kernel
theorem dX7_boundAll_142 : decode cX7_boundAll 142 = .ok (.laload, 1) := by decide +kernel
theorem dX7_boundAll_143 : decode cX7_boundAll 143 = .ok (.ldc2_w 159, 3) := by decide +kernel
theorem dX7_boundAll_146 : decode cX7_boundAll 146 = .ok (.lcmp, 1) := by decide +kernel
theorem dX7_boundAll_147 : decode cX7_boundAll 147 = .ok (.ifCond .eq 16, 3) := by decide +kernel
theorem dX7_boundAll_150 : decode cX7_boundAll 150 = .ok (.aload_n 0, 1) := by decide +kernel
theorem dX7_boundAll_151 : decode cX7_boundAll 151 = .ok (.getfield 70, 3) := by decide +kernel
theorem dX7_boundAll_154 : decode cX7_boundAll 154 = .ok (.iload_n 3, 1) := by decide +kernel
theorem dX7_boundAll_155 : decode cX7_boundAll 155 = .ok (.laload, 1) := by decide +kernel
theorem dX7_boundAll_156 : decode cX7_boundAll 156 = .ok (.ldc2_w 159, 3) := by decide +kernel
theorem dX7_boundAll_159 : decode cX7_boundAll 159 = .ok (.lcmp, 1) := by decide +kernel
theorem dX7_boundAll_160 : decode cX7_boundAll 160 = .ok (.ifCond .ne 7, 3) := by decide +kernel
theorem dX7_boundAll_163 : decode cX7_boundAll 163 = .ok (.iconst 1, 1) := by decide +kernel
theorem dX7_boundAll_164 : decode cX7_boundAll 164 = .ok (.goto 4, 3) := by decide +kernel
theorem dX7_boundAll_167 : decode cX7_boundAll 167 = .ok (.iconst 0, 1) := by decide +kernel
theorem dX7_boundAll_168 : decode cX7_boundAll 168 = .ok (.ior, 1) := by decide +kernel
theorem dX7_boundAll_169 : decode cX7_boundAll 169 = .ok (.istore_n 2, 1) := by decide +kernel
theorem dX7_boundAll_170 : decode cX7_boundAll 170 = .ok (.iinc 3 1, 3) := by decide +kernel
theorem dX7_boundAll_173 : decode cX7_boundAll 173 = .ok (.goto (-54), 3) := by decide +kernel
theorem dX7_boundAll_176 : decode cX7_boundAll 176 = .ok (.iload_n 2, 1) := by decide +kernel
theorem dX7_boundAll_177 : decode cX7_boundAll 177 = .ok (.ifCond .eq 7, 3) := by decide +kernel
theorem dX7_boundAll_180 : decode cX7_boundAll 180 = .ok (.iconst 3, 1) := by decide +kernel
theorem dX7_boundAll_181 : decode cX7_boundAll 181 = .ok (.goto 4, 3) := by decide +kernel
theorem dX7_boundAll_184 : decode cX7_boundAll 184 = .ok (.iconst 0, 1) := by decide +kernel
theorem dX7_boundAll_185 : decode cX7_boundAll 185 = .ok (.ireturn, 1) := by decide +kernel
theorem dX7_analyse_0 : decode cX7_analyse 0 = .ok (.aload_n 0, 1) := by decide +kernel
theorem dX7_analyse_1 : decode cX7_analyse 1 = .ok (.aload_n 0, 1) := by decide +kernel
theorem dX7_analyse_2 : decode cX7_analyse 2 = .ok (.iload_n 1, 1) := by decide +kernel
theorem dX7_analyse_3 : decode cX7_analyse 3 = .ok (.invokevirtual 112, 3) := by decide +kernel
theorem dX7_analyse_6 : decode cX7_analyse 6 = .ok (.ifCond .eq 7, 3) := by decide +kernel
theorem dX7_analyse_9 : decode cX7_analyse 9 = .ok (.iconst 1, 1) := by decide +kernel
theorem dX7_analyse_10 : decode cX7_analyse 10 = .ok (.goto 4, 3) := by decide +kernel
theorem dX7_analyse_13 : decode cX7_analyse 13 = .ok (.iconst 0, 1) := by decide +kernel
theorem dX7_analyse_14 : decode cX7_analyse 14 = .ok (.putfield 106, 3) := by decide +kernel
theorem dX7_analyse_17 : decode cX7_analyse 17 = .ok (.aload_n 0, 1) := by decide +kernel
theorem dX7_analyse_18 : decode cX7_analyse 18 = .ok (.getfield 106, 3) := by decide +kernel
theorem dX7_analyse_21 : decode cX7_analyse 21 = .ok (.ifCond .le 7, 3) := by decide +kernel
theorem dX7_analyse_24 : decode cX7_analyse 24 = .ok (.iconst 0, 1) := by decide +kernel
theorem dX7_analyse_25 : decode cX7_analyse 25 = .ok (.goto 8, 3) := by decide +kernel
theorem dX7_analyse_28 : decode cX7_analyse 28 = .ok (.aload_n 0, 1) := by decide +kernel
theorem dX7_analyse_29 : decode cX7_analyse 29 = .ok (.iload_n 1, 1) := by decide +kernel
theorem dX7_analyse_30 : decode cX7_analyse 30 = .ok (.invokevirtual 202, 3) := by decide +kernel
theorem dX7_analyse_33 : decode cX7_analyse 33 = .ok (.ireturn, 1) := by decide +kernel
theorem dX7_told_0 : decode cX7_told 0 = .ok (.aload_n 0, 1) := by decide +kernel
theorem dX7_told_1 : decode cX7_told 1 = .ok (.aload_n 0, 1) := by decide +kernel
theorem dX7_told_2 : decode cX7_told 2 = .ok (.iload_n 1, 1) := by decide +kernel
theorem dX7_told_3 : decode cX7_told 3 = .ok (.invokevirtual 112, 3) := by decide +kernel
theorem dX7_told_6 : decode cX7_told 6 = .ok (.ifCond .ne 12, 3) := by decide +kernel
theorem dX7_told_9 : decode cX7_told 9 = .ok (.iload_n 2, 1) := by decide +kernel
theorem dX7_told_10 : decode cX7_told 10 = .ok (.ifCond .lt 8, 3) := by decide +kernel
theorem dX7_told_13 : decode cX7_told 13 = .ok (.iload_n 2, 1) := by decide +kernel
theorem dX7_told_14 : decode cX7_told 14 = .ok (.iconst 2, 1) := by decide +kernel
theorem dX7_told_15 : decode cX7_told 15 = .ok (.if_icmp .le 7, 3) := by decide +kernel
theorem dX7_told_18 : decode cX7_told 18 = .ok (.iconst 1, 1) := by decide +kernel
theorem dX7_told_19 : decode cX7_told 19 = .ok (.goto 4, 3) := by decide +kernel
theorem dX7_told_22 : decode cX7_told 22 = .ok (.iconst 0, 1) := by decide +kernel
theorem dX7_told_23 : decode cX7_told 23 = .ok (.putfield 106, 3) := by decide +kernel
theorem dX7_told_26 : decode cX7_told 26 = .ok (.aload_n 0, 1) := by decide +kernel
theorem dX7_told_27 : decode cX7_told 27 = .ok (.getfield 106, 3) := by decide +kernel
theorem dX7_told_30 : decode cX7_told 30 = .ok (.ifCond .le 5, 3) := by decide +kernel
theorem dX7_told_33 : decode cX7_told 33 = .ok (.iconst 0, 1) := by decide +kernel
theorem dX7_told_34 : decode cX7_told 34 = .ok (.ireturn, 1) := by decide +kernel
theorem dX7_told_35 : decode cX7_told 35 = .ok (.iload_n 2, 1) := by decide +kernel
theorem dX7_told_36 : decode cX7_told 36 = .ok (.ifCond .ne 15, 3) := by decide +kernel
theorem dX7_told_39 : decode cX7_told 39 = .ok (.aload_n 0, 1) := by decide +kernel
theorem dX7_told_40 : decode cX7_told 40 = .ok (.getfield 54, 3) := by decide +kernel
theorem dX7_told_43 : decode cX7_told 43 = .ok (.iload_n 1, 1) := by decide +kernel
theorem dX7_told_44 : decode cX7_told 44 = .ok (.baload, 1) := by decide +kernel
theorem dX7_told_45 : decode cX7_told 45 = .ok (.ifCond .eq 36, 3) := by decide +kernel
theorem dX7_told_48 : decode cX7_told 48 = .ok (.goto 29, 3) := by decide +kernel
theorem dX7_told_51 : decode cX7_told 51 = .ok (.iload_n 2, 1) := by decide +kernel
theorem dX7_told_52 : decode cX7_told 52 = .ok (.iconst 1, 1) := by decide +kernel
theorem dX7_told_53 : decode cX7_told 53 = .ok (.if_icmp .ne 15, 3) := by decide +kernel
theorem dX7_told_56 : decode cX7_told 56 = .ok (.aload_n 0, 1) := by decide +kernel
theorem dX7_told_57 : decode cX7_told 57 = .ok (.getfield 58, 3) := by decide +kernel
theorem dX7_told_60 : decode cX7_told 60 = .ok (.iload_n 1, 1) := by decide +kernel
theorem dX7_told_61 : decode cX7_told 61 = .ok (.baload, 1) := by decide +kernel
theorem dX7_told_62 : decode cX7_told 62 = .ok (.ifCond .eq 19, 3) := by decide +kernel
theorem dX7_told_65 : decode cX7_told 65 = .ok (.goto 12, 3) := by decide +kernel
theorem dX7_told_68 : decode cX7_told 68 = .ok (.aload_n 0, 1) := by decide +kernel
theorem dX7_told_69 : decode cX7_told 69 = .ok (.getfield 61, 3) := by decide +kernel
theorem dX7_told_72 : decode cX7_told 72 = .ok (.iload_n 1, 1) := by decide +kernel
theorem dX7_told_73 : decode cX7_told 73 = .ok (.baload, 1) := by decide +kernel
theorem dX7_told_74 : decode cX7_told 74 = .ok (.ifCond .eq 7, 3) := by decide +kernel
theorem dX7_told_77 : decode cX7_told 77 = .ok (.iconst 1, 1) := by decide +kernel
theorem dX7_told_78 : decode cX7_told 78 = .ok (.goto 4, 3) := by decide +kernel
theorem dX7_told_81 : decode cX7_told 81 = .ok (.iconst 0, 1) := by decide +kernel
theorem dX7_told_82 : decode cX7_told 82 = .ok (.ireturn, 1) := by decide +kernel
theorem dX7_bound_0 : decode cX7_bound 0 = .ok (.aload_n 0, 1) := by decide +kernel
theorem dX7_bound_1 : decode cX7_bound 1 = .ok (.aload_n 0, 1) := by decide +kernel
theorem dX7_bound_2 : decode cX7_bound 2 = .ok (.iload_n 1, 1) := by decide +kernel
theorem dX7_bound_3 : decode cX7_bound 3 = .ok (.invokevirtual 112, 3) := by decide +kernel
theorem dX7_bound_6 : decode cX7_bound 6 = .ok (.ifCond .ne 12, 3) := by decide +kernel
theorem dX7_bound_9 : decode cX7_bound 9 = .ok (.iload_n 2, 1) := by decide +kernel
theorem dX7_bound_10 : decode cX7_bound 10 = .ok (.ifCond .lt 8, 3) := by decide +kernel
theorem dX7_bound_13 : decode cX7_bound 13 = .ok (.iload_n 2, 1) := by decide +kernel
theorem dX7_bound_14 : decode cX7_bound 14 = .ok (.iconst 1, 1) := by decide +kernel
theorem dX7_bound_15 : decode cX7_bound 15 = .ok (.if_icmp .le 7, 3) := by decide +kernel
theorem dX7_bound_18 : decode cX7_bound 18 = .ok (.iconst 1, 1) := by decide +kernel
theorem dX7_bound_19 : decode cX7_bound 19 = .ok (.goto 4, 3) := by decide +kernel
theorem dX7_bound_22 : decode cX7_bound 22 = .ok (.iconst 0, 1) := by decide +kernel
theorem dX7_bound_23 : decode cX7_bound 23 = .ok (.putfield 106, 3) := by decide +kernel
theorem dX7_bound_26 : decode cX7_bound 26 = .ok (.aload_n 0, 1) := by decide +kernel
theorem dX7_bound_27 : decode cX7_bound 27 = .ok (.getfield 106, 3) := by decide +kernel
theorem dX7_bound_30 : decode cX7_bound 30 = .ok (.ifCond .le 5, 3) := by decide +kernel
theorem dX7_bound_33 : decode cX7_bound 33 = .ok (.lconst 0, 1) := by decide +kernel
theorem dX7_bound_34 : decode cX7_bound 34 = .ok (.lreturn, 1) := by decide +kernel
theorem dX7_bound_35 : decode cX7_bound 35 = .ok (.iload_n 2, 1) := by decide +kernel
theorem dX7_bound_36 : decode cX7_bound 36 = .ok (.ifCond .ne 12, 3) := by decide +kernel
theorem dX7_bound_39 : decode cX7_bound 39 = .ok (.aload_n 0, 1) := by decide +kernel
theorem dX7_bound_40 : decode cX7_bound 40 = .ok (.getfield 67, 3) := by decide +kernel
theorem dX7_bound_43 : decode cX7_bound 43 = .ok (.iload_n 1, 1) := by decide +kernel
theorem dX7_bound_44 : decode cX7_bound 44 = .ok (.laload, 1) := by decide +kernel
theorem dX7_bound_45 : decode cX7_bound 45 = .ok (.goto 9, 3) := by decide +kernel
theorem dX7_bound_48 : decode cX7_bound 48 = .ok (.aload_n 0, 1) := by decide +kernel
theorem dX7_bound_49 : decode cX7_bound 49 = .ok (.getfield 70, 3) := by decide +kernel
theorem dX7_bound_52 : decode cX7_bound 52 = .ok (.iload_n 1, 1) := by decide +kernel
theorem dX7_bound_53 : decode cX7_bound 53 = .ok (.laload, 1) := by decide +kernel
theorem dX7_bound_54 : decode cX7_bound 54 = .ok (.lstore_n 3, 1) := by decide +kernel
theorem dX7_bound_55 : decode cX7_bound 55 = .ok (.aload_n 0, 1) := by decide +kernel
theorem dX7_bound_56 : decode cX7_bound 56 = .ok (.getfield 64, 3) := by decide +kernel
theorem dX7_bound_59 : decode cX7_bound 59 = .ok (.iload_n 1, 1) := by decide +kernel
theorem dX7_bound_60 : decode cX7_bound 60 = .ok (.baload, 1) := by decide +kernel
theorem dX7_bound_61 : decode cX7_bound 61 = .ok (.ifCond .eq 11, 3) := by decide +kernel
theorem dX7_bound_64 : decode cX7_bound 64 = .ok (.lload_n 3, 1) := by decide +kernel
theorem dX7_bound_65 : decode cX7_bound 65 = .ok (.ldc2_w 159, 3) := by decide +kernel
theorem dX7_bound_68 : decode cX7_bound 68 = .ok (.lcmp, 1) := by decide +kernel
theorem dX7_bound_69 : decode cX7_bound 69 = .ok (.ifCond .ne 9, 3) := by decide +kernel
theorem dX7_bound_72 : decode cX7_bound 72 = .ok (.ldc2_w 167, 3) := by decide +kernel
theorem dX7_bound_75 : decode cX7_bound 75 = .ok (.goto 4, 3) := by decide +kernel
theorem dX7_bound_78 : decode cX7_bound 78 = .ok (.lload_n 3, 1) := by decide +kernel
theorem dX7_bound_79 : decode cX7_bound 79 = .ok (.lreturn, 1) := by decide +kernel
theorem dX7_argument_0 : decode cX7_argument 0 = .ok (.aload_n 0, 1) := by decide +kernel
theorem dX7_argument_1 : decode cX7_argument 1 = .ok (.aload_n 0, 1) := by decide +kernel
theorem dX7_argument_2 : decode cX7_argument 2 = .ok (.getfield 206, 3) := by decide +kernel
theorem dX7_argument_5 : decode cX7_argument 5 = .ok (.bipush 8, 2) := by decide +kernel
theorem dX7_argument_7 : decode cX7_argument 7 = .ok (.if_icmp .ne 7, 3) := by decide +kernel
theorem dX7_argument_10 : decode cX7_argument 10 = .ok (.iconst 1, 1) := by decide +kernel
theorem dX7_argument_11 : decode cX7_argument 11 = .ok (.goto 4, 3) := by decide +kernel
theorem dX7_argument_14 : decode cX7_argument 14 = .ok (.iconst 0, 1) := by decide +kernel
theorem dX7_argument_15 : decode cX7_argument 15 = .ok (.putfield 106, 3) := by decide +kernel
theorem dX7_argument_18 : decode cX7_argument 18 = .ok (.aload_n 0, 1) := by decide +kernel
theorem dX7_argument_19 : decode cX7_argument 19 = .ok (.getfield 106, 3) := by decide +kernel
theorem dX7_argument_22 : decode cX7_argument 22 = .ok (.ifCond .le 5, 3) := by decide +kernel
theorem dX7_argument_25 : decode cX7_argument 25 = .ok (.iconst 0, 1) := by decide +kernel
theorem dX7_argument_26 : decode cX7_argument 26 = .ok (.ireturn, 1) := by decide +kernel
theorem dX7_argument_27 : decode cX7_argument 27 = .ok (.aload_n 0, 1) := by decide +kernel
theorem dX7_argument_28 : decode cX7_argument 28 = .ok (.getfield 85, 3) := by decide +kernel
theorem dX7_argument_31 : decode cX7_argument 31 = .ok (.aload_n 0, 1) := by decide +kernel
theorem dX7_argument_32 : decode cX7_argument 32 = .ok (.getfield 206, 3) := by decide +kernel
theorem dX7_argument_35 : decode cX7_argument 35 = .ok (.lload_n 1, 1) := by decide +kernel
theorem dX7_argument_36 : decode cX7_argument 36 = .ok (.lastore, 1) := by decide +kernel
theorem dX7_argument_37 : decode cX7_argument 37 = .ok (.aload_n 0, 1) := by decide +kernel
theorem dX7_argument_38 : decode cX7_argument 38 = .ok (.dup, 1) := by decide +kernel
theorem dX7_argument_39 : decode cX7_argument 39 = .ok (.getfield 206, 3) := by decide +kernel
theorem dX7_argument_42 : decode cX7_argument 42 = .ok (.iconst 1, 1) := by decide +kernel
theorem dX7_argument_43 : decode cX7_argument 43 = .ok (.iadd, 1) := by decide +kernel
theorem dX7_argument_44 : decode cX7_argument 44 = .ok (.putfield 206, 3) := by decide +kernel
theorem dX7_argument_47 : decode cX7_argument 47 = .ok (.aload_n 0, 1) := by decide +kernel
theorem dX7_argument_48 : decode cX7_argument 48 = .ok (.getfield 206, 3) := by decide +kernel
theorem dX7_argument_51 : decode cX7_argument 51 = .ok (.ireturn, 1) := by decide +kernel
theorem dX7_enter_0 : decode cX7_enter 0 = .ok (.aload_n 0, 1) := by decide +kernel
theorem dX7_enter_1 : decode cX7_enter 1 = .ok (.getfield 88, 3) := by decide +kernel
theorem dX7_enter_4 : decode cX7_enter 4 = .ok (.aload_n 0, 1) := by decide +kernel
theorem dX7_enter_5 : decode cX7_enter 5 = .ok (.getfield 209, 3) := by decide +kernel
theorem dX7_enter_8 : decode cX7_enter 8 = .ok (.iload_n 1, 1) := by decide +kernel
theorem dX7_enter_9 : decode cX7_enter 9 = .ok (.iastore, 1) := by decide +kernel
theorem dX7_enter_10 : decode cX7_enter 10 = .ok (.aload_n 0, 1) := by decide +kernel
theorem dX7_enter_11 : decode cX7_enter 11 = .ok (.getfield 91, 3) := by decide +kernel
theorem dX7_enter_14 : decode cX7_enter 14 = .ok (.aload_n 0, 1) := by decide +kernel
theorem dX7_enter_15 : decode cX7_enter 15 = .ok (.getfield 209, 3) := by decide +kernel
theorem dX7_enter_18 : decode cX7_enter 18 = .ok (.iconst 0, 1) := by decide +kernel
theorem dX7_enter_19 : decode cX7_enter 19 = .ok (.iastore, 1) := by decide +kernel
theorem dX7_enter_20 : decode cX7_enter 20 = .ok (.aload_n 0, 1) := by decide +kernel
theorem dX7_enter_21 : decode cX7_enter 21 = .ok (.getfield 94, 3) := by decide +kernel
theorem dX7_enter_24 : decode cX7_enter 24 = .ok (.aload_n 0, 1) := by decide +kernel
theorem dX7_enter_25 : decode cX7_enter 25 = .ok (.getfield 209, 3) := by decide +kernel
theorem dX7_enter_28 : decode cX7_enter 28 = .ok (.iconst 0, 1) := by decide +kernel
theorem dX7_enter_29 : decode cX7_enter 29 = .ok (.iastore, 1) := by decide +kernel
theorem dX7_enter_30 : decode cX7_enter 30 = .ok (.iconst 0, 1) := by decide +kernel
theorem dX7_enter_31 : decode cX7_enter 31 = .ok (.istore_n 2, 1) := by decide +kernel
theorem dX7_enter_32 : decode cX7_enter 32 = .ok (.iload_n 2, 1) := by decide +kernel
theorem dX7_enter_33 : decode cX7_enter 33 = .ok (.bipush 16, 2) := by decide +kernel
theorem dX7_enter_35 : decode cX7_enter 35 = .ok (.if_icmp .ge 24, 3) := by decide +kernel
theorem dX7_enter_38 : decode cX7_enter 38 = .ok (.aload_n 0, 1) := by decide +kernel
theorem dX7_enter_39 : decode cX7_enter 39 = .ok (.getfield 97, 3) := by decide +kernel
theorem dX7_enter_42 : decode cX7_enter 42 = .ok (.bipush 16, 2) := by decide +kernel
theorem dX7_enter_44 : decode cX7_enter 44 = .ok (.aload_n 0, 1) := by decide +kernel
theorem dX7_enter_45 : decode cX7_enter 45 = .ok (.getfield 209, 3) := by decide +kernel
theorem dX7_enter_48 : decode cX7_enter 48 = .ok (.imul, 1) := by decide +kernel
theorem dX7_enter_49 : decode cX7_enter 49 = .ok (.iload_n 2, 1) := by decide +kernel
theorem dX7_enter_50 : decode cX7_enter 50 = .ok (.iadd, 1) := by decide +kernel
theorem dX7_enter_51 : decode cX7_enter 51 = .ok (.lconst 0, 1) := by decide +kernel
theorem dX7_enter_52 : decode cX7_enter 52 = .ok (.lastore, 1) := by decide +kernel
theorem dX7_enter_53 : decode cX7_enter 53 = .ok (.iinc 2 1, 3) := by decide +kernel
theorem dX7_enter_56 : decode cX7_enter 56 = .ok (.goto (-24), 3) := by decide +kernel
theorem dX7_enter_59 : decode cX7_enter 59 = .ok (.aload_n 0, 1) := by decide +kernel
theorem dX7_enter_60 : decode cX7_enter 60 = .ok (.dup, 1) := by decide +kernel
theorem dX7_enter_61 : decode cX7_enter 61 = .ok (.getfield 212, 3) := by decide +kernel
theorem dX7_enter_64 : decode cX7_enter 64 = .ok (.aload_n 0, 1) := by decide +kernel
theorem dX7_enter_65 : decode cX7_enter 65 = .ok (.getfield 16, 3) := by decide +kernel
theorem dX7_enter_68 : decode cX7_enter 68 = .ok (.iload_n 1, 1) := by decide +kernel
theorem dX7_enter_69 : decode cX7_enter 69 = .ok (.iaload, 1) := by decide +kernel
theorem dX7_enter_70 : decode cX7_enter 70 = .ok (.iadd, 1) := by decide +kernel
theorem dX7_enter_71 : decode cX7_enter 71 = .ok (.putfield 212, 3) := by decide +kernel
theorem dX7_enter_74 : decode cX7_enter 74 = .ok (.aload_n 0, 1) := by decide +kernel
theorem dX7_enter_75 : decode cX7_enter 75 = .ok (.dup, 1) := by decide +kernel
theorem dX7_enter_76 : decode cX7_enter 76 = .ok (.getfield 209, 3) := by decide +kernel
theorem dX7_enter_79 : decode cX7_enter 79 = .ok (.iconst 1, 1) := by decide +kernel
theorem dX7_enter_80 : decode cX7_enter 80 = .ok (.iadd, 1) := by decide +kernel
theorem dX7_enter_81 : decode cX7_enter 81 = .ok (.putfield 209, 3) := by decide +kernel
theorem dX7_enter_84 : decode cX7_enter 84 = .ok (.aload_n 0, 1) := by decide +kernel
theorem dX7_enter_85 : decode cX7_enter 85 = .ok (.aload_n 0, 1) := by decide +kernel
theorem dX7_enter_86 : decode cX7_enter 86 = .ok (.getfield 212, 3) := by decide +kernel
theorem dX7_enter_89 : decode cX7_enter 89 = .ok (.aload_n 0, 1) := by decide +kernel
theorem dX7_enter_90 : decode cX7_enter 90 = .ok (.getfield 215, 3) := by decide +kernel
theorem dX7_enter_93 : decode cX7_enter 93 = .ok (.if_icmp .le 10, 3) := by decide +kernel
theorem dX7_enter_96 : decode cX7_enter 96 = .ok (.aload_n 0, 1) := by decide +kernel
theorem dX7_enter_97 : decode cX7_enter 97 = .ok (.getfield 212, 3) := by decide +kernel
theorem dX7_enter_100 : decode cX7_enter 100 = .ok (.goto 7, 3) := by decide +kernel
theorem dX7_enter_103 : decode cX7_enter 103 = .ok (.aload_n 0, 1) := by decide +kernel
theorem dX7_enter_104 : decode cX7_enter 104 = .ok (.getfield 215, 3) := by decide +kernel
theorem dX7_enter_107 : decode cX7_enter 107 = .ok (.putfield 215, 3) := by decide +kernel
theorem dX7_enter_110 : decode cX7_enter 110 = .ok (.return_, 1) := by decide +kernel
theorem dX7_push_0 : decode cX7_push 0 = .ok (.aload_n 0, 1) := by decide +kernel
theorem dX7_push_1 : decode cX7_push 1 = .ok (.getfield 209, 3) := by decide +kernel
theorem dX7_push_4 : decode cX7_push 4 = .ok (.iconst 1, 1) := by decide +kernel
theorem dX7_push_5 : decode cX7_push 5 = .ok (.isub, 1) := by decide +kernel
theorem dX7_push_6 : decode cX7_push 6 = .ok (.istore_n 3, 1) := by decide +kernel
theorem dX7_push_7 : decode cX7_push 7 = .ok (.aload_n 0, 1) := by decide +kernel
theorem dX7_push_8 : decode cX7_push 8 = .ok (.getfield 100, 3) := by decide +kernel
theorem dX7_push_11 : decode cX7_push 11 = .ok (.bipush 101, 2) := by decide +kernel
theorem dX7_push_13 : decode cX7_push 13 = .ok (.iload_n 3, 1) := by decide +kernel
theorem dX7_push_14 : decode cX7_push 14 = .ok (.imul, 1) := by decide +kernel
theorem dX7_push_15 : decode cX7_push 15 = .ok (.aload_n 0, 1) := by decide +kernel
theorem dX7_push_16 : decode cX7_push 16 = .ok (.getfield 94, 3) := by decide +kernel
theorem dX7_push_19 : decode cX7_push 19 = .ok (.iload_n 3, 1) := by decide +kernel
theorem dX7_push_20 : decode cX7_push 20 = .ok (.iaload, 1) := by decide +kernel
theorem dX7_push_21 : decode cX7_push 21 = .ok (.iadd, 1) := by decide +kernel
theorem dX7_push_22 : decode cX7_push 22 = .ok (.lload_n 1, 1) := by decide +kernel
theorem dX7_push_23 : decode cX7_push 23 = .ok (.lastore, 1) := by decide +kernel
theorem dX7_push_24 : decode cX7_push 24 = .ok (.aload_n 0, 1) := by decide +kernel
theorem dX7_push_25 : decode cX7_push 25 = .ok (.getfield 94, 3) := by decide +kernel
theorem dX7_push_28 : decode cX7_push 28 = .ok (.iload_n 3, 1) := by decide +kernel
theorem dX7_push_29 : decode cX7_push 29 = .ok (.dup2, 1) := by decide +kernel
theorem dX7_push_30 : decode cX7_push 30 = .ok (.iaload, 1) := by decide +kernel
theorem dX7_push_31 : decode cX7_push 31 = .ok (.iconst 1, 1) := by decide +kernel
theorem dX7_push_32 : decode cX7_push 32 = .ok (.iadd, 1) := by decide +kernel
theorem dX7_push_33 : decode cX7_push 33 = .ok (.iastore, 1) := by decide +kernel
theorem dX7_push_34 : decode cX7_push 34 = .ok (.aload_n 0, 1) := by decide +kernel
theorem dX7_push_35 : decode cX7_push 35 = .ok (.dup, 1) := by decide +kernel
theorem dX7_push_36 : decode cX7_push 36 = .ok (.getfield 212, 3) := by decide +kernel
theorem dX7_push_39 : decode cX7_push 39 = .ok (.iconst 1, 1) := by decide +kernel
theorem dX7_push_40 : decode cX7_push 40 = .ok (.iadd, 1) := by decide +kernel
theorem dX7_push_41 : decode cX7_push 41 = .ok (.putfield 212, 3) := by decide +kernel
theorem dX7_push_44 : decode cX7_push 44 = .ok (.aload_n 0, 1) := by decide +kernel
theorem dX7_push_45 : decode cX7_push 45 = .ok (.aload_n 0, 1) := by decide +kernel
theorem dX7_push_46 : decode cX7_push 46 = .ok (.getfield 212, 3) := by decide +kernel
theorem dX7_push_49 : decode cX7_push 49 = .ok (.aload_n 0, 1) := by decide +kernel
theorem dX7_push_50 : decode cX7_push 50 = .ok (.getfield 215, 3) := by decide +kernel
theorem dX7_push_53 : decode cX7_push 53 = .ok (.if_icmp .le 10, 3) := by decide +kernel
theorem dX7_push_56 : decode cX7_push 56 = .ok (.aload_n 0, 1) := by decide +kernel
theorem dX7_push_57 : decode cX7_push 57 = .ok (.getfield 212, 3) := by decide +kernel
theorem dX7_push_60 : decode cX7_push 60 = .ok (.goto 7, 3) := by decide +kernel
theorem dX7_push_63 : decode cX7_push 63 = .ok (.aload_n 0, 1) := by decide +kernel
theorem dX7_push_64 : decode cX7_push 64 = .ok (.getfield 215, 3) := by decide +kernel
theorem dX7_push_67 : decode cX7_push 67 = .ok (.putfield 215, 3) := by decide +kernel
theorem dX7_push_70 : decode cX7_push 70 = .ok (.return_, 1) := by decide +kernel
theorem dX7_take_0 : decode cX7_take 0 = .ok (.aload_n 0, 1) := by decide +kernel
theorem dX7_take_1 : decode cX7_take 1 = .ok (.getfield 209, 3) := by decide +kernel
theorem dX7_take_4 : decode cX7_take 4 = .ok (.iconst 1, 1) := by decide +kernel
theorem dX7_take_5 : decode cX7_take 5 = .ok (.isub, 1) := by decide +kernel
theorem dX7_take_6 : decode cX7_take 6 = .ok (.istore_n 1, 1) := by decide +kernel
theorem dX7_take_7 : decode cX7_take 7 = .ok (.aload_n 0, 1) := by decide +kernel
theorem dX7_take_8 : decode cX7_take 8 = .ok (.getfield 94, 3) := by decide +kernel
theorem dX7_take_11 : decode cX7_take 11 = .ok (.iload_n 1, 1) := by decide +kernel
theorem dX7_take_12 : decode cX7_take 12 = .ok (.dup2, 1) := by decide +kernel
theorem dX7_take_13 : decode cX7_take 13 = .ok (.iaload, 1) := by decide +kernel
theorem dX7_take_14 : decode cX7_take 14 = .ok (.iconst 1, 1) := by decide +kernel
theorem dX7_take_15 : decode cX7_take 15 = .ok (.isub, 1) := by decide +kernel
theorem dX7_take_16 : decode cX7_take 16 = .ok (.iastore, 1) := by decide +kernel
theorem dX7_take_17 : decode cX7_take 17 = .ok (.aload_n 0, 1) := by decide +kernel
theorem dX7_take_18 : decode cX7_take 18 = .ok (.dup, 1) := by decide +kernel
theorem dX7_take_19 : decode cX7_take 19 = .ok (.getfield 212, 3) := by decide +kernel
theorem dX7_take_22 : decode cX7_take 22 = .ok (.iconst 1, 1) := by decide +kernel
theorem dX7_take_23 : decode cX7_take 23 = .ok (.isub, 1) := by decide +kernel
theorem dX7_take_24 : decode cX7_take 24 = .ok (.putfield 212, 3) := by decide +kernel
theorem dX7_take_27 : decode cX7_take 27 = .ok (.aload_n 0, 1) := by decide +kernel
theorem dX7_take_28 : decode cX7_take 28 = .ok (.getfield 100, 3) := by decide +kernel
theorem dX7_take_31 : decode cX7_take 31 = .ok (.bipush 101, 2) := by decide +kernel
theorem dX7_take_33 : decode cX7_take 33 = .ok (.iload_n 1, 1) := by decide +kernel
theorem dX7_take_34 : decode cX7_take 34 = .ok (.imul, 1) := by decide +kernel
theorem dX7_take_35 : decode cX7_take 35 = .ok (.aload_n 0, 1) := by decide +kernel
theorem dX7_take_36 : decode cX7_take 36 = .ok (.getfield 94, 3) := by decide +kernel
theorem dX7_take_39 : decode cX7_take 39 = .ok (.iload_n 1, 1) := by decide +kernel
theorem dX7_take_40 : decode cX7_take 40 = .ok (.iaload, 1) := by decide +kernel
theorem dX7_take_41 : decode cX7_take 41 = .ok (.iadd, 1) := by decide +kernel
theorem dX7_take_42 : decode cX7_take 42 = .ok (.laload, 1) := by decide +kernel
theorem dX7_take_43 : decode cX7_take 43 = .ok (.lreturn, 1) := by decide +kernel
theorem dX7_work_0 : decode cX7_work 0 = .ok (.iload_n 0, 1) := by decide +kernel
theorem dX7_work_1 : decode cX7_work 1 = .ok (.iconst 4, 1) := by decide +kernel
theorem dX7_work_2 : decode cX7_work 2 = .ok (.if_icmp .ne 9, 3) := by decide +kernel
theorem dX7_work_5 : decode cX7_work 5 = .ok (.lload_n 1, 1) := by decide +kernel
theorem dX7_work_6 : decode cX7_work 6 = .ok (.lload_n 3, 1) := by decide +kernel
theorem dX7_work_7 : decode cX7_work 7 = .ok (.ladd, 1) := by decide +kernel
theorem dX7_work_8 : decode cX7_work 8 = .ok (.goto 72, 3) := by decide +kernel
theorem dX7_work_11 : decode cX7_work 11 = .ok (.iload_n 0, 1) := by decide +kernel
theorem dX7_work_12 : decode cX7_work 12 = .ok (.iconst 5, 1) := by decide +kernel
theorem dX7_work_13 : decode cX7_work 13 = .ok (.if_icmp .ne 9, 3) := by decide +kernel
theorem dX7_work_16 : decode cX7_work 16 = .ok (.lload_n 1, 1) := by decide +kernel
theorem dX7_work_17 : decode cX7_work 17 = .ok (.lload_n 3, 1) := by decide +kernel
theorem dX7_work_18 : decode cX7_work 18 = .ok (.lsub, 1) := by decide +kernel
theorem dX7_work_19 : decode cX7_work 19 = .ok (.goto 61, 3) := by decide +kernel
theorem dX7_work_22 : decode cX7_work 22 = .ok (.iload_n 0, 1) := by decide +kernel
theorem dX7_work_23 : decode cX7_work 23 = .ok (.bipush 6, 2) := by decide +kernel
theorem dX7_work_25 : decode cX7_work 25 = .ok (.if_icmp .ne 9, 3) := by decide +kernel
theorem dX7_work_28 : decode cX7_work 28 = .ok (.lload_n 1, 1) := by decide +kernel
theorem dX7_work_29 : decode cX7_work 29 = .ok (.lload_n 3, 1) := by decide +kernel
theorem dX7_work_30 : decode cX7_work 30 = .ok (.lmul, 1) := by decide +kernel
theorem dX7_work_31 : decode cX7_work 31 = .ok (.goto 49, 3) := by decide +kernel
theorem dX7_work_34 : decode cX7_work 34 = .ok (.iload_n 0, 1) := by decide +kernel
theorem dX7_work_35 : decode cX7_work 35 = .ok (.bipush 7, 2) := by decide +kernel
theorem dX7_work_37 : decode cX7_work 37 = .ok (.if_icmp .ne 17, 3) := by decide +kernel
theorem dX7_work_40 : decode cX7_work 40 = .ok (.lload_n 1, 1) := by decide +kernel
theorem dX7_work_41 : decode cX7_work 41 = .ok (.lload_n 3, 1) := by decide +kernel
theorem dX7_work_42 : decode cX7_work 42 = .ok (.lcmp, 1) := by decide +kernel
theorem dX7_work_43 : decode cX7_work 43 = .ok (.ifCond .ge 7, 3) := by decide +kernel
theorem dX7_work_46 : decode cX7_work 46 = .ok (.lconst 1, 1) := by decide +kernel
theorem dX7_work_47 : decode cX7_work 47 = .ok (.goto 33, 3) := by decide +kernel
theorem dX7_work_50 : decode cX7_work 50 = .ok (.lconst 0, 1) := by decide +kernel
theorem dX7_work_51 : decode cX7_work 51 = .ok (.goto 29, 3) := by decide +kernel
theorem dX7_work_54 : decode cX7_work 54 = .ok (.lload_n 3, 1) := by decide +kernel
theorem dX7_work_55 : decode cX7_work 55 = .ok (.lconst 0, 1) := by decide +kernel
theorem dX7_work_56 : decode cX7_work 56 = .ok (.lcmp, 1) := by decide +kernel
theorem dX7_work_57 : decode cX7_work 57 = .ok (.ifCond .ne 7, 3) := by decide +kernel
theorem dX7_work_60 : decode cX7_work 60 = .ok (.lconst 0, 1) := by decide +kernel
theorem dX7_work_61 : decode cX7_work 61 = .ok (.goto 19, 3) := by decide +kernel
theorem dX7_work_64 : decode cX7_work 64 = .ok (.lload_n 3, 1) := by decide +kernel
theorem dX7_work_65 : decode cX7_work 65 = .ok (.ldc2_w 167, 3) := by decide +kernel
theorem dX7_work_68 : decode cX7_work 68 = .ok (.lcmp, 1) := by decide +kernel
theorem dX7_work_69 : decode cX7_work 69 = .ok (.ifCond .ne 8, 3) := by decide +kernel
theorem dX7_work_72 : decode cX7_work 72 = .ok (.lload_n 1, 1) := by decide +kernel
theorem dX7_work_73 : decode cX7_work 73 = .ok (.lneg, 1) := by decide +kernel
theorem dX7_work_74 : decode cX7_work 74 = .ok (.goto 6, 3) := by decide +kernel
theorem dX7_work_77 : decode cX7_work 77 = .ok (.lload_n 1, 1) := by decide +kernel
theorem dX7_work_78 : decode cX7_work 78 = .ok (.lload_n 3, 1) := by decide +kernel
theorem dX7_work_79 : decode cX7_work 79 = .ok (.ldiv, 1) := by decide +kernel
theorem dX7_work_80 : decode cX7_work 80 = .ok (.lreturn, 1) := by decide +kernel
theorem dX7_call_0 : decode cX7_call 0 = .ok (.aload_n 0, 1) := by decide +kernel
theorem dX7_call_1 : decode cX7_call 1 = .ok (.getfield 209, 3) := by decide +kernel
theorem dX7_call_4 : decode cX7_call 4 = .ok (.iconst 1, 1) := by decide +kernel
theorem dX7_call_5 : decode cX7_call 5 = .ok (.isub, 1) := by decide +kernel
theorem dX7_call_6 : decode cX7_call 6 = .ok (.istore_n 2, 1) := by decide +kernel
theorem dX7_call_7 : decode cX7_call 7 = .ok (.aload_n 0, 1) := by decide +kernel
theorem dX7_call_8 : decode cX7_call 8 = .ok (.getfield 7, 3) := by decide +kernel
theorem dX7_call_11 : decode cX7_call 11 = .ok (.iload_n 1, 1) := by decide +kernel
theorem dX7_call_12 : decode cX7_call 12 = .ok (.iaload, 1) := by decide +kernel
theorem dX7_call_13 : decode cX7_call 13 = .ok (.istore_n 3, 1) := by decide +kernel
theorem dX7_call_14 : decode cX7_call 14 = .ok (.aload_n 0, 1) := by decide +kernel
theorem dX7_call_15 : decode cX7_call 15 = .ok (.getfield 94, 3) := by decide +kernel
theorem dX7_call_18 : decode cX7_call 18 = .ok (.iload_n 2, 1) := by decide +kernel
theorem dX7_call_19 : decode cX7_call 19 = .ok (.dup2, 1) := by decide +kernel
theorem dX7_call_20 : decode cX7_call 20 = .ok (.iaload, 1) := by decide +kernel
theorem dX7_call_21 : decode cX7_call 21 = .ok (.iload_n 3, 1) := by decide +kernel
theorem dX7_call_22 : decode cX7_call 22 = .ok (.isub, 1) := by decide +kernel
theorem dX7_call_23 : decode cX7_call 23 = .ok (.iastore, 1) := by decide +kernel
theorem dX7_call_24 : decode cX7_call 24 = .ok (.aload_n 0, 1) := by decide +kernel
theorem dX7_call_25 : decode cX7_call 25 = .ok (.dup, 1) := by decide +kernel
theorem dX7_call_26 : decode cX7_call 26 = .ok (.getfield 212, 3) := by decide +kernel
theorem dX7_call_29 : decode cX7_call 29 = .ok (.iconst 2, 1) := by decide +kernel
theorem dX7_call_30 : decode cX7_call 30 = .ok (.iload_n 3, 1) := by decide +kernel
theorem dX7_call_31 : decode cX7_call 31 = .ok (.isub, 1) := by decide +kernel
theorem dX7_call_32 : decode cX7_call 32 = .ok (.iadd, 1) := by decide +kernel
theorem dX7_call_33 : decode cX7_call 33 = .ok (.putfield 212, 3) := by decide +kernel
theorem dX7_call_36 : decode cX7_call 36 = .ok (.aload_n 0, 1) := by decide +kernel
theorem dX7_call_37 : decode cX7_call 37 = .ok (.iload_n 1, 1) := by decide +kernel
theorem dX7_call_38 : decode cX7_call 38 = .ok (.invokevirtual 218, 3) := by decide +kernel
theorem dX7_call_41 : decode cX7_call 41 = .ok (.iconst 0, 1) := by decide +kernel
theorem dX7_call_42 : decode cX7_call 42 = .ok (.istore 4, 2) := by decide +kernel
theorem dX7_call_44 : decode cX7_call 44 = .ok (.iload 4, 2) := by decide +kernel
theorem dX7_call_46 : decode cX7_call 46 = .ok (.iload_n 3, 1) := by decide +kernel
theorem dX7_call_47 : decode cX7_call 47 = .ok (.if_icmp .ge 42, 3) := by decide +kernel
theorem dX7_call_50 : decode cX7_call 50 = .ok (.aload_n 0, 1) := by decide +kernel
theorem dX7_call_51 : decode cX7_call 51 = .ok (.getfield 97, 3) := by decide +kernel
theorem dX7_call_54 : decode cX7_call 54 = .ok (.bipush 16, 2) := by decide +kernel
theorem dX7_call_56 : decode cX7_call 56 = .ok (.iload_n 2, 1) := by decide +kernel
theorem dX7_call_57 : decode cX7_call 57 = .ok (.iconst 1, 1) := by decide +kernel
theorem dX7_call_58 : decode cX7_call 58 = .ok (.iadd, 1) := by decide +kernel
theorem dX7_call_59 : decode cX7_call 59 = .ok (.imul, 1) := by decide +kernel
theorem dX7_call_60 : decode cX7_call 60 = .ok (.iload 4, 2) := by decide +kernel
theorem dX7_call_62 : decode cX7_call 62 = .ok (.iadd, 1) := by decide +kernel
theorem dX7_call_63 : decode cX7_call 63 = .ok (.aload_n 0, 1) := by decide +kernel
theorem dX7_call_64 : decode cX7_call 64 = .ok (.getfield 100, 3) := by decide +kernel
theorem dX7_call_67 : decode cX7_call 67 = .ok (.bipush 101, 2) := by decide +kernel
theorem dX7_call_69 : decode cX7_call 69 = .ok (.iload_n 2, 1) := by decide +kernel
theorem dX7_call_70 : decode cX7_call 70 = .ok (.imul, 1) := by decide +kernel
theorem dX7_call_71 : decode cX7_call 71 = .ok (.aload_n 0, 1) := by decide +kernel
theorem dX7_call_72 : decode cX7_call 72 = .ok (.getfield 94, 3) := by decide +kernel
theorem dX7_call_75 : decode cX7_call 75 = .ok (.iload_n 2, 1) := by decide +kernel
theorem dX7_call_76 : decode cX7_call 76 = .ok (.iaload, 1) := by decide +kernel
theorem dX7_call_77 : decode cX7_call 77 = .ok (.iadd, 1) := by decide +kernel
theorem dX7_call_78 : decode cX7_call 78 = .ok (.iload 4, 2) := by decide +kernel
theorem dX7_call_80 : decode cX7_call 80 = .ok (.iadd, 1) := by decide +kernel
theorem dX7_call_81 : decode cX7_call 81 = .ok (.laload, 1) := by decide +kernel
theorem dX7_call_82 : decode cX7_call 82 = .ok (.lastore, 1) := by decide +kernel
theorem dX7_call_83 : decode cX7_call 83 = .ok (.iinc 4 1, 3) := by decide +kernel
theorem dX7_call_86 : decode cX7_call 86 = .ok (.goto (-42), 3) := by decide +kernel
theorem dX7_call_89 : decode cX7_call 89 = .ok (.aload_n 0, 1) := by decide +kernel
theorem dX7_call_90 : decode cX7_call 90 = .ok (.dup, 1) := by decide +kernel
theorem dX7_call_91 : decode cX7_call 91 = .ok (.getfield 221, 3) := by decide +kernel
theorem dX7_call_94 : decode cX7_call 94 = .ok (.iconst 1, 1) := by decide +kernel
theorem dX7_call_95 : decode cX7_call 95 = .ok (.iadd, 1) := by decide +kernel
theorem dX7_call_96 : decode cX7_call 96 = .ok (.putfield 221, 3) := by decide +kernel
theorem dX7_call_99 : decode cX7_call 99 = .ok (.return_, 1) := by decide +kernel
theorem dX7_back_0 : decode cX7_back 0 = .ok (.aload_n 0, 1) := by decide +kernel
theorem dX7_back_1 : decode cX7_back 1 = .ok (.getfield 13, 3) := by decide +kernel
theorem dX7_back_4 : decode cX7_back 4 = .ok (.iload_n 1, 1) := by decide +kernel
theorem dX7_back_5 : decode cX7_back 5 = .ok (.iaload, 1) := by decide +kernel
theorem dX7_back_6 : decode cX7_back 6 = .ok (.ifCond .le 10, 3) := by decide +kernel
theorem dX7_back_9 : decode cX7_back 9 = .ok (.aload_n 0, 1) := by decide +kernel
theorem dX7_back_10 : decode cX7_back 10 = .ok (.invokevirtual 223, 3) := by decide +kernel
theorem dX7_back_13 : decode cX7_back 13 = .ok (.goto 4, 3) := by decide +kernel
theorem dX7_back_16 : decode cX7_back 16 = .ok (.lconst 0, 1) := by decide +kernel
theorem dX7_back_17 : decode cX7_back 17 = .ok (.lstore_n 2, 1) := by decide +kernel
theorem dX7_back_18 : decode cX7_back 18 = .ok (.aload_n 0, 1) := by decide +kernel
theorem dX7_back_19 : decode cX7_back 19 = .ok (.dup, 1) := by decide +kernel
theorem dX7_back_20 : decode cX7_back 20 = .ok (.getfield 209, 3) := by decide +kernel
theorem dX7_back_23 : decode cX7_back 23 = .ok (.iconst 1, 1) := by decide +kernel
theorem dX7_back_24 : decode cX7_back 24 = .ok (.isub, 1) := by decide +kernel
theorem dX7_back_25 : decode cX7_back 25 = .ok (.putfield 209, 3) := by decide +kernel
theorem dX7_back_28 : decode cX7_back 28 = .ok (.aload_n 0, 1) := by decide +kernel
theorem dX7_back_29 : decode cX7_back 29 = .ok (.dup, 1) := by decide +kernel
theorem dX7_back_30 : decode cX7_back 30 = .ok (.getfield 212, 3) := by decide +kernel
theorem dX7_back_33 : decode cX7_back 33 = .ok (.aload_n 0, 1) := by decide +kernel
theorem dX7_back_34 : decode cX7_back 34 = .ok (.getfield 16, 3) := by decide +kernel
theorem dX7_back_37 : decode cX7_back 37 = .ok (.iload_n 1, 1) := by decide +kernel
theorem dX7_back_38 : decode cX7_back 38 = .ok (.iaload, 1) := by decide +kernel
theorem dX7_back_39 : decode cX7_back 39 = .ok (.aload_n 0, 1) := by decide +kernel
theorem dX7_back_40 : decode cX7_back 40 = .ok (.getfield 94, 3) := by decide +kernel
theorem dX7_back_43 : decode cX7_back 43 = .ok (.aload_n 0, 1) := by decide +kernel
theorem dX7_back_44 : decode cX7_back 44 = .ok (.getfield 209, 3) := by decide +kernel
theorem dX7_back_47 : decode cX7_back 47 = .ok (.iaload, 1) := by decide +kernel
theorem dX7_back_48 : decode cX7_back 48 = .ok (.iadd, 1) := by decide +kernel
theorem dX7_back_49 : decode cX7_back 49 = .ok (.isub, 1) := by decide +kernel
theorem dX7_back_50 : decode cX7_back 50 = .ok (.putfield 212, 3) := by decide +kernel
theorem dX7_back_53 : decode cX7_back 53 = .ok (.aload_n 0, 1) := by decide +kernel
theorem dX7_back_54 : decode cX7_back 54 = .ok (.getfield 209, 3) := by decide +kernel
theorem dX7_back_57 : decode cX7_back 57 = .ok (.ifCond .ne 9, 3) := by decide +kernel
theorem dX7_back_60 : decode cX7_back 60 = .ok (.aload_n 0, 1) := by decide +kernel
theorem dX7_back_61 : decode cX7_back 61 = .ok (.lload_n 2, 1) := by decide +kernel
theorem dX7_back_62 : decode cX7_back 62 = .ok (.putfield 227, 3) := by decide +kernel
theorem dX7_back_65 : decode cX7_back 65 = .ok (.return_, 1) := by decide +kernel
theorem dX7_back_66 : decode cX7_back 66 = .ok (.aload_n 0, 1) := by decide +kernel
theorem dX7_back_67 : decode cX7_back 67 = .ok (.dup, 1) := by decide +kernel
theorem dX7_back_68 : decode cX7_back 68 = .ok (.getfield 212, 3) := by decide +kernel
theorem dX7_back_71 : decode cX7_back 71 = .ok (.iconst 2, 1) := by decide +kernel
theorem dX7_back_72 : decode cX7_back 72 = .ok (.isub, 1) := by decide +kernel
theorem dX7_back_73 : decode cX7_back 73 = .ok (.putfield 212, 3) := by decide +kernel
theorem dX7_back_76 : decode cX7_back 76 = .ok (.aload_n 0, 1) := by decide +kernel
theorem dX7_back_77 : decode cX7_back 77 = .ok (.getfield 13, 3) := by decide +kernel
theorem dX7_back_80 : decode cX7_back 80 = .ok (.iload_n 1, 1) := by decide +kernel
theorem dX7_back_81 : decode cX7_back 81 = .ok (.iaload, 1) := by decide +kernel
theorem dX7_back_82 : decode cX7_back 82 = .ok (.ifCond .le 8, 3) := by decide +kernel
theorem dX7_back_85 : decode cX7_back 85 = .ok (.aload_n 0, 1) := by decide +kernel
theorem dX7_back_86 : decode cX7_back 86 = .ok (.lload_n 2, 1) := by decide +kernel
theorem dX7_back_87 : decode cX7_back 87 = .ok (.invokevirtual 231, 3) := by decide +kernel
theorem dX7_back_90 : decode cX7_back 90 = .ok (.return_, 1) := by decide +kernel
theorem dX7_doOne_0 : decode cX7_doOne 0 = .ok (.bipush 120, 2) := by decide +kernel
theorem dX7_doOne_2 : decode cX7_doOne 2 = .ok (.iload_n 1, 1) := by decide +kernel
theorem dX7_doOne_3 : decode cX7_doOne 3 = .ok (.imul, 1) := by decide +kernel
theorem dX7_doOne_4 : decode cX7_doOne 4 = .ok (.iload_n 2, 1) := by decide +kernel
theorem dX7_doOne_5 : decode cX7_doOne 5 = .ok (.iadd, 1) := by decide +kernel
theorem dX7_doOne_6 : decode cX7_doOne 6 = .ok (.istore_n 3, 1) := by decide +kernel
theorem dX7_doOne_7 : decode cX7_doOne 7 = .ok (.aload_n 0, 1) := by decide +kernel
theorem dX7_doOne_8 : decode cX7_doOne 8 = .ok (.getfield 209, 3) := by decide +kernel
theorem dX7_doOne_11 : decode cX7_doOne 11 = .ok (.iconst 1, 1) := by decide +kernel
theorem dX7_doOne_12 : decode cX7_doOne 12 = .ok (.isub, 1) := by decide +kernel
theorem dX7_doOne_13 : decode cX7_doOne 13 = .ok (.istore 4, 2) := by decide +kernel
theorem dX7_doOne_15 : decode cX7_doOne 15 = .ok (.bipush 9, 2) := by decide +kernel
theorem dX7_doOne_17 : decode cX7_doOne 17 = .ok (.iload 4, 2) := by decide +kernel
theorem dX7_doOne_19 : decode cX7_doOne 19 = .ok (.imul, 1) := by decide +kernel
theorem dX7_doOne_20 : decode cX7_doOne 20 = .ok (.aload_n 0, 1) := by decide +kernel
theorem dX7_doOne_21 : decode cX7_doOne 21 = .ok (.getfield 45, 3) := by decide +kernel
theorem dX7_doOne_24 : decode cX7_doOne 24 = .ok (.iload_n 3, 1) := by decide +kernel
theorem dX7_doOne_25 : decode cX7_doOne 25 = .ok (.iaload, 1) := by decide +kernel
theorem dX7_doOne_26 : decode cX7_doOne 26 = .ok (.iadd, 1) := by decide +kernel
theorem dX7_doOne_27 : decode cX7_doOne 27 = .ok (.istore 5, 2) := by decide +kernel
theorem dX7_doOne_29 : decode cX7_doOne 29 = .ok (.aload_n 0, 1) := by decide +kernel
theorem dX7_doOne_30 : decode cX7_doOne 30 = .ok (.getfield 91, 3) := by decide +kernel
theorem dX7_doOne_33 : decode cX7_doOne 33 = .ok (.iload 4, 2) := by decide +kernel
theorem dX7_doOne_35 : decode cX7_doOne 35 = .ok (.iload_n 2, 1) := by decide +kernel
theorem dX7_doOne_36 : decode cX7_doOne 36 = .ok (.iconst 1, 1) := by decide +kernel
theorem dX7_doOne_37 : decode cX7_doOne 37 = .ok (.iadd, 1) := by decide +kernel
theorem dX7_doOne_38 : decode cX7_doOne 38 = .ok (.iastore, 1) := by decide +kernel
theorem dX7_doOne_39 : decode cX7_doOne 39 = .ok (.aload_n 0, 1) := by decide +kernel
theorem dX7_doOne_40 : decode cX7_doOne 40 = .ok (.getfield 22, 3) := by decide +kernel
theorem dX7_doOne_43 : decode cX7_doOne 43 = .ok (.iload_n 3, 1) := by decide +kernel
theorem dX7_doOne_44 : decode cX7_doOne 44 = .ok (.iaload, 1) := by decide +kernel
theorem dX7_doOne_45 : decode cX7_doOne 45 = .ok (.tableswitch 470 0 17 #[87, 100, 109, 136, 470, 470, 470, 470, 470, 223, 248, 273, 308, 325, 351, 401, 448, 462], 87) := by decide +kernel
theorem dX7_doOne_132 : decode cX7_doOne 132 = .ok (.aload_n 0, 1) := by decide +kernel
theorem dX7_doOne_133 : decode cX7_doOne 133 = .ok (.aload_n 0, 1) := by decide +kernel
theorem dX7_doOne_134 : decode cX7_doOne 134 = .ok (.getfield 25, 3) := by decide +kernel
theorem dX7_doOne_137 : decode cX7_doOne 137 = .ok (.iload_n 3, 1) := by decide +kernel
theorem dX7_doOne_138 : decode cX7_doOne 138 = .ok (.laload, 1) := by decide +kernel
theorem dX7_doOne_139 : decode cX7_doOne 139 = .ok (.invokevirtual 231, 3) := by decide +kernel
theorem dX7_doOne_142 : decode cX7_doOne 142 = .ok (.goto 402, 3) := by decide +kernel
theorem dX7_doOne_145 : decode cX7_doOne 145 = .ok (.aload_n 0, 1) := by decide +kernel
theorem dX7_doOne_146 : decode cX7_doOne 146 = .ok (.invokevirtual 223, 3) := by decide +kernel
theorem dX7_doOne_149 : decode cX7_doOne 149 = .ok (.lstore 6, 2) := by decide +kernel
theorem dX7_doOne_151 : decode cX7_doOne 151 = .ok (.goto 393, 3) := by decide +kernel
theorem dX7_doOne_154 : decode cX7_doOne 154 = .ok (.aload_n 0, 1) := by decide +kernel
theorem dX7_doOne_155 : decode cX7_doOne 155 = .ok (.aload_n 0, 1) := by decide +kernel
theorem dX7_doOne_156 : decode cX7_doOne 156 = .ok (.getfield 100, 3) := by decide +kernel
theorem dX7_doOne_159 : decode cX7_doOne 159 = .ok (.bipush 101, 2) := by decide +kernel
theorem dX7_doOne_161 : decode cX7_doOne 161 = .ok (.iload 4, 2) := by decide +kernel
theorem dX7_doOne_163 : decode cX7_doOne 163 = .ok (.imul, 1) := by decide +kernel
theorem dX7_doOne_164 : decode cX7_doOne 164 = .ok (.aload_n 0, 1) := by decide +kernel
theorem dX7_doOne_165 : decode cX7_doOne 165 = .ok (.getfield 94, 3) := by decide +kernel
theorem dX7_doOne_168 : decode cX7_doOne 168 = .ok (.iload 4, 2) := by decide +kernel
theorem dX7_doOne_170 : decode cX7_doOne 170 = .ok (.iaload, 1) := by decide +kernel
theorem dX7_doOne_171 : decode cX7_doOne 171 = .ok (.iadd, 1) := by decide +kernel
theorem dX7_doOne_172 : decode cX7_doOne 172 = .ok (.iconst 1, 1) := by decide +kernel
theorem dX7_doOne_173 : decode cX7_doOne 173 = .ok (.isub, 1) := by decide +kernel
theorem dX7_doOne_174 : decode cX7_doOne 174 = .ok (.laload, 1) := by decide +kernel
theorem dX7_doOne_175 : decode cX7_doOne 175 = .ok (.invokevirtual 231, 3) := by decide +kernel
theorem dX7_doOne_178 : decode cX7_doOne 178 = .ok (.goto 366, 3) := by decide +kernel
theorem dX7_doOne_181 : decode cX7_doOne 181 = .ok (.aload_n 0, 1) := by decide +kernel
theorem dX7_doOne_182 : decode cX7_doOne 182 = .ok (.getfield 100, 3) := by decide +kernel
theorem dX7_doOne_185 : decode cX7_doOne 185 = .ok (.bipush 101, 2) := by decide +kernel
theorem dX7_doOne_187 : decode cX7_doOne 187 = .ok (.iload 4, 2) := by decide +kernel
theorem dX7_doOne_189 : decode cX7_doOne 189 = .ok (.imul, 1) := by decide +kernel
theorem dX7_doOne_190 : decode cX7_doOne 190 = .ok (.aload_n 0, 1) := by decide +kernel
theorem dX7_doOne_191 : decode cX7_doOne 191 = .ok (.getfield 94, 3) := by decide +kernel
theorem dX7_doOne_194 : decode cX7_doOne 194 = .ok (.iload 4, 2) := by decide +kernel
theorem dX7_doOne_196 : decode cX7_doOne 196 = .ok (.iaload, 1) := by decide +kernel
theorem dX7_doOne_197 : decode cX7_doOne 197 = .ok (.iadd, 1) := by decide +kernel
theorem dX7_doOne_198 : decode cX7_doOne 198 = .ok (.iconst 1, 1) := by decide +kernel
theorem dX7_doOne_199 : decode cX7_doOne 199 = .ok (.isub, 1) := by decide +kernel
theorem dX7_doOne_200 : decode cX7_doOne 200 = .ok (.laload, 1) := by decide +kernel
theorem dX7_doOne_201 : decode cX7_doOne 201 = .ok (.lstore 8, 2) := by decide +kernel
theorem dX7_doOne_203 : decode cX7_doOne 203 = .ok (.aload_n 0, 1) := by decide +kernel
theorem dX7_doOne_204 : decode cX7_doOne 204 = .ok (.getfield 100, 3) := by decide +kernel
theorem dX7_doOne_207 : decode cX7_doOne 207 = .ok (.bipush 101, 2) := by decide +kernel
theorem dX7_doOne_209 : decode cX7_doOne 209 = .ok (.iload 4, 2) := by decide +kernel
theorem dX7_doOne_211 : decode cX7_doOne 211 = .ok (.imul, 1) := by decide +kernel
theorem dX7_doOne_212 : decode cX7_doOne 212 = .ok (.aload_n 0, 1) := by decide +kernel
theorem dX7_doOne_213 : decode cX7_doOne 213 = .ok (.getfield 94, 3) := by decide +kernel
theorem dX7_doOne_216 : decode cX7_doOne 216 = .ok (.iload 4, 2) := by decide +kernel
theorem dX7_doOne_218 : decode cX7_doOne 218 = .ok (.iaload, 1) := by decide +kernel
theorem dX7_doOne_219 : decode cX7_doOne 219 = .ok (.iadd, 1) := by decide +kernel
theorem dX7_doOne_220 : decode cX7_doOne 220 = .ok (.iconst 1, 1) := by decide +kernel
theorem dX7_doOne_221 : decode cX7_doOne 221 = .ok (.isub, 1) := by decide +kernel
theorem dX7_doOne_222 : decode cX7_doOne 222 = .ok (.aload_n 0, 1) := by decide +kernel
theorem dX7_doOne_223 : decode cX7_doOne 223 = .ok (.getfield 100, 3) := by decide +kernel
theorem dX7_doOne_226 : decode cX7_doOne 226 = .ok (.bipush 101, 2) := by decide +kernel
theorem dX7_doOne_228 : decode cX7_doOne 228 = .ok (.iload 4, 2) := by decide +kernel
theorem dX7_doOne_230 : decode cX7_doOne 230 = .ok (.imul, 1) := by decide +kernel
theorem dX7_doOne_231 : decode cX7_doOne 231 = .ok (.aload_n 0, 1) := by decide +kernel
theorem dX7_doOne_232 : decode cX7_doOne 232 = .ok (.getfield 94, 3) := by decide +kernel
theorem dX7_doOne_235 : decode cX7_doOne 235 = .ok (.iload 4, 2) := by decide +kernel
theorem dX7_doOne_237 : decode cX7_doOne 237 = .ok (.iaload, 1) := by decide +kernel
theorem dX7_doOne_238 : decode cX7_doOne 238 = .ok (.iadd, 1) := by decide +kernel
theorem dX7_doOne_239 : decode cX7_doOne 239 = .ok (.iconst 2, 1) := by decide +kernel
theorem dX7_doOne_240 : decode cX7_doOne 240 = .ok (.isub, 1) := by decide +kernel
theorem dX7_doOne_241 : decode cX7_doOne 241 = .ok (.laload, 1) := by decide +kernel
theorem dX7_doOne_242 : decode cX7_doOne 242 = .ok (.lastore, 1) := by decide +kernel
theorem dX7_doOne_243 : decode cX7_doOne 243 = .ok (.aload_n 0, 1) := by decide +kernel
theorem dX7_doOne_244 : decode cX7_doOne 244 = .ok (.getfield 100, 3) := by decide +kernel
theorem dX7_doOne_247 : decode cX7_doOne 247 = .ok (.bipush 101, 2) := by decide +kernel
theorem dX7_doOne_249 : decode cX7_doOne 249 = .ok (.iload 4, 2) := by decide +kernel
theorem dX7_doOne_251 : decode cX7_doOne 251 = .ok (.imul, 1) := by decide +kernel
theorem dX7_doOne_252 : decode cX7_doOne 252 = .ok (.aload_n 0, 1) := by decide +kernel
theorem dX7_doOne_253 : decode cX7_doOne 253 = .ok (.getfield 94, 3) := by decide +kernel
theorem dX7_doOne_256 : decode cX7_doOne 256 = .ok (.iload 4, 2) := by decide +kernel
theorem dX7_doOne_258 : decode cX7_doOne 258 = .ok (.iaload, 1) := by decide +kernel
theorem dX7_doOne_259 : decode cX7_doOne 259 = .ok (.iadd, 1) := by decide +kernel
theorem dX7_doOne_260 : decode cX7_doOne 260 = .ok (.iconst 2, 1) := by decide +kernel
theorem dX7_doOne_261 : decode cX7_doOne 261 = .ok (.isub, 1) := by decide +kernel
theorem dX7_doOne_262 : decode cX7_doOne 262 = .ok (.lload 8, 2) := by decide +kernel
theorem dX7_doOne_264 : decode cX7_doOne 264 = .ok (.lastore, 1) := by decide +kernel
theorem dX7_doOne_265 : decode cX7_doOne 265 = .ok (.goto 279, 3) := by decide +kernel
theorem dX7_doOne_268 : decode cX7_doOne 268 = .ok (.aload_n 0, 1) := by decide +kernel
theorem dX7_doOne_269 : decode cX7_doOne 269 = .ok (.aload_n 0, 1) := by decide +kernel
theorem dX7_doOne_270 : decode cX7_doOne 270 = .ok (.getfield 97, 3) := by decide +kernel
theorem dX7_doOne_273 : decode cX7_doOne 273 = .ok (.bipush 16, 2) := by decide +kernel
theorem dX7_doOne_275 : decode cX7_doOne 275 = .ok (.iload 4, 2) := by decide +kernel
theorem dX7_doOne_277 : decode cX7_doOne 277 = .ok (.imul, 1) := by decide +kernel
theorem dX7_doOne_278 : decode cX7_doOne 278 = .ok (.aload_n 0, 1) := by decide +kernel
theorem dX7_doOne_279 : decode cX7_doOne 279 = .ok (.getfield 25, 3) := by decide +kernel
theorem dX7_doOne_282 : decode cX7_doOne 282 = .ok (.iload_n 3, 1) := by decide +kernel
theorem dX7_doOne_283 : decode cX7_doOne 283 = .ok (.laload, 1) := by decide +kernel
theorem dX7_doOne_284 : decode cX7_doOne 284 = .ok (.l2i, 1) := by decide +kernel
theorem dX7_doOne_285 : decode cX7_doOne 285 = .ok (.iadd, 1) := by decide +kernel
theorem dX7_doOne_286 : decode cX7_doOne 286 = .ok (.laload, 1) := by decide +kernel
theorem dX7_doOne_287 : decode cX7_doOne 287 = .ok (.invokevirtual 231, 3) := by decide +kernel
theorem dX7_doOne_290 : decode cX7_doOne 290 = .ok (.goto 254, 3) := by decide +kernel
theorem dX7_doOne_293 : decode cX7_doOne 293 = .ok (.aload_n 0, 1) := by decide +kernel
theorem dX7_doOne_294 : decode cX7_doOne 294 = .ok (.getfield 97, 3) := by decide +kernel
theorem dX7_doOne_297 : decode cX7_doOne 297 = .ok (.bipush 16, 2) := by decide +kernel
theorem dX7_doOne_299 : decode cX7_doOne 299 = .ok (.iload 4, 2) := by decide +kernel
theorem dX7_doOne_301 : decode cX7_doOne 301 = .ok (.imul, 1) := by decide +kernel
theorem dX7_doOne_302 : decode cX7_doOne 302 = .ok (.aload_n 0, 1) := by decide +kernel
theorem dX7_doOne_303 : decode cX7_doOne 303 = .ok (.getfield 25, 3) := by decide +kernel
theorem dX7_doOne_306 : decode cX7_doOne 306 = .ok (.iload_n 3, 1) := by decide +kernel
theorem dX7_doOne_307 : decode cX7_doOne 307 = .ok (.laload, 1) := by decide +kernel
theorem dX7_doOne_308 : decode cX7_doOne 308 = .ok (.l2i, 1) := by decide +kernel
theorem dX7_doOne_309 : decode cX7_doOne 309 = .ok (.iadd, 1) := by decide +kernel
theorem dX7_doOne_310 : decode cX7_doOne 310 = .ok (.aload_n 0, 1) := by decide +kernel
theorem dX7_doOne_311 : decode cX7_doOne 311 = .ok (.invokevirtual 223, 3) := by decide +kernel
theorem dX7_doOne_314 : decode cX7_doOne 314 = .ok (.lastore, 1) := by decide +kernel
theorem dX7_doOne_315 : decode cX7_doOne 315 = .ok (.goto 229, 3) := by decide +kernel
theorem dX7_doOne_318 : decode cX7_doOne 318 = .ok (.aload_n 0, 1) := by decide +kernel
theorem dX7_doOne_319 : decode cX7_doOne 319 = .ok (.aload_n 0, 1) := by decide +kernel
theorem dX7_doOne_320 : decode cX7_doOne 320 = .ok (.getfield 100, 3) := by decide +kernel
theorem dX7_doOne_323 : decode cX7_doOne 323 = .ok (.bipush 101, 2) := by decide +kernel
theorem dX7_doOne_325 : decode cX7_doOne 325 = .ok (.iload 4, 2) := by decide +kernel
theorem dX7_doOne_327 : decode cX7_doOne 327 = .ok (.imul, 1) := by decide +kernel
theorem dX7_doOne_328 : decode cX7_doOne 328 = .ok (.aload_n 0, 1) := by decide +kernel
theorem dX7_doOne_329 : decode cX7_doOne 329 = .ok (.getfield 94, 3) := by decide +kernel
theorem dX7_doOne_332 : decode cX7_doOne 332 = .ok (.iload 4, 2) := by decide +kernel
theorem dX7_doOne_334 : decode cX7_doOne 334 = .ok (.iaload, 1) := by decide +kernel
theorem dX7_doOne_335 : decode cX7_doOne 335 = .ok (.iadd, 1) := by decide +kernel
theorem dX7_doOne_336 : decode cX7_doOne 336 = .ok (.iconst 1, 1) := by decide +kernel
theorem dX7_doOne_337 : decode cX7_doOne 337 = .ok (.isub, 1) := by decide +kernel
theorem dX7_doOne_338 : decode cX7_doOne 338 = .ok (.aload_n 0, 1) := by decide +kernel
theorem dX7_doOne_339 : decode cX7_doOne 339 = .ok (.getfield 25, 3) := by decide +kernel
theorem dX7_doOne_342 : decode cX7_doOne 342 = .ok (.iload_n 3, 1) := by decide +kernel
theorem dX7_doOne_343 : decode cX7_doOne 343 = .ok (.laload, 1) := by decide +kernel
theorem dX7_doOne_344 : decode cX7_doOne 344 = .ok (.l2i, 1) := by decide +kernel
theorem dX7_doOne_345 : decode cX7_doOne 345 = .ok (.isub, 1) := by decide +kernel
theorem dX7_doOne_346 : decode cX7_doOne 346 = .ok (.laload, 1) := by decide +kernel
theorem dX7_doOne_347 : decode cX7_doOne 347 = .ok (.invokevirtual 231, 3) := by decide +kernel
theorem dX7_doOne_350 : decode cX7_doOne 350 = .ok (.goto 194, 3) := by decide +kernel
theorem dX7_doOne_353 : decode cX7_doOne 353 = .ok (.aload_n 0, 1) := by decide +kernel
theorem dX7_doOne_354 : decode cX7_doOne 354 = .ok (.getfield 91, 3) := by decide +kernel
theorem dX7_doOne_357 : decode cX7_doOne 357 = .ok (.iload 4, 2) := by decide +kernel
theorem dX7_doOne_359 : decode cX7_doOne 359 = .ok (.aload_n 0, 1) := by decide +kernel
theorem dX7_doOne_360 : decode cX7_doOne 360 = .ok (.getfield 25, 3) := by decide +kernel
theorem dX7_doOne_363 : decode cX7_doOne 363 = .ok (.iload_n 3, 1) := by decide +kernel
theorem dX7_doOne_364 : decode cX7_doOne 364 = .ok (.laload, 1) := by decide +kernel
theorem dX7_doOne_365 : decode cX7_doOne 365 = .ok (.l2i, 1) := by decide +kernel
theorem dX7_doOne_366 : decode cX7_doOne 366 = .ok (.iastore, 1) := by decide +kernel
theorem dX7_doOne_367 : decode cX7_doOne 367 = .ok (.goto 177, 3) := by decide +kernel
theorem dX7_doOne_370 : decode cX7_doOne 370 = .ok (.aload_n 0, 1) := by decide +kernel
theorem dX7_doOne_371 : decode cX7_doOne 371 = .ok (.invokevirtual 223, 3) := by decide +kernel
theorem dX7_doOne_374 : decode cX7_doOne 374 = .ok (.lconst 0, 1) := by decide +kernel
theorem dX7_doOne_375 : decode cX7_doOne 375 = .ok (.lcmp, 1) := by decide +kernel
theorem dX7_doOne_376 : decode cX7_doOne 376 = .ok (.ifCond .ne 168, 3) := by decide +kernel
theorem dX7_doOne_379 : decode cX7_doOne 379 = .ok (.aload_n 0, 1) := by decide +kernel
theorem dX7_doOne_380 : decode cX7_doOne 380 = .ok (.getfield 91, 3) := by decide +kernel
theorem dX7_doOne_383 : decode cX7_doOne 383 = .ok (.iload 4, 2) := by decide +kernel
theorem dX7_doOne_385 : decode cX7_doOne 385 = .ok (.aload_n 0, 1) := by decide +kernel
theorem dX7_doOne_386 : decode cX7_doOne 386 = .ok (.getfield 25, 3) := by decide +kernel
theorem dX7_doOne_389 : decode cX7_doOne 389 = .ok (.iload_n 3, 1) := by decide +kernel
theorem dX7_doOne_390 : decode cX7_doOne 390 = .ok (.laload, 1) := by decide +kernel
theorem dX7_doOne_391 : decode cX7_doOne 391 = .ok (.l2i, 1) := by decide +kernel
theorem dX7_doOne_392 : decode cX7_doOne 392 = .ok (.iastore, 1) := by decide +kernel
theorem dX7_doOne_393 : decode cX7_doOne 393 = .ok (.goto 151, 3) := by decide +kernel
theorem dX7_doOne_396 : decode cX7_doOne 396 = .ok (.aload_n 0, 1) := by decide +kernel
theorem dX7_doOne_397 : decode cX7_doOne 397 = .ok (.getfield 103, 3) := by decide +kernel
theorem dX7_doOne_400 : decode cX7_doOne 400 = .ok (.iload 5, 2) := by decide +kernel
theorem dX7_doOne_402 : decode cX7_doOne 402 = .ok (.iconst 1, 1) := by decide +kernel
theorem dX7_doOne_403 : decode cX7_doOne 403 = .ok (.iadd, 1) := by decide +kernel
theorem dX7_doOne_404 : decode cX7_doOne 404 = .ok (.aload_n 0, 1) := by decide +kernel
theorem dX7_doOne_405 : decode cX7_doOne 405 = .ok (.getfield 25, 3) := by decide +kernel
theorem dX7_doOne_408 : decode cX7_doOne 408 = .ok (.iload_n 3, 1) := by decide +kernel
theorem dX7_doOne_409 : decode cX7_doOne 409 = .ok (.laload, 1) := by decide +kernel
theorem dX7_doOne_410 : decode cX7_doOne 410 = .ok (.lastore, 1) := by decide +kernel
theorem dX7_doOne_411 : decode cX7_doOne 411 = .ok (.aload_n 0, 1) := by decide +kernel
theorem dX7_doOne_412 : decode cX7_doOne 412 = .ok (.getfield 91, 3) := by decide +kernel
theorem dX7_doOne_415 : decode cX7_doOne 415 = .ok (.iload 4, 2) := by decide +kernel
theorem dX7_doOne_417 : decode cX7_doOne 417 = .ok (.aload_n 0, 1) := by decide +kernel
theorem dX7_doOne_418 : decode cX7_doOne 418 = .ok (.getfield 25, 3) := by decide +kernel
theorem dX7_doOne_421 : decode cX7_doOne 421 = .ok (.iload_n 3, 1) := by decide +kernel
theorem dX7_doOne_422 : decode cX7_doOne 422 = .ok (.laload, 1) := by decide +kernel
theorem dX7_doOne_423 : decode cX7_doOne 423 = .ok (.lconst 0, 1) := by decide +kernel
theorem dX7_doOne_424 : decode cX7_doOne 424 = .ok (.lcmp, 1) := by decide +kernel
theorem dX7_doOne_425 : decode cX7_doOne 425 = .ok (.ifCond .ne 14, 3) := by decide +kernel
theorem dX7_doOne_428 : decode cX7_doOne 428 = .ok (.aload_n 0, 1) := by decide +kernel
theorem dX7_doOne_429 : decode cX7_doOne 429 = .ok (.getfield 42, 3) := by decide +kernel
theorem dX7_doOne_432 : decode cX7_doOne 432 = .ok (.iload_n 3, 1) := by decide +kernel
theorem dX7_doOne_433 : decode cX7_doOne 433 = .ok (.iaload, 1) := by decide +kernel
theorem dX7_doOne_434 : decode cX7_doOne 434 = .ok (.iconst 1, 1) := by decide +kernel
theorem dX7_doOne_435 : decode cX7_doOne 435 = .ok (.iadd, 1) := by decide +kernel
theorem dX7_doOne_436 : decode cX7_doOne 436 = .ok (.goto 6, 3) := by decide +kernel
theorem dX7_doOne_439 : decode cX7_doOne 439 = .ok (.iload_n 2, 1) := by decide +kernel
theorem dX7_doOne_440 : decode cX7_doOne 440 = .ok (.iconst 1, 1) := by decide +kernel
theorem dX7_doOne_441 : decode cX7_doOne 441 = .ok (.iadd, 1) := by decide +kernel
theorem dX7_doOne_442 : decode cX7_doOne 442 = .ok (.iastore, 1) := by decide +kernel
theorem dX7_doOne_443 : decode cX7_doOne 443 = .ok (.goto 101, 3) := by decide +kernel
theorem dX7_doOne_446 : decode cX7_doOne 446 = .ok (.aload_n 0, 1) := by decide +kernel
theorem dX7_doOne_447 : decode cX7_doOne 447 = .ok (.getfield 103, 3) := by decide +kernel
theorem dX7_doOne_450 : decode cX7_doOne 450 = .ok (.iload 5, 2) := by decide +kernel
theorem dX7_doOne_452 : decode cX7_doOne 452 = .ok (.dup2, 1) := by decide +kernel
theorem dX7_doOne_453 : decode cX7_doOne 453 = .ok (.laload, 1) := by decide +kernel
theorem dX7_doOne_454 : decode cX7_doOne 454 = .ok (.lconst 1, 1) := by decide +kernel
theorem dX7_doOne_455 : decode cX7_doOne 455 = .ok (.lsub, 1) := by decide +kernel
theorem dX7_doOne_456 : decode cX7_doOne 456 = .ok (.lastore, 1) := by decide +kernel
theorem dX7_doOne_457 : decode cX7_doOne 457 = .ok (.aload_n 0, 1) := by decide +kernel
theorem dX7_doOne_458 : decode cX7_doOne 458 = .ok (.getfield 91, 3) := by decide +kernel
theorem dX7_doOne_461 : decode cX7_doOne 461 = .ok (.iload 4, 2) := by decide +kernel
theorem dX7_doOne_463 : decode cX7_doOne 463 = .ok (.aload_n 0, 1) := by decide +kernel
theorem dX7_doOne_464 : decode cX7_doOne 464 = .ok (.getfield 103, 3) := by decide +kernel
theorem dX7_doOne_467 : decode cX7_doOne 467 = .ok (.iload 5, 2) := by decide +kernel
theorem dX7_doOne_469 : decode cX7_doOne 469 = .ok (.laload, 1) := by decide +kernel
theorem dX7_doOne_470 : decode cX7_doOne 470 = .ok (.lconst 0, 1) := by decide +kernel
theorem dX7_doOne_471 : decode cX7_doOne 471 = .ok (.lcmp, 1) := by decide +kernel
theorem dX7_doOne_472 : decode cX7_doOne 472 = .ok (.ifCond .le 14, 3) := by decide +kernel
theorem dX7_doOne_475 : decode cX7_doOne 475 = .ok (.aload_n 0, 1) := by decide +kernel
theorem dX7_doOne_476 : decode cX7_doOne 476 = .ok (.getfield 42, 3) := by decide +kernel
theorem dX7_doOne_479 : decode cX7_doOne 479 = .ok (.iload_n 3, 1) := by decide +kernel
theorem dX7_doOne_480 : decode cX7_doOne 480 = .ok (.iaload, 1) := by decide +kernel
theorem dX7_doOne_481 : decode cX7_doOne 481 = .ok (.iconst 1, 1) := by decide +kernel
theorem dX7_doOne_482 : decode cX7_doOne 482 = .ok (.iadd, 1) := by decide +kernel
theorem dX7_doOne_483 : decode cX7_doOne 483 = .ok (.goto 6, 3) := by decide +kernel
theorem dX7_doOne_486 : decode cX7_doOne 486 = .ok (.iload_n 2, 1) := by decide +kernel
theorem dX7_doOne_487 : decode cX7_doOne 487 = .ok (.iconst 1, 1) := by decide +kernel
theorem dX7_doOne_488 : decode cX7_doOne 488 = .ok (.iadd, 1) := by decide +kernel
theorem dX7_doOne_489 : decode cX7_doOne 489 = .ok (.iastore, 1) := by decide +kernel
theorem dX7_doOne_490 : decode cX7_doOne 490 = .ok (.goto 54, 3) := by decide +kernel
theorem dX7_doOne_493 : decode cX7_doOne 493 = .ok (.aload_n 0, 1) := by decide +kernel
theorem dX7_doOne_494 : decode cX7_doOne 494 = .ok (.aload_n 0, 1) := by decide +kernel
theorem dX7_doOne_495 : decode cX7_doOne 495 = .ok (.getfield 25, 3) := by decide +kernel
theorem dX7_doOne_498 : decode cX7_doOne 498 = .ok (.iload_n 3, 1) := by decide +kernel
theorem dX7_doOne_499 : decode cX7_doOne 499 = .ok (.laload, 1) := by decide +kernel
theorem dX7_doOne_500 : decode cX7_doOne 500 = .ok (.l2i, 1) := by decide +kernel
theorem dX7_doOne_501 : decode cX7_doOne 501 = .ok (.invokevirtual 235, 3) := by decide +kernel
theorem dX7_doOne_504 : decode cX7_doOne 504 = .ok (.goto 40, 3) := by decide +kernel
theorem dX7_doOne_507 : decode cX7_doOne 507 = .ok (.aload_n 0, 1) := by decide +kernel
theorem dX7_doOne_508 : decode cX7_doOne 508 = .ok (.iload_n 1, 1) := by decide +kernel
theorem dX7_doOne_509 : decode cX7_doOne 509 = .ok (.invokevirtual 238, 3) := by decide +kernel
theorem dX7_doOne_512 : decode cX7_doOne 512 = .ok (.goto 32, 3) := by decide +kernel
theorem dX7_doOne_515 : decode cX7_doOne 515 = .ok (.aload_n 0, 1) := by decide +kernel
theorem dX7_doOne_516 : decode cX7_doOne 516 = .ok (.invokevirtual 223, 3) := by decide +kernel
theorem dX7_doOne_519 : decode cX7_doOne 519 = .ok (.lstore 10, 2) := by decide +kernel
theorem dX7_doOne_521 : decode cX7_doOne 521 = .ok (.aload_n 0, 1) := by decide +kernel
theorem dX7_doOne_522 : decode cX7_doOne 522 = .ok (.invokevirtual 223, 3) := by decide +kernel
theorem dX7_doOne_525 : decode cX7_doOne 525 = .ok (.lstore 12, 2) := by decide +kernel
theorem dX7_doOne_527 : decode cX7_doOne 527 = .ok (.aload_n 0, 1) := by decide +kernel
theorem dX7_doOne_528 : decode cX7_doOne 528 = .ok (.aload_n 0, 1) := by decide +kernel
theorem dX7_doOne_529 : decode cX7_doOne 529 = .ok (.getfield 22, 3) := by decide +kernel
theorem dX7_doOne_532 : decode cX7_doOne 532 = .ok (.iload_n 3, 1) := by decide +kernel
theorem dX7_doOne_533 : decode cX7_doOne 533 = .ok (.iaload, 1) := by decide +kernel
theorem dX7_doOne_534 : decode cX7_doOne 534 = .ok (.lload 12, 2) := by decide +kernel
theorem dX7_doOne_536 : decode cX7_doOne 536 = .ok (.lload 10, 2) := by decide +kernel
theorem dX7_doOne_538 : decode cX7_doOne 538 = .ok (.invokestatic 241, 3) := by decide +kernel
theorem dX7_doOne_541 : decode cX7_doOne 541 = .ok (.invokevirtual 231, 3) := by decide +kernel
theorem dX7_doOne_544 : decode cX7_doOne 544 = .ok (.return_, 1) := by decide +kernel
theorem dX7_run_0 : decode cX7_run 0 = .ok (.aload_n 0, 1) := by decide +kernel
theorem dX7_run_1 : decode cX7_run 1 = .ok (.aload_n 0, 1) := by decide +kernel
theorem dX7_run_2 : decode cX7_run 2 = .ok (.iload_n 1, 1) := by decide +kernel
theorem dX7_run_3 : decode cX7_run 3 = .ok (.invokevirtual 112, 3) := by decide +kernel
theorem dX7_run_6 : decode cX7_run 6 = .ok (.ifCond .eq 7, 3) := by decide +kernel
theorem dX7_run_9 : decode cX7_run 9 = .ok (.iconst 1, 1) := by decide +kernel
theorem dX7_run_10 : decode cX7_run 10 = .ok (.goto 31, 3) := by decide +kernel
theorem dX7_run_13 : decode cX7_run 13 = .ok (.aload_n 0, 1) := by decide +kernel
theorem dX7_run_14 : decode cX7_run 14 = .ok (.getfield 206, 3) := by decide +kernel
theorem dX7_run_17 : decode cX7_run 17 = .ok (.aload_n 0, 1) := by decide +kernel
theorem dX7_run_18 : decode cX7_run 18 = .ok (.getfield 7, 3) := by decide +kernel
theorem dX7_run_21 : decode cX7_run 21 = .ok (.iload_n 1, 1) := by decide +kernel
theorem dX7_run_22 : decode cX7_run 22 = .ok (.iaload, 1) := by decide +kernel
theorem dX7_run_23 : decode cX7_run 23 = .ok (.if_icmp .ne 13, 3) := by decide +kernel
theorem dX7_run_26 : decode cX7_run 26 = .ok (.iload_n 2, 1) := by decide +kernel
theorem dX7_run_27 : decode cX7_run 27 = .ok (.ifCond .lt 9, 3) := by decide +kernel
theorem dX7_run_30 : decode cX7_run 30 = .ok (.iload_n 2, 1) := by decide +kernel
theorem dX7_run_31 : decode cX7_run 31 = .ok (.ldc 245, 2) := by decide +kernel
theorem dX7_run_33 : decode cX7_run 33 = .ok (.if_icmp .le 7, 3) := by decide +kernel
theorem dX7_run_36 : decode cX7_run 36 = .ok (.iconst 2, 1) := by decide +kernel
theorem dX7_run_37 : decode cX7_run 37 = .ok (.goto 4, 3) := by decide +kernel
theorem dX7_run_40 : decode cX7_run 40 = .ok (.iconst 0, 1) := by decide +kernel
theorem dX7_run_41 : decode cX7_run 41 = .ok (.putfield 106, 3) := by decide +kernel
theorem dX7_run_44 : decode cX7_run 44 = .ok (.aload_n 0, 1) := by decide +kernel
theorem dX7_run_45 : decode cX7_run 45 = .ok (.getfield 106, 3) := by decide +kernel
theorem dX7_run_48 : decode cX7_run 48 = .ok (.ifCond .le 5, 3) := by decide +kernel
theorem dX7_run_51 : decode cX7_run 51 = .ok (.iconst 0, 1) := by decide +kernel
theorem dX7_run_52 : decode cX7_run 52 = .ok (.ireturn, 1) := by decide +kernel
theorem dX7_run_53 : decode cX7_run 53 = .ok (.aload_n 0, 1) := by decide +kernel
theorem dX7_run_54 : decode cX7_run 54 = .ok (.invokevirtual 185, 3) := by decide +kernel
theorem dX7_run_57 : decode cX7_run 57 = .ok (.aload_n 0, 1) := by decide +kernel
theorem dX7_run_58 : decode cX7_run 58 = .ok (.getfield 206, 3) := by decide +kernel
theorem dX7_run_61 : decode cX7_run 61 = .ok (.istore_n 3, 1) := by decide +kernel
theorem dX7_run_62 : decode cX7_run 62 = .ok (.aload_n 0, 1) := by decide +kernel
theorem dX7_run_63 : decode cX7_run 63 = .ok (.iconst 0, 1) := by decide +kernel
theorem dX7_run_64 : decode cX7_run 64 = .ok (.putfield 206, 3) := by decide +kernel
theorem dX7_run_67 : decode cX7_run 67 = .ok (.aload_n 0, 1) := by decide +kernel
theorem dX7_run_68 : decode cX7_run 68 = .ok (.iconst 0, 1) := by decide +kernel
theorem dX7_run_69 : decode cX7_run 69 = .ok (.putfield 209, 3) := by decide +kernel
theorem dX7_run_72 : decode cX7_run 72 = .ok (.aload_n 0, 1) := by decide +kernel
theorem dX7_run_73 : decode cX7_run 73 = .ok (.iconst 0, 1) := by decide +kernel
theorem dX7_run_74 : decode cX7_run 74 = .ok (.putfield 212, 3) := by decide +kernel
theorem dX7_run_77 : decode cX7_run 77 = .ok (.aload_n 0, 1) := by decide +kernel
theorem dX7_run_78 : decode cX7_run 78 = .ok (.iconst 0, 1) := by decide +kernel
theorem dX7_run_79 : decode cX7_run 79 = .ok (.putfield 215, 3) := by decide +kernel
theorem dX7_run_82 : decode cX7_run 82 = .ok (.aload_n 0, 1) := by decide +kernel
theorem dX7_run_83 : decode cX7_run 83 = .ok (.lconst 0, 1) := by decide +kernel
theorem dX7_run_84 : decode cX7_run 84 = .ok (.putfield 227, 3) := by decide +kernel
theorem dX7_run_87 : decode cX7_run 87 = .ok (.aload_n 0, 1) := by decide +kernel
theorem dX7_run_88 : decode cX7_run 88 = .ok (.lconst 0, 1) := by decide +kernel
theorem dX7_run_89 : decode cX7_run 89 = .ok (.putfield 246, 3) := by decide +kernel
theorem dX7_run_92 : decode cX7_run 92 = .ok (.aload_n 0, 1) := by decide +kernel
theorem dX7_run_93 : decode cX7_run 93 = .ok (.iconst 0, 1) := by decide +kernel
theorem dX7_run_94 : decode cX7_run 94 = .ok (.putfield 249, 3) := by decide +kernel
theorem dX7_run_97 : decode cX7_run 97 = .ok (.aload_n 0, 1) := by decide +kernel
theorem dX7_run_98 : decode cX7_run 98 = .ok (.iconst 0, 1) := by decide +kernel
theorem dX7_run_99 : decode cX7_run 99 = .ok (.putfield 221, 3) := by decide +kernel
theorem dX7_run_102 : decode cX7_run 102 = .ok (.aload_n 0, 1) := by decide +kernel
theorem dX7_run_103 : decode cX7_run 103 = .ok (.getfield 48, 3) := by decide +kernel
theorem dX7_run_106 : decode cX7_run 106 = .ok (.iload_n 1, 1) := by decide +kernel
theorem dX7_run_107 : decode cX7_run 107 = .ok (.iaload, 1) := by decide +kernel
theorem dX7_run_108 : decode cX7_run 108 = .ok (.ifCond .le 5, 3) := by decide +kernel
theorem dX7_run_111 : decode cX7_run 111 = .ok (.iconst 4, 1) := by decide +kernel
theorem dX7_run_112 : decode cX7_run 112 = .ok (.ireturn, 1) := by decide +kernel
theorem dX7_run_113 : decode cX7_run 113 = .ok (.aload_n 0, 1) := by decide +kernel
theorem dX7_run_114 : decode cX7_run 114 = .ok (.iload_n 1, 1) := by decide +kernel
theorem dX7_run_115 : decode cX7_run 115 = .ok (.invokevirtual 218, 3) := by decide +kernel
theorem dX7_run_118 : decode cX7_run 118 = .ok (.iconst 0, 1) := by decide +kernel
theorem dX7_run_119 : decode cX7_run 119 = .ok (.istore 4, 2) := by decide +kernel
theorem dX7_run_121 : decode cX7_run 121 = .ok (.iload 4, 2) := by decide +kernel
theorem dX7_run_123 : decode cX7_run 123 = .ok (.iload_n 3, 1) := by decide +kernel
theorem dX7_run_124 : decode cX7_run 124 = .ok (.if_icmp .ge 23, 3) := by decide +kernel
theorem dX7_run_127 : decode cX7_run 127 = .ok (.aload_n 0, 1) := by decide +kernel
theorem dX7_run_128 : decode cX7_run 128 = .ok (.getfield 97, 3) := by decide +kernel
theorem dX7_run_131 : decode cX7_run 131 = .ok (.iload 4, 2) := by decide +kernel
theorem dX7_run_133 : decode cX7_run 133 = .ok (.aload_n 0, 1) := by decide +kernel
theorem dX7_run_134 : decode cX7_run 134 = .ok (.getfield 85, 3) := by decide +kernel
theorem dX7_run_137 : decode cX7_run 137 = .ok (.iload 4, 2) := by decide +kernel
theorem dX7_run_139 : decode cX7_run 139 = .ok (.laload, 1) := by decide +kernel
theorem dX7_run_140 : decode cX7_run 140 = .ok (.lastore, 1) := by decide +kernel
theorem dX7_run_141 : decode cX7_run 141 = .ok (.iinc 4 1, 3) := by decide +kernel
theorem dX7_run_144 : decode cX7_run 144 = .ok (.goto (-23), 3) := by decide +kernel
theorem dX7_run_147 : decode cX7_run 147 = .ok (.aload_n 0, 1) := by decide +kernel
theorem dX7_run_148 : decode cX7_run 148 = .ok (.getfield 209, 3) := by decide +kernel
theorem dX7_run_151 : decode cX7_run 151 = .ok (.ifCond .le 144, 3) := by decide +kernel
theorem dX7_run_154 : decode cX7_run 154 = .ok (.aload_n 0, 1) := by decide +kernel
theorem dX7_run_155 : decode cX7_run 155 = .ok (.getfield 88, 3) := by decide +kernel
theorem dX7_run_158 : decode cX7_run 158 = .ok (.aload_n 0, 1) := by decide +kernel
theorem dX7_run_159 : decode cX7_run 159 = .ok (.getfield 209, 3) := by decide +kernel
theorem dX7_run_162 : decode cX7_run 162 = .ok (.iconst 1, 1) := by decide +kernel
theorem dX7_run_163 : decode cX7_run 163 = .ok (.isub, 1) := by decide +kernel
theorem dX7_run_164 : decode cX7_run 164 = .ok (.iaload, 1) := by decide +kernel
theorem dX7_run_165 : decode cX7_run 165 = .ok (.istore 4, 2) := by decide +kernel
theorem dX7_run_167 : decode cX7_run 167 = .ok (.aload_n 0, 1) := by decide +kernel
theorem dX7_run_168 : decode cX7_run 168 = .ok (.getfield 91, 3) := by decide +kernel
theorem dX7_run_171 : decode cX7_run 171 = .ok (.aload_n 0, 1) := by decide +kernel
theorem dX7_run_172 : decode cX7_run 172 = .ok (.getfield 209, 3) := by decide +kernel
theorem dX7_run_175 : decode cX7_run 175 = .ok (.iconst 1, 1) := by decide +kernel
theorem dX7_run_176 : decode cX7_run 176 = .ok (.isub, 1) := by decide +kernel
theorem dX7_run_177 : decode cX7_run 177 = .ok (.iaload, 1) := by decide +kernel
theorem dX7_run_178 : decode cX7_run 178 = .ok (.istore 5, 2) := by decide +kernel
theorem dX7_run_180 : decode cX7_run 180 = .ok (.bipush 120, 2) := by decide +kernel
theorem dX7_run_182 : decode cX7_run 182 = .ok (.iload 4, 2) := by decide +kernel
theorem dX7_run_184 : decode cX7_run 184 = .ok (.imul, 1) := by decide +kernel
theorem dX7_run_185 : decode cX7_run 185 = .ok (.iload 5, 2) := by decide +kernel
theorem dX7_run_187 : decode cX7_run 187 = .ok (.iadd, 1) := by decide +kernel
theorem dX7_run_188 : decode cX7_run 188 = .ok (.istore 6, 2) := by decide +kernel
theorem dX7_run_190 : decode cX7_run 190 = .ok (.aload_n 0, 1) := by decide +kernel
theorem dX7_run_191 : decode cX7_run 191 = .ok (.getfield 249, 3) := by decide +kernel
theorem dX7_run_194 : decode cX7_run 194 = .ok (.iload_n 2, 1) := by decide +kernel
theorem dX7_run_195 : decode cX7_run 195 = .ok (.if_icmp .ne 5, 3) := by decide +kernel
theorem dX7_run_198 : decode cX7_run 198 = .ok (.iconst 2, 1) := by decide +kernel
theorem dX7_run_199 : decode cX7_run 199 = .ok (.ireturn, 1) := by decide +kernel
theorem dX7_run_200 : decode cX7_run 200 = .ok (.aload_n 0, 1) := by decide +kernel
theorem dX7_run_201 : decode cX7_run 201 = .ok (.getfield 22, 3) := by decide +kernel
theorem dX7_run_204 : decode cX7_run 204 = .ok (.iload 6, 2) := by decide +kernel
theorem dX7_run_206 : decode cX7_run 206 = .ok (.iaload, 1) := by decide +kernel
theorem dX7_run_207 : decode cX7_run 207 = .ok (.bipush 16, 2) := by decide +kernel
theorem dX7_run_209 : decode cX7_run 209 = .ok (.if_icmp .ne 21, 3) := by decide +kernel
theorem dX7_run_212 : decode cX7_run 212 = .ok (.aload_n 0, 1) := by decide +kernel
theorem dX7_run_213 : decode cX7_run 213 = .ok (.getfield 48, 3) := by decide +kernel
theorem dX7_run_216 : decode cX7_run 216 = .ok (.aload_n 0, 1) := by decide +kernel
theorem dX7_run_217 : decode cX7_run 217 = .ok (.getfield 25, 3) := by decide +kernel
theorem dX7_run_220 : decode cX7_run 220 = .ok (.iload 6, 2) := by decide +kernel
theorem dX7_run_222 : decode cX7_run 222 = .ok (.laload, 1) := by decide +kernel
theorem dX7_run_223 : decode cX7_run 223 = .ok (.l2i, 1) := by decide +kernel
theorem dX7_run_224 : decode cX7_run 224 = .ok (.iaload, 1) := by decide +kernel
theorem dX7_run_225 : decode cX7_run 225 = .ok (.ifCond .le 5, 3) := by decide +kernel
theorem dX7_run_228 : decode cX7_run 228 = .ok (.iconst 4, 1) := by decide +kernel
theorem dX7_run_229 : decode cX7_run 229 = .ok (.ireturn, 1) := by decide +kernel
theorem dX7_run_230 : decode cX7_run 230 = .ok (.aload_n 0, 1) := by decide +kernel
theorem dX7_run_231 : decode cX7_run 231 = .ok (.getfield 22, 3) := by decide +kernel
theorem dX7_run_234 : decode cX7_run 234 = .ok (.iload 6, 2) := by decide +kernel
theorem dX7_run_236 : decode cX7_run 236 = .ok (.iaload, 1) := by decide +kernel
theorem dX7_run_237 : decode cX7_run 237 = .ok (.bipush 16, 2) := by decide +kernel
theorem dX7_run_239 : decode cX7_run 239 = .ok (.if_icmp .ne 14, 3) := by decide +kernel
theorem dX7_run_242 : decode cX7_run 242 = .ok (.aload_n 0, 1) := by decide +kernel
theorem dX7_run_243 : decode cX7_run 243 = .ok (.getfield 209, 3) := by decide +kernel
theorem dX7_run_246 : decode cX7_run 246 = .ok (.bipush 100, 2) := by decide +kernel
theorem dX7_run_248 : decode cX7_run 248 = .ok (.if_icmp .ne 5, 3) := by decide +kernel
theorem dX7_run_251 : decode cX7_run 251 = .ok (.iconst 3, 1) := by decide +kernel
theorem dX7_run_252 : decode cX7_run 252 = .ok (.ireturn, 1) := by decide +kernel
theorem dX7_run_253 : decode cX7_run 253 = .ok (.aload_n 0, 1) := by decide +kernel
theorem dX7_run_254 : decode cX7_run 254 = .ok (.dup, 1) := by decide +kernel
theorem dX7_run_255 : decode cX7_run 255 = .ok (.getfield 249, 3) := by decide +kernel
theorem dX7_run_258 : decode cX7_run 258 = .ok (.iconst 1, 1) := by decide +kernel
theorem dX7_run_259 : decode cX7_run 259 = .ok (.iadd, 1) := by decide +kernel
theorem dX7_run_260 : decode cX7_run 260 = .ok (.putfield 249, 3) := by decide +kernel
theorem dX7_run_263 : decode cX7_run 263 = .ok (.aload_n 0, 1) := by decide +kernel
theorem dX7_run_264 : decode cX7_run 264 = .ok (.dup, 1) := by decide +kernel
theorem dX7_run_265 : decode cX7_run 265 = .ok (.getfield 246, 3) := by decide +kernel
theorem dX7_run_268 : decode cX7_run 268 = .ok (.aload_n 0, 1) := by decide +kernel
theorem dX7_run_269 : decode cX7_run 269 = .ok (.getfield 29, 3) := by decide +kernel
theorem dX7_run_272 : decode cX7_run 272 = .ok (.aload_n 0, 1) := by decide +kernel
theorem dX7_run_273 : decode cX7_run 273 = .ok (.getfield 22, 3) := by decide +kernel
theorem dX7_run_276 : decode cX7_run 276 = .ok (.iload 6, 2) := by decide +kernel
theorem dX7_run_278 : decode cX7_run 278 = .ok (.iaload, 1) := by decide +kernel
theorem dX7_run_279 : decode cX7_run 279 = .ok (.laload, 1) := by decide +kernel
theorem dX7_run_280 : decode cX7_run 280 = .ok (.ladd, 1) := by decide +kernel
theorem dX7_run_281 : decode cX7_run 281 = .ok (.putfield 246, 3) := by decide +kernel
theorem dX7_run_284 : decode cX7_run 284 = .ok (.aload_n 0, 1) := by decide +kernel
theorem dX7_run_285 : decode cX7_run 285 = .ok (.iload 4, 2) := by decide +kernel
theorem dX7_run_287 : decode cX7_run 287 = .ok (.iload 5, 2) := by decide +kernel
theorem dX7_run_289 : decode cX7_run 289 = .ok (.invokevirtual 252, 3) := by decide +kernel
theorem dX7_run_292 : decode cX7_run 292 = .ok (.goto (-145), 3) := by decide +kernel
theorem dX7_run_295 : decode cX7_run 295 = .ok (.iconst 1, 1) := by decide +kernel
theorem dX7_run_296 : decode cX7_run 296 = .ok (.ireturn, 1) := by decide +kernel
theorem dX7_ran_0 : decode cX7_ran 0 = .ok (.aload_n 0, 1) := by decide +kernel
theorem dX7_ran_1 : decode cX7_ran 1 = .ok (.iload_n 1, 1) := by decide +kernel
theorem dX7_ran_2 : decode cX7_ran 2 = .ok (.ifCond .lt 8, 3) := by decide +kernel
theorem dX7_ran_5 : decode cX7_ran 5 = .ok (.iload_n 1, 1) := by decide +kernel
theorem dX7_ran_6 : decode cX7_ran 6 = .ok (.iconst 4, 1) := by decide +kernel
theorem dX7_ran_7 : decode cX7_ran 7 = .ok (.if_icmp .le 7, 3) := by decide +kernel
theorem dX7_ran_10 : decode cX7_ran 10 = .ok (.iconst 1, 1) := by decide +kernel
theorem dX7_ran_11 : decode cX7_ran 11 = .ok (.goto 4, 3) := by decide +kernel
theorem dX7_ran_14 : decode cX7_ran 14 = .ok (.iconst 0, 1) := by decide +kernel
theorem dX7_ran_15 : decode cX7_ran 15 = .ok (.putfield 106, 3) := by decide +kernel
theorem dX7_ran_18 : decode cX7_ran 18 = .ok (.aload_n 0, 1) := by decide +kernel
theorem dX7_ran_19 : decode cX7_ran 19 = .ok (.getfield 106, 3) := by decide +kernel
theorem dX7_ran_22 : decode cX7_ran 22 = .ok (.ifCond .le 5, 3) := by decide +kernel
theorem dX7_ran_25 : decode cX7_ran 25 = .ok (.lconst 0, 1) := by decide +kernel
theorem dX7_ran_26 : decode cX7_ran 26 = .ok (.lreturn, 1) := by decide +kernel
theorem dX7_ran_27 : decode cX7_ran 27 = .ok (.iload_n 1, 1) := by decide +kernel
theorem dX7_ran_28 : decode cX7_ran 28 = .ok (.ifCond .ne 10, 3) := by decide +kernel
theorem dX7_ran_31 : decode cX7_ran 31 = .ok (.aload_n 0, 1) := by decide +kernel
theorem dX7_ran_32 : decode cX7_ran 32 = .ok (.getfield 227, 3) := by decide +kernel
theorem dX7_ran_35 : decode cX7_ran 35 = .ok (.goto 46, 3) := by decide +kernel
theorem dX7_ran_38 : decode cX7_ran 38 = .ok (.iload_n 1, 1) := by decide +kernel
theorem dX7_ran_39 : decode cX7_ran 39 = .ok (.iconst 1, 1) := by decide +kernel
theorem dX7_ran_40 : decode cX7_ran 40 = .ok (.if_icmp .ne 10, 3) := by decide +kernel
theorem dX7_ran_43 : decode cX7_ran 43 = .ok (.aload_n 0, 1) := by decide +kernel
theorem dX7_ran_44 : decode cX7_ran 44 = .ok (.getfield 246, 3) := by decide +kernel
theorem dX7_ran_47 : decode cX7_ran 47 = .ok (.goto 34, 3) := by decide +kernel
theorem dX7_ran_50 : decode cX7_ran 50 = .ok (.iload_n 1, 1) := by decide +kernel
theorem dX7_ran_51 : decode cX7_ran 51 = .ok (.iconst 2, 1) := by decide +kernel
theorem dX7_ran_52 : decode cX7_ran 52 = .ok (.if_icmp .ne 11, 3) := by decide +kernel
theorem dX7_ran_55 : decode cX7_ran 55 = .ok (.aload_n 0, 1) := by decide +kernel
theorem dX7_ran_56 : decode cX7_ran 56 = .ok (.getfield 215, 3) := by decide +kernel
theorem dX7_ran_59 : decode cX7_ran 59 = .ok (.i2l, 1) := by decide +kernel
theorem dX7_ran_60 : decode cX7_ran 60 = .ok (.goto 21, 3) := by decide +kernel
theorem dX7_ran_63 : decode cX7_ran 63 = .ok (.iload_n 1, 1) := by decide +kernel
theorem dX7_ran_64 : decode cX7_ran 64 = .ok (.iconst 3, 1) := by decide +kernel
theorem dX7_ran_65 : decode cX7_ran 65 = .ok (.if_icmp .ne 11, 3) := by decide +kernel
theorem dX7_ran_68 : decode cX7_ran 68 = .ok (.aload_n 0, 1) := by decide +kernel
theorem dX7_ran_69 : decode cX7_ran 69 = .ok (.getfield 249, 3) := by decide +kernel
theorem dX7_ran_72 : decode cX7_ran 72 = .ok (.i2l, 1) := by decide +kernel
theorem dX7_ran_73 : decode cX7_ran 73 = .ok (.goto 8, 3) := by decide +kernel
theorem dX7_ran_76 : decode cX7_ran 76 = .ok (.aload_n 0, 1) := by decide +kernel
theorem dX7_ran_77 : decode cX7_ran 77 = .ok (.getfield 221, 3) := by decide +kernel
theorem dX7_ran_80 : decode cX7_ran 80 = .ok (.i2l, 1) := by decide +kernel
theorem dX7_ran_81 : decode cX7_ran 81 = .ok (.lreturn, 1) := by decide +kernel
theorem dX7_about_0 : decode cX7_about 0 = .ok (.aload_n 0, 1) := by decide +kernel
theorem dX7_about_1 : decode cX7_about 1 = .ok (.aload_n 0, 1) := by decide +kernel
theorem dX7_about_2 : decode cX7_about 2 = .ok (.iload_n 1, 1) := by decide +kernel
theorem dX7_about_3 : decode cX7_about 3 = .ok (.invokevirtual 112, 3) := by decide +kernel
theorem dX7_about_6 : decode cX7_about 6 = .ok (.ifCond .ne 12, 3) := by decide +kernel
theorem dX7_about_9 : decode cX7_about 9 = .ok (.iload_n 2, 1) := by decide +kernel
theorem dX7_about_10 : decode cX7_about 10 = .ok (.ifCond .lt 8, 3) := by decide +kernel
theorem dX7_about_13 : decode cX7_about 13 = .ok (.iload_n 2, 1) := by decide +kernel
theorem dX7_about_14 : decode cX7_about 14 = .ok (.iconst 3, 1) := by decide +kernel
theorem dX7_about_15 : decode cX7_about 15 = .ok (.if_icmp .le 7, 3) := by decide +kernel
theorem dX7_about_18 : decode cX7_about 18 = .ok (.iconst 1, 1) := by decide +kernel
theorem dX7_about_19 : decode cX7_about 19 = .ok (.goto 4, 3) := by decide +kernel
theorem dX7_about_22 : decode cX7_about 22 = .ok (.iconst 0, 1) := by decide +kernel
theorem dX7_about_23 : decode cX7_about 23 = .ok (.putfield 106, 3) := by decide +kernel
theorem dX7_about_26 : decode cX7_about 26 = .ok (.aload_n 0, 1) := by decide +kernel
theorem dX7_about_27 : decode cX7_about 27 = .ok (.getfield 106, 3) := by decide +kernel
theorem dX7_about_30 : decode cX7_about 30 = .ok (.ifCond .le 5, 3) := by decide +kernel
theorem dX7_about_33 : decode cX7_about 33 = .ok (.iconst 0, 1) := by decide +kernel
theorem dX7_about_34 : decode cX7_about 34 = .ok (.ireturn, 1) := by decide +kernel
theorem dX7_about_35 : decode cX7_about 35 = .ok (.iload_n 2, 1) := by decide +kernel
theorem dX7_about_36 : decode cX7_about 36 = .ok (.ifCond .ne 12, 3) := by decide +kernel
theorem dX7_about_39 : decode cX7_about 39 = .ok (.aload_n 0, 1) := by decide +kernel
theorem dX7_about_40 : decode cX7_about 40 = .ok (.getfield 7, 3) := by decide +kernel
theorem dX7_about_43 : decode cX7_about 43 = .ok (.iload_n 1, 1) := by decide +kernel
theorem dX7_about_44 : decode cX7_about 44 = .ok (.iaload, 1) := by decide +kernel
theorem dX7_about_45 : decode cX7_about 45 = .ok (.goto 37, 3) := by decide +kernel
theorem dX7_about_48 : decode cX7_about 48 = .ok (.iload_n 2, 1) := by decide +kernel
theorem dX7_about_49 : decode cX7_about 49 = .ok (.iconst 1, 1) := by decide +kernel
theorem dX7_about_50 : decode cX7_about 50 = .ok (.if_icmp .ne 12, 3) := by decide +kernel
theorem dX7_about_53 : decode cX7_about 53 = .ok (.aload_n 0, 1) := by decide +kernel
theorem dX7_about_54 : decode cX7_about 54 = .ok (.getfield 13, 3) := by decide +kernel
theorem dX7_about_57 : decode cX7_about 57 = .ok (.iload_n 1, 1) := by decide +kernel
theorem dX7_about_58 : decode cX7_about 58 = .ok (.iaload, 1) := by decide +kernel
theorem dX7_about_59 : decode cX7_about 59 = .ok (.goto 23, 3) := by decide +kernel
theorem dX7_about_62 : decode cX7_about 62 = .ok (.iload_n 2, 1) := by decide +kernel
theorem dX7_about_63 : decode cX7_about 63 = .ok (.iconst 2, 1) := by decide +kernel
