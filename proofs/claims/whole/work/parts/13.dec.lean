theorem dX3_perform_61 : decode cX3_perform 61 = .ok (.aload_n 0, 1) := by decide +kernel
theorem dX3_perform_62 : decode cX3_perform 62 = .ok (.invokevirtual 73, 3) := by decide +kernel
theorem dX3_perform_65 : decode cX3_perform 65 = .ok (.istore 5, 2) := by decide +kernel
theorem dX3_perform_67 : decode cX3_perform 67 = .ok (.iload 5, 2) := by decide +kernel
theorem dX3_perform_69 : decode cX3_perform 69 = .ok (.ifCond .eq 6, 3) := by decide +kernel
theorem dX3_perform_72 : decode cX3_perform 72 = .ok (.iload 5, 2) := by decide +kernel
theorem dX3_perform_74 : decode cX3_perform 74 = .ok (.ireturn, 1) := by decide +kernel
theorem dX3_perform_75 : decode cX3_perform 75 = .ok (.iinc 4 1, 3) := by decide +kernel
theorem dX3_perform_78 : decode cX3_perform 78 = .ok (.goto (-23), 3) := by decide +kernel
theorem dX3_perform_81 : decode cX3_perform 81 = .ok (.iconst 2, 1) := by decide +kernel
theorem dX3_perform_82 : decode cX3_perform 82 = .ok (.ireturn, 1) := by decide +kernel
theorem dX3_reset_0 : decode cX3_reset 0 = .ok (.aload_n 0, 1) := by decide +kernel
theorem dX3_reset_1 : decode cX3_reset 1 = .ok (.iconst 0, 1) := by decide +kernel
theorem dX3_reset_2 : decode cX3_reset 2 = .ok (.putfield 77, 3) := by decide +kernel
theorem dX3_reset_5 : decode cX3_reset 5 = .ok (.aload_n 0, 1) := by decide +kernel
theorem dX3_reset_6 : decode cX3_reset 6 = .ok (.iconst 0, 1) := by decide +kernel
theorem dX3_reset_7 : decode cX3_reset 7 = .ok (.putfield 80, 3) := by decide +kernel
theorem dX3_reset_10 : decode cX3_reset 10 = .ok (.aload_n 0, 1) := by decide +kernel
theorem dX3_reset_11 : decode cX3_reset 11 = .ok (.lconst 0, 1) := by decide +kernel
theorem dX3_reset_12 : decode cX3_reset 12 = .ok (.putfield 38, 3) := by decide +kernel
theorem dX3_reset_15 : decode cX3_reset 15 = .ok (.aload_n 0, 1) := by decide +kernel
theorem dX3_reset_16 : decode cX3_reset 16 = .ok (.lconst 0, 1) := by decide +kernel
theorem dX3_reset_17 : decode cX3_reset 17 = .ok (.putfield 42, 3) := by decide +kernel
theorem dX3_reset_20 : decode cX3_reset 20 = .ok (.aload_n 0, 1) := by decide +kernel
theorem dX3_reset_21 : decode cX3_reset 21 = .ok (.iconst 0, 1) := by decide +kernel
theorem dX3_reset_22 : decode cX3_reset 22 = .ok (.putfield 45, 3) := by decide +kernel
theorem dX3_reset_25 : decode cX3_reset 25 = .ok (.aload_n 0, 1) := by decide +kernel
theorem dX3_reset_26 : decode cX3_reset 26 = .ok (.iconst 0, 1) := by decide +kernel
theorem dX3_reset_27 : decode cX3_reset 27 = .ok (.putfield 49, 3) := by decide +kernel
theorem dX3_reset_30 : decode cX3_reset 30 = .ok (.aload_n 0, 1) := by decide +kernel
theorem dX3_reset_31 : decode cX3_reset 31 = .ok (.iconst 0, 1) := by decide +kernel
theorem dX3_reset_32 : decode cX3_reset 32 = .ok (.putfield 52, 3) := by decide +kernel
theorem dX3_reset_35 : decode cX3_reset 35 = .ok (.return_, 1) := by decide +kernel
theorem dX3_doNext_0 : decode cX3_doNext 0 = .ok (.aload_n 0, 1) := by decide +kernel
theorem dX3_doNext_1 : decode cX3_doNext 1 = .ok (.getfield 25, 3) := by decide +kernel
theorem dX3_doNext_4 : decode cX3_doNext 4 = .ok (.aload_n 0, 1) := by decide +kernel
theorem dX3_doNext_5 : decode cX3_doNext 5 = .ok (.getfield 83, 3) := by decide +kernel
theorem dX3_doNext_8 : decode cX3_doNext 8 = .ok (.aaload, 1) := by decide +kernel
theorem dX3_doNext_9 : decode cX3_doNext 9 = .ok (.astore_n 1, 1) := by decide +kernel
theorem dX3_doNext_10 : decode cX3_doNext 10 = .ok (.aload_n 0, 1) := by decide +kernel
theorem dX3_doNext_11 : decode cX3_doNext 11 = .ok (.getfield 29, 3) := by decide +kernel
theorem dX3_doNext_14 : decode cX3_doNext 14 = .ok (.aload_n 0, 1) := by decide +kernel
theorem dX3_doNext_15 : decode cX3_doNext 15 = .ok (.getfield 83, 3) := by decide +kernel
theorem dX3_doNext_18 : decode cX3_doNext 18 = .ok (.iaload, 1) := by decide +kernel
theorem dX3_doNext_19 : decode cX3_doNext 19 = .ok (.istore_n 2, 1) := by decide +kernel
theorem dX3_doNext_20 : decode cX3_doNext 20 = .ok (.aload_n 1, 1) := by decide +kernel
theorem dX3_doNext_21 : decode cX3_doNext 21 = .ok (.ifnull 12, 3) := by decide +kernel
theorem dX3_doNext_24 : decode cX3_doNext 24 = .ok (.aload_n 1, 1) := by decide +kernel
theorem dX3_doNext_25 : decode cX3_doNext 25 = .ok (.iload_n 2, 1) := by decide +kernel
theorem dX3_doNext_26 : decode cX3_doNext 26 = .ok (.i2l, 1) := by decide +kernel
theorem dX3_doNext_27 : decode cX3_doNext 27 = .ok (.invokevirtual 86, 3) := by decide +kernel
theorem dX3_doNext_30 : decode cX3_doNext 30 = .ok (.ifCond .ne 5, 3) := by decide +kernel
theorem dX3_doNext_33 : decode cX3_doNext 33 = .ok (.iconst 4, 1) := by decide +kernel
theorem dX3_doNext_34 : decode cX3_doNext 34 = .ok (.ireturn, 1) := by decide +kernel
theorem dX3_doNext_35 : decode cX3_doNext 35 = .ok (.aload_n 1, 1) := by decide +kernel
theorem dX3_doNext_36 : decode cX3_doNext 36 = .ok (.getfield 90, 3) := by decide +kernel
theorem dX3_doNext_39 : decode cX3_doNext 39 = .ok (.iload_n 2, 1) := by decide +kernel
theorem dX3_doNext_40 : decode cX3_doNext 40 = .ok (.iaload, 1) := by decide +kernel
theorem dX3_doNext_41 : decode cX3_doNext 41 = .ok (.istore_n 3, 1) := by decide +kernel
theorem dX3_doNext_42 : decode cX3_doNext 42 = .ok (.iload_n 3, 1) := by decide +kernel
theorem dX3_doNext_43 : decode cX3_doNext 43 = .ok (.bipush 16, 2) := by decide +kernel
theorem dX3_doNext_45 : decode cX3_doNext 45 = .ok (.if_icmp .ne 19, 3) := by decide +kernel
theorem dX3_doNext_48 : decode cX3_doNext 48 = .ok (.aload_n 0, 1) := by decide +kernel
theorem dX3_doNext_49 : decode cX3_doNext 49 = .ok (.getfield 9, 3) := by decide +kernel
theorem dX3_doNext_52 : decode cX3_doNext 52 = .ok (.aload_n 1, 1) := by decide +kernel
theorem dX3_doNext_53 : decode cX3_doNext 53 = .ok (.getfield 93, 3) := by decide +kernel
theorem dX3_doNext_56 : decode cX3_doNext 56 = .ok (.iload_n 2, 1) := by decide +kernel
theorem dX3_doNext_57 : decode cX3_doNext 57 = .ok (.laload, 1) := by decide +kernel
theorem dX3_doNext_58 : decode cX3_doNext 58 = .ok (.invokevirtual 96, 3) := by decide +kernel
theorem dX3_doNext_61 : decode cX3_doNext 61 = .ok (.goto 4, 3) := by decide +kernel
theorem dX3_doNext_64 : decode cX3_doNext 64 = .ok (.aconst_null, 1) := by decide +kernel
theorem dX3_doNext_65 : decode cX3_doNext 65 = .ok (.astore 4, 2) := by decide +kernel
theorem dX3_doNext_67 : decode cX3_doNext 67 = .ok (.iload_n 3, 1) := by decide +kernel
theorem dX3_doNext_68 : decode cX3_doNext 68 = .ok (.bipush 16, 2) := by decide +kernel
theorem dX3_doNext_70 : decode cX3_doNext 70 = .ok (.if_icmp .ne 12, 3) := by decide +kernel
theorem dX3_doNext_73 : decode cX3_doNext 73 = .ok (.aload_n 0, 1) := by decide +kernel
theorem dX3_doNext_74 : decode cX3_doNext 74 = .ok (.aload 4, 2) := by decide +kernel
theorem dX3_doNext_76 : decode cX3_doNext 76 = .ok (.invokevirtual 102, 3) := by decide +kernel
theorem dX3_doNext_79 : decode cX3_doNext 79 = .ok (.goto 4, 3) := by decide +kernel
theorem dX3_doNext_82 : decode cX3_doNext 82 = .ok (.iconst 0, 1) := by decide +kernel
theorem dX3_doNext_83 : decode cX3_doNext 83 = .ok (.istore 5, 2) := by decide +kernel
theorem dX3_doNext_85 : decode cX3_doNext 85 = .ok (.iload 5, 2) := by decide +kernel
theorem dX3_doNext_87 : decode cX3_doNext 87 = .ok (.ifCond .eq 6, 3) := by decide +kernel
theorem dX3_doNext_90 : decode cX3_doNext 90 = .ok (.iload 5, 2) := by decide +kernel
theorem dX3_doNext_92 : decode cX3_doNext 92 = .ok (.ireturn, 1) := by decide +kernel
theorem dX3_doNext_93 : decode cX3_doNext 93 = .ok (.aload_n 0, 1) := by decide +kernel
theorem dX3_doNext_94 : decode cX3_doNext 94 = .ok (.dup, 1) := by decide +kernel
theorem dX3_doNext_95 : decode cX3_doNext 95 = .ok (.getfield 49, 3) := by decide +kernel
theorem dX3_doNext_98 : decode cX3_doNext 98 = .ok (.iconst 1, 1) := by decide +kernel
theorem dX3_doNext_99 : decode cX3_doNext 99 = .ok (.iadd, 1) := by decide +kernel
theorem dX3_doNext_100 : decode cX3_doNext 100 = .ok (.putfield 49, 3) := by decide +kernel
theorem dX3_doNext_103 : decode cX3_doNext 103 = .ok (.aload_n 0, 1) := by decide +kernel
theorem dX3_doNext_104 : decode cX3_doNext 104 = .ok (.dup, 1) := by decide +kernel
theorem dX3_doNext_105 : decode cX3_doNext 105 = .ok (.getfield 42, 3) := by decide +kernel
theorem dX3_doNext_108 : decode cX3_doNext 108 = .ok (.aload_n 0, 1) := by decide +kernel
theorem dX3_doNext_109 : decode cX3_doNext 109 = .ok (.getfield 9, 3) := by decide +kernel
theorem dX3_doNext_112 : decode cX3_doNext 112 = .ok (.iload_n 3, 1) := by decide +kernel
theorem dX3_doNext_113 : decode cX3_doNext 113 = .ok (.invokevirtual 106, 3) := by decide +kernel
theorem dX3_doNext_116 : decode cX3_doNext 116 = .ok (.i2l, 1) := by decide +kernel
theorem dX3_doNext_117 : decode cX3_doNext 117 = .ok (.ladd, 1) := by decide +kernel
theorem dX3_doNext_118 : decode cX3_doNext 118 = .ok (.putfield 42, 3) := by decide +kernel
theorem dX3_doNext_121 : decode cX3_doNext 121 = .ok (.aload_n 0, 1) := by decide +kernel
theorem dX3_doNext_122 : decode cX3_doNext 122 = .ok (.getfield 29, 3) := by decide +kernel
theorem dX3_doNext_125 : decode cX3_doNext 125 = .ok (.aload_n 0, 1) := by decide +kernel
theorem dX3_doNext_126 : decode cX3_doNext 126 = .ok (.getfield 83, 3) := by decide +kernel
theorem dX3_doNext_129 : decode cX3_doNext 129 = .ok (.iload_n 2, 1) := by decide +kernel
theorem dX3_doNext_130 : decode cX3_doNext 130 = .ok (.iconst 1, 1) := by decide +kernel
theorem dX3_doNext_131 : decode cX3_doNext 131 = .ok (.iadd, 1) := by decide +kernel
theorem dX3_doNext_132 : decode cX3_doNext 132 = .ok (.iastore, 1) := by decide +kernel
theorem dX3_doNext_133 : decode cX3_doNext 133 = .ok (.iload_n 3, 1) := by decide +kernel
theorem dX3_doNext_134 : decode cX3_doNext 134 = .ok (.bipush 17, 2) := by decide +kernel
theorem dX3_doNext_136 : decode cX3_doNext 136 = .ok (.if_icmp .ne 9, 3) := by decide +kernel
theorem dX3_doNext_139 : decode cX3_doNext 139 = .ok (.aload_n 0, 1) := by decide +kernel
theorem dX3_doNext_140 : decode cX3_doNext 140 = .ok (.aload_n 1, 1) := by decide +kernel
theorem dX3_doNext_141 : decode cX3_doNext 141 = .ok (.invokevirtual 110, 3) := by decide +kernel
theorem dX3_doNext_144 : decode cX3_doNext 144 = .ok (.ireturn, 1) := by decide +kernel
theorem dX3_doNext_145 : decode cX3_doNext 145 = .ok (.aload 4, 2) := by decide +kernel
theorem dX3_doNext_147 : decode cX3_doNext 147 = .ok (.ifnull 28, 3) := by decide +kernel
theorem dX3_doNext_150 : decode cX3_doNext 150 = .ok (.aload_n 0, 1) := by decide +kernel
theorem dX3_doNext_151 : decode cX3_doNext 151 = .ok (.dup, 1) := by decide +kernel
theorem dX3_doNext_152 : decode cX3_doNext 152 = .ok (.getfield 52, 3) := by decide +kernel
theorem dX3_doNext_155 : decode cX3_doNext 155 = .ok (.iconst 1, 1) := by decide +kernel
theorem dX3_doNext_156 : decode cX3_doNext 156 = .ok (.iadd, 1) := by decide +kernel
theorem dX3_doNext_157 : decode cX3_doNext 157 = .ok (.putfield 52, 3) := by decide +kernel
theorem dX3_doNext_160 : decode cX3_doNext 160 = .ok (.aload_n 0, 1) := by decide +kernel
theorem dX3_doNext_161 : decode cX3_doNext 161 = .ok (.aload 4, 2) := by decide +kernel
theorem dX3_doNext_163 : decode cX3_doNext 163 = .ok (.aload_n 0, 1) := by decide +kernel
theorem dX3_doNext_164 : decode cX3_doNext 164 = .ok (.getfield 83, 3) := by decide +kernel
theorem dX3_doNext_167 : decode cX3_doNext 167 = .ok (.iconst 1, 1) := by decide +kernel
theorem dX3_doNext_168 : decode cX3_doNext 168 = .ok (.iadd, 1) := by decide +kernel
theorem dX3_doNext_169 : decode cX3_doNext 169 = .ok (.invokevirtual 69, 3) := by decide +kernel
theorem dX3_doNext_172 : decode cX3_doNext 172 = .ok (.goto 29, 3) := by decide +kernel
theorem dX3_doNext_175 : decode cX3_doNext 175 = .ok (.iload_n 3, 1) := by decide +kernel
theorem dX3_doNext_176 : decode cX3_doNext 176 = .ok (.bipush 12, 2) := by decide +kernel
theorem dX3_doNext_178 : decode cX3_doNext 178 = .ok (.if_icmp .lt 12, 3) := by decide +kernel
theorem dX3_doNext_181 : decode cX3_doNext 181 = .ok (.aload_n 0, 1) := by decide +kernel
theorem dX3_doNext_182 : decode cX3_doNext 182 = .ok (.aload_n 1, 1) := by decide +kernel
theorem dX3_doNext_183 : decode cX3_doNext 183 = .ok (.iload_n 2, 1) := by decide +kernel
theorem dX3_doNext_184 : decode cX3_doNext 184 = .ok (.invokevirtual 113, 3) := by decide +kernel
theorem dX3_doNext_187 : decode cX3_doNext 187 = .ok (.goto 14, 3) := by decide +kernel
theorem dX3_doNext_190 : decode cX3_doNext 190 = .ok (.aload_n 0, 1) := by decide +kernel
theorem dX3_doNext_191 : decode cX3_doNext 191 = .ok (.iload_n 3, 1) := by decide +kernel
theorem dX3_doNext_192 : decode cX3_doNext 192 = .ok (.aload_n 1, 1) := by decide +kernel
theorem dX3_doNext_193 : decode cX3_doNext 193 = .ok (.getfield 93, 3) := by decide +kernel
theorem dX3_doNext_196 : decode cX3_doNext 196 = .ok (.iload_n 2, 1) := by decide +kernel
theorem dX3_doNext_197 : decode cX3_doNext 197 = .ok (.laload, 1) := by decide +kernel
theorem dX3_doNext_198 : decode cX3_doNext 198 = .ok (.invokevirtual 116, 3) := by decide +kernel
theorem dX3_doNext_201 : decode cX3_doNext 201 = .ok (.aload_n 0, 1) := by decide +kernel
theorem dX3_doNext_202 : decode cX3_doNext 202 = .ok (.invokevirtual 120, 3) := by decide +kernel
theorem dX3_doNext_205 : decode cX3_doNext 205 = .ok (.iconst 0, 1) := by decide +kernel
theorem dX3_doNext_206 : decode cX3_doNext 206 = .ok (.ireturn, 1) := by decide +kernel
theorem dX3_refuse_0 : decode cX3_refuse 0 = .ok (.aload_n 1, 1) := by decide +kernel
theorem dX3_refuse_1 : decode cX3_refuse 1 = .ok (.ifnull 10, 3) := by decide +kernel
theorem dX3_refuse_4 : decode cX3_refuse 4 = .ok (.aload_n 1, 1) := by decide +kernel
theorem dX3_refuse_5 : decode cX3_refuse 5 = .ok (.invokevirtual 58, 3) := by decide +kernel
theorem dX3_refuse_8 : decode cX3_refuse 8 = .ok (.ifCond .ne 5, 3) := by decide +kernel
theorem dX3_refuse_11 : decode cX3_refuse 11 = .ok (.iconst 4, 1) := by decide +kernel
theorem dX3_refuse_12 : decode cX3_refuse 12 = .ok (.ireturn, 1) := by decide +kernel
theorem dX3_refuse_13 : decode cX3_refuse 13 = .ok (.aload_n 0, 1) := by decide +kernel
theorem dX3_refuse_14 : decode cX3_refuse 14 = .ok (.getfield 83, 3) := by decide +kernel
theorem dX3_refuse_17 : decode cX3_refuse 17 = .ok (.iconst 1, 1) := by decide +kernel
theorem dX3_refuse_18 : decode cX3_refuse 18 = .ok (.iadd, 1) := by decide +kernel
theorem dX3_refuse_19 : decode cX3_refuse 19 = .ok (.bipush 100, 2) := by decide +kernel
theorem dX3_refuse_21 : decode cX3_refuse 21 = .ok (.if_icmp .lt 7, 3) := by decide +kernel
theorem dX3_refuse_24 : decode cX3_refuse 24 = .ok (.iconst 3, 1) := by decide +kernel
theorem dX3_refuse_25 : decode cX3_refuse 25 = .ok (.goto 4, 3) := by decide +kernel
theorem dX3_refuse_28 : decode cX3_refuse 28 = .ok (.iconst 0, 1) := by decide +kernel
theorem dX3_refuse_29 : decode cX3_refuse 29 = .ok (.ireturn, 1) := by decide +kernel
theorem dX3_enter_0 : decode cX3_enter 0 = .ok (.aload_n 0, 1) := by decide +kernel
theorem dX3_enter_1 : decode cX3_enter 1 = .ok (.iload_n 2, 1) := by decide +kernel
theorem dX3_enter_2 : decode cX3_enter 2 = .ok (.putfield 83, 3) := by decide +kernel
theorem dX3_enter_5 : decode cX3_enter 5 = .ok (.aload_n 0, 1) := by decide +kernel
theorem dX3_enter_6 : decode cX3_enter 6 = .ok (.getfield 25, 3) := by decide +kernel
theorem dX3_enter_9 : decode cX3_enter 9 = .ok (.aload_n 0, 1) := by decide +kernel
theorem dX3_enter_10 : decode cX3_enter 10 = .ok (.getfield 83, 3) := by decide +kernel
theorem dX3_enter_13 : decode cX3_enter 13 = .ok (.aload_n 1, 1) := by decide +kernel
theorem dX3_enter_14 : decode cX3_enter 14 = .ok (.aastore, 1) := by decide +kernel
theorem dX3_enter_15 : decode cX3_enter 15 = .ok (.aload_n 0, 1) := by decide +kernel
theorem dX3_enter_16 : decode cX3_enter 16 = .ok (.getfield 29, 3) := by decide +kernel
theorem dX3_enter_19 : decode cX3_enter 19 = .ok (.aload_n 0, 1) := by decide +kernel
theorem dX3_enter_20 : decode cX3_enter 20 = .ok (.getfield 83, 3) := by decide +kernel
theorem dX3_enter_23 : decode cX3_enter 23 = .ok (.iconst 0, 1) := by decide +kernel
theorem dX3_enter_24 : decode cX3_enter 24 = .ok (.iastore, 1) := by decide +kernel
theorem dX3_enter_25 : decode cX3_enter 25 = .ok (.aload_n 0, 1) := by decide +kernel
theorem dX3_enter_26 : decode cX3_enter 26 = .ok (.getfield 32, 3) := by decide +kernel
theorem dX3_enter_29 : decode cX3_enter 29 = .ok (.aload_n 0, 1) := by decide +kernel
theorem dX3_enter_30 : decode cX3_enter 30 = .ok (.getfield 83, 3) := by decide +kernel
theorem dX3_enter_33 : decode cX3_enter 33 = .ok (.aload_n 0, 1) := by decide +kernel
theorem dX3_enter_34 : decode cX3_enter 34 = .ok (.getfield 77, 3) := by decide +kernel
theorem dX3_enter_37 : decode cX3_enter 37 = .ok (.aload_n 1, 1) := by decide +kernel
theorem dX3_enter_38 : decode cX3_enter 38 = .ok (.getfield 62, 3) := by decide +kernel
theorem dX3_enter_41 : decode cX3_enter 41 = .ok (.isub, 1) := by decide +kernel
theorem dX3_enter_42 : decode cX3_enter 42 = .ok (.iastore, 1) := by decide +kernel
theorem dX3_enter_43 : decode cX3_enter 43 = .ok (.aload_n 0, 1) := by decide +kernel
theorem dX3_enter_44 : decode cX3_enter 44 = .ok (.getfield 35, 3) := by decide +kernel
theorem dX3_enter_47 : decode cX3_enter 47 = .ok (.aload_n 0, 1) := by decide +kernel
theorem dX3_enter_48 : decode cX3_enter 48 = .ok (.getfield 83, 3) := by decide +kernel
theorem dX3_enter_51 : decode cX3_enter 51 = .ok (.aload_n 0, 1) := by decide +kernel
theorem dX3_enter_52 : decode cX3_enter 52 = .ok (.getfield 80, 3) := by decide +kernel
theorem dX3_enter_55 : decode cX3_enter 55 = .ok (.iastore, 1) := by decide +kernel
theorem dX3_enter_56 : decode cX3_enter 56 = .ok (.aload_n 1, 1) := by decide +kernel
theorem dX3_enter_57 : decode cX3_enter 57 = .ok (.getfield 62, 3) := by decide +kernel
theorem dX3_enter_60 : decode cX3_enter 60 = .ok (.istore_n 3, 1) := by decide +kernel
theorem dX3_enter_61 : decode cX3_enter 61 = .ok (.iload_n 3, 1) := by decide +kernel
theorem dX3_enter_62 : decode cX3_enter 62 = .ok (.aload_n 1, 1) := by decide +kernel
theorem dX3_enter_63 : decode cX3_enter 63 = .ok (.getfield 123, 3) := by decide +kernel
theorem dX3_enter_66 : decode cX3_enter 66 = .ok (.if_icmp .ge 14, 3) := by decide +kernel
theorem dX3_enter_69 : decode cX3_enter 69 = .ok (.aload_n 0, 1) := by decide +kernel
theorem dX3_enter_70 : decode cX3_enter 70 = .ok (.lconst 0, 1) := by decide +kernel
theorem dX3_enter_71 : decode cX3_enter 71 = .ok (.invokevirtual 65, 3) := by decide +kernel
theorem dX3_enter_74 : decode cX3_enter 74 = .ok (.iinc 3 1, 3) := by decide +kernel
theorem dX3_enter_77 : decode cX3_enter 77 = .ok (.goto (-16), 3) := by decide +kernel
theorem dX3_enter_80 : decode cX3_enter 80 = .ok (.aload_n 0, 1) := by decide +kernel
theorem dX3_enter_81 : decode cX3_enter 81 = .ok (.invokevirtual 120, 3) := by decide +kernel
theorem dX3_enter_84 : decode cX3_enter 84 = .ok (.return_, 1) := by decide +kernel
theorem dX3_leave_0 : decode cX3_leave 0 = .ok (.aload_n 1, 1) := by decide +kernel
theorem dX3_leave_1 : decode cX3_leave 1 = .ok (.getfield 126, 3) := by decide +kernel
theorem dX3_leave_4 : decode cX3_leave 4 = .ok (.ifCond .le 10, 3) := by decide +kernel
theorem dX3_leave_7 : decode cX3_leave 7 = .ok (.aload_n 0, 1) := by decide +kernel
theorem dX3_leave_8 : decode cX3_leave 8 = .ok (.invokevirtual 129, 3) := by decide +kernel
theorem dX3_leave_11 : decode cX3_leave 11 = .ok (.goto 4, 3) := by decide +kernel
theorem dX3_leave_14 : decode cX3_leave 14 = .ok (.lconst 0, 1) := by decide +kernel
theorem dX3_leave_15 : decode cX3_leave 15 = .ok (.lstore_n 2, 1) := by decide +kernel
theorem dX3_leave_16 : decode cX3_leave 16 = .ok (.aload_n 0, 1) := by decide +kernel
theorem dX3_leave_17 : decode cX3_leave 17 = .ok (.aload_n 0, 1) := by decide +kernel
theorem dX3_leave_18 : decode cX3_leave 18 = .ok (.getfield 32, 3) := by decide +kernel
theorem dX3_leave_21 : decode cX3_leave 21 = .ok (.aload_n 0, 1) := by decide +kernel
theorem dX3_leave_22 : decode cX3_leave 22 = .ok (.getfield 83, 3) := by decide +kernel
theorem dX3_leave_25 : decode cX3_leave 25 = .ok (.iaload, 1) := by decide +kernel
theorem dX3_leave_26 : decode cX3_leave 26 = .ok (.putfield 77, 3) := by decide +kernel
theorem dX3_leave_29 : decode cX3_leave 29 = .ok (.aload_n 0, 1) := by decide +kernel
theorem dX3_leave_30 : decode cX3_leave 30 = .ok (.aload_n 0, 1) := by decide +kernel
theorem dX3_leave_31 : decode cX3_leave 31 = .ok (.getfield 35, 3) := by decide +kernel
theorem dX3_leave_34 : decode cX3_leave 34 = .ok (.aload_n 0, 1) := by decide +kernel
theorem dX3_leave_35 : decode cX3_leave 35 = .ok (.getfield 83, 3) := by decide +kernel
theorem dX3_leave_38 : decode cX3_leave 38 = .ok (.iaload, 1) := by decide +kernel
theorem dX3_leave_39 : decode cX3_leave 39 = .ok (.putfield 80, 3) := by decide +kernel
theorem dX3_leave_42 : decode cX3_leave 42 = .ok (.aload_n 0, 1) := by decide +kernel
theorem dX3_leave_43 : decode cX3_leave 43 = .ok (.getfield 83, 3) := by decide +kernel
theorem dX3_leave_46 : decode cX3_leave 46 = .ok (.ifCond .ne 10, 3) := by decide +kernel
theorem dX3_leave_49 : decode cX3_leave 49 = .ok (.aload_n 0, 1) := by decide +kernel
theorem dX3_leave_50 : decode cX3_leave 50 = .ok (.lload_n 2, 1) := by decide +kernel
theorem dX3_leave_51 : decode cX3_leave 51 = .ok (.putfield 38, 3) := by decide +kernel
theorem dX3_leave_54 : decode cX3_leave 54 = .ok (.iconst 1, 1) := by decide +kernel
theorem dX3_leave_55 : decode cX3_leave 55 = .ok (.ireturn, 1) := by decide +kernel
theorem dX3_leave_56 : decode cX3_leave 56 = .ok (.aload_n 0, 1) := by decide +kernel
theorem dX3_leave_57 : decode cX3_leave 57 = .ok (.dup, 1) := by decide +kernel
theorem dX3_leave_58 : decode cX3_leave 58 = .ok (.getfield 83, 3) := by decide +kernel
theorem dX3_leave_61 : decode cX3_leave 61 = .ok (.iconst 1, 1) := by decide +kernel
theorem dX3_leave_62 : decode cX3_leave 62 = .ok (.isub, 1) := by decide +kernel
theorem dX3_leave_63 : decode cX3_leave 63 = .ok (.putfield 83, 3) := by decide +kernel
theorem dX3_leave_66 : decode cX3_leave 66 = .ok (.aload_n 1, 1) := by decide +kernel
theorem dX3_leave_67 : decode cX3_leave 67 = .ok (.getfield 126, 3) := by decide +kernel
theorem dX3_leave_70 : decode cX3_leave 70 = .ok (.ifCond .le 8, 3) := by decide +kernel
theorem dX3_leave_73 : decode cX3_leave 73 = .ok (.aload_n 0, 1) := by decide +kernel
theorem dX3_leave_74 : decode cX3_leave 74 = .ok (.lload_n 2, 1) := by decide +kernel
theorem dX3_leave_75 : decode cX3_leave 75 = .ok (.invokevirtual 65, 3) := by decide +kernel
theorem dX3_leave_78 : decode cX3_leave 78 = .ok (.iconst 0, 1) := by decide +kernel
theorem dX3_leave_79 : decode cX3_leave 79 = .ok (.ireturn, 1) := by decide +kernel
theorem dX3_flow_0 : decode cX3_flow 0 = .ok (.aload_n 1, 1) := by decide +kernel
theorem dX3_flow_1 : decode cX3_flow 1 = .ok (.getfield 93, 3) := by decide +kernel
theorem dX3_flow_4 : decode cX3_flow 4 = .ok (.iload_n 2, 1) := by decide +kernel
theorem dX3_flow_5 : decode cX3_flow 5 = .ok (.laload, 1) := by decide +kernel
theorem dX3_flow_6 : decode cX3_flow 6 = .ok (.l2i, 1) := by decide +kernel
theorem dX3_flow_7 : decode cX3_flow 7 = .ok (.istore_n 3, 1) := by decide +kernel
theorem dX3_flow_8 : decode cX3_flow 8 = .ok (.aload_n 1, 1) := by decide +kernel
theorem dX3_flow_9 : decode cX3_flow 9 = .ok (.getfield 133, 3) := by decide +kernel
theorem dX3_flow_12 : decode cX3_flow 12 = .ok (.iload_n 2, 1) := by decide +kernel
theorem dX3_flow_13 : decode cX3_flow 13 = .ok (.iaload, 1) := by decide +kernel
theorem dX3_flow_14 : decode cX3_flow 14 = .ok (.iconst 1, 1) := by decide +kernel
theorem dX3_flow_15 : decode cX3_flow 15 = .ok (.iadd, 1) := by decide +kernel
theorem dX3_flow_16 : decode cX3_flow 16 = .ok (.istore 4, 2) := by decide +kernel
theorem dX3_flow_18 : decode cX3_flow 18 = .ok (.aload_n 1, 1) := by decide +kernel
theorem dX3_flow_19 : decode cX3_flow 19 = .ok (.getfield 90, 3) := by decide +kernel
theorem dX3_flow_22 : decode cX3_flow 22 = .ok (.iload_n 2, 1) := by decide +kernel
theorem dX3_flow_23 : decode cX3_flow 23 = .ok (.iaload, 1) := by decide +kernel
theorem dX3_flow_24 : decode cX3_flow 24 = .ok (.tableswitch 97 12 14 #[28, 41, 69], 28) := by decide +kernel
theorem dX3_flow_52 : decode cX3_flow 52 = .ok (.aload_n 0, 1) := by decide +kernel
theorem dX3_flow_53 : decode cX3_flow 53 = .ok (.getfield 29, 3) := by decide +kernel
theorem dX3_flow_56 : decode cX3_flow 56 = .ok (.aload_n 0, 1) := by decide +kernel
theorem dX3_flow_57 : decode cX3_flow 57 = .ok (.getfield 83, 3) := by decide +kernel
theorem dX3_flow_60 : decode cX3_flow 60 = .ok (.iload_n 3, 1) := by decide +kernel
theorem dX3_flow_61 : decode cX3_flow 61 = .ok (.iastore, 1) := by decide +kernel
theorem dX3_flow_62 : decode cX3_flow 62 = .ok (.goto 83, 3) := by decide +kernel
theorem dX3_flow_65 : decode cX3_flow 65 = .ok (.aload_n 0, 1) := by decide +kernel
theorem dX3_flow_66 : decode cX3_flow 66 = .ok (.getfield 29, 3) := by decide +kernel
theorem dX3_flow_69 : decode cX3_flow 69 = .ok (.aload_n 0, 1) := by decide +kernel
theorem dX3_flow_70 : decode cX3_flow 70 = .ok (.getfield 83, 3) := by decide +kernel
theorem dX3_flow_73 : decode cX3_flow 73 = .ok (.aload_n 0, 1) := by decide +kernel
theorem dX3_flow_74 : decode cX3_flow 74 = .ok (.invokevirtual 129, 3) := by decide +kernel
theorem dX3_flow_77 : decode cX3_flow 77 = .ok (.lconst 0, 1) := by decide +kernel
theorem dX3_flow_78 : decode cX3_flow 78 = .ok (.lcmp, 1) := by decide +kernel
theorem dX3_flow_79 : decode cX3_flow 79 = .ok (.ifCond .ne 7, 3) := by decide +kernel
theorem dX3_flow_82 : decode cX3_flow 82 = .ok (.iload_n 3, 1) := by decide +kernel
theorem dX3_flow_83 : decode cX3_flow 83 = .ok (.goto 6, 3) := by decide +kernel
theorem dX3_flow_86 : decode cX3_flow 86 = .ok (.iload_n 2, 1) := by decide +kernel
theorem dX3_flow_87 : decode cX3_flow 87 = .ok (.iconst 1, 1) := by decide +kernel
theorem dX3_flow_88 : decode cX3_flow 88 = .ok (.iadd, 1) := by decide +kernel
theorem dX3_flow_89 : decode cX3_flow 89 = .ok (.iastore, 1) := by decide +kernel
theorem dX3_flow_90 : decode cX3_flow 90 = .ok (.goto 55, 3) := by decide +kernel
theorem dX3_flow_93 : decode cX3_flow 93 = .ok (.aload_n 0, 1) := by decide +kernel
theorem dX3_flow_94 : decode cX3_flow 94 = .ok (.getfield 29, 3) := by decide +kernel
theorem dX3_flow_97 : decode cX3_flow 97 = .ok (.aload_n 0, 1) := by decide +kernel
theorem dX3_flow_98 : decode cX3_flow 98 = .ok (.getfield 83, 3) := by decide +kernel
theorem dX3_flow_101 : decode cX3_flow 101 = .ok (.aload_n 0, 1) := by decide +kernel
theorem dX3_flow_102 : decode cX3_flow 102 = .ok (.iload_n 3, 1) := by decide +kernel
theorem dX3_flow_103 : decode cX3_flow 103 = .ok (.invokevirtual 136, 3) := by decide +kernel
theorem dX3_flow_106 : decode cX3_flow 106 = .ok (.ifCond .eq 9, 3) := by decide +kernel
theorem dX3_flow_109 : decode cX3_flow 109 = .ok (.iload_n 2, 1) := by decide +kernel
theorem dX3_flow_110 : decode cX3_flow 110 = .ok (.iconst 1, 1) := by decide +kernel
theorem dX3_flow_111 : decode cX3_flow 111 = .ok (.iadd, 1) := by decide +kernel
theorem dX3_flow_112 : decode cX3_flow 112 = .ok (.goto 5, 3) := by decide +kernel
theorem dX3_flow_115 : decode cX3_flow 115 = .ok (.iload 4, 2) := by decide +kernel
theorem dX3_flow_117 : decode cX3_flow 117 = .ok (.iastore, 1) := by decide +kernel
theorem dX3_flow_118 : decode cX3_flow 118 = .ok (.goto 27, 3) := by decide +kernel
theorem dX3_flow_121 : decode cX3_flow 121 = .ok (.aload_n 0, 1) := by decide +kernel
theorem dX3_flow_122 : decode cX3_flow 122 = .ok (.getfield 29, 3) := by decide +kernel
theorem dX3_flow_125 : decode cX3_flow 125 = .ok (.aload_n 0, 1) := by decide +kernel
theorem dX3_flow_126 : decode cX3_flow 126 = .ok (.getfield 83, 3) := by decide +kernel
theorem dX3_flow_129 : decode cX3_flow 129 = .ok (.aload_n 0, 1) := by decide +kernel
theorem dX3_flow_130 : decode cX3_flow 130 = .ok (.invokevirtual 140, 3) := by decide +kernel
theorem dX3_flow_133 : decode cX3_flow 133 = .ok (.ifCond .eq 8, 3) := by decide +kernel
theorem dX3_flow_136 : decode cX3_flow 136 = .ok (.iload 4, 2) := by decide +kernel
theorem dX3_flow_138 : decode cX3_flow 138 = .ok (.goto 6, 3) := by decide +kernel
theorem dX3_flow_141 : decode cX3_flow 141 = .ok (.iload_n 2, 1) := by decide +kernel
theorem dX3_flow_142 : decode cX3_flow 142 = .ok (.iconst 1, 1) := by decide +kernel
theorem dX3_flow_143 : decode cX3_flow 143 = .ok (.iadd, 1) := by decide +kernel
theorem dX3_flow_144 : decode cX3_flow 144 = .ok (.iastore, 1) := by decide +kernel
theorem dX3_flow_145 : decode cX3_flow 145 = .ok (.return_, 1) := by decide +kernel
theorem dX3_opensLoop_0 : decode cX3_opensLoop 0 = .ok (.iload_n 1, 1) := by decide +kernel
theorem dX3_opensLoop_1 : decode cX3_opensLoop 1 = .ok (.ifCond .le 15, 3) := by decide +kernel
theorem dX3_opensLoop_4 : decode cX3_opensLoop 4 = .ok (.aload_n 0, 1) := by decide +kernel
theorem dX3_opensLoop_5 : decode cX3_opensLoop 5 = .ok (.getfield 80, 3) := by decide +kernel
theorem dX3_opensLoop_8 : decode cX3_opensLoop 8 = .ok (.aload_n 0, 1) := by decide +kernel
theorem dX3_opensLoop_9 : decode cX3_opensLoop 9 = .ok (.getfield 19, 3) := by decide +kernel
theorem dX3_opensLoop_12 : decode cX3_opensLoop 12 = .ok (.arraylength, 1) := by decide +kernel
theorem dX3_opensLoop_13 : decode cX3_opensLoop 13 = .ok (.if_icmp .lt 5, 3) := by decide +kernel
theorem dX3_opensLoop_16 : decode cX3_opensLoop 16 = .ok (.iconst 0, 1) := by decide +kernel
theorem dX3_opensLoop_17 : decode cX3_opensLoop 17 = .ok (.ireturn, 1) := by decide +kernel
theorem dX3_opensLoop_18 : decode cX3_opensLoop 18 = .ok (.aload_n 0, 1) := by decide +kernel
theorem dX3_opensLoop_19 : decode cX3_opensLoop 19 = .ok (.getfield 19, 3) := by decide +kernel
theorem dX3_opensLoop_22 : decode cX3_opensLoop 22 = .ok (.aload_n 0, 1) := by decide +kernel
theorem dX3_opensLoop_23 : decode cX3_opensLoop 23 = .ok (.getfield 80, 3) := by decide +kernel
theorem dX3_opensLoop_26 : decode cX3_opensLoop 26 = .ok (.iload_n 1, 1) := by decide +kernel
theorem dX3_opensLoop_27 : decode cX3_opensLoop 27 = .ok (.iastore, 1) := by decide +kernel
theorem dX3_opensLoop_28 : decode cX3_opensLoop 28 = .ok (.aload_n 0, 1) := by decide +kernel
theorem dX3_opensLoop_29 : decode cX3_opensLoop 29 = .ok (.dup, 1) := by decide +kernel
theorem dX3_opensLoop_30 : decode cX3_opensLoop 30 = .ok (.getfield 80, 3) := by decide +kernel
theorem dX3_opensLoop_33 : decode cX3_opensLoop 33 = .ok (.iconst 1, 1) := by decide +kernel
theorem dX3_opensLoop_34 : decode cX3_opensLoop 34 = .ok (.iadd, 1) := by decide +kernel
theorem dX3_opensLoop_35 : decode cX3_opensLoop 35 = .ok (.putfield 80, 3) := by decide +kernel
theorem dX3_opensLoop_38 : decode cX3_opensLoop 38 = .ok (.iconst 1, 1) := by decide +kernel
theorem dX3_opensLoop_39 : decode cX3_opensLoop 39 = .ok (.ireturn, 1) := by decide +kernel
theorem dX3_goesRound_0 : decode cX3_goesRound 0 = .ok (.aload_n 0, 1) := by decide +kernel
theorem dX3_goesRound_1 : decode cX3_goesRound 1 = .ok (.getfield 80, 3) := by decide +kernel
theorem dX3_goesRound_4 : decode cX3_goesRound 4 = .ok (.ifCond .le 15, 3) := by decide +kernel
theorem dX3_goesRound_7 : decode cX3_goesRound 7 = .ok (.aload_n 0, 1) := by decide +kernel
theorem dX3_goesRound_8 : decode cX3_goesRound 8 = .ok (.getfield 80, 3) := by decide +kernel
theorem dX3_goesRound_11 : decode cX3_goesRound 11 = .ok (.aload_n 0, 1) := by decide +kernel
theorem dX3_goesRound_12 : decode cX3_goesRound 12 = .ok (.getfield 19, 3) := by decide +kernel
theorem dX3_goesRound_15 : decode cX3_goesRound 15 = .ok (.arraylength, 1) := by decide +kernel
theorem dX3_goesRound_16 : decode cX3_goesRound 16 = .ok (.if_icmp .le 5, 3) := by decide +kernel
theorem dX3_goesRound_19 : decode cX3_goesRound 19 = .ok (.iconst 0, 1) := by decide +kernel
theorem dX3_goesRound_20 : decode cX3_goesRound 20 = .ok (.ireturn, 1) := by decide +kernel
theorem dX3_goesRound_21 : decode cX3_goesRound 21 = .ok (.aload_n 0, 1) := by decide +kernel
theorem dX3_goesRound_22 : decode cX3_goesRound 22 = .ok (.getfield 19, 3) := by decide +kernel
theorem dX3_goesRound_25 : decode cX3_goesRound 25 = .ok (.aload_n 0, 1) := by decide +kernel
theorem dX3_goesRound_26 : decode cX3_goesRound 26 = .ok (.getfield 80, 3) := by decide +kernel
theorem dX3_goesRound_29 : decode cX3_goesRound 29 = .ok (.iconst 1, 1) := by decide +kernel
theorem dX3_goesRound_30 : decode cX3_goesRound 30 = .ok (.isub, 1) := by decide +kernel
theorem dX3_goesRound_31 : decode cX3_goesRound 31 = .ok (.dup2, 1) := by decide +kernel
theorem dX3_goesRound_32 : decode cX3_goesRound 32 = .ok (.iaload, 1) := by decide +kernel
theorem dX3_goesRound_33 : decode cX3_goesRound 33 = .ok (.iconst 1, 1) := by decide +kernel
theorem dX3_goesRound_34 : decode cX3_goesRound 34 = .ok (.isub, 1) := by decide +kernel
theorem dX3_goesRound_35 : decode cX3_goesRound 35 = .ok (.iastore, 1) := by decide +kernel
theorem dX3_goesRound_36 : decode cX3_goesRound 36 = .ok (.aload_n 0, 1) := by decide +kernel
theorem dX3_goesRound_37 : decode cX3_goesRound 37 = .ok (.getfield 19, 3) := by decide +kernel
theorem dX3_goesRound_40 : decode cX3_goesRound 40 = .ok (.aload_n 0, 1) := by decide +kernel
theorem dX3_goesRound_41 : decode cX3_goesRound 41 = .ok (.getfield 80, 3) := by decide +kernel
theorem dX3_goesRound_44 : decode cX3_goesRound 44 = .ok (.iconst 1, 1) := by decide +kernel
theorem dX3_goesRound_45 : decode cX3_goesRound 45 = .ok (.isub, 1) := by decide +kernel
theorem dX3_goesRound_46 : decode cX3_goesRound 46 = .ok (.iaload, 1) := by decide +kernel
theorem dX3_goesRound_47 : decode cX3_goesRound 47 = .ok (.ifCond .le 5, 3) := by decide +kernel
theorem dX3_goesRound_50 : decode cX3_goesRound 50 = .ok (.iconst 1, 1) := by decide +kernel
theorem dX3_goesRound_51 : decode cX3_goesRound 51 = .ok (.ireturn, 1) := by decide +kernel
theorem dX3_goesRound_52 : decode cX3_goesRound 52 = .ok (.aload_n 0, 1) := by decide +kernel
theorem dX3_goesRound_53 : decode cX3_goesRound 53 = .ok (.dup, 1) := by decide +kernel
theorem dX3_goesRound_54 : decode cX3_goesRound 54 = .ok (.getfield 80, 3) := by decide +kernel
theorem dX3_goesRound_57 : decode cX3_goesRound 57 = .ok (.iconst 1, 1) := by decide +kernel
theorem dX3_goesRound_58 : decode cX3_goesRound 58 = .ok (.isub, 1) := by decide +kernel
theorem dX3_goesRound_59 : decode cX3_goesRound 59 = .ok (.putfield 80, 3) := by decide +kernel
theorem dX3_goesRound_62 : decode cX3_goesRound 62 = .ok (.iconst 0, 1) := by decide +kernel
theorem dX3_goesRound_63 : decode cX3_goesRound 63 = .ok (.ireturn, 1) := by decide +kernel
theorem dX3_handle_0 : decode cX3_handle 0 = .ok (.iload_n 1, 1) := by decide +kernel
theorem dX3_handle_1 : decode cX3_handle 1 = .ok (.tableswitch 169 0 11 #[63, 71, 79, 96, 169, 169, 169, 169, 169, 103, 126, 149], 63) := by decide +kernel
theorem dX3_handle_64 : decode cX3_handle 64 = .ok (.aload_n 0, 1) := by decide +kernel
theorem dX3_handle_65 : decode cX3_handle 65 = .ok (.lload_n 2, 1) := by decide +kernel
theorem dX3_handle_66 : decode cX3_handle 66 = .ok (.invokevirtual 65, 3) := by decide +kernel
theorem dX3_handle_69 : decode cX3_handle 69 = .ok (.goto 121, 3) := by decide +kernel
theorem dX3_handle_72 : decode cX3_handle 72 = .ok (.aload_n 0, 1) := by decide +kernel
theorem dX3_handle_73 : decode cX3_handle 73 = .ok (.invokevirtual 129, 3) := by decide +kernel
theorem dX3_handle_76 : decode cX3_handle 76 = .ok (.pop2, 1) := by decide +kernel
theorem dX3_handle_77 : decode cX3_handle 77 = .ok (.goto 113, 3) := by decide +kernel
theorem dX3_handle_80 : decode cX3_handle 80 = .ok (.aload_n 0, 1) := by decide +kernel
theorem dX3_handle_81 : decode cX3_handle 81 = .ok (.aload_n 0, 1) := by decide +kernel
theorem dX3_handle_82 : decode cX3_handle 82 = .ok (.aload_n 0, 1) := by decide +kernel
theorem dX3_handle_83 : decode cX3_handle 83 = .ok (.getfield 77, 3) := by decide +kernel
theorem dX3_handle_86 : decode cX3_handle 86 = .ok (.iconst 1, 1) := by decide +kernel
theorem dX3_handle_87 : decode cX3_handle 87 = .ok (.isub, 1) := by decide +kernel
theorem dX3_handle_88 : decode cX3_handle 88 = .ok (.invokevirtual 143, 3) := by decide +kernel
theorem dX3_handle_91 : decode cX3_handle 91 = .ok (.invokevirtual 65, 3) := by decide +kernel
theorem dX3_handle_94 : decode cX3_handle 94 = .ok (.goto 96, 3) := by decide +kernel
theorem dX3_handle_97 : decode cX3_handle 97 = .ok (.aload_n 0, 1) := by decide +kernel
theorem dX3_handle_98 : decode cX3_handle 98 = .ok (.invokevirtual 147, 3) := by decide +kernel
theorem dX3_handle_101 : decode cX3_handle 101 = .ok (.goto 89, 3) := by decide +kernel
theorem dX3_handle_104 : decode cX3_handle 104 = .ok (.aload_n 0, 1) := by decide +kernel
theorem dX3_handle_105 : decode cX3_handle 105 = .ok (.aload_n 0, 1) := by decide +kernel
theorem dX3_handle_106 : decode cX3_handle 106 = .ok (.aload_n 0, 1) := by decide +kernel
theorem dX3_handle_107 : decode cX3_handle 107 = .ok (.getfield 32, 3) := by decide +kernel
theorem dX3_handle_110 : decode cX3_handle 110 = .ok (.aload_n 0, 1) := by decide +kernel
theorem dX3_handle_111 : decode cX3_handle 111 = .ok (.getfield 83, 3) := by decide +kernel
theorem dX3_handle_114 : decode cX3_handle 114 = .ok (.iaload, 1) := by decide +kernel
theorem dX3_handle_115 : decode cX3_handle 115 = .ok (.lload_n 2, 1) := by decide +kernel
theorem dX3_handle_116 : decode cX3_handle 116 = .ok (.l2i, 1) := by decide +kernel
theorem dX3_handle_117 : decode cX3_handle 117 = .ok (.iadd, 1) := by decide +kernel
theorem dX3_handle_118 : decode cX3_handle 118 = .ok (.invokevirtual 143, 3) := by decide +kernel
theorem dX3_handle_121 : decode cX3_handle 121 = .ok (.invokevirtual 65, 3) := by decide +kernel
theorem dX3_handle_124 : decode cX3_handle 124 = .ok (.goto 66, 3) := by decide +kernel
theorem dX3_handle_127 : decode cX3_handle 127 = .ok (.aload_n 0, 1) := by decide +kernel
theorem dX3_handle_128 : decode cX3_handle 128 = .ok (.aload_n 0, 1) := by decide +kernel
theorem dX3_handle_129 : decode cX3_handle 129 = .ok (.getfield 32, 3) := by decide +kernel
theorem dX3_handle_132 : decode cX3_handle 132 = .ok (.aload_n 0, 1) := by decide +kernel
theorem dX3_handle_133 : decode cX3_handle 133 = .ok (.getfield 83, 3) := by decide +kernel
theorem dX3_handle_136 : decode cX3_handle 136 = .ok (.iaload, 1) := by decide +kernel
theorem dX3_handle_137 : decode cX3_handle 137 = .ok (.lload_n 2, 1) := by decide +kernel
theorem dX3_handle_138 : decode cX3_handle 138 = .ok (.l2i, 1) := by decide +kernel
theorem dX3_handle_139 : decode cX3_handle 139 = .ok (.iadd, 1) := by decide +kernel
theorem dX3_handle_140 : decode cX3_handle 140 = .ok (.aload_n 0, 1) := by decide +kernel
theorem dX3_handle_141 : decode cX3_handle 141 = .ok (.invokevirtual 129, 3) := by decide +kernel
theorem dX3_handle_144 : decode cX3_handle 144 = .ok (.invokevirtual 150, 3) := by decide +kernel
theorem dX3_handle_147 : decode cX3_handle 147 = .ok (.goto 43, 3) := by decide +kernel
theorem dX3_handle_150 : decode cX3_handle 150 = .ok (.aload_n 0, 1) := by decide +kernel
theorem dX3_handle_151 : decode cX3_handle 151 = .ok (.aload_n 0, 1) := by decide +kernel
theorem dX3_handle_152 : decode cX3_handle 152 = .ok (.aload_n 0, 1) := by decide +kernel
theorem dX3_handle_153 : decode cX3_handle 153 = .ok (.getfield 77, 3) := by decide +kernel
theorem dX3_handle_156 : decode cX3_handle 156 = .ok (.iconst 1, 1) := by decide +kernel
theorem dX3_handle_157 : decode cX3_handle 157 = .ok (.isub, 1) := by decide +kernel
theorem dX3_handle_158 : decode cX3_handle 158 = .ok (.lload_n 2, 1) := by decide +kernel
theorem dX3_handle_159 : decode cX3_handle 159 = .ok (.l2i, 1) := by decide +kernel
theorem dX3_handle_160 : decode cX3_handle 160 = .ok (.isub, 1) := by decide +kernel
theorem dX3_handle_161 : decode cX3_handle 161 = .ok (.invokevirtual 143, 3) := by decide +kernel
theorem dX3_handle_164 : decode cX3_handle 164 = .ok (.invokevirtual 65, 3) := by decide +kernel
theorem dX3_handle_167 : decode cX3_handle 167 = .ok (.goto 23, 3) := by decide +kernel
theorem dX3_handle_170 : decode cX3_handle 170 = .ok (.aload_n 0, 1) := by decide +kernel
theorem dX3_handle_171 : decode cX3_handle 171 = .ok (.invokevirtual 129, 3) := by decide +kernel
theorem dX3_handle_174 : decode cX3_handle 174 = .ok (.lstore 4, 2) := by decide +kernel
theorem dX3_handle_176 : decode cX3_handle 176 = .ok (.aload_n 0, 1) := by decide +kernel
theorem dX3_handle_177 : decode cX3_handle 177 = .ok (.iload_n 1, 1) := by decide +kernel
theorem dX3_handle_178 : decode cX3_handle 178 = .ok (.aload_n 0, 1) := by decide +kernel
theorem dX3_handle_179 : decode cX3_handle 179 = .ok (.invokevirtual 129, 3) := by decide +kernel
theorem dX3_handle_182 : decode cX3_handle 182 = .ok (.lload 4, 2) := by decide +kernel
theorem dX3_handle_184 : decode cX3_handle 184 = .ok (.invokestatic 153, 3) := by decide +kernel
theorem dX3_handle_187 : decode cX3_handle 187 = .ok (.invokevirtual 65, 3) := by decide +kernel
theorem dX3_handle_190 : decode cX3_handle 190 = .ok (.return_, 1) := by decide +kernel
theorem dX3_swap_0 : decode cX3_swap 0 = .ok (.aload_n 0, 1) := by decide +kernel
theorem dX3_swap_1 : decode cX3_swap 1 = .ok (.invokevirtual 129, 3) := by decide +kernel
theorem dX3_swap_4 : decode cX3_swap 4 = .ok (.lstore_n 1, 1) := by decide +kernel
theorem dX3_swap_5 : decode cX3_swap 5 = .ok (.aload_n 0, 1) := by decide +kernel
theorem dX3_swap_6 : decode cX3_swap 6 = .ok (.invokevirtual 129, 3) := by decide +kernel
theorem dX3_swap_9 : decode cX3_swap 9 = .ok (.lstore_n 3, 1) := by decide +kernel
theorem dX3_swap_10 : decode cX3_swap 10 = .ok (.aload_n 0, 1) := by decide +kernel
theorem dX3_swap_11 : decode cX3_swap 11 = .ok (.lload_n 1, 1) := by decide +kernel
theorem dX3_swap_12 : decode cX3_swap 12 = .ok (.invokevirtual 65, 3) := by decide +kernel
theorem dX3_swap_15 : decode cX3_swap 15 = .ok (.aload_n 0, 1) := by decide +kernel
theorem dX3_swap_16 : decode cX3_swap 16 = .ok (.lload_n 3, 1) := by decide +kernel
theorem dX3_swap_17 : decode cX3_swap 17 = .ok (.invokevirtual 65, 3) := by decide +kernel
theorem dX3_swap_20 : decode cX3_swap 20 = .ok (.return_, 1) := by decide +kernel
theorem dX3_compute_0 : decode cX3_compute 0 = .ok (.iload_n 0, 1) := by decide +kernel
theorem dX3_compute_1 : decode cX3_compute 1 = .ok (.tableswitch 55 4 7 #[31, 35, 39, 43], 31) := by decide +kernel
theorem dX3_compute_32 : decode cX3_compute 32 = .ok (.lload_n 1, 1) := by decide +kernel
theorem dX3_compute_33 : decode cX3_compute 33 = .ok (.lload_n 3, 1) := by decide +kernel
theorem dX3_compute_34 : decode cX3_compute 34 = .ok (.ladd, 1) := by decide +kernel
theorem dX3_compute_35 : decode cX3_compute 35 = .ok (.lreturn, 1) := by decide +kernel
theorem dX3_compute_36 : decode cX3_compute 36 = .ok (.lload_n 1, 1) := by decide +kernel
theorem dX3_compute_37 : decode cX3_compute 37 = .ok (.lload_n 3, 1) := by decide +kernel
theorem dX3_compute_38 : decode cX3_compute 38 = .ok (.lsub, 1) := by decide +kernel
theorem dX3_compute_39 : decode cX3_compute 39 = .ok (.lreturn, 1) := by decide +kernel
theorem dX3_compute_40 : decode cX3_compute 40 = .ok (.lload_n 1, 1) := by decide +kernel
theorem dX3_compute_41 : decode cX3_compute 41 = .ok (.lload_n 3, 1) := by decide +kernel
theorem dX3_compute_42 : decode cX3_compute 42 = .ok (.lmul, 1) := by decide +kernel
theorem dX3_compute_43 : decode cX3_compute 43 = .ok (.lreturn, 1) := by decide +kernel
theorem dX3_compute_44 : decode cX3_compute 44 = .ok (.lload_n 1, 1) := by decide +kernel
theorem dX3_compute_45 : decode cX3_compute 45 = .ok (.lload_n 3, 1) := by decide +kernel
theorem dX3_compute_46 : decode cX3_compute 46 = .ok (.lcmp, 1) := by decide +kernel
theorem dX3_compute_47 : decode cX3_compute 47 = .ok (.ifCond .ge 7, 3) := by decide +kernel
theorem dX3_compute_50 : decode cX3_compute 50 = .ok (.lconst 1, 1) := by decide +kernel
theorem dX3_compute_51 : decode cX3_compute 51 = .ok (.goto 4, 3) := by decide +kernel
theorem dX3_compute_54 : decode cX3_compute 54 = .ok (.lconst 0, 1) := by decide +kernel
theorem dX3_compute_55 : decode cX3_compute 55 = .ok (.lreturn, 1) := by decide +kernel
theorem dX3_compute_56 : decode cX3_compute 56 = .ok (.lload_n 3, 1) := by decide +kernel
theorem dX3_compute_57 : decode cX3_compute 57 = .ok (.lconst 0, 1) := by decide +kernel
theorem dX3_compute_58 : decode cX3_compute 58 = .ok (.lcmp, 1) := by decide +kernel
theorem dX3_compute_59 : decode cX3_compute 59 = .ok (.ifCond .ne 7, 3) := by decide +kernel
theorem dX3_compute_62 : decode cX3_compute 62 = .ok (.lconst 0, 1) := by decide +kernel
theorem dX3_compute_63 : decode cX3_compute 63 = .ok (.goto 6, 3) := by decide +kernel
theorem dX3_compute_66 : decode cX3_compute 66 = .ok (.lload_n 1, 1) := by decide +kernel
theorem dX3_compute_67 : decode cX3_compute 67 = .ok (.lload_n 3, 1) := by decide +kernel
theorem dX3_compute_68 : decode cX3_compute 68 = .ok (.ldiv, 1) := by decide +kernel
theorem dX3_compute_69 : decode cX3_compute 69 = .ok (.lreturn, 1) := by decide +kernel
theorem dX3_push_0 : decode cX3_push 0 = .ok (.aload_n 0, 1) := by decide +kernel
theorem dX3_push_1 : decode cX3_push 1 = .ok (.aload_n 0, 1) := by decide +kernel
theorem dX3_push_2 : decode cX3_push 2 = .ok (.getfield 77, 3) := by decide +kernel
theorem dX3_push_5 : decode cX3_push 5 = .ok (.lload_n 1, 1) := by decide +kernel
theorem dX3_push_6 : decode cX3_push 6 = .ok (.invokevirtual 150, 3) := by decide +kernel
theorem dX3_push_9 : decode cX3_push 9 = .ok (.aload_n 0, 1) := by decide +kernel
theorem dX3_push_10 : decode cX3_push 10 = .ok (.dup, 1) := by decide +kernel
theorem dX3_push_11 : decode cX3_push 11 = .ok (.getfield 77, 3) := by decide +kernel
theorem dX3_push_14 : decode cX3_push 14 = .ok (.iconst 1, 1) := by decide +kernel
theorem dX3_push_15 : decode cX3_push 15 = .ok (.iadd, 1) := by decide +kernel
theorem dX3_push_16 : decode cX3_push 16 = .ok (.putfield 77, 3) := by decide +kernel
theorem dX3_push_19 : decode cX3_push 19 = .ok (.return_, 1) := by decide +kernel
theorem dX3_pop_0 : decode cX3_pop 0 = .ok (.aload_n 0, 1) := by decide +kernel
theorem dX3_pop_1 : decode cX3_pop 1 = .ok (.dup, 1) := by decide +kernel
theorem dX3_pop_2 : decode cX3_pop 2 = .ok (.getfield 77, 3) := by decide +kernel
theorem dX3_pop_5 : decode cX3_pop 5 = .ok (.iconst 1, 1) := by decide +kernel
theorem dX3_pop_6 : decode cX3_pop 6 = .ok (.isub, 1) := by decide +kernel
theorem dX3_pop_7 : decode cX3_pop 7 = .ok (.putfield 77, 3) := by decide +kernel
theorem dX3_pop_10 : decode cX3_pop 10 = .ok (.aload_n 0, 1) := by decide +kernel
theorem dX3_pop_11 : decode cX3_pop 11 = .ok (.aload_n 0, 1) := by decide +kernel
theorem dX3_pop_12 : decode cX3_pop 12 = .ok (.getfield 77, 3) := by decide +kernel
theorem dX3_pop_15 : decode cX3_pop 15 = .ok (.invokevirtual 143, 3) := by decide +kernel
theorem dX3_pop_18 : decode cX3_pop 18 = .ok (.lreturn, 1) := by decide +kernel
theorem dX3_read_0 : decode cX3_read 0 = .ok (.iload_n 1, 1) := by decide +kernel
theorem dX3_read_1 : decode cX3_read 1 = .ok (.ifCond .lt 21, 3) := by decide +kernel
theorem dX3_read_4 : decode cX3_read 4 = .ok (.iload_n 1, 1) := by decide +kernel
theorem dX3_read_5 : decode cX3_read 5 = .ok (.aload_n 0, 1) := by decide +kernel
theorem dX3_read_6 : decode cX3_read 6 = .ok (.getfield 15, 3) := by decide +kernel
theorem dX3_read_9 : decode cX3_read 9 = .ok (.arraylength, 1) := by decide +kernel
theorem dX3_read_10 : decode cX3_read 10 = .ok (.if_icmp .ge 12, 3) := by decide +kernel
theorem dX3_read_13 : decode cX3_read 13 = .ok (.aload_n 0, 1) := by decide +kernel
theorem dX3_read_14 : decode cX3_read 14 = .ok (.getfield 15, 3) := by decide +kernel
theorem dX3_read_17 : decode cX3_read 17 = .ok (.iload_n 1, 1) := by decide +kernel
theorem dX3_read_18 : decode cX3_read 18 = .ok (.laload, 1) := by decide +kernel
theorem dX3_read_19 : decode cX3_read 19 = .ok (.goto 4, 3) := by decide +kernel
theorem dX3_read_22 : decode cX3_read 22 = .ok (.lconst 0, 1) := by decide +kernel
theorem dX3_read_23 : decode cX3_read 23 = .ok (.lreturn, 1) := by decide +kernel
theorem dX3_write_0 : decode cX3_write 0 = .ok (.iload_n 1, 1) := by decide +kernel
theorem dX3_write_1 : decode cX3_write 1 = .ok (.ifCond .lt 19, 3) := by decide +kernel
theorem dX3_write_4 : decode cX3_write 4 = .ok (.iload_n 1, 1) := by decide +kernel
theorem dX3_write_5 : decode cX3_write 5 = .ok (.aload_n 0, 1) := by decide +kernel
theorem dX3_write_6 : decode cX3_write 6 = .ok (.getfield 15, 3) := by decide +kernel
theorem dX3_write_9 : decode cX3_write 9 = .ok (.arraylength, 1) := by decide +kernel
theorem dX3_write_10 : decode cX3_write 10 = .ok (.if_icmp .ge 10, 3) := by decide +kernel
theorem dX3_write_13 : decode cX3_write 13 = .ok (.aload_n 0, 1) := by decide +kernel
theorem dX3_write_14 : decode cX3_write 14 = .ok (.getfield 15, 3) := by decide +kernel
theorem dX3_write_17 : decode cX3_write 17 = .ok (.iload_n 1, 1) := by decide +kernel
theorem dX3_write_18 : decode cX3_write 18 = .ok (.lload_n 2, 1) := by decide +kernel
theorem dX3_write_19 : decode cX3_write 19 = .ok (.lastore, 1) := by decide +kernel
theorem dX3_write_20 : decode cX3_write 20 = .ok (.return_, 1) := by decide +kernel
theorem dX3_countWords_0 : decode cX3_countWords 0 = .ok (.aload_n 0, 1) := by decide +kernel
theorem dX3_countWords_1 : decode cX3_countWords 1 = .ok (.aload_n 0, 1) := by decide +kernel
theorem dX3_countWords_2 : decode cX3_countWords 2 = .ok (.getfield 45, 3) := by decide +kernel
theorem dX3_countWords_5 : decode cX3_countWords 5 = .ok (.aload_n 0, 1) := by decide +kernel
theorem dX3_countWords_6 : decode cX3_countWords 6 = .ok (.getfield 77, 3) := by decide +kernel
theorem dX3_countWords_9 : decode cX3_countWords 9 = .ok (.iconst 2, 1) := by decide +kernel
theorem dX3_countWords_10 : decode cX3_countWords 10 = .ok (.aload_n 0, 1) := by decide +kernel
theorem dX3_countWords_11 : decode cX3_countWords 11 = .ok (.getfield 83, 3) := by decide +kernel
theorem dX3_countWords_14 : decode cX3_countWords 14 = .ok (.imul, 1) := by decide +kernel
theorem dX3_countWords_15 : decode cX3_countWords 15 = .ok (.iadd, 1) := by decide +kernel
theorem dX3_countWords_16 : decode cX3_countWords 16 = .ok (.invokestatic 157, 3) := by decide +kernel
theorem dX3_countWords_19 : decode cX3_countWords 19 = .ok (.putfield 45, 3) := by decide +kernel
theorem dX3_countWords_22 : decode cX3_countWords 22 = .ok (.return_, 1) := by decide +kernel
