theorem dX7_init_0 : decode cX7_init 0 = .ok (.aload_n 0, 1) := by decide +kernel
theorem dX7_init_1 : decode cX7_init 1 = .ok (.invokespecial 1, 3) := by decide +kernel
theorem dX7_init_4 : decode cX7_init 4 = .ok (.aload_n 0, 1) := by decide +kernel
theorem dX7_init_5 : decode cX7_init 5 = .ok (.sipush 311, 3) := by decide +kernel
theorem dX7_init_8 : decode cX7_init 8 = .ok (.newarray .int, 2) := by decide +kernel
theorem dX7_init_10 : decode cX7_init 10 = .ok (.putfield 7, 3) := by decide +kernel
theorem dX7_init_13 : decode cX7_init 13 = .ok (.aload_n 0, 1) := by decide +kernel
theorem dX7_init_14 : decode cX7_init 14 = .ok (.sipush 1244, 3) := by decide +kernel
theorem dX7_init_17 : decode cX7_init 17 = .ok (.newarray .int, 2) := by decide +kernel
theorem dX7_init_19 : decode cX7_init 19 = .ok (.putfield 13, 3) := by decide +kernel
theorem dX7_init_22 : decode cX7_init 22 = .ok (.aload_n 0, 1) := by decide +kernel
theorem dX7_init_23 : decode cX7_init 23 = .ok (.sipush 311, 3) := by decide +kernel
theorem dX7_init_26 : decode cX7_init 26 = .ok (.newarray .int, 2) := by decide +kernel
theorem dX7_init_28 : decode cX7_init 28 = .ok (.putfield 16, 3) := by decide +kernel
theorem dX7_init_31 : decode cX7_init 31 = .ok (.aload_n 0, 1) := by decide +kernel
theorem dX7_init_32 : decode cX7_init 32 = .ok (.sipush 311, 3) := by decide +kernel
theorem dX7_init_35 : decode cX7_init 35 = .ok (.newarray .int, 2) := by decide +kernel
theorem dX7_init_37 : decode cX7_init 37 = .ok (.putfield 19, 3) := by decide +kernel
theorem dX7_init_40 : decode cX7_init 40 = .ok (.aload_n 0, 1) := by decide +kernel
theorem dX7_init_41 : decode cX7_init 41 = .ok (.sipush 160, 3) := by decide +kernel
theorem dX7_init_44 : decode cX7_init 44 = .ok (.newarray .int, 2) := by decide +kernel
theorem dX7_init_46 : decode cX7_init 46 = .ok (.putfield 22, 3) := by decide +kernel
theorem dX7_init_49 : decode cX7_init 49 = .ok (.aload_n 0, 1) := by decide +kernel
theorem dX7_init_50 : decode cX7_init 50 = .ok (.bipush 40, 2) := by decide +kernel
theorem dX7_init_52 : decode cX7_init 52 = .ok (.newarray .boolean, 2) := by decide +kernel
theorem dX7_init_54 : decode cX7_init 54 = .ok (.putfield 25, 3) := by decide +kernel
theorem dX7_init_57 : decode cX7_init 57 = .ok (.aload_n 0, 1) := by decide +kernel
theorem dX7_init_58 : decode cX7_init 58 = .ok (.sipush 400, 3) := by decide +kernel
theorem dX7_init_61 : decode cX7_init 61 = .ok (.newarray .int, 2) := by decide +kernel
theorem dX7_init_63 : decode cX7_init 63 = .ok (.putfield 29, 3) := by decide +kernel
theorem dX7_init_66 : decode cX7_init 66 = .ok (.aload_n 0, 1) := by decide +kernel
theorem dX7_init_67 : decode cX7_init 67 = .ok (.sipush 400, 3) := by decide +kernel
theorem dX7_init_70 : decode cX7_init 70 = .ok (.newarray .int, 2) := by decide +kernel
theorem dX7_init_72 : decode cX7_init 72 = .ok (.putfield 32, 3) := by decide +kernel
theorem dX7_init_75 : decode cX7_init 75 = .ok (.aload_n 0, 1) := by decide +kernel
theorem dX7_init_76 : decode cX7_init 76 = .ok (.bipush 80, 2) := by decide +kernel
theorem dX7_init_78 : decode cX7_init 78 = .ok (.newarray .int, 2) := by decide +kernel
theorem dX7_init_80 : decode cX7_init 80 = .ok (.putfield 35, 3) := by decide +kernel
theorem dX7_init_83 : decode cX7_init 83 = .ok (.aload_n 0, 1) := by decide +kernel
theorem dX7_init_84 : decode cX7_init 84 = .ok (.bipush 80, 2) := by decide +kernel
theorem dX7_init_86 : decode cX7_init 86 = .ok (.newarray .int, 2) := by decide +kernel
theorem dX7_init_88 : decode cX7_init 88 = .ok (.putfield 38, 3) := by decide +kernel
theorem dX7_init_91 : decode cX7_init 91 = .ok (.aload_n 0, 1) := by decide +kernel
theorem dX7_init_92 : decode cX7_init 92 = .ok (.bipush 6, 2) := by decide +kernel
theorem dX7_init_94 : decode cX7_init 94 = .ok (.newarray .int, 2) := by decide +kernel
theorem dX7_init_96 : decode cX7_init 96 = .ok (.putfield 41, 3) := by decide +kernel
theorem dX7_init_99 : decode cX7_init 99 = .ok (.aload_n 0, 1) := by decide +kernel
theorem dX7_init_100 : decode cX7_init 100 = .ok (.bipush 6, 2) := by decide +kernel
theorem dX7_init_102 : decode cX7_init 102 = .ok (.newarray .int, 2) := by decide +kernel
theorem dX7_init_104 : decode cX7_init 104 = .ok (.putfield 44, 3) := by decide +kernel
theorem dX7_init_107 : decode cX7_init 107 = .ok (.aload_n 0, 1) := by decide +kernel
theorem dX7_init_108 : decode cX7_init 108 = .ok (.bipush 6, 2) := by decide +kernel
theorem dX7_init_110 : decode cX7_init 110 = .ok (.newarray .int, 2) := by decide +kernel
theorem dX7_init_112 : decode cX7_init 112 = .ok (.putfield 47, 3) := by decide +kernel
theorem dX7_init_115 : decode cX7_init 115 = .ok (.aload_n 0, 1) := by decide +kernel
theorem dX7_init_116 : decode cX7_init 116 = .ok (.bipush 12, 2) := by decide +kernel
theorem dX7_init_118 : decode cX7_init 118 = .ok (.newarray .boolean, 2) := by decide +kernel
theorem dX7_init_120 : decode cX7_init 120 = .ok (.putfield 50, 3) := by decide +kernel
theorem dX7_init_123 : decode cX7_init 123 = .ok (.aload_n 0, 1) := by decide +kernel
theorem dX7_init_124 : decode cX7_init 124 = .ok (.getfield 7, 3) := by decide +kernel
theorem dX7_init_127 : decode cX7_init 127 = .ok (.iconst 0, 1) := by decide +kernel
theorem dX7_init_128 : decode cX7_init 128 = .ok (.iconst 3, 1) := by decide +kernel
theorem dX7_init_129 : decode cX7_init 129 = .ok (.iastore, 1) := by decide +kernel
theorem dX7_init_130 : decode cX7_init 130 = .ok (.aload_n 0, 1) := by decide +kernel
theorem dX7_init_131 : decode cX7_init 131 = .ok (.getfield 7, 3) := by decide +kernel
theorem dX7_init_134 : decode cX7_init 134 = .ok (.iconst 1, 1) := by decide +kernel
theorem dX7_init_135 : decode cX7_init 135 = .ok (.iconst 1, 1) := by decide +kernel
theorem dX7_init_136 : decode cX7_init 136 = .ok (.iastore, 1) := by decide +kernel
theorem dX7_init_137 : decode cX7_init 137 = .ok (.aload_n 0, 1) := by decide +kernel
theorem dX7_init_138 : decode cX7_init 138 = .ok (.getfield 7, 3) := by decide +kernel
theorem dX7_init_141 : decode cX7_init 141 = .ok (.iconst 2, 1) := by decide +kernel
theorem dX7_init_142 : decode cX7_init 142 = .ok (.bipush 20, 2) := by decide +kernel
theorem dX7_init_144 : decode cX7_init 144 = .ok (.iastore, 1) := by decide +kernel
theorem dX7_init_145 : decode cX7_init 145 = .ok (.aload_n 0, 1) := by decide +kernel
theorem dX7_init_146 : decode cX7_init 146 = .ok (.getfield 7, 3) := by decide +kernel
theorem dX7_init_149 : decode cX7_init 149 = .ok (.iconst 3, 1) := by decide +kernel
theorem dX7_init_150 : decode cX7_init 150 = .ok (.iconst 5, 1) := by decide +kernel
theorem dX7_init_151 : decode cX7_init 151 = .ok (.iastore, 1) := by decide +kernel
theorem dX7_init_152 : decode cX7_init 152 = .ok (.aload_n 0, 1) := by decide +kernel
theorem dX7_init_153 : decode cX7_init 153 = .ok (.getfield 7, 3) := by decide +kernel
theorem dX7_init_156 : decode cX7_init 156 = .ok (.bipush 6, 2) := by decide +kernel
theorem dX7_init_158 : decode cX7_init 158 = .ok (.bipush 100, 2) := by decide +kernel
theorem dX7_init_160 : decode cX7_init 160 = .ok (.iastore, 1) := by decide +kernel
theorem dX7_init_161 : decode cX7_init 161 = .ok (.aload_n 0, 1) := by decide +kernel
theorem dX7_init_162 : decode cX7_init 162 = .ok (.getfield 7, 3) := by decide +kernel
theorem dX7_init_165 : decode cX7_init 165 = .ok (.bipush 7, 2) := by decide +kernel
theorem dX7_init_167 : decode cX7_init 167 = .ok (.bipush 100, 2) := by decide +kernel
theorem dX7_init_169 : decode cX7_init 169 = .ok (.iastore, 1) := by decide +kernel
theorem dX7_init_170 : decode cX7_init 170 = .ok (.aload_n 0, 1) := by decide +kernel
theorem dX7_init_171 : decode cX7_init 171 = .ok (.getfield 7, 3) := by decide +kernel
theorem dX7_init_174 : decode cX7_init 174 = .ok (.bipush 8, 2) := by decide +kernel
theorem dX7_init_176 : decode cX7_init 176 = .ok (.iconst 5, 1) := by decide +kernel
theorem dX7_init_177 : decode cX7_init 177 = .ok (.iastore, 1) := by decide +kernel
theorem dX7_init_178 : decode cX7_init 178 = .ok (.iconst 0, 1) := by decide +kernel
theorem dX7_init_179 : decode cX7_init 179 = .ok (.istore_n 1, 1) := by decide +kernel
theorem dX7_init_180 : decode cX7_init 180 = .ok (.iload_n 1, 1) := by decide +kernel
theorem dX7_init_181 : decode cX7_init 181 = .ok (.bipush 12, 2) := by decide +kernel
theorem dX7_init_183 : decode cX7_init 183 = .ok (.if_icmp .ge 37, 3) := by decide +kernel
theorem dX7_init_186 : decode cX7_init 186 = .ok (.aload_n 0, 1) := by decide +kernel
theorem dX7_init_187 : decode cX7_init 187 = .ok (.getfield 7, 3) := by decide +kernel
theorem dX7_init_190 : decode cX7_init 190 = .ok (.bipush 15, 2) := by decide +kernel
theorem dX7_init_192 : decode cX7_init 192 = .ok (.bipush 8, 2) := by decide +kernel
theorem dX7_init_194 : decode cX7_init 194 = .ok (.iload_n 1, 1) := by decide +kernel
theorem dX7_init_195 : decode cX7_init 195 = .ok (.imul, 1) := by decide +kernel
theorem dX7_init_196 : decode cX7_init 196 = .ok (.iadd, 1) := by decide +kernel
theorem dX7_init_197 : decode cX7_init 197 = .ok (.iload_n 1, 1) := by decide +kernel
theorem dX7_init_198 : decode cX7_init 198 = .ok (.iastore, 1) := by decide +kernel
theorem dX7_init_199 : decode cX7_init 199 = .ok (.aload_n 0, 1) := by decide +kernel
theorem dX7_init_200 : decode cX7_init 200 = .ok (.getfield 7, 3) := by decide +kernel
theorem dX7_init_203 : decode cX7_init 203 = .ok (.bipush 15, 2) := by decide +kernel
theorem dX7_init_205 : decode cX7_init 205 = .ok (.bipush 8, 2) := by decide +kernel
theorem dX7_init_207 : decode cX7_init 207 = .ok (.iload_n 1, 1) := by decide +kernel
theorem dX7_init_208 : decode cX7_init 208 = .ok (.imul, 1) := by decide +kernel
theorem dX7_init_209 : decode cX7_init 209 = .ok (.iadd, 1) := by decide +kernel
theorem dX7_init_210 : decode cX7_init 210 = .ok (.iconst 1, 1) := by decide +kernel
theorem dX7_init_211 : decode cX7_init 211 = .ok (.iadd, 1) := by decide +kernel
theorem dX7_init_212 : decode cX7_init 212 = .ok (.iconst (-1), 1) := by decide +kernel
theorem dX7_init_213 : decode cX7_init 213 = .ok (.iastore, 1) := by decide +kernel
theorem dX7_init_214 : decode cX7_init 214 = .ok (.iinc 1 1, 3) := by decide +kernel
theorem dX7_init_217 : decode cX7_init 217 = .ok (.goto (-37), 3) := by decide +kernel
theorem dX7_init_220 : decode cX7_init 220 = .ok (.return_, 1) := by decide +kernel
theorem dX7_thrown_0 : decode cX7_thrown 0 = .ok (.aload_n 0, 1) := by decide +kernel
theorem dX7_thrown_1 : decode cX7_thrown 1 = .ok (.getfield 53, 3) := by decide +kernel
theorem dX7_thrown_4 : decode cX7_thrown 4 = .ok (.ireturn, 1) := by decide +kernel
theorem dX7_in_0 : decode cX7_in 0 = .ok (.iload_n 0, 1) := by decide +kernel
theorem dX7_in_1 : decode cX7_in 1 = .ok (.iload_n 1, 1) := by decide +kernel
theorem dX7_in_2 : decode cX7_in 2 = .ok (.if_icmp .lt 12, 3) := by decide +kernel
theorem dX7_in_5 : decode cX7_in 5 = .ok (.iload_n 0, 1) := by decide +kernel
theorem dX7_in_6 : decode cX7_in 6 = .ok (.iload_n 2, 1) := by decide +kernel
theorem dX7_in_7 : decode cX7_in 7 = .ok (.if_icmp .gt 7, 3) := by decide +kernel
theorem dX7_in_10 : decode cX7_in 10 = .ok (.iconst 1, 1) := by decide +kernel
theorem dX7_in_11 : decode cX7_in 11 = .ok (.goto 4, 3) := by decide +kernel
theorem dX7_in_14 : decode cX7_in 14 = .ok (.iconst 0, 1) := by decide +kernel
theorem dX7_in_15 : decode cX7_in 15 = .ok (.ireturn, 1) := by decide +kernel
theorem dX7_fails_0 : decode cX7_fails 0 = .ok (.aload_n 0, 1) := by decide +kernel
theorem dX7_fails_1 : decode cX7_fails 1 = .ok (.iload_n 1, 1) := by decide +kernel
theorem dX7_fails_2 : decode cX7_fails 2 = .ok (.putfield 53, 3) := by decide +kernel
theorem dX7_fails_5 : decode cX7_fails 5 = .ok (.iconst 0, 1) := by decide +kernel
theorem dX7_fails_6 : decode cX7_fails 6 = .ok (.ireturn, 1) := by decide +kernel
theorem dX7_tells_0 : decode cX7_tells 0 = .ok (.aload_n 0, 1) := by decide +kernel
theorem dX7_tells_1 : decode cX7_tells 1 = .ok (.iconst 0, 1) := by decide +kernel
theorem dX7_tells_2 : decode cX7_tells 2 = .ok (.putfield 53, 3) := by decide +kernel
theorem dX7_tells_5 : decode cX7_tells 5 = .ok (.iload_n 1, 1) := by decide +kernel
theorem dX7_tells_6 : decode cX7_tells 6 = .ok (.ireturn, 1) := by decide +kernel
theorem dX7_copies_0 : decode cX7_copies 0 = .ok (.iconst 0, 1) := by decide +kernel
theorem dX7_copies_1 : decode cX7_copies 1 = .ok (.istore_n 2, 1) := by decide +kernel
theorem dX7_copies_2 : decode cX7_copies 2 = .ok (.iload_n 2, 1) := by decide +kernel
theorem dX7_copies_3 : decode cX7_copies 3 = .ok (.sipush 311, 3) := by decide +kernel
theorem dX7_copies_6 : decode cX7_copies 6 = .ok (.if_icmp .ge 15, 3) := by decide +kernel
theorem dX7_copies_9 : decode cX7_copies 9 = .ok (.aload_n 0, 1) := by decide +kernel
theorem dX7_copies_10 : decode cX7_copies 10 = .ok (.iload_n 2, 1) := by decide +kernel
theorem dX7_copies_11 : decode cX7_copies 11 = .ok (.aload_n 1, 1) := by decide +kernel
theorem dX7_copies_12 : decode cX7_copies 12 = .ok (.iload_n 2, 1) := by decide +kernel
theorem dX7_copies_13 : decode cX7_copies 13 = .ok (.iaload, 1) := by decide +kernel
theorem dX7_copies_14 : decode cX7_copies 14 = .ok (.iastore, 1) := by decide +kernel
theorem dX7_copies_15 : decode cX7_copies 15 = .ok (.iinc 2 1, 3) := by decide +kernel
theorem dX7_copies_18 : decode cX7_copies 18 = .ok (.goto (-16), 3) := by decide +kernel
theorem dX7_copies_21 : decode cX7_copies 21 = .ok (.return_, 1) := by decide +kernel
theorem dX7_hold_0 : decode cX7_hold 0 = .ok (.aload_n 0, 1) := by decide +kernel
theorem dX7_hold_1 : decode cX7_hold 1 = .ok (.getfield 16, 3) := by decide +kernel
theorem dX7_hold_4 : decode cX7_hold 4 = .ok (.aload_n 0, 1) := by decide +kernel
theorem dX7_hold_5 : decode cX7_hold 5 = .ok (.getfield 7, 3) := by decide +kernel
theorem dX7_hold_8 : decode cX7_hold 8 = .ok (.invokestatic 57, 3) := by decide +kernel
theorem dX7_hold_11 : decode cX7_hold 11 = .ok (.return_, 1) := by decide +kernel
theorem dX7_ends_0 : decode cX7_ends 0 = .ok (.aload_n 0, 1) := by decide +kernel
theorem dX7_ends_1 : decode cX7_ends 1 = .ok (.getfield 61, 3) := by decide +kernel
theorem dX7_ends_4 : decode cX7_ends 4 = .ok (.iconst 4, 1) := by decide +kernel
theorem dX7_ends_5 : decode cX7_ends 5 = .ok (.if_icmp .ne 44, 3) := by decide +kernel
theorem dX7_ends_8 : decode cX7_ends 8 = .ok (.iconst 0, 1) := by decide +kernel
theorem dX7_ends_9 : decode cX7_ends 9 = .ok (.istore_n 2, 1) := by decide +kernel
theorem dX7_ends_10 : decode cX7_ends 10 = .ok (.iload_n 2, 1) := by decide +kernel
theorem dX7_ends_11 : decode cX7_ends 11 = .ok (.sipush 933, 3) := by decide +kernel
theorem dX7_ends_14 : decode cX7_ends 14 = .ok (.if_icmp .ge 25, 3) := by decide +kernel
theorem dX7_ends_17 : decode cX7_ends 17 = .ok (.aload_n 0, 1) := by decide +kernel
theorem dX7_ends_18 : decode cX7_ends 18 = .ok (.getfield 13, 3) := by decide +kernel
theorem dX7_ends_21 : decode cX7_ends 21 = .ok (.iload_n 2, 1) := by decide +kernel
theorem dX7_ends_22 : decode cX7_ends 22 = .ok (.aload_n 0, 1) := by decide +kernel
theorem dX7_ends_23 : decode cX7_ends 23 = .ok (.getfield 13, 3) := by decide +kernel
theorem dX7_ends_26 : decode cX7_ends 26 = .ok (.iload_n 2, 1) := by decide +kernel
theorem dX7_ends_27 : decode cX7_ends 27 = .ok (.sipush 311, 3) := by decide +kernel
theorem dX7_ends_30 : decode cX7_ends 30 = .ok (.iadd, 1) := by decide +kernel
theorem dX7_ends_31 : decode cX7_ends 31 = .ok (.iaload, 1) := by decide +kernel
theorem dX7_ends_32 : decode cX7_ends 32 = .ok (.iastore, 1) := by decide +kernel
theorem dX7_ends_33 : decode cX7_ends 33 = .ok (.iinc 2 1, 3) := by decide +kernel
theorem dX7_ends_36 : decode cX7_ends 36 = .ok (.goto (-26), 3) := by decide +kernel
theorem dX7_ends_39 : decode cX7_ends 39 = .ok (.aload_n 0, 1) := by decide +kernel
theorem dX7_ends_40 : decode cX7_ends 40 = .ok (.dup, 1) := by decide +kernel
theorem dX7_ends_41 : decode cX7_ends 41 = .ok (.getfield 61, 3) := by decide +kernel
theorem dX7_ends_44 : decode cX7_ends 44 = .ok (.iconst 1, 1) := by decide +kernel
theorem dX7_ends_45 : decode cX7_ends 45 = .ok (.isub, 1) := by decide +kernel
theorem dX7_ends_46 : decode cX7_ends 46 = .ok (.putfield 61, 3) := by decide +kernel
theorem dX7_ends_49 : decode cX7_ends 49 = .ok (.iconst 0, 1) := by decide +kernel
theorem dX7_ends_50 : decode cX7_ends 50 = .ok (.istore_n 2, 1) := by decide +kernel
theorem dX7_ends_51 : decode cX7_ends 51 = .ok (.iload_n 2, 1) := by decide +kernel
theorem dX7_ends_52 : decode cX7_ends 52 = .ok (.sipush 311, 3) := by decide +kernel
theorem dX7_ends_55 : decode cX7_ends 55 = .ok (.if_icmp .ge 30, 3) := by decide +kernel
theorem dX7_ends_58 : decode cX7_ends 58 = .ok (.aload_n 0, 1) := by decide +kernel
theorem dX7_ends_59 : decode cX7_ends 59 = .ok (.getfield 13, 3) := by decide +kernel
theorem dX7_ends_62 : decode cX7_ends 62 = .ok (.sipush 311, 3) := by decide +kernel
theorem dX7_ends_65 : decode cX7_ends 65 = .ok (.aload_n 0, 1) := by decide +kernel
theorem dX7_ends_66 : decode cX7_ends 66 = .ok (.getfield 61, 3) := by decide +kernel
theorem dX7_ends_69 : decode cX7_ends 69 = .ok (.imul, 1) := by decide +kernel
theorem dX7_ends_70 : decode cX7_ends 70 = .ok (.iload_n 2, 1) := by decide +kernel
theorem dX7_ends_71 : decode cX7_ends 71 = .ok (.iadd, 1) := by decide +kernel
theorem dX7_ends_72 : decode cX7_ends 72 = .ok (.aload_n 0, 1) := by decide +kernel
theorem dX7_ends_73 : decode cX7_ends 73 = .ok (.getfield 16, 3) := by decide +kernel
theorem dX7_ends_76 : decode cX7_ends 76 = .ok (.iload_n 2, 1) := by decide +kernel
theorem dX7_ends_77 : decode cX7_ends 77 = .ok (.iaload, 1) := by decide +kernel
theorem dX7_ends_78 : decode cX7_ends 78 = .ok (.iastore, 1) := by decide +kernel
theorem dX7_ends_79 : decode cX7_ends 79 = .ok (.iinc 2 1, 3) := by decide +kernel
theorem dX7_ends_82 : decode cX7_ends 82 = .ok (.goto (-31), 3) := by decide +kernel
theorem dX7_ends_85 : decode cX7_ends 85 = .ok (.aload_n 0, 1) := by decide +kernel
theorem dX7_ends_86 : decode cX7_ends 86 = .ok (.dup, 1) := by decide +kernel
theorem dX7_ends_87 : decode cX7_ends 87 = .ok (.getfield 61, 3) := by decide +kernel
theorem dX7_ends_90 : decode cX7_ends 90 = .ok (.iconst 1, 1) := by decide +kernel
theorem dX7_ends_91 : decode cX7_ends 91 = .ok (.iadd, 1) := by decide +kernel
theorem dX7_ends_92 : decode cX7_ends 92 = .ok (.putfield 61, 3) := by decide +kernel
theorem dX7_ends_95 : decode cX7_ends 95 = .ok (.aload_n 0, 1) := by decide +kernel
theorem dX7_ends_96 : decode cX7_ends 96 = .ok (.iload_n 1, 1) := by decide +kernel
theorem dX7_ends_97 : decode cX7_ends 97 = .ok (.invokevirtual 64, 3) := by decide +kernel
theorem dX7_ends_100 : decode cX7_ends 100 = .ok (.ireturn, 1) := by decide +kernel
theorem dX7_isKind_0 : decode cX7_isKind 0 = .ok (.iload_n 0, 1) := by decide +kernel
theorem dX7_isKind_1 : decode cX7_isKind 1 = .ok (.iconst 0, 1) := by decide +kernel
theorem dX7_isKind_2 : decode cX7_isKind 2 = .ok (.bipush 11, 2) := by decide +kernel
theorem dX7_isKind_4 : decode cX7_isKind 4 = .ok (.invokestatic 68, 3) := by decide +kernel
theorem dX7_isKind_7 : decode cX7_isKind 7 = .ok (.ireturn, 1) := by decide +kernel
theorem dX7_isSign_0 : decode cX7_isSign 0 = .ok (.iload_n 1, 1) := by decide +kernel
theorem dX7_isSign_1 : decode cX7_isSign 1 = .ok (.ifCond .lt 18, 3) := by decide +kernel
theorem dX7_isSign_4 : decode cX7_isSign 4 = .ok (.iload_n 1, 1) := by decide +kernel
theorem dX7_isSign_5 : decode cX7_isSign 5 = .ok (.aload_n 0, 1) := by decide +kernel
theorem dX7_isSign_6 : decode cX7_isSign 6 = .ok (.getfield 7, 3) := by decide +kernel
theorem dX7_isSign_9 : decode cX7_isSign 9 = .ok (.bipush 9, 2) := by decide +kernel
theorem dX7_isSign_11 : decode cX7_isSign 11 = .ok (.iaload, 1) := by decide +kernel
theorem dX7_isSign_12 : decode cX7_isSign 12 = .ok (.if_icmp .ge 7, 3) := by decide +kernel
theorem dX7_isSign_15 : decode cX7_isSign 15 = .ok (.iconst 1, 1) := by decide +kernel
theorem dX7_isSign_16 : decode cX7_isSign 16 = .ok (.goto 4, 3) := by decide +kernel
theorem dX7_isSign_19 : decode cX7_isSign 19 = .ok (.iconst 0, 1) := by decide +kernel
theorem dX7_isSign_20 : decode cX7_isSign 20 = .ok (.ireturn, 1) := by decide +kernel
theorem dX7_of_0 : decode cX7_of 0 = .ok (.aload_n 0, 1) := by decide +kernel
theorem dX7_of_1 : decode cX7_of 1 = .ok (.getfield 7, 3) := by decide +kernel
theorem dX7_of_4 : decode cX7_of 4 = .ok (.bipush 111, 2) := by decide +kernel
theorem dX7_of_6 : decode cX7_of 6 = .ok (.iconst 5, 1) := by decide +kernel
theorem dX7_of_7 : decode cX7_of 7 = .ok (.iload_n 1, 1) := by decide +kernel
theorem dX7_of_8 : decode cX7_of 8 = .ok (.imul, 1) := by decide +kernel
theorem dX7_of_9 : decode cX7_of 9 = .ok (.iadd, 1) := by decide +kernel
theorem dX7_of_10 : decode cX7_of 10 = .ok (.iload_n 2, 1) := by decide +kernel
theorem dX7_of_11 : decode cX7_of 11 = .ok (.iadd, 1) := by decide +kernel
theorem dX7_of_12 : decode cX7_of 12 = .ok (.iaload, 1) := by decide +kernel
theorem dX7_of_13 : decode cX7_of 13 = .ok (.ireturn, 1) := by decide +kernel
theorem dX7_rankOf_0 : decode cX7_rankOf 0 = .ok (.aload_n 0, 1) := by decide +kernel
theorem dX7_rankOf_1 : decode cX7_rankOf 1 = .ok (.getfield 7, 3) := by decide +kernel
theorem dX7_rankOf_4 : decode cX7_rankOf 4 = .ok (.bipush 15, 2) := by decide +kernel
theorem dX7_rankOf_6 : decode cX7_rankOf 6 = .ok (.bipush 8, 2) := by decide +kernel
theorem dX7_rankOf_8 : decode cX7_rankOf 8 = .ok (.iload_n 1, 1) := by decide +kernel
theorem dX7_rankOf_9 : decode cX7_rankOf 9 = .ok (.imul, 1) := by decide +kernel
theorem dX7_rankOf_10 : decode cX7_rankOf 10 = .ok (.iadd, 1) := by decide +kernel
theorem dX7_rankOf_11 : decode cX7_rankOf 11 = .ok (.iaload, 1) := by decide +kernel
theorem dX7_rankOf_12 : decode cX7_rankOf 12 = .ok (.ireturn, 1) := by decide +kernel
theorem dX7_groupOf_0 : decode cX7_groupOf 0 = .ok (.aload_n 0, 1) := by decide +kernel
theorem dX7_groupOf_1 : decode cX7_groupOf 1 = .ok (.getfield 7, 3) := by decide +kernel
theorem dX7_groupOf_4 : decode cX7_groupOf 4 = .ok (.bipush 15, 2) := by decide +kernel
theorem dX7_groupOf_6 : decode cX7_groupOf 6 = .ok (.bipush 8, 2) := by decide +kernel
theorem dX7_groupOf_8 : decode cX7_groupOf 8 = .ok (.iload_n 1, 1) := by decide +kernel
theorem dX7_groupOf_9 : decode cX7_groupOf 9 = .ok (.imul, 1) := by decide +kernel
theorem dX7_groupOf_10 : decode cX7_groupOf 10 = .ok (.iadd, 1) := by decide +kernel
theorem dX7_groupOf_11 : decode cX7_groupOf 11 = .ok (.iconst 1, 1) := by decide +kernel
theorem dX7_groupOf_12 : decode cX7_groupOf 12 = .ok (.iadd, 1) := by decide +kernel
theorem dX7_groupOf_13 : decode cX7_groupOf 13 = .ok (.iaload, 1) := by decide +kernel
theorem dX7_groupOf_14 : decode cX7_groupOf 14 = .ok (.ireturn, 1) := by decide +kernel
theorem dX7_classOf_0 : decode cX7_classOf 0 = .ok (.bipush 15, 2) := by decide +kernel
theorem dX7_classOf_2 : decode cX7_classOf 2 = .ok (.bipush 8, 2) := by decide +kernel
theorem dX7_classOf_4 : decode cX7_classOf 4 = .ok (.aload_n 0, 1) := by decide +kernel
theorem dX7_classOf_5 : decode cX7_classOf 5 = .ok (.iload_n 1, 1) := by decide +kernel
theorem dX7_classOf_6 : decode cX7_classOf 6 = .ok (.iconst 0, 1) := by decide +kernel
theorem dX7_classOf_7 : decode cX7_classOf 7 = .ok (.invokevirtual 72, 3) := by decide +kernel
theorem dX7_classOf_10 : decode cX7_classOf 10 = .ok (.imul, 1) := by decide +kernel
theorem dX7_classOf_11 : decode cX7_classOf 11 = .ok (.iadd, 1) := by decide +kernel
theorem dX7_classOf_12 : decode cX7_classOf 12 = .ok (.istore_n 2, 1) := by decide +kernel
theorem dX7_classOf_13 : decode cX7_classOf 13 = .ok (.iconst 0, 1) := by decide +kernel
theorem dX7_classOf_14 : decode cX7_classOf 14 = .ok (.istore_n 3, 1) := by decide +kernel
theorem dX7_classOf_15 : decode cX7_classOf 15 = .ok (.iconst 0, 1) := by decide +kernel
theorem dX7_classOf_16 : decode cX7_classOf 16 = .ok (.istore 4, 2) := by decide +kernel
theorem dX7_classOf_18 : decode cX7_classOf 18 = .ok (.iload 4, 2) := by decide +kernel
theorem dX7_classOf_20 : decode cX7_classOf 20 = .ok (.aload_n 0, 1) := by decide +kernel
theorem dX7_classOf_21 : decode cX7_classOf 21 = .ok (.getfield 7, 3) := by decide +kernel
theorem dX7_classOf_24 : decode cX7_classOf 24 = .ok (.iload_n 2, 1) := by decide +kernel
theorem dX7_classOf_25 : decode cX7_classOf 25 = .ok (.iconst 2, 1) := by decide +kernel
theorem dX7_classOf_26 : decode cX7_classOf 26 = .ok (.iadd, 1) := by decide +kernel
theorem dX7_classOf_27 : decode cX7_classOf 27 = .ok (.iaload, 1) := by decide +kernel
theorem dX7_classOf_28 : decode cX7_classOf 28 = .ok (.if_icmp .ge 37, 3) := by decide +kernel
theorem dX7_classOf_31 : decode cX7_classOf 31 = .ok (.iload_n 3, 1) := by decide +kernel
theorem dX7_classOf_32 : decode cX7_classOf 32 = .ok (.aload_n 0, 1) := by decide +kernel
theorem dX7_classOf_33 : decode cX7_classOf 33 = .ok (.getfield 7, 3) := by decide +kernel
theorem dX7_classOf_36 : decode cX7_classOf 36 = .ok (.iload_n 2, 1) := by decide +kernel
theorem dX7_classOf_37 : decode cX7_classOf 37 = .ok (.iconst 3, 1) := by decide +kernel
theorem dX7_classOf_38 : decode cX7_classOf 38 = .ok (.iadd, 1) := by decide +kernel
theorem dX7_classOf_39 : decode cX7_classOf 39 = .ok (.iload 4, 2) := by decide +kernel
theorem dX7_classOf_41 : decode cX7_classOf 41 = .ok (.iadd, 1) := by decide +kernel
theorem dX7_classOf_42 : decode cX7_classOf 42 = .ok (.iaload, 1) := by decide +kernel
theorem dX7_classOf_43 : decode cX7_classOf 43 = .ok (.aload_n 0, 1) := by decide +kernel
theorem dX7_classOf_44 : decode cX7_classOf 44 = .ok (.iload_n 1, 1) := by decide +kernel
theorem dX7_classOf_45 : decode cX7_classOf 45 = .ok (.iconst 3, 1) := by decide +kernel
theorem dX7_classOf_46 : decode cX7_classOf 46 = .ok (.invokevirtual 72, 3) := by decide +kernel
theorem dX7_classOf_49 : decode cX7_classOf 49 = .ok (.if_icmp .gt 7, 3) := by decide +kernel
theorem dX7_classOf_52 : decode cX7_classOf 52 = .ok (.iconst 1, 1) := by decide +kernel
theorem dX7_classOf_53 : decode cX7_classOf 53 = .ok (.goto 4, 3) := by decide +kernel
theorem dX7_classOf_56 : decode cX7_classOf 56 = .ok (.iconst 0, 1) := by decide +kernel
theorem dX7_classOf_57 : decode cX7_classOf 57 = .ok (.iadd, 1) := by decide +kernel
theorem dX7_classOf_58 : decode cX7_classOf 58 = .ok (.istore_n 3, 1) := by decide +kernel
theorem dX7_classOf_59 : decode cX7_classOf 59 = .ok (.iinc 4 1, 3) := by decide +kernel
theorem dX7_classOf_62 : decode cX7_classOf 62 = .ok (.goto (-44), 3) := by decide +kernel
theorem dX7_classOf_65 : decode cX7_classOf 65 = .ok (.iload_n 3, 1) := by decide +kernel
theorem dX7_classOf_66 : decode cX7_classOf 66 = .ok (.ireturn, 1) := by decide +kernel
theorem dX7_isWithin_0 : decode cX7_isWithin 0 = .ok (.aload_n 0, 1) := by decide +kernel
theorem dX7_isWithin_1 : decode cX7_isWithin 1 = .ok (.iload_n 1, 1) := by decide +kernel
theorem dX7_isWithin_2 : decode cX7_isWithin 2 = .ok (.iconst 1, 1) := by decide +kernel
theorem dX7_isWithin_3 : decode cX7_isWithin 3 = .ok (.invokevirtual 72, 3) := by decide +kernel
theorem dX7_isWithin_6 : decode cX7_isWithin 6 = .ok (.aload_n 0, 1) := by decide +kernel
theorem dX7_isWithin_7 : decode cX7_isWithin 7 = .ok (.getfield 7, 3) := by decide +kernel
theorem dX7_isWithin_10 : decode cX7_isWithin 10 = .ok (.iconst 4, 1) := by decide +kernel
theorem dX7_isWithin_11 : decode cX7_isWithin 11 = .ok (.iaload, 1) := by decide +kernel
theorem dX7_isWithin_12 : decode cX7_isWithin 12 = .ok (.isub, 1) := by decide +kernel
theorem dX7_isWithin_13 : decode cX7_isWithin 13 = .ok (.iconst 0, 1) := by decide +kernel
theorem dX7_isWithin_14 : decode cX7_isWithin 14 = .ok (.aload_n 0, 1) := by decide +kernel
theorem dX7_isWithin_15 : decode cX7_isWithin 15 = .ok (.getfield 7, 3) := by decide +kernel
theorem dX7_isWithin_18 : decode cX7_isWithin 18 = .ok (.bipush 6, 2) := by decide +kernel
theorem dX7_isWithin_20 : decode cX7_isWithin 20 = .ok (.iaload, 1) := by decide +kernel
theorem dX7_isWithin_21 : decode cX7_isWithin 21 = .ok (.iconst 1, 1) := by decide +kernel
theorem dX7_isWithin_22 : decode cX7_isWithin 22 = .ok (.isub, 1) := by decide +kernel
theorem dX7_isWithin_23 : decode cX7_isWithin 23 = .ok (.invokestatic 68, 3) := by decide +kernel
theorem dX7_isWithin_26 : decode cX7_isWithin 26 = .ok (.ifCond .eq 36, 3) := by decide +kernel
theorem dX7_isWithin_29 : decode cX7_isWithin 29 = .ok (.aload_n 0, 1) := by decide +kernel
theorem dX7_isWithin_30 : decode cX7_isWithin 30 = .ok (.iload_n 1, 1) := by decide +kernel
theorem dX7_isWithin_31 : decode cX7_isWithin 31 = .ok (.iconst 2, 1) := by decide +kernel
theorem dX7_isWithin_32 : decode cX7_isWithin 32 = .ok (.invokevirtual 72, 3) := by decide +kernel
theorem dX7_isWithin_35 : decode cX7_isWithin 35 = .ok (.aload_n 0, 1) := by decide +kernel
theorem dX7_isWithin_36 : decode cX7_isWithin 36 = .ok (.getfield 7, 3) := by decide +kernel
theorem dX7_isWithin_39 : decode cX7_isWithin 39 = .ok (.iconst 5, 1) := by decide +kernel
theorem dX7_isWithin_40 : decode cX7_isWithin 40 = .ok (.iaload, 1) := by decide +kernel
theorem dX7_isWithin_41 : decode cX7_isWithin 41 = .ok (.isub, 1) := by decide +kernel
theorem dX7_isWithin_42 : decode cX7_isWithin 42 = .ok (.iconst 0, 1) := by decide +kernel
theorem dX7_isWithin_43 : decode cX7_isWithin 43 = .ok (.aload_n 0, 1) := by decide +kernel
theorem dX7_isWithin_44 : decode cX7_isWithin 44 = .ok (.getfield 7, 3) := by decide +kernel
theorem dX7_isWithin_47 : decode cX7_isWithin 47 = .ok (.bipush 7, 2) := by decide +kernel
theorem dX7_isWithin_49 : decode cX7_isWithin 49 = .ok (.iaload, 1) := by decide +kernel
theorem dX7_isWithin_50 : decode cX7_isWithin 50 = .ok (.iconst 1, 1) := by decide +kernel
theorem dX7_isWithin_51 : decode cX7_isWithin 51 = .ok (.isub, 1) := by decide +kernel
theorem dX7_isWithin_52 : decode cX7_isWithin 52 = .ok (.invokestatic 68, 3) := by decide +kernel
theorem dX7_isWithin_55 : decode cX7_isWithin 55 = .ok (.ifCond .eq 7, 3) := by decide +kernel
theorem dX7_isWithin_58 : decode cX7_isWithin 58 = .ok (.iconst 1, 1) := by decide +kernel
theorem dX7_isWithin_59 : decode cX7_isWithin 59 = .ok (.goto 4, 3) := by decide +kernel
theorem dX7_isWithin_62 : decode cX7_isWithin 62 = .ok (.iconst 0, 1) := by decide +kernel
theorem dX7_isWithin_63 : decode cX7_isWithin 63 = .ok (.ireturn, 1) := by decide +kernel
theorem dX7_isShown_0 : decode cX7_isShown 0 = .ok (.aload_n 0, 1) := by decide +kernel
theorem dX7_isShown_1 : decode cX7_isShown 1 = .ok (.iload_n 1, 1) := by decide +kernel
theorem dX7_isShown_2 : decode cX7_isShown 2 = .ok (.iconst 4, 1) := by decide +kernel
theorem dX7_isShown_3 : decode cX7_isShown 3 = .ok (.invokevirtual 72, 3) := by decide +kernel
theorem dX7_isShown_6 : decode cX7_isShown 6 = .ok (.aload_n 0, 1) := by decide +kernel
theorem dX7_isShown_7 : decode cX7_isShown 7 = .ok (.getfield 7, 3) := by decide +kernel
theorem dX7_isShown_10 : decode cX7_isShown 10 = .ok (.bipush 8, 2) := by decide +kernel
theorem dX7_isShown_12 : decode cX7_isShown 12 = .ok (.iaload, 1) := by decide +kernel
theorem dX7_isShown_13 : decode cX7_isShown 13 = .ok (.if_icmp .gt 15, 3) := by decide +kernel
theorem dX7_isShown_16 : decode cX7_isShown 16 = .ok (.aload_n 0, 1) := by decide +kernel
theorem dX7_isShown_17 : decode cX7_isShown 17 = .ok (.iload_n 1, 1) := by decide +kernel
theorem dX7_isShown_18 : decode cX7_isShown 18 = .ok (.invokevirtual 76, 3) := by decide +kernel
theorem dX7_isShown_21 : decode cX7_isShown 21 = .ok (.ifCond .eq 7, 3) := by decide +kernel
theorem dX7_isShown_24 : decode cX7_isShown 24 = .ok (.iconst 1, 1) := by decide +kernel
theorem dX7_isShown_25 : decode cX7_isShown 25 = .ok (.goto 4, 3) := by decide +kernel
theorem dX7_isShown_28 : decode cX7_isShown 28 = .ok (.iconst 0, 1) := by decide +kernel
theorem dX7_isShown_29 : decode cX7_isShown 29 = .ok (.ireturn, 1) := by decide +kernel
theorem dX7_shownMany_0 : decode cX7_shownMany 0 = .ok (.iconst 0, 1) := by decide +kernel
theorem dX7_shownMany_1 : decode cX7_shownMany 1 = .ok (.istore_n 1, 1) := by decide +kernel
theorem dX7_shownMany_2 : decode cX7_shownMany 2 = .ok (.iconst 0, 1) := by decide +kernel
theorem dX7_shownMany_3 : decode cX7_shownMany 3 = .ok (.istore_n 2, 1) := by decide +kernel
theorem dX7_shownMany_4 : decode cX7_shownMany 4 = .ok (.iload_n 2, 1) := by decide +kernel
theorem dX7_shownMany_5 : decode cX7_shownMany 5 = .ok (.aload_n 0, 1) := by decide +kernel
theorem dX7_shownMany_6 : decode cX7_shownMany 6 = .ok (.getfield 7, 3) := by decide +kernel
theorem dX7_shownMany_9 : decode cX7_shownMany 9 = .ok (.bipush 9, 2) := by decide +kernel
theorem dX7_shownMany_11 : decode cX7_shownMany 11 = .ok (.iaload, 1) := by decide +kernel
theorem dX7_shownMany_12 : decode cX7_shownMany 12 = .ok (.if_icmp .ge 25, 3) := by decide +kernel
theorem dX7_shownMany_15 : decode cX7_shownMany 15 = .ok (.iload_n 1, 1) := by decide +kernel
theorem dX7_shownMany_16 : decode cX7_shownMany 16 = .ok (.aload_n 0, 1) := by decide +kernel
theorem dX7_shownMany_17 : decode cX7_shownMany 17 = .ok (.iload_n 2, 1) := by decide +kernel
theorem dX7_shownMany_18 : decode cX7_shownMany 18 = .ok (.invokevirtual 80, 3) := by decide +kernel
theorem dX7_shownMany_21 : decode cX7_shownMany 21 = .ok (.ifCond .eq 7, 3) := by decide +kernel
theorem dX7_shownMany_24 : decode cX7_shownMany 24 = .ok (.iconst 1, 1) := by decide +kernel
theorem dX7_shownMany_25 : decode cX7_shownMany 25 = .ok (.goto 4, 3) := by decide +kernel
theorem dX7_shownMany_28 : decode cX7_shownMany 28 = .ok (.iconst 0, 1) := by decide +kernel
theorem dX7_shownMany_29 : decode cX7_shownMany 29 = .ok (.iadd, 1) := by decide +kernel
theorem dX7_shownMany_30 : decode cX7_shownMany 30 = .ok (.istore_n 1, 1) := by decide +kernel
theorem dX7_shownMany_31 : decode cX7_shownMany 31 = .ok (.iinc 2 1, 3) := by decide +kernel
theorem dX7_shownMany_34 : decode cX7_shownMany 34 = .ok (.goto (-30), 3) := by decide +kernel
theorem dX7_shownMany_37 : decode cX7_shownMany 37 = .ok (.iload_n 1, 1) := by decide +kernel
theorem dX7_shownMany_38 : decode cX7_shownMany 38 = .ok (.ireturn, 1) := by decide +kernel
theorem dX7_isInSight_0 : decode cX7_isInSight 0 = .ok (.iconst 0, 1) := by decide +kernel
theorem dX7_isInSight_1 : decode cX7_isInSight 1 = .ok (.istore_n 2, 1) := by decide +kernel
theorem dX7_isInSight_2 : decode cX7_isInSight 2 = .ok (.iconst 0, 1) := by decide +kernel
theorem dX7_isInSight_3 : decode cX7_isInSight 3 = .ok (.istore_n 3, 1) := by decide +kernel
theorem dX7_isInSight_4 : decode cX7_isInSight 4 = .ok (.iload_n 3, 1) := by decide +kernel
theorem dX7_isInSight_5 : decode cX7_isInSight 5 = .ok (.aload_n 0, 1) := by decide +kernel
theorem dX7_isInSight_6 : decode cX7_isInSight 6 = .ok (.getfield 7, 3) := by decide +kernel
theorem dX7_isInSight_9 : decode cX7_isInSight 9 = .ok (.bipush 9, 2) := by decide +kernel
theorem dX7_isInSight_11 : decode cX7_isInSight 11 = .ok (.iaload, 1) := by decide +kernel
theorem dX7_isInSight_12 : decode cX7_isInSight 12 = .ok (.if_icmp .ge 38, 3) := by decide +kernel
theorem dX7_isInSight_15 : decode cX7_isInSight 15 = .ok (.iload_n 2, 1) := by decide +kernel
theorem dX7_isInSight_16 : decode cX7_isInSight 16 = .ok (.ifCond .ne 22, 3) := by decide +kernel
theorem dX7_isInSight_19 : decode cX7_isInSight 19 = .ok (.aload_n 0, 1) := by decide +kernel
theorem dX7_isInSight_20 : decode cX7_isInSight 20 = .ok (.getfield 25, 3) := by decide +kernel
theorem dX7_isInSight_23 : decode cX7_isInSight 23 = .ok (.iload_n 3, 1) := by decide +kernel
theorem dX7_isInSight_24 : decode cX7_isInSight 24 = .ok (.baload, 1) := by decide +kernel
theorem dX7_isInSight_25 : decode cX7_isInSight 25 = .ok (.ifCond .eq 17, 3) := by decide +kernel
theorem dX7_isInSight_28 : decode cX7_isInSight 28 = .ok (.aload_n 0, 1) := by decide +kernel
theorem dX7_isInSight_29 : decode cX7_isInSight 29 = .ok (.iload_n 3, 1) := by decide +kernel
theorem dX7_isInSight_30 : decode cX7_isInSight 30 = .ok (.iconst 0, 1) := by decide +kernel
theorem dX7_isInSight_31 : decode cX7_isInSight 31 = .ok (.invokevirtual 72, 3) := by decide +kernel
theorem dX7_isInSight_34 : decode cX7_isInSight 34 = .ok (.iload_n 1, 1) := by decide +kernel
theorem dX7_isInSight_35 : decode cX7_isInSight 35 = .ok (.if_icmp .ne 7, 3) := by decide +kernel
theorem dX7_isInSight_38 : decode cX7_isInSight 38 = .ok (.iconst 1, 1) := by decide +kernel
theorem dX7_isInSight_39 : decode cX7_isInSight 39 = .ok (.goto 4, 3) := by decide +kernel
theorem dX7_isInSight_42 : decode cX7_isInSight 42 = .ok (.iconst 0, 1) := by decide +kernel
theorem dX7_isInSight_43 : decode cX7_isInSight 43 = .ok (.istore_n 2, 1) := by decide +kernel
theorem dX7_isInSight_44 : decode cX7_isInSight 44 = .ok (.iinc 3 1, 3) := by decide +kernel
theorem dX7_isInSight_47 : decode cX7_isInSight 47 = .ok (.goto (-43), 3) := by decide +kernel
theorem dX7_isInSight_50 : decode cX7_isInSight 50 = .ok (.iload_n 2, 1) := by decide +kernel
theorem dX7_isInSight_51 : decode cX7_isInSight 51 = .ok (.ireturn, 1) := by decide +kernel
theorem dX7_adds_0 : decode cX7_adds 0 = .ok (.aload_n 0, 1) := by decide +kernel
theorem dX7_adds_1 : decode cX7_adds 1 = .ok (.getfield 29, 3) := by decide +kernel
theorem dX7_adds_4 : decode cX7_adds 4 = .ok (.iconst 5, 1) := by decide +kernel
theorem dX7_adds_5 : decode cX7_adds 5 = .ok (.aload_n 0, 1) := by decide +kernel
theorem dX7_adds_6 : decode cX7_adds 6 = .ok (.getfield 83, 3) := by decide +kernel
theorem dX7_adds_9 : decode cX7_adds 9 = .ok (.imul, 1) := by decide +kernel
theorem dX7_adds_10 : decode cX7_adds 10 = .ok (.iload_n 1, 1) := by decide +kernel
theorem dX7_adds_11 : decode cX7_adds 11 = .ok (.iastore, 1) := by decide +kernel
theorem dX7_adds_12 : decode cX7_adds 12 = .ok (.aload_n 0, 1) := by decide +kernel
theorem dX7_adds_13 : decode cX7_adds 13 = .ok (.getfield 29, 3) := by decide +kernel
theorem dX7_adds_16 : decode cX7_adds 16 = .ok (.iconst 5, 1) := by decide +kernel
theorem dX7_adds_17 : decode cX7_adds 17 = .ok (.aload_n 0, 1) := by decide +kernel
theorem dX7_adds_18 : decode cX7_adds 18 = .ok (.getfield 83, 3) := by decide +kernel
theorem dX7_adds_21 : decode cX7_adds 21 = .ok (.imul, 1) := by decide +kernel
theorem dX7_adds_22 : decode cX7_adds 22 = .ok (.iconst 1, 1) := by decide +kernel
theorem dX7_adds_23 : decode cX7_adds 23 = .ok (.iadd, 1) := by decide +kernel
theorem dX7_adds_24 : decode cX7_adds 24 = .ok (.iload_n 2, 1) := by decide +kernel
theorem dX7_adds_25 : decode cX7_adds 25 = .ok (.iastore, 1) := by decide +kernel
theorem dX7_adds_26 : decode cX7_adds 26 = .ok (.aload_n 0, 1) := by decide +kernel
theorem dX7_adds_27 : decode cX7_adds 27 = .ok (.getfield 29, 3) := by decide +kernel
theorem dX7_adds_30 : decode cX7_adds 30 = .ok (.iconst 5, 1) := by decide +kernel
theorem dX7_adds_31 : decode cX7_adds 31 = .ok (.aload_n 0, 1) := by decide +kernel
theorem dX7_adds_32 : decode cX7_adds 32 = .ok (.getfield 83, 3) := by decide +kernel
theorem dX7_adds_35 : decode cX7_adds 35 = .ok (.imul, 1) := by decide +kernel
theorem dX7_adds_36 : decode cX7_adds 36 = .ok (.iconst 2, 1) := by decide +kernel
theorem dX7_adds_37 : decode cX7_adds 37 = .ok (.iadd, 1) := by decide +kernel
theorem dX7_adds_38 : decode cX7_adds 38 = .ok (.iload_n 3, 1) := by decide +kernel
theorem dX7_adds_39 : decode cX7_adds 39 = .ok (.iastore, 1) := by decide +kernel
theorem dX7_adds_40 : decode cX7_adds 40 = .ok (.aload_n 0, 1) := by decide +kernel
theorem dX7_adds_41 : decode cX7_adds 41 = .ok (.getfield 29, 3) := by decide +kernel
theorem dX7_adds_44 : decode cX7_adds 44 = .ok (.iconst 5, 1) := by decide +kernel
theorem dX7_adds_45 : decode cX7_adds 45 = .ok (.aload_n 0, 1) := by decide +kernel
theorem dX7_adds_46 : decode cX7_adds 46 = .ok (.getfield 83, 3) := by decide +kernel
theorem dX7_adds_49 : decode cX7_adds 49 = .ok (.imul, 1) := by decide +kernel
theorem dX7_adds_50 : decode cX7_adds 50 = .ok (.iconst 3, 1) := by decide +kernel
theorem dX7_adds_51 : decode cX7_adds 51 = .ok (.iadd, 1) := by decide +kernel
theorem dX7_adds_52 : decode cX7_adds 52 = .ok (.iload 4, 2) := by decide +kernel
theorem dX7_adds_54 : decode cX7_adds 54 = .ok (.iastore, 1) := by decide +kernel
theorem dX7_adds_55 : decode cX7_adds 55 = .ok (.aload_n 0, 1) := by decide +kernel
theorem dX7_adds_56 : decode cX7_adds 56 = .ok (.getfield 29, 3) := by decide +kernel
theorem dX7_adds_59 : decode cX7_adds 59 = .ok (.iconst 5, 1) := by decide +kernel
theorem dX7_adds_60 : decode cX7_adds 60 = .ok (.aload_n 0, 1) := by decide +kernel
theorem dX7_adds_61 : decode cX7_adds 61 = .ok (.getfield 83, 3) := by decide +kernel
theorem dX7_adds_64 : decode cX7_adds 64 = .ok (.imul, 1) := by decide +kernel
theorem dX7_adds_65 : decode cX7_adds 65 = .ok (.iconst 4, 1) := by decide +kernel
theorem dX7_adds_66 : decode cX7_adds 66 = .ok (.iadd, 1) := by decide +kernel
theorem dX7_adds_67 : decode cX7_adds 67 = .ok (.iload 5, 2) := by decide +kernel
theorem dX7_adds_69 : decode cX7_adds 69 = .ok (.iastore, 1) := by decide +kernel
theorem dX7_adds_70 : decode cX7_adds 70 = .ok (.aload_n 0, 1) := by decide +kernel
theorem dX7_adds_71 : decode cX7_adds 71 = .ok (.dup, 1) := by decide +kernel
theorem dX7_adds_72 : decode cX7_adds 72 = .ok (.getfield 83, 3) := by decide +kernel
theorem dX7_adds_75 : decode cX7_adds 75 = .ok (.iconst 1, 1) := by decide +kernel
theorem dX7_adds_76 : decode cX7_adds 76 = .ok (.iadd, 1) := by decide +kernel
theorem dX7_adds_77 : decode cX7_adds 77 = .ok (.putfield 83, 3) := by decide +kernel
theorem dX7_adds_80 : decode cX7_adds 80 = .ok (.return_, 1) := by decide +kernel
theorem dX7_signsOf_0 : decode cX7_signsOf 0 = .ok (.iconst 0, 1) := by decide +kernel
theorem dX7_signsOf_1 : decode cX7_signsOf 1 = .ok (.istore 4, 2) := by decide +kernel
theorem dX7_signsOf_3 : decode cX7_signsOf 3 = .ok (.iconst 0, 1) := by decide +kernel
theorem dX7_signsOf_4 : decode cX7_signsOf 4 = .ok (.istore 5, 2) := by decide +kernel
theorem dX7_signsOf_6 : decode cX7_signsOf 6 = .ok (.iload 5, 2) := by decide +kernel
theorem dX7_signsOf_8 : decode cX7_signsOf 8 = .ok (.aload_n 0, 1) := by decide +kernel
theorem dX7_signsOf_9 : decode cX7_signsOf 9 = .ok (.getfield 7, 3) := by decide +kernel
theorem dX7_signsOf_12 : decode cX7_signsOf 12 = .ok (.bipush 9, 2) := by decide +kernel
theorem dX7_signsOf_14 : decode cX7_signsOf 14 = .ok (.iaload, 1) := by decide +kernel
theorem dX7_signsOf_15 : decode cX7_signsOf 15 = .ok (.if_icmp .ge 54, 3) := by decide +kernel
theorem dX7_signsOf_18 : decode cX7_signsOf 18 = .ok (.iload 4, 2) := by decide +kernel
theorem dX7_signsOf_20 : decode cX7_signsOf 20 = .ok (.aload_n 0, 1) := by decide +kernel
theorem dX7_signsOf_21 : decode cX7_signsOf 21 = .ok (.getfield 25, 3) := by decide +kernel
theorem dX7_signsOf_24 : decode cX7_signsOf 24 = .ok (.iload 5, 2) := by decide +kernel
theorem dX7_signsOf_26 : decode cX7_signsOf 26 = .ok (.baload, 1) := by decide +kernel
theorem dX7_signsOf_27 : decode cX7_signsOf 27 = .ok (.ifCond .eq 32, 3) := by decide +kernel
theorem dX7_signsOf_30 : decode cX7_signsOf 30 = .ok (.aload_n 0, 1) := by decide +kernel
theorem dX7_signsOf_31 : decode cX7_signsOf 31 = .ok (.iload 5, 2) := by decide +kernel
theorem dX7_signsOf_33 : decode cX7_signsOf 33 = .ok (.iconst 0, 1) := by decide +kernel
theorem dX7_signsOf_34 : decode cX7_signsOf 34 = .ok (.invokevirtual 72, 3) := by decide +kernel
theorem dX7_signsOf_37 : decode cX7_signsOf 37 = .ok (.iload_n 1, 1) := by decide +kernel
theorem dX7_signsOf_38 : decode cX7_signsOf 38 = .ok (.if_icmp .ne 21, 3) := by decide +kernel
theorem dX7_signsOf_41 : decode cX7_signsOf 41 = .ok (.aload_n 0, 1) := by decide +kernel
theorem dX7_signsOf_42 : decode cX7_signsOf 42 = .ok (.iload 5, 2) := by decide +kernel
theorem dX7_signsOf_44 : decode cX7_signsOf 44 = .ok (.invokevirtual 86, 3) := by decide +kernel
theorem dX7_signsOf_47 : decode cX7_signsOf 47 = .ok (.iload_n 2, 1) := by decide +kernel
theorem dX7_signsOf_48 : decode cX7_signsOf 48 = .ok (.iload_n 3, 1) := by decide +kernel
theorem dX7_signsOf_49 : decode cX7_signsOf 49 = .ok (.invokestatic 68, 3) := by decide +kernel
theorem dX7_signsOf_52 : decode cX7_signsOf 52 = .ok (.ifCond .eq 7, 3) := by decide +kernel
theorem dX7_signsOf_55 : decode cX7_signsOf 55 = .ok (.iconst 1, 1) := by decide +kernel
theorem dX7_signsOf_56 : decode cX7_signsOf 56 = .ok (.goto 4, 3) := by decide +kernel
theorem dX7_signsOf_59 : decode cX7_signsOf 59 = .ok (.iconst 0, 1) := by decide +kernel
theorem dX7_signsOf_60 : decode cX7_signsOf 60 = .ok (.iadd, 1) := by decide +kernel
theorem dX7_signsOf_61 : decode cX7_signsOf 61 = .ok (.istore 4, 2) := by decide +kernel
theorem dX7_signsOf_63 : decode cX7_signsOf 63 = .ok (.iinc 5 1, 3) := by decide +kernel
theorem dX7_signsOf_66 : decode cX7_signsOf 66 = .ok (.goto (-60), 3) := by decide +kernel
theorem dX7_signsOf_69 : decode cX7_signsOf 69 = .ok (.iload 4, 2) := by decide +kernel
theorem dX7_signsOf_71 : decode cX7_signsOf 71 = .ok (.ireturn, 1) := by decide +kernel
theorem dX7_addsKind_0 : decode cX7_addsKind 0 = .ok (.iconst 0, 1) := by decide +kernel
theorem dX7_addsKind_1 : decode cX7_addsKind 1 = .ok (.istore_n 2, 1) := by decide +kernel
theorem dX7_addsKind_2 : decode cX7_addsKind 2 = .ok (.iconst 0, 1) := by decide +kernel
theorem dX7_addsKind_3 : decode cX7_addsKind 3 = .ok (.istore_n 3, 1) := by decide +kernel
theorem dX7_addsKind_4 : decode cX7_addsKind 4 = .ok (.iload_n 3, 1) := by decide +kernel
theorem dX7_addsKind_5 : decode cX7_addsKind 5 = .ok (.bipush 6, 2) := by decide +kernel
theorem dX7_addsKind_7 : decode cX7_addsKind 7 = .ok (.if_icmp .ge 48, 3) := by decide +kernel
theorem dX7_addsKind_10 : decode cX7_addsKind 10 = .ok (.aload_n 0, 1) := by decide +kernel
theorem dX7_addsKind_11 : decode cX7_addsKind 11 = .ok (.iload_n 1, 1) := by decide +kernel
theorem dX7_addsKind_12 : decode cX7_addsKind 12 = .ok (.iload_n 3, 1) := by decide +kernel
theorem dX7_addsKind_13 : decode cX7_addsKind 13 = .ok (.iload_n 3, 1) := by decide +kernel
theorem dX7_addsKind_14 : decode cX7_addsKind 14 = .ok (.invokevirtual 89, 3) := by decide +kernel
theorem dX7_addsKind_17 : decode cX7_addsKind 17 = .ok (.istore 4, 2) := by decide +kernel
theorem dX7_addsKind_19 : decode cX7_addsKind 19 = .ok (.iload 4, 2) := by decide +kernel
theorem dX7_addsKind_21 : decode cX7_addsKind 21 = .ok (.ifCond .le 28, 3) := by decide +kernel
theorem dX7_addsKind_24 : decode cX7_addsKind 24 = .ok (.aload_n 0, 1) := by decide +kernel
theorem dX7_addsKind_25 : decode cX7_addsKind 25 = .ok (.getfield 41, 3) := by decide +kernel
theorem dX7_addsKind_28 : decode cX7_addsKind 28 = .ok (.iload_n 2, 1) := by decide +kernel
theorem dX7_addsKind_29 : decode cX7_addsKind 29 = .ok (.iload_n 3, 1) := by decide +kernel
theorem dX7_addsKind_30 : decode cX7_addsKind 30 = .ok (.iastore, 1) := by decide +kernel
theorem dX7_addsKind_31 : decode cX7_addsKind 31 = .ok (.aload_n 0, 1) := by decide +kernel
theorem dX7_addsKind_32 : decode cX7_addsKind 32 = .ok (.getfield 44, 3) := by decide +kernel
theorem dX7_addsKind_35 : decode cX7_addsKind 35 = .ok (.iload_n 2, 1) := by decide +kernel
theorem dX7_addsKind_36 : decode cX7_addsKind 36 = .ok (.iload_n 3, 1) := by decide +kernel
theorem dX7_addsKind_37 : decode cX7_addsKind 37 = .ok (.iastore, 1) := by decide +kernel
theorem dX7_addsKind_38 : decode cX7_addsKind 38 = .ok (.aload_n 0, 1) := by decide +kernel
theorem dX7_addsKind_39 : decode cX7_addsKind 39 = .ok (.getfield 47, 3) := by decide +kernel
theorem dX7_addsKind_42 : decode cX7_addsKind 42 = .ok (.iload_n 2, 1) := by decide +kernel
theorem dX7_addsKind_43 : decode cX7_addsKind 43 = .ok (.iload 4, 2) := by decide +kernel
theorem dX7_addsKind_45 : decode cX7_addsKind 45 = .ok (.iastore, 1) := by decide +kernel
theorem dX7_addsKind_46 : decode cX7_addsKind 46 = .ok (.iinc 2 1, 3) := by decide +kernel
theorem dX7_addsKind_49 : decode cX7_addsKind 49 = .ok (.iinc 3 1, 3) := by decide +kernel
theorem dX7_addsKind_52 : decode cX7_addsKind 52 = .ok (.goto (-48), 3) := by decide +kernel
theorem dX7_addsKind_55 : decode cX7_addsKind 55 = .ok (.iload_n 2, 1) := by decide +kernel
theorem dX7_addsKind_56 : decode cX7_addsKind 56 = .ok (.aload_n 0, 1) := by decide +kernel
theorem dX7_addsKind_57 : decode cX7_addsKind 57 = .ok (.getfield 7, 3) := by decide +kernel
theorem dX7_addsKind_60 : decode cX7_addsKind 60 = .ok (.iconst 0, 1) := by decide +kernel
theorem dX7_addsKind_61 : decode cX7_addsKind 61 = .ok (.iaload, 1) := by decide +kernel
theorem dX7_addsKind_62 : decode cX7_addsKind 62 = .ok (.if_icmp .le 166, 3) := by decide +kernel
theorem dX7_addsKind_65 : decode cX7_addsKind 65 = .ok (.iconst 0, 1) := by decide +kernel
theorem dX7_addsKind_66 : decode cX7_addsKind 66 = .ok (.istore_n 3, 1) := by decide +kernel
theorem dX7_addsKind_67 : decode cX7_addsKind 67 = .ok (.iconst 1, 1) := by decide +kernel
theorem dX7_addsKind_68 : decode cX7_addsKind 68 = .ok (.istore 4, 2) := by decide +kernel
theorem dX7_addsKind_70 : decode cX7_addsKind 70 = .ok (.iload 4, 2) := by decide +kernel
theorem dX7_addsKind_72 : decode cX7_addsKind 72 = .ok (.iconst 1, 1) := by decide +kernel
theorem dX7_addsKind_73 : decode cX7_addsKind 73 = .ok (.iadd, 1) := by decide +kernel
theorem dX7_addsKind_74 : decode cX7_addsKind 74 = .ok (.iload_n 2, 1) := by decide +kernel
theorem dX7_addsKind_75 : decode cX7_addsKind 75 = .ok (.if_icmp .ge 51, 3) := by decide +kernel
theorem dX7_addsKind_78 : decode cX7_addsKind 78 = .ok (.aload_n 0, 1) := by decide +kernel
theorem dX7_addsKind_79 : decode cX7_addsKind 79 = .ok (.getfield 47, 3) := by decide +kernel
theorem dX7_addsKind_82 : decode cX7_addsKind 82 = .ok (.iload 4, 2) := by decide +kernel
theorem dX7_addsKind_84 : decode cX7_addsKind 84 = .ok (.iaload, 1) := by decide +kernel
theorem dX7_addsKind_85 : decode cX7_addsKind 85 = .ok (.aload_n 0, 1) := by decide +kernel
theorem dX7_addsKind_86 : decode cX7_addsKind 86 = .ok (.getfield 47, 3) := by decide +kernel
theorem dX7_addsKind_89 : decode cX7_addsKind 89 = .ok (.iload 4, 2) := by decide +kernel
theorem dX7_addsKind_91 : decode cX7_addsKind 91 = .ok (.iconst 1, 1) := by decide +kernel
theorem dX7_addsKind_92 : decode cX7_addsKind 92 = .ok (.iadd, 1) := by decide +kernel
theorem dX7_addsKind_93 : decode cX7_addsKind 93 = .ok (.iaload, 1) := by decide +kernel
theorem dX7_addsKind_94 : decode cX7_addsKind 94 = .ok (.iadd, 1) := by decide +kernel
theorem dX7_addsKind_95 : decode cX7_addsKind 95 = .ok (.aload_n 0, 1) := by decide +kernel
theorem dX7_addsKind_96 : decode cX7_addsKind 96 = .ok (.getfield 47, 3) := by decide +kernel
theorem dX7_addsKind_99 : decode cX7_addsKind 99 = .ok (.iload_n 3, 1) := by decide +kernel
theorem dX7_addsKind_100 : decode cX7_addsKind 100 = .ok (.iaload, 1) := by decide +kernel
theorem dX7_addsKind_101 : decode cX7_addsKind 101 = .ok (.aload_n 0, 1) := by decide +kernel
theorem dX7_addsKind_102 : decode cX7_addsKind 102 = .ok (.getfield 47, 3) := by decide +kernel
theorem dX7_addsKind_105 : decode cX7_addsKind 105 = .ok (.iload_n 3, 1) := by decide +kernel
theorem dX7_addsKind_106 : decode cX7_addsKind 106 = .ok (.iconst 1, 1) := by decide +kernel
theorem dX7_addsKind_107 : decode cX7_addsKind 107 = .ok (.iadd, 1) := by decide +kernel
theorem dX7_addsKind_108 : decode cX7_addsKind 108 = .ok (.iaload, 1) := by decide +kernel
theorem dX7_addsKind_109 : decode cX7_addsKind 109 = .ok (.iadd, 1) := by decide +kernel
theorem dX7_addsKind_110 : decode cX7_addsKind 110 = .ok (.if_icmp .ge 8, 3) := by decide +kernel
theorem dX7_addsKind_113 : decode cX7_addsKind 113 = .ok (.iload 4, 2) := by decide +kernel
theorem dX7_addsKind_115 : decode cX7_addsKind 115 = .ok (.goto 4, 3) := by decide +kernel
theorem dX7_addsKind_118 : decode cX7_addsKind 118 = .ok (.iload_n 3, 1) := by decide +kernel
theorem dX7_addsKind_119 : decode cX7_addsKind 119 = .ok (.istore_n 3, 1) := by decide +kernel
theorem dX7_addsKind_120 : decode cX7_addsKind 120 = .ok (.iinc 4 1, 3) := by decide +kernel
theorem dX7_addsKind_123 : decode cX7_addsKind 123 = .ok (.goto (-53), 3) := by decide +kernel
theorem dX7_addsKind_126 : decode cX7_addsKind 126 = .ok (.aload_n 0, 1) := by decide +kernel
theorem dX7_addsKind_127 : decode cX7_addsKind 127 = .ok (.getfield 44, 3) := by decide +kernel
theorem dX7_addsKind_130 : decode cX7_addsKind 130 = .ok (.iload_n 3, 1) := by decide +kernel
theorem dX7_addsKind_131 : decode cX7_addsKind 131 = .ok (.aload_n 0, 1) := by decide +kernel
theorem dX7_addsKind_132 : decode cX7_addsKind 132 = .ok (.getfield 44, 3) := by decide +kernel
theorem dX7_addsKind_135 : decode cX7_addsKind 135 = .ok (.iload_n 3, 1) := by decide +kernel
theorem dX7_addsKind_136 : decode cX7_addsKind 136 = .ok (.iconst 1, 1) := by decide +kernel
theorem dX7_addsKind_137 : decode cX7_addsKind 137 = .ok (.iadd, 1) := by decide +kernel
theorem dX7_addsKind_138 : decode cX7_addsKind 138 = .ok (.iaload, 1) := by decide +kernel
theorem dX7_addsKind_139 : decode cX7_addsKind 139 = .ok (.iastore, 1) := by decide +kernel
theorem dX7_addsKind_140 : decode cX7_addsKind 140 = .ok (.aload_n 0, 1) := by decide +kernel
theorem dX7_addsKind_141 : decode cX7_addsKind 141 = .ok (.getfield 47, 3) := by decide +kernel
theorem dX7_addsKind_144 : decode cX7_addsKind 144 = .ok (.iload_n 3, 1) := by decide +kernel
theorem dX7_addsKind_145 : decode cX7_addsKind 145 = .ok (.dup2, 1) := by decide +kernel
theorem dX7_addsKind_146 : decode cX7_addsKind 146 = .ok (.iaload, 1) := by decide +kernel
theorem dX7_addsKind_147 : decode cX7_addsKind 147 = .ok (.aload_n 0, 1) := by decide +kernel
theorem dX7_addsKind_148 : decode cX7_addsKind 148 = .ok (.getfield 47, 3) := by decide +kernel
theorem dX7_addsKind_151 : decode cX7_addsKind 151 = .ok (.iload_n 3, 1) := by decide +kernel
theorem dX7_addsKind_152 : decode cX7_addsKind 152 = .ok (.iconst 1, 1) := by decide +kernel
theorem dX7_addsKind_153 : decode cX7_addsKind 153 = .ok (.iadd, 1) := by decide +kernel
theorem dX7_addsKind_154 : decode cX7_addsKind 154 = .ok (.iaload, 1) := by decide +kernel
theorem dX7_addsKind_155 : decode cX7_addsKind 155 = .ok (.iadd, 1) := by decide +kernel
theorem dX7_addsKind_156 : decode cX7_addsKind 156 = .ok (.iastore, 1) := by decide +kernel
theorem dX7_addsKind_157 : decode cX7_addsKind 157 = .ok (.iinc 2 (-1), 3) := by decide +kernel
theorem dX7_addsKind_160 : decode cX7_addsKind 160 = .ok (.iload_n 3, 1) := by decide +kernel
theorem dX7_addsKind_161 : decode cX7_addsKind 161 = .ok (.iconst 1, 1) := by decide +kernel
theorem dX7_addsKind_162 : decode cX7_addsKind 162 = .ok (.iadd, 1) := by decide +kernel
theorem dX7_addsKind_163 : decode cX7_addsKind 163 = .ok (.istore 4, 2) := by decide +kernel
theorem dX7_addsKind_165 : decode cX7_addsKind 165 = .ok (.iload 4, 2) := by decide +kernel
theorem dX7_addsKind_167 : decode cX7_addsKind 167 = .ok (.iload_n 2, 1) := by decide +kernel
theorem dX7_addsKind_168 : decode cX7_addsKind 168 = .ok (.if_icmp .ge 57, 3) := by decide +kernel
theorem dX7_addsKind_171 : decode cX7_addsKind 171 = .ok (.aload_n 0, 1) := by decide +kernel
theorem dX7_addsKind_172 : decode cX7_addsKind 172 = .ok (.getfield 41, 3) := by decide +kernel
theorem dX7_addsKind_175 : decode cX7_addsKind 175 = .ok (.iload 4, 2) := by decide +kernel
theorem dX7_addsKind_177 : decode cX7_addsKind 177 = .ok (.aload_n 0, 1) := by decide +kernel
theorem dX7_addsKind_178 : decode cX7_addsKind 178 = .ok (.getfield 41, 3) := by decide +kernel
theorem dX7_addsKind_181 : decode cX7_addsKind 181 = .ok (.iload 4, 2) := by decide +kernel
theorem dX7_addsKind_183 : decode cX7_addsKind 183 = .ok (.iconst 1, 1) := by decide +kernel
theorem dX7_addsKind_184 : decode cX7_addsKind 184 = .ok (.iadd, 1) := by decide +kernel
theorem dX7_addsKind_185 : decode cX7_addsKind 185 = .ok (.iaload, 1) := by decide +kernel
theorem dX7_addsKind_186 : decode cX7_addsKind 186 = .ok (.iastore, 1) := by decide +kernel
theorem dX7_addsKind_187 : decode cX7_addsKind 187 = .ok (.aload_n 0, 1) := by decide +kernel
theorem dX7_addsKind_188 : decode cX7_addsKind 188 = .ok (.getfield 44, 3) := by decide +kernel
theorem dX7_addsKind_191 : decode cX7_addsKind 191 = .ok (.iload 4, 2) := by decide +kernel
theorem dX7_addsKind_193 : decode cX7_addsKind 193 = .ok (.aload_n 0, 1) := by decide +kernel
theorem dX7_addsKind_194 : decode cX7_addsKind 194 = .ok (.getfield 44, 3) := by decide +kernel
theorem dX7_addsKind_197 : decode cX7_addsKind 197 = .ok (.iload 4, 2) := by decide +kernel
theorem dX7_addsKind_199 : decode cX7_addsKind 199 = .ok (.iconst 1, 1) := by decide +kernel
theorem dX7_addsKind_200 : decode cX7_addsKind 200 = .ok (.iadd, 1) := by decide +kernel
theorem dX7_addsKind_201 : decode cX7_addsKind 201 = .ok (.iaload, 1) := by decide +kernel
theorem dX7_addsKind_202 : decode cX7_addsKind 202 = .ok (.iastore, 1) := by decide +kernel
theorem dX7_addsKind_203 : decode cX7_addsKind 203 = .ok (.aload_n 0, 1) := by decide +kernel
theorem dX7_addsKind_204 : decode cX7_addsKind 204 = .ok (.getfield 47, 3) := by decide +kernel
theorem dX7_addsKind_207 : decode cX7_addsKind 207 = .ok (.iload 4, 2) := by decide +kernel
theorem dX7_addsKind_209 : decode cX7_addsKind 209 = .ok (.aload_n 0, 1) := by decide +kernel
theorem dX7_addsKind_210 : decode cX7_addsKind 210 = .ok (.getfield 47, 3) := by decide +kernel
theorem dX7_addsKind_213 : decode cX7_addsKind 213 = .ok (.iload 4, 2) := by decide +kernel
theorem dX7_addsKind_215 : decode cX7_addsKind 215 = .ok (.iconst 1, 1) := by decide +kernel
theorem dX7_addsKind_216 : decode cX7_addsKind 216 = .ok (.iadd, 1) := by decide +kernel
theorem dX7_addsKind_217 : decode cX7_addsKind 217 = .ok (.iaload, 1) := by decide +kernel
theorem dX7_addsKind_218 : decode cX7_addsKind 218 = .ok (.iastore, 1) := by decide +kernel
theorem dX7_addsKind_219 : decode cX7_addsKind 219 = .ok (.iinc 4 1, 3) := by decide +kernel
theorem dX7_addsKind_222 : decode cX7_addsKind 222 = .ok (.goto (-57), 3) := by decide +kernel
theorem dX7_addsKind_225 : decode cX7_addsKind 225 = .ok (.goto (-170), 3) := by decide +kernel
theorem dX7_addsKind_228 : decode cX7_addsKind 228 = .ok (.iconst 0, 1) := by decide +kernel
theorem dX7_addsKind_229 : decode cX7_addsKind 229 = .ok (.istore_n 3, 1) := by decide +kernel
theorem dX7_addsKind_230 : decode cX7_addsKind 230 = .ok (.iload_n 3, 1) := by decide +kernel
theorem dX7_addsKind_231 : decode cX7_addsKind 231 = .ok (.iload_n 2, 1) := by decide +kernel
theorem dX7_addsKind_232 : decode cX7_addsKind 232 = .ok (.if_icmp .ge 32, 3) := by decide +kernel
theorem dX7_addsKind_235 : decode cX7_addsKind 235 = .ok (.aload_n 0, 1) := by decide +kernel
theorem dX7_addsKind_236 : decode cX7_addsKind 236 = .ok (.iconst 0, 1) := by decide +kernel
theorem dX7_addsKind_237 : decode cX7_addsKind 237 = .ok (.iload_n 1, 1) := by decide +kernel
theorem dX7_addsKind_238 : decode cX7_addsKind 238 = .ok (.aload_n 0, 1) := by decide +kernel
theorem dX7_addsKind_239 : decode cX7_addsKind 239 = .ok (.iload_n 1, 1) := by decide +kernel
theorem dX7_addsKind_240 : decode cX7_addsKind 240 = .ok (.invokevirtual 93, 3) := by decide +kernel
theorem dX7_addsKind_243 : decode cX7_addsKind 243 = .ok (.aload_n 0, 1) := by decide +kernel
theorem dX7_addsKind_244 : decode cX7_addsKind 244 = .ok (.getfield 41, 3) := by decide +kernel
theorem dX7_addsKind_247 : decode cX7_addsKind 247 = .ok (.iload_n 3, 1) := by decide +kernel
theorem dX7_addsKind_248 : decode cX7_addsKind 248 = .ok (.iaload, 1) := by decide +kernel
theorem dX7_addsKind_249 : decode cX7_addsKind 249 = .ok (.aload_n 0, 1) := by decide +kernel
theorem dX7_addsKind_250 : decode cX7_addsKind 250 = .ok (.getfield 44, 3) := by decide +kernel
theorem dX7_addsKind_253 : decode cX7_addsKind 253 = .ok (.iload_n 3, 1) := by decide +kernel
theorem dX7_addsKind_254 : decode cX7_addsKind 254 = .ok (.iaload, 1) := by decide +kernel
theorem dX7_addsKind_255 : decode cX7_addsKind 255 = .ok (.invokevirtual 96, 3) := by decide +kernel
theorem dX7_addsKind_258 : decode cX7_addsKind 258 = .ok (.iinc 3 1, 3) := by decide +kernel
theorem dX7_addsKind_261 : decode cX7_addsKind 261 = .ok (.goto (-31), 3) := by decide +kernel
theorem dX7_addsKind_264 : decode cX7_addsKind 264 = .ok (.return_, 1) := by decide +kernel
theorem dX7_lowest_0 : decode cX7_lowest 0 = .ok (.iconst (-1), 1) := by decide +kernel
theorem dX7_lowest_1 : decode cX7_lowest 1 = .ok (.istore_n 2, 1) := by decide +kernel
theorem dX7_lowest_2 : decode cX7_lowest 2 = .ok (.iconst 0, 1) := by decide +kernel
theorem dX7_lowest_3 : decode cX7_lowest 3 = .ok (.istore_n 3, 1) := by decide +kernel
theorem dX7_lowest_4 : decode cX7_lowest 4 = .ok (.iload_n 3, 1) := by decide +kernel
theorem dX7_lowest_5 : decode cX7_lowest 5 = .ok (.bipush 12, 2) := by decide +kernel
theorem dX7_lowest_7 : decode cX7_lowest 7 = .ok (.if_icmp .ge 68, 3) := by decide +kernel
theorem dX7_lowest_10 : decode cX7_lowest 10 = .ok (.aload_n 0, 1) := by decide +kernel
theorem dX7_lowest_11 : decode cX7_lowest 11 = .ok (.getfield 50, 3) := by decide +kernel
theorem dX7_lowest_14 : decode cX7_lowest 14 = .ok (.iload_n 3, 1) := by decide +kernel
theorem dX7_lowest_15 : decode cX7_lowest 15 = .ok (.baload, 1) := by decide +kernel
theorem dX7_lowest_16 : decode cX7_lowest 16 = .ok (.ifCond .eq 21, 3) := by decide +kernel
theorem dX7_lowest_19 : decode cX7_lowest 19 = .ok (.iload_n 1, 1) := by decide +kernel
theorem dX7_lowest_20 : decode cX7_lowest 20 = .ok (.iconst (-1), 1) := by decide +kernel
theorem dX7_lowest_21 : decode cX7_lowest 21 = .ok (.if_icmp .eq 12, 3) := by decide +kernel
theorem dX7_lowest_24 : decode cX7_lowest 24 = .ok (.aload_n 0, 1) := by decide +kernel
theorem dX7_lowest_25 : decode cX7_lowest 25 = .ok (.iload_n 3, 1) := by decide +kernel
theorem dX7_lowest_26 : decode cX7_lowest 26 = .ok (.invokevirtual 93, 3) := by decide +kernel
theorem dX7_lowest_29 : decode cX7_lowest 29 = .ok (.iload_n 1, 1) := by decide +kernel
theorem dX7_lowest_30 : decode cX7_lowest 30 = .ok (.if_icmp .ne 7, 3) := by decide +kernel
theorem dX7_lowest_33 : decode cX7_lowest 33 = .ok (.iconst 1, 1) := by decide +kernel
theorem dX7_lowest_34 : decode cX7_lowest 34 = .ok (.goto 4, 3) := by decide +kernel
theorem dX7_lowest_37 : decode cX7_lowest 37 = .ok (.iconst 0, 1) := by decide +kernel
theorem dX7_lowest_38 : decode cX7_lowest 38 = .ok (.istore 4, 2) := by decide +kernel
theorem dX7_lowest_40 : decode cX7_lowest 40 = .ok (.iload 4, 2) := by decide +kernel
theorem dX7_lowest_42 : decode cX7_lowest 42 = .ok (.ifCond .eq 25, 3) := by decide +kernel
theorem dX7_lowest_45 : decode cX7_lowest 45 = .ok (.iload_n 2, 1) := by decide +kernel
theorem dX7_lowest_46 : decode cX7_lowest 46 = .ok (.iconst (-1), 1) := by decide +kernel
theorem dX7_lowest_47 : decode cX7_lowest 47 = .ok (.if_icmp .eq 16, 3) := by decide +kernel
theorem dX7_lowest_50 : decode cX7_lowest 50 = .ok (.aload_n 0, 1) := by decide +kernel
theorem dX7_lowest_51 : decode cX7_lowest 51 = .ok (.iload_n 3, 1) := by decide +kernel
theorem dX7_lowest_52 : decode cX7_lowest 52 = .ok (.invokevirtual 100, 3) := by decide +kernel
theorem dX7_lowest_55 : decode cX7_lowest 55 = .ok (.aload_n 0, 1) := by decide +kernel
theorem dX7_lowest_56 : decode cX7_lowest 56 = .ok (.iload_n 2, 1) := by decide +kernel
theorem dX7_lowest_57 : decode cX7_lowest 57 = .ok (.invokevirtual 100, 3) := by decide +kernel
theorem dX7_lowest_60 : decode cX7_lowest 60 = .ok (.if_icmp .ge 7, 3) := by decide +kernel
theorem dX7_lowest_63 : decode cX7_lowest 63 = .ok (.iload_n 3, 1) := by decide +kernel
theorem dX7_lowest_64 : decode cX7_lowest 64 = .ok (.goto 4, 3) := by decide +kernel
theorem dX7_lowest_67 : decode cX7_lowest 67 = .ok (.iload_n 2, 1) := by decide +kernel
theorem dX7_lowest_68 : decode cX7_lowest 68 = .ok (.istore_n 2, 1) := by decide +kernel
theorem dX7_lowest_69 : decode cX7_lowest 69 = .ok (.iinc 3 1, 3) := by decide +kernel
theorem dX7_lowest_72 : decode cX7_lowest 72 = .ok (.goto (-68), 3) := by decide +kernel
theorem dX7_lowest_75 : decode cX7_lowest 75 = .ok (.iload_n 2, 1) := by decide +kernel
theorem dX7_lowest_76 : decode cX7_lowest 76 = .ok (.ireturn, 1) := by decide +kernel
theorem dX7_addsGroup_0 : decode cX7_addsGroup 0 = .ok (.iconst 0, 1) := by decide +kernel
theorem dX7_addsGroup_1 : decode cX7_addsGroup 1 = .ok (.istore_n 2, 1) := by decide +kernel
theorem dX7_addsGroup_2 : decode cX7_addsGroup 2 = .ok (.iconst 0, 1) := by decide +kernel
theorem dX7_addsGroup_3 : decode cX7_addsGroup 3 = .ok (.istore_n 3, 1) := by decide +kernel
theorem dX7_addsGroup_4 : decode cX7_addsGroup 4 = .ok (.iconst 0, 1) := by decide +kernel
theorem dX7_addsGroup_5 : decode cX7_addsGroup 5 = .ok (.istore 4, 2) := by decide +kernel
theorem dX7_addsGroup_7 : decode cX7_addsGroup 7 = .ok (.iload 4, 2) := by decide +kernel
theorem dX7_addsGroup_9 : decode cX7_addsGroup 9 = .ok (.bipush 12, 2) := by decide +kernel
theorem dX7_addsGroup_11 : decode cX7_addsGroup 11 = .ok (.if_icmp .ge 55, 3) := by decide +kernel
theorem dX7_addsGroup_14 : decode cX7_addsGroup 14 = .ok (.iload_n 3, 1) := by decide +kernel
theorem dX7_addsGroup_15 : decode cX7_addsGroup 15 = .ok (.aload_n 0, 1) := by decide +kernel
theorem dX7_addsGroup_16 : decode cX7_addsGroup 16 = .ok (.iload 4, 2) := by decide +kernel
theorem dX7_addsGroup_18 : decode cX7_addsGroup 18 = .ok (.invokevirtual 93, 3) := by decide +kernel
theorem dX7_addsGroup_21 : decode cX7_addsGroup 21 = .ok (.iload_n 1, 1) := by decide +kernel
theorem dX7_addsGroup_22 : decode cX7_addsGroup 22 = .ok (.if_icmp .ne 7, 3) := by decide +kernel
theorem dX7_addsGroup_25 : decode cX7_addsGroup 25 = .ok (.iconst 1, 1) := by decide +kernel
theorem dX7_addsGroup_26 : decode cX7_addsGroup 26 = .ok (.goto 4, 3) := by decide +kernel
theorem dX7_addsGroup_29 : decode cX7_addsGroup 29 = .ok (.iconst 0, 1) := by decide +kernel
theorem dX7_addsGroup_30 : decode cX7_addsGroup 30 = .ok (.iadd, 1) := by decide +kernel
theorem dX7_addsGroup_31 : decode cX7_addsGroup 31 = .ok (.istore_n 3, 1) := by decide +kernel
theorem dX7_addsGroup_32 : decode cX7_addsGroup 32 = .ok (.iload_n 2, 1) := by decide +kernel
theorem dX7_addsGroup_33 : decode cX7_addsGroup 33 = .ok (.aload_n 0, 1) := by decide +kernel
theorem dX7_addsGroup_34 : decode cX7_addsGroup 34 = .ok (.iload 4, 2) := by decide +kernel
theorem dX7_addsGroup_36 : decode cX7_addsGroup 36 = .ok (.invokevirtual 93, 3) := by decide +kernel
theorem dX7_addsGroup_39 : decode cX7_addsGroup 39 = .ok (.iload_n 1, 1) := by decide +kernel
theorem dX7_addsGroup_40 : decode cX7_addsGroup 40 = .ok (.if_icmp .ne 17, 3) := by decide +kernel
theorem dX7_addsGroup_43 : decode cX7_addsGroup 43 = .ok (.aload_n 0, 1) := by decide +kernel
theorem dX7_addsGroup_44 : decode cX7_addsGroup 44 = .ok (.getfield 50, 3) := by decide +kernel
theorem dX7_addsGroup_47 : decode cX7_addsGroup 47 = .ok (.iload 4, 2) := by decide +kernel
theorem dX7_addsGroup_49 : decode cX7_addsGroup 49 = .ok (.baload, 1) := by decide +kernel
theorem dX7_addsGroup_50 : decode cX7_addsGroup 50 = .ok (.ifCond .eq 7, 3) := by decide +kernel
theorem dX7_addsGroup_53 : decode cX7_addsGroup 53 = .ok (.iconst 1, 1) := by decide +kernel
theorem dX7_addsGroup_54 : decode cX7_addsGroup 54 = .ok (.goto 4, 3) := by decide +kernel
theorem dX7_addsGroup_57 : decode cX7_addsGroup 57 = .ok (.iconst 0, 1) := by decide +kernel
theorem dX7_addsGroup_58 : decode cX7_addsGroup 58 = .ok (.iadd, 1) := by decide +kernel
theorem dX7_addsGroup_59 : decode cX7_addsGroup 59 = .ok (.istore_n 2, 1) := by decide +kernel
theorem dX7_addsGroup_60 : decode cX7_addsGroup 60 = .ok (.iinc 4 1, 3) := by decide +kernel
theorem dX7_addsGroup_63 : decode cX7_addsGroup 63 = .ok (.goto (-56), 3) := by decide +kernel
theorem dX7_addsGroup_66 : decode cX7_addsGroup 66 = .ok (.aload_n 0, 1) := by decide +kernel
theorem dX7_addsGroup_67 : decode cX7_addsGroup 67 = .ok (.getfield 7, 3) := by decide +kernel
theorem dX7_addsGroup_70 : decode cX7_addsGroup 70 = .ok (.bipush 10, 2) := by decide +kernel
theorem dX7_addsGroup_72 : decode cX7_addsGroup 72 = .ok (.iload_n 1, 1) := by decide +kernel
theorem dX7_addsGroup_73 : decode cX7_addsGroup 73 = .ok (.iadd, 1) := by decide +kernel
theorem dX7_addsGroup_74 : decode cX7_addsGroup 74 = .ok (.iaload, 1) := by decide +kernel
theorem dX7_addsGroup_75 : decode cX7_addsGroup 75 = .ok (.iconst 1, 1) := by decide +kernel
theorem dX7_addsGroup_76 : decode cX7_addsGroup 76 = .ok (.if_icmp .ne 17, 3) := by decide +kernel
theorem dX7_addsGroup_79 : decode cX7_addsGroup 79 = .ok (.iload_n 2, 1) := by decide +kernel
theorem dX7_addsGroup_80 : decode cX7_addsGroup 80 = .ok (.iconst 1, 1) := by decide +kernel
theorem dX7_addsGroup_81 : decode cX7_addsGroup 81 = .ok (.if_icmp .le 12, 3) := by decide +kernel
theorem dX7_addsGroup_84 : decode cX7_addsGroup 84 = .ok (.iload_n 2, 1) := by decide +kernel
theorem dX7_addsGroup_85 : decode cX7_addsGroup 85 = .ok (.iload_n 3, 1) := by decide +kernel
theorem dX7_addsGroup_86 : decode cX7_addsGroup 86 = .ok (.if_icmp .ne 7, 3) := by decide +kernel
theorem dX7_addsGroup_89 : decode cX7_addsGroup 89 = .ok (.iconst 1, 1) := by decide +kernel
theorem dX7_addsGroup_90 : decode cX7_addsGroup 90 = .ok (.goto 4, 3) := by decide +kernel
theorem dX7_addsGroup_93 : decode cX7_addsGroup 93 = .ok (.iconst 0, 1) := by decide +kernel
theorem dX7_addsGroup_94 : decode cX7_addsGroup 94 = .ok (.istore 4, 2) := by decide +kernel
theorem dX7_addsGroup_96 : decode cX7_addsGroup 96 = .ok (.iload_n 2, 1) := by decide +kernel
theorem dX7_addsGroup_97 : decode cX7_addsGroup 97 = .ok (.iconst 1, 1) := by decide +kernel
theorem dX7_addsGroup_98 : decode cX7_addsGroup 98 = .ok (.if_icmp .le 21, 3) := by decide +kernel
theorem dX7_addsGroup_101 : decode cX7_addsGroup 101 = .ok (.aload_n 0, 1) := by decide +kernel
theorem dX7_addsGroup_102 : decode cX7_addsGroup 102 = .ok (.iload 4, 2) := by decide +kernel
theorem dX7_addsGroup_104 : decode cX7_addsGroup 104 = .ok (.ifCond .eq 7, 3) := by decide +kernel
theorem dX7_addsGroup_107 : decode cX7_addsGroup 107 = .ok (.iconst 2, 1) := by decide +kernel
theorem dX7_addsGroup_108 : decode cX7_addsGroup 108 = .ok (.goto 4, 3) := by decide +kernel
theorem dX7_addsGroup_111 : decode cX7_addsGroup 111 = .ok (.iconst 1, 1) := by decide +kernel
theorem dX7_addsGroup_112 : decode cX7_addsGroup 112 = .ok (.iconst (-1), 1) := by decide +kernel
theorem dX7_addsGroup_113 : decode cX7_addsGroup 113 = .ok (.iload_n 1, 1) := by decide +kernel
theorem dX7_addsGroup_114 : decode cX7_addsGroup 114 = .ok (.iconst (-1), 1) := by decide +kernel
theorem dX7_addsGroup_115 : decode cX7_addsGroup 115 = .ok (.iconst (-1), 1) := by decide +kernel
theorem dX7_addsGroup_116 : decode cX7_addsGroup 116 = .ok (.invokevirtual 96, 3) := by decide +kernel
theorem dX7_addsGroup_119 : decode cX7_addsGroup 119 = .ok (.aload_n 0, 1) := by decide +kernel
theorem dX7_addsGroup_120 : decode cX7_addsGroup 120 = .ok (.iload_n 1, 1) := by decide +kernel
theorem dX7_addsGroup_121 : decode cX7_addsGroup 121 = .ok (.invokevirtual 103, 3) := by decide +kernel
theorem dX7_addsGroup_124 : decode cX7_addsGroup 124 = .ok (.istore 5, 2) := by decide +kernel
theorem dX7_addsGroup_126 : decode cX7_addsGroup 126 = .ok (.iload 5, 2) := by decide +kernel
theorem dX7_addsGroup_128 : decode cX7_addsGroup 128 = .ok (.iconst (-1), 1) := by decide +kernel
theorem dX7_addsGroup_129 : decode cX7_addsGroup 129 = .ok (.if_icmp .eq 32, 3) := by decide +kernel
theorem dX7_addsGroup_132 : decode cX7_addsGroup 132 = .ok (.aload_n 0, 1) := by decide +kernel
theorem dX7_addsGroup_133 : decode cX7_addsGroup 133 = .ok (.getfield 50, 3) := by decide +kernel
theorem dX7_addsGroup_136 : decode cX7_addsGroup 136 = .ok (.iload 5, 2) := by decide +kernel
theorem dX7_addsGroup_138 : decode cX7_addsGroup 138 = .ok (.iconst 0, 1) := by decide +kernel
theorem dX7_addsGroup_139 : decode cX7_addsGroup 139 = .ok (.bastore, 1) := by decide +kernel
theorem dX7_addsGroup_140 : decode cX7_addsGroup 140 = .ok (.iload 4, 2) := by decide +kernel
theorem dX7_addsGroup_142 : decode cX7_addsGroup 142 = .ok (.ifCond .ne 9, 3) := by decide +kernel
theorem dX7_addsGroup_145 : decode cX7_addsGroup 145 = .ok (.aload_n 0, 1) := by decide +kernel
theorem dX7_addsGroup_146 : decode cX7_addsGroup 146 = .ok (.iload 5, 2) := by decide +kernel
theorem dX7_addsGroup_148 : decode cX7_addsGroup 148 = .ok (.invokevirtual 106, 3) := by decide +kernel
theorem dX7_addsGroup_151 : decode cX7_addsGroup 151 = .ok (.aload_n 0, 1) := by decide +kernel
theorem dX7_addsGroup_152 : decode cX7_addsGroup 152 = .ok (.iload_n 1, 1) := by decide +kernel
theorem dX7_addsGroup_153 : decode cX7_addsGroup 153 = .ok (.invokevirtual 103, 3) := by decide +kernel
theorem dX7_addsGroup_156 : decode cX7_addsGroup 156 = .ok (.istore 5, 2) := by decide +kernel
theorem dX7_addsGroup_158 : decode cX7_addsGroup 158 = .ok (.goto (-32), 3) := by decide +kernel
theorem dX7_addsGroup_161 : decode cX7_addsGroup 161 = .ok (.return_, 1) := by decide +kernel
theorem dX7_listsLines_0 : decode cX7_listsLines 0 = .ok (.aload_n 0, 1) := by decide +kernel
theorem dX7_listsLines_1 : decode cX7_listsLines 1 = .ok (.iconst 0, 1) := by decide +kernel
theorem dX7_listsLines_2 : decode cX7_listsLines 2 = .ok (.putfield 83, 3) := by decide +kernel
theorem dX7_listsLines_5 : decode cX7_listsLines 5 = .ok (.iconst 0, 1) := by decide +kernel
theorem dX7_listsLines_6 : decode cX7_listsLines 6 = .ok (.istore_n 1, 1) := by decide +kernel
theorem dX7_listsLines_7 : decode cX7_listsLines 7 = .ok (.iload_n 1, 1) := by decide +kernel
theorem dX7_listsLines_8 : decode cX7_listsLines 8 = .ok (.bipush 12, 2) := by decide +kernel
theorem dX7_listsLines_10 : decode cX7_listsLines 10 = .ok (.if_icmp .ge 20, 3) := by decide +kernel
theorem dX7_listsLines_13 : decode cX7_listsLines 13 = .ok (.aload_n 0, 1) := by decide +kernel
theorem dX7_listsLines_14 : decode cX7_listsLines 14 = .ok (.getfield 50, 3) := by decide +kernel
theorem dX7_listsLines_17 : decode cX7_listsLines 17 = .ok (.iload_n 1, 1) := by decide +kernel
theorem dX7_listsLines_18 : decode cX7_listsLines 18 = .ok (.aload_n 0, 1) := by decide +kernel
theorem dX7_listsLines_19 : decode cX7_listsLines 19 = .ok (.iload_n 1, 1) := by decide +kernel
theorem dX7_listsLines_20 : decode cX7_listsLines 20 = .ok (.invokevirtual 110, 3) := by decide +kernel
theorem dX7_listsLines_23 : decode cX7_listsLines 23 = .ok (.bastore, 1) := by decide +kernel
theorem dX7_listsLines_24 : decode cX7_listsLines 24 = .ok (.iinc 1 1, 3) := by decide +kernel
theorem dX7_listsLines_27 : decode cX7_listsLines 27 = .ok (.goto (-20), 3) := by decide +kernel
theorem dX7_listsLines_30 : decode cX7_listsLines 30 = .ok (.aload_n 0, 1) := by decide +kernel
theorem dX7_listsLines_31 : decode cX7_listsLines 31 = .ok (.iconst (-1), 1) := by decide +kernel
theorem dX7_listsLines_32 : decode cX7_listsLines 32 = .ok (.invokevirtual 103, 3) := by decide +kernel
theorem dX7_listsLines_35 : decode cX7_listsLines 35 = .ok (.istore_n 1, 1) := by decide +kernel
theorem dX7_listsLines_36 : decode cX7_listsLines 36 = .ok (.iload_n 1, 1) := by decide +kernel
theorem dX7_listsLines_37 : decode cX7_listsLines 37 = .ok (.iconst (-1), 1) := by decide +kernel
theorem dX7_listsLines_38 : decode cX7_listsLines 38 = .ok (.if_icmp .eq 45, 3) := by decide +kernel
theorem dX7_listsLines_41 : decode cX7_listsLines 41 = .ok (.aload_n 0, 1) := by decide +kernel
theorem dX7_listsLines_42 : decode cX7_listsLines 42 = .ok (.iload_n 1, 1) := by decide +kernel
theorem dX7_listsLines_43 : decode cX7_listsLines 43 = .ok (.invokevirtual 93, 3) := by decide +kernel
theorem dX7_listsLines_46 : decode cX7_listsLines 46 = .ok (.iconst (-1), 1) := by decide +kernel
theorem dX7_listsLines_47 : decode cX7_listsLines 47 = .ok (.if_icmp .ne 18, 3) := by decide +kernel
theorem dX7_listsLines_50 : decode cX7_listsLines 50 = .ok (.aload_n 0, 1) := by decide +kernel
theorem dX7_listsLines_51 : decode cX7_listsLines 51 = .ok (.getfield 50, 3) := by decide +kernel
theorem dX7_listsLines_54 : decode cX7_listsLines 54 = .ok (.iload_n 1, 1) := by decide +kernel
theorem dX7_listsLines_55 : decode cX7_listsLines 55 = .ok (.iconst 0, 1) := by decide +kernel
theorem dX7_listsLines_56 : decode cX7_listsLines 56 = .ok (.bastore, 1) := by decide +kernel
theorem dX7_listsLines_57 : decode cX7_listsLines 57 = .ok (.aload_n 0, 1) := by decide +kernel
theorem dX7_listsLines_58 : decode cX7_listsLines 58 = .ok (.iload_n 1, 1) := by decide +kernel
theorem dX7_listsLines_59 : decode cX7_listsLines 59 = .ok (.invokevirtual 106, 3) := by decide +kernel
theorem dX7_listsLines_62 : decode cX7_listsLines 62 = .ok (.goto 12, 3) := by decide +kernel
theorem dX7_listsLines_65 : decode cX7_listsLines 65 = .ok (.aload_n 0, 1) := by decide +kernel
theorem dX7_listsLines_66 : decode cX7_listsLines 66 = .ok (.aload_n 0, 1) := by decide +kernel
theorem dX7_listsLines_67 : decode cX7_listsLines 67 = .ok (.iload_n 1, 1) := by decide +kernel
theorem dX7_listsLines_68 : decode cX7_listsLines 68 = .ok (.invokevirtual 93, 3) := by decide +kernel
theorem dX7_listsLines_71 : decode cX7_listsLines 71 = .ok (.invokevirtual 113, 3) := by decide +kernel
theorem dX7_listsLines_74 : decode cX7_listsLines 74 = .ok (.aload_n 0, 1) := by decide +kernel
theorem dX7_listsLines_75 : decode cX7_listsLines 75 = .ok (.iconst (-1), 1) := by decide +kernel
theorem dX7_listsLines_76 : decode cX7_listsLines 76 = .ok (.invokevirtual 103, 3) := by decide +kernel
theorem dX7_listsLines_79 : decode cX7_listsLines 79 = .ok (.istore_n 1, 1) := by decide +kernel
theorem dX7_listsLines_80 : decode cX7_listsLines 80 = .ok (.goto (-44), 3) := by decide +kernel
theorem dX7_listsLines_83 : decode cX7_listsLines 83 = .ok (.return_, 1) := by decide +kernel
theorem dX7_isCovered_0 : decode cX7_isCovered 0 = .ok (.aload_n 0, 1) := by decide +kernel
theorem dX7_isCovered_1 : decode cX7_isCovered 1 = .ok (.getfield 116, 3) := by decide +kernel
theorem dX7_isCovered_4 : decode cX7_isCovered 4 = .ok (.iconst (-1), 1) := by decide +kernel
theorem dX7_isCovered_5 : decode cX7_isCovered 5 = .ok (.if_icmp .eq 55, 3) := by decide +kernel
theorem dX7_isCovered_8 : decode cX7_isCovered 8 = .ok (.aload_n 0, 1) := by decide +kernel
theorem dX7_isCovered_9 : decode cX7_isCovered 9 = .ok (.iload_n 1, 1) := by decide +kernel
theorem dX7_isCovered_10 : decode cX7_isCovered 10 = .ok (.iconst 1, 1) := by decide +kernel
theorem dX7_isCovered_11 : decode cX7_isCovered 11 = .ok (.invokevirtual 72, 3) := by decide +kernel
theorem dX7_isCovered_14 : decode cX7_isCovered 14 = .ok (.aload_n 0, 1) := by decide +kernel
theorem dX7_isCovered_15 : decode cX7_isCovered 15 = .ok (.getfield 119, 3) := by decide +kernel
theorem dX7_isCovered_18 : decode cX7_isCovered 18 = .ok (.isub, 1) := by decide +kernel
theorem dX7_isCovered_19 : decode cX7_isCovered 19 = .ok (.iconst 0, 1) := by decide +kernel
theorem dX7_isCovered_20 : decode cX7_isCovered 20 = .ok (.aload_n 0, 1) := by decide +kernel
theorem dX7_isCovered_21 : decode cX7_isCovered 21 = .ok (.getfield 122, 3) := by decide +kernel
theorem dX7_isCovered_24 : decode cX7_isCovered 24 = .ok (.iconst 1, 1) := by decide +kernel
theorem dX7_isCovered_25 : decode cX7_isCovered 25 = .ok (.isub, 1) := by decide +kernel
theorem dX7_isCovered_26 : decode cX7_isCovered 26 = .ok (.invokestatic 68, 3) := by decide +kernel
theorem dX7_isCovered_29 : decode cX7_isCovered 29 = .ok (.ifCond .eq 31, 3) := by decide +kernel
theorem dX7_isCovered_32 : decode cX7_isCovered 32 = .ok (.aload_n 0, 1) := by decide +kernel
theorem dX7_isCovered_33 : decode cX7_isCovered 33 = .ok (.iload_n 1, 1) := by decide +kernel
theorem dX7_isCovered_34 : decode cX7_isCovered 34 = .ok (.iconst 2, 1) := by decide +kernel
theorem dX7_isCovered_35 : decode cX7_isCovered 35 = .ok (.invokevirtual 72, 3) := by decide +kernel
theorem dX7_isCovered_38 : decode cX7_isCovered 38 = .ok (.aload_n 0, 1) := by decide +kernel
theorem dX7_isCovered_39 : decode cX7_isCovered 39 = .ok (.getfield 125, 3) := by decide +kernel
theorem dX7_isCovered_42 : decode cX7_isCovered 42 = .ok (.isub, 1) := by decide +kernel
theorem dX7_isCovered_43 : decode cX7_isCovered 43 = .ok (.iconst 0, 1) := by decide +kernel
theorem dX7_isCovered_44 : decode cX7_isCovered 44 = .ok (.aload_n 0, 1) := by decide +kernel
theorem dX7_isCovered_45 : decode cX7_isCovered 45 = .ok (.getfield 128, 3) := by decide +kernel
theorem dX7_isCovered_48 : decode cX7_isCovered 48 = .ok (.iconst 1, 1) := by decide +kernel
theorem dX7_isCovered_49 : decode cX7_isCovered 49 = .ok (.isub, 1) := by decide +kernel
theorem dX7_isCovered_50 : decode cX7_isCovered 50 = .ok (.invokestatic 68, 3) := by decide +kernel
theorem dX7_isCovered_53 : decode cX7_isCovered 53 = .ok (.ifCond .eq 7, 3) := by decide +kernel
theorem dX7_isCovered_56 : decode cX7_isCovered 56 = .ok (.iconst 1, 1) := by decide +kernel
theorem dX7_isCovered_57 : decode cX7_isCovered 57 = .ok (.goto 4, 3) := by decide +kernel
theorem dX7_isCovered_60 : decode cX7_isCovered 60 = .ok (.iconst 0, 1) := by decide +kernel
theorem dX7_isCovered_61 : decode cX7_isCovered 61 = .ok (.ireturn, 1) := by decide +kernel
theorem dX7_coveredMany_0 : decode cX7_coveredMany 0 = .ok (.iconst 0, 1) := by decide +kernel
theorem dX7_coveredMany_1 : decode cX7_coveredMany 1 = .ok (.istore_n 1, 1) := by decide +kernel
theorem dX7_coveredMany_2 : decode cX7_coveredMany 2 = .ok (.iconst 0, 1) := by decide +kernel
theorem dX7_coveredMany_3 : decode cX7_coveredMany 3 = .ok (.istore_n 2, 1) := by decide +kernel
theorem dX7_coveredMany_4 : decode cX7_coveredMany 4 = .ok (.iload_n 2, 1) := by decide +kernel
theorem dX7_coveredMany_5 : decode cX7_coveredMany 5 = .ok (.aload_n 0, 1) := by decide +kernel
theorem dX7_coveredMany_6 : decode cX7_coveredMany 6 = .ok (.getfield 7, 3) := by decide +kernel
theorem dX7_coveredMany_9 : decode cX7_coveredMany 9 = .ok (.bipush 9, 2) := by decide +kernel
theorem dX7_coveredMany_11 : decode cX7_coveredMany 11 = .ok (.iaload, 1) := by decide +kernel
theorem dX7_coveredMany_12 : decode cX7_coveredMany 12 = .ok (.if_icmp .ge 33, 3) := by decide +kernel
theorem dX7_coveredMany_15 : decode cX7_coveredMany 15 = .ok (.iload_n 1, 1) := by decide +kernel
theorem dX7_coveredMany_16 : decode cX7_coveredMany 16 = .ok (.aload_n 0, 1) := by decide +kernel
theorem dX7_coveredMany_17 : decode cX7_coveredMany 17 = .ok (.iload_n 2, 1) := by decide +kernel
theorem dX7_coveredMany_18 : decode cX7_coveredMany 18 = .ok (.invokevirtual 80, 3) := by decide +kernel
theorem dX7_coveredMany_21 : decode cX7_coveredMany 21 = .ok (.ifCond .eq 15, 3) := by decide +kernel
theorem dX7_coveredMany_24 : decode cX7_coveredMany 24 = .ok (.aload_n 0, 1) := by decide +kernel
theorem dX7_coveredMany_25 : decode cX7_coveredMany 25 = .ok (.iload_n 2, 1) := by decide +kernel
theorem dX7_coveredMany_26 : decode cX7_coveredMany 26 = .ok (.invokevirtual 131, 3) := by decide +kernel
theorem dX7_coveredMany_29 : decode cX7_coveredMany 29 = .ok (.ifCond .eq 7, 3) := by decide +kernel
theorem dX7_coveredMany_32 : decode cX7_coveredMany 32 = .ok (.iconst 1, 1) := by decide +kernel
theorem dX7_coveredMany_33 : decode cX7_coveredMany 33 = .ok (.goto 4, 3) := by decide +kernel
theorem dX7_coveredMany_36 : decode cX7_coveredMany 36 = .ok (.iconst 0, 1) := by decide +kernel
theorem dX7_coveredMany_37 : decode cX7_coveredMany 37 = .ok (.iadd, 1) := by decide +kernel
theorem dX7_coveredMany_38 : decode cX7_coveredMany 38 = .ok (.istore_n 1, 1) := by decide +kernel
theorem dX7_coveredMany_39 : decode cX7_coveredMany 39 = .ok (.iinc 2 1, 3) := by decide +kernel
theorem dX7_coveredMany_42 : decode cX7_coveredMany 42 = .ok (.goto (-38), 3) := by decide +kernel
theorem dX7_coveredMany_45 : decode cX7_coveredMany 45 = .ok (.iload_n 1, 1) := by decide +kernel
theorem dX7_coveredMany_46 : decode cX7_coveredMany 46 = .ok (.ireturn, 1) := by decide +kernel
theorem dX7_stands_0 : decode cX7_stands 0 = .ok (.aload_n 0, 1) := by decide +kernel
theorem dX7_stands_1 : decode cX7_stands 1 = .ok (.iload_n 1, 1) := by decide +kernel
theorem dX7_stands_2 : decode cX7_stands 2 = .ok (.putfield 116, 3) := by decide +kernel
theorem dX7_stands_5 : decode cX7_stands 5 = .ok (.aload_n 0, 1) := by decide +kernel
theorem dX7_stands_6 : decode cX7_stands 6 = .ok (.iload_n 1, 1) := by decide +kernel
theorem dX7_stands_7 : decode cX7_stands 7 = .ok (.iconst 2, 1) := by decide +kernel
theorem dX7_stands_8 : decode cX7_stands 8 = .ok (.irem, 1) := by decide +kernel
theorem dX7_stands_9 : decode cX7_stands 9 = .ok (.ifCond .ne 12, 3) := by decide +kernel
theorem dX7_stands_12 : decode cX7_stands 12 = .ok (.aload_n 0, 1) := by decide +kernel
theorem dX7_stands_13 : decode cX7_stands 13 = .ok (.getfield 7, 3) := by decide +kernel
theorem dX7_stands_16 : decode cX7_stands 16 = .ok (.iconst 4, 1) := by decide +kernel
theorem dX7_stands_17 : decode cX7_stands 17 = .ok (.iaload, 1) := by decide +kernel
theorem dX7_stands_18 : decode cX7_stands 18 = .ok (.goto 22, 3) := by decide +kernel
theorem dX7_stands_21 : decode cX7_stands 21 = .ok (.aload_n 0, 1) := by decide +kernel
theorem dX7_stands_22 : decode cX7_stands 22 = .ok (.getfield 7, 3) := by decide +kernel
theorem dX7_stands_25 : decode cX7_stands 25 = .ok (.iconst 4, 1) := by decide +kernel
theorem dX7_stands_26 : decode cX7_stands 26 = .ok (.iaload, 1) := by decide +kernel
theorem dX7_stands_27 : decode cX7_stands 27 = .ok (.aload_n 0, 1) := by decide +kernel
theorem dX7_stands_28 : decode cX7_stands 28 = .ok (.getfield 7, 3) := by decide +kernel
theorem dX7_stands_31 : decode cX7_stands 31 = .ok (.bipush 6, 2) := by decide +kernel
theorem dX7_stands_33 : decode cX7_stands 33 = .ok (.iaload, 1) := by decide +kernel
theorem dX7_stands_34 : decode cX7_stands 34 = .ok (.iadd, 1) := by decide +kernel
theorem dX7_stands_35 : decode cX7_stands 35 = .ok (.aload_n 0, 1) := by decide +kernel
theorem dX7_stands_36 : decode cX7_stands 36 = .ok (.getfield 122, 3) := by decide +kernel
theorem dX7_stands_39 : decode cX7_stands 39 = .ok (.isub, 1) := by decide +kernel
theorem dX7_stands_40 : decode cX7_stands 40 = .ok (.putfield 119, 3) := by decide +kernel
theorem dX7_stands_43 : decode cX7_stands 43 = .ok (.aload_n 0, 1) := by decide +kernel
theorem dX7_stands_44 : decode cX7_stands 44 = .ok (.iload_n 1, 1) := by decide +kernel
theorem dX7_stands_45 : decode cX7_stands 45 = .ok (.iconst 2, 1) := by decide +kernel
theorem dX7_stands_46 : decode cX7_stands 46 = .ok (.if_icmp .ge 12, 3) := by decide +kernel
theorem dX7_stands_49 : decode cX7_stands 49 = .ok (.aload_n 0, 1) := by decide +kernel
theorem dX7_stands_50 : decode cX7_stands 50 = .ok (.getfield 7, 3) := by decide +kernel
theorem dX7_stands_53 : decode cX7_stands 53 = .ok (.iconst 5, 1) := by decide +kernel
theorem dX7_stands_54 : decode cX7_stands 54 = .ok (.iaload, 1) := by decide +kernel
theorem dX7_stands_55 : decode cX7_stands 55 = .ok (.goto 22, 3) := by decide +kernel
theorem dX7_stands_58 : decode cX7_stands 58 = .ok (.aload_n 0, 1) := by decide +kernel
theorem dX7_stands_59 : decode cX7_stands 59 = .ok (.getfield 7, 3) := by decide +kernel
theorem dX7_stands_62 : decode cX7_stands 62 = .ok (.iconst 5, 1) := by decide +kernel
theorem dX7_stands_63 : decode cX7_stands 63 = .ok (.iaload, 1) := by decide +kernel
theorem dX7_stands_64 : decode cX7_stands 64 = .ok (.aload_n 0, 1) := by decide +kernel
theorem dX7_stands_65 : decode cX7_stands 65 = .ok (.getfield 7, 3) := by decide +kernel
theorem dX7_stands_68 : decode cX7_stands 68 = .ok (.bipush 7, 2) := by decide +kernel
theorem dX7_stands_70 : decode cX7_stands 70 = .ok (.iaload, 1) := by decide +kernel
theorem dX7_stands_71 : decode cX7_stands 71 = .ok (.iadd, 1) := by decide +kernel
theorem dX7_stands_72 : decode cX7_stands 72 = .ok (.aload_n 0, 1) := by decide +kernel
theorem dX7_stands_73 : decode cX7_stands 73 = .ok (.getfield 128, 3) := by decide +kernel
theorem dX7_stands_76 : decode cX7_stands 76 = .ok (.isub, 1) := by decide +kernel
theorem dX7_stands_77 : decode cX7_stands 77 = .ok (.putfield 125, 3) := by decide +kernel
theorem dX7_stands_80 : decode cX7_stands 80 = .ok (.return_, 1) := by decide +kernel
theorem dX7_laysBox_0 : decode cX7_laysBox 0 = .ok (.aload_n 0, 1) := by decide +kernel
theorem dX7_laysBox_1 : decode cX7_laysBox 1 = .ok (.iconst (-1), 1) := by decide +kernel
theorem dX7_laysBox_2 : decode cX7_laysBox 2 = .ok (.putfield 116, 3) := by decide +kernel
theorem dX7_laysBox_5 : decode cX7_laysBox 5 = .ok (.aload_n 0, 1) := by decide +kernel
theorem dX7_laysBox_6 : decode cX7_laysBox 6 = .ok (.getfield 83, 3) := by decide +kernel
theorem dX7_laysBox_9 : decode cX7_laysBox 9 = .ok (.ifCond .ne 4, 3) := by decide +kernel
theorem dX7_laysBox_12 : decode cX7_laysBox 12 = .ok (.return_, 1) := by decide +kernel
theorem dX7_laysBox_13 : decode cX7_laysBox 13 = .ok (.aload_n 0, 1) := by decide +kernel
theorem dX7_laysBox_14 : decode cX7_laysBox 14 = .ok (.getfield 83, 3) := by decide +kernel
theorem dX7_laysBox_17 : decode cX7_laysBox 17 = .ok (.aload_n 0, 1) := by decide +kernel
theorem dX7_laysBox_18 : decode cX7_laysBox 18 = .ok (.getfield 7, 3) := by decide +kernel
theorem dX7_laysBox_21 : decode cX7_laysBox 21 = .ok (.iconst 1, 1) := by decide +kernel
theorem dX7_laysBox_22 : decode cX7_laysBox 22 = .ok (.iaload, 1) := by decide +kernel
theorem dX7_laysBox_23 : decode cX7_laysBox 23 = .ok (.iadd, 1) := by decide +kernel
theorem dX7_laysBox_24 : decode cX7_laysBox 24 = .ok (.iconst 1, 1) := by decide +kernel
theorem dX7_laysBox_25 : decode cX7_laysBox 25 = .ok (.isub, 1) := by decide +kernel
theorem dX7_laysBox_26 : decode cX7_laysBox 26 = .ok (.aload_n 0, 1) := by decide +kernel
theorem dX7_laysBox_27 : decode cX7_laysBox 27 = .ok (.getfield 7, 3) := by decide +kernel
theorem dX7_laysBox_30 : decode cX7_laysBox 30 = .ok (.iconst 1, 1) := by decide +kernel
theorem dX7_laysBox_31 : decode cX7_laysBox 31 = .ok (.iaload, 1) := by decide +kernel
theorem dX7_laysBox_32 : decode cX7_laysBox 32 = .ok (.idiv, 1) := by decide +kernel
theorem dX7_laysBox_33 : decode cX7_laysBox 33 = .ok (.istore_n 1, 1) := by decide +kernel
theorem dX7_laysBox_34 : decode cX7_laysBox 34 = .ok (.iconst 0, 1) := by decide +kernel
theorem dX7_laysBox_35 : decode cX7_laysBox 35 = .ok (.istore_n 2, 1) := by decide +kernel
theorem dX7_laysBox_36 : decode cX7_laysBox 36 = .ok (.iconst 0, 1) := by decide +kernel
theorem dX7_laysBox_37 : decode cX7_laysBox 37 = .ok (.istore_n 3, 1) := by decide +kernel
theorem dX7_laysBox_38 : decode cX7_laysBox 38 = .ok (.iconst 0, 1) := by decide +kernel
theorem dX7_laysBox_39 : decode cX7_laysBox 39 = .ok (.istore 4, 2) := by decide +kernel
theorem dX7_laysBox_41 : decode cX7_laysBox 41 = .ok (.iconst 0, 1) := by decide +kernel
theorem dX7_laysBox_42 : decode cX7_laysBox 42 = .ok (.istore 5, 2) := by decide +kernel
theorem dX7_laysBox_44 : decode cX7_laysBox 44 = .ok (.iload 5, 2) := by decide +kernel
theorem dX7_laysBox_46 : decode cX7_laysBox 46 = .ok (.aload_n 0, 1) := by decide +kernel
theorem dX7_laysBox_47 : decode cX7_laysBox 47 = .ok (.getfield 83, 3) := by decide +kernel
theorem dX7_laysBox_50 : decode cX7_laysBox 50 = .ok (.if_icmp .ge 100, 3) := by decide +kernel
theorem dX7_laysBox_53 : decode cX7_laysBox 53 = .ok (.aload_n 0, 1) := by decide +kernel
theorem dX7_laysBox_54 : decode cX7_laysBox 54 = .ok (.getfield 29, 3) := by decide +kernel
theorem dX7_laysBox_57 : decode cX7_laysBox 57 = .ok (.iconst 5, 1) := by decide +kernel
theorem dX7_laysBox_58 : decode cX7_laysBox 58 = .ok (.iload 5, 2) := by decide +kernel
theorem dX7_laysBox_60 : decode cX7_laysBox 60 = .ok (.imul, 1) := by decide +kernel
theorem dX7_laysBox_61 : decode cX7_laysBox 61 = .ok (.iaload, 1) := by decide +kernel
theorem dX7_laysBox_62 : decode cX7_laysBox 62 = .ok (.iconst 1, 1) := by decide +kernel
theorem dX7_laysBox_63 : decode cX7_laysBox 63 = .ok (.if_icmp .ne 7, 3) := by decide +kernel
theorem dX7_laysBox_66 : decode cX7_laysBox 66 = .ok (.iconst 1, 1) := by decide +kernel
theorem dX7_laysBox_67 : decode cX7_laysBox 67 = .ok (.goto 4, 3) := by decide +kernel
theorem dX7_laysBox_70 : decode cX7_laysBox 70 = .ok (.iconst 0, 1) := by decide +kernel
theorem dX7_laysBox_71 : decode cX7_laysBox 71 = .ok (.istore 6, 2) := by decide +kernel
theorem dX7_laysBox_73 : decode cX7_laysBox 73 = .ok (.iload_n 2, 1) := by decide +kernel
theorem dX7_laysBox_74 : decode cX7_laysBox 74 = .ok (.aload_n 0, 1) := by decide +kernel
theorem dX7_laysBox_75 : decode cX7_laysBox 75 = .ok (.getfield 7, 3) := by decide +kernel
theorem dX7_laysBox_78 : decode cX7_laysBox 78 = .ok (.iconst 1, 1) := by decide +kernel
theorem dX7_laysBox_79 : decode cX7_laysBox 79 = .ok (.iaload, 1) := by decide +kernel
theorem dX7_laysBox_80 : decode cX7_laysBox 80 = .ok (.iconst 1, 1) := by decide +kernel
theorem dX7_laysBox_81 : decode cX7_laysBox 81 = .ok (.isub, 1) := by decide +kernel
theorem dX7_laysBox_82 : decode cX7_laysBox 82 = .ok (.if_icmp .ge 29, 3) := by decide +kernel
theorem dX7_laysBox_85 : decode cX7_laysBox 85 = .ok (.iload_n 3, 1) := by decide +kernel
theorem dX7_laysBox_86 : decode cX7_laysBox 86 = .ok (.iload_n 1, 1) := by decide +kernel
theorem dX7_laysBox_87 : decode cX7_laysBox 87 = .ok (.if_icmp .eq 19, 3) := by decide +kernel
theorem dX7_laysBox_90 : decode cX7_laysBox 90 = .ok (.iload 6, 2) := by decide +kernel
theorem dX7_laysBox_92 : decode cX7_laysBox 92 = .ok (.ifCond .eq 19, 3) := by decide +kernel
theorem dX7_laysBox_95 : decode cX7_laysBox 95 = .ok (.iload_n 3, 1) := by decide +kernel
theorem dX7_laysBox_96 : decode cX7_laysBox 96 = .ok (.ifCond .le 15, 3) := by decide +kernel
theorem dX7_laysBox_99 : decode cX7_laysBox 99 = .ok (.iload_n 3, 1) := by decide +kernel
theorem dX7_laysBox_100 : decode cX7_laysBox 100 = .ok (.iload_n 1, 1) := by decide +kernel
theorem dX7_laysBox_101 : decode cX7_laysBox 101 = .ok (.iconst 1, 1) := by decide +kernel
theorem dX7_laysBox_102 : decode cX7_laysBox 102 = .ok (.isub, 1) := by decide +kernel
theorem dX7_laysBox_103 : decode cX7_laysBox 103 = .ok (.if_icmp .ne 8, 3) := by decide +kernel
theorem dX7_laysBox_106 : decode cX7_laysBox 106 = .ok (.iinc 2 1, 3) := by decide +kernel
theorem dX7_laysBox_109 : decode cX7_laysBox 109 = .ok (.iconst 0, 1) := by decide +kernel
theorem dX7_laysBox_110 : decode cX7_laysBox 110 = .ok (.istore_n 3, 1) := by decide +kernel
theorem dX7_laysBox_111 : decode cX7_laysBox 111 = .ok (.aload_n 0, 1) := by decide +kernel
theorem dX7_laysBox_112 : decode cX7_laysBox 112 = .ok (.getfield 35, 3) := by decide +kernel
theorem dX7_laysBox_115 : decode cX7_laysBox 115 = .ok (.iload 5, 2) := by decide +kernel
theorem dX7_laysBox_117 : decode cX7_laysBox 117 = .ok (.iload_n 2, 1) := by decide +kernel
theorem dX7_laysBox_118 : decode cX7_laysBox 118 = .ok (.iastore, 1) := by decide +kernel
theorem dX7_laysBox_119 : decode cX7_laysBox 119 = .ok (.aload_n 0, 1) := by decide +kernel
theorem dX7_laysBox_120 : decode cX7_laysBox 120 = .ok (.getfield 38, 3) := by decide +kernel
theorem dX7_laysBox_123 : decode cX7_laysBox 123 = .ok (.iload 5, 2) := by decide +kernel
theorem dX7_laysBox_125 : decode cX7_laysBox 125 = .ok (.iload_n 3, 1) := by decide +kernel
theorem dX7_laysBox_126 : decode cX7_laysBox 126 = .ok (.iastore, 1) := by decide +kernel
theorem dX7_laysBox_127 : decode cX7_laysBox 127 = .ok (.iinc 3 1, 3) := by decide +kernel
theorem dX7_laysBox_130 : decode cX7_laysBox 130 = .ok (.iload_n 3, 1) := by decide +kernel
theorem dX7_laysBox_131 : decode cX7_laysBox 131 = .ok (.iload 4, 2) := by decide +kernel
theorem dX7_laysBox_133 : decode cX7_laysBox 133 = .ok (.if_icmp .le 7, 3) := by decide +kernel
theorem dX7_laysBox_136 : decode cX7_laysBox 136 = .ok (.iload_n 3, 1) := by decide +kernel
theorem dX7_laysBox_137 : decode cX7_laysBox 137 = .ok (.goto 5, 3) := by decide +kernel
theorem dX7_laysBox_140 : decode cX7_laysBox 140 = .ok (.iload 4, 2) := by decide +kernel
theorem dX7_laysBox_142 : decode cX7_laysBox 142 = .ok (.istore 4, 2) := by decide +kernel
theorem dX7_laysBox_144 : decode cX7_laysBox 144 = .ok (.iinc 5 1, 3) := by decide +kernel
theorem dX7_laysBox_147 : decode cX7_laysBox 147 = .ok (.goto (-103), 3) := by decide +kernel
theorem dX7_laysBox_150 : decode cX7_laysBox 150 = .ok (.aload_n 0, 1) := by decide +kernel
theorem dX7_laysBox_151 : decode cX7_laysBox 151 = .ok (.getfield 7, 3) := by decide +kernel
theorem dX7_laysBox_154 : decode cX7_laysBox 154 = .ok (.iconst 2, 1) := by decide +kernel
theorem dX7_laysBox_155 : decode cX7_laysBox 155 = .ok (.iaload, 1) := by decide +kernel
theorem dX7_laysBox_156 : decode cX7_laysBox 156 = .ok (.iload_n 2, 1) := by decide +kernel
theorem dX7_laysBox_157 : decode cX7_laysBox 157 = .ok (.iconst 1, 1) := by decide +kernel
theorem dX7_laysBox_158 : decode cX7_laysBox 158 = .ok (.iadd, 1) := by decide +kernel
theorem dX7_laysBox_159 : decode cX7_laysBox 159 = .ok (.imul, 1) := by decide +kernel
theorem dX7_laysBox_160 : decode cX7_laysBox 160 = .ok (.istore 5, 2) := by decide +kernel
theorem dX7_laysBox_162 : decode cX7_laysBox 162 = .ok (.aload_n 0, 1) := by decide +kernel
theorem dX7_laysBox_163 : decode cX7_laysBox 163 = .ok (.getfield 7, 3) := by decide +kernel
theorem dX7_laysBox_166 : decode cX7_laysBox 166 = .ok (.iconst 3, 1) := by decide +kernel
theorem dX7_laysBox_167 : decode cX7_laysBox 167 = .ok (.iaload, 1) := by decide +kernel
theorem dX7_laysBox_168 : decode cX7_laysBox 168 = .ok (.iload 4, 2) := by decide +kernel
theorem dX7_laysBox_170 : decode cX7_laysBox 170 = .ok (.imul, 1) := by decide +kernel
theorem dX7_laysBox_171 : decode cX7_laysBox 171 = .ok (.istore 6, 2) := by decide +kernel
theorem dX7_laysBox_173 : decode cX7_laysBox 173 = .ok (.aload_n 0, 1) := by decide +kernel
theorem dX7_laysBox_174 : decode cX7_laysBox 174 = .ok (.iload 5, 2) := by decide +kernel
theorem dX7_laysBox_176 : decode cX7_laysBox 176 = .ok (.aload_n 0, 1) := by decide +kernel
theorem dX7_laysBox_177 : decode cX7_laysBox 177 = .ok (.getfield 7, 3) := by decide +kernel
theorem dX7_laysBox_180 : decode cX7_laysBox 180 = .ok (.bipush 6, 2) := by decide +kernel
theorem dX7_laysBox_182 : decode cX7_laysBox 182 = .ok (.iaload, 1) := by decide +kernel
theorem dX7_laysBox_183 : decode cX7_laysBox 183 = .ok (.if_icmp .ge 8, 3) := by decide +kernel
theorem dX7_laysBox_186 : decode cX7_laysBox 186 = .ok (.iload 5, 2) := by decide +kernel
theorem dX7_laysBox_188 : decode cX7_laysBox 188 = .ok (.goto 10, 3) := by decide +kernel
theorem dX7_laysBox_191 : decode cX7_laysBox 191 = .ok (.aload_n 0, 1) := by decide +kernel
theorem dX7_laysBox_192 : decode cX7_laysBox 192 = .ok (.getfield 7, 3) := by decide +kernel
theorem dX7_laysBox_195 : decode cX7_laysBox 195 = .ok (.bipush 6, 2) := by decide +kernel
theorem dX7_laysBox_197 : decode cX7_laysBox 197 = .ok (.iaload, 1) := by decide +kernel
theorem dX7_laysBox_198 : decode cX7_laysBox 198 = .ok (.putfield 122, 3) := by decide +kernel
theorem dX7_laysBox_201 : decode cX7_laysBox 201 = .ok (.aload_n 0, 1) := by decide +kernel
theorem dX7_laysBox_202 : decode cX7_laysBox 202 = .ok (.iload 6, 2) := by decide +kernel
theorem dX7_laysBox_204 : decode cX7_laysBox 204 = .ok (.aload_n 0, 1) := by decide +kernel
theorem dX7_laysBox_205 : decode cX7_laysBox 205 = .ok (.getfield 7, 3) := by decide +kernel
theorem dX7_laysBox_208 : decode cX7_laysBox 208 = .ok (.bipush 7, 2) := by decide +kernel
theorem dX7_laysBox_210 : decode cX7_laysBox 210 = .ok (.iaload, 1) := by decide +kernel
theorem dX7_laysBox_211 : decode cX7_laysBox 211 = .ok (.if_icmp .ge 8, 3) := by decide +kernel
theorem dX7_laysBox_214 : decode cX7_laysBox 214 = .ok (.iload 6, 2) := by decide +kernel
theorem dX7_laysBox_216 : decode cX7_laysBox 216 = .ok (.goto 10, 3) := by decide +kernel
theorem dX7_laysBox_219 : decode cX7_laysBox 219 = .ok (.aload_n 0, 1) := by decide +kernel
theorem dX7_laysBox_220 : decode cX7_laysBox 220 = .ok (.getfield 7, 3) := by decide +kernel
theorem dX7_laysBox_223 : decode cX7_laysBox 223 = .ok (.bipush 7, 2) := by decide +kernel
theorem dX7_laysBox_225 : decode cX7_laysBox 225 = .ok (.iaload, 1) := by decide +kernel
theorem dX7_laysBox_226 : decode cX7_laysBox 226 = .ok (.putfield 128, 3) := by decide +kernel
theorem dX7_laysBox_229 : decode cX7_laysBox 229 = .ok (.iconst 0, 1) := by decide +kernel
theorem dX7_laysBox_230 : decode cX7_laysBox 230 = .ok (.istore 7, 2) := by decide +kernel
theorem dX7_laysBox_232 : decode cX7_laysBox 232 = .ok (.bipush 41, 2) := by decide +kernel
theorem dX7_laysBox_234 : decode cX7_laysBox 234 = .ok (.istore 8, 2) := by decide +kernel
theorem dX7_laysBox_236 : decode cX7_laysBox 236 = .ok (.iconst 0, 1) := by decide +kernel
theorem dX7_laysBox_237 : decode cX7_laysBox 237 = .ok (.istore 9, 2) := by decide +kernel
theorem dX7_laysBox_239 : decode cX7_laysBox 239 = .ok (.iload 9, 2) := by decide +kernel
theorem dX7_laysBox_241 : decode cX7_laysBox 241 = .ok (.iconst 4, 1) := by decide +kernel
theorem dX7_laysBox_242 : decode cX7_laysBox 242 = .ok (.if_icmp .ge 53, 3) := by decide +kernel
theorem dX7_laysBox_245 : decode cX7_laysBox 245 = .ok (.aload_n 0, 1) := by decide +kernel
theorem dX7_laysBox_246 : decode cX7_laysBox 246 = .ok (.iload 9, 2) := by decide +kernel
theorem dX7_laysBox_248 : decode cX7_laysBox 248 = .ok (.invokevirtual 134, 3) := by decide +kernel
theorem dX7_laysBox_251 : decode cX7_laysBox 251 = .ok (.aload_n 0, 1) := by decide +kernel
theorem dX7_laysBox_252 : decode cX7_laysBox 252 = .ok (.invokevirtual 137, 3) := by decide +kernel
theorem dX7_laysBox_255 : decode cX7_laysBox 255 = .ok (.istore 10, 2) := by decide +kernel
theorem dX7_laysBox_257 : decode cX7_laysBox 257 = .ok (.iload 10, 2) := by decide +kernel
theorem dX7_laysBox_259 : decode cX7_laysBox 259 = .ok (.iload 8, 2) := by decide +kernel
theorem dX7_laysBox_261 : decode cX7_laysBox 261 = .ok (.if_icmp .ge 8, 3) := by decide +kernel
theorem dX7_laysBox_264 : decode cX7_laysBox 264 = .ok (.iload 9, 2) := by decide +kernel
theorem dX7_laysBox_266 : decode cX7_laysBox 266 = .ok (.goto 5, 3) := by decide +kernel
theorem dX7_laysBox_269 : decode cX7_laysBox 269 = .ok (.iload 7, 2) := by decide +kernel
theorem dX7_laysBox_271 : decode cX7_laysBox 271 = .ok (.istore 7, 2) := by decide +kernel
theorem dX7_laysBox_273 : decode cX7_laysBox 273 = .ok (.iload 10, 2) := by decide +kernel
theorem dX7_laysBox_275 : decode cX7_laysBox 275 = .ok (.iload 8, 2) := by decide +kernel
theorem dX7_laysBox_277 : decode cX7_laysBox 277 = .ok (.if_icmp .ge 8, 3) := by decide +kernel
theorem dX7_laysBox_280 : decode cX7_laysBox 280 = .ok (.iload 10, 2) := by decide +kernel
theorem dX7_laysBox_282 : decode cX7_laysBox 282 = .ok (.goto 5, 3) := by decide +kernel
theorem dX7_laysBox_285 : decode cX7_laysBox 285 = .ok (.iload 8, 2) := by decide +kernel
theorem dX7_laysBox_287 : decode cX7_laysBox 287 = .ok (.istore 8, 2) := by decide +kernel
theorem dX7_laysBox_289 : decode cX7_laysBox 289 = .ok (.iinc 9 1, 3) := by decide +kernel
theorem dX7_laysBox_292 : decode cX7_laysBox 292 = .ok (.goto (-53), 3) := by decide +kernel
theorem dX7_laysBox_295 : decode cX7_laysBox 295 = .ok (.aload_n 0, 1) := by decide +kernel
theorem dX7_laysBox_296 : decode cX7_laysBox 296 = .ok (.iload 7, 2) := by decide +kernel
theorem dX7_laysBox_298 : decode cX7_laysBox 298 = .ok (.invokevirtual 134, 3) := by decide +kernel
theorem dX7_laysBox_301 : decode cX7_laysBox 301 = .ok (.return_, 1) := by decide +kernel
theorem dX7_areSame_0 : decode cX7_areSame 0 = .ok (.aload_n 0, 1) := by decide +kernel
theorem dX7_areSame_1 : decode cX7_areSame 1 = .ok (.getfield 83, 3) := by decide +kernel
theorem dX7_areSame_4 : decode cX7_areSame 4 = .ok (.aload_n 0, 1) := by decide +kernel
theorem dX7_areSame_5 : decode cX7_areSame 5 = .ok (.getfield 141, 3) := by decide +kernel
theorem dX7_areSame_8 : decode cX7_areSame 8 = .ok (.if_icmp .ne 7, 3) := by decide +kernel
theorem dX7_areSame_11 : decode cX7_areSame 11 = .ok (.iconst 1, 1) := by decide +kernel
theorem dX7_areSame_12 : decode cX7_areSame 12 = .ok (.goto 4, 3) := by decide +kernel
theorem dX7_areSame_15 : decode cX7_areSame 15 = .ok (.iconst 0, 1) := by decide +kernel
theorem dX7_areSame_16 : decode cX7_areSame 16 = .ok (.istore_n 1, 1) := by decide +kernel
theorem dX7_areSame_17 : decode cX7_areSame 17 = .ok (.iconst 0, 1) := by decide +kernel
theorem dX7_areSame_18 : decode cX7_areSame 18 = .ok (.istore_n 2, 1) := by decide +kernel
theorem dX7_areSame_19 : decode cX7_areSame 19 = .ok (.iload_n 2, 1) := by decide +kernel
theorem dX7_areSame_20 : decode cX7_areSame 20 = .ok (.iconst 5, 1) := by decide +kernel
theorem dX7_areSame_21 : decode cX7_areSame 21 = .ok (.aload_n 0, 1) := by decide +kernel
theorem dX7_areSame_22 : decode cX7_areSame 22 = .ok (.getfield 83, 3) := by decide +kernel
theorem dX7_areSame_25 : decode cX7_areSame 25 = .ok (.imul, 1) := by decide +kernel
theorem dX7_areSame_26 : decode cX7_areSame 26 = .ok (.if_icmp .ge 34, 3) := by decide +kernel
theorem dX7_areSame_29 : decode cX7_areSame 29 = .ok (.iload_n 1, 1) := by decide +kernel
theorem dX7_areSame_30 : decode cX7_areSame 30 = .ok (.ifCond .eq 30, 3) := by decide +kernel
theorem dX7_areSame_33 : decode cX7_areSame 33 = .ok (.aload_n 0, 1) := by decide +kernel
theorem dX7_areSame_34 : decode cX7_areSame 34 = .ok (.getfield 29, 3) := by decide +kernel
theorem dX7_areSame_37 : decode cX7_areSame 37 = .ok (.iload_n 2, 1) := by decide +kernel
theorem dX7_areSame_38 : decode cX7_areSame 38 = .ok (.iaload, 1) := by decide +kernel
theorem dX7_areSame_39 : decode cX7_areSame 39 = .ok (.aload_n 0, 1) := by decide +kernel
theorem dX7_areSame_40 : decode cX7_areSame 40 = .ok (.getfield 32, 3) := by decide +kernel
theorem dX7_areSame_43 : decode cX7_areSame 43 = .ok (.iload_n 2, 1) := by decide +kernel
theorem dX7_areSame_44 : decode cX7_areSame 44 = .ok (.iaload, 1) := by decide +kernel
theorem dX7_areSame_45 : decode cX7_areSame 45 = .ok (.if_icmp .ne 7, 3) := by decide +kernel
theorem dX7_areSame_48 : decode cX7_areSame 48 = .ok (.iconst 1, 1) := by decide +kernel
theorem dX7_areSame_49 : decode cX7_areSame 49 = .ok (.goto 4, 3) := by decide +kernel
theorem dX7_areSame_52 : decode cX7_areSame 52 = .ok (.iconst 0, 1) := by decide +kernel
theorem dX7_areSame_53 : decode cX7_areSame 53 = .ok (.istore_n 1, 1) := by decide +kernel
theorem dX7_areSame_54 : decode cX7_areSame 54 = .ok (.iinc 2 1, 3) := by decide +kernel
theorem dX7_areSame_57 : decode cX7_areSame 57 = .ok (.goto (-38), 3) := by decide +kernel
theorem dX7_areSame_60 : decode cX7_areSame 60 = .ok (.iload_n 1, 1) := by decide +kernel
theorem dX7_areSame_61 : decode cX7_areSame 61 = .ok (.ireturn, 1) := by decide +kernel
theorem dX7_round_0 : decode cX7_round 0 = .ok (.iconst 0, 1) := by decide +kernel
theorem dX7_round_1 : decode cX7_round 1 = .ok (.istore_n 1, 1) := by decide +kernel
theorem dX7_round_2 : decode cX7_round 2 = .ok (.iload_n 1, 1) := by decide +kernel
theorem dX7_round_3 : decode cX7_round 3 = .ok (.bipush 40, 2) := by decide +kernel
theorem dX7_round_5 : decode cX7_round 5 = .ok (.if_icmp .ge 47, 3) := by decide +kernel
theorem dX7_round_8 : decode cX7_round 8 = .ok (.aload_n 0, 1) := by decide +kernel
theorem dX7_round_9 : decode cX7_round 9 = .ok (.getfield 25, 3) := by decide +kernel
theorem dX7_round_12 : decode cX7_round 12 = .ok (.iload_n 1, 1) := by decide +kernel
theorem dX7_round_13 : decode cX7_round 13 = .ok (.iload_n 1, 1) := by decide +kernel
theorem dX7_round_14 : decode cX7_round 14 = .ok (.aload_n 0, 1) := by decide +kernel
theorem dX7_round_15 : decode cX7_round 15 = .ok (.getfield 7, 3) := by decide +kernel
theorem dX7_round_18 : decode cX7_round 18 = .ok (.bipush 9, 2) := by decide +kernel
theorem dX7_round_20 : decode cX7_round 20 = .ok (.iaload, 1) := by decide +kernel
theorem dX7_round_21 : decode cX7_round 21 = .ok (.if_icmp .ge 23, 3) := by decide +kernel
theorem dX7_round_24 : decode cX7_round 24 = .ok (.aload_n 0, 1) := by decide +kernel
theorem dX7_round_25 : decode cX7_round 25 = .ok (.iload_n 1, 1) := by decide +kernel
theorem dX7_round_26 : decode cX7_round 26 = .ok (.invokevirtual 80, 3) := by decide +kernel
theorem dX7_round_29 : decode cX7_round 29 = .ok (.ifCond .eq 15, 3) := by decide +kernel
theorem dX7_round_32 : decode cX7_round 32 = .ok (.aload_n 0, 1) := by decide +kernel
theorem dX7_round_33 : decode cX7_round 33 = .ok (.iload_n 1, 1) := by decide +kernel
theorem dX7_round_34 : decode cX7_round 34 = .ok (.invokevirtual 131, 3) := by decide +kernel
theorem dX7_round_37 : decode cX7_round 37 = .ok (.ifCond .ne 7, 3) := by decide +kernel
theorem dX7_round_40 : decode cX7_round 40 = .ok (.iconst 1, 1) := by decide +kernel
theorem dX7_round_41 : decode cX7_round 41 = .ok (.goto 4, 3) := by decide +kernel
theorem dX7_round_44 : decode cX7_round 44 = .ok (.iconst 0, 1) := by decide +kernel
theorem dX7_round_45 : decode cX7_round 45 = .ok (.bastore, 1) := by decide +kernel
theorem dX7_round_46 : decode cX7_round 46 = .ok (.iinc 1 1, 3) := by decide +kernel
theorem dX7_round_49 : decode cX7_round 49 = .ok (.goto (-47), 3) := by decide +kernel
theorem dX7_round_52 : decode cX7_round 52 = .ok (.iconst 0, 1) := by decide +kernel
theorem dX7_round_53 : decode cX7_round 53 = .ok (.istore_n 1, 1) := by decide +kernel
theorem dX7_round_54 : decode cX7_round 54 = .ok (.iload_n 1, 1) := by decide +kernel
theorem dX7_round_55 : decode cX7_round 55 = .ok (.iconst 5, 1) := by decide +kernel
theorem dX7_round_56 : decode cX7_round 56 = .ok (.aload_n 0, 1) := by decide +kernel
theorem dX7_round_57 : decode cX7_round 57 = .ok (.getfield 83, 3) := by decide +kernel
theorem dX7_round_60 : decode cX7_round 60 = .ok (.imul, 1) := by decide +kernel
theorem dX7_round_61 : decode cX7_round 61 = .ok (.if_icmp .ge 21, 3) := by decide +kernel
theorem dX7_round_64 : decode cX7_round 64 = .ok (.aload_n 0, 1) := by decide +kernel
theorem dX7_round_65 : decode cX7_round 65 = .ok (.getfield 32, 3) := by decide +kernel
theorem dX7_round_68 : decode cX7_round 68 = .ok (.iload_n 1, 1) := by decide +kernel
theorem dX7_round_69 : decode cX7_round 69 = .ok (.aload_n 0, 1) := by decide +kernel
theorem dX7_round_70 : decode cX7_round 70 = .ok (.getfield 29, 3) := by decide +kernel
theorem dX7_round_73 : decode cX7_round 73 = .ok (.iload_n 1, 1) := by decide +kernel
theorem dX7_round_74 : decode cX7_round 74 = .ok (.iaload, 1) := by decide +kernel
theorem dX7_round_75 : decode cX7_round 75 = .ok (.iastore, 1) := by decide +kernel
theorem dX7_round_76 : decode cX7_round 76 = .ok (.iinc 1 1, 3) := by decide +kernel
theorem dX7_round_79 : decode cX7_round 79 = .ok (.goto (-25), 3) := by decide +kernel
theorem dX7_round_82 : decode cX7_round 82 = .ok (.aload_n 0, 1) := by decide +kernel
theorem dX7_round_83 : decode cX7_round 83 = .ok (.aload_n 0, 1) := by decide +kernel
theorem dX7_round_84 : decode cX7_round 84 = .ok (.getfield 83, 3) := by decide +kernel
theorem dX7_round_87 : decode cX7_round 87 = .ok (.putfield 141, 3) := by decide +kernel
theorem dX7_round_90 : decode cX7_round 90 = .ok (.aload_n 0, 1) := by decide +kernel
theorem dX7_round_91 : decode cX7_round 91 = .ok (.invokevirtual 144, 3) := by decide +kernel
theorem dX7_round_94 : decode cX7_round 94 = .ok (.aload_n 0, 1) := by decide +kernel
theorem dX7_round_95 : decode cX7_round 95 = .ok (.invokevirtual 147, 3) := by decide +kernel
theorem dX7_round_98 : decode cX7_round 98 = .ok (.aload_n 0, 1) := by decide +kernel
theorem dX7_round_99 : decode cX7_round 99 = .ok (.dup, 1) := by decide +kernel
theorem dX7_round_100 : decode cX7_round 100 = .ok (.getfield 150, 3) := by decide +kernel
theorem dX7_round_103 : decode cX7_round 103 = .ok (.iconst 1, 1) := by decide +kernel
theorem dX7_round_104 : decode cX7_round 104 = .ok (.iadd, 1) := by decide +kernel
theorem dX7_round_105 : decode cX7_round 105 = .ok (.putfield 150, 3) := by decide +kernel
theorem dX7_round_108 : decode cX7_round 108 = .ok (.return_, 1) := by decide +kernel
theorem dX7_makes_0 : decode cX7_makes 0 = .ok (.aload_n 0, 1) := by decide +kernel
theorem dX7_makes_1 : decode cX7_makes 1 = .ok (.iconst (-1), 1) := by decide +kernel
theorem dX7_makes_2 : decode cX7_makes 2 = .ok (.putfield 116, 3) := by decide +kernel
theorem dX7_makes_5 : decode cX7_makes 5 = .ok (.aload_n 0, 1) := by decide +kernel
theorem dX7_makes_6 : decode cX7_makes 6 = .ok (.iconst 0, 1) := by decide +kernel
theorem dX7_makes_7 : decode cX7_makes 7 = .ok (.putfield 83, 3) := by decide +kernel
theorem dX7_makes_10 : decode cX7_makes 10 = .ok (.aload_n 0, 1) := by decide +kernel
theorem dX7_makes_11 : decode cX7_makes 11 = .ok (.iconst 0, 1) := by decide +kernel
theorem dX7_makes_12 : decode cX7_makes 12 = .ok (.putfield 150, 3) := by decide +kernel
theorem dX7_makes_15 : decode cX7_makes 15 = .ok (.aload_n 0, 1) := by decide +kernel
theorem dX7_makes_16 : decode cX7_makes 16 = .ok (.iconst 0, 1) := by decide +kernel
theorem dX7_makes_17 : decode cX7_makes 17 = .ok (.putfield 153, 3) := by decide +kernel
theorem dX7_makes_20 : decode cX7_makes 20 = .ok (.aload_n 0, 1) := by decide +kernel
theorem dX7_makes_21 : decode cX7_makes 21 = .ok (.invokevirtual 157, 3) := by decide +kernel
theorem dX7_makes_24 : decode cX7_makes 24 = .ok (.aload_n 0, 1) := by decide +kernel
theorem dX7_makes_25 : decode cX7_makes 25 = .ok (.aload_n 0, 1) := by decide +kernel
theorem dX7_makes_26 : decode cX7_makes 26 = .ok (.getfield 83, 3) := by decide +kernel
theorem dX7_makes_29 : decode cX7_makes 29 = .ok (.putfield 160, 3) := by decide +kernel
theorem dX7_makes_32 : decode cX7_makes 32 = .ok (.aload_n 0, 1) := by decide +kernel
theorem dX7_makes_33 : decode cX7_makes 33 = .ok (.getfield 150, 3) := by decide +kernel
theorem dX7_makes_36 : decode cX7_makes 36 = .ok (.bipush 8, 2) := by decide +kernel
theorem dX7_makes_38 : decode cX7_makes 38 = .ok (.if_icmp .ge 25, 3) := by decide +kernel
theorem dX7_makes_41 : decode cX7_makes 41 = .ok (.aload_n 0, 1) := by decide +kernel
theorem dX7_makes_42 : decode cX7_makes 42 = .ok (.getfield 153, 3) := by decide +kernel
theorem dX7_makes_45 : decode cX7_makes 45 = .ok (.ifCond .ne 18, 3) := by decide +kernel
theorem dX7_makes_48 : decode cX7_makes 48 = .ok (.aload_n 0, 1) := by decide +kernel
theorem dX7_makes_49 : decode cX7_makes 49 = .ok (.invokevirtual 157, 3) := by decide +kernel
theorem dX7_makes_52 : decode cX7_makes 52 = .ok (.aload_n 0, 1) := by decide +kernel
theorem dX7_makes_53 : decode cX7_makes 53 = .ok (.aload_n 0, 1) := by decide +kernel
theorem dX7_makes_54 : decode cX7_makes 54 = .ok (.invokevirtual 163, 3) := by decide +kernel
theorem dX7_makes_57 : decode cX7_makes 57 = .ok (.putfield 153, 3) := by decide +kernel
theorem dX7_makes_60 : decode cX7_makes 60 = .ok (.goto (-28), 3) := by decide +kernel
theorem dX7_makes_63 : decode cX7_makes 63 = .ok (.return_, 1) := by decide +kernel
theorem dX7_explainedMany_0 : decode cX7_explainedMany 0 = .ok (.iconst 0, 1) := by decide +kernel
theorem dX7_explainedMany_1 : decode cX7_explainedMany 1 = .ok (.istore_n 1, 1) := by decide +kernel
theorem dX7_explainedMany_2 : decode cX7_explainedMany 2 = .ok (.iconst 0, 1) := by decide +kernel
theorem dX7_explainedMany_3 : decode cX7_explainedMany 3 = .ok (.istore_n 2, 1) := by decide +kernel
theorem dX7_explainedMany_4 : decode cX7_explainedMany 4 = .ok (.iload_n 2, 1) := by decide +kernel
theorem dX7_explainedMany_5 : decode cX7_explainedMany 5 = .ok (.bipush 40, 2) := by decide +kernel
theorem dX7_explainedMany_7 : decode cX7_explainedMany 7 = .ok (.if_icmp .ge 26, 3) := by decide +kernel
theorem dX7_explainedMany_10 : decode cX7_explainedMany 10 = .ok (.iload_n 1, 1) := by decide +kernel
theorem dX7_explainedMany_11 : decode cX7_explainedMany 11 = .ok (.aload_n 0, 1) := by decide +kernel
theorem dX7_explainedMany_12 : decode cX7_explainedMany 12 = .ok (.getfield 25, 3) := by decide +kernel
theorem dX7_explainedMany_15 : decode cX7_explainedMany 15 = .ok (.iload_n 2, 1) := by decide +kernel
theorem dX7_explainedMany_16 : decode cX7_explainedMany 16 = .ok (.baload, 1) := by decide +kernel
theorem dX7_explainedMany_17 : decode cX7_explainedMany 17 = .ok (.ifCond .eq 7, 3) := by decide +kernel
theorem dX7_explainedMany_20 : decode cX7_explainedMany 20 = .ok (.iconst 1, 1) := by decide +kernel
theorem dX7_explainedMany_21 : decode cX7_explainedMany 21 = .ok (.goto 4, 3) := by decide +kernel
theorem dX7_explainedMany_24 : decode cX7_explainedMany 24 = .ok (.iconst 0, 1) := by decide +kernel
theorem dX7_explainedMany_25 : decode cX7_explainedMany 25 = .ok (.iadd, 1) := by decide +kernel
theorem dX7_explainedMany_26 : decode cX7_explainedMany 26 = .ok (.istore_n 1, 1) := by decide +kernel
theorem dX7_explainedMany_27 : decode cX7_explainedMany 27 = .ok (.iinc 2 1, 3) := by decide +kernel
theorem dX7_explainedMany_30 : decode cX7_explainedMany 30 = .ok (.goto (-26), 3) := by decide +kernel
theorem dX7_explainedMany_33 : decode cX7_explainedMany 33 = .ok (.iload_n 1, 1) := by decide +kernel
theorem dX7_explainedMany_34 : decode cX7_explainedMany 34 = .ok (.ireturn, 1) := by decide +kernel
theorem dX7_addSign_0 : decode cX7_addSign 0 = .ok (.iload_n 1, 1) := by decide +kernel
theorem dX7_addSign_1 : decode cX7_addSign 1 = .ok (.invokestatic 167, 3) := by decide +kernel
theorem dX7_addSign_4 : decode cX7_addSign 4 = .ok (.ifCond .ne 9, 3) := by decide +kernel
theorem dX7_addSign_7 : decode cX7_addSign 7 = .ok (.aload_n 0, 1) := by decide +kernel
theorem dX7_addSign_8 : decode cX7_addSign 8 = .ok (.iconst 1, 1) := by decide +kernel
theorem dX7_addSign_9 : decode cX7_addSign 9 = .ok (.invokevirtual 170, 3) := by decide +kernel
theorem dX7_addSign_12 : decode cX7_addSign 12 = .ok (.ireturn, 1) := by decide +kernel
theorem dX7_addSign_13 : decode cX7_addSign 13 = .ok (.iload_n 2, 1) := by decide +kernel
theorem dX7_addSign_14 : decode cX7_addSign 14 = .ok (.iconst 0, 1) := by decide +kernel
theorem dX7_addSign_15 : decode cX7_addSign 15 = .ok (.sipush 199, 3) := by decide +kernel
theorem dX7_addSign_18 : decode cX7_addSign 18 = .ok (.invokestatic 68, 3) := by decide +kernel
theorem dX7_addSign_21 : decode cX7_addSign 21 = .ok (.ifCond .eq 36, 3) := by decide +kernel
theorem dX7_addSign_24 : decode cX7_addSign 24 = .ok (.iload_n 3, 1) := by decide +kernel
theorem dX7_addSign_25 : decode cX7_addSign 25 = .ok (.iconst 0, 1) := by decide +kernel
theorem dX7_addSign_26 : decode cX7_addSign 26 = .ok (.sipush 199, 3) := by decide +kernel
theorem dX7_addSign_29 : decode cX7_addSign 29 = .ok (.invokestatic 68, 3) := by decide +kernel
theorem dX7_addSign_32 : decode cX7_addSign 32 = .ok (.ifCond .eq 25, 3) := by decide +kernel
theorem dX7_addSign_35 : decode cX7_addSign 35 = .ok (.iload 4, 2) := by decide +kernel
theorem dX7_addSign_37 : decode cX7_addSign 37 = .ok (.iconst 0, 1) := by decide +kernel
theorem dX7_addSign_38 : decode cX7_addSign 38 = .ok (.sipush 9999, 3) := by decide +kernel
theorem dX7_addSign_41 : decode cX7_addSign 41 = .ok (.invokestatic 68, 3) := by decide +kernel
theorem dX7_addSign_44 : decode cX7_addSign 44 = .ok (.ifCond .eq 13, 3) := by decide +kernel
theorem dX7_addSign_47 : decode cX7_addSign 47 = .ok (.iload 5, 2) := by decide +kernel
theorem dX7_addSign_49 : decode cX7_addSign 49 = .ok (.iconst 0, 1) := by decide +kernel
theorem dX7_addSign_50 : decode cX7_addSign 50 = .ok (.iconst 5, 1) := by decide +kernel
theorem dX7_addSign_51 : decode cX7_addSign 51 = .ok (.invokestatic 68, 3) := by decide +kernel
theorem dX7_addSign_54 : decode cX7_addSign 54 = .ok (.ifCond .ne 9, 3) := by decide +kernel
theorem dX7_addSign_57 : decode cX7_addSign 57 = .ok (.aload_n 0, 1) := by decide +kernel
theorem dX7_addSign_58 : decode cX7_addSign 58 = .ok (.iconst 2, 1) := by decide +kernel
theorem dX7_addSign_59 : decode cX7_addSign 59 = .ok (.invokevirtual 170, 3) := by decide +kernel
theorem dX7_addSign_62 : decode cX7_addSign 62 = .ok (.ireturn, 1) := by decide +kernel
theorem dX7_addSign_63 : decode cX7_addSign 63 = .ok (.aload_n 0, 1) := by decide +kernel
theorem dX7_addSign_64 : decode cX7_addSign 64 = .ok (.getfield 7, 3) := by decide +kernel
theorem dX7_addSign_67 : decode cX7_addSign 67 = .ok (.bipush 9, 2) := by decide +kernel
theorem dX7_addSign_69 : decode cX7_addSign 69 = .ok (.iaload, 1) := by decide +kernel
theorem dX7_addSign_70 : decode cX7_addSign 70 = .ok (.bipush 40, 2) := by decide +kernel
theorem dX7_addSign_72 : decode cX7_addSign 72 = .ok (.if_icmp .ne 9, 3) := by decide +kernel
theorem dX7_addSign_75 : decode cX7_addSign 75 = .ok (.aload_n 0, 1) := by decide +kernel
theorem dX7_addSign_76 : decode cX7_addSign 76 = .ok (.iconst 3, 1) := by decide +kernel
theorem dX7_addSign_77 : decode cX7_addSign 77 = .ok (.invokevirtual 170, 3) := by decide +kernel
theorem dX7_addSign_80 : decode cX7_addSign 80 = .ok (.ireturn, 1) := by decide +kernel
theorem dX7_addSign_81 : decode cX7_addSign 81 = .ok (.aload_n 0, 1) := by decide +kernel
theorem dX7_addSign_82 : decode cX7_addSign 82 = .ok (.invokevirtual 173, 3) := by decide +kernel
theorem dX7_addSign_85 : decode cX7_addSign 85 = .ok (.bipush 111, 2) := by decide +kernel
theorem dX7_addSign_87 : decode cX7_addSign 87 = .ok (.iconst 5, 1) := by decide +kernel
theorem dX7_addSign_88 : decode cX7_addSign 88 = .ok (.aload_n 0, 1) := by decide +kernel
theorem dX7_addSign_89 : decode cX7_addSign 89 = .ok (.getfield 7, 3) := by decide +kernel
theorem dX7_addSign_92 : decode cX7_addSign 92 = .ok (.bipush 9, 2) := by decide +kernel
theorem dX7_addSign_94 : decode cX7_addSign 94 = .ok (.iaload, 1) := by decide +kernel
theorem dX7_addSign_95 : decode cX7_addSign 95 = .ok (.imul, 1) := by decide +kernel
theorem dX7_addSign_96 : decode cX7_addSign 96 = .ok (.iadd, 1) := by decide +kernel
theorem dX7_addSign_97 : decode cX7_addSign 97 = .ok (.istore 6, 2) := by decide +kernel
theorem dX7_addSign_99 : decode cX7_addSign 99 = .ok (.aload_n 0, 1) := by decide +kernel
theorem dX7_addSign_100 : decode cX7_addSign 100 = .ok (.getfield 7, 3) := by decide +kernel
theorem dX7_addSign_103 : decode cX7_addSign 103 = .ok (.iload 6, 2) := by decide +kernel
theorem dX7_addSign_105 : decode cX7_addSign 105 = .ok (.iload_n 1, 1) := by decide +kernel
theorem dX7_addSign_106 : decode cX7_addSign 106 = .ok (.iastore, 1) := by decide +kernel
theorem dX7_addSign_107 : decode cX7_addSign 107 = .ok (.aload_n 0, 1) := by decide +kernel
theorem dX7_addSign_108 : decode cX7_addSign 108 = .ok (.getfield 7, 3) := by decide +kernel
theorem dX7_addSign_111 : decode cX7_addSign 111 = .ok (.iload 6, 2) := by decide +kernel
theorem dX7_addSign_113 : decode cX7_addSign 113 = .ok (.iconst 1, 1) := by decide +kernel
theorem dX7_addSign_114 : decode cX7_addSign 114 = .ok (.iadd, 1) := by decide +kernel
theorem dX7_addSign_115 : decode cX7_addSign 115 = .ok (.iload_n 2, 1) := by decide +kernel
theorem dX7_addSign_116 : decode cX7_addSign 116 = .ok (.iastore, 1) := by decide +kernel
theorem dX7_addSign_117 : decode cX7_addSign 117 = .ok (.aload_n 0, 1) := by decide +kernel
theorem dX7_addSign_118 : decode cX7_addSign 118 = .ok (.getfield 7, 3) := by decide +kernel
theorem dX7_addSign_121 : decode cX7_addSign 121 = .ok (.iload 6, 2) := by decide +kernel
theorem dX7_addSign_123 : decode cX7_addSign 123 = .ok (.iconst 2, 1) := by decide +kernel
theorem dX7_addSign_124 : decode cX7_addSign 124 = .ok (.iadd, 1) := by decide +kernel
theorem dX7_addSign_125 : decode cX7_addSign 125 = .ok (.iload_n 3, 1) := by decide +kernel
theorem dX7_addSign_126 : decode cX7_addSign 126 = .ok (.iastore, 1) := by decide +kernel
theorem dX7_addSign_127 : decode cX7_addSign 127 = .ok (.aload_n 0, 1) := by decide +kernel
theorem dX7_addSign_128 : decode cX7_addSign 128 = .ok (.getfield 7, 3) := by decide +kernel
theorem dX7_addSign_131 : decode cX7_addSign 131 = .ok (.iload 6, 2) := by decide +kernel
theorem dX7_addSign_133 : decode cX7_addSign 133 = .ok (.iconst 3, 1) := by decide +kernel
theorem dX7_addSign_134 : decode cX7_addSign 134 = .ok (.iadd, 1) := by decide +kernel
theorem dX7_addSign_135 : decode cX7_addSign 135 = .ok (.iload 4, 2) := by decide +kernel
theorem dX7_addSign_137 : decode cX7_addSign 137 = .ok (.iastore, 1) := by decide +kernel
theorem dX7_addSign_138 : decode cX7_addSign 138 = .ok (.aload_n 0, 1) := by decide +kernel
theorem dX7_addSign_139 : decode cX7_addSign 139 = .ok (.getfield 7, 3) := by decide +kernel
theorem dX7_addSign_142 : decode cX7_addSign 142 = .ok (.iload 6, 2) := by decide +kernel
theorem dX7_addSign_144 : decode cX7_addSign 144 = .ok (.iconst 4, 1) := by decide +kernel
theorem dX7_addSign_145 : decode cX7_addSign 145 = .ok (.iadd, 1) := by decide +kernel
theorem dX7_addSign_146 : decode cX7_addSign 146 = .ok (.iload 5, 2) := by decide +kernel
theorem dX7_addSign_148 : decode cX7_addSign 148 = .ok (.iastore, 1) := by decide +kernel
theorem dX7_addSign_149 : decode cX7_addSign 149 = .ok (.aload_n 0, 1) := by decide +kernel
theorem dX7_addSign_150 : decode cX7_addSign 150 = .ok (.getfield 7, 3) := by decide +kernel
theorem dX7_addSign_153 : decode cX7_addSign 153 = .ok (.bipush 9, 2) := by decide +kernel
theorem dX7_addSign_155 : decode cX7_addSign 155 = .ok (.dup2, 1) := by decide +kernel
theorem dX7_addSign_156 : decode cX7_addSign 156 = .ok (.iaload, 1) := by decide +kernel
theorem dX7_addSign_157 : decode cX7_addSign 157 = .ok (.iconst 1, 1) := by decide +kernel
theorem dX7_addSign_158 : decode cX7_addSign 158 = .ok (.iadd, 1) := by decide +kernel
theorem dX7_addSign_159 : decode cX7_addSign 159 = .ok (.iastore, 1) := by decide +kernel
theorem dX7_addSign_160 : decode cX7_addSign 160 = .ok (.aload_n 0, 1) := by decide +kernel
theorem dX7_addSign_161 : decode cX7_addSign 161 = .ok (.aload_n 0, 1) := by decide +kernel
theorem dX7_addSign_162 : decode cX7_addSign 162 = .ok (.getfield 7, 3) := by decide +kernel
theorem dX7_addSign_165 : decode cX7_addSign 165 = .ok (.bipush 9, 2) := by decide +kernel
theorem dX7_addSign_167 : decode cX7_addSign 167 = .ok (.iaload, 1) := by decide +kernel
theorem dX7_addSign_168 : decode cX7_addSign 168 = .ok (.iconst 1, 1) := by decide +kernel
theorem dX7_addSign_169 : decode cX7_addSign 169 = .ok (.isub, 1) := by decide +kernel
theorem dX7_addSign_170 : decode cX7_addSign 170 = .ok (.invokevirtual 176, 3) := by decide +kernel
theorem dX7_addSign_173 : decode cX7_addSign 173 = .ok (.ireturn, 1) := by decide +kernel
theorem dX7_drops_0 : decode cX7_drops 0 = .ok (.aload_n 0, 1) := by decide +kernel
theorem dX7_drops_1 : decode cX7_drops 1 = .ok (.getfield 7, 3) := by decide +kernel
theorem dX7_drops_4 : decode cX7_drops 4 = .ok (.bipush 9, 2) := by decide +kernel
theorem dX7_drops_6 : decode cX7_drops 6 = .ok (.dup2, 1) := by decide +kernel
theorem dX7_drops_7 : decode cX7_drops 7 = .ok (.iaload, 1) := by decide +kernel
theorem dX7_drops_8 : decode cX7_drops 8 = .ok (.iconst 1, 1) := by decide +kernel
theorem dX7_drops_9 : decode cX7_drops 9 = .ok (.isub, 1) := by decide +kernel
theorem dX7_drops_10 : decode cX7_drops 10 = .ok (.iastore, 1) := by decide +kernel
theorem dX7_drops_11 : decode cX7_drops 11 = .ok (.bipush 111, 2) := by decide +kernel
theorem dX7_drops_13 : decode cX7_drops 13 = .ok (.iconst 5, 1) := by decide +kernel
theorem dX7_drops_14 : decode cX7_drops 14 = .ok (.iload_n 1, 1) := by decide +kernel
theorem dX7_drops_15 : decode cX7_drops 15 = .ok (.imul, 1) := by decide +kernel
theorem dX7_drops_16 : decode cX7_drops 16 = .ok (.iadd, 1) := by decide +kernel
theorem dX7_drops_17 : decode cX7_drops 17 = .ok (.istore_n 2, 1) := by decide +kernel
theorem dX7_drops_18 : decode cX7_drops 18 = .ok (.iload_n 2, 1) := by decide +kernel
theorem dX7_drops_19 : decode cX7_drops 19 = .ok (.bipush 111, 2) := by decide +kernel
theorem dX7_drops_21 : decode cX7_drops 21 = .ok (.iconst 5, 1) := by decide +kernel
theorem dX7_drops_22 : decode cX7_drops 22 = .ok (.aload_n 0, 1) := by decide +kernel
theorem dX7_drops_23 : decode cX7_drops 23 = .ok (.getfield 7, 3) := by decide +kernel
theorem dX7_drops_26 : decode cX7_drops 26 = .ok (.bipush 9, 2) := by decide +kernel
theorem dX7_drops_28 : decode cX7_drops 28 = .ok (.iaload, 1) := by decide +kernel
theorem dX7_drops_29 : decode cX7_drops 29 = .ok (.imul, 1) := by decide +kernel
theorem dX7_drops_30 : decode cX7_drops 30 = .ok (.iadd, 1) := by decide +kernel
theorem dX7_drops_31 : decode cX7_drops 31 = .ok (.if_icmp .ge 23, 3) := by decide +kernel
theorem dX7_drops_34 : decode cX7_drops 34 = .ok (.aload_n 0, 1) := by decide +kernel
theorem dX7_drops_35 : decode cX7_drops 35 = .ok (.getfield 7, 3) := by decide +kernel
theorem dX7_drops_38 : decode cX7_drops 38 = .ok (.iload_n 2, 1) := by decide +kernel
theorem dX7_drops_39 : decode cX7_drops 39 = .ok (.aload_n 0, 1) := by decide +kernel
theorem dX7_drops_40 : decode cX7_drops 40 = .ok (.getfield 7, 3) := by decide +kernel
theorem dX7_drops_43 : decode cX7_drops 43 = .ok (.iload_n 2, 1) := by decide +kernel
theorem dX7_drops_44 : decode cX7_drops 44 = .ok (.iconst 5, 1) := by decide +kernel
theorem dX7_drops_45 : decode cX7_drops 45 = .ok (.iadd, 1) := by decide +kernel
theorem dX7_drops_46 : decode cX7_drops 46 = .ok (.iaload, 1) := by decide +kernel
theorem dX7_drops_47 : decode cX7_drops 47 = .ok (.iastore, 1) := by decide +kernel
theorem dX7_drops_48 : decode cX7_drops 48 = .ok (.iinc 2 1, 3) := by decide +kernel
theorem dX7_drops_51 : decode cX7_drops 51 = .ok (.goto (-33), 3) := by decide +kernel
theorem dX7_drops_54 : decode cX7_drops 54 = .ok (.return_, 1) := by decide +kernel
theorem dX7_removeSign_0 : decode cX7_removeSign 0 = .ok (.aload_n 0, 1) := by decide +kernel
theorem dX7_removeSign_1 : decode cX7_removeSign 1 = .ok (.iload_n 1, 1) := by decide +kernel
theorem dX7_removeSign_2 : decode cX7_removeSign 2 = .ok (.invokevirtual 179, 3) := by decide +kernel
theorem dX7_removeSign_5 : decode cX7_removeSign 5 = .ok (.ifCond .ne 9, 3) := by decide +kernel
theorem dX7_removeSign_8 : decode cX7_removeSign 8 = .ok (.aload_n 0, 1) := by decide +kernel
theorem dX7_removeSign_9 : decode cX7_removeSign 9 = .ok (.iconst 1, 1) := by decide +kernel
theorem dX7_removeSign_10 : decode cX7_removeSign 10 = .ok (.invokevirtual 170, 3) := by decide +kernel
theorem dX7_removeSign_13 : decode cX7_removeSign 13 = .ok (.ireturn, 1) := by decide +kernel
theorem dX7_removeSign_14 : decode cX7_removeSign 14 = .ok (.aload_n 0, 1) := by decide +kernel
theorem dX7_removeSign_15 : decode cX7_removeSign 15 = .ok (.invokevirtual 173, 3) := by decide +kernel
theorem dX7_removeSign_18 : decode cX7_removeSign 18 = .ok (.aload_n 0, 1) := by decide +kernel
theorem dX7_removeSign_19 : decode cX7_removeSign 19 = .ok (.iload_n 1, 1) := by decide +kernel
theorem dX7_removeSign_20 : decode cX7_removeSign 20 = .ok (.invokevirtual 182, 3) := by decide +kernel
theorem dX7_removeSign_23 : decode cX7_removeSign 23 = .ok (.aload_n 0, 1) := by decide +kernel
theorem dX7_removeSign_24 : decode cX7_removeSign 24 = .ok (.aload_n 0, 1) := by decide +kernel
theorem dX7_removeSign_25 : decode cX7_removeSign 25 = .ok (.getfield 7, 3) := by decide +kernel
theorem dX7_removeSign_28 : decode cX7_removeSign 28 = .ok (.bipush 9, 2) := by decide +kernel
theorem dX7_removeSign_30 : decode cX7_removeSign 30 = .ok (.iaload, 1) := by decide +kernel
theorem dX7_removeSign_31 : decode cX7_removeSign 31 = .ok (.invokevirtual 176, 3) := by decide +kernel
theorem dX7_removeSign_34 : decode cX7_removeSign 34 = .ok (.ireturn, 1) := by decide +kernel
theorem dX7_moveSign_0 : decode cX7_moveSign 0 = .ok (.aload_n 0, 1) := by decide +kernel
theorem dX7_moveSign_1 : decode cX7_moveSign 1 = .ok (.iload_n 1, 1) := by decide +kernel
theorem dX7_moveSign_2 : decode cX7_moveSign 2 = .ok (.invokevirtual 179, 3) := by decide +kernel
theorem dX7_moveSign_5 : decode cX7_moveSign 5 = .ok (.ifCond .ne 9, 3) := by decide +kernel
theorem dX7_moveSign_8 : decode cX7_moveSign 8 = .ok (.aload_n 0, 1) := by decide +kernel
theorem dX7_moveSign_9 : decode cX7_moveSign 9 = .ok (.iconst 1, 1) := by decide +kernel
theorem dX7_moveSign_10 : decode cX7_moveSign 10 = .ok (.invokevirtual 170, 3) := by decide +kernel
theorem dX7_moveSign_13 : decode cX7_moveSign 13 = .ok (.ireturn, 1) := by decide +kernel
theorem dX7_moveSign_14 : decode cX7_moveSign 14 = .ok (.iload_n 2, 1) := by decide +kernel
theorem dX7_moveSign_15 : decode cX7_moveSign 15 = .ok (.iconst 0, 1) := by decide +kernel
theorem dX7_moveSign_16 : decode cX7_moveSign 16 = .ok (.sipush 199, 3) := by decide +kernel
theorem dX7_moveSign_19 : decode cX7_moveSign 19 = .ok (.invokestatic 68, 3) := by decide +kernel
theorem dX7_moveSign_22 : decode cX7_moveSign 22 = .ok (.ifCond .eq 14, 3) := by decide +kernel
theorem dX7_moveSign_25 : decode cX7_moveSign 25 = .ok (.iload_n 3, 1) := by decide +kernel
theorem dX7_moveSign_26 : decode cX7_moveSign 26 = .ok (.iconst 0, 1) := by decide +kernel
theorem dX7_moveSign_27 : decode cX7_moveSign 27 = .ok (.sipush 199, 3) := by decide +kernel
theorem dX7_moveSign_30 : decode cX7_moveSign 30 = .ok (.invokestatic 68, 3) := by decide +kernel
theorem dX7_moveSign_33 : decode cX7_moveSign 33 = .ok (.ifCond .ne 9, 3) := by decide +kernel
theorem dX7_moveSign_36 : decode cX7_moveSign 36 = .ok (.aload_n 0, 1) := by decide +kernel
theorem dX7_moveSign_37 : decode cX7_moveSign 37 = .ok (.iconst 2, 1) := by decide +kernel
theorem dX7_moveSign_38 : decode cX7_moveSign 38 = .ok (.invokevirtual 170, 3) := by decide +kernel
theorem dX7_moveSign_41 : decode cX7_moveSign 41 = .ok (.ireturn, 1) := by decide +kernel
theorem dX7_moveSign_42 : decode cX7_moveSign 42 = .ok (.aload_n 0, 1) := by decide +kernel
theorem dX7_moveSign_43 : decode cX7_moveSign 43 = .ok (.invokevirtual 173, 3) := by decide +kernel
theorem dX7_moveSign_46 : decode cX7_moveSign 46 = .ok (.aload_n 0, 1) := by decide +kernel
theorem dX7_moveSign_47 : decode cX7_moveSign 47 = .ok (.iload_n 1, 1) := by decide +kernel
theorem dX7_moveSign_48 : decode cX7_moveSign 48 = .ok (.iconst 1, 1) := by decide +kernel
theorem dX7_moveSign_49 : decode cX7_moveSign 49 = .ok (.invokevirtual 72, 3) := by decide +kernel
theorem dX7_moveSign_52 : decode cX7_moveSign 52 = .ok (.istore 4, 2) := by decide +kernel
theorem dX7_moveSign_54 : decode cX7_moveSign 54 = .ok (.aload_n 0, 1) := by decide +kernel
theorem dX7_moveSign_55 : decode cX7_moveSign 55 = .ok (.getfield 7, 3) := by decide +kernel
theorem dX7_moveSign_58 : decode cX7_moveSign 58 = .ok (.bipush 111, 2) := by decide +kernel
theorem dX7_moveSign_60 : decode cX7_moveSign 60 = .ok (.iconst 5, 1) := by decide +kernel
theorem dX7_moveSign_61 : decode cX7_moveSign 61 = .ok (.iload_n 1, 1) := by decide +kernel
theorem dX7_moveSign_62 : decode cX7_moveSign 62 = .ok (.imul, 1) := by decide +kernel
theorem dX7_moveSign_63 : decode cX7_moveSign 63 = .ok (.iadd, 1) := by decide +kernel
theorem dX7_moveSign_64 : decode cX7_moveSign 64 = .ok (.iconst 1, 1) := by decide +kernel
theorem dX7_moveSign_65 : decode cX7_moveSign 65 = .ok (.iadd, 1) := by decide +kernel
theorem dX7_moveSign_66 : decode cX7_moveSign 66 = .ok (.iload_n 2, 1) := by decide +kernel
theorem dX7_moveSign_67 : decode cX7_moveSign 67 = .ok (.iastore, 1) := by decide +kernel
theorem dX7_moveSign_68 : decode cX7_moveSign 68 = .ok (.aload_n 0, 1) := by decide +kernel
theorem dX7_moveSign_69 : decode cX7_moveSign 69 = .ok (.getfield 7, 3) := by decide +kernel
theorem dX7_moveSign_72 : decode cX7_moveSign 72 = .ok (.bipush 111, 2) := by decide +kernel
theorem dX7_moveSign_74 : decode cX7_moveSign 74 = .ok (.iconst 5, 1) := by decide +kernel
theorem dX7_moveSign_75 : decode cX7_moveSign 75 = .ok (.iload_n 1, 1) := by decide +kernel
theorem dX7_moveSign_76 : decode cX7_moveSign 76 = .ok (.imul, 1) := by decide +kernel
theorem dX7_moveSign_77 : decode cX7_moveSign 77 = .ok (.iadd, 1) := by decide +kernel
theorem dX7_moveSign_78 : decode cX7_moveSign 78 = .ok (.iconst 2, 1) := by decide +kernel
theorem dX7_moveSign_79 : decode cX7_moveSign 79 = .ok (.iadd, 1) := by decide +kernel
theorem dX7_moveSign_80 : decode cX7_moveSign 80 = .ok (.iload_n 3, 1) := by decide +kernel
theorem dX7_moveSign_81 : decode cX7_moveSign 81 = .ok (.iastore, 1) := by decide +kernel
theorem dX7_moveSign_82 : decode cX7_moveSign 82 = .ok (.aload_n 0, 1) := by decide +kernel
theorem dX7_moveSign_83 : decode cX7_moveSign 83 = .ok (.iload 4, 2) := by decide +kernel
theorem dX7_moveSign_85 : decode cX7_moveSign 85 = .ok (.invokevirtual 176, 3) := by decide +kernel
theorem dX7_moveSign_88 : decode cX7_moveSign 88 = .ok (.ireturn, 1) := by decide +kernel
theorem dX7_setWindow_0 : decode cX7_setWindow 0 = .ok (.iload_n 1, 1) := by decide +kernel
theorem dX7_setWindow_1 : decode cX7_setWindow 1 = .ok (.iconst 0, 1) := by decide +kernel
theorem dX7_setWindow_2 : decode cX7_setWindow 2 = .ok (.sipush 199, 3) := by decide +kernel
theorem dX7_setWindow_5 : decode cX7_setWindow 5 = .ok (.invokestatic 68, 3) := by decide +kernel
theorem dX7_setWindow_8 : decode cX7_setWindow 8 = .ok (.ifCond .eq 49, 3) := by decide +kernel
theorem dX7_setWindow_11 : decode cX7_setWindow 11 = .ok (.iload_n 2, 1) := by decide +kernel
theorem dX7_setWindow_12 : decode cX7_setWindow 12 = .ok (.iconst 0, 1) := by decide +kernel
theorem dX7_setWindow_13 : decode cX7_setWindow 13 = .ok (.sipush 199, 3) := by decide +kernel
theorem dX7_setWindow_16 : decode cX7_setWindow 16 = .ok (.invokestatic 68, 3) := by decide +kernel
theorem dX7_setWindow_19 : decode cX7_setWindow 19 = .ok (.ifCond .eq 38, 3) := by decide +kernel
theorem dX7_setWindow_22 : decode cX7_setWindow 22 = .ok (.iload_n 3, 1) := by decide +kernel
theorem dX7_setWindow_23 : decode cX7_setWindow 23 = .ok (.bipush 10, 2) := by decide +kernel
theorem dX7_setWindow_25 : decode cX7_setWindow 25 = .ok (.sipush 200, 3) := by decide +kernel
theorem dX7_setWindow_28 : decode cX7_setWindow 28 = .ok (.invokestatic 68, 3) := by decide +kernel
theorem dX7_setWindow_31 : decode cX7_setWindow 31 = .ok (.ifCond .eq 26, 3) := by decide +kernel
theorem dX7_setWindow_34 : decode cX7_setWindow 34 = .ok (.iload 4, 2) := by decide +kernel
theorem dX7_setWindow_36 : decode cX7_setWindow 36 = .ok (.bipush 10, 2) := by decide +kernel
theorem dX7_setWindow_38 : decode cX7_setWindow 38 = .ok (.sipush 200, 3) := by decide +kernel
theorem dX7_setWindow_41 : decode cX7_setWindow 41 = .ok (.invokestatic 68, 3) := by decide +kernel
theorem dX7_setWindow_44 : decode cX7_setWindow 44 = .ok (.ifCond .eq 13, 3) := by decide +kernel
theorem dX7_setWindow_47 : decode cX7_setWindow 47 = .ok (.iload 5, 2) := by decide +kernel
theorem dX7_setWindow_49 : decode cX7_setWindow 49 = .ok (.iconst 0, 1) := by decide +kernel
theorem dX7_setWindow_50 : decode cX7_setWindow 50 = .ok (.iconst 5, 1) := by decide +kernel
theorem dX7_setWindow_51 : decode cX7_setWindow 51 = .ok (.invokestatic 68, 3) := by decide +kernel
theorem dX7_setWindow_54 : decode cX7_setWindow 54 = .ok (.ifCond .ne 9, 3) := by decide +kernel
theorem dX7_setWindow_57 : decode cX7_setWindow 57 = .ok (.aload_n 0, 1) := by decide +kernel
theorem dX7_setWindow_58 : decode cX7_setWindow 58 = .ok (.iconst 1, 1) := by decide +kernel
theorem dX7_setWindow_59 : decode cX7_setWindow 59 = .ok (.invokevirtual 170, 3) := by decide +kernel
theorem dX7_setWindow_62 : decode cX7_setWindow 62 = .ok (.ireturn, 1) := by decide +kernel
theorem dX7_setWindow_63 : decode cX7_setWindow 63 = .ok (.aload_n 0, 1) := by decide +kernel
theorem dX7_setWindow_64 : decode cX7_setWindow 64 = .ok (.invokevirtual 173, 3) := by decide +kernel
theorem dX7_setWindow_67 : decode cX7_setWindow 67 = .ok (.aload_n 0, 1) := by decide +kernel
theorem dX7_setWindow_68 : decode cX7_setWindow 68 = .ok (.getfield 7, 3) := by decide +kernel
theorem dX7_setWindow_71 : decode cX7_setWindow 71 = .ok (.iconst 4, 1) := by decide +kernel
theorem dX7_setWindow_72 : decode cX7_setWindow 72 = .ok (.iload_n 1, 1) := by decide +kernel
theorem dX7_setWindow_73 : decode cX7_setWindow 73 = .ok (.iastore, 1) := by decide +kernel
theorem dX7_setWindow_74 : decode cX7_setWindow 74 = .ok (.aload_n 0, 1) := by decide +kernel
theorem dX7_setWindow_75 : decode cX7_setWindow 75 = .ok (.getfield 7, 3) := by decide +kernel
theorem dX7_setWindow_78 : decode cX7_setWindow 78 = .ok (.iconst 5, 1) := by decide +kernel
theorem dX7_setWindow_79 : decode cX7_setWindow 79 = .ok (.iload_n 2, 1) := by decide +kernel
theorem dX7_setWindow_80 : decode cX7_setWindow 80 = .ok (.iastore, 1) := by decide +kernel
theorem dX7_setWindow_81 : decode cX7_setWindow 81 = .ok (.aload_n 0, 1) := by decide +kernel
theorem dX7_setWindow_82 : decode cX7_setWindow 82 = .ok (.getfield 7, 3) := by decide +kernel
theorem dX7_setWindow_85 : decode cX7_setWindow 85 = .ok (.bipush 6, 2) := by decide +kernel
theorem dX7_setWindow_87 : decode cX7_setWindow 87 = .ok (.iload_n 3, 1) := by decide +kernel
theorem dX7_setWindow_88 : decode cX7_setWindow 88 = .ok (.iastore, 1) := by decide +kernel
theorem dX7_setWindow_89 : decode cX7_setWindow 89 = .ok (.aload_n 0, 1) := by decide +kernel
theorem dX7_setWindow_90 : decode cX7_setWindow 90 = .ok (.getfield 7, 3) := by decide +kernel
theorem dX7_setWindow_93 : decode cX7_setWindow 93 = .ok (.bipush 7, 2) := by decide +kernel
theorem dX7_setWindow_95 : decode cX7_setWindow 95 = .ok (.iload 4, 2) := by decide +kernel
theorem dX7_setWindow_97 : decode cX7_setWindow 97 = .ok (.iastore, 1) := by decide +kernel
theorem dX7_setWindow_98 : decode cX7_setWindow 98 = .ok (.aload_n 0, 1) := by decide +kernel
theorem dX7_setWindow_99 : decode cX7_setWindow 99 = .ok (.getfield 7, 3) := by decide +kernel
theorem dX7_setWindow_102 : decode cX7_setWindow 102 = .ok (.bipush 8, 2) := by decide +kernel
theorem dX7_setWindow_104 : decode cX7_setWindow 104 = .ok (.iload 5, 2) := by decide +kernel
theorem dX7_setWindow_106 : decode cX7_setWindow 106 = .ok (.iastore, 1) := by decide +kernel
theorem dX7_setWindow_107 : decode cX7_setWindow 107 = .ok (.aload_n 0, 1) := by decide +kernel
theorem dX7_setWindow_108 : decode cX7_setWindow 108 = .ok (.aload_n 0, 1) := by decide +kernel
theorem dX7_setWindow_109 : decode cX7_setWindow 109 = .ok (.invokevirtual 185, 3) := by decide +kernel
theorem dX7_setWindow_112 : decode cX7_setWindow 112 = .ok (.invokevirtual 176, 3) := by decide +kernel
theorem dX7_setWindow_115 : decode cX7_setWindow 115 = .ok (.ireturn, 1) := by decide +kernel
theorem dX7_mostOf_0 : decode cX7_mostOf 0 = .ok (.iload_n 0, 1) := by decide +kernel
theorem dX7_mostOf_1 : decode cX7_mostOf 1 = .ok (.ifCond .ne 8, 3) := by decide +kernel
theorem dX7_mostOf_4 : decode cX7_mostOf 4 = .ok (.bipush 6, 2) := by decide +kernel
theorem dX7_mostOf_6 : decode cX7_mostOf 6 = .ok (.goto 24, 3) := by decide +kernel
theorem dX7_mostOf_9 : decode cX7_mostOf 9 = .ok (.iload_n 0, 1) := by decide +kernel
theorem dX7_mostOf_10 : decode cX7_mostOf 10 = .ok (.iconst 1, 1) := by decide +kernel
theorem dX7_mostOf_11 : decode cX7_mostOf 11 = .ok (.if_icmp .ne 7, 3) := by decide +kernel
theorem dX7_mostOf_14 : decode cX7_mostOf 14 = .ok (.iconst 4, 1) := by decide +kernel
theorem dX7_mostOf_15 : decode cX7_mostOf 15 = .ok (.goto 15, 3) := by decide +kernel
theorem dX7_mostOf_18 : decode cX7_mostOf 18 = .ok (.iload_n 0, 1) := by decide +kernel
theorem dX7_mostOf_19 : decode cX7_mostOf 19 = .ok (.iconst 2, 1) := by decide +kernel
theorem dX7_mostOf_20 : decode cX7_mostOf 20 = .ok (.if_icmp .ne 8, 3) := by decide +kernel
theorem dX7_mostOf_23 : decode cX7_mostOf 23 = .ok (.bipush 60, 2) := by decide +kernel
theorem dX7_mostOf_25 : decode cX7_mostOf 25 = .ok (.goto 5, 3) := by decide +kernel
theorem dX7_mostOf_28 : decode cX7_mostOf 28 = .ok (.bipush 20, 2) := by decide +kernel
theorem dX7_mostOf_30 : decode cX7_mostOf 30 = .ok (.ireturn, 1) := by decide +kernel
theorem dX7_set_0 : decode cX7_set 0 = .ok (.iload_n 1, 1) := by decide +kernel
theorem dX7_set_1 : decode cX7_set 1 = .ok (.iconst 0, 1) := by decide +kernel
theorem dX7_set_2 : decode cX7_set 2 = .ok (.iconst 3, 1) := by decide +kernel
theorem dX7_set_3 : decode cX7_set 3 = .ok (.invokestatic 68, 3) := by decide +kernel
theorem dX7_set_6 : decode cX7_set 6 = .ok (.ifCond .eq 15, 3) := by decide +kernel
theorem dX7_set_9 : decode cX7_set 9 = .ok (.iload_n 2, 1) := by decide +kernel
theorem dX7_set_10 : decode cX7_set 10 = .ok (.iconst 1, 1) := by decide +kernel
theorem dX7_set_11 : decode cX7_set 11 = .ok (.iload_n 1, 1) := by decide +kernel
theorem dX7_set_12 : decode cX7_set 12 = .ok (.invokestatic 188, 3) := by decide +kernel
theorem dX7_set_15 : decode cX7_set 15 = .ok (.invokestatic 68, 3) := by decide +kernel
theorem dX7_set_18 : decode cX7_set 18 = .ok (.ifCond .ne 9, 3) := by decide +kernel
theorem dX7_set_21 : decode cX7_set 21 = .ok (.aload_n 0, 1) := by decide +kernel
theorem dX7_set_22 : decode cX7_set 22 = .ok (.iconst 1, 1) := by decide +kernel
theorem dX7_set_23 : decode cX7_set 23 = .ok (.invokevirtual 170, 3) := by decide +kernel
theorem dX7_set_26 : decode cX7_set 26 = .ok (.ireturn, 1) := by decide +kernel
theorem dX7_set_27 : decode cX7_set 27 = .ok (.aload_n 0, 1) := by decide +kernel
theorem dX7_set_28 : decode cX7_set 28 = .ok (.invokevirtual 173, 3) := by decide +kernel
theorem dX7_set_31 : decode cX7_set 31 = .ok (.aload_n 0, 1) := by decide +kernel
theorem dX7_set_32 : decode cX7_set 32 = .ok (.getfield 7, 3) := by decide +kernel
theorem dX7_set_35 : decode cX7_set 35 = .ok (.iload_n 1, 1) := by decide +kernel
theorem dX7_set_36 : decode cX7_set 36 = .ok (.iaload, 1) := by decide +kernel
theorem dX7_set_37 : decode cX7_set 37 = .ok (.istore_n 3, 1) := by decide +kernel
theorem dX7_set_38 : decode cX7_set 38 = .ok (.aload_n 0, 1) := by decide +kernel
theorem dX7_set_39 : decode cX7_set 39 = .ok (.getfield 7, 3) := by decide +kernel
theorem dX7_set_42 : decode cX7_set 42 = .ok (.iload_n 1, 1) := by decide +kernel
theorem dX7_set_43 : decode cX7_set 43 = .ok (.iload_n 2, 1) := by decide +kernel
theorem dX7_set_44 : decode cX7_set 44 = .ok (.iastore, 1) := by decide +kernel
theorem dX7_set_45 : decode cX7_set 45 = .ok (.aload_n 0, 1) := by decide +kernel
theorem dX7_set_46 : decode cX7_set 46 = .ok (.iload_n 3, 1) := by decide +kernel
theorem dX7_set_47 : decode cX7_set 47 = .ok (.invokevirtual 176, 3) := by decide +kernel
theorem dX7_set_50 : decode cX7_set 50 = .ok (.ireturn, 1) := by decide +kernel
theorem dX7_setKind_0 : decode cX7_setKind 0 = .ok (.iload_n 1, 1) := by decide +kernel
theorem dX7_setKind_1 : decode cX7_setKind 1 = .ok (.invokestatic 167, 3) := by decide +kernel
theorem dX7_setKind_4 : decode cX7_setKind 4 = .ok (.ifCond .ne 9, 3) := by decide +kernel
theorem dX7_setKind_7 : decode cX7_setKind 7 = .ok (.aload_n 0, 1) := by decide +kernel
theorem dX7_setKind_8 : decode cX7_setKind 8 = .ok (.iconst 1, 1) := by decide +kernel
theorem dX7_setKind_9 : decode cX7_setKind 9 = .ok (.invokevirtual 170, 3) := by decide +kernel
theorem dX7_setKind_12 : decode cX7_setKind 12 = .ok (.ireturn, 1) := by decide +kernel
theorem dX7_setKind_13 : decode cX7_setKind 13 = .ok (.iload_n 2, 1) := by decide +kernel
theorem dX7_setKind_14 : decode cX7_setKind 14 = .ok (.iconst 0, 1) := by decide +kernel
theorem dX7_setKind_15 : decode cX7_setKind 15 = .ok (.bipush 99, 2) := by decide +kernel
theorem dX7_setKind_17 : decode cX7_setKind 17 = .ok (.invokestatic 68, 3) := by decide +kernel
theorem dX7_setKind_20 : decode cX7_setKind 20 = .ok (.ifCond .eq 12, 3) := by decide +kernel
theorem dX7_setKind_23 : decode cX7_setKind 23 = .ok (.iload_n 3, 1) := by decide +kernel
theorem dX7_setKind_24 : decode cX7_setKind 24 = .ok (.iconst (-1), 1) := by decide +kernel
theorem dX7_setKind_25 : decode cX7_setKind 25 = .ok (.iconst 4, 1) := by decide +kernel
theorem dX7_setKind_26 : decode cX7_setKind 26 = .ok (.invokestatic 68, 3) := by decide +kernel
theorem dX7_setKind_29 : decode cX7_setKind 29 = .ok (.ifCond .ne 9, 3) := by decide +kernel
theorem dX7_setKind_32 : decode cX7_setKind 32 = .ok (.aload_n 0, 1) := by decide +kernel
theorem dX7_setKind_33 : decode cX7_setKind 33 = .ok (.iconst 2, 1) := by decide +kernel
theorem dX7_setKind_34 : decode cX7_setKind 34 = .ok (.invokevirtual 170, 3) := by decide +kernel
theorem dX7_setKind_37 : decode cX7_setKind 37 = .ok (.ireturn, 1) := by decide +kernel
theorem dX7_setKind_38 : decode cX7_setKind 38 = .ok (.aload_n 0, 1) := by decide +kernel
theorem dX7_setKind_39 : decode cX7_setKind 39 = .ok (.invokevirtual 173, 3) := by decide +kernel
theorem dX7_setKind_42 : decode cX7_setKind 42 = .ok (.aload_n 0, 1) := by decide +kernel
theorem dX7_setKind_43 : decode cX7_setKind 43 = .ok (.iload_n 1, 1) := by decide +kernel
theorem dX7_setKind_44 : decode cX7_setKind 44 = .ok (.invokevirtual 100, 3) := by decide +kernel
theorem dX7_setKind_47 : decode cX7_setKind 47 = .ok (.istore 4, 2) := by decide +kernel
theorem dX7_setKind_49 : decode cX7_setKind 49 = .ok (.aload_n 0, 1) := by decide +kernel
theorem dX7_setKind_50 : decode cX7_setKind 50 = .ok (.getfield 7, 3) := by decide +kernel
theorem dX7_setKind_53 : decode cX7_setKind 53 = .ok (.bipush 15, 2) := by decide +kernel
theorem dX7_setKind_55 : decode cX7_setKind 55 = .ok (.bipush 8, 2) := by decide +kernel
theorem dX7_setKind_57 : decode cX7_setKind 57 = .ok (.iload_n 1, 1) := by decide +kernel
theorem dX7_setKind_58 : decode cX7_setKind 58 = .ok (.imul, 1) := by decide +kernel
theorem dX7_setKind_59 : decode cX7_setKind 59 = .ok (.iadd, 1) := by decide +kernel
theorem dX7_setKind_60 : decode cX7_setKind 60 = .ok (.iload_n 2, 1) := by decide +kernel
theorem dX7_setKind_61 : decode cX7_setKind 61 = .ok (.iastore, 1) := by decide +kernel
theorem dX7_setKind_62 : decode cX7_setKind 62 = .ok (.aload_n 0, 1) := by decide +kernel
theorem dX7_setKind_63 : decode cX7_setKind 63 = .ok (.getfield 7, 3) := by decide +kernel
theorem dX7_setKind_66 : decode cX7_setKind 66 = .ok (.bipush 15, 2) := by decide +kernel
theorem dX7_setKind_68 : decode cX7_setKind 68 = .ok (.bipush 8, 2) := by decide +kernel
theorem dX7_setKind_70 : decode cX7_setKind 70 = .ok (.iload_n 1, 1) := by decide +kernel
theorem dX7_setKind_71 : decode cX7_setKind 71 = .ok (.imul, 1) := by decide +kernel
theorem dX7_setKind_72 : decode cX7_setKind 72 = .ok (.iadd, 1) := by decide +kernel
theorem dX7_setKind_73 : decode cX7_setKind 73 = .ok (.iconst 1, 1) := by decide +kernel
theorem dX7_setKind_74 : decode cX7_setKind 74 = .ok (.iadd, 1) := by decide +kernel
theorem dX7_setKind_75 : decode cX7_setKind 75 = .ok (.iload_n 3, 1) := by decide +kernel
theorem dX7_setKind_76 : decode cX7_setKind 76 = .ok (.iastore, 1) := by decide +kernel
theorem dX7_setKind_77 : decode cX7_setKind 77 = .ok (.aload_n 0, 1) := by decide +kernel
theorem dX7_setKind_78 : decode cX7_setKind 78 = .ok (.iload 4, 2) := by decide +kernel
theorem dX7_setKind_80 : decode cX7_setKind 80 = .ok (.invokevirtual 176, 3) := by decide +kernel
theorem dX7_setKind_83 : decode cX7_setKind 83 = .ok (.ireturn, 1) := by decide +kernel
theorem dX7_setWay_0 : decode cX7_setWay 0 = .ok (.iload_n 1, 1) := by decide +kernel
theorem dX7_setWay_1 : decode cX7_setWay 1 = .ok (.iconst 0, 1) := by decide +kernel
theorem dX7_setWay_2 : decode cX7_setWay 2 = .ok (.iconst 4, 1) := by decide +kernel
theorem dX7_setWay_3 : decode cX7_setWay 3 = .ok (.invokestatic 68, 3) := by decide +kernel
theorem dX7_setWay_6 : decode cX7_setWay 6 = .ok (.ifCond .ne 9, 3) := by decide +kernel
theorem dX7_setWay_9 : decode cX7_setWay 9 = .ok (.aload_n 0, 1) := by decide +kernel
theorem dX7_setWay_10 : decode cX7_setWay 10 = .ok (.iconst 1, 1) := by decide +kernel
theorem dX7_setWay_11 : decode cX7_setWay 11 = .ok (.invokevirtual 170, 3) := by decide +kernel
theorem dX7_setWay_14 : decode cX7_setWay 14 = .ok (.ireturn, 1) := by decide +kernel
theorem dX7_setWay_15 : decode cX7_setWay 15 = .ok (.iload_n 2, 1) := by decide +kernel
theorem dX7_setWay_16 : decode cX7_setWay 16 = .ok (.iconst 0, 1) := by decide +kernel
theorem dX7_setWay_17 : decode cX7_setWay 17 = .ok (.iconst 1, 1) := by decide +kernel
theorem dX7_setWay_18 : decode cX7_setWay 18 = .ok (.invokestatic 68, 3) := by decide +kernel
theorem dX7_setWay_21 : decode cX7_setWay 21 = .ok (.ifCond .ne 9, 3) := by decide +kernel
theorem dX7_setWay_24 : decode cX7_setWay 24 = .ok (.aload_n 0, 1) := by decide +kernel
theorem dX7_setWay_25 : decode cX7_setWay 25 = .ok (.iconst 2, 1) := by decide +kernel
theorem dX7_setWay_26 : decode cX7_setWay 26 = .ok (.invokevirtual 170, 3) := by decide +kernel
theorem dX7_setWay_29 : decode cX7_setWay 29 = .ok (.ireturn, 1) := by decide +kernel
theorem dX7_setWay_30 : decode cX7_setWay 30 = .ok (.aload_n 0, 1) := by decide +kernel
theorem dX7_setWay_31 : decode cX7_setWay 31 = .ok (.invokevirtual 173, 3) := by decide +kernel
theorem dX7_setWay_34 : decode cX7_setWay 34 = .ok (.aload_n 0, 1) := by decide +kernel
theorem dX7_setWay_35 : decode cX7_setWay 35 = .ok (.getfield 7, 3) := by decide +kernel
theorem dX7_setWay_38 : decode cX7_setWay 38 = .ok (.bipush 10, 2) := by decide +kernel
theorem dX7_setWay_40 : decode cX7_setWay 40 = .ok (.iload_n 1, 1) := by decide +kernel
theorem dX7_setWay_41 : decode cX7_setWay 41 = .ok (.iadd, 1) := by decide +kernel
theorem dX7_setWay_42 : decode cX7_setWay 42 = .ok (.iaload, 1) := by decide +kernel
theorem dX7_setWay_43 : decode cX7_setWay 43 = .ok (.istore_n 3, 1) := by decide +kernel
theorem dX7_setWay_44 : decode cX7_setWay 44 = .ok (.aload_n 0, 1) := by decide +kernel
theorem dX7_setWay_45 : decode cX7_setWay 45 = .ok (.getfield 7, 3) := by decide +kernel
theorem dX7_setWay_48 : decode cX7_setWay 48 = .ok (.bipush 10, 2) := by decide +kernel
theorem dX7_setWay_50 : decode cX7_setWay 50 = .ok (.iload_n 1, 1) := by decide +kernel
theorem dX7_setWay_51 : decode cX7_setWay 51 = .ok (.iadd, 1) := by decide +kernel
theorem dX7_setWay_52 : decode cX7_setWay 52 = .ok (.iload_n 2, 1) := by decide +kernel
theorem dX7_setWay_53 : decode cX7_setWay 53 = .ok (.iastore, 1) := by decide +kernel
theorem dX7_setWay_54 : decode cX7_setWay 54 = .ok (.aload_n 0, 1) := by decide +kernel
theorem dX7_setWay_55 : decode cX7_setWay 55 = .ok (.iload_n 3, 1) := by decide +kernel
theorem dX7_setWay_56 : decode cX7_setWay 56 = .ok (.invokevirtual 176, 3) := by decide +kernel
theorem dX7_setWay_59 : decode cX7_setWay 59 = .ok (.ireturn, 1) := by decide +kernel
theorem dX7_limit_0 : decode cX7_limit 0 = .ok (.iload_n 1, 1) := by decide +kernel
theorem dX7_limit_1 : decode cX7_limit 1 = .ok (.invokestatic 167, 3) := by decide +kernel
theorem dX7_limit_4 : decode cX7_limit 4 = .ok (.ifCond .ne 9, 3) := by decide +kernel
theorem dX7_limit_7 : decode cX7_limit 7 = .ok (.aload_n 0, 1) := by decide +kernel
theorem dX7_limit_8 : decode cX7_limit 8 = .ok (.iconst 1, 1) := by decide +kernel
theorem dX7_limit_9 : decode cX7_limit 9 = .ok (.invokevirtual 170, 3) := by decide +kernel
theorem dX7_limit_12 : decode cX7_limit 12 = .ok (.ireturn, 1) := by decide +kernel
theorem dX7_limit_13 : decode cX7_limit 13 = .ok (.iload_n 2, 1) := by decide +kernel
theorem dX7_limit_14 : decode cX7_limit 14 = .ok (.iconst 1, 1) := by decide +kernel
theorem dX7_limit_15 : decode cX7_limit 15 = .ok (.sipush 9999, 3) := by decide +kernel
theorem dX7_limit_18 : decode cX7_limit 18 = .ok (.invokestatic 68, 3) := by decide +kernel
theorem dX7_limit_21 : decode cX7_limit 21 = .ok (.ifCond .ne 9, 3) := by decide +kernel
theorem dX7_limit_24 : decode cX7_limit 24 = .ok (.aload_n 0, 1) := by decide +kernel
theorem dX7_limit_25 : decode cX7_limit 25 = .ok (.iconst 2, 1) := by decide +kernel
theorem dX7_limit_26 : decode cX7_limit 26 = .ok (.invokevirtual 170, 3) := by decide +kernel
theorem dX7_limit_29 : decode cX7_limit 29 = .ok (.ireturn, 1) := by decide +kernel
theorem dX7_limit_30 : decode cX7_limit 30 = .ok (.bipush 15, 2) := by decide +kernel
theorem dX7_limit_32 : decode cX7_limit 32 = .ok (.bipush 8, 2) := by decide +kernel
theorem dX7_limit_34 : decode cX7_limit 34 = .ok (.iload_n 1, 1) := by decide +kernel
theorem dX7_limit_35 : decode cX7_limit 35 = .ok (.imul, 1) := by decide +kernel
theorem dX7_limit_36 : decode cX7_limit 36 = .ok (.iadd, 1) := by decide +kernel
theorem dX7_limit_37 : decode cX7_limit 37 = .ok (.iconst 2, 1) := by decide +kernel
theorem dX7_limit_38 : decode cX7_limit 38 = .ok (.iadd, 1) := by decide +kernel
theorem dX7_limit_39 : decode cX7_limit 39 = .ok (.istore_n 3, 1) := by decide +kernel
theorem dX7_limit_40 : decode cX7_limit 40 = .ok (.iconst 0, 1) := by decide +kernel
theorem dX7_limit_41 : decode cX7_limit 41 = .ok (.istore 4, 2) := by decide +kernel
theorem dX7_limit_43 : decode cX7_limit 43 = .ok (.iload 4, 2) := by decide +kernel
theorem dX7_limit_45 : decode cX7_limit 45 = .ok (.aload_n 0, 1) := by decide +kernel
theorem dX7_limit_46 : decode cX7_limit 46 = .ok (.getfield 7, 3) := by decide +kernel
theorem dX7_limit_49 : decode cX7_limit 49 = .ok (.iload_n 3, 1) := by decide +kernel
theorem dX7_limit_50 : decode cX7_limit 50 = .ok (.iaload, 1) := by decide +kernel
theorem dX7_limit_51 : decode cX7_limit 51 = .ok (.if_icmp .ge 24, 3) := by decide +kernel
theorem dX7_limit_54 : decode cX7_limit 54 = .ok (.aload_n 0, 1) := by decide +kernel
theorem dX7_limit_55 : decode cX7_limit 55 = .ok (.getfield 7, 3) := by decide +kernel
theorem dX7_limit_58 : decode cX7_limit 58 = .ok (.iload_n 3, 1) := by decide +kernel
theorem dX7_limit_59 : decode cX7_limit 59 = .ok (.iconst 1, 1) := by decide +kernel
theorem dX7_limit_60 : decode cX7_limit 60 = .ok (.iadd, 1) := by decide +kernel
theorem dX7_limit_61 : decode cX7_limit 61 = .ok (.iload 4, 2) := by decide +kernel
theorem dX7_limit_63 : decode cX7_limit 63 = .ok (.iadd, 1) := by decide +kernel
theorem dX7_limit_64 : decode cX7_limit 64 = .ok (.iaload, 1) := by decide +kernel
theorem dX7_limit_65 : decode cX7_limit 65 = .ok (.iload_n 2, 1) := by decide +kernel
theorem dX7_limit_66 : decode cX7_limit 66 = .ok (.if_icmp .ge 9, 3) := by decide +kernel
theorem dX7_limit_69 : decode cX7_limit 69 = .ok (.iinc 4 1, 3) := by decide +kernel
theorem dX7_limit_72 : decode cX7_limit 72 = .ok (.goto (-29), 3) := by decide +kernel
theorem dX7_limit_75 : decode cX7_limit 75 = .ok (.iload 4, 2) := by decide +kernel
theorem dX7_limit_77 : decode cX7_limit 77 = .ok (.aload_n 0, 1) := by decide +kernel
theorem dX7_limit_78 : decode cX7_limit 78 = .ok (.getfield 7, 3) := by decide +kernel
theorem dX7_limit_81 : decode cX7_limit 81 = .ok (.iload_n 3, 1) := by decide +kernel
theorem dX7_limit_82 : decode cX7_limit 82 = .ok (.iaload, 1) := by decide +kernel
theorem dX7_limit_83 : decode cX7_limit 83 = .ok (.if_icmp .ge 22, 3) := by decide +kernel
theorem dX7_limit_86 : decode cX7_limit 86 = .ok (.aload_n 0, 1) := by decide +kernel
theorem dX7_limit_87 : decode cX7_limit 87 = .ok (.getfield 7, 3) := by decide +kernel
theorem dX7_limit_90 : decode cX7_limit 90 = .ok (.iload_n 3, 1) := by decide +kernel
theorem dX7_limit_91 : decode cX7_limit 91 = .ok (.iconst 1, 1) := by decide +kernel
theorem dX7_limit_92 : decode cX7_limit 92 = .ok (.iadd, 1) := by decide +kernel
theorem dX7_limit_93 : decode cX7_limit 93 = .ok (.iload 4, 2) := by decide +kernel
theorem dX7_limit_95 : decode cX7_limit 95 = .ok (.iadd, 1) := by decide +kernel
theorem dX7_limit_96 : decode cX7_limit 96 = .ok (.iaload, 1) := by decide +kernel
theorem dX7_limit_97 : decode cX7_limit 97 = .ok (.iload_n 2, 1) := by decide +kernel
theorem dX7_limit_98 : decode cX7_limit 98 = .ok (.if_icmp .ne 7, 3) := by decide +kernel
theorem dX7_limit_101 : decode cX7_limit 101 = .ok (.iconst 1, 1) := by decide +kernel
theorem dX7_limit_102 : decode cX7_limit 102 = .ok (.goto 4, 3) := by decide +kernel
theorem dX7_limit_105 : decode cX7_limit 105 = .ok (.iconst 0, 1) := by decide +kernel
theorem dX7_limit_106 : decode cX7_limit 106 = .ok (.istore 5, 2) := by decide +kernel
theorem dX7_limit_108 : decode cX7_limit 108 = .ok (.iload 5, 2) := by decide +kernel
theorem dX7_limit_110 : decode cX7_limit 110 = .ok (.ifCond .ne 19, 3) := by decide +kernel
theorem dX7_limit_113 : decode cX7_limit 113 = .ok (.aload_n 0, 1) := by decide +kernel
theorem dX7_limit_114 : decode cX7_limit 114 = .ok (.getfield 7, 3) := by decide +kernel
theorem dX7_limit_117 : decode cX7_limit 117 = .ok (.iload_n 3, 1) := by decide +kernel
theorem dX7_limit_118 : decode cX7_limit 118 = .ok (.iaload, 1) := by decide +kernel
theorem dX7_limit_119 : decode cX7_limit 119 = .ok (.iconst 5, 1) := by decide +kernel
theorem dX7_limit_120 : decode cX7_limit 120 = .ok (.if_icmp .ne 9, 3) := by decide +kernel
theorem dX7_limit_123 : decode cX7_limit 123 = .ok (.aload_n 0, 1) := by decide +kernel
theorem dX7_limit_124 : decode cX7_limit 124 = .ok (.iconst 3, 1) := by decide +kernel
theorem dX7_limit_125 : decode cX7_limit 125 = .ok (.invokevirtual 170, 3) := by decide +kernel
theorem dX7_limit_128 : decode cX7_limit 128 = .ok (.ireturn, 1) := by decide +kernel
theorem dX7_limit_129 : decode cX7_limit 129 = .ok (.aload_n 0, 1) := by decide +kernel
theorem dX7_limit_130 : decode cX7_limit 130 = .ok (.invokevirtual 173, 3) := by decide +kernel
theorem dX7_limit_133 : decode cX7_limit 133 = .ok (.iload 5, 2) := by decide +kernel
theorem dX7_limit_135 : decode cX7_limit 135 = .ok (.ifCond .eq 61, 3) := by decide +kernel
theorem dX7_limit_138 : decode cX7_limit 138 = .ok (.iload 4, 2) := by decide +kernel
theorem dX7_limit_140 : decode cX7_limit 140 = .ok (.istore 6, 2) := by decide +kernel
theorem dX7_limit_142 : decode cX7_limit 142 = .ok (.iload 6, 2) := by decide +kernel
theorem dX7_limit_144 : decode cX7_limit 144 = .ok (.iconst 1, 1) := by decide +kernel
theorem dX7_limit_145 : decode cX7_limit 145 = .ok (.iadd, 1) := by decide +kernel
theorem dX7_limit_146 : decode cX7_limit 146 = .ok (.aload_n 0, 1) := by decide +kernel
theorem dX7_limit_147 : decode cX7_limit 147 = .ok (.getfield 7, 3) := by decide +kernel
theorem dX7_limit_150 : decode cX7_limit 150 = .ok (.iload_n 3, 1) := by decide +kernel
theorem dX7_limit_151 : decode cX7_limit 151 = .ok (.iaload, 1) := by decide +kernel
theorem dX7_limit_152 : decode cX7_limit 152 = .ok (.if_icmp .ge 31, 3) := by decide +kernel
theorem dX7_limit_155 : decode cX7_limit 155 = .ok (.aload_n 0, 1) := by decide +kernel
theorem dX7_limit_156 : decode cX7_limit 156 = .ok (.getfield 7, 3) := by decide +kernel
theorem dX7_limit_159 : decode cX7_limit 159 = .ok (.iload_n 3, 1) := by decide +kernel
theorem dX7_limit_160 : decode cX7_limit 160 = .ok (.iconst 1, 1) := by decide +kernel
theorem dX7_limit_161 : decode cX7_limit 161 = .ok (.iadd, 1) := by decide +kernel
theorem dX7_limit_162 : decode cX7_limit 162 = .ok (.iload 6, 2) := by decide +kernel
theorem dX7_limit_164 : decode cX7_limit 164 = .ok (.iadd, 1) := by decide +kernel
theorem dX7_limit_165 : decode cX7_limit 165 = .ok (.aload_n 0, 1) := by decide +kernel
theorem dX7_limit_166 : decode cX7_limit 166 = .ok (.getfield 7, 3) := by decide +kernel
theorem dX7_limit_169 : decode cX7_limit 169 = .ok (.iload_n 3, 1) := by decide +kernel
theorem dX7_limit_170 : decode cX7_limit 170 = .ok (.iconst 2, 1) := by decide +kernel
theorem dX7_limit_171 : decode cX7_limit 171 = .ok (.iadd, 1) := by decide +kernel
theorem dX7_limit_172 : decode cX7_limit 172 = .ok (.iload 6, 2) := by decide +kernel
theorem dX7_limit_174 : decode cX7_limit 174 = .ok (.iadd, 1) := by decide +kernel
theorem dX7_limit_175 : decode cX7_limit 175 = .ok (.iaload, 1) := by decide +kernel
theorem dX7_limit_176 : decode cX7_limit 176 = .ok (.iastore, 1) := by decide +kernel
theorem dX7_limit_177 : decode cX7_limit 177 = .ok (.iinc 6 1, 3) := by decide +kernel
theorem dX7_limit_180 : decode cX7_limit 180 = .ok (.goto (-38), 3) := by decide +kernel
theorem dX7_limit_183 : decode cX7_limit 183 = .ok (.aload_n 0, 1) := by decide +kernel
theorem dX7_limit_184 : decode cX7_limit 184 = .ok (.getfield 7, 3) := by decide +kernel
theorem dX7_limit_187 : decode cX7_limit 187 = .ok (.iload_n 3, 1) := by decide +kernel
theorem dX7_limit_188 : decode cX7_limit 188 = .ok (.dup2, 1) := by decide +kernel
theorem dX7_limit_189 : decode cX7_limit 189 = .ok (.iaload, 1) := by decide +kernel
theorem dX7_limit_190 : decode cX7_limit 190 = .ok (.iconst 1, 1) := by decide +kernel
theorem dX7_limit_191 : decode cX7_limit 191 = .ok (.isub, 1) := by decide +kernel
theorem dX7_limit_192 : decode cX7_limit 192 = .ok (.iastore, 1) := by decide +kernel
theorem dX7_limit_193 : decode cX7_limit 193 = .ok (.goto 66, 3) := by decide +kernel
theorem dX7_limit_196 : decode cX7_limit 196 = .ok (.aload_n 0, 1) := by decide +kernel
theorem dX7_limit_197 : decode cX7_limit 197 = .ok (.getfield 7, 3) := by decide +kernel
theorem dX7_limit_200 : decode cX7_limit 200 = .ok (.iload_n 3, 1) := by decide +kernel
theorem dX7_limit_201 : decode cX7_limit 201 = .ok (.iaload, 1) := by decide +kernel
theorem dX7_limit_202 : decode cX7_limit 202 = .ok (.istore 6, 2) := by decide +kernel
theorem dX7_limit_204 : decode cX7_limit 204 = .ok (.iload 6, 2) := by decide +kernel
theorem dX7_limit_206 : decode cX7_limit 206 = .ok (.iload 4, 2) := by decide +kernel
theorem dX7_limit_208 : decode cX7_limit 208 = .ok (.if_icmp .le 29, 3) := by decide +kernel
theorem dX7_limit_211 : decode cX7_limit 211 = .ok (.aload_n 0, 1) := by decide +kernel
theorem dX7_limit_212 : decode cX7_limit 212 = .ok (.getfield 7, 3) := by decide +kernel
theorem dX7_limit_215 : decode cX7_limit 215 = .ok (.iload_n 3, 1) := by decide +kernel
theorem dX7_limit_216 : decode cX7_limit 216 = .ok (.iconst 1, 1) := by decide +kernel
theorem dX7_limit_217 : decode cX7_limit 217 = .ok (.iadd, 1) := by decide +kernel
theorem dX7_limit_218 : decode cX7_limit 218 = .ok (.iload 6, 2) := by decide +kernel
theorem dX7_limit_220 : decode cX7_limit 220 = .ok (.iadd, 1) := by decide +kernel
theorem dX7_limit_221 : decode cX7_limit 221 = .ok (.aload_n 0, 1) := by decide +kernel
theorem dX7_limit_222 : decode cX7_limit 222 = .ok (.getfield 7, 3) := by decide +kernel
theorem dX7_limit_225 : decode cX7_limit 225 = .ok (.iload_n 3, 1) := by decide +kernel
theorem dX7_limit_226 : decode cX7_limit 226 = .ok (.iload 6, 2) := by decide +kernel
theorem dX7_limit_228 : decode cX7_limit 228 = .ok (.iadd, 1) := by decide +kernel
theorem dX7_limit_229 : decode cX7_limit 229 = .ok (.iaload, 1) := by decide +kernel
theorem dX7_limit_230 : decode cX7_limit 230 = .ok (.iastore, 1) := by decide +kernel
theorem dX7_limit_231 : decode cX7_limit 231 = .ok (.iinc 6 (-1), 3) := by decide +kernel
theorem dX7_limit_234 : decode cX7_limit 234 = .ok (.goto (-30), 3) := by decide +kernel
theorem dX7_limit_237 : decode cX7_limit 237 = .ok (.aload_n 0, 1) := by decide +kernel
theorem dX7_limit_238 : decode cX7_limit 238 = .ok (.getfield 7, 3) := by decide +kernel
theorem dX7_limit_241 : decode cX7_limit 241 = .ok (.iload_n 3, 1) := by decide +kernel
theorem dX7_limit_242 : decode cX7_limit 242 = .ok (.iconst 1, 1) := by decide +kernel
theorem dX7_limit_243 : decode cX7_limit 243 = .ok (.iadd, 1) := by decide +kernel
theorem dX7_limit_244 : decode cX7_limit 244 = .ok (.iload 4, 2) := by decide +kernel
theorem dX7_limit_246 : decode cX7_limit 246 = .ok (.iadd, 1) := by decide +kernel
theorem dX7_limit_247 : decode cX7_limit 247 = .ok (.iload_n 2, 1) := by decide +kernel
theorem dX7_limit_248 : decode cX7_limit 248 = .ok (.iastore, 1) := by decide +kernel
theorem dX7_limit_249 : decode cX7_limit 249 = .ok (.aload_n 0, 1) := by decide +kernel
theorem dX7_limit_250 : decode cX7_limit 250 = .ok (.getfield 7, 3) := by decide +kernel
theorem dX7_limit_253 : decode cX7_limit 253 = .ok (.iload_n 3, 1) := by decide +kernel
theorem dX7_limit_254 : decode cX7_limit 254 = .ok (.dup2, 1) := by decide +kernel
theorem dX7_limit_255 : decode cX7_limit 255 = .ok (.iaload, 1) := by decide +kernel
theorem dX7_limit_256 : decode cX7_limit 256 = .ok (.iconst 1, 1) := by decide +kernel
theorem dX7_limit_257 : decode cX7_limit 257 = .ok (.iadd, 1) := by decide +kernel
theorem dX7_limit_258 : decode cX7_limit 258 = .ok (.iastore, 1) := by decide +kernel
theorem dX7_limit_259 : decode cX7_limit 259 = .ok (.aload_n 0, 1) := by decide +kernel
theorem dX7_limit_260 : decode cX7_limit 260 = .ok (.aload_n 0, 1) := by decide +kernel
theorem dX7_limit_261 : decode cX7_limit 261 = .ok (.getfield 7, 3) := by decide +kernel
theorem dX7_limit_264 : decode cX7_limit 264 = .ok (.iload_n 3, 1) := by decide +kernel
theorem dX7_limit_265 : decode cX7_limit 265 = .ok (.iaload, 1) := by decide +kernel
theorem dX7_limit_266 : decode cX7_limit 266 = .ok (.invokevirtual 176, 3) := by decide +kernel
theorem dX7_limit_269 : decode cX7_limit 269 = .ok (.ireturn, 1) := by decide +kernel
theorem dX7_valueOf_0 : decode cX7_valueOf 0 = .ok (.iload_n 1, 1) := by decide +kernel
theorem dX7_valueOf_1 : decode cX7_valueOf 1 = .ok (.bipush 10, 2) := by decide +kernel
theorem dX7_valueOf_3 : decode cX7_valueOf 3 = .ok (.if_icmp .ge 12, 3) := by decide +kernel
theorem dX7_valueOf_6 : decode cX7_valueOf 6 = .ok (.aload_n 0, 1) := by decide +kernel
theorem dX7_valueOf_7 : decode cX7_valueOf 7 = .ok (.getfield 7, 3) := by decide +kernel
theorem dX7_valueOf_10 : decode cX7_valueOf 10 = .ok (.iload_n 1, 1) := by decide +kernel
theorem dX7_valueOf_11 : decode cX7_valueOf 11 = .ok (.iaload, 1) := by decide +kernel
theorem dX7_valueOf_12 : decode cX7_valueOf 12 = .ok (.goto 20, 3) := by decide +kernel
theorem dX7_valueOf_15 : decode cX7_valueOf 15 = .ok (.iload_n 1, 1) := by decide +kernel
theorem dX7_valueOf_16 : decode cX7_valueOf 16 = .ok (.bipush 10, 2) := by decide +kernel
theorem dX7_valueOf_18 : decode cX7_valueOf 18 = .ok (.if_icmp .ne 10, 3) := by decide +kernel
theorem dX7_valueOf_21 : decode cX7_valueOf 21 = .ok (.aload_n 0, 1) := by decide +kernel
theorem dX7_valueOf_22 : decode cX7_valueOf 22 = .ok (.invokevirtual 185, 3) := by decide +kernel
theorem dX7_valueOf_25 : decode cX7_valueOf 25 = .ok (.goto 7, 3) := by decide +kernel
theorem dX7_valueOf_28 : decode cX7_valueOf 28 = .ok (.aload_n 0, 1) := by decide +kernel
theorem dX7_valueOf_29 : decode cX7_valueOf 29 = .ok (.invokevirtual 191, 3) := by decide +kernel
theorem dX7_valueOf_32 : decode cX7_valueOf 32 = .ok (.ireturn, 1) := by decide +kernel
theorem dX7_value_0 : decode cX7_value 0 = .ok (.iload_n 1, 1) := by decide +kernel
theorem dX7_value_1 : decode cX7_value 1 = .ok (.iconst 0, 1) := by decide +kernel
theorem dX7_value_2 : decode cX7_value 2 = .ok (.bipush 11, 2) := by decide +kernel
theorem dX7_value_4 : decode cX7_value 4 = .ok (.invokestatic 68, 3) := by decide +kernel
theorem dX7_value_7 : decode cX7_value 7 = .ok (.ifCond .ne 9, 3) := by decide +kernel
theorem dX7_value_10 : decode cX7_value 10 = .ok (.aload_n 0, 1) := by decide +kernel
theorem dX7_value_11 : decode cX7_value 11 = .ok (.iconst 1, 1) := by decide +kernel
theorem dX7_value_12 : decode cX7_value 12 = .ok (.invokevirtual 170, 3) := by decide +kernel
theorem dX7_value_15 : decode cX7_value 15 = .ok (.ireturn, 1) := by decide +kernel
theorem dX7_value_16 : decode cX7_value 16 = .ok (.aload_n 0, 1) := by decide +kernel
theorem dX7_value_17 : decode cX7_value 17 = .ok (.invokevirtual 194, 3) := by decide +kernel
theorem dX7_value_20 : decode cX7_value 20 = .ok (.aload_n 0, 1) := by decide +kernel
theorem dX7_value_21 : decode cX7_value 21 = .ok (.aload_n 0, 1) := by decide +kernel
theorem dX7_value_22 : decode cX7_value 22 = .ok (.iload_n 1, 1) := by decide +kernel
theorem dX7_value_23 : decode cX7_value 23 = .ok (.invokevirtual 197, 3) := by decide +kernel
theorem dX7_value_26 : decode cX7_value 26 = .ok (.invokevirtual 64, 3) := by decide +kernel
theorem dX7_value_29 : decode cX7_value 29 = .ok (.ireturn, 1) := by decide +kernel
theorem dX7_standsFor_0 : decode cX7_standsFor 0 = .ok (.aload_n 0, 1) := by decide +kernel
theorem dX7_standsFor_1 : decode cX7_standsFor 1 = .ok (.getfield 25, 3) := by decide +kernel
theorem dX7_standsFor_4 : decode cX7_standsFor 4 = .ok (.iload_n 2, 1) := by decide +kernel
theorem dX7_standsFor_5 : decode cX7_standsFor 5 = .ok (.baload, 1) := by decide +kernel
theorem dX7_standsFor_6 : decode cX7_standsFor 6 = .ok (.ifCond .eq 15, 3) := by decide +kernel
theorem dX7_standsFor_9 : decode cX7_standsFor 9 = .ok (.aload_n 0, 1) := by decide +kernel
theorem dX7_standsFor_10 : decode cX7_standsFor 10 = .ok (.getfield 29, 3) := by decide +kernel
theorem dX7_standsFor_13 : decode cX7_standsFor 13 = .ok (.iconst 5, 1) := by decide +kernel
theorem dX7_standsFor_14 : decode cX7_standsFor 14 = .ok (.iload_n 1, 1) := by decide +kernel
theorem dX7_standsFor_15 : decode cX7_standsFor 15 = .ok (.imul, 1) := by decide +kernel
theorem dX7_standsFor_16 : decode cX7_standsFor 16 = .ok (.iaload, 1) := by decide +kernel
theorem dX7_standsFor_17 : decode cX7_standsFor 17 = .ok (.iconst 1, 1) := by decide +kernel
theorem dX7_standsFor_18 : decode cX7_standsFor 18 = .ok (.if_icmp .ne 5, 3) := by decide +kernel
theorem dX7_standsFor_21 : decode cX7_standsFor 21 = .ok (.iconst 0, 1) := by decide +kernel
theorem dX7_standsFor_22 : decode cX7_standsFor 22 = .ok (.ireturn, 1) := by decide +kernel
theorem dX7_standsFor_23 : decode cX7_standsFor 23 = .ok (.aload_n 0, 1) := by decide +kernel
theorem dX7_standsFor_24 : decode cX7_standsFor 24 = .ok (.getfield 29, 3) := by decide +kernel
theorem dX7_standsFor_27 : decode cX7_standsFor 27 = .ok (.iconst 5, 1) := by decide +kernel
theorem dX7_standsFor_28 : decode cX7_standsFor 28 = .ok (.iload_n 1, 1) := by decide +kernel
theorem dX7_standsFor_29 : decode cX7_standsFor 29 = .ok (.imul, 1) := by decide +kernel
theorem dX7_standsFor_30 : decode cX7_standsFor 30 = .ok (.iaload, 1) := by decide +kernel
theorem dX7_standsFor_31 : decode cX7_standsFor 31 = .ok (.iconst 2, 1) := by decide +kernel
theorem dX7_standsFor_32 : decode cX7_standsFor 32 = .ok (.if_icmp .ne 32, 3) := by decide +kernel
theorem dX7_standsFor_35 : decode cX7_standsFor 35 = .ok (.aload_n 0, 1) := by decide +kernel
theorem dX7_standsFor_36 : decode cX7_standsFor 36 = .ok (.aload_n 0, 1) := by decide +kernel
theorem dX7_standsFor_37 : decode cX7_standsFor 37 = .ok (.iload_n 2, 1) := by decide +kernel
theorem dX7_standsFor_38 : decode cX7_standsFor 38 = .ok (.iconst 0, 1) := by decide +kernel
theorem dX7_standsFor_39 : decode cX7_standsFor 39 = .ok (.invokevirtual 72, 3) := by decide +kernel
theorem dX7_standsFor_42 : decode cX7_standsFor 42 = .ok (.invokevirtual 93, 3) := by decide +kernel
theorem dX7_standsFor_45 : decode cX7_standsFor 45 = .ok (.aload_n 0, 1) := by decide +kernel
theorem dX7_standsFor_46 : decode cX7_standsFor 46 = .ok (.getfield 29, 3) := by decide +kernel
theorem dX7_standsFor_49 : decode cX7_standsFor 49 = .ok (.iconst 5, 1) := by decide +kernel
theorem dX7_standsFor_50 : decode cX7_standsFor 50 = .ok (.iload_n 1, 1) := by decide +kernel
theorem dX7_standsFor_51 : decode cX7_standsFor 51 = .ok (.imul, 1) := by decide +kernel
theorem dX7_standsFor_52 : decode cX7_standsFor 52 = .ok (.iconst 2, 1) := by decide +kernel
theorem dX7_standsFor_53 : decode cX7_standsFor 53 = .ok (.iadd, 1) := by decide +kernel
theorem dX7_standsFor_54 : decode cX7_standsFor 54 = .ok (.iaload, 1) := by decide +kernel
theorem dX7_standsFor_55 : decode cX7_standsFor 55 = .ok (.if_icmp .ne 7, 3) := by decide +kernel
theorem dX7_standsFor_58 : decode cX7_standsFor 58 = .ok (.iconst 1, 1) := by decide +kernel
theorem dX7_standsFor_59 : decode cX7_standsFor 59 = .ok (.goto 4, 3) := by decide +kernel
theorem dX7_standsFor_62 : decode cX7_standsFor 62 = .ok (.iconst 0, 1) := by decide +kernel
theorem dX7_standsFor_63 : decode cX7_standsFor 63 = .ok (.ireturn, 1) := by decide +kernel
theorem dX7_standsFor_64 : decode cX7_standsFor 64 = .ok (.aload_n 0, 1) := by decide +kernel
theorem dX7_standsFor_65 : decode cX7_standsFor 65 = .ok (.getfield 29, 3) := by decide +kernel
theorem dX7_standsFor_68 : decode cX7_standsFor 68 = .ok (.iconst 5, 1) := by decide +kernel
theorem dX7_standsFor_69 : decode cX7_standsFor 69 = .ok (.iload_n 1, 1) := by decide +kernel
theorem dX7_standsFor_70 : decode cX7_standsFor 70 = .ok (.imul, 1) := by decide +kernel
theorem dX7_standsFor_71 : decode cX7_standsFor 71 = .ok (.iconst 1, 1) := by decide +kernel
theorem dX7_standsFor_72 : decode cX7_standsFor 72 = .ok (.iadd, 1) := by decide +kernel
theorem dX7_standsFor_73 : decode cX7_standsFor 73 = .ok (.iaload, 1) := by decide +kernel
theorem dX7_standsFor_74 : decode cX7_standsFor 74 = .ok (.aload_n 0, 1) := by decide +kernel
theorem dX7_standsFor_75 : decode cX7_standsFor 75 = .ok (.iload_n 2, 1) := by decide +kernel
theorem dX7_standsFor_76 : decode cX7_standsFor 76 = .ok (.iconst 0, 1) := by decide +kernel
theorem dX7_standsFor_77 : decode cX7_standsFor 77 = .ok (.invokevirtual 72, 3) := by decide +kernel
theorem dX7_standsFor_80 : decode cX7_standsFor 80 = .ok (.if_icmp .ne 38, 3) := by decide +kernel
theorem dX7_standsFor_83 : decode cX7_standsFor 83 = .ok (.aload_n 0, 1) := by decide +kernel
theorem dX7_standsFor_84 : decode cX7_standsFor 84 = .ok (.iload_n 2, 1) := by decide +kernel
theorem dX7_standsFor_85 : decode cX7_standsFor 85 = .ok (.invokevirtual 86, 3) := by decide +kernel
theorem dX7_standsFor_88 : decode cX7_standsFor 88 = .ok (.aload_n 0, 1) := by decide +kernel
theorem dX7_standsFor_89 : decode cX7_standsFor 89 = .ok (.getfield 29, 3) := by decide +kernel
theorem dX7_standsFor_92 : decode cX7_standsFor 92 = .ok (.iconst 5, 1) := by decide +kernel
theorem dX7_standsFor_93 : decode cX7_standsFor 93 = .ok (.iload_n 1, 1) := by decide +kernel
theorem dX7_standsFor_94 : decode cX7_standsFor 94 = .ok (.imul, 1) := by decide +kernel
theorem dX7_standsFor_95 : decode cX7_standsFor 95 = .ok (.iconst 3, 1) := by decide +kernel
theorem dX7_standsFor_96 : decode cX7_standsFor 96 = .ok (.iadd, 1) := by decide +kernel
theorem dX7_standsFor_97 : decode cX7_standsFor 97 = .ok (.iaload, 1) := by decide +kernel
theorem dX7_standsFor_98 : decode cX7_standsFor 98 = .ok (.aload_n 0, 1) := by decide +kernel
theorem dX7_standsFor_99 : decode cX7_standsFor 99 = .ok (.getfield 29, 3) := by decide +kernel
theorem dX7_standsFor_102 : decode cX7_standsFor 102 = .ok (.iconst 5, 1) := by decide +kernel
theorem dX7_standsFor_103 : decode cX7_standsFor 103 = .ok (.iload_n 1, 1) := by decide +kernel
theorem dX7_standsFor_104 : decode cX7_standsFor 104 = .ok (.imul, 1) := by decide +kernel
theorem dX7_standsFor_105 : decode cX7_standsFor 105 = .ok (.iconst 4, 1) := by decide +kernel
theorem dX7_standsFor_106 : decode cX7_standsFor 106 = .ok (.iadd, 1) := by decide +kernel
theorem dX7_standsFor_107 : decode cX7_standsFor 107 = .ok (.iaload, 1) := by decide +kernel
theorem dX7_standsFor_108 : decode cX7_standsFor 108 = .ok (.invokestatic 68, 3) := by decide +kernel
theorem dX7_standsFor_111 : decode cX7_standsFor 111 = .ok (.ifCond .eq 7, 3) := by decide +kernel
theorem dX7_standsFor_114 : decode cX7_standsFor 114 = .ok (.iconst 1, 1) := by decide +kernel
theorem dX7_standsFor_115 : decode cX7_standsFor 115 = .ok (.goto 4, 3) := by decide +kernel
theorem dX7_standsFor_118 : decode cX7_standsFor 118 = .ok (.iconst 0, 1) := by decide +kernel
theorem dX7_standsFor_119 : decode cX7_standsFor 119 = .ok (.ireturn, 1) := by decide +kernel
theorem dX7_lineFor_0 : decode cX7_lineFor 0 = .ok (.iconst 0, 1) := by decide +kernel
theorem dX7_lineFor_1 : decode cX7_lineFor 1 = .ok (.istore_n 2, 1) := by decide +kernel
theorem dX7_lineFor_2 : decode cX7_lineFor 2 = .ok (.iload_n 2, 1) := by decide +kernel
theorem dX7_lineFor_3 : decode cX7_lineFor 3 = .ok (.aload_n 0, 1) := by decide +kernel
theorem dX7_lineFor_4 : decode cX7_lineFor 4 = .ok (.getfield 83, 3) := by decide +kernel
theorem dX7_lineFor_7 : decode cX7_lineFor 7 = .ok (.if_icmp .ge 20, 3) := by decide +kernel
theorem dX7_lineFor_10 : decode cX7_lineFor 10 = .ok (.aload_n 0, 1) := by decide +kernel
theorem dX7_lineFor_11 : decode cX7_lineFor 11 = .ok (.iload_n 2, 1) := by decide +kernel
theorem dX7_lineFor_12 : decode cX7_lineFor 12 = .ok (.iload_n 1, 1) := by decide +kernel
theorem dX7_lineFor_13 : decode cX7_lineFor 13 = .ok (.invokevirtual 200, 3) := by decide +kernel
theorem dX7_lineFor_16 : decode cX7_lineFor 16 = .ok (.ifCond .eq 5, 3) := by decide +kernel
theorem dX7_lineFor_19 : decode cX7_lineFor 19 = .ok (.iload_n 2, 1) := by decide +kernel
theorem dX7_lineFor_20 : decode cX7_lineFor 20 = .ok (.ireturn, 1) := by decide +kernel
theorem dX7_lineFor_21 : decode cX7_lineFor 21 = .ok (.iinc 2 1, 3) := by decide +kernel
theorem dX7_lineFor_24 : decode cX7_lineFor 24 = .ok (.goto (-22), 3) := by decide +kernel
theorem dX7_lineFor_27 : decode cX7_lineFor 27 = .ok (.iconst (-1), 1) := by decide +kernel
theorem dX7_lineFor_28 : decode cX7_lineFor 28 = .ok (.ireturn, 1) := by decide +kernel
theorem dX7_signOf_0 : decode cX7_signOf 0 = .ok (.iload_n 2, 1) := by decide +kernel
theorem dX7_signOf_1 : decode cX7_signOf 1 = .ok (.tableswitch 72 5 8 #[31, 37, 51, 66], 31) := by decide +kernel
theorem dX7_signOf_32 : decode cX7_signOf 32 = .ok (.aload_n 0, 1) := by decide +kernel
theorem dX7_signOf_33 : decode cX7_signOf 33 = .ok (.iload_n 1, 1) := by decide +kernel
theorem dX7_signOf_34 : decode cX7_signOf 34 = .ok (.invokevirtual 86, 3) := by decide +kernel
theorem dX7_signOf_37 : decode cX7_signOf 37 = .ok (.ireturn, 1) := by decide +kernel
theorem dX7_signOf_38 : decode cX7_signOf 38 = .ok (.aload_n 0, 1) := by decide +kernel
theorem dX7_signOf_39 : decode cX7_signOf 39 = .ok (.iload_n 1, 1) := by decide +kernel
theorem dX7_signOf_40 : decode cX7_signOf 40 = .ok (.invokevirtual 80, 3) := by decide +kernel
theorem dX7_signOf_43 : decode cX7_signOf 43 = .ok (.ifCond .eq 7, 3) := by decide +kernel
theorem dX7_signOf_46 : decode cX7_signOf 46 = .ok (.iconst 1, 1) := by decide +kernel
theorem dX7_signOf_47 : decode cX7_signOf 47 = .ok (.goto 4, 3) := by decide +kernel
theorem dX7_signOf_50 : decode cX7_signOf 50 = .ok (.iconst 0, 1) := by decide +kernel
theorem dX7_signOf_51 : decode cX7_signOf 51 = .ok (.ireturn, 1) := by decide +kernel
theorem dX7_signOf_52 : decode cX7_signOf 52 = .ok (.aload_n 0, 1) := by decide +kernel
theorem dX7_signOf_53 : decode cX7_signOf 53 = .ok (.getfield 25, 3) := by decide +kernel
theorem dX7_signOf_56 : decode cX7_signOf 56 = .ok (.iload_n 1, 1) := by decide +kernel
theorem dX7_signOf_57 : decode cX7_signOf 57 = .ok (.baload, 1) := by decide +kernel
theorem dX7_signOf_58 : decode cX7_signOf 58 = .ok (.ifCond .eq 7, 3) := by decide +kernel
theorem dX7_signOf_61 : decode cX7_signOf 61 = .ok (.iconst 1, 1) := by decide +kernel
theorem dX7_signOf_62 : decode cX7_signOf 62 = .ok (.goto 4, 3) := by decide +kernel
theorem dX7_signOf_65 : decode cX7_signOf 65 = .ok (.iconst 0, 1) := by decide +kernel
theorem dX7_signOf_66 : decode cX7_signOf 66 = .ok (.ireturn, 1) := by decide +kernel
theorem dX7_signOf_67 : decode cX7_signOf 67 = .ok (.aload_n 0, 1) := by decide +kernel
theorem dX7_signOf_68 : decode cX7_signOf 68 = .ok (.iload_n 1, 1) := by decide +kernel
theorem dX7_signOf_69 : decode cX7_signOf 69 = .ok (.invokevirtual 204, 3) := by decide +kernel
theorem dX7_signOf_72 : decode cX7_signOf 72 = .ok (.ireturn, 1) := by decide +kernel
theorem dX7_signOf_73 : decode cX7_signOf 73 = .ok (.aload_n 0, 1) := by decide +kernel
theorem dX7_signOf_74 : decode cX7_signOf 74 = .ok (.iload_n 1, 1) := by decide +kernel
theorem dX7_signOf_75 : decode cX7_signOf 75 = .ok (.iload_n 2, 1) := by decide +kernel
theorem dX7_signOf_76 : decode cX7_signOf 76 = .ok (.invokevirtual 72, 3) := by decide +kernel
theorem dX7_signOf_79 : decode cX7_signOf 79 = .ok (.ireturn, 1) := by decide +kernel
theorem dX7_sign_0 : decode cX7_sign 0 = .ok (.aload_n 0, 1) := by decide +kernel
theorem dX7_sign_1 : decode cX7_sign 1 = .ok (.iload_n 1, 1) := by decide +kernel
theorem dX7_sign_2 : decode cX7_sign 2 = .ok (.invokevirtual 179, 3) := by decide +kernel
theorem dX7_sign_5 : decode cX7_sign 5 = .ok (.ifCond .ne 9, 3) := by decide +kernel
theorem dX7_sign_8 : decode cX7_sign 8 = .ok (.aload_n 0, 1) := by decide +kernel
theorem dX7_sign_9 : decode cX7_sign 9 = .ok (.iconst 1, 1) := by decide +kernel
theorem dX7_sign_10 : decode cX7_sign 10 = .ok (.invokevirtual 170, 3) := by decide +kernel
theorem dX7_sign_13 : decode cX7_sign 13 = .ok (.ireturn, 1) := by decide +kernel
theorem dX7_sign_14 : decode cX7_sign 14 = .ok (.iload_n 2, 1) := by decide +kernel
theorem dX7_sign_15 : decode cX7_sign 15 = .ok (.iconst 0, 1) := by decide +kernel
theorem dX7_sign_16 : decode cX7_sign 16 = .ok (.bipush 8, 2) := by decide +kernel
theorem dX7_sign_18 : decode cX7_sign 18 = .ok (.invokestatic 68, 3) := by decide +kernel
theorem dX7_sign_21 : decode cX7_sign 21 = .ok (.ifCond .ne 9, 3) := by decide +kernel
theorem dX7_sign_24 : decode cX7_sign 24 = .ok (.aload_n 0, 1) := by decide +kernel
theorem dX7_sign_25 : decode cX7_sign 25 = .ok (.iconst 2, 1) := by decide +kernel
theorem dX7_sign_26 : decode cX7_sign 26 = .ok (.invokevirtual 170, 3) := by decide +kernel
theorem dX7_sign_29 : decode cX7_sign 29 = .ok (.ireturn, 1) := by decide +kernel
theorem dX7_sign_30 : decode cX7_sign 30 = .ok (.aload_n 0, 1) := by decide +kernel
theorem dX7_sign_31 : decode cX7_sign 31 = .ok (.invokevirtual 194, 3) := by decide +kernel
theorem dX7_sign_34 : decode cX7_sign 34 = .ok (.aload_n 0, 1) := by decide +kernel
theorem dX7_sign_35 : decode cX7_sign 35 = .ok (.aload_n 0, 1) := by decide +kernel
theorem dX7_sign_36 : decode cX7_sign 36 = .ok (.iload_n 1, 1) := by decide +kernel
theorem dX7_sign_37 : decode cX7_sign 37 = .ok (.iload_n 2, 1) := by decide +kernel
theorem dX7_sign_38 : decode cX7_sign 38 = .ok (.invokevirtual 207, 3) := by decide +kernel
theorem dX7_sign_41 : decode cX7_sign 41 = .ok (.invokevirtual 64, 3) := by decide +kernel
theorem dX7_sign_44 : decode cX7_sign 44 = .ok (.ireturn, 1) := by decide +kernel
theorem dX7_linesOf_0 : decode cX7_linesOf 0 = .ok (.iconst 0, 1) := by decide +kernel
theorem dX7_linesOf_1 : decode cX7_linesOf 1 = .ok (.istore_n 2, 1) := by decide +kernel
theorem dX7_linesOf_2 : decode cX7_linesOf 2 = .ok (.iconst 0, 1) := by decide +kernel
theorem dX7_linesOf_3 : decode cX7_linesOf 3 = .ok (.istore_n 3, 1) := by decide +kernel
theorem dX7_linesOf_4 : decode cX7_linesOf 4 = .ok (.iload_n 3, 1) := by decide +kernel
theorem dX7_linesOf_5 : decode cX7_linesOf 5 = .ok (.aload_n 0, 1) := by decide +kernel
theorem dX7_linesOf_6 : decode cX7_linesOf 6 = .ok (.getfield 83, 3) := by decide +kernel
theorem dX7_linesOf_9 : decode cX7_linesOf 9 = .ok (.if_icmp .ge 42, 3) := by decide +kernel
theorem dX7_linesOf_12 : decode cX7_linesOf 12 = .ok (.iload_n 2, 1) := by decide +kernel
theorem dX7_linesOf_13 : decode cX7_linesOf 13 = .ok (.aload_n 0, 1) := by decide +kernel
theorem dX7_linesOf_14 : decode cX7_linesOf 14 = .ok (.getfield 29, 3) := by decide +kernel
theorem dX7_linesOf_17 : decode cX7_linesOf 17 = .ok (.iconst 5, 1) := by decide +kernel
theorem dX7_linesOf_18 : decode cX7_linesOf 18 = .ok (.iload_n 3, 1) := by decide +kernel
theorem dX7_linesOf_19 : decode cX7_linesOf 19 = .ok (.imul, 1) := by decide +kernel
theorem dX7_linesOf_20 : decode cX7_linesOf 20 = .ok (.iaload, 1) := by decide +kernel
theorem dX7_linesOf_21 : decode cX7_linesOf 21 = .ok (.ifCond .ne 21, 3) := by decide +kernel
theorem dX7_linesOf_24 : decode cX7_linesOf 24 = .ok (.aload_n 0, 1) := by decide +kernel
theorem dX7_linesOf_25 : decode cX7_linesOf 25 = .ok (.getfield 29, 3) := by decide +kernel
theorem dX7_linesOf_28 : decode cX7_linesOf 28 = .ok (.iconst 5, 1) := by decide +kernel
theorem dX7_linesOf_29 : decode cX7_linesOf 29 = .ok (.iload_n 3, 1) := by decide +kernel
theorem dX7_linesOf_30 : decode cX7_linesOf 30 = .ok (.imul, 1) := by decide +kernel
theorem dX7_linesOf_31 : decode cX7_linesOf 31 = .ok (.iconst 1, 1) := by decide +kernel
theorem dX7_linesOf_32 : decode cX7_linesOf 32 = .ok (.iadd, 1) := by decide +kernel
theorem dX7_linesOf_33 : decode cX7_linesOf 33 = .ok (.iaload, 1) := by decide +kernel
theorem dX7_linesOf_34 : decode cX7_linesOf 34 = .ok (.iload_n 1, 1) := by decide +kernel
theorem dX7_linesOf_35 : decode cX7_linesOf 35 = .ok (.if_icmp .ne 7, 3) := by decide +kernel
theorem dX7_linesOf_38 : decode cX7_linesOf 38 = .ok (.iconst 1, 1) := by decide +kernel
theorem dX7_linesOf_39 : decode cX7_linesOf 39 = .ok (.goto 4, 3) := by decide +kernel
theorem dX7_linesOf_42 : decode cX7_linesOf 42 = .ok (.iconst 0, 1) := by decide +kernel
theorem dX7_linesOf_43 : decode cX7_linesOf 43 = .ok (.iadd, 1) := by decide +kernel
theorem dX7_linesOf_44 : decode cX7_linesOf 44 = .ok (.istore_n 2, 1) := by decide +kernel
theorem dX7_linesOf_45 : decode cX7_linesOf 45 = .ok (.iinc 3 1, 3) := by decide +kernel
theorem dX7_linesOf_48 : decode cX7_linesOf 48 = .ok (.goto (-44), 3) := by decide +kernel
theorem dX7_linesOf_51 : decode cX7_linesOf 51 = .ok (.iload_n 2, 1) := by decide +kernel
theorem dX7_linesOf_52 : decode cX7_linesOf 52 = .ok (.ireturn, 1) := by decide +kernel
theorem dX7_kindOf_0 : decode cX7_kindOf 0 = .ok (.bipush 15, 2) := by decide +kernel
theorem dX7_kindOf_2 : decode cX7_kindOf 2 = .ok (.bipush 8, 2) := by decide +kernel
theorem dX7_kindOf_4 : decode cX7_kindOf 4 = .ok (.iload_n 1, 1) := by decide +kernel
theorem dX7_kindOf_5 : decode cX7_kindOf 5 = .ok (.imul, 1) := by decide +kernel
theorem dX7_kindOf_6 : decode cX7_kindOf 6 = .ok (.iadd, 1) := by decide +kernel
theorem dX7_kindOf_7 : decode cX7_kindOf 7 = .ok (.istore_n 3, 1) := by decide +kernel
theorem dX7_kindOf_8 : decode cX7_kindOf 8 = .ok (.iload_n 2, 1) := by decide +kernel
theorem dX7_kindOf_9 : decode cX7_kindOf 9 = .ok (.iconst 3, 1) := by decide +kernel
theorem dX7_kindOf_10 : decode cX7_kindOf 10 = .ok (.if_icmp .ge 12, 3) := by decide +kernel
theorem dX7_kindOf_13 : decode cX7_kindOf 13 = .ok (.aload_n 0, 1) := by decide +kernel
theorem dX7_kindOf_14 : decode cX7_kindOf 14 = .ok (.getfield 7, 3) := by decide +kernel
theorem dX7_kindOf_17 : decode cX7_kindOf 17 = .ok (.iload_n 3, 1) := by decide +kernel
theorem dX7_kindOf_18 : decode cX7_kindOf 18 = .ok (.iload_n 2, 1) := by decide +kernel
theorem dX7_kindOf_19 : decode cX7_kindOf 19 = .ok (.iadd, 1) := by decide +kernel
theorem dX7_kindOf_20 : decode cX7_kindOf 20 = .ok (.iaload, 1) := by decide +kernel
theorem dX7_kindOf_21 : decode cX7_kindOf 21 = .ok (.ireturn, 1) := by decide +kernel
theorem dX7_kindOf_22 : decode cX7_kindOf 22 = .ok (.iload_n 2, 1) := by decide +kernel
theorem dX7_kindOf_23 : decode cX7_kindOf 23 = .ok (.bipush 8, 2) := by decide +kernel
theorem dX7_kindOf_25 : decode cX7_kindOf 25 = .ok (.if_icmp .ge 30, 3) := by decide +kernel
theorem dX7_kindOf_28 : decode cX7_kindOf 28 = .ok (.iload_n 2, 1) := by decide +kernel
theorem dX7_kindOf_29 : decode cX7_kindOf 29 = .ok (.iconst 3, 1) := by decide +kernel
theorem dX7_kindOf_30 : decode cX7_kindOf 30 = .ok (.isub, 1) := by decide +kernel
theorem dX7_kindOf_31 : decode cX7_kindOf 31 = .ok (.aload_n 0, 1) := by decide +kernel
theorem dX7_kindOf_32 : decode cX7_kindOf 32 = .ok (.getfield 7, 3) := by decide +kernel
theorem dX7_kindOf_35 : decode cX7_kindOf 35 = .ok (.iload_n 3, 1) := by decide +kernel
theorem dX7_kindOf_36 : decode cX7_kindOf 36 = .ok (.iconst 2, 1) := by decide +kernel
theorem dX7_kindOf_37 : decode cX7_kindOf 37 = .ok (.iadd, 1) := by decide +kernel
theorem dX7_kindOf_38 : decode cX7_kindOf 38 = .ok (.iaload, 1) := by decide +kernel
theorem dX7_kindOf_39 : decode cX7_kindOf 39 = .ok (.if_icmp .ge 14, 3) := by decide +kernel
theorem dX7_kindOf_42 : decode cX7_kindOf 42 = .ok (.aload_n 0, 1) := by decide +kernel
theorem dX7_kindOf_43 : decode cX7_kindOf 43 = .ok (.getfield 7, 3) := by decide +kernel
theorem dX7_kindOf_46 : decode cX7_kindOf 46 = .ok (.iload_n 3, 1) := by decide +kernel
theorem dX7_kindOf_47 : decode cX7_kindOf 47 = .ok (.iload_n 2, 1) := by decide +kernel
theorem dX7_kindOf_48 : decode cX7_kindOf 48 = .ok (.iadd, 1) := by decide +kernel
theorem dX7_kindOf_49 : decode cX7_kindOf 49 = .ok (.iaload, 1) := by decide +kernel
theorem dX7_kindOf_50 : decode cX7_kindOf 50 = .ok (.goto 4, 3) := by decide +kernel
theorem dX7_kindOf_53 : decode cX7_kindOf 53 = .ok (.iconst (-1), 1) := by decide +kernel
theorem dX7_kindOf_54 : decode cX7_kindOf 54 = .ok (.ireturn, 1) := by decide +kernel
theorem dX7_kindOf_55 : decode cX7_kindOf 55 = .ok (.iload_n 2, 1) := by decide +kernel
theorem dX7_kindOf_56 : decode cX7_kindOf 56 = .ok (.bipush 8, 2) := by decide +kernel
theorem dX7_kindOf_58 : decode cX7_kindOf 58 = .ok (.if_icmp .ne 11, 3) := by decide +kernel
theorem dX7_kindOf_61 : decode cX7_kindOf 61 = .ok (.aload_n 0, 1) := by decide +kernel
theorem dX7_kindOf_62 : decode cX7_kindOf 62 = .ok (.iload_n 1, 1) := by decide +kernel
theorem dX7_kindOf_63 : decode cX7_kindOf 63 = .ok (.invokevirtual 210, 3) := by decide +kernel
theorem dX7_kindOf_66 : decode cX7_kindOf 66 = .ok (.goto 10, 3) := by decide +kernel
theorem dX7_kindOf_69 : decode cX7_kindOf 69 = .ok (.aload_n 0, 1) := by decide +kernel
theorem dX7_kindOf_70 : decode cX7_kindOf 70 = .ok (.iload_n 1, 1) := by decide +kernel
theorem dX7_kindOf_71 : decode cX7_kindOf 71 = .ok (.iconst 0, 1) := by decide +kernel
theorem dX7_kindOf_72 : decode cX7_kindOf 72 = .ok (.iconst 5, 1) := by decide +kernel
theorem dX7_kindOf_73 : decode cX7_kindOf 73 = .ok (.invokevirtual 89, 3) := by decide +kernel
theorem dX7_kindOf_76 : decode cX7_kindOf 76 = .ok (.ireturn, 1) := by decide +kernel
theorem dX7_kind_0 : decode cX7_kind 0 = .ok (.iload_n 1, 1) := by decide +kernel
theorem dX7_kind_1 : decode cX7_kind 1 = .ok (.invokestatic 167, 3) := by decide +kernel
theorem dX7_kind_4 : decode cX7_kind 4 = .ok (.ifCond .ne 9, 3) := by decide +kernel
theorem dX7_kind_7 : decode cX7_kind 7 = .ok (.aload_n 0, 1) := by decide +kernel
theorem dX7_kind_8 : decode cX7_kind 8 = .ok (.iconst 1, 1) := by decide +kernel
theorem dX7_kind_9 : decode cX7_kind 9 = .ok (.invokevirtual 170, 3) := by decide +kernel
theorem dX7_kind_12 : decode cX7_kind 12 = .ok (.ireturn, 1) := by decide +kernel
theorem dX7_kind_13 : decode cX7_kind 13 = .ok (.iload_n 2, 1) := by decide +kernel
theorem dX7_kind_14 : decode cX7_kind 14 = .ok (.iconst 0, 1) := by decide +kernel
theorem dX7_kind_15 : decode cX7_kind 15 = .ok (.bipush 9, 2) := by decide +kernel
theorem dX7_kind_17 : decode cX7_kind 17 = .ok (.invokestatic 68, 3) := by decide +kernel
theorem dX7_kind_20 : decode cX7_kind 20 = .ok (.ifCond .ne 9, 3) := by decide +kernel
theorem dX7_kind_23 : decode cX7_kind 23 = .ok (.aload_n 0, 1) := by decide +kernel
theorem dX7_kind_24 : decode cX7_kind 24 = .ok (.iconst 2, 1) := by decide +kernel
theorem dX7_kind_25 : decode cX7_kind 25 = .ok (.invokevirtual 170, 3) := by decide +kernel
theorem dX7_kind_28 : decode cX7_kind 28 = .ok (.ireturn, 1) := by decide +kernel
theorem dX7_kind_29 : decode cX7_kind 29 = .ok (.aload_n 0, 1) := by decide +kernel
theorem dX7_kind_30 : decode cX7_kind 30 = .ok (.invokevirtual 194, 3) := by decide +kernel
theorem dX7_kind_33 : decode cX7_kind 33 = .ok (.aload_n 0, 1) := by decide +kernel
theorem dX7_kind_34 : decode cX7_kind 34 = .ok (.aload_n 0, 1) := by decide +kernel
theorem dX7_kind_35 : decode cX7_kind 35 = .ok (.iload_n 1, 1) := by decide +kernel
theorem dX7_kind_36 : decode cX7_kind 36 = .ok (.iload_n 2, 1) := by decide +kernel
theorem dX7_kind_37 : decode cX7_kind 37 = .ok (.invokevirtual 213, 3) := by decide +kernel
theorem dX7_kind_40 : decode cX7_kind 40 = .ok (.invokevirtual 64, 3) := by decide +kernel
theorem dX7_kind_43 : decode cX7_kind 43 = .ok (.ireturn, 1) := by decide +kernel
theorem dX7_lines_0 : decode cX7_lines 0 = .ok (.aload_n 0, 1) := by decide +kernel
theorem dX7_lines_1 : decode cX7_lines 1 = .ok (.invokevirtual 194, 3) := by decide +kernel
theorem dX7_lines_4 : decode cX7_lines 4 = .ok (.aload_n 0, 1) := by decide +kernel
theorem dX7_lines_5 : decode cX7_lines 5 = .ok (.aload_n 0, 1) := by decide +kernel
theorem dX7_lines_6 : decode cX7_lines 6 = .ok (.getfield 83, 3) := by decide +kernel
theorem dX7_lines_9 : decode cX7_lines 9 = .ok (.invokevirtual 64, 3) := by decide +kernel
theorem dX7_lines_12 : decode cX7_lines 12 = .ok (.ireturn, 1) := by decide +kernel
theorem dX7_lineOf_0 : decode cX7_lineOf 0 = .ok (.iload_n 2, 1) := by decide +kernel
theorem dX7_lineOf_1 : decode cX7_lineOf 1 = .ok (.iconst 5, 1) := by decide +kernel
theorem dX7_lineOf_2 : decode cX7_lineOf 2 = .ok (.if_icmp .ge 14, 3) := by decide +kernel
theorem dX7_lineOf_5 : decode cX7_lineOf 5 = .ok (.aload_n 0, 1) := by decide +kernel
theorem dX7_lineOf_6 : decode cX7_lineOf 6 = .ok (.getfield 29, 3) := by decide +kernel
theorem dX7_lineOf_9 : decode cX7_lineOf 9 = .ok (.iconst 5, 1) := by decide +kernel
theorem dX7_lineOf_10 : decode cX7_lineOf 10 = .ok (.iload_n 1, 1) := by decide +kernel
theorem dX7_lineOf_11 : decode cX7_lineOf 11 = .ok (.imul, 1) := by decide +kernel
theorem dX7_lineOf_12 : decode cX7_lineOf 12 = .ok (.iload_n 2, 1) := by decide +kernel
theorem dX7_lineOf_13 : decode cX7_lineOf 13 = .ok (.iadd, 1) := by decide +kernel
theorem dX7_lineOf_14 : decode cX7_lineOf 14 = .ok (.iaload, 1) := by decide +kernel
theorem dX7_lineOf_15 : decode cX7_lineOf 15 = .ok (.ireturn, 1) := by decide +kernel
theorem dX7_lineOf_16 : decode cX7_lineOf 16 = .ok (.iload_n 2, 1) := by decide +kernel
theorem dX7_lineOf_17 : decode cX7_lineOf 17 = .ok (.iconst 5, 1) := by decide +kernel
theorem dX7_lineOf_18 : decode cX7_lineOf 18 = .ok (.if_icmp .le 25, 3) := by decide +kernel
theorem dX7_lineOf_21 : decode cX7_lineOf 21 = .ok (.iload_n 2, 1) := by decide +kernel
theorem dX7_lineOf_22 : decode cX7_lineOf 22 = .ok (.bipush 6, 2) := by decide +kernel
theorem dX7_lineOf_24 : decode cX7_lineOf 24 = .ok (.if_icmp .ne 12, 3) := by decide +kernel
theorem dX7_lineOf_27 : decode cX7_lineOf 27 = .ok (.aload_n 0, 1) := by decide +kernel
theorem dX7_lineOf_28 : decode cX7_lineOf 28 = .ok (.getfield 35, 3) := by decide +kernel
theorem dX7_lineOf_31 : decode cX7_lineOf 31 = .ok (.iload_n 1, 1) := by decide +kernel
theorem dX7_lineOf_32 : decode cX7_lineOf 32 = .ok (.iaload, 1) := by decide +kernel
theorem dX7_lineOf_33 : decode cX7_lineOf 33 = .ok (.goto 9, 3) := by decide +kernel
theorem dX7_lineOf_36 : decode cX7_lineOf 36 = .ok (.aload_n 0, 1) := by decide +kernel
theorem dX7_lineOf_37 : decode cX7_lineOf 37 = .ok (.getfield 38, 3) := by decide +kernel
theorem dX7_lineOf_40 : decode cX7_lineOf 40 = .ok (.iload_n 1, 1) := by decide +kernel
theorem dX7_lineOf_41 : decode cX7_lineOf 41 = .ok (.iaload, 1) := by decide +kernel
theorem dX7_lineOf_42 : decode cX7_lineOf 42 = .ok (.ireturn, 1) := by decide +kernel
theorem dX7_lineOf_43 : decode cX7_lineOf 43 = .ok (.iconst 0, 1) := by decide +kernel
theorem dX7_lineOf_44 : decode cX7_lineOf 44 = .ok (.istore_n 3, 1) := by decide +kernel
theorem dX7_lineOf_45 : decode cX7_lineOf 45 = .ok (.iconst 0, 1) := by decide +kernel
theorem dX7_lineOf_46 : decode cX7_lineOf 46 = .ok (.istore 4, 2) := by decide +kernel
theorem dX7_lineOf_48 : decode cX7_lineOf 48 = .ok (.iload 4, 2) := by decide +kernel
theorem dX7_lineOf_50 : decode cX7_lineOf 50 = .ok (.aload_n 0, 1) := by decide +kernel
theorem dX7_lineOf_51 : decode cX7_lineOf 51 = .ok (.getfield 7, 3) := by decide +kernel
theorem dX7_lineOf_54 : decode cX7_lineOf 54 = .ok (.bipush 9, 2) := by decide +kernel
theorem dX7_lineOf_56 : decode cX7_lineOf 56 = .ok (.iaload, 1) := by decide +kernel
theorem dX7_lineOf_57 : decode cX7_lineOf 57 = .ok (.if_icmp .ge 27, 3) := by decide +kernel
theorem dX7_lineOf_60 : decode cX7_lineOf 60 = .ok (.iload_n 3, 1) := by decide +kernel
theorem dX7_lineOf_61 : decode cX7_lineOf 61 = .ok (.aload_n 0, 1) := by decide +kernel
theorem dX7_lineOf_62 : decode cX7_lineOf 62 = .ok (.iload_n 1, 1) := by decide +kernel
theorem dX7_lineOf_63 : decode cX7_lineOf 63 = .ok (.iload 4, 2) := by decide +kernel
theorem dX7_lineOf_65 : decode cX7_lineOf 65 = .ok (.invokevirtual 200, 3) := by decide +kernel
theorem dX7_lineOf_68 : decode cX7_lineOf 68 = .ok (.ifCond .eq 7, 3) := by decide +kernel
theorem dX7_lineOf_71 : decode cX7_lineOf 71 = .ok (.iconst 1, 1) := by decide +kernel
theorem dX7_lineOf_72 : decode cX7_lineOf 72 = .ok (.goto 4, 3) := by decide +kernel
theorem dX7_lineOf_75 : decode cX7_lineOf 75 = .ok (.iconst 0, 1) := by decide +kernel
theorem dX7_lineOf_76 : decode cX7_lineOf 76 = .ok (.iadd, 1) := by decide +kernel
theorem dX7_lineOf_77 : decode cX7_lineOf 77 = .ok (.istore_n 3, 1) := by decide +kernel
theorem dX7_lineOf_78 : decode cX7_lineOf 78 = .ok (.iinc 4 1, 3) := by decide +kernel
theorem dX7_lineOf_81 : decode cX7_lineOf 81 = .ok (.goto (-33), 3) := by decide +kernel
theorem dX7_lineOf_84 : decode cX7_lineOf 84 = .ok (.iload_n 3, 1) := by decide +kernel
theorem dX7_lineOf_85 : decode cX7_lineOf 85 = .ok (.ireturn, 1) := by decide +kernel
theorem dX7_line_0 : decode cX7_line 0 = .ok (.aload_n 0, 1) := by decide +kernel
theorem dX7_line_1 : decode cX7_line 1 = .ok (.invokevirtual 194, 3) := by decide +kernel
theorem dX7_line_4 : decode cX7_line 4 = .ok (.iload_n 1, 1) := by decide +kernel
theorem dX7_line_5 : decode cX7_line 5 = .ok (.ifCond .lt 11, 3) := by decide +kernel
theorem dX7_line_8 : decode cX7_line 8 = .ok (.iload_n 1, 1) := by decide +kernel
theorem dX7_line_9 : decode cX7_line 9 = .ok (.aload_n 0, 1) := by decide +kernel
theorem dX7_line_10 : decode cX7_line 10 = .ok (.getfield 83, 3) := by decide +kernel
theorem dX7_line_13 : decode cX7_line 13 = .ok (.if_icmp .lt 9, 3) := by decide +kernel
theorem dX7_line_16 : decode cX7_line 16 = .ok (.aload_n 0, 1) := by decide +kernel
theorem dX7_line_17 : decode cX7_line 17 = .ok (.iconst 1, 1) := by decide +kernel
theorem dX7_line_18 : decode cX7_line 18 = .ok (.invokevirtual 170, 3) := by decide +kernel
theorem dX7_line_21 : decode cX7_line 21 = .ok (.ireturn, 1) := by decide +kernel
theorem dX7_line_22 : decode cX7_line 22 = .ok (.iload_n 2, 1) := by decide +kernel
theorem dX7_line_23 : decode cX7_line 23 = .ok (.iconst 0, 1) := by decide +kernel
theorem dX7_line_24 : decode cX7_line 24 = .ok (.bipush 7, 2) := by decide +kernel
theorem dX7_line_26 : decode cX7_line 26 = .ok (.invokestatic 68, 3) := by decide +kernel
theorem dX7_line_29 : decode cX7_line 29 = .ok (.ifCond .eq 16, 3) := by decide +kernel
theorem dX7_line_32 : decode cX7_line 32 = .ok (.aload_n 0, 1) := by decide +kernel
theorem dX7_line_33 : decode cX7_line 33 = .ok (.aload_n 0, 1) := by decide +kernel
theorem dX7_line_34 : decode cX7_line 34 = .ok (.iload_n 1, 1) := by decide +kernel
theorem dX7_line_35 : decode cX7_line 35 = .ok (.iload_n 2, 1) := by decide +kernel
theorem dX7_line_36 : decode cX7_line 36 = .ok (.invokevirtual 216, 3) := by decide +kernel
theorem dX7_line_39 : decode cX7_line 39 = .ok (.invokevirtual 64, 3) := by decide +kernel
theorem dX7_line_42 : decode cX7_line 42 = .ok (.goto 8, 3) := by decide +kernel
theorem dX7_line_45 : decode cX7_line 45 = .ok (.aload_n 0, 1) := by decide +kernel
theorem dX7_line_46 : decode cX7_line 46 = .ok (.iconst 2, 1) := by decide +kernel
theorem dX7_line_47 : decode cX7_line 47 = .ok (.invokevirtual 170, 3) := by decide +kernel
theorem dX7_line_50 : decode cX7_line 50 = .ok (.ireturn, 1) := by decide +kernel
theorem dX7_boxOf_0 : decode cX7_boxOf 0 = .ok (.aload_n 0, 1) := by decide +kernel
theorem dX7_boxOf_1 : decode cX7_boxOf 1 = .ok (.getfield 116, 3) := by decide +kernel
theorem dX7_boxOf_4 : decode cX7_boxOf 4 = .ok (.iconst (-1), 1) := by decide +kernel
theorem dX7_boxOf_5 : decode cX7_boxOf 5 = .ok (.if_icmp .ne 5, 3) := by decide +kernel
theorem dX7_boxOf_8 : decode cX7_boxOf 8 = .ok (.iconst (-1), 1) := by decide +kernel
theorem dX7_boxOf_9 : decode cX7_boxOf 9 = .ok (.ireturn, 1) := by decide +kernel
theorem dX7_boxOf_10 : decode cX7_boxOf 10 = .ok (.iload_n 1, 1) := by decide +kernel
theorem dX7_boxOf_11 : decode cX7_boxOf 11 = .ok (.tableswitch 58 0 4 #[33, 38, 43, 48, 53], 33) := by decide +kernel
theorem dX7_boxOf_44 : decode cX7_boxOf 44 = .ok (.aload_n 0, 1) := by decide +kernel
theorem dX7_boxOf_45 : decode cX7_boxOf 45 = .ok (.getfield 116, 3) := by decide +kernel
theorem dX7_boxOf_48 : decode cX7_boxOf 48 = .ok (.ireturn, 1) := by decide +kernel
theorem dX7_boxOf_49 : decode cX7_boxOf 49 = .ok (.aload_n 0, 1) := by decide +kernel
theorem dX7_boxOf_50 : decode cX7_boxOf 50 = .ok (.getfield 119, 3) := by decide +kernel
theorem dX7_boxOf_53 : decode cX7_boxOf 53 = .ok (.ireturn, 1) := by decide +kernel
theorem dX7_boxOf_54 : decode cX7_boxOf 54 = .ok (.aload_n 0, 1) := by decide +kernel
theorem dX7_boxOf_55 : decode cX7_boxOf 55 = .ok (.getfield 125, 3) := by decide +kernel
theorem dX7_boxOf_58 : decode cX7_boxOf 58 = .ok (.ireturn, 1) := by decide +kernel
theorem dX7_boxOf_59 : decode cX7_boxOf 59 = .ok (.aload_n 0, 1) := by decide +kernel
theorem dX7_boxOf_60 : decode cX7_boxOf 60 = .ok (.getfield 122, 3) := by decide +kernel
theorem dX7_boxOf_63 : decode cX7_boxOf 63 = .ok (.ireturn, 1) := by decide +kernel
theorem dX7_boxOf_64 : decode cX7_boxOf 64 = .ok (.aload_n 0, 1) := by decide +kernel
theorem dX7_boxOf_65 : decode cX7_boxOf 65 = .ok (.getfield 128, 3) := by decide +kernel
theorem dX7_boxOf_68 : decode cX7_boxOf 68 = .ok (.ireturn, 1) := by decide +kernel
theorem dX7_boxOf_69 : decode cX7_boxOf 69 = .ok (.aload_n 0, 1) := by decide +kernel
theorem dX7_boxOf_70 : decode cX7_boxOf 70 = .ok (.invokevirtual 137, 3) := by decide +kernel
theorem dX7_boxOf_73 : decode cX7_boxOf 73 = .ok (.ireturn, 1) := by decide +kernel
theorem dX7_box_0 : decode cX7_box 0 = .ok (.iload_n 1, 1) := by decide +kernel
theorem dX7_box_1 : decode cX7_box 1 = .ok (.iconst 0, 1) := by decide +kernel
theorem dX7_box_2 : decode cX7_box 2 = .ok (.iconst 5, 1) := by decide +kernel
theorem dX7_box_3 : decode cX7_box 3 = .ok (.invokestatic 68, 3) := by decide +kernel
theorem dX7_box_6 : decode cX7_box 6 = .ok (.ifCond .ne 9, 3) := by decide +kernel
theorem dX7_box_9 : decode cX7_box 9 = .ok (.aload_n 0, 1) := by decide +kernel
theorem dX7_box_10 : decode cX7_box 10 = .ok (.iconst 1, 1) := by decide +kernel
theorem dX7_box_11 : decode cX7_box 11 = .ok (.invokevirtual 170, 3) := by decide +kernel
theorem dX7_box_14 : decode cX7_box 14 = .ok (.ireturn, 1) := by decide +kernel
theorem dX7_box_15 : decode cX7_box 15 = .ok (.aload_n 0, 1) := by decide +kernel
theorem dX7_box_16 : decode cX7_box 16 = .ok (.invokevirtual 194, 3) := by decide +kernel
theorem dX7_box_19 : decode cX7_box 19 = .ok (.aload_n 0, 1) := by decide +kernel
theorem dX7_box_20 : decode cX7_box 20 = .ok (.aload_n 0, 1) := by decide +kernel
theorem dX7_box_21 : decode cX7_box 21 = .ok (.iload_n 1, 1) := by decide +kernel
theorem dX7_box_22 : decode cX7_box 22 = .ok (.invokevirtual 219, 3) := by decide +kernel
theorem dX7_box_25 : decode cX7_box 25 = .ok (.invokevirtual 64, 3) := by decide +kernel
theorem dX7_box_28 : decode cX7_box 28 = .ok (.ireturn, 1) := by decide +kernel
theorem dX7_roundsOf_0 : decode cX7_roundsOf 0 = .ok (.iload_n 1, 1) := by decide +kernel
theorem dX7_roundsOf_1 : decode cX7_roundsOf 1 = .ok (.iconst 2, 1) := by decide +kernel
theorem dX7_roundsOf_2 : decode cX7_roundsOf 2 = .ok (.if_icmp .ge 27, 3) := by decide +kernel
theorem dX7_roundsOf_5 : decode cX7_roundsOf 5 = .ok (.iload_n 1, 1) := by decide +kernel
theorem dX7_roundsOf_6 : decode cX7_roundsOf 6 = .ok (.ifCond .ne 10, 3) := by decide +kernel
theorem dX7_roundsOf_9 : decode cX7_roundsOf 9 = .ok (.aload_n 0, 1) := by decide +kernel
theorem dX7_roundsOf_10 : decode cX7_roundsOf 10 = .ok (.getfield 150, 3) := by decide +kernel
theorem dX7_roundsOf_13 : decode cX7_roundsOf 13 = .ok (.goto 15, 3) := by decide +kernel
theorem dX7_roundsOf_16 : decode cX7_roundsOf 16 = .ok (.aload_n 0, 1) := by decide +kernel
theorem dX7_roundsOf_17 : decode cX7_roundsOf 17 = .ok (.getfield 153, 3) := by decide +kernel
theorem dX7_roundsOf_20 : decode cX7_roundsOf 20 = .ok (.ifCond .eq 7, 3) := by decide +kernel
theorem dX7_roundsOf_23 : decode cX7_roundsOf 23 = .ok (.iconst 1, 1) := by decide +kernel
theorem dX7_roundsOf_24 : decode cX7_roundsOf 24 = .ok (.goto 4, 3) := by decide +kernel
theorem dX7_roundsOf_27 : decode cX7_roundsOf 27 = .ok (.iconst 0, 1) := by decide +kernel
theorem dX7_roundsOf_28 : decode cX7_roundsOf 28 = .ok (.ireturn, 1) := by decide +kernel
theorem dX7_roundsOf_29 : decode cX7_roundsOf 29 = .ok (.iconst 0, 1) := by decide +kernel
theorem dX7_roundsOf_30 : decode cX7_roundsOf 30 = .ok (.istore_n 2, 1) := by decide +kernel
theorem dX7_roundsOf_31 : decode cX7_roundsOf 31 = .ok (.iconst 0, 1) := by decide +kernel
theorem dX7_roundsOf_32 : decode cX7_roundsOf 32 = .ok (.istore_n 3, 1) := by decide +kernel
theorem dX7_roundsOf_33 : decode cX7_roundsOf 33 = .ok (.iload_n 3, 1) := by decide +kernel
theorem dX7_roundsOf_34 : decode cX7_roundsOf 34 = .ok (.aload_n 0, 1) := by decide +kernel
theorem dX7_roundsOf_35 : decode cX7_roundsOf 35 = .ok (.getfield 7, 3) := by decide +kernel
theorem dX7_roundsOf_38 : decode cX7_roundsOf 38 = .ok (.bipush 9, 2) := by decide +kernel
theorem dX7_roundsOf_40 : decode cX7_roundsOf 40 = .ok (.iaload, 1) := by decide +kernel
theorem dX7_roundsOf_41 : decode cX7_roundsOf 41 = .ok (.if_icmp .ge 34, 3) := by decide +kernel
theorem dX7_roundsOf_44 : decode cX7_roundsOf 44 = .ok (.iload_n 2, 1) := by decide +kernel
theorem dX7_roundsOf_45 : decode cX7_roundsOf 45 = .ok (.aload_n 0, 1) := by decide +kernel
theorem dX7_roundsOf_46 : decode cX7_roundsOf 46 = .ok (.getfield 25, 3) := by decide +kernel
theorem dX7_roundsOf_49 : decode cX7_roundsOf 49 = .ok (.iload_n 3, 1) := by decide +kernel
theorem dX7_roundsOf_50 : decode cX7_roundsOf 50 = .ok (.baload, 1) := by decide +kernel
theorem dX7_roundsOf_51 : decode cX7_roundsOf 51 = .ok (.ifCond .eq 15, 3) := by decide +kernel
theorem dX7_roundsOf_54 : decode cX7_roundsOf 54 = .ok (.aload_n 0, 1) := by decide +kernel
theorem dX7_roundsOf_55 : decode cX7_roundsOf 55 = .ok (.iload_n 3, 1) := by decide +kernel
theorem dX7_roundsOf_56 : decode cX7_roundsOf 56 = .ok (.invokevirtual 131, 3) := by decide +kernel
theorem dX7_roundsOf_59 : decode cX7_roundsOf 59 = .ok (.ifCond .eq 7, 3) := by decide +kernel
theorem dX7_roundsOf_62 : decode cX7_roundsOf 62 = .ok (.iconst 1, 1) := by decide +kernel
theorem dX7_roundsOf_63 : decode cX7_roundsOf 63 = .ok (.goto 4, 3) := by decide +kernel
theorem dX7_roundsOf_66 : decode cX7_roundsOf 66 = .ok (.iconst 0, 1) := by decide +kernel
theorem dX7_roundsOf_67 : decode cX7_roundsOf 67 = .ok (.iadd, 1) := by decide +kernel
theorem dX7_roundsOf_68 : decode cX7_roundsOf 68 = .ok (.istore_n 2, 1) := by decide +kernel
theorem dX7_roundsOf_69 : decode cX7_roundsOf 69 = .ok (.iinc 3 1, 3) := by decide +kernel
theorem dX7_roundsOf_72 : decode cX7_roundsOf 72 = .ok (.goto (-39), 3) := by decide +kernel
theorem dX7_roundsOf_75 : decode cX7_roundsOf 75 = .ok (.iload_n 2, 1) := by decide +kernel
theorem dX7_roundsOf_76 : decode cX7_roundsOf 76 = .ok (.ireturn, 1) := by decide +kernel
theorem dX7_rounds_0 : decode cX7_rounds 0 = .ok (.iload_n 1, 1) := by decide +kernel
theorem dX7_rounds_1 : decode cX7_rounds 1 = .ok (.iconst 0, 1) := by decide +kernel
theorem dX7_rounds_2 : decode cX7_rounds 2 = .ok (.iconst 2, 1) := by decide +kernel
theorem dX7_rounds_3 : decode cX7_rounds 3 = .ok (.invokestatic 68, 3) := by decide +kernel
theorem dX7_rounds_6 : decode cX7_rounds 6 = .ok (.ifCond .ne 9, 3) := by decide +kernel
theorem dX7_rounds_9 : decode cX7_rounds 9 = .ok (.aload_n 0, 1) := by decide +kernel
theorem dX7_rounds_10 : decode cX7_rounds 10 = .ok (.iconst 1, 1) := by decide +kernel
theorem dX7_rounds_11 : decode cX7_rounds 11 = .ok (.invokevirtual 170, 3) := by decide +kernel
theorem dX7_rounds_14 : decode cX7_rounds 14 = .ok (.ireturn, 1) := by decide +kernel
theorem dX7_rounds_15 : decode cX7_rounds 15 = .ok (.aload_n 0, 1) := by decide +kernel
theorem dX7_rounds_16 : decode cX7_rounds 16 = .ok (.invokevirtual 194, 3) := by decide +kernel
theorem dX7_rounds_19 : decode cX7_rounds 19 = .ok (.aload_n 0, 1) := by decide +kernel
theorem dX7_rounds_20 : decode cX7_rounds 20 = .ok (.aload_n 0, 1) := by decide +kernel
theorem dX7_rounds_21 : decode cX7_rounds 21 = .ok (.iload_n 1, 1) := by decide +kernel
theorem dX7_rounds_22 : decode cX7_rounds 22 = .ok (.invokevirtual 222, 3) := by decide +kernel
theorem dX7_rounds_25 : decode cX7_rounds 25 = .ok (.invokevirtual 64, 3) := by decide +kernel
theorem dX7_rounds_28 : decode cX7_rounds 28 = .ok (.ireturn, 1) := by decide +kernel
theorem dX7_firstLines_0 : decode cX7_firstLines 0 = .ok (.aload_n 0, 1) := by decide +kernel
theorem dX7_firstLines_1 : decode cX7_firstLines 1 = .ok (.invokevirtual 194, 3) := by decide +kernel
theorem dX7_firstLines_4 : decode cX7_firstLines 4 = .ok (.aload_n 0, 1) := by decide +kernel
theorem dX7_firstLines_5 : decode cX7_firstLines 5 = .ok (.aload_n 0, 1) := by decide +kernel
theorem dX7_firstLines_6 : decode cX7_firstLines 6 = .ok (.getfield 160, 3) := by decide +kernel
theorem dX7_firstLines_9 : decode cX7_firstLines 9 = .ok (.invokevirtual 64, 3) := by decide +kernel
theorem dX7_firstLines_12 : decode cX7_firstLines 12 = .ok (.ireturn, 1) := by decide +kernel
theorem dX7_explained_0 : decode cX7_explained 0 = .ok (.aload_n 0, 1) := by decide +kernel
theorem dX7_explained_1 : decode cX7_explained 1 = .ok (.iconst 0, 1) := by decide +kernel
theorem dX7_explained_2 : decode cX7_explained 2 = .ok (.putfield 53, 3) := by decide +kernel
theorem dX7_explained_5 : decode cX7_explained 5 = .ok (.aload_n 0, 1) := by decide +kernel
theorem dX7_explained_6 : decode cX7_explained 6 = .ok (.invokevirtual 194, 3) := by decide +kernel
theorem dX7_explained_9 : decode cX7_explained 9 = .ok (.aload_n 0, 1) := by decide +kernel
theorem dX7_explained_10 : decode cX7_explained 10 = .ok (.invokevirtual 185, 3) := by decide +kernel
theorem dX7_explained_13 : decode cX7_explained 13 = .ok (.istore_n 1, 1) := by decide +kernel
theorem dX7_explained_14 : decode cX7_explained 14 = .ok (.iload_n 1, 1) := by decide +kernel
theorem dX7_explained_15 : decode cX7_explained 15 = .ok (.ifCond .ne 7, 3) := by decide +kernel
theorem dX7_explained_18 : decode cX7_explained 18 = .ok (.dconst 1, 1) := by decide +kernel
theorem dX7_explained_19 : decode cX7_explained 19 = .ok (.goto 11, 3) := by decide +kernel
theorem dX7_explained_22 : decode cX7_explained 22 = .ok (.aload_n 0, 1) := by decide +kernel
theorem dX7_explained_23 : decode cX7_explained 23 = .ok (.invokevirtual 191, 3) := by decide +kernel
theorem dX7_explained_26 : decode cX7_explained 26 = .ok (.i2d, 1) := by decide +kernel
theorem dX7_explained_27 : decode cX7_explained 27 = .ok (.iload_n 1, 1) := by decide +kernel
theorem dX7_explained_28 : decode cX7_explained 28 = .ok (.i2d, 1) := by decide +kernel
theorem dX7_explained_29 : decode cX7_explained 29 = .ok (.ddiv, 1) := by decide +kernel
theorem dX7_explained_30 : decode cX7_explained 30 = .ok (.dreturn, 1) := by decide +kernel
theorem dX7_linesAt_0 : decode cX7_linesAt 0 = .ok (.iload_n 1, 1) := by decide +kernel
theorem dX7_linesAt_1 : decode cX7_linesAt 1 = .ok (.iconst 0, 1) := by decide +kernel
theorem dX7_linesAt_2 : decode cX7_linesAt 2 = .ok (.sipush 199, 3) := by decide +kernel
theorem dX7_linesAt_5 : decode cX7_linesAt 5 = .ok (.invokestatic 68, 3) := by decide +kernel
theorem dX7_linesAt_8 : decode cX7_linesAt 8 = .ok (.ifCond .eq 14, 3) := by decide +kernel
theorem dX7_linesAt_11 : decode cX7_linesAt 11 = .ok (.iload_n 2, 1) := by decide +kernel
theorem dX7_linesAt_12 : decode cX7_linesAt 12 = .ok (.iconst 0, 1) := by decide +kernel
theorem dX7_linesAt_13 : decode cX7_linesAt 13 = .ok (.sipush 199, 3) := by decide +kernel
theorem dX7_linesAt_16 : decode cX7_linesAt 16 = .ok (.invokestatic 68, 3) := by decide +kernel
theorem dX7_linesAt_19 : decode cX7_linesAt 19 = .ok (.ifCond .ne 9, 3) := by decide +kernel
theorem dX7_linesAt_22 : decode cX7_linesAt 22 = .ok (.aload_n 0, 1) := by decide +kernel
theorem dX7_linesAt_23 : decode cX7_linesAt 23 = .ok (.iconst 1, 1) := by decide +kernel
theorem dX7_linesAt_24 : decode cX7_linesAt 24 = .ok (.invokevirtual 170, 3) := by decide +kernel
theorem dX7_linesAt_27 : decode cX7_linesAt 27 = .ok (.ireturn, 1) := by decide +kernel
theorem dX7_linesAt_28 : decode cX7_linesAt 28 = .ok (.aload_n 0, 1) := by decide +kernel
theorem dX7_linesAt_29 : decode cX7_linesAt 29 = .ok (.getfield 19, 3) := by decide +kernel
theorem dX7_linesAt_32 : decode cX7_linesAt 32 = .ok (.aload_n 0, 1) := by decide +kernel
theorem dX7_linesAt_33 : decode cX7_linesAt 33 = .ok (.getfield 7, 3) := by decide +kernel
theorem dX7_linesAt_36 : decode cX7_linesAt 36 = .ok (.invokestatic 57, 3) := by decide +kernel
theorem dX7_linesAt_39 : decode cX7_linesAt 39 = .ok (.aload_n 0, 1) := by decide +kernel
theorem dX7_linesAt_40 : decode cX7_linesAt 40 = .ok (.getfield 7, 3) := by decide +kernel
theorem dX7_linesAt_43 : decode cX7_linesAt 43 = .ok (.iconst 4, 1) := by decide +kernel
theorem dX7_linesAt_44 : decode cX7_linesAt 44 = .ok (.iload_n 1, 1) := by decide +kernel
theorem dX7_linesAt_45 : decode cX7_linesAt 45 = .ok (.iastore, 1) := by decide +kernel
theorem dX7_linesAt_46 : decode cX7_linesAt 46 = .ok (.aload_n 0, 1) := by decide +kernel
theorem dX7_linesAt_47 : decode cX7_linesAt 47 = .ok (.getfield 7, 3) := by decide +kernel
theorem dX7_linesAt_50 : decode cX7_linesAt 50 = .ok (.iconst 5, 1) := by decide +kernel
theorem dX7_linesAt_51 : decode cX7_linesAt 51 = .ok (.iload_n 2, 1) := by decide +kernel
theorem dX7_linesAt_52 : decode cX7_linesAt 52 = .ok (.iastore, 1) := by decide +kernel
theorem dX7_linesAt_53 : decode cX7_linesAt 53 = .ok (.aload_n 0, 1) := by decide +kernel
theorem dX7_linesAt_54 : decode cX7_linesAt 54 = .ok (.invokevirtual 194, 3) := by decide +kernel
theorem dX7_linesAt_57 : decode cX7_linesAt 57 = .ok (.aload_n 0, 1) := by decide +kernel
theorem dX7_linesAt_58 : decode cX7_linesAt 58 = .ok (.getfield 7, 3) := by decide +kernel
theorem dX7_linesAt_61 : decode cX7_linesAt 61 = .ok (.aload_n 0, 1) := by decide +kernel
theorem dX7_linesAt_62 : decode cX7_linesAt 62 = .ok (.getfield 19, 3) := by decide +kernel
theorem dX7_linesAt_65 : decode cX7_linesAt 65 = .ok (.invokestatic 57, 3) := by decide +kernel
theorem dX7_linesAt_68 : decode cX7_linesAt 68 = .ok (.aload_n 0, 1) := by decide +kernel
theorem dX7_linesAt_69 : decode cX7_linesAt 69 = .ok (.aload_n 0, 1) := by decide +kernel
theorem dX7_linesAt_70 : decode cX7_linesAt 70 = .ok (.getfield 83, 3) := by decide +kernel
theorem dX7_linesAt_73 : decode cX7_linesAt 73 = .ok (.invokevirtual 64, 3) := by decide +kernel
theorem dX7_linesAt_76 : decode cX7_linesAt 76 = .ok (.ireturn, 1) := by decide +kernel
theorem dX7_bestColumns_0 : decode cX7_bestColumns 0 = .ok (.aload_n 0, 1) := by decide +kernel
theorem dX7_bestColumns_1 : decode cX7_bestColumns 1 = .ok (.getfield 7, 3) := by decide +kernel
theorem dX7_bestColumns_4 : decode cX7_bestColumns 4 = .ok (.iconst 1, 1) := by decide +kernel
theorem dX7_bestColumns_5 : decode cX7_bestColumns 5 = .ok (.iaload, 1) := by decide +kernel
theorem dX7_bestColumns_6 : decode cX7_bestColumns 6 = .ok (.istore_n 1, 1) := by decide +kernel
theorem dX7_bestColumns_7 : decode cX7_bestColumns 7 = .ok (.iconst 0, 1) := by decide +kernel
theorem dX7_bestColumns_8 : decode cX7_bestColumns 8 = .ok (.istore_n 2, 1) := by decide +kernel
theorem dX7_bestColumns_9 : decode cX7_bestColumns 9 = .ok (.iconst (-1), 1) := by decide +kernel
theorem dX7_bestColumns_10 : decode cX7_bestColumns 10 = .ok (.istore_n 3, 1) := by decide +kernel
theorem dX7_bestColumns_11 : decode cX7_bestColumns 11 = .ok (.iconst 1, 1) := by decide +kernel
theorem dX7_bestColumns_12 : decode cX7_bestColumns 12 = .ok (.istore 4, 2) := by decide +kernel
theorem dX7_bestColumns_14 : decode cX7_bestColumns 14 = .ok (.iload 4, 2) := by decide +kernel
theorem dX7_bestColumns_16 : decode cX7_bestColumns 16 = .ok (.iconst 5, 1) := by decide +kernel
theorem dX7_bestColumns_17 : decode cX7_bestColumns 17 = .ok (.if_icmp .ge 53, 3) := by decide +kernel
theorem dX7_bestColumns_20 : decode cX7_bestColumns 20 = .ok (.aload_n 0, 1) := by decide +kernel
theorem dX7_bestColumns_21 : decode cX7_bestColumns 21 = .ok (.getfield 7, 3) := by decide +kernel
theorem dX7_bestColumns_24 : decode cX7_bestColumns 24 = .ok (.iconst 1, 1) := by decide +kernel
theorem dX7_bestColumns_25 : decode cX7_bestColumns 25 = .ok (.iload 4, 2) := by decide +kernel
theorem dX7_bestColumns_27 : decode cX7_bestColumns 27 = .ok (.iastore, 1) := by decide +kernel
theorem dX7_bestColumns_28 : decode cX7_bestColumns 28 = .ok (.aload_n 0, 1) := by decide +kernel
theorem dX7_bestColumns_29 : decode cX7_bestColumns 29 = .ok (.invokevirtual 194, 3) := by decide +kernel
theorem dX7_bestColumns_32 : decode cX7_bestColumns 32 = .ok (.aload_n 0, 1) := by decide +kernel
theorem dX7_bestColumns_33 : decode cX7_bestColumns 33 = .ok (.invokevirtual 191, 3) := by decide +kernel
theorem dX7_bestColumns_36 : decode cX7_bestColumns 36 = .ok (.istore 5, 2) := by decide +kernel
theorem dX7_bestColumns_38 : decode cX7_bestColumns 38 = .ok (.iload 5, 2) := by decide +kernel
theorem dX7_bestColumns_40 : decode cX7_bestColumns 40 = .ok (.iload_n 3, 1) := by decide +kernel
theorem dX7_bestColumns_41 : decode cX7_bestColumns 41 = .ok (.if_icmp .le 8, 3) := by decide +kernel
theorem dX7_bestColumns_44 : decode cX7_bestColumns 44 = .ok (.iload 4, 2) := by decide +kernel
theorem dX7_bestColumns_46 : decode cX7_bestColumns 46 = .ok (.goto 4, 3) := by decide +kernel
theorem dX7_bestColumns_49 : decode cX7_bestColumns 49 = .ok (.iload_n 2, 1) := by decide +kernel
theorem dX7_bestColumns_50 : decode cX7_bestColumns 50 = .ok (.istore_n 2, 1) := by decide +kernel
theorem dX7_bestColumns_51 : decode cX7_bestColumns 51 = .ok (.iload 5, 2) := by decide +kernel
theorem dX7_bestColumns_53 : decode cX7_bestColumns 53 = .ok (.iload_n 3, 1) := by decide +kernel
theorem dX7_bestColumns_54 : decode cX7_bestColumns 54 = .ok (.if_icmp .le 8, 3) := by decide +kernel
theorem dX7_bestColumns_57 : decode cX7_bestColumns 57 = .ok (.iload 5, 2) := by decide +kernel
theorem dX7_bestColumns_59 : decode cX7_bestColumns 59 = .ok (.goto 4, 3) := by decide +kernel
theorem dX7_bestColumns_62 : decode cX7_bestColumns 62 = .ok (.iload_n 3, 1) := by decide +kernel
theorem dX7_bestColumns_63 : decode cX7_bestColumns 63 = .ok (.istore_n 3, 1) := by decide +kernel
theorem dX7_bestColumns_64 : decode cX7_bestColumns 64 = .ok (.iinc 4 1, 3) := by decide +kernel
theorem dX7_bestColumns_67 : decode cX7_bestColumns 67 = .ok (.goto (-53), 3) := by decide +kernel
theorem dX7_bestColumns_70 : decode cX7_bestColumns 70 = .ok (.aload_n 0, 1) := by decide +kernel
theorem dX7_bestColumns_71 : decode cX7_bestColumns 71 = .ok (.getfield 7, 3) := by decide +kernel
theorem dX7_bestColumns_74 : decode cX7_bestColumns 74 = .ok (.iconst 1, 1) := by decide +kernel
theorem dX7_bestColumns_75 : decode cX7_bestColumns 75 = .ok (.iload_n 1, 1) := by decide +kernel
theorem dX7_bestColumns_76 : decode cX7_bestColumns 76 = .ok (.iastore, 1) := by decide +kernel
theorem dX7_bestColumns_77 : decode cX7_bestColumns 77 = .ok (.aload_n 0, 1) := by decide +kernel
theorem dX7_bestColumns_78 : decode cX7_bestColumns 78 = .ok (.iload_n 2, 1) := by decide +kernel
theorem dX7_bestColumns_79 : decode cX7_bestColumns 79 = .ok (.invokevirtual 64, 3) := by decide +kernel
theorem dX7_bestColumns_82 : decode cX7_bestColumns 82 = .ok (.ireturn, 1) := by decide +kernel
theorem dX7_zoomFor_0 : decode cX7_zoomFor 0 = .ok (.iload_n 1, 1) := by decide +kernel
theorem dX7_zoomFor_1 : decode cX7_zoomFor 1 = .ok (.invokestatic 167, 3) := by decide +kernel
theorem dX7_zoomFor_4 : decode cX7_zoomFor 4 = .ok (.ifCond .ne 9, 3) := by decide +kernel
theorem dX7_zoomFor_7 : decode cX7_zoomFor 7 = .ok (.aload_n 0, 1) := by decide +kernel
theorem dX7_zoomFor_8 : decode cX7_zoomFor 8 = .ok (.iconst 1, 1) := by decide +kernel
theorem dX7_zoomFor_9 : decode cX7_zoomFor 9 = .ok (.invokevirtual 170, 3) := by decide +kernel
theorem dX7_zoomFor_12 : decode cX7_zoomFor 12 = .ok (.ireturn, 1) := by decide +kernel
theorem dX7_zoomFor_13 : decode cX7_zoomFor 13 = .ok (.iconst 0, 1) := by decide +kernel
theorem dX7_zoomFor_14 : decode cX7_zoomFor 14 = .ok (.istore_n 2, 1) := by decide +kernel
theorem dX7_zoomFor_15 : decode cX7_zoomFor 15 = .ok (.iconst 0, 1) := by decide +kernel
theorem dX7_zoomFor_16 : decode cX7_zoomFor 16 = .ok (.istore_n 3, 1) := by decide +kernel
theorem dX7_zoomFor_17 : decode cX7_zoomFor 17 = .ok (.iload_n 3, 1) := by decide +kernel
theorem dX7_zoomFor_18 : decode cX7_zoomFor 18 = .ok (.aload_n 0, 1) := by decide +kernel
theorem dX7_zoomFor_19 : decode cX7_zoomFor 19 = .ok (.getfield 7, 3) := by decide +kernel
theorem dX7_zoomFor_22 : decode cX7_zoomFor 22 = .ok (.bipush 9, 2) := by decide +kernel
theorem dX7_zoomFor_24 : decode cX7_zoomFor 24 = .ok (.iaload, 1) := by decide +kernel
theorem dX7_zoomFor_25 : decode cX7_zoomFor 25 = .ok (.if_icmp .ge 48, 3) := by decide +kernel
theorem dX7_zoomFor_28 : decode cX7_zoomFor 28 = .ok (.aload_n 0, 1) := by decide +kernel
theorem dX7_zoomFor_29 : decode cX7_zoomFor 29 = .ok (.iload_n 3, 1) := by decide +kernel
theorem dX7_zoomFor_30 : decode cX7_zoomFor 30 = .ok (.iconst 0, 1) := by decide +kernel
theorem dX7_zoomFor_31 : decode cX7_zoomFor 31 = .ok (.invokevirtual 72, 3) := by decide +kernel
theorem dX7_zoomFor_34 : decode cX7_zoomFor 34 = .ok (.iload_n 1, 1) := by decide +kernel
theorem dX7_zoomFor_35 : decode cX7_zoomFor 35 = .ok (.if_icmp .ne 30, 3) := by decide +kernel
theorem dX7_zoomFor_38 : decode cX7_zoomFor 38 = .ok (.aload_n 0, 1) := by decide +kernel
theorem dX7_zoomFor_39 : decode cX7_zoomFor 39 = .ok (.iload_n 3, 1) := by decide +kernel
theorem dX7_zoomFor_40 : decode cX7_zoomFor 40 = .ok (.invokevirtual 76, 3) := by decide +kernel
theorem dX7_zoomFor_43 : decode cX7_zoomFor 43 = .ok (.ifCond .eq 22, 3) := by decide +kernel
theorem dX7_zoomFor_46 : decode cX7_zoomFor 46 = .ok (.aload_n 0, 1) := by decide +kernel
theorem dX7_zoomFor_47 : decode cX7_zoomFor 47 = .ok (.iload_n 3, 1) := by decide +kernel
theorem dX7_zoomFor_48 : decode cX7_zoomFor 48 = .ok (.iconst 4, 1) := by decide +kernel
theorem dX7_zoomFor_49 : decode cX7_zoomFor 49 = .ok (.invokevirtual 72, 3) := by decide +kernel
theorem dX7_zoomFor_52 : decode cX7_zoomFor 52 = .ok (.iload_n 2, 1) := by decide +kernel
theorem dX7_zoomFor_53 : decode cX7_zoomFor 53 = .ok (.if_icmp .le 12, 3) := by decide +kernel
theorem dX7_zoomFor_56 : decode cX7_zoomFor 56 = .ok (.aload_n 0, 1) := by decide +kernel
theorem dX7_zoomFor_57 : decode cX7_zoomFor 57 = .ok (.iload_n 3, 1) := by decide +kernel
theorem dX7_zoomFor_58 : decode cX7_zoomFor 58 = .ok (.iconst 4, 1) := by decide +kernel
theorem dX7_zoomFor_59 : decode cX7_zoomFor 59 = .ok (.invokevirtual 72, 3) := by decide +kernel
theorem dX7_zoomFor_62 : decode cX7_zoomFor 62 = .ok (.goto 4, 3) := by decide +kernel
theorem dX7_zoomFor_65 : decode cX7_zoomFor 65 = .ok (.iload_n 2, 1) := by decide +kernel
theorem dX7_zoomFor_66 : decode cX7_zoomFor 66 = .ok (.istore_n 2, 1) := by decide +kernel
theorem dX7_zoomFor_67 : decode cX7_zoomFor 67 = .ok (.iinc 3 1, 3) := by decide +kernel
theorem dX7_zoomFor_70 : decode cX7_zoomFor 70 = .ok (.goto (-53), 3) := by decide +kernel
theorem dX7_zoomFor_73 : decode cX7_zoomFor 73 = .ok (.aload_n 0, 1) := by decide +kernel
theorem dX7_zoomFor_74 : decode cX7_zoomFor 74 = .ok (.iload_n 2, 1) := by decide +kernel
theorem dX7_zoomFor_75 : decode cX7_zoomFor 75 = .ok (.invokevirtual 64, 3) := by decide +kernel
theorem dX7_zoomFor_78 : decode cX7_zoomFor 78 = .ok (.ireturn, 1) := by decide +kernel
theorem dX7_linesSaved_0 : decode cX7_linesSaved 0 = .ok (.aload_n 0, 1) := by decide +kernel
theorem dX7_linesSaved_1 : decode cX7_linesSaved 1 = .ok (.iload_n 1, 1) := by decide +kernel
theorem dX7_linesSaved_2 : decode cX7_linesSaved 2 = .ok (.invokevirtual 179, 3) := by decide +kernel
theorem dX7_linesSaved_5 : decode cX7_linesSaved 5 = .ok (.ifCond .ne 9, 3) := by decide +kernel
theorem dX7_linesSaved_8 : decode cX7_linesSaved 8 = .ok (.aload_n 0, 1) := by decide +kernel
theorem dX7_linesSaved_9 : decode cX7_linesSaved 9 = .ok (.iconst 1, 1) := by decide +kernel
theorem dX7_linesSaved_10 : decode cX7_linesSaved 10 = .ok (.invokevirtual 170, 3) := by decide +kernel
theorem dX7_linesSaved_13 : decode cX7_linesSaved 13 = .ok (.ireturn, 1) := by decide +kernel
theorem dX7_linesSaved_14 : decode cX7_linesSaved 14 = .ok (.aload_n 0, 1) := by decide +kernel
theorem dX7_linesSaved_15 : decode cX7_linesSaved 15 = .ok (.invokevirtual 194, 3) := by decide +kernel
theorem dX7_linesSaved_18 : decode cX7_linesSaved 18 = .ok (.aload_n 0, 1) := by decide +kernel
theorem dX7_linesSaved_19 : decode cX7_linesSaved 19 = .ok (.getfield 83, 3) := by decide +kernel
theorem dX7_linesSaved_22 : decode cX7_linesSaved 22 = .ok (.istore_n 2, 1) := by decide +kernel
theorem dX7_linesSaved_23 : decode cX7_linesSaved 23 = .ok (.aload_n 0, 1) := by decide +kernel
theorem dX7_linesSaved_24 : decode cX7_linesSaved 24 = .ok (.getfield 19, 3) := by decide +kernel
theorem dX7_linesSaved_27 : decode cX7_linesSaved 27 = .ok (.aload_n 0, 1) := by decide +kernel
theorem dX7_linesSaved_28 : decode cX7_linesSaved 28 = .ok (.getfield 7, 3) := by decide +kernel
theorem dX7_linesSaved_31 : decode cX7_linesSaved 31 = .ok (.invokestatic 57, 3) := by decide +kernel
theorem dX7_linesSaved_34 : decode cX7_linesSaved 34 = .ok (.aload_n 0, 1) := by decide +kernel
theorem dX7_linesSaved_35 : decode cX7_linesSaved 35 = .ok (.iload_n 1, 1) := by decide +kernel
theorem dX7_linesSaved_36 : decode cX7_linesSaved 36 = .ok (.invokevirtual 182, 3) := by decide +kernel
theorem dX7_linesSaved_39 : decode cX7_linesSaved 39 = .ok (.aload_n 0, 1) := by decide +kernel
theorem dX7_linesSaved_40 : decode cX7_linesSaved 40 = .ok (.invokevirtual 194, 3) := by decide +kernel
theorem dX7_linesSaved_43 : decode cX7_linesSaved 43 = .ok (.aload_n 0, 1) := by decide +kernel
theorem dX7_linesSaved_44 : decode cX7_linesSaved 44 = .ok (.getfield 7, 3) := by decide +kernel
theorem dX7_linesSaved_47 : decode cX7_linesSaved 47 = .ok (.aload_n 0, 1) := by decide +kernel
theorem dX7_linesSaved_48 : decode cX7_linesSaved 48 = .ok (.getfield 19, 3) := by decide +kernel
theorem dX7_linesSaved_51 : decode cX7_linesSaved 51 = .ok (.invokestatic 57, 3) := by decide +kernel
theorem dX7_linesSaved_54 : decode cX7_linesSaved 54 = .ok (.aload_n 0, 1) := by decide +kernel
theorem dX7_linesSaved_55 : decode cX7_linesSaved 55 = .ok (.iload_n 2, 1) := by decide +kernel
theorem dX7_linesSaved_56 : decode cX7_linesSaved 56 = .ok (.aload_n 0, 1) := by decide +kernel
theorem dX7_linesSaved_57 : decode cX7_linesSaved 57 = .ok (.getfield 83, 3) := by decide +kernel
theorem dX7_linesSaved_60 : decode cX7_linesSaved 60 = .ok (.isub, 1) := by decide +kernel
theorem dX7_linesSaved_61 : decode cX7_linesSaved 61 = .ok (.invokevirtual 64, 3) := by decide +kernel
theorem dX7_linesSaved_64 : decode cX7_linesSaved 64 = .ok (.ireturn, 1) := by decide +kernel
theorem dX7_append_0 : decode cX7_append 0 = .ok (.iload_n 1, 1) := by decide +kernel
theorem dX7_append_1 : decode cX7_append 1 = .ok (.iconst 0, 1) := by decide +kernel
theorem dX7_append_2 : decode cX7_append 2 = .ok (.bipush 127, 2) := by decide +kernel
theorem dX7_append_4 : decode cX7_append 4 = .ok (.invokestatic 68, 3) := by decide +kernel
theorem dX7_append_7 : decode cX7_append 7 = .ok (.ifCond .ne 9, 3) := by decide +kernel
theorem dX7_append_10 : decode cX7_append 10 = .ok (.aload_n 0, 1) := by decide +kernel
theorem dX7_append_11 : decode cX7_append 11 = .ok (.iconst 1, 1) := by decide +kernel
theorem dX7_append_12 : decode cX7_append 12 = .ok (.invokevirtual 170, 3) := by decide +kernel
theorem dX7_append_15 : decode cX7_append 15 = .ok (.ireturn, 1) := by decide +kernel
theorem dX7_append_16 : decode cX7_append 16 = .ok (.aload_n 0, 1) := by decide +kernel
theorem dX7_append_17 : decode cX7_append 17 = .ok (.getfield 225, 3) := by decide +kernel
theorem dX7_append_20 : decode cX7_append 20 = .ok (.sipush 160, 3) := by decide +kernel
theorem dX7_append_23 : decode cX7_append 23 = .ok (.if_icmp .ne 9, 3) := by decide +kernel
theorem dX7_append_26 : decode cX7_append 26 = .ok (.aload_n 0, 1) := by decide +kernel
theorem dX7_append_27 : decode cX7_append 27 = .ok (.iconst 2, 1) := by decide +kernel
theorem dX7_append_28 : decode cX7_append 28 = .ok (.invokevirtual 170, 3) := by decide +kernel
theorem dX7_append_31 : decode cX7_append 31 = .ok (.ireturn, 1) := by decide +kernel
theorem dX7_append_32 : decode cX7_append 32 = .ok (.aload_n 0, 1) := by decide +kernel
theorem dX7_append_33 : decode cX7_append 33 = .ok (.getfield 22, 3) := by decide +kernel
theorem dX7_append_36 : decode cX7_append 36 = .ok (.aload_n 0, 1) := by decide +kernel
theorem dX7_append_37 : decode cX7_append 37 = .ok (.getfield 225, 3) := by decide +kernel
theorem dX7_append_40 : decode cX7_append 40 = .ok (.iload_n 1, 1) := by decide +kernel
theorem dX7_append_41 : decode cX7_append 41 = .ok (.iastore, 1) := by decide +kernel
theorem dX7_append_42 : decode cX7_append 42 = .ok (.aload_n 0, 1) := by decide +kernel
theorem dX7_append_43 : decode cX7_append 43 = .ok (.dup, 1) := by decide +kernel
theorem dX7_append_44 : decode cX7_append 44 = .ok (.getfield 225, 3) := by decide +kernel
theorem dX7_append_47 : decode cX7_append 47 = .ok (.iconst 1, 1) := by decide +kernel
theorem dX7_append_48 : decode cX7_append 48 = .ok (.iadd, 1) := by decide +kernel
theorem dX7_append_49 : decode cX7_append 49 = .ok (.putfield 225, 3) := by decide +kernel
theorem dX7_append_52 : decode cX7_append 52 = .ok (.aload_n 0, 1) := by decide +kernel
theorem dX7_append_53 : decode cX7_append 53 = .ok (.aload_n 0, 1) := by decide +kernel
theorem dX7_append_54 : decode cX7_append 54 = .ok (.getfield 225, 3) := by decide +kernel
theorem dX7_append_57 : decode cX7_append 57 = .ok (.invokevirtual 64, 3) := by decide +kernel
theorem dX7_append_60 : decode cX7_append 60 = .ok (.ireturn, 1) := by decide +kernel
theorem dX7_clearText_0 : decode cX7_clearText 0 = .ok (.aload_n 0, 1) := by decide +kernel
theorem dX7_clearText_1 : decode cX7_clearText 1 = .ok (.getfield 225, 3) := by decide +kernel
theorem dX7_clearText_4 : decode cX7_clearText 4 = .ok (.istore_n 1, 1) := by decide +kernel
theorem dX7_clearText_5 : decode cX7_clearText 5 = .ok (.aload_n 0, 1) := by decide +kernel
theorem dX7_clearText_6 : decode cX7_clearText 6 = .ok (.iconst 0, 1) := by decide +kernel
theorem dX7_clearText_7 : decode cX7_clearText 7 = .ok (.putfield 225, 3) := by decide +kernel
theorem dX7_clearText_10 : decode cX7_clearText 10 = .ok (.aload_n 0, 1) := by decide +kernel
theorem dX7_clearText_11 : decode cX7_clearText 11 = .ok (.iload_n 1, 1) := by decide +kernel
theorem dX7_clearText_12 : decode cX7_clearText 12 = .ok (.invokevirtual 64, 3) := by decide +kernel
theorem dX7_clearText_15 : decode cX7_clearText 15 = .ok (.ireturn, 1) := by decide +kernel
theorem dX7_isDigit_0 : decode cX7_isDigit 0 = .ok (.aload_n 0, 1) := by decide +kernel
theorem dX7_isDigit_1 : decode cX7_isDigit 1 = .ok (.getfield 228, 3) := by decide +kernel
theorem dX7_isDigit_4 : decode cX7_isDigit 4 = .ok (.aload_n 0, 1) := by decide +kernel
theorem dX7_isDigit_5 : decode cX7_isDigit 5 = .ok (.getfield 225, 3) := by decide +kernel
theorem dX7_isDigit_8 : decode cX7_isDigit 8 = .ok (.if_icmp .ge 26, 3) := by decide +kernel
theorem dX7_isDigit_11 : decode cX7_isDigit 11 = .ok (.aload_n 0, 1) := by decide +kernel
theorem dX7_isDigit_12 : decode cX7_isDigit 12 = .ok (.getfield 22, 3) := by decide +kernel
theorem dX7_isDigit_15 : decode cX7_isDigit 15 = .ok (.aload_n 0, 1) := by decide +kernel
theorem dX7_isDigit_16 : decode cX7_isDigit 16 = .ok (.getfield 228, 3) := by decide +kernel
theorem dX7_isDigit_19 : decode cX7_isDigit 19 = .ok (.iaload, 1) := by decide +kernel
theorem dX7_isDigit_20 : decode cX7_isDigit 20 = .ok (.bipush 48, 2) := by decide +kernel
theorem dX7_isDigit_22 : decode cX7_isDigit 22 = .ok (.bipush 57, 2) := by decide +kernel
theorem dX7_isDigit_24 : decode cX7_isDigit 24 = .ok (.invokestatic 68, 3) := by decide +kernel
theorem dX7_isDigit_27 : decode cX7_isDigit 27 = .ok (.ifCond .eq 7, 3) := by decide +kernel
theorem dX7_isDigit_30 : decode cX7_isDigit 30 = .ok (.iconst 1, 1) := by decide +kernel
theorem dX7_isDigit_31 : decode cX7_isDigit 31 = .ok (.goto 4, 3) := by decide +kernel
theorem dX7_isDigit_34 : decode cX7_isDigit 34 = .ok (.iconst 0, 1) := by decide +kernel
theorem dX7_isDigit_35 : decode cX7_isDigit 35 = .ok (.ireturn, 1) := by decide +kernel
theorem dX7_isByte_0 : decode cX7_isByte 0 = .ok (.aload_n 0, 1) := by decide +kernel
theorem dX7_isByte_1 : decode cX7_isByte 1 = .ok (.getfield 228, 3) := by decide +kernel
theorem dX7_isByte_4 : decode cX7_isByte 4 = .ok (.aload_n 0, 1) := by decide +kernel
theorem dX7_isByte_5 : decode cX7_isByte 5 = .ok (.getfield 225, 3) := by decide +kernel
theorem dX7_isByte_8 : decode cX7_isByte 8 = .ok (.if_icmp .ge 28, 3) := by decide +kernel
theorem dX7_isByte_11 : decode cX7_isByte 11 = .ok (.aload_n 0, 1) := by decide +kernel
theorem dX7_isByte_12 : decode cX7_isByte 12 = .ok (.getfield 22, 3) := by decide +kernel
theorem dX7_isByte_15 : decode cX7_isByte 15 = .ok (.aload_n 0, 1) := by decide +kernel
theorem dX7_isByte_16 : decode cX7_isByte 16 = .ok (.getfield 228, 3) := by decide +kernel
theorem dX7_isByte_19 : decode cX7_isByte 19 = .ok (.iaload, 1) := by decide +kernel
theorem dX7_isByte_20 : decode cX7_isByte 20 = .ok (.iload_n 1, 1) := by decide +kernel
theorem dX7_isByte_21 : decode cX7_isByte 21 = .ok (.if_icmp .ne 15, 3) := by decide +kernel
theorem dX7_isByte_24 : decode cX7_isByte 24 = .ok (.aload_n 0, 1) := by decide +kernel
theorem dX7_isByte_25 : decode cX7_isByte 25 = .ok (.dup, 1) := by decide +kernel
theorem dX7_isByte_26 : decode cX7_isByte 26 = .ok (.getfield 228, 3) := by decide +kernel
theorem dX7_isByte_29 : decode cX7_isByte 29 = .ok (.iconst 1, 1) := by decide +kernel
theorem dX7_isByte_30 : decode cX7_isByte 30 = .ok (.iadd, 1) := by decide +kernel
theorem dX7_isByte_31 : decode cX7_isByte 31 = .ok (.putfield 228, 3) := by decide +kernel
theorem dX7_isByte_34 : decode cX7_isByte 34 = .ok (.iconst 1, 1) := by decide +kernel
theorem dX7_isByte_35 : decode cX7_isByte 35 = .ok (.ireturn, 1) := by decide +kernel
theorem dX7_isByte_36 : decode cX7_isByte 36 = .ok (.iconst 0, 1) := by decide +kernel
theorem dX7_isByte_37 : decode cX7_isByte 37 = .ok (.ireturn, 1) := by decide +kernel
theorem dX7_isNumber_0 : decode cX7_isNumber 0 = .ok (.aload_n 0, 1) := by decide +kernel
theorem dX7_isNumber_1 : decode cX7_isNumber 1 = .ok (.getfield 228, 3) := by decide +kernel
theorem dX7_isNumber_4 : decode cX7_isNumber 4 = .ok (.istore 4, 2) := by decide +kernel
theorem dX7_isNumber_6 : decode cX7_isNumber 6 = .ok (.aload_n 0, 1) := by decide +kernel
theorem dX7_isNumber_7 : decode cX7_isNumber 7 = .ok (.getfield 7, 3) := by decide +kernel
theorem dX7_isNumber_10 : decode cX7_isNumber 10 = .ok (.iload_n 1, 1) := by decide +kernel
theorem dX7_isNumber_11 : decode cX7_isNumber 11 = .ok (.iconst 0, 1) := by decide +kernel
theorem dX7_isNumber_12 : decode cX7_isNumber 12 = .ok (.iastore, 1) := by decide +kernel
theorem dX7_isNumber_13 : decode cX7_isNumber 13 = .ok (.aload_n 0, 1) := by decide +kernel
theorem dX7_isNumber_14 : decode cX7_isNumber 14 = .ok (.invokevirtual 231, 3) := by decide +kernel
theorem dX7_isNumber_17 : decode cX7_isNumber 17 = .ok (.ifCond .eq 55, 3) := by decide +kernel
theorem dX7_isNumber_20 : decode cX7_isNumber 20 = .ok (.aload_n 0, 1) := by decide +kernel
theorem dX7_isNumber_21 : decode cX7_isNumber 21 = .ok (.getfield 228, 3) := by decide +kernel
theorem dX7_isNumber_24 : decode cX7_isNumber 24 = .ok (.iload 4, 2) := by decide +kernel
theorem dX7_isNumber_26 : decode cX7_isNumber 26 = .ok (.isub, 1) := by decide +kernel
theorem dX7_isNumber_27 : decode cX7_isNumber 27 = .ok (.iload_n 2, 1) := by decide +kernel
theorem dX7_isNumber_28 : decode cX7_isNumber 28 = .ok (.if_icmp .ge 44, 3) := by decide +kernel
theorem dX7_isNumber_31 : decode cX7_isNumber 31 = .ok (.aload_n 0, 1) := by decide +kernel
theorem dX7_isNumber_32 : decode cX7_isNumber 32 = .ok (.getfield 7, 3) := by decide +kernel
theorem dX7_isNumber_35 : decode cX7_isNumber 35 = .ok (.iload_n 1, 1) := by decide +kernel
theorem dX7_isNumber_36 : decode cX7_isNumber 36 = .ok (.bipush 10, 2) := by decide +kernel
theorem dX7_isNumber_38 : decode cX7_isNumber 38 = .ok (.aload_n 0, 1) := by decide +kernel
theorem dX7_isNumber_39 : decode cX7_isNumber 39 = .ok (.getfield 7, 3) := by decide +kernel
theorem dX7_isNumber_42 : decode cX7_isNumber 42 = .ok (.iload_n 1, 1) := by decide +kernel
theorem dX7_isNumber_43 : decode cX7_isNumber 43 = .ok (.iaload, 1) := by decide +kernel
theorem dX7_isNumber_44 : decode cX7_isNumber 44 = .ok (.imul, 1) := by decide +kernel
theorem dX7_isNumber_45 : decode cX7_isNumber 45 = .ok (.aload_n 0, 1) := by decide +kernel
theorem dX7_isNumber_46 : decode cX7_isNumber 46 = .ok (.getfield 22, 3) := by decide +kernel
theorem dX7_isNumber_49 : decode cX7_isNumber 49 = .ok (.aload_n 0, 1) := by decide +kernel
theorem dX7_isNumber_50 : decode cX7_isNumber 50 = .ok (.getfield 228, 3) := by decide +kernel
theorem dX7_isNumber_53 : decode cX7_isNumber 53 = .ok (.iaload, 1) := by decide +kernel
theorem dX7_isNumber_54 : decode cX7_isNumber 54 = .ok (.iadd, 1) := by decide +kernel
theorem dX7_isNumber_55 : decode cX7_isNumber 55 = .ok (.bipush 48, 2) := by decide +kernel
theorem dX7_isNumber_57 : decode cX7_isNumber 57 = .ok (.isub, 1) := by decide +kernel
theorem dX7_isNumber_58 : decode cX7_isNumber 58 = .ok (.iastore, 1) := by decide +kernel
theorem dX7_isNumber_59 : decode cX7_isNumber 59 = .ok (.aload_n 0, 1) := by decide +kernel
theorem dX7_isNumber_60 : decode cX7_isNumber 60 = .ok (.dup, 1) := by decide +kernel
theorem dX7_isNumber_61 : decode cX7_isNumber 61 = .ok (.getfield 228, 3) := by decide +kernel
theorem dX7_isNumber_64 : decode cX7_isNumber 64 = .ok (.iconst 1, 1) := by decide +kernel
theorem dX7_isNumber_65 : decode cX7_isNumber 65 = .ok (.iadd, 1) := by decide +kernel
theorem dX7_isNumber_66 : decode cX7_isNumber 66 = .ok (.putfield 228, 3) := by decide +kernel
theorem dX7_isNumber_69 : decode cX7_isNumber 69 = .ok (.goto (-56), 3) := by decide +kernel
theorem dX7_isNumber_72 : decode cX7_isNumber 72 = .ok (.aload_n 0, 1) := by decide +kernel
theorem dX7_isNumber_73 : decode cX7_isNumber 73 = .ok (.getfield 228, 3) := by decide +kernel
theorem dX7_isNumber_76 : decode cX7_isNumber 76 = .ok (.iload 4, 2) := by decide +kernel
theorem dX7_isNumber_78 : decode cX7_isNumber 78 = .ok (.if_icmp .eq 10, 3) := by decide +kernel
theorem dX7_isNumber_81 : decode cX7_isNumber 81 = .ok (.aload_n 0, 1) := by decide +kernel
theorem dX7_isNumber_82 : decode cX7_isNumber 82 = .ok (.invokevirtual 231, 3) := by decide +kernel
theorem dX7_isNumber_85 : decode cX7_isNumber 85 = .ok (.ifCond .eq 5, 3) := by decide +kernel
theorem dX7_isNumber_88 : decode cX7_isNumber 88 = .ok (.iconst 0, 1) := by decide +kernel
theorem dX7_isNumber_89 : decode cX7_isNumber 89 = .ok (.ireturn, 1) := by decide +kernel
theorem dX7_isNumber_90 : decode cX7_isNumber 90 = .ok (.aload_n 0, 1) := by decide +kernel
theorem dX7_isNumber_91 : decode cX7_isNumber 91 = .ok (.getfield 7, 3) := by decide +kernel
theorem dX7_isNumber_94 : decode cX7_isNumber 94 = .ok (.iload_n 1, 1) := by decide +kernel
theorem dX7_isNumber_95 : decode cX7_isNumber 95 = .ok (.iaload, 1) := by decide +kernel
theorem dX7_isNumber_96 : decode cX7_isNumber 96 = .ok (.iload_n 3, 1) := by decide +kernel
theorem dX7_isNumber_97 : decode cX7_isNumber 97 = .ok (.if_icmp .le 11, 3) := by decide +kernel
theorem dX7_isNumber_100 : decode cX7_isNumber 100 = .ok (.aload_n 0, 1) := by decide +kernel
theorem dX7_isNumber_101 : decode cX7_isNumber 101 = .ok (.iload 4, 2) := by decide +kernel
theorem dX7_isNumber_103 : decode cX7_isNumber 103 = .ok (.putfield 228, 3) := by decide +kernel
theorem dX7_isNumber_106 : decode cX7_isNumber 106 = .ok (.iconst 0, 1) := by decide +kernel
theorem dX7_isNumber_107 : decode cX7_isNumber 107 = .ok (.ireturn, 1) := by decide +kernel
theorem dX7_isNumber_108 : decode cX7_isNumber 108 = .ok (.aload_n 0, 1) := by decide +kernel
theorem dX7_isNumber_109 : decode cX7_isNumber 109 = .ok (.bipush 44, 2) := by decide +kernel
theorem dX7_isNumber_111 : decode cX7_isNumber 111 = .ok (.invokevirtual 234, 3) := by decide +kernel
theorem dX7_isNumber_114 : decode cX7_isNumber 114 = .ok (.ireturn, 1) := by decide +kernel
theorem dX7_isSignText_0 : decode cX7_isSignText 0 = .ok (.aload_n 0, 1) := by decide +kernel
theorem dX7_isSignText_1 : decode cX7_isSignText 1 = .ok (.getfield 7, 3) := by decide +kernel
theorem dX7_isSignText_4 : decode cX7_isSignText 4 = .ok (.bipush 9, 2) := by decide +kernel
theorem dX7_isSignText_6 : decode cX7_isSignText 6 = .ok (.iaload, 1) := by decide +kernel
theorem dX7_isSignText_7 : decode cX7_isSignText 7 = .ok (.bipush 40, 2) := by decide +kernel
theorem dX7_isSignText_9 : decode cX7_isSignText 9 = .ok (.if_icmp .ne 5, 3) := by decide +kernel
theorem dX7_isSignText_12 : decode cX7_isSignText 12 = .ok (.iconst 0, 1) := by decide +kernel
theorem dX7_isSignText_13 : decode cX7_isSignText 13 = .ok (.ireturn, 1) := by decide +kernel
theorem dX7_isSignText_14 : decode cX7_isSignText 14 = .ok (.bipush 111, 2) := by decide +kernel
theorem dX7_isSignText_16 : decode cX7_isSignText 16 = .ok (.iconst 5, 1) := by decide +kernel
theorem dX7_isSignText_17 : decode cX7_isSignText 17 = .ok (.aload_n 0, 1) := by decide +kernel
theorem dX7_isSignText_18 : decode cX7_isSignText 18 = .ok (.getfield 7, 3) := by decide +kernel
theorem dX7_isSignText_21 : decode cX7_isSignText 21 = .ok (.bipush 9, 2) := by decide +kernel
theorem dX7_isSignText_23 : decode cX7_isSignText 23 = .ok (.iaload, 1) := by decide +kernel
theorem dX7_isSignText_24 : decode cX7_isSignText 24 = .ok (.imul, 1) := by decide +kernel
theorem dX7_isSignText_25 : decode cX7_isSignText 25 = .ok (.iadd, 1) := by decide +kernel
theorem dX7_isSignText_26 : decode cX7_isSignText 26 = .ok (.istore_n 1, 1) := by decide +kernel
theorem dX7_isSignText_27 : decode cX7_isSignText 27 = .ok (.aload_n 0, 1) := by decide +kernel
theorem dX7_isSignText_28 : decode cX7_isSignText 28 = .ok (.iload_n 1, 1) := by decide +kernel
theorem dX7_isSignText_29 : decode cX7_isSignText 29 = .ok (.iconst 2, 1) := by decide +kernel
theorem dX7_isSignText_30 : decode cX7_isSignText 30 = .ok (.bipush 11, 2) := by decide +kernel
theorem dX7_isSignText_32 : decode cX7_isSignText 32 = .ok (.invokevirtual 237, 3) := by decide +kernel
theorem dX7_isSignText_35 : decode cX7_isSignText 35 = .ok (.ifCond .eq 45, 3) := by decide +kernel
theorem dX7_isSignText_38 : decode cX7_isSignText 38 = .ok (.aload_n 0, 1) := by decide +kernel
theorem dX7_isSignText_39 : decode cX7_isSignText 39 = .ok (.iload_n 1, 1) := by decide +kernel
theorem dX7_isSignText_40 : decode cX7_isSignText 40 = .ok (.iconst 1, 1) := by decide +kernel
theorem dX7_isSignText_41 : decode cX7_isSignText 41 = .ok (.iadd, 1) := by decide +kernel
theorem dX7_isSignText_42 : decode cX7_isSignText 42 = .ok (.iconst 3, 1) := by decide +kernel
theorem dX7_isSignText_43 : decode cX7_isSignText 43 = .ok (.sipush 199, 3) := by decide +kernel
theorem dX7_isSignText_46 : decode cX7_isSignText 46 = .ok (.invokevirtual 237, 3) := by decide +kernel
theorem dX7_isSignText_49 : decode cX7_isSignText 49 = .ok (.ifCond .eq 31, 3) := by decide +kernel
theorem dX7_isSignText_52 : decode cX7_isSignText 52 = .ok (.aload_n 0, 1) := by decide +kernel
theorem dX7_isSignText_53 : decode cX7_isSignText 53 = .ok (.iload_n 1, 1) := by decide +kernel
theorem dX7_isSignText_54 : decode cX7_isSignText 54 = .ok (.iconst 2, 1) := by decide +kernel
theorem dX7_isSignText_55 : decode cX7_isSignText 55 = .ok (.iadd, 1) := by decide +kernel
theorem dX7_isSignText_56 : decode cX7_isSignText 56 = .ok (.iconst 3, 1) := by decide +kernel
theorem dX7_isSignText_57 : decode cX7_isSignText 57 = .ok (.sipush 199, 3) := by decide +kernel
theorem dX7_isSignText_60 : decode cX7_isSignText 60 = .ok (.invokevirtual 237, 3) := by decide +kernel
theorem dX7_isSignText_63 : decode cX7_isSignText 63 = .ok (.ifCond .eq 17, 3) := by decide +kernel
theorem dX7_isSignText_66 : decode cX7_isSignText 66 = .ok (.aload_n 0, 1) := by decide +kernel
theorem dX7_isSignText_67 : decode cX7_isSignText 67 = .ok (.iload_n 1, 1) := by decide +kernel
theorem dX7_isSignText_68 : decode cX7_isSignText 68 = .ok (.iconst 3, 1) := by decide +kernel
theorem dX7_isSignText_69 : decode cX7_isSignText 69 = .ok (.iadd, 1) := by decide +kernel
theorem dX7_isSignText_70 : decode cX7_isSignText 70 = .ok (.iconst 4, 1) := by decide +kernel
theorem dX7_isSignText_71 : decode cX7_isSignText 71 = .ok (.sipush 9999, 3) := by decide +kernel
theorem dX7_isSignText_74 : decode cX7_isSignText 74 = .ok (.invokevirtual 237, 3) := by decide +kernel
theorem dX7_isSignText_77 : decode cX7_isSignText 77 = .ok (.ifCond .ne 5, 3) := by decide +kernel
theorem dX7_isSignText_80 : decode cX7_isSignText 80 = .ok (.iconst 0, 1) := by decide +kernel
theorem dX7_isSignText_81 : decode cX7_isSignText 81 = .ok (.ireturn, 1) := by decide +kernel
theorem dX7_isSignText_82 : decode cX7_isSignText 82 = .ok (.aload_n 0, 1) := by decide +kernel
theorem dX7_isSignText_83 : decode cX7_isSignText 83 = .ok (.getfield 228, 3) := by decide +kernel
theorem dX7_isSignText_86 : decode cX7_isSignText 86 = .ok (.aload_n 0, 1) := by decide +kernel
theorem dX7_isSignText_87 : decode cX7_isSignText 87 = .ok (.getfield 225, 3) := by decide +kernel
theorem dX7_isSignText_90 : decode cX7_isSignText 90 = .ok (.if_icmp .eq 22, 3) := by decide +kernel
theorem dX7_isSignText_93 : decode cX7_isSignText 93 = .ok (.aload_n 0, 1) := by decide +kernel
theorem dX7_isSignText_94 : decode cX7_isSignText 94 = .ok (.getfield 22, 3) := by decide +kernel
theorem dX7_isSignText_97 : decode cX7_isSignText 97 = .ok (.aload_n 0, 1) := by decide +kernel
theorem dX7_isSignText_98 : decode cX7_isSignText 98 = .ok (.getfield 228, 3) := by decide +kernel
theorem dX7_isSignText_101 : decode cX7_isSignText 101 = .ok (.iaload, 1) := by decide +kernel
theorem dX7_isSignText_102 : decode cX7_isSignText 102 = .ok (.bipush 48, 2) := by decide +kernel
theorem dX7_isSignText_104 : decode cX7_isSignText 104 = .ok (.bipush 53, 2) := by decide +kernel
theorem dX7_isSignText_106 : decode cX7_isSignText 106 = .ok (.invokestatic 68, 3) := by decide +kernel
theorem dX7_isSignText_109 : decode cX7_isSignText 109 = .ok (.ifCond .ne 5, 3) := by decide +kernel
theorem dX7_isSignText_112 : decode cX7_isSignText 112 = .ok (.iconst 0, 1) := by decide +kernel
theorem dX7_isSignText_113 : decode cX7_isSignText 113 = .ok (.ireturn, 1) := by decide +kernel
theorem dX7_isSignText_114 : decode cX7_isSignText 114 = .ok (.aload_n 0, 1) := by decide +kernel
theorem dX7_isSignText_115 : decode cX7_isSignText 115 = .ok (.getfield 7, 3) := by decide +kernel
theorem dX7_isSignText_118 : decode cX7_isSignText 118 = .ok (.iload_n 1, 1) := by decide +kernel
theorem dX7_isSignText_119 : decode cX7_isSignText 119 = .ok (.iconst 4, 1) := by decide +kernel
theorem dX7_isSignText_120 : decode cX7_isSignText 120 = .ok (.iadd, 1) := by decide +kernel
theorem dX7_isSignText_121 : decode cX7_isSignText 121 = .ok (.aload_n 0, 1) := by decide +kernel
theorem dX7_isSignText_122 : decode cX7_isSignText 122 = .ok (.getfield 22, 3) := by decide +kernel
theorem dX7_isSignText_125 : decode cX7_isSignText 125 = .ok (.aload_n 0, 1) := by decide +kernel
theorem dX7_isSignText_126 : decode cX7_isSignText 126 = .ok (.getfield 228, 3) := by decide +kernel
theorem dX7_isSignText_129 : decode cX7_isSignText 129 = .ok (.iaload, 1) := by decide +kernel
theorem dX7_isSignText_130 : decode cX7_isSignText 130 = .ok (.bipush 48, 2) := by decide +kernel
theorem dX7_isSignText_132 : decode cX7_isSignText 132 = .ok (.isub, 1) := by decide +kernel
theorem dX7_isSignText_133 : decode cX7_isSignText 133 = .ok (.iastore, 1) := by decide +kernel
theorem dX7_isSignText_134 : decode cX7_isSignText 134 = .ok (.aload_n 0, 1) := by decide +kernel
theorem dX7_isSignText_135 : decode cX7_isSignText 135 = .ok (.dup, 1) := by decide +kernel
theorem dX7_isSignText_136 : decode cX7_isSignText 136 = .ok (.getfield 228, 3) := by decide +kernel
theorem dX7_isSignText_139 : decode cX7_isSignText 139 = .ok (.iconst 1, 1) := by decide +kernel
theorem dX7_isSignText_140 : decode cX7_isSignText 140 = .ok (.iadd, 1) := by decide +kernel
theorem dX7_isSignText_141 : decode cX7_isSignText 141 = .ok (.putfield 228, 3) := by decide +kernel
theorem dX7_isSignText_144 : decode cX7_isSignText 144 = .ok (.aload_n 0, 1) := by decide +kernel
theorem dX7_isSignText_145 : decode cX7_isSignText 145 = .ok (.getfield 7, 3) := by decide +kernel
theorem dX7_isSignText_148 : decode cX7_isSignText 148 = .ok (.bipush 9, 2) := by decide +kernel
theorem dX7_isSignText_150 : decode cX7_isSignText 150 = .ok (.dup2, 1) := by decide +kernel
theorem dX7_isSignText_151 : decode cX7_isSignText 151 = .ok (.iaload, 1) := by decide +kernel
theorem dX7_isSignText_152 : decode cX7_isSignText 152 = .ok (.iconst 1, 1) := by decide +kernel
theorem dX7_isSignText_153 : decode cX7_isSignText 153 = .ok (.iadd, 1) := by decide +kernel
theorem dX7_isSignText_154 : decode cX7_isSignText 154 = .ok (.iastore, 1) := by decide +kernel
theorem dX7_isSignText_155 : decode cX7_isSignText 155 = .ok (.aload_n 0, 1) := by decide +kernel
theorem dX7_isSignText_156 : decode cX7_isSignText 156 = .ok (.bipush 59, 2) := by decide +kernel
theorem dX7_isSignText_158 : decode cX7_isSignText 158 = .ok (.invokevirtual 234, 3) := by decide +kernel
theorem dX7_isSignText_161 : decode cX7_isSignText 161 = .ok (.ireturn, 1) := by decide +kernel
theorem dX7_parse_0 : decode cX7_parse 0 = .ok (.aload_n 0, 1) := by decide +kernel
theorem dX7_parse_1 : decode cX7_parse 1 = .ok (.invokevirtual 173, 3) := by decide +kernel
theorem dX7_parse_4 : decode cX7_parse 4 = .ok (.aload_n 0, 1) := by decide +kernel
theorem dX7_parse_5 : decode cX7_parse 5 = .ok (.iconst 0, 1) := by decide +kernel
theorem dX7_parse_6 : decode cX7_parse 6 = .ok (.putfield 228, 3) := by decide +kernel
theorem dX7_parse_9 : decode cX7_parse 9 = .ok (.aload_n 0, 1) := by decide +kernel
theorem dX7_parse_10 : decode cX7_parse 10 = .ok (.getfield 7, 3) := by decide +kernel
theorem dX7_parse_13 : decode cX7_parse 13 = .ok (.bipush 9, 2) := by decide +kernel
theorem dX7_parse_15 : decode cX7_parse 15 = .ok (.iconst 0, 1) := by decide +kernel
theorem dX7_parse_16 : decode cX7_parse 16 = .ok (.iastore, 1) := by decide +kernel
theorem dX7_parse_17 : decode cX7_parse 17 = .ok (.aload_n 0, 1) := by decide +kernel
theorem dX7_parse_18 : decode cX7_parse 18 = .ok (.getfield 228, 3) := by decide +kernel
theorem dX7_parse_21 : decode cX7_parse 21 = .ok (.aload_n 0, 1) := by decide +kernel
theorem dX7_parse_22 : decode cX7_parse 22 = .ok (.getfield 225, 3) := by decide +kernel
theorem dX7_parse_25 : decode cX7_parse 25 = .ok (.if_icmp .ge 33, 3) := by decide +kernel
theorem dX7_parse_28 : decode cX7_parse 28 = .ok (.aload_n 0, 1) := by decide +kernel
theorem dX7_parse_29 : decode cX7_parse 29 = .ok (.invokevirtual 240, 3) := by decide +kernel
theorem dX7_parse_32 : decode cX7_parse 32 = .ok (.ifCond .ne (-15), 3) := by decide +kernel
theorem dX7_parse_35 : decode cX7_parse 35 = .ok (.aload_n 0, 1) := by decide +kernel
theorem dX7_parse_36 : decode cX7_parse 36 = .ok (.getfield 7, 3) := by decide +kernel
theorem dX7_parse_39 : decode cX7_parse 39 = .ok (.aload_n 0, 1) := by decide +kernel
theorem dX7_parse_40 : decode cX7_parse 40 = .ok (.getfield 16, 3) := by decide +kernel
theorem dX7_parse_43 : decode cX7_parse 43 = .ok (.invokestatic 57, 3) := by decide +kernel
theorem dX7_parse_46 : decode cX7_parse 46 = .ok (.aload_n 0, 1) := by decide +kernel
theorem dX7_parse_47 : decode cX7_parse 47 = .ok (.bipush (-10), 2) := by decide +kernel
theorem dX7_parse_49 : decode cX7_parse 49 = .ok (.aload_n 0, 1) := by decide +kernel
theorem dX7_parse_50 : decode cX7_parse 50 = .ok (.getfield 228, 3) := by decide +kernel
theorem dX7_parse_53 : decode cX7_parse 53 = .ok (.isub, 1) := by decide +kernel
theorem dX7_parse_54 : decode cX7_parse 54 = .ok (.invokevirtual 64, 3) := by decide +kernel
theorem dX7_parse_57 : decode cX7_parse 57 = .ok (.ireturn, 1) := by decide +kernel
theorem dX7_parse_58 : decode cX7_parse 58 = .ok (.aload_n 0, 1) := by decide +kernel
theorem dX7_parse_59 : decode cX7_parse 59 = .ok (.aload_n 0, 1) := by decide +kernel
theorem dX7_parse_60 : decode cX7_parse 60 = .ok (.getfield 7, 3) := by decide +kernel
theorem dX7_parse_63 : decode cX7_parse 63 = .ok (.bipush 9, 2) := by decide +kernel
theorem dX7_parse_65 : decode cX7_parse 65 = .ok (.iaload, 1) := by decide +kernel
theorem dX7_parse_66 : decode cX7_parse 66 = .ok (.invokevirtual 176, 3) := by decide +kernel
theorem dX7_parse_69 : decode cX7_parse 69 = .ok (.ireturn, 1) := by decide +kernel
theorem dX7_undo_0 : decode cX7_undo 0 = .ok (.aload_n 0, 1) := by decide +kernel
theorem dX7_undo_1 : decode cX7_undo 1 = .ok (.getfield 61, 3) := by decide +kernel
theorem dX7_undo_4 : decode cX7_undo 4 = .ok (.ifCond .ne 9, 3) := by decide +kernel
theorem dX7_undo_7 : decode cX7_undo 7 = .ok (.aload_n 0, 1) := by decide +kernel
theorem dX7_undo_8 : decode cX7_undo 8 = .ok (.iconst 1, 1) := by decide +kernel
theorem dX7_undo_9 : decode cX7_undo 9 = .ok (.invokevirtual 170, 3) := by decide +kernel
theorem dX7_undo_12 : decode cX7_undo 12 = .ok (.ireturn, 1) := by decide +kernel
theorem dX7_undo_13 : decode cX7_undo 13 = .ok (.aload_n 0, 1) := by decide +kernel
theorem dX7_undo_14 : decode cX7_undo 14 = .ok (.dup, 1) := by decide +kernel
theorem dX7_undo_15 : decode cX7_undo 15 = .ok (.getfield 61, 3) := by decide +kernel
theorem dX7_undo_18 : decode cX7_undo 18 = .ok (.iconst 1, 1) := by decide +kernel
theorem dX7_undo_19 : decode cX7_undo 19 = .ok (.isub, 1) := by decide +kernel
theorem dX7_undo_20 : decode cX7_undo 20 = .ok (.putfield 61, 3) := by decide +kernel
theorem dX7_undo_23 : decode cX7_undo 23 = .ok (.iconst 0, 1) := by decide +kernel
theorem dX7_undo_24 : decode cX7_undo 24 = .ok (.istore_n 1, 1) := by decide +kernel
theorem dX7_undo_25 : decode cX7_undo 25 = .ok (.iload_n 1, 1) := by decide +kernel
theorem dX7_undo_26 : decode cX7_undo 26 = .ok (.sipush 311, 3) := by decide +kernel
theorem dX7_undo_29 : decode cX7_undo 29 = .ok (.if_icmp .ge 30, 3) := by decide +kernel
theorem dX7_undo_32 : decode cX7_undo 32 = .ok (.aload_n 0, 1) := by decide +kernel
theorem dX7_undo_33 : decode cX7_undo 33 = .ok (.getfield 7, 3) := by decide +kernel
theorem dX7_undo_36 : decode cX7_undo 36 = .ok (.iload_n 1, 1) := by decide +kernel
theorem dX7_undo_37 : decode cX7_undo 37 = .ok (.aload_n 0, 1) := by decide +kernel
theorem dX7_undo_38 : decode cX7_undo 38 = .ok (.getfield 13, 3) := by decide +kernel
theorem dX7_undo_41 : decode cX7_undo 41 = .ok (.sipush 311, 3) := by decide +kernel
theorem dX7_undo_44 : decode cX7_undo 44 = .ok (.aload_n 0, 1) := by decide +kernel
theorem dX7_undo_45 : decode cX7_undo 45 = .ok (.getfield 61, 3) := by decide +kernel
theorem dX7_undo_48 : decode cX7_undo 48 = .ok (.imul, 1) := by decide +kernel
theorem dX7_undo_49 : decode cX7_undo 49 = .ok (.iload_n 1, 1) := by decide +kernel
theorem dX7_undo_50 : decode cX7_undo 50 = .ok (.iadd, 1) := by decide +kernel
theorem dX7_undo_51 : decode cX7_undo 51 = .ok (.iaload, 1) := by decide +kernel
theorem dX7_undo_52 : decode cX7_undo 52 = .ok (.iastore, 1) := by decide +kernel
theorem dX7_undo_53 : decode cX7_undo 53 = .ok (.iinc 1 1, 3) := by decide +kernel
theorem dX7_undo_56 : decode cX7_undo 56 = .ok (.goto (-31), 3) := by decide +kernel
theorem dX7_undo_59 : decode cX7_undo 59 = .ok (.aload_n 0, 1) := by decide +kernel
theorem dX7_undo_60 : decode cX7_undo 60 = .ok (.aload_n 0, 1) := by decide +kernel
theorem dX7_undo_61 : decode cX7_undo 61 = .ok (.getfield 61, 3) := by decide +kernel
theorem dX7_undo_64 : decode cX7_undo 64 = .ok (.invokevirtual 64, 3) := by decide +kernel
theorem dX7_undo_67 : decode cX7_undo 67 = .ok (.ireturn, 1) := by decide +kernel
theorem dX7_mix_0 : decode cX7_mix 0 = .ok (.aload_n 0, 1) := by decide +kernel
theorem dX7_mix_1 : decode cX7_mix 1 = .ok (.ldc2_w 243, 3) := by decide +kernel
theorem dX7_mix_4 : decode cX7_mix 4 = .ok (.aload_n 0, 1) := by decide +kernel
theorem dX7_mix_5 : decode cX7_mix 5 = .ok (.getfield 245, 3) := by decide +kernel
theorem dX7_mix_8 : decode cX7_mix 8 = .ok (.lmul, 1) := by decide +kernel
theorem dX7_mix_9 : decode cX7_mix 9 = .ok (.iload_n 1, 1) := by decide +kernel
theorem dX7_mix_10 : decode cX7_mix 10 = .ok (.i2l, 1) := by decide +kernel
theorem dX7_mix_11 : decode cX7_mix 11 = .ok (.ladd, 1) := by decide +kernel
theorem dX7_mix_12 : decode cX7_mix 12 = .ok (.putfield 245, 3) := by decide +kernel
theorem dX7_mix_15 : decode cX7_mix 15 = .ok (.return_, 1) := by decide +kernel
theorem dX7_mixLegend_0 : decode cX7_mixLegend 0 = .ok (.iconst 0, 1) := by decide +kernel
theorem dX7_mixLegend_1 : decode cX7_mixLegend 1 = .ok (.istore_n 1, 1) := by decide +kernel
theorem dX7_mixLegend_2 : decode cX7_mixLegend 2 = .ok (.iload_n 1, 1) := by decide +kernel
theorem dX7_mixLegend_3 : decode cX7_mixLegend 3 = .ok (.bipush 9, 2) := by decide +kernel
theorem dX7_mixLegend_5 : decode cX7_mixLegend 5 = .ok (.aload_n 0, 1) := by decide +kernel
theorem dX7_mixLegend_6 : decode cX7_mixLegend 6 = .ok (.getfield 7, 3) := by decide +kernel
theorem dX7_mixLegend_9 : decode cX7_mixLegend 9 = .ok (.bipush 9, 2) := by decide +kernel
theorem dX7_mixLegend_11 : decode cX7_mixLegend 11 = .ok (.iaload, 1) := by decide +kernel
theorem dX7_mixLegend_12 : decode cX7_mixLegend 12 = .ok (.imul, 1) := by decide +kernel
theorem dX7_mixLegend_13 : decode cX7_mixLegend 13 = .ok (.if_icmp .ge 25, 3) := by decide +kernel
theorem dX7_mixLegend_16 : decode cX7_mixLegend 16 = .ok (.aload_n 0, 1) := by decide +kernel
theorem dX7_mixLegend_17 : decode cX7_mixLegend 17 = .ok (.aload_n 0, 1) := by decide +kernel
theorem dX7_mixLegend_18 : decode cX7_mixLegend 18 = .ok (.iload_n 1, 1) := by decide +kernel
theorem dX7_mixLegend_19 : decode cX7_mixLegend 19 = .ok (.bipush 9, 2) := by decide +kernel
theorem dX7_mixLegend_21 : decode cX7_mixLegend 21 = .ok (.idiv, 1) := by decide +kernel
theorem dX7_mixLegend_22 : decode cX7_mixLegend 22 = .ok (.iload_n 1, 1) := by decide +kernel
theorem dX7_mixLegend_23 : decode cX7_mixLegend 23 = .ok (.bipush 9, 2) := by decide +kernel
theorem dX7_mixLegend_25 : decode cX7_mixLegend 25 = .ok (.irem, 1) := by decide +kernel
theorem dX7_mixLegend_26 : decode cX7_mixLegend 26 = .ok (.invokevirtual 207, 3) := by decide +kernel
theorem dX7_mixLegend_29 : decode cX7_mixLegend 29 = .ok (.invokevirtual 249, 3) := by decide +kernel
theorem dX7_mixLegend_32 : decode cX7_mixLegend 32 = .ok (.iinc 1 1, 3) := by decide +kernel
theorem dX7_mixLegend_35 : decode cX7_mixLegend 35 = .ok (.goto (-33), 3) := by decide +kernel
theorem dX7_mixLegend_38 : decode cX7_mixLegend 38 = .ok (.iconst 0, 1) := by decide +kernel
theorem dX7_mixLegend_39 : decode cX7_mixLegend 39 = .ok (.istore_n 1, 1) := by decide +kernel
theorem dX7_mixLegend_40 : decode cX7_mixLegend 40 = .ok (.iload_n 1, 1) := by decide +kernel
theorem dX7_mixLegend_41 : decode cX7_mixLegend 41 = .ok (.bipush 8, 2) := by decide +kernel
theorem dX7_mixLegend_43 : decode cX7_mixLegend 43 = .ok (.aload_n 0, 1) := by decide +kernel
theorem dX7_mixLegend_44 : decode cX7_mixLegend 44 = .ok (.getfield 83, 3) := by decide +kernel
theorem dX7_mixLegend_47 : decode cX7_mixLegend 47 = .ok (.imul, 1) := by decide +kernel
theorem dX7_mixLegend_48 : decode cX7_mixLegend 48 = .ok (.if_icmp .ge 25, 3) := by decide +kernel
theorem dX7_mixLegend_51 : decode cX7_mixLegend 51 = .ok (.aload_n 0, 1) := by decide +kernel
theorem dX7_mixLegend_52 : decode cX7_mixLegend 52 = .ok (.aload_n 0, 1) := by decide +kernel
theorem dX7_mixLegend_53 : decode cX7_mixLegend 53 = .ok (.iload_n 1, 1) := by decide +kernel
theorem dX7_mixLegend_54 : decode cX7_mixLegend 54 = .ok (.bipush 8, 2) := by decide +kernel
theorem dX7_mixLegend_56 : decode cX7_mixLegend 56 = .ok (.idiv, 1) := by decide +kernel
theorem dX7_mixLegend_57 : decode cX7_mixLegend 57 = .ok (.iload_n 1, 1) := by decide +kernel
theorem dX7_mixLegend_58 : decode cX7_mixLegend 58 = .ok (.bipush 8, 2) := by decide +kernel
theorem dX7_mixLegend_60 : decode cX7_mixLegend 60 = .ok (.irem, 1) := by decide +kernel
theorem dX7_mixLegend_61 : decode cX7_mixLegend 61 = .ok (.invokevirtual 216, 3) := by decide +kernel
theorem dX7_mixLegend_64 : decode cX7_mixLegend 64 = .ok (.invokevirtual 249, 3) := by decide +kernel
theorem dX7_mixLegend_67 : decode cX7_mixLegend 67 = .ok (.iinc 1 1, 3) := by decide +kernel
theorem dX7_mixLegend_70 : decode cX7_mixLegend 70 = .ok (.goto (-30), 3) := by decide +kernel
theorem dX7_mixLegend_73 : decode cX7_mixLegend 73 = .ok (.iconst 0, 1) := by decide +kernel
theorem dX7_mixLegend_74 : decode cX7_mixLegend 74 = .ok (.istore_n 1, 1) := by decide +kernel
theorem dX7_mixLegend_75 : decode cX7_mixLegend 75 = .ok (.iload_n 1, 1) := by decide +kernel
theorem dX7_mixLegend_76 : decode cX7_mixLegend 76 = .ok (.bipush 6, 2) := by decide +kernel
theorem dX7_mixLegend_78 : decode cX7_mixLegend 78 = .ok (.if_icmp .ge 18, 3) := by decide +kernel
theorem dX7_mixLegend_81 : decode cX7_mixLegend 81 = .ok (.aload_n 0, 1) := by decide +kernel
theorem dX7_mixLegend_82 : decode cX7_mixLegend 82 = .ok (.aload_n 0, 1) := by decide +kernel
theorem dX7_mixLegend_83 : decode cX7_mixLegend 83 = .ok (.iload_n 1, 1) := by decide +kernel
theorem dX7_mixLegend_84 : decode cX7_mixLegend 84 = .ok (.invokevirtual 219, 3) := by decide +kernel
theorem dX7_mixLegend_87 : decode cX7_mixLegend 87 = .ok (.invokevirtual 249, 3) := by decide +kernel
theorem dX7_mixLegend_90 : decode cX7_mixLegend 90 = .ok (.iinc 1 1, 3) := by decide +kernel
theorem dX7_mixLegend_93 : decode cX7_mixLegend 93 = .ok (.goto (-18), 3) := by decide +kernel
theorem dX7_mixLegend_96 : decode cX7_mixLegend 96 = .ok (.iconst 0, 1) := by decide +kernel
theorem dX7_mixLegend_97 : decode cX7_mixLegend 97 = .ok (.istore_n 1, 1) := by decide +kernel
theorem dX7_mixLegend_98 : decode cX7_mixLegend 98 = .ok (.iload_n 1, 1) := by decide +kernel
theorem dX7_mixLegend_99 : decode cX7_mixLegend 99 = .ok (.iconst 3, 1) := by decide +kernel
theorem dX7_mixLegend_100 : decode cX7_mixLegend 100 = .ok (.if_icmp .ge 18, 3) := by decide +kernel
theorem dX7_mixLegend_103 : decode cX7_mixLegend 103 = .ok (.aload_n 0, 1) := by decide +kernel
theorem dX7_mixLegend_104 : decode cX7_mixLegend 104 = .ok (.aload_n 0, 1) := by decide +kernel
theorem dX7_mixLegend_105 : decode cX7_mixLegend 105 = .ok (.iload_n 1, 1) := by decide +kernel
theorem dX7_mixLegend_106 : decode cX7_mixLegend 106 = .ok (.invokevirtual 222, 3) := by decide +kernel
theorem dX7_mixLegend_109 : decode cX7_mixLegend 109 = .ok (.invokevirtual 249, 3) := by decide +kernel
theorem dX7_mixLegend_112 : decode cX7_mixLegend 112 = .ok (.iinc 1 1, 3) := by decide +kernel
theorem dX7_mixLegend_115 : decode cX7_mixLegend 115 = .ok (.goto (-17), 3) := by decide +kernel
theorem dX7_mixLegend_118 : decode cX7_mixLegend 118 = .ok (.return_, 1) := by decide +kernel
theorem dX7_digest_0 : decode cX7_digest 0 = .ok (.aload_n 0, 1) := by decide +kernel
theorem dX7_digest_1 : decode cX7_digest 1 = .ok (.iconst 0, 1) := by decide +kernel
theorem dX7_digest_2 : decode cX7_digest 2 = .ok (.putfield 53, 3) := by decide +kernel
theorem dX7_digest_5 : decode cX7_digest 5 = .ok (.aload_n 0, 1) := by decide +kernel
theorem dX7_digest_6 : decode cX7_digest 6 = .ok (.invokevirtual 194, 3) := by decide +kernel
theorem dX7_digest_9 : decode cX7_digest 9 = .ok (.aload_n 0, 1) := by decide +kernel
theorem dX7_digest_10 : decode cX7_digest 10 = .ok (.ldc2_w 252, 3) := by decide +kernel
theorem dX7_digest_13 : decode cX7_digest 13 = .ok (.putfield 245, 3) := by decide +kernel
theorem dX7_digest_16 : decode cX7_digest 16 = .ok (.aload_n 0, 1) := by decide +kernel
theorem dX7_digest_17 : decode cX7_digest 17 = .ok (.aload_n 0, 1) := by decide +kernel
theorem dX7_digest_18 : decode cX7_digest 18 = .ok (.getfield 225, 3) := by decide +kernel
theorem dX7_digest_21 : decode cX7_digest 21 = .ok (.invokevirtual 249, 3) := by decide +kernel
theorem dX7_digest_24 : decode cX7_digest 24 = .ok (.iconst 0, 1) := by decide +kernel
theorem dX7_digest_25 : decode cX7_digest 25 = .ok (.istore_n 1, 1) := by decide +kernel
theorem dX7_digest_26 : decode cX7_digest 26 = .ok (.iload_n 1, 1) := by decide +kernel
theorem dX7_digest_27 : decode cX7_digest 27 = .ok (.bipush 12, 2) := by decide +kernel
theorem dX7_digest_29 : decode cX7_digest 29 = .ok (.if_icmp .ge 18, 3) := by decide +kernel
theorem dX7_digest_32 : decode cX7_digest 32 = .ok (.aload_n 0, 1) := by decide +kernel
theorem dX7_digest_33 : decode cX7_digest 33 = .ok (.aload_n 0, 1) := by decide +kernel
theorem dX7_digest_34 : decode cX7_digest 34 = .ok (.iload_n 1, 1) := by decide +kernel
theorem dX7_digest_35 : decode cX7_digest 35 = .ok (.invokevirtual 197, 3) := by decide +kernel
theorem dX7_digest_38 : decode cX7_digest 38 = .ok (.invokevirtual 249, 3) := by decide +kernel
theorem dX7_digest_41 : decode cX7_digest 41 = .ok (.iinc 1 1, 3) := by decide +kernel
theorem dX7_digest_44 : decode cX7_digest 44 = .ok (.goto (-18), 3) := by decide +kernel
theorem dX7_digest_47 : decode cX7_digest 47 = .ok (.iconst 0, 1) := by decide +kernel
theorem dX7_digest_48 : decode cX7_digest 48 = .ok (.istore_n 1, 1) := by decide +kernel
theorem dX7_digest_49 : decode cX7_digest 49 = .ok (.iload_n 1, 1) := by decide +kernel
theorem dX7_digest_50 : decode cX7_digest 50 = .ok (.iconst 5, 1) := by decide +kernel
theorem dX7_digest_51 : decode cX7_digest 51 = .ok (.if_icmp .ge 22, 3) := by decide +kernel
theorem dX7_digest_54 : decode cX7_digest 54 = .ok (.aload_n 0, 1) := by decide +kernel
theorem dX7_digest_55 : decode cX7_digest 55 = .ok (.aload_n 0, 1) := by decide +kernel
theorem dX7_digest_56 : decode cX7_digest 56 = .ok (.getfield 7, 3) := by decide +kernel
theorem dX7_digest_59 : decode cX7_digest 59 = .ok (.bipush 10, 2) := by decide +kernel
theorem dX7_digest_61 : decode cX7_digest 61 = .ok (.iload_n 1, 1) := by decide +kernel
theorem dX7_digest_62 : decode cX7_digest 62 = .ok (.iadd, 1) := by decide +kernel
theorem dX7_digest_63 : decode cX7_digest 63 = .ok (.iaload, 1) := by decide +kernel
theorem dX7_digest_64 : decode cX7_digest 64 = .ok (.invokevirtual 249, 3) := by decide +kernel
theorem dX7_digest_67 : decode cX7_digest 67 = .ok (.iinc 1 1, 3) := by decide +kernel
theorem dX7_digest_70 : decode cX7_digest 70 = .ok (.goto (-21), 3) := by decide +kernel
theorem dX7_digest_73 : decode cX7_digest 73 = .ok (.iconst 0, 1) := by decide +kernel
theorem dX7_digest_74 : decode cX7_digest 74 = .ok (.istore_n 1, 1) := by decide +kernel
theorem dX7_digest_75 : decode cX7_digest 75 = .ok (.iload_n 1, 1) := by decide +kernel
theorem dX7_digest_76 : decode cX7_digest 76 = .ok (.bipush 120, 2) := by decide +kernel
theorem dX7_digest_78 : decode cX7_digest 78 = .ok (.if_icmp .ge 25, 3) := by decide +kernel
theorem dX7_digest_81 : decode cX7_digest 81 = .ok (.aload_n 0, 1) := by decide +kernel
theorem dX7_digest_82 : decode cX7_digest 82 = .ok (.aload_n 0, 1) := by decide +kernel
theorem dX7_digest_83 : decode cX7_digest 83 = .ok (.iload_n 1, 1) := by decide +kernel
theorem dX7_digest_84 : decode cX7_digest 84 = .ok (.bipush 10, 2) := by decide +kernel
theorem dX7_digest_86 : decode cX7_digest 86 = .ok (.idiv, 1) := by decide +kernel
theorem dX7_digest_87 : decode cX7_digest 87 = .ok (.iload_n 1, 1) := by decide +kernel
theorem dX7_digest_88 : decode cX7_digest 88 = .ok (.bipush 10, 2) := by decide +kernel
theorem dX7_digest_90 : decode cX7_digest 90 = .ok (.irem, 1) := by decide +kernel
theorem dX7_digest_91 : decode cX7_digest 91 = .ok (.invokevirtual 213, 3) := by decide +kernel
theorem dX7_digest_94 : decode cX7_digest 94 = .ok (.invokevirtual 249, 3) := by decide +kernel
theorem dX7_digest_97 : decode cX7_digest 97 = .ok (.iinc 1 1, 3) := by decide +kernel
theorem dX7_digest_100 : decode cX7_digest 100 = .ok (.goto (-25), 3) := by decide +kernel
theorem dX7_digest_103 : decode cX7_digest 103 = .ok (.aload_n 0, 1) := by decide +kernel
theorem dX7_digest_104 : decode cX7_digest 104 = .ok (.invokevirtual 254, 3) := by decide +kernel
theorem dX7_digest_107 : decode cX7_digest 107 = .ok (.aload_n 0, 1) := by decide +kernel
theorem dX7_digest_108 : decode cX7_digest 108 = .ok (.aload_n 0, 1) := by decide +kernel
theorem dX7_digest_109 : decode cX7_digest 109 = .ok (.getfield 61, 3) := by decide +kernel
theorem dX7_digest_112 : decode cX7_digest 112 = .ok (.invokevirtual 249, 3) := by decide +kernel
theorem dX7_digest_115 : decode cX7_digest 115 = .ok (.aload_n 0, 1) := by decide +kernel
theorem dX7_digest_116 : decode cX7_digest 116 = .ok (.getfield 245, 3) := by decide +kernel
theorem dX7_digest_119 : decode cX7_digest 119 = .ok (.lreturn, 1) := by decide +kernel
