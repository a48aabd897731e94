theorem dX8_init_0 : decode cX8_init 0 = .ok (.aload_n 0, 1) := by decide +kernel
theorem dX8_init_1 : decode cX8_init 1 = .ok (.invokespecial 3, 3) := by decide +kernel
theorem dX8_init_4 : decode cX8_init 4 = .ok (.aload_n 0, 1) := by decide +kernel
theorem dX8_init_5 : decode cX8_init 5 = .ok (.bipush 20, 2) := by decide +kernel
theorem dX8_init_7 : decode cX8_init 7 = .ok (.newarray .int, 2) := by decide +kernel
theorem dX8_init_9 : decode cX8_init 9 = .ok (.putfield 9, 3) := by decide +kernel
theorem dX8_init_12 : decode cX8_init 12 = .ok (.aload_n 0, 1) := by decide +kernel
theorem dX8_init_13 : decode cX8_init 13 = .ok (.bipush 20, 2) := by decide +kernel
theorem dX8_init_15 : decode cX8_init 15 = .ok (.newarray .int, 2) := by decide +kernel
theorem dX8_init_17 : decode cX8_init 17 = .ok (.putfield 13, 3) := by decide +kernel
theorem dX8_init_20 : decode cX8_init 20 = .ok (.aload_n 0, 1) := by decide +kernel
theorem dX8_init_21 : decode cX8_init 21 = .ok (.bipush 20, 2) := by decide +kernel
theorem dX8_init_23 : decode cX8_init 23 = .ok (.newarray .int, 2) := by decide +kernel
theorem dX8_init_25 : decode cX8_init 25 = .ok (.putfield 16, 3) := by decide +kernel
theorem dX8_init_28 : decode cX8_init 28 = .ok (.aload_n 0, 1) := by decide +kernel
theorem dX8_init_29 : decode cX8_init 29 = .ok (.bipush 20, 2) := by decide +kernel
theorem dX8_init_31 : decode cX8_init 31 = .ok (.newarray .int, 2) := by decide +kernel
theorem dX8_init_33 : decode cX8_init 33 = .ok (.putfield 19, 3) := by decide +kernel
theorem dX8_init_36 : decode cX8_init 36 = .ok (.aload_n 0, 1) := by decide +kernel
theorem dX8_init_37 : decode cX8_init 37 = .ok (.sipush 160, 3) := by decide +kernel
theorem dX8_init_40 : decode cX8_init 40 = .ok (.newarray .int, 2) := by decide +kernel
theorem dX8_init_42 : decode cX8_init 42 = .ok (.putfield 22, 3) := by decide +kernel
theorem dX8_init_45 : decode cX8_init 45 = .ok (.aload_n 0, 1) := by decide +kernel
theorem dX8_init_46 : decode cX8_init 46 = .ok (.bipush 99, 2) := by decide +kernel
theorem dX8_init_48 : decode cX8_init 48 = .ok (.newarray .int, 2) := by decide +kernel
theorem dX8_init_50 : decode cX8_init 50 = .ok (.putfield 25, 3) := by decide +kernel
theorem dX8_init_53 : decode cX8_init 53 = .ok (.aload_n 0, 1) := by decide +kernel
theorem dX8_init_54 : decode cX8_init 54 = .ok (.iconst 3, 1) := by decide +kernel
theorem dX8_init_55 : decode cX8_init 55 = .ok (.newarray .int, 2) := by decide +kernel
theorem dX8_init_57 : decode cX8_init 57 = .ok (.putfield 28, 3) := by decide +kernel
theorem dX8_init_60 : decode cX8_init 60 = .ok (.aload_n 0, 1) := by decide +kernel
theorem dX8_init_61 : decode cX8_init 61 = .ok (.bipush 40, 2) := by decide +kernel
theorem dX8_init_63 : decode cX8_init 63 = .ok (.newarray .int, 2) := by decide +kernel
theorem dX8_init_65 : decode cX8_init 65 = .ok (.putfield 31, 3) := by decide +kernel
theorem dX8_init_68 : decode cX8_init 68 = .ok (.aload_n 0, 1) := by decide +kernel
theorem dX8_init_69 : decode cX8_init 69 = .ok (.bipush 40, 2) := by decide +kernel
theorem dX8_init_71 : decode cX8_init 71 = .ok (.newarray .int, 2) := by decide +kernel
theorem dX8_init_73 : decode cX8_init 73 = .ok (.putfield 34, 3) := by decide +kernel
theorem dX8_init_76 : decode cX8_init 76 = .ok (.aload_n 0, 1) := by decide +kernel
theorem dX8_init_77 : decode cX8_init 77 = .ok (.bipush 40, 2) := by decide +kernel
theorem dX8_init_79 : decode cX8_init 79 = .ok (.newarray .int, 2) := by decide +kernel
theorem dX8_init_81 : decode cX8_init 81 = .ok (.putfield 37, 3) := by decide +kernel
theorem dX8_init_84 : decode cX8_init 84 = .ok (.aload_n 0, 1) := by decide +kernel
theorem dX8_init_85 : decode cX8_init 85 = .ok (.bipush 40, 2) := by decide +kernel
theorem dX8_init_87 : decode cX8_init 87 = .ok (.newarray .int, 2) := by decide +kernel
theorem dX8_init_89 : decode cX8_init 89 = .ok (.putfield 40, 3) := by decide +kernel
theorem dX8_init_92 : decode cX8_init 92 = .ok (.aload_n 0, 1) := by decide +kernel
theorem dX8_init_93 : decode cX8_init 93 = .ok (.bipush 40, 2) := by decide +kernel
theorem dX8_init_95 : decode cX8_init 95 = .ok (.newarray .int, 2) := by decide +kernel
theorem dX8_init_97 : decode cX8_init 97 = .ok (.putfield 43, 3) := by decide +kernel
theorem dX8_init_100 : decode cX8_init 100 = .ok (.aload_n 0, 1) := by decide +kernel
theorem dX8_init_101 : decode cX8_init 101 = .ok (.bipush 40, 2) := by decide +kernel
theorem dX8_init_103 : decode cX8_init 103 = .ok (.newarray .int, 2) := by decide +kernel
theorem dX8_init_105 : decode cX8_init 105 = .ok (.putfield 46, 3) := by decide +kernel
theorem dX8_init_108 : decode cX8_init 108 = .ok (.aload_n 0, 1) := by decide +kernel
theorem dX8_init_109 : decode cX8_init 109 = .ok (.bipush 60, 2) := by decide +kernel
theorem dX8_init_111 : decode cX8_init 111 = .ok (.newarray .int, 2) := by decide +kernel
theorem dX8_init_113 : decode cX8_init 113 = .ok (.putfield 49, 3) := by decide +kernel
theorem dX8_init_116 : decode cX8_init 116 = .ok (.aload_n 0, 1) := by decide +kernel
theorem dX8_init_117 : decode cX8_init 117 = .ok (.bipush 60, 2) := by decide +kernel
theorem dX8_init_119 : decode cX8_init 119 = .ok (.newarray .int, 2) := by decide +kernel
theorem dX8_init_121 : decode cX8_init 121 = .ok (.putfield 52, 3) := by decide +kernel
theorem dX8_init_124 : decode cX8_init 124 = .ok (.aload_n 0, 1) := by decide +kernel
theorem dX8_init_125 : decode cX8_init 125 = .ok (.bipush 60, 2) := by decide +kernel
theorem dX8_init_127 : decode cX8_init 127 = .ok (.newarray .int, 2) := by decide +kernel
theorem dX8_init_129 : decode cX8_init 129 = .ok (.putfield 55, 3) := by decide +kernel
theorem dX8_init_132 : decode cX8_init 132 = .ok (.aload_n 0, 1) := by decide +kernel
theorem dX8_init_133 : decode cX8_init 133 = .ok (.bipush 60, 2) := by decide +kernel
theorem dX8_init_135 : decode cX8_init 135 = .ok (.newarray .int, 2) := by decide +kernel
theorem dX8_init_137 : decode cX8_init 137 = .ok (.putfield 58, 3) := by decide +kernel
theorem dX8_init_140 : decode cX8_init 140 = .ok (.aload_n 0, 1) := by decide +kernel
theorem dX8_init_141 : decode cX8_init 141 = .ok (.bipush 60, 2) := by decide +kernel
theorem dX8_init_143 : decode cX8_init 143 = .ok (.newarray .int, 2) := by decide +kernel
theorem dX8_init_145 : decode cX8_init 145 = .ok (.putfield 61, 3) := by decide +kernel
theorem dX8_init_148 : decode cX8_init 148 = .ok (.aload_n 0, 1) := by decide +kernel
theorem dX8_init_149 : decode cX8_init 149 = .ok (.bipush 20, 2) := by decide +kernel
theorem dX8_init_151 : decode cX8_init 151 = .ok (.newarray .int, 2) := by decide +kernel
theorem dX8_init_153 : decode cX8_init 153 = .ok (.putfield 64, 3) := by decide +kernel
theorem dX8_init_156 : decode cX8_init 156 = .ok (.aload_n 0, 1) := by decide +kernel
theorem dX8_init_157 : decode cX8_init 157 = .ok (.bipush 20, 2) := by decide +kernel
theorem dX8_init_159 : decode cX8_init 159 = .ok (.newarray .int, 2) := by decide +kernel
theorem dX8_init_161 : decode cX8_init 161 = .ok (.putfield 67, 3) := by decide +kernel
theorem dX8_init_164 : decode cX8_init 164 = .ok (.aload_n 0, 1) := by decide +kernel
theorem dX8_init_165 : decode cX8_init 165 = .ok (.bipush 20, 2) := by decide +kernel
theorem dX8_init_167 : decode cX8_init 167 = .ok (.newarray .int, 2) := by decide +kernel
theorem dX8_init_169 : decode cX8_init 169 = .ok (.putfield 70, 3) := by decide +kernel
theorem dX8_init_172 : decode cX8_init 172 = .ok (.aload_n 0, 1) := by decide +kernel
theorem dX8_init_173 : decode cX8_init 173 = .ok (.iconst 4, 1) := by decide +kernel
theorem dX8_init_174 : decode cX8_init 174 = .ok (.newarray .int, 2) := by decide +kernel
theorem dX8_init_176 : decode cX8_init 176 = .ok (.putfield 73, 3) := by decide +kernel
theorem dX8_init_179 : decode cX8_init 179 = .ok (.aload_n 0, 1) := by decide +kernel
theorem dX8_init_180 : decode cX8_init 180 = .ok (.iconst 4, 1) := by decide +kernel
theorem dX8_init_181 : decode cX8_init 181 = .ok (.newarray .int, 2) := by decide +kernel
theorem dX8_init_183 : decode cX8_init 183 = .ok (.putfield 76, 3) := by decide +kernel
theorem dX8_init_186 : decode cX8_init 186 = .ok (.aload_n 0, 1) := by decide +kernel
theorem dX8_init_187 : decode cX8_init 187 = .ok (.bipush 20, 2) := by decide +kernel
theorem dX8_init_189 : decode cX8_init 189 = .ok (.newarray .int, 2) := by decide +kernel
theorem dX8_init_191 : decode cX8_init 191 = .ok (.putfield 79, 3) := by decide +kernel
theorem dX8_init_194 : decode cX8_init 194 = .ok (.aload_n 0, 1) := by decide +kernel
theorem dX8_init_195 : decode cX8_init 195 = .ok (.bipush 100, 2) := by decide +kernel
theorem dX8_init_197 : decode cX8_init 197 = .ok (.newarray .int, 2) := by decide +kernel
theorem dX8_init_199 : decode cX8_init 199 = .ok (.putfield 82, 3) := by decide +kernel
theorem dX8_init_202 : decode cX8_init 202 = .ok (.aload_n 0, 1) := by decide +kernel
theorem dX8_init_203 : decode cX8_init 203 = .ok (.bipush 100, 2) := by decide +kernel
theorem dX8_init_205 : decode cX8_init 205 = .ok (.newarray .int, 2) := by decide +kernel
theorem dX8_init_207 : decode cX8_init 207 = .ok (.putfield 85, 3) := by decide +kernel
theorem dX8_init_210 : decode cX8_init 210 = .ok (.aload_n 0, 1) := by decide +kernel
theorem dX8_init_211 : decode cX8_init 211 = .ok (.bipush 20, 2) := by decide +kernel
theorem dX8_init_213 : decode cX8_init 213 = .ok (.newarray .int, 2) := by decide +kernel
theorem dX8_init_215 : decode cX8_init 215 = .ok (.putfield 88, 3) := by decide +kernel
theorem dX8_init_218 : decode cX8_init 218 = .ok (.aload_n 0, 1) := by decide +kernel
theorem dX8_init_219 : decode cX8_init 219 = .ok (.bipush 6, 2) := by decide +kernel
theorem dX8_init_221 : decode cX8_init 221 = .ok (.newarray .int, 2) := by decide +kernel
theorem dX8_init_223 : decode cX8_init 223 = .ok (.putfield 91, 3) := by decide +kernel
theorem dX8_init_226 : decode cX8_init 226 = .ok (.aload_n 0, 1) := by decide +kernel
theorem dX8_init_227 : decode cX8_init 227 = .ok (.bipush 60, 2) := by decide +kernel
theorem dX8_init_229 : decode cX8_init 229 = .ok (.newarray .boolean, 2) := by decide +kernel
theorem dX8_init_231 : decode cX8_init 231 = .ok (.putfield 94, 3) := by decide +kernel
theorem dX8_init_234 : decode cX8_init 234 = .ok (.aload_n 0, 1) := by decide +kernel
theorem dX8_init_235 : decode cX8_init 235 = .ok (.bipush 20, 2) := by decide +kernel
theorem dX8_init_237 : decode cX8_init 237 = .ok (.newarray .int, 2) := by decide +kernel
theorem dX8_init_239 : decode cX8_init 239 = .ok (.putfield 98, 3) := by decide +kernel
theorem dX8_init_242 : decode cX8_init 242 = .ok (.aload_n 0, 1) := by decide +kernel
theorem dX8_init_243 : decode cX8_init 243 = .ok (.bipush 80, 2) := by decide +kernel
theorem dX8_init_245 : decode cX8_init 245 = .ok (.newarray .boolean, 2) := by decide +kernel
theorem dX8_init_247 : decode cX8_init 247 = .ok (.putfield 101, 3) := by decide +kernel
theorem dX8_init_250 : decode cX8_init 250 = .ok (.aload_n 0, 1) := by decide +kernel
theorem dX8_init_251 : decode cX8_init 251 = .ok (.iconst 5, 1) := by decide +kernel
theorem dX8_init_252 : decode cX8_init 252 = .ok (.newarray .int, 2) := by decide +kernel
theorem dX8_init_254 : decode cX8_init 254 = .ok (.putfield 104, 3) := by decide +kernel
theorem dX8_init_257 : decode cX8_init 257 = .ok (.aload_n 0, 1) := by decide +kernel
theorem dX8_init_258 : decode cX8_init 258 = .ok (.bipush 20, 2) := by decide +kernel
theorem dX8_init_260 : decode cX8_init 260 = .ok (.newarray .int, 2) := by decide +kernel
theorem dX8_init_262 : decode cX8_init 262 = .ok (.putfield 107, 3) := by decide +kernel
theorem dX8_init_265 : decode cX8_init 265 = .ok (.return_, 1) := by decide +kernel
theorem dX8_finding_0 : decode cX8_finding 0 = .ok (.aload_n 0, 1) := by decide +kernel
theorem dX8_finding_1 : decode cX8_finding 1 = .ok (.getfield 91, 3) := by decide +kernel
theorem dX8_finding_4 : decode cX8_finding 4 = .ok (.ldc 110, 2) := by decide +kernel
theorem dX8_finding_6 : decode cX8_finding 6 = .ok (.iload_n 1, 1) := by decide +kernel
theorem dX8_finding_7 : decode cX8_finding 7 = .ok (.isub, 1) := by decide +kernel
theorem dX8_finding_8 : decode cX8_finding 8 = .ok (.dup2, 1) := by decide +kernel
theorem dX8_finding_9 : decode cX8_finding 9 = .ok (.iaload, 1) := by decide +kernel
theorem dX8_finding_10 : decode cX8_finding 10 = .ok (.iconst 1, 1) := by decide +kernel
theorem dX8_finding_11 : decode cX8_finding 11 = .ok (.iadd, 1) := by decide +kernel
theorem dX8_finding_12 : decode cX8_finding 12 = .ok (.iastore, 1) := by decide +kernel
theorem dX8_finding_13 : decode cX8_finding 13 = .ok (.iload_n 1, 1) := by decide +kernel
theorem dX8_finding_14 : decode cX8_finding 14 = .ok (.ireturn, 1) := by decide +kernel
theorem dX8_within_0 : decode cX8_within 0 = .ok (.iload_n 0, 1) := by decide +kernel
theorem dX8_within_1 : decode cX8_within 1 = .ok (.iload_n 1, 1) := by decide +kernel
theorem dX8_within_2 : decode cX8_within 2 = .ok (.if_icmp .lt 12, 3) := by decide +kernel
theorem dX8_within_5 : decode cX8_within 5 = .ok (.iload_n 0, 1) := by decide +kernel
theorem dX8_within_6 : decode cX8_within 6 = .ok (.iload_n 2, 1) := by decide +kernel
theorem dX8_within_7 : decode cX8_within 7 = .ok (.if_icmp .gt 7, 3) := by decide +kernel
theorem dX8_within_10 : decode cX8_within 10 = .ok (.iconst 1, 1) := by decide +kernel
theorem dX8_within_11 : decode cX8_within 11 = .ok (.goto 4, 3) := by decide +kernel
theorem dX8_within_14 : decode cX8_within 14 = .ok (.iconst 0, 1) := by decide +kernel
theorem dX8_within_15 : decode cX8_within 15 = .ok (.ireturn, 1) := by decide +kernel
theorem dX8_isDay_0 : decode cX8_isDay 0 = .ok (.iload_n 0, 1) := by decide +kernel
theorem dX8_isDay_1 : decode cX8_isDay 1 = .ok (.iconst 0, 1) := by decide +kernel
theorem dX8_isDay_2 : decode cX8_isDay 2 = .ok (.sipush 30000, 3) := by decide +kernel
theorem dX8_isDay_5 : decode cX8_isDay 5 = .ok (.invokestatic 111, 3) := by decide +kernel
theorem dX8_isDay_8 : decode cX8_isDay 8 = .ok (.ireturn, 1) := by decide +kernel
theorem dX8_isUnion_0 : decode cX8_isUnion 0 = .ok (.iload_n 0, 1) := by decide +kernel
theorem dX8_isUnion_1 : decode cX8_isUnion 1 = .ok (.iconst 0, 1) := by decide +kernel
theorem dX8_isUnion_2 : decode cX8_isUnion 2 = .ok (.iconst 2, 1) := by decide +kernel
theorem dX8_isUnion_3 : decode cX8_isUnion 3 = .ok (.invokestatic 111, 3) := by decide +kernel
theorem dX8_isUnion_6 : decode cX8_isUnion 6 = .ok (.ireturn, 1) := by decide +kernel
theorem dX8_isGrade_0 : decode cX8_isGrade 0 = .ok (.iload_n 0, 1) := by decide +kernel
theorem dX8_isGrade_1 : decode cX8_isGrade 1 = .ok (.iconst 1, 1) := by decide +kernel
theorem dX8_isGrade_2 : decode cX8_isGrade 2 = .ok (.bipush 10, 2) := by decide +kernel
theorem dX8_isGrade_4 : decode cX8_isGrade 4 = .ok (.invokestatic 111, 3) := by decide +kernel
theorem dX8_isGrade_7 : decode cX8_isGrade 7 = .ok (.ireturn, 1) := by decide +kernel
theorem dX8_isPerson_0 : decode cX8_isPerson 0 = .ok (.iload_n 1, 1) := by decide +kernel
theorem dX8_isPerson_1 : decode cX8_isPerson 1 = .ok (.iconst 0, 1) := by decide +kernel
theorem dX8_isPerson_2 : decode cX8_isPerson 2 = .ok (.aload_n 0, 1) := by decide +kernel
theorem dX8_isPerson_3 : decode cX8_isPerson 3 = .ok (.getfield 115, 3) := by decide +kernel
theorem dX8_isPerson_6 : decode cX8_isPerson 6 = .ok (.iconst 1, 1) := by decide +kernel
theorem dX8_isPerson_7 : decode cX8_isPerson 7 = .ok (.isub, 1) := by decide +kernel
theorem dX8_isPerson_8 : decode cX8_isPerson 8 = .ok (.invokestatic 111, 3) := by decide +kernel
theorem dX8_isPerson_11 : decode cX8_isPerson 11 = .ok (.ireturn, 1) := by decide +kernel
theorem dX8_person_0 : decode cX8_person 0 = .ok (.iload_n 1, 1) := by decide +kernel
theorem dX8_person_1 : decode cX8_person 1 = .ok (.iconst 0, 1) := by decide +kernel
theorem dX8_person_2 : decode cX8_person 2 = .ok (.iconst 2, 1) := by decide +kernel
theorem dX8_person_3 : decode cX8_person 3 = .ok (.invokestatic 111, 3) := by decide +kernel
theorem dX8_person_6 : decode cX8_person 6 = .ok (.ifCond .eq 20, 3) := by decide +kernel
theorem dX8_person_9 : decode cX8_person 9 = .ok (.iload_n 2, 1) := by decide +kernel
theorem dX8_person_10 : decode cX8_person 10 = .ok (.invokestatic 119, 3) := by decide +kernel
theorem dX8_person_13 : decode cX8_person 13 = .ok (.ifCond .eq 13, 3) := by decide +kernel
theorem dX8_person_16 : decode cX8_person 16 = .ok (.iload_n 3, 1) := by decide +kernel
theorem dX8_person_17 : decode cX8_person 17 = .ok (.iconst 0, 1) := by decide +kernel
theorem dX8_person_18 : decode cX8_person 18 = .ok (.bipush 7, 2) := by decide +kernel
theorem dX8_person_20 : decode cX8_person 20 = .ok (.invokestatic 111, 3) := by decide +kernel
theorem dX8_person_23 : decode cX8_person 23 = .ok (.ifCond .ne 10, 3) := by decide +kernel
theorem dX8_person_26 : decode cX8_person 26 = .ok (.aload_n 0, 1) := by decide +kernel
theorem dX8_person_27 : decode cX8_person 27 = .ok (.ldc 123, 2) := by decide +kernel
theorem dX8_person_29 : decode cX8_person 29 = .ok (.invokevirtual 124, 3) := by decide +kernel
theorem dX8_person_32 : decode cX8_person 32 = .ok (.ireturn, 1) := by decide +kernel
theorem dX8_person_33 : decode cX8_person 33 = .ok (.aload_n 0, 1) := by decide +kernel
theorem dX8_person_34 : decode cX8_person 34 = .ok (.getfield 115, 3) := by decide +kernel
theorem dX8_person_37 : decode cX8_person 37 = .ok (.bipush 20, 2) := by decide +kernel
theorem dX8_person_39 : decode cX8_person 39 = .ok (.if_icmp .eq 17, 3) := by decide +kernel
theorem dX8_person_42 : decode cX8_person 42 = .ok (.iload_n 1, 1) := by decide +kernel
theorem dX8_person_43 : decode cX8_person 43 = .ok (.iconst 1, 1) := by decide +kernel
theorem dX8_person_44 : decode cX8_person 44 = .ok (.if_icmp .ne 19, 3) := by decide +kernel
theorem dX8_person_47 : decode cX8_person 47 = .ok (.aload_n 0, 1) := by decide +kernel
theorem dX8_person_48 : decode cX8_person 48 = .ok (.getfield 128, 3) := by decide +kernel
theorem dX8_person_51 : decode cX8_person 51 = .ok (.bipush 6, 2) := by decide +kernel
theorem dX8_person_53 : decode cX8_person 53 = .ok (.if_icmp .ne 10, 3) := by decide +kernel
theorem dX8_person_56 : decode cX8_person 56 = .ok (.aload_n 0, 1) := by decide +kernel
theorem dX8_person_57 : decode cX8_person 57 = .ok (.ldc 131, 2) := by decide +kernel
theorem dX8_person_59 : decode cX8_person 59 = .ok (.invokevirtual 124, 3) := by decide +kernel
theorem dX8_person_62 : decode cX8_person 62 = .ok (.ireturn, 1) := by decide +kernel
theorem dX8_person_63 : decode cX8_person 63 = .ok (.aload_n 0, 1) := by decide +kernel
theorem dX8_person_64 : decode cX8_person 64 = .ok (.getfield 9, 3) := by decide +kernel
theorem dX8_person_67 : decode cX8_person 67 = .ok (.aload_n 0, 1) := by decide +kernel
theorem dX8_person_68 : decode cX8_person 68 = .ok (.getfield 115, 3) := by decide +kernel
theorem dX8_person_71 : decode cX8_person 71 = .ok (.iload_n 1, 1) := by decide +kernel
theorem dX8_person_72 : decode cX8_person 72 = .ok (.iastore, 1) := by decide +kernel
theorem dX8_person_73 : decode cX8_person 73 = .ok (.aload_n 0, 1) := by decide +kernel
theorem dX8_person_74 : decode cX8_person 74 = .ok (.getfield 13, 3) := by decide +kernel
theorem dX8_person_77 : decode cX8_person 77 = .ok (.aload_n 0, 1) := by decide +kernel
theorem dX8_person_78 : decode cX8_person 78 = .ok (.getfield 115, 3) := by decide +kernel
theorem dX8_person_81 : decode cX8_person 81 = .ok (.iload_n 2, 1) := by decide +kernel
theorem dX8_person_82 : decode cX8_person 82 = .ok (.iastore, 1) := by decide +kernel
theorem dX8_person_83 : decode cX8_person 83 = .ok (.aload_n 0, 1) := by decide +kernel
theorem dX8_person_84 : decode cX8_person 84 = .ok (.getfield 16, 3) := by decide +kernel
theorem dX8_person_87 : decode cX8_person 87 = .ok (.aload_n 0, 1) := by decide +kernel
theorem dX8_person_88 : decode cX8_person 88 = .ok (.getfield 115, 3) := by decide +kernel
theorem dX8_person_91 : decode cX8_person 91 = .ok (.iload_n 3, 1) := by decide +kernel
theorem dX8_person_92 : decode cX8_person 92 = .ok (.iastore, 1) := by decide +kernel
theorem dX8_person_93 : decode cX8_person 93 = .ok (.aload_n 0, 1) := by decide +kernel
theorem dX8_person_94 : decode cX8_person 94 = .ok (.getfield 19, 3) := by decide +kernel
theorem dX8_person_97 : decode cX8_person 97 = .ok (.aload_n 0, 1) := by decide +kernel
theorem dX8_person_98 : decode cX8_person 98 = .ok (.getfield 115, 3) := by decide +kernel
theorem dX8_person_101 : decode cX8_person 101 = .ok (.sipush 30000, 3) := by decide +kernel
theorem dX8_person_104 : decode cX8_person 104 = .ok (.iastore, 1) := by decide +kernel
theorem dX8_person_105 : decode cX8_person 105 = .ok (.iconst 0, 1) := by decide +kernel
theorem dX8_person_106 : decode cX8_person 106 = .ok (.istore 4, 2) := by decide +kernel
theorem dX8_person_108 : decode cX8_person 108 = .ok (.iload 4, 2) := by decide +kernel
theorem dX8_person_110 : decode cX8_person 110 = .ok (.bipush 8, 2) := by decide +kernel
theorem dX8_person_112 : decode cX8_person 112 = .ok (.if_icmp .ge 25, 3) := by decide +kernel
theorem dX8_person_115 : decode cX8_person 115 = .ok (.aload_n 0, 1) := by decide +kernel
theorem dX8_person_116 : decode cX8_person 116 = .ok (.getfield 22, 3) := by decide +kernel
theorem dX8_person_119 : decode cX8_person 119 = .ok (.bipush 8, 2) := by decide +kernel
theorem dX8_person_121 : decode cX8_person 121 = .ok (.aload_n 0, 1) := by decide +kernel
theorem dX8_person_122 : decode cX8_person 122 = .ok (.getfield 115, 3) := by decide +kernel
theorem dX8_person_125 : decode cX8_person 125 = .ok (.imul, 1) := by decide +kernel
theorem dX8_person_126 : decode cX8_person 126 = .ok (.iload 4, 2) := by decide +kernel
theorem dX8_person_128 : decode cX8_person 128 = .ok (.iadd, 1) := by decide +kernel
theorem dX8_person_129 : decode cX8_person 129 = .ok (.iconst (-1), 1) := by decide +kernel
theorem dX8_person_130 : decode cX8_person 130 = .ok (.iastore, 1) := by decide +kernel
theorem dX8_person_131 : decode cX8_person 131 = .ok (.iinc 4 1, 3) := by decide +kernel
theorem dX8_person_134 : decode cX8_person 134 = .ok (.goto (-26), 3) := by decide +kernel
theorem dX8_person_137 : decode cX8_person 137 = .ok (.aload_n 0, 1) := by decide +kernel
theorem dX8_person_138 : decode cX8_person 138 = .ok (.dup, 1) := by decide +kernel
theorem dX8_person_139 : decode cX8_person 139 = .ok (.getfield 128, 3) := by decide +kernel
theorem dX8_person_142 : decode cX8_person 142 = .ok (.iload_n 1, 1) := by decide +kernel
theorem dX8_person_143 : decode cX8_person 143 = .ok (.iconst 1, 1) := by decide +kernel
theorem dX8_person_144 : decode cX8_person 144 = .ok (.if_icmp .ne 7, 3) := by decide +kernel
theorem dX8_person_147 : decode cX8_person 147 = .ok (.iconst 1, 1) := by decide +kernel
theorem dX8_person_148 : decode cX8_person 148 = .ok (.goto 4, 3) := by decide +kernel
theorem dX8_person_151 : decode cX8_person 151 = .ok (.iconst 0, 1) := by decide +kernel
theorem dX8_person_152 : decode cX8_person 152 = .ok (.iadd, 1) := by decide +kernel
theorem dX8_person_153 : decode cX8_person 153 = .ok (.putfield 128, 3) := by decide +kernel
theorem dX8_person_156 : decode cX8_person 156 = .ok (.aload_n 0, 1) := by decide +kernel
theorem dX8_person_157 : decode cX8_person 157 = .ok (.dup, 1) := by decide +kernel
theorem dX8_person_158 : decode cX8_person 158 = .ok (.getfield 115, 3) := by decide +kernel
theorem dX8_person_161 : decode cX8_person 161 = .ok (.iconst 1, 1) := by decide +kernel
theorem dX8_person_162 : decode cX8_person 162 = .ok (.iadd, 1) := by decide +kernel
theorem dX8_person_163 : decode cX8_person 163 = .ok (.putfield 115, 3) := by decide +kernel
theorem dX8_person_166 : decode cX8_person 166 = .ok (.aload_n 0, 1) := by decide +kernel
theorem dX8_person_167 : decode cX8_person 167 = .ok (.getfield 115, 3) := by decide +kernel
theorem dX8_person_170 : decode cX8_person 170 = .ok (.iconst 1, 1) := by decide +kernel
theorem dX8_person_171 : decode cX8_person 171 = .ok (.isub, 1) := by decide +kernel
theorem dX8_person_172 : decode cX8_person 172 = .ok (.ireturn, 1) := by decide +kernel
theorem dX8_as_0 : decode cX8_as 0 = .ok (.aload_n 0, 1) := by decide +kernel
theorem dX8_as_1 : decode cX8_as 1 = .ok (.iload_n 1, 1) := by decide +kernel
theorem dX8_as_2 : decode cX8_as 2 = .ok (.invokevirtual 132, 3) := by decide +kernel
theorem dX8_as_5 : decode cX8_as 5 = .ok (.ifCond .eq 12, 3) := by decide +kernel
theorem dX8_as_8 : decode cX8_as 8 = .ok (.iload_n 2, 1) := by decide +kernel
theorem dX8_as_9 : decode cX8_as 9 = .ok (.iconst 0, 1) := by decide +kernel
theorem dX8_as_10 : decode cX8_as 10 = .ok (.iconst 2, 1) := by decide +kernel
theorem dX8_as_11 : decode cX8_as 11 = .ok (.invokestatic 111, 3) := by decide +kernel
theorem dX8_as_14 : decode cX8_as 14 = .ok (.ifCond .ne 10, 3) := by decide +kernel
theorem dX8_as_17 : decode cX8_as 17 = .ok (.aload_n 0, 1) := by decide +kernel
theorem dX8_as_18 : decode cX8_as 18 = .ok (.ldc 123, 2) := by decide +kernel
theorem dX8_as_20 : decode cX8_as 20 = .ok (.invokevirtual 124, 3) := by decide +kernel
theorem dX8_as_23 : decode cX8_as 23 = .ok (.ireturn, 1) := by decide +kernel
theorem dX8_as_24 : decode cX8_as 24 = .ok (.iload_n 2, 1) := by decide +kernel
theorem dX8_as_25 : decode cX8_as 25 = .ok (.ifCond .eq 13, 3) := by decide +kernel
theorem dX8_as_28 : decode cX8_as 28 = .ok (.aload_n 0, 1) := by decide +kernel
theorem dX8_as_29 : decode cX8_as 29 = .ok (.getfield 9, 3) := by decide +kernel
theorem dX8_as_32 : decode cX8_as 32 = .ok (.iload_n 1, 1) := by decide +kernel
theorem dX8_as_33 : decode cX8_as 33 = .ok (.iaload, 1) := by decide +kernel
theorem dX8_as_34 : decode cX8_as 34 = .ok (.iload_n 2, 1) := by decide +kernel
theorem dX8_as_35 : decode cX8_as 35 = .ok (.if_icmp .ne 12, 3) := by decide +kernel
theorem dX8_as_38 : decode cX8_as 38 = .ok (.aload_n 0, 1) := by decide +kernel
theorem dX8_as_39 : decode cX8_as 39 = .ok (.getfield 16, 3) := by decide +kernel
theorem dX8_as_42 : decode cX8_as 42 = .ok (.iload_n 1, 1) := by decide +kernel
theorem dX8_as_43 : decode cX8_as 43 = .ok (.iaload, 1) := by decide +kernel
theorem dX8_as_44 : decode cX8_as 44 = .ok (.goto 9, 3) := by decide +kernel
theorem dX8_as_47 : decode cX8_as 47 = .ok (.aload_n 0, 1) := by decide +kernel
theorem dX8_as_48 : decode cX8_as 48 = .ok (.ldc 135, 2) := by decide +kernel
theorem dX8_as_50 : decode cX8_as 50 = .ok (.invokevirtual 124, 3) := by decide +kernel
theorem dX8_as_53 : decode cX8_as 53 = .ok (.ireturn, 1) := by decide +kernel
theorem dX8_licence_0 : decode cX8_licence 0 = .ok (.aload_n 0, 1) := by decide +kernel
theorem dX8_licence_1 : decode cX8_licence 1 = .ok (.iload_n 1, 1) := by decide +kernel
theorem dX8_licence_2 : decode cX8_licence 2 = .ok (.invokevirtual 132, 3) := by decide +kernel
theorem dX8_licence_5 : decode cX8_licence 5 = .ok (.ifCond .eq 10, 3) := by decide +kernel
theorem dX8_licence_8 : decode cX8_licence 8 = .ok (.iload_n 2, 1) := by decide +kernel
theorem dX8_licence_9 : decode cX8_licence 9 = .ok (.invokestatic 119, 3) := by decide +kernel
theorem dX8_licence_12 : decode cX8_licence 12 = .ok (.ifCond .ne 10, 3) := by decide +kernel
theorem dX8_licence_15 : decode cX8_licence 15 = .ok (.aload_n 0, 1) := by decide +kernel
theorem dX8_licence_16 : decode cX8_licence 16 = .ok (.ldc 123, 2) := by decide +kernel
theorem dX8_licence_18 : decode cX8_licence 18 = .ok (.invokevirtual 124, 3) := by decide +kernel
theorem dX8_licence_21 : decode cX8_licence 21 = .ok (.ireturn, 1) := by decide +kernel
theorem dX8_licence_22 : decode cX8_licence 22 = .ok (.aload_n 0, 1) := by decide +kernel
theorem dX8_licence_23 : decode cX8_licence 23 = .ok (.getfield 19, 3) := by decide +kernel
theorem dX8_licence_26 : decode cX8_licence 26 = .ok (.iload_n 1, 1) := by decide +kernel
theorem dX8_licence_27 : decode cX8_licence 27 = .ok (.iaload, 1) := by decide +kernel
theorem dX8_licence_28 : decode cX8_licence 28 = .ok (.istore_n 3, 1) := by decide +kernel
theorem dX8_licence_29 : decode cX8_licence 29 = .ok (.aload_n 0, 1) := by decide +kernel
theorem dX8_licence_30 : decode cX8_licence 30 = .ok (.getfield 19, 3) := by decide +kernel
theorem dX8_licence_33 : decode cX8_licence 33 = .ok (.iload_n 1, 1) := by decide +kernel
theorem dX8_licence_34 : decode cX8_licence 34 = .ok (.iload_n 2, 1) := by decide +kernel
theorem dX8_licence_35 : decode cX8_licence 35 = .ok (.iastore, 1) := by decide +kernel
theorem dX8_licence_36 : decode cX8_licence 36 = .ok (.iload_n 3, 1) := by decide +kernel
theorem dX8_licence_37 : decode cX8_licence 37 = .ok (.ireturn, 1) := by decide +kernel
theorem dX8_part_0 : decode cX8_part 0 = .ok (.aload_n 0, 1) := by decide +kernel
theorem dX8_part_1 : decode cX8_part 1 = .ok (.iload_n 1, 1) := by decide +kernel
theorem dX8_part_2 : decode cX8_part 2 = .ok (.invokevirtual 132, 3) := by decide +kernel
theorem dX8_part_5 : decode cX8_part 5 = .ok (.ifCond .eq 24, 3) := by decide +kernel
theorem dX8_part_8 : decode cX8_part 8 = .ok (.iload_n 2, 1) := by decide +kernel
theorem dX8_part_9 : decode cX8_part 9 = .ok (.iconst 0, 1) := by decide +kernel
theorem dX8_part_10 : decode cX8_part 10 = .ok (.bipush 7, 2) := by decide +kernel
theorem dX8_part_12 : decode cX8_part 12 = .ok (.invokestatic 111, 3) := by decide +kernel
theorem dX8_part_15 : decode cX8_part 15 = .ok (.ifCond .eq 14, 3) := by decide +kernel
theorem dX8_part_18 : decode cX8_part 18 = .ok (.iload_n 3, 1) := by decide +kernel
theorem dX8_part_19 : decode cX8_part 19 = .ok (.iconst (-1), 1) := by decide +kernel
theorem dX8_part_20 : decode cX8_part 20 = .ok (.sipush 30000, 3) := by decide +kernel
theorem dX8_part_23 : decode cX8_part 23 = .ok (.invokestatic 111, 3) := by decide +kernel
theorem dX8_part_26 : decode cX8_part 26 = .ok (.ifCond .ne 10, 3) := by decide +kernel
theorem dX8_part_29 : decode cX8_part 29 = .ok (.aload_n 0, 1) := by decide +kernel
theorem dX8_part_30 : decode cX8_part 30 = .ok (.ldc 123, 2) := by decide +kernel
theorem dX8_part_32 : decode cX8_part 32 = .ok (.invokevirtual 124, 3) := by decide +kernel
theorem dX8_part_35 : decode cX8_part 35 = .ok (.ireturn, 1) := by decide +kernel
theorem dX8_part_36 : decode cX8_part 36 = .ok (.aload_n 0, 1) := by decide +kernel
theorem dX8_part_37 : decode cX8_part 37 = .ok (.getfield 22, 3) := by decide +kernel
theorem dX8_part_40 : decode cX8_part 40 = .ok (.bipush 8, 2) := by decide +kernel
theorem dX8_part_42 : decode cX8_part 42 = .ok (.iload_n 1, 1) := by decide +kernel
theorem dX8_part_43 : decode cX8_part 43 = .ok (.imul, 1) := by decide +kernel
theorem dX8_part_44 : decode cX8_part 44 = .ok (.iload_n 2, 1) := by decide +kernel
theorem dX8_part_45 : decode cX8_part 45 = .ok (.iadd, 1) := by decide +kernel
theorem dX8_part_46 : decode cX8_part 46 = .ok (.iaload, 1) := by decide +kernel
theorem dX8_part_47 : decode cX8_part 47 = .ok (.istore 4, 2) := by decide +kernel
theorem dX8_part_49 : decode cX8_part 49 = .ok (.aload_n 0, 1) := by decide +kernel
theorem dX8_part_50 : decode cX8_part 50 = .ok (.getfield 22, 3) := by decide +kernel
theorem dX8_part_53 : decode cX8_part 53 = .ok (.bipush 8, 2) := by decide +kernel
theorem dX8_part_55 : decode cX8_part 55 = .ok (.iload_n 1, 1) := by decide +kernel
theorem dX8_part_56 : decode cX8_part 56 = .ok (.imul, 1) := by decide +kernel
theorem dX8_part_57 : decode cX8_part 57 = .ok (.iload_n 2, 1) := by decide +kernel
theorem dX8_part_58 : decode cX8_part 58 = .ok (.iadd, 1) := by decide +kernel
theorem dX8_part_59 : decode cX8_part 59 = .ok (.iload_n 3, 1) := by decide +kernel
theorem dX8_part_60 : decode cX8_part 60 = .ok (.iastore, 1) := by decide +kernel
theorem dX8_part_61 : decode cX8_part 61 = .ok (.iload 4, 2) := by decide +kernel
theorem dX8_part_63 : decode cX8_part 63 = .ok (.ireturn, 1) := by decide +kernel
theorem dX8_worthAt_0 : decode cX8_worthAt 0 = .ok (.iconst 3, 1) := by decide +kernel
theorem dX8_worthAt_1 : decode cX8_worthAt 1 = .ok (.iload_n 0, 1) := by decide +kernel
theorem dX8_worthAt_2 : decode cX8_worthAt 2 = .ok (.imul, 1) := by decide +kernel
theorem dX8_worthAt_3 : decode cX8_worthAt 3 = .ok (.iload_n 1, 1) := by decide +kernel
theorem dX8_worthAt_4 : decode cX8_worthAt 4 = .ok (.iadd, 1) := by decide +kernel
theorem dX8_worthAt_5 : decode cX8_worthAt 5 = .ok (.bipush 11, 2) := by decide +kernel
theorem dX8_worthAt_7 : decode cX8_worthAt 7 = .ok (.imul, 1) := by decide +kernel
theorem dX8_worthAt_8 : decode cX8_worthAt 8 = .ok (.iload_n 2, 1) := by decide +kernel
theorem dX8_worthAt_9 : decode cX8_worthAt 9 = .ok (.iadd, 1) := by decide +kernel
theorem dX8_worthAt_10 : decode cX8_worthAt 10 = .ok (.ireturn, 1) := by decide +kernel
theorem dX8_worth_0 : decode cX8_worth 0 = .ok (.iload_n 1, 1) := by decide +kernel
theorem dX8_worth_1 : decode cX8_worth 1 = .ok (.invokestatic 136, 3) := by decide +kernel
theorem dX8_worth_4 : decode cX8_worth 4 = .ok (.ifCond .eq 33, 3) := by decide +kernel
theorem dX8_worth_7 : decode cX8_worth 7 = .ok (.iload_n 2, 1) := by decide +kernel
theorem dX8_worth_8 : decode cX8_worth 8 = .ok (.invokestatic 136, 3) := by decide +kernel
theorem dX8_worth_11 : decode cX8_worth 11 = .ok (.ifCond .eq 26, 3) := by decide +kernel
theorem dX8_worth_14 : decode cX8_worth 14 = .ok (.iload_n 3, 1) := by decide +kernel
theorem dX8_worth_15 : decode cX8_worth 15 = .ok (.invokestatic 139, 3) := by decide +kernel
theorem dX8_worth_18 : decode cX8_worth 18 = .ok (.ifCond .eq 19, 3) := by decide +kernel
theorem dX8_worth_21 : decode cX8_worth 21 = .ok (.iload_n 1, 1) := by decide +kernel
theorem dX8_worth_22 : decode cX8_worth 22 = .ok (.iload_n 2, 1) := by decide +kernel
theorem dX8_worth_23 : decode cX8_worth 23 = .ok (.if_icmp .eq 14, 3) := by decide +kernel
theorem dX8_worth_26 : decode cX8_worth 26 = .ok (.iload 4, 2) := by decide +kernel
theorem dX8_worth_28 : decode cX8_worth 28 = .ok (.iconst 0, 1) := by decide +kernel
theorem dX8_worth_29 : decode cX8_worth 29 = .ok (.bipush 10, 2) := by decide +kernel
theorem dX8_worth_31 : decode cX8_worth 31 = .ok (.invokestatic 111, 3) := by decide +kernel
theorem dX8_worth_34 : decode cX8_worth 34 = .ok (.ifCond .ne 10, 3) := by decide +kernel
theorem dX8_worth_37 : decode cX8_worth 37 = .ok (.aload_n 0, 1) := by decide +kernel
theorem dX8_worth_38 : decode cX8_worth 38 = .ok (.ldc 123, 2) := by decide +kernel
theorem dX8_worth_40 : decode cX8_worth 40 = .ok (.invokevirtual 124, 3) := by decide +kernel
theorem dX8_worth_43 : decode cX8_worth 43 = .ok (.ireturn, 1) := by decide +kernel
theorem dX8_worth_44 : decode cX8_worth 44 = .ok (.aload_n 0, 1) := by decide +kernel
theorem dX8_worth_45 : decode cX8_worth 45 = .ok (.getfield 25, 3) := by decide +kernel
theorem dX8_worth_48 : decode cX8_worth 48 = .ok (.iload_n 1, 1) := by decide +kernel
theorem dX8_worth_49 : decode cX8_worth 49 = .ok (.iload_n 2, 1) := by decide +kernel
theorem dX8_worth_50 : decode cX8_worth 50 = .ok (.iload_n 3, 1) := by decide +kernel
theorem dX8_worth_51 : decode cX8_worth 51 = .ok (.invokestatic 142, 3) := by decide +kernel
theorem dX8_worth_54 : decode cX8_worth 54 = .ok (.iaload, 1) := by decide +kernel
theorem dX8_worth_55 : decode cX8_worth 55 = .ok (.istore 5, 2) := by decide +kernel
theorem dX8_worth_57 : decode cX8_worth 57 = .ok (.aload_n 0, 1) := by decide +kernel
theorem dX8_worth_58 : decode cX8_worth 58 = .ok (.getfield 25, 3) := by decide +kernel
theorem dX8_worth_61 : decode cX8_worth 61 = .ok (.iload_n 1, 1) := by decide +kernel
theorem dX8_worth_62 : decode cX8_worth 62 = .ok (.iload_n 2, 1) := by decide +kernel
theorem dX8_worth_63 : decode cX8_worth 63 = .ok (.iload_n 3, 1) := by decide +kernel
theorem dX8_worth_64 : decode cX8_worth 64 = .ok (.invokestatic 142, 3) := by decide +kernel
theorem dX8_worth_67 : decode cX8_worth 67 = .ok (.iload 4, 2) := by decide +kernel
theorem dX8_worth_69 : decode cX8_worth 69 = .ok (.iastore, 1) := by decide +kernel
theorem dX8_worth_70 : decode cX8_worth 70 = .ok (.iload 5, 2) := by decide +kernel
theorem dX8_worth_72 : decode cX8_worth 72 = .ok (.ireturn, 1) := by decide +kernel
theorem dX8_counts_0 : decode cX8_counts 0 = .ok (.iload_n 1, 1) := by decide +kernel
theorem dX8_counts_1 : decode cX8_counts 1 = .ok (.iload_n 2, 1) := by decide +kernel
theorem dX8_counts_2 : decode cX8_counts 2 = .ok (.if_icmp .ne 7, 3) := by decide +kernel
theorem dX8_counts_5 : decode cX8_counts 5 = .ok (.iload_n 3, 1) := by decide +kernel
theorem dX8_counts_6 : decode cX8_counts 6 = .ok (.goto 14, 3) := by decide +kernel
theorem dX8_counts_9 : decode cX8_counts 9 = .ok (.aload_n 0, 1) := by decide +kernel
theorem dX8_counts_10 : decode cX8_counts 10 = .ok (.getfield 25, 3) := by decide +kernel
theorem dX8_counts_13 : decode cX8_counts 13 = .ok (.iload_n 1, 1) := by decide +kernel
theorem dX8_counts_14 : decode cX8_counts 14 = .ok (.iload_n 2, 1) := by decide +kernel
theorem dX8_counts_15 : decode cX8_counts 15 = .ok (.iload_n 3, 1) := by decide +kernel
theorem dX8_counts_16 : decode cX8_counts 16 = .ok (.invokestatic 142, 3) := by decide +kernel
theorem dX8_counts_19 : decode cX8_counts 19 = .ok (.iaload, 1) := by decide +kernel
theorem dX8_counts_20 : decode cX8_counts 20 = .ok (.ireturn, 1) := by decide +kernel
theorem dX8_way_0 : decode cX8_way 0 = .ok (.iload_n 1, 1) := by decide +kernel
theorem dX8_way_1 : decode cX8_way 1 = .ok (.invokestatic 136, 3) := by decide +kernel
theorem dX8_way_4 : decode cX8_way 4 = .ok (.ifCond .eq 12, 3) := by decide +kernel
theorem dX8_way_7 : decode cX8_way 7 = .ok (.iload_n 2, 1) := by decide +kernel
theorem dX8_way_8 : decode cX8_way 8 = .ok (.iconst 0, 1) := by decide +kernel
theorem dX8_way_9 : decode cX8_way 9 = .ok (.iconst 1, 1) := by decide +kernel
theorem dX8_way_10 : decode cX8_way 10 = .ok (.invokestatic 111, 3) := by decide +kernel
theorem dX8_way_13 : decode cX8_way 13 = .ok (.ifCond .ne 10, 3) := by decide +kernel
theorem dX8_way_16 : decode cX8_way 16 = .ok (.aload_n 0, 1) := by decide +kernel
theorem dX8_way_17 : decode cX8_way 17 = .ok (.ldc 123, 2) := by decide +kernel
theorem dX8_way_19 : decode cX8_way 19 = .ok (.invokevirtual 124, 3) := by decide +kernel
theorem dX8_way_22 : decode cX8_way 22 = .ok (.ireturn, 1) := by decide +kernel
theorem dX8_way_23 : decode cX8_way 23 = .ok (.aload_n 0, 1) := by decide +kernel
theorem dX8_way_24 : decode cX8_way 24 = .ok (.getfield 28, 3) := by decide +kernel
theorem dX8_way_27 : decode cX8_way 27 = .ok (.iload_n 1, 1) := by decide +kernel
theorem dX8_way_28 : decode cX8_way 28 = .ok (.iaload, 1) := by decide +kernel
theorem dX8_way_29 : decode cX8_way 29 = .ok (.istore_n 3, 1) := by decide +kernel
theorem dX8_way_30 : decode cX8_way 30 = .ok (.aload_n 0, 1) := by decide +kernel
theorem dX8_way_31 : decode cX8_way 31 = .ok (.getfield 28, 3) := by decide +kernel
theorem dX8_way_34 : decode cX8_way 34 = .ok (.iload_n 1, 1) := by decide +kernel
theorem dX8_way_35 : decode cX8_way 35 = .ok (.iload_n 2, 1) := by decide +kernel
theorem dX8_way_36 : decode cX8_way 36 = .ok (.iastore, 1) := by decide +kernel
theorem dX8_way_37 : decode cX8_way 37 = .ok (.iload_n 3, 1) := by decide +kernel
theorem dX8_way_38 : decode cX8_way 38 = .ok (.ireturn, 1) := by decide +kernel
theorem dX8_rule_0 : decode cX8_rule 0 = .ok (.iload_n 1, 1) := by decide +kernel
theorem dX8_rule_1 : decode cX8_rule 1 = .ok (.ifCond .lt 61, 3) := by decide +kernel
theorem dX8_rule_4 : decode cX8_rule 4 = .ok (.iload_n 1, 1) := by decide +kernel
theorem dX8_rule_5 : decode cX8_rule 5 = .ok (.bipush 100, 2) := by decide +kernel
theorem dX8_rule_7 : decode cX8_rule 7 = .ok (.idiv, 1) := by decide +kernel
theorem dX8_rule_8 : decode cX8_rule 8 = .ok (.invokestatic 136, 3) := by decide +kernel
theorem dX8_rule_11 : decode cX8_rule 11 = .ok (.ifCond .eq 51, 3) := by decide +kernel
theorem dX8_rule_14 : decode cX8_rule 14 = .ok (.iload_n 1, 1) := by decide +kernel
theorem dX8_rule_15 : decode cX8_rule 15 = .ok (.bipush 100, 2) := by decide +kernel
theorem dX8_rule_17 : decode cX8_rule 17 = .ok (.irem, 1) := by decide +kernel
theorem dX8_rule_18 : decode cX8_rule 18 = .ok (.invokestatic 139, 3) := by decide +kernel
theorem dX8_rule_21 : decode cX8_rule 21 = .ok (.ifCond .eq 41, 3) := by decide +kernel
theorem dX8_rule_24 : decode cX8_rule 24 = .ok (.iload 5, 2) := by decide +kernel
theorem dX8_rule_26 : decode cX8_rule 26 = .ok (.ifCond .lt 36, 3) := by decide +kernel
theorem dX8_rule_29 : decode cX8_rule 29 = .ok (.iload 5, 2) := by decide +kernel
theorem dX8_rule_31 : decode cX8_rule 31 = .ok (.bipush 16, 2) := by decide +kernel
theorem dX8_rule_33 : decode cX8_rule 33 = .ok (.idiv, 1) := by decide +kernel
theorem dX8_rule_34 : decode cX8_rule 34 = .ok (.iconst 0, 1) := by decide +kernel
theorem dX8_rule_35 : decode cX8_rule 35 = .ok (.sipush 255, 3) := by decide +kernel
theorem dX8_rule_38 : decode cX8_rule 38 = .ok (.invokestatic 111, 3) := by decide +kernel
theorem dX8_rule_41 : decode cX8_rule 41 = .ok (.ifCond .eq 21, 3) := by decide +kernel
theorem dX8_rule_44 : decode cX8_rule 44 = .ok (.iload 5, 2) := by decide +kernel
theorem dX8_rule_46 : decode cX8_rule 46 = .ok (.bipush 16, 2) := by decide +kernel
theorem dX8_rule_48 : decode cX8_rule 48 = .ok (.irem, 1) := by decide +kernel
theorem dX8_rule_49 : decode cX8_rule 49 = .ok (.iconst 0, 1) := by decide +kernel
theorem dX8_rule_50 : decode cX8_rule 50 = .ok (.bipush 10, 2) := by decide +kernel
theorem dX8_rule_52 : decode cX8_rule 52 = .ok (.invokestatic 111, 3) := by decide +kernel
theorem dX8_rule_55 : decode cX8_rule 55 = .ok (.ifCond .eq 7, 3) := by decide +kernel
theorem dX8_rule_58 : decode cX8_rule 58 = .ok (.iconst 1, 1) := by decide +kernel
theorem dX8_rule_59 : decode cX8_rule 59 = .ok (.goto 4, 3) := by decide +kernel
theorem dX8_rule_62 : decode cX8_rule 62 = .ok (.iconst 0, 1) := by decide +kernel
theorem dX8_rule_63 : decode cX8_rule 63 = .ok (.istore 6, 2) := by decide +kernel
theorem dX8_rule_65 : decode cX8_rule 65 = .ok (.iload 6, 2) := by decide +kernel
theorem dX8_rule_67 : decode cX8_rule 67 = .ok (.ifCond .eq 33, 3) := by decide +kernel
theorem dX8_rule_70 : decode cX8_rule 70 = .ok (.iload_n 2, 1) := by decide +kernel
theorem dX8_rule_71 : decode cX8_rule 71 = .ok (.invokestatic 119, 3) := by decide +kernel
theorem dX8_rule_74 : decode cX8_rule 74 = .ok (.ifCond .eq 26, 3) := by decide +kernel
theorem dX8_rule_77 : decode cX8_rule 77 = .ok (.iload_n 3, 1) := by decide +kernel
theorem dX8_rule_78 : decode cX8_rule 78 = .ok (.iconst 0, 1) := by decide +kernel
theorem dX8_rule_79 : decode cX8_rule 79 = .ok (.sipush 4000, 3) := by decide +kernel
theorem dX8_rule_82 : decode cX8_rule 82 = .ok (.invokestatic 111, 3) := by decide +kernel
theorem dX8_rule_85 : decode cX8_rule 85 = .ok (.ifCond .eq 15, 3) := by decide +kernel
theorem dX8_rule_88 : decode cX8_rule 88 = .ok (.iload 4, 2) := by decide +kernel
theorem dX8_rule_90 : decode cX8_rule 90 = .ok (.iconst 0, 1) := by decide +kernel
theorem dX8_rule_91 : decode cX8_rule 91 = .ok (.sipush 20000, 3) := by decide +kernel
theorem dX8_rule_94 : decode cX8_rule 94 = .ok (.invokestatic 111, 3) := by decide +kernel
theorem dX8_rule_97 : decode cX8_rule 97 = .ok (.ifCond .ne 10, 3) := by decide +kernel
theorem dX8_rule_100 : decode cX8_rule 100 = .ok (.aload_n 0, 1) := by decide +kernel
theorem dX8_rule_101 : decode cX8_rule 101 = .ok (.ldc 123, 2) := by decide +kernel
theorem dX8_rule_103 : decode cX8_rule 103 = .ok (.invokevirtual 124, 3) := by decide +kernel
theorem dX8_rule_106 : decode cX8_rule 106 = .ok (.ireturn, 1) := by decide +kernel
theorem dX8_rule_107 : decode cX8_rule 107 = .ok (.aload_n 0, 1) := by decide +kernel
theorem dX8_rule_108 : decode cX8_rule 108 = .ok (.getfield 146, 3) := by decide +kernel
theorem dX8_rule_111 : decode cX8_rule 111 = .ok (.bipush 40, 2) := by decide +kernel
theorem dX8_rule_113 : decode cX8_rule 113 = .ok (.if_icmp .ne 10, 3) := by decide +kernel
theorem dX8_rule_116 : decode cX8_rule 116 = .ok (.aload_n 0, 1) := by decide +kernel
theorem dX8_rule_117 : decode cX8_rule 117 = .ok (.ldc 131, 2) := by decide +kernel
theorem dX8_rule_119 : decode cX8_rule 119 = .ok (.invokevirtual 124, 3) := by decide +kernel
theorem dX8_rule_122 : decode cX8_rule 122 = .ok (.ireturn, 1) := by decide +kernel
theorem dX8_rule_123 : decode cX8_rule 123 = .ok (.aload_n 0, 1) := by decide +kernel
theorem dX8_rule_124 : decode cX8_rule 124 = .ok (.getfield 31, 3) := by decide +kernel
theorem dX8_rule_127 : decode cX8_rule 127 = .ok (.aload_n 0, 1) := by decide +kernel
theorem dX8_rule_128 : decode cX8_rule 128 = .ok (.getfield 146, 3) := by decide +kernel
theorem dX8_rule_131 : decode cX8_rule 131 = .ok (.iload_n 1, 1) := by decide +kernel
theorem dX8_rule_132 : decode cX8_rule 132 = .ok (.iastore, 1) := by decide +kernel
theorem dX8_rule_133 : decode cX8_rule 133 = .ok (.aload_n 0, 1) := by decide +kernel
theorem dX8_rule_134 : decode cX8_rule 134 = .ok (.getfield 34, 3) := by decide +kernel
theorem dX8_rule_137 : decode cX8_rule 137 = .ok (.aload_n 0, 1) := by decide +kernel
theorem dX8_rule_138 : decode cX8_rule 138 = .ok (.getfield 146, 3) := by decide +kernel
theorem dX8_rule_141 : decode cX8_rule 141 = .ok (.iload_n 2, 1) := by decide +kernel
theorem dX8_rule_142 : decode cX8_rule 142 = .ok (.iastore, 1) := by decide +kernel
theorem dX8_rule_143 : decode cX8_rule 143 = .ok (.aload_n 0, 1) := by decide +kernel
theorem dX8_rule_144 : decode cX8_rule 144 = .ok (.getfield 37, 3) := by decide +kernel
theorem dX8_rule_147 : decode cX8_rule 147 = .ok (.aload_n 0, 1) := by decide +kernel
theorem dX8_rule_148 : decode cX8_rule 148 = .ok (.getfield 146, 3) := by decide +kernel
theorem dX8_rule_151 : decode cX8_rule 151 = .ok (.iload_n 3, 1) := by decide +kernel
theorem dX8_rule_152 : decode cX8_rule 152 = .ok (.iastore, 1) := by decide +kernel
theorem dX8_rule_153 : decode cX8_rule 153 = .ok (.aload_n 0, 1) := by decide +kernel
theorem dX8_rule_154 : decode cX8_rule 154 = .ok (.getfield 40, 3) := by decide +kernel
theorem dX8_rule_157 : decode cX8_rule 157 = .ok (.aload_n 0, 1) := by decide +kernel
theorem dX8_rule_158 : decode cX8_rule 158 = .ok (.getfield 146, 3) := by decide +kernel
theorem dX8_rule_161 : decode cX8_rule 161 = .ok (.iload 4, 2) := by decide +kernel
theorem dX8_rule_163 : decode cX8_rule 163 = .ok (.iastore, 1) := by decide +kernel
theorem dX8_rule_164 : decode cX8_rule 164 = .ok (.aload_n 0, 1) := by decide +kernel
theorem dX8_rule_165 : decode cX8_rule 165 = .ok (.getfield 43, 3) := by decide +kernel
theorem dX8_rule_168 : decode cX8_rule 168 = .ok (.aload_n 0, 1) := by decide +kernel
theorem dX8_rule_169 : decode cX8_rule 169 = .ok (.getfield 146, 3) := by decide +kernel
theorem dX8_rule_172 : decode cX8_rule 172 = .ok (.iload 5, 2) := by decide +kernel
theorem dX8_rule_174 : decode cX8_rule 174 = .ok (.bipush 16, 2) := by decide +kernel
theorem dX8_rule_176 : decode cX8_rule 176 = .ok (.idiv, 1) := by decide +kernel
theorem dX8_rule_177 : decode cX8_rule 177 = .ok (.iastore, 1) := by decide +kernel
theorem dX8_rule_178 : decode cX8_rule 178 = .ok (.aload_n 0, 1) := by decide +kernel
theorem dX8_rule_179 : decode cX8_rule 179 = .ok (.getfield 46, 3) := by decide +kernel
theorem dX8_rule_182 : decode cX8_rule 182 = .ok (.aload_n 0, 1) := by decide +kernel
theorem dX8_rule_183 : decode cX8_rule 183 = .ok (.getfield 146, 3) := by decide +kernel
theorem dX8_rule_186 : decode cX8_rule 186 = .ok (.iload 5, 2) := by decide +kernel
theorem dX8_rule_188 : decode cX8_rule 188 = .ok (.bipush 16, 2) := by decide +kernel
theorem dX8_rule_190 : decode cX8_rule 190 = .ok (.irem, 1) := by decide +kernel
theorem dX8_rule_191 : decode cX8_rule 191 = .ok (.iastore, 1) := by decide +kernel
theorem dX8_rule_192 : decode cX8_rule 192 = .ok (.aload_n 0, 1) := by decide +kernel
theorem dX8_rule_193 : decode cX8_rule 193 = .ok (.dup, 1) := by decide +kernel
theorem dX8_rule_194 : decode cX8_rule 194 = .ok (.getfield 146, 3) := by decide +kernel
theorem dX8_rule_197 : decode cX8_rule 197 = .ok (.iconst 1, 1) := by decide +kernel
theorem dX8_rule_198 : decode cX8_rule 198 = .ok (.iadd, 1) := by decide +kernel
theorem dX8_rule_199 : decode cX8_rule 199 = .ok (.putfield 146, 3) := by decide +kernel
theorem dX8_rule_202 : decode cX8_rule 202 = .ok (.aload_n 0, 1) := by decide +kernel
theorem dX8_rule_203 : decode cX8_rule 203 = .ok (.getfield 146, 3) := by decide +kernel
theorem dX8_rule_206 : decode cX8_rule 206 = .ok (.ireturn, 1) := by decide +kernel
theorem dX8_ruleOf_0 : decode cX8_ruleOf 0 = .ok (.iconst (-1), 1) := by decide +kernel
theorem dX8_ruleOf_1 : decode cX8_ruleOf 1 = .ok (.istore 4, 2) := by decide +kernel
theorem dX8_ruleOf_3 : decode cX8_ruleOf 3 = .ok (.iconst 0, 1) := by decide +kernel
theorem dX8_ruleOf_4 : decode cX8_ruleOf 4 = .ok (.istore 5, 2) := by decide +kernel
theorem dX8_ruleOf_6 : decode cX8_ruleOf 6 = .ok (.iload 5, 2) := by decide +kernel
theorem dX8_ruleOf_8 : decode cX8_ruleOf 8 = .ok (.aload_n 0, 1) := by decide +kernel
theorem dX8_ruleOf_9 : decode cX8_ruleOf 9 = .ok (.getfield 146, 3) := by decide +kernel
theorem dX8_ruleOf_12 : decode cX8_ruleOf 12 = .ok (.if_icmp .ge 79, 3) := by decide +kernel
theorem dX8_ruleOf_15 : decode cX8_ruleOf 15 = .ok (.aload_n 0, 1) := by decide +kernel
theorem dX8_ruleOf_16 : decode cX8_ruleOf 16 = .ok (.getfield 31, 3) := by decide +kernel
theorem dX8_ruleOf_19 : decode cX8_ruleOf 19 = .ok (.iload 5, 2) := by decide +kernel
theorem dX8_ruleOf_21 : decode cX8_ruleOf 21 = .ok (.iaload, 1) := by decide +kernel
theorem dX8_ruleOf_22 : decode cX8_ruleOf 22 = .ok (.bipush 100, 2) := by decide +kernel
theorem dX8_ruleOf_24 : decode cX8_ruleOf 24 = .ok (.iload_n 1, 1) := by decide +kernel
theorem dX8_ruleOf_25 : decode cX8_ruleOf 25 = .ok (.imul, 1) := by decide +kernel
theorem dX8_ruleOf_26 : decode cX8_ruleOf 26 = .ok (.iload_n 2, 1) := by decide +kernel
theorem dX8_ruleOf_27 : decode cX8_ruleOf 27 = .ok (.iadd, 1) := by decide +kernel
theorem dX8_ruleOf_28 : decode cX8_ruleOf 28 = .ok (.if_icmp .ne 18, 3) := by decide +kernel
theorem dX8_ruleOf_31 : decode cX8_ruleOf 31 = .ok (.aload_n 0, 1) := by decide +kernel
theorem dX8_ruleOf_32 : decode cX8_ruleOf 32 = .ok (.getfield 34, 3) := by decide +kernel
theorem dX8_ruleOf_35 : decode cX8_ruleOf 35 = .ok (.iload 5, 2) := by decide +kernel
theorem dX8_ruleOf_37 : decode cX8_ruleOf 37 = .ok (.iaload, 1) := by decide +kernel
theorem dX8_ruleOf_38 : decode cX8_ruleOf 38 = .ok (.iload_n 3, 1) := by decide +kernel
theorem dX8_ruleOf_39 : decode cX8_ruleOf 39 = .ok (.if_icmp .gt 7, 3) := by decide +kernel
theorem dX8_ruleOf_42 : decode cX8_ruleOf 42 = .ok (.iconst 1, 1) := by decide +kernel
theorem dX8_ruleOf_43 : decode cX8_ruleOf 43 = .ok (.goto 4, 3) := by decide +kernel
theorem dX8_ruleOf_46 : decode cX8_ruleOf 46 = .ok (.iconst 0, 1) := by decide +kernel
theorem dX8_ruleOf_47 : decode cX8_ruleOf 47 = .ok (.istore 6, 2) := by decide +kernel
theorem dX8_ruleOf_49 : decode cX8_ruleOf 49 = .ok (.iload 6, 2) := by decide +kernel
theorem dX8_ruleOf_51 : decode cX8_ruleOf 51 = .ok (.ifCond .eq 30, 3) := by decide +kernel
theorem dX8_ruleOf_54 : decode cX8_ruleOf 54 = .ok (.iload 4, 2) := by decide +kernel
theorem dX8_ruleOf_56 : decode cX8_ruleOf 56 = .ok (.ifCond .lt 20, 3) := by decide +kernel
theorem dX8_ruleOf_59 : decode cX8_ruleOf 59 = .ok (.aload_n 0, 1) := by decide +kernel
theorem dX8_ruleOf_60 : decode cX8_ruleOf 60 = .ok (.getfield 34, 3) := by decide +kernel
theorem dX8_ruleOf_63 : decode cX8_ruleOf 63 = .ok (.iload 5, 2) := by decide +kernel
theorem dX8_ruleOf_65 : decode cX8_ruleOf 65 = .ok (.iaload, 1) := by decide +kernel
theorem dX8_ruleOf_66 : decode cX8_ruleOf 66 = .ok (.aload_n 0, 1) := by decide +kernel
theorem dX8_ruleOf_67 : decode cX8_ruleOf 67 = .ok (.getfield 34, 3) := by decide +kernel
theorem dX8_ruleOf_70 : decode cX8_ruleOf 70 = .ok (.iload 4, 2) := by decide +kernel
theorem dX8_ruleOf_72 : decode cX8_ruleOf 72 = .ok (.iaload, 1) := by decide +kernel
theorem dX8_ruleOf_73 : decode cX8_ruleOf 73 = .ok (.if_icmp .lt 8, 3) := by decide +kernel
theorem dX8_ruleOf_76 : decode cX8_ruleOf 76 = .ok (.iload 5, 2) := by decide +kernel
theorem dX8_ruleOf_78 : decode cX8_ruleOf 78 = .ok (.goto 5, 3) := by decide +kernel
theorem dX8_ruleOf_81 : decode cX8_ruleOf 81 = .ok (.iload 4, 2) := by decide +kernel
theorem dX8_ruleOf_83 : decode cX8_ruleOf 83 = .ok (.istore 4, 2) := by decide +kernel
theorem dX8_ruleOf_85 : decode cX8_ruleOf 85 = .ok (.iinc 5 1, 3) := by decide +kernel
theorem dX8_ruleOf_88 : decode cX8_ruleOf 88 = .ok (.goto (-82), 3) := by decide +kernel
theorem dX8_ruleOf_91 : decode cX8_ruleOf 91 = .ok (.iload 4, 2) := by decide +kernel
theorem dX8_ruleOf_93 : decode cX8_ruleOf 93 = .ok (.ireturn, 1) := by decide +kernel
theorem dX8_force_0 : decode cX8_force 0 = .ok (.iload_n 1, 1) := by decide +kernel
theorem dX8_force_1 : decode cX8_force 1 = .ok (.invokestatic 136, 3) := by decide +kernel
theorem dX8_force_4 : decode cX8_force 4 = .ok (.ifCond .eq 17, 3) := by decide +kernel
theorem dX8_force_7 : decode cX8_force 7 = .ok (.iload_n 2, 1) := by decide +kernel
theorem dX8_force_8 : decode cX8_force 8 = .ok (.invokestatic 139, 3) := by decide +kernel
theorem dX8_force_11 : decode cX8_force 11 = .ok (.ifCond .eq 10, 3) := by decide +kernel
theorem dX8_force_14 : decode cX8_force 14 = .ok (.iload_n 3, 1) := by decide +kernel
theorem dX8_force_15 : decode cX8_force 15 = .ok (.invokestatic 119, 3) := by decide +kernel
theorem dX8_force_18 : decode cX8_force 18 = .ok (.ifCond .ne 10, 3) := by decide +kernel
theorem dX8_force_21 : decode cX8_force 21 = .ok (.aload_n 0, 1) := by decide +kernel
theorem dX8_force_22 : decode cX8_force 22 = .ok (.ldc 123, 2) := by decide +kernel
theorem dX8_force_24 : decode cX8_force 24 = .ok (.invokevirtual 124, 3) := by decide +kernel
theorem dX8_force_27 : decode cX8_force 27 = .ok (.ireturn, 1) := by decide +kernel
theorem dX8_force_28 : decode cX8_force 28 = .ok (.aload_n 0, 1) := by decide +kernel
theorem dX8_force_29 : decode cX8_force 29 = .ok (.iload_n 1, 1) := by decide +kernel
theorem dX8_force_30 : decode cX8_force 30 = .ok (.iload_n 2, 1) := by decide +kernel
theorem dX8_force_31 : decode cX8_force 31 = .ok (.iload_n 3, 1) := by decide +kernel
theorem dX8_force_32 : decode cX8_force 32 = .ok (.invokevirtual 149, 3) := by decide +kernel
theorem dX8_force_35 : decode cX8_force 35 = .ok (.istore 4, 2) := by decide +kernel
theorem dX8_force_37 : decode cX8_force 37 = .ok (.iload 4, 2) := by decide +kernel
theorem dX8_force_39 : decode cX8_force 39 = .ok (.ifCond .ge 12, 3) := by decide +kernel
theorem dX8_force_42 : decode cX8_force 42 = .ok (.aload_n 0, 1) := by decide +kernel
theorem dX8_force_43 : decode cX8_force 43 = .ok (.ldc 152, 2) := by decide +kernel
theorem dX8_force_45 : decode cX8_force 45 = .ok (.invokevirtual 124, 3) := by decide +kernel
theorem dX8_force_48 : decode cX8_force 48 = .ok (.goto 5, 3) := by decide +kernel
theorem dX8_force_51 : decode cX8_force 51 = .ok (.iload 4, 2) := by decide +kernel
theorem dX8_force_53 : decode cX8_force 53 = .ok (.ireturn, 1) := by decide +kernel
theorem dX8_isStruck_0 : decode cX8_isStruck 0 = .ok (.iconst 0, 1) := by decide +kernel
theorem dX8_isStruck_1 : decode cX8_isStruck 1 = .ok (.istore 4, 2) := by decide +kernel
theorem dX8_isStruck_3 : decode cX8_isStruck 3 = .ok (.iconst 0, 1) := by decide +kernel
theorem dX8_isStruck_4 : decode cX8_isStruck 4 = .ok (.istore 5, 2) := by decide +kernel
theorem dX8_isStruck_6 : decode cX8_isStruck 6 = .ok (.iload 5, 2) := by decide +kernel
theorem dX8_isStruck_8 : decode cX8_isStruck 8 = .ok (.aload_n 0, 1) := by decide +kernel
theorem dX8_isStruck_9 : decode cX8_isStruck 9 = .ok (.getfield 153, 3) := by decide +kernel
theorem dX8_isStruck_12 : decode cX8_isStruck 12 = .ok (.if_icmp .ge 54, 3) := by decide +kernel
theorem dX8_isStruck_15 : decode cX8_isStruck 15 = .ok (.iload 4, 2) := by decide +kernel
theorem dX8_isStruck_17 : decode cX8_isStruck 17 = .ok (.ifCond .ne 36, 3) := by decide +kernel
theorem dX8_isStruck_20 : decode cX8_isStruck 20 = .ok (.aload_n 0, 1) := by decide +kernel
theorem dX8_isStruck_21 : decode cX8_isStruck 21 = .ok (.getfield 64, 3) := by decide +kernel
theorem dX8_isStruck_24 : decode cX8_isStruck 24 = .ok (.iload 5, 2) := by decide +kernel
theorem dX8_isStruck_26 : decode cX8_isStruck 26 = .ok (.iaload, 1) := by decide +kernel
theorem dX8_isStruck_27 : decode cX8_isStruck 27 = .ok (.iload_n 1, 1) := by decide +kernel
theorem dX8_isStruck_28 : decode cX8_isStruck 28 = .ok (.if_icmp .ne 29, 3) := by decide +kernel
theorem dX8_isStruck_31 : decode cX8_isStruck 31 = .ok (.aload_n 0, 1) := by decide +kernel
theorem dX8_isStruck_32 : decode cX8_isStruck 32 = .ok (.getfield 67, 3) := by decide +kernel
theorem dX8_isStruck_35 : decode cX8_isStruck 35 = .ok (.iload 5, 2) := by decide +kernel
theorem dX8_isStruck_37 : decode cX8_isStruck 37 = .ok (.iaload, 1) := by decide +kernel
theorem dX8_isStruck_38 : decode cX8_isStruck 38 = .ok (.iload_n 2, 1) := by decide +kernel
theorem dX8_isStruck_39 : decode cX8_isStruck 39 = .ok (.if_icmp .gt 18, 3) := by decide +kernel
theorem dX8_isStruck_42 : decode cX8_isStruck 42 = .ok (.aload_n 0, 1) := by decide +kernel
theorem dX8_isStruck_43 : decode cX8_isStruck 43 = .ok (.getfield 70, 3) := by decide +kernel
theorem dX8_isStruck_46 : decode cX8_isStruck 46 = .ok (.iload 5, 2) := by decide +kernel
theorem dX8_isStruck_48 : decode cX8_isStruck 48 = .ok (.iaload, 1) := by decide +kernel
theorem dX8_isStruck_49 : decode cX8_isStruck 49 = .ok (.iload_n 3, 1) := by decide +kernel
theorem dX8_isStruck_50 : decode cX8_isStruck 50 = .ok (.if_icmp .gt 7, 3) := by decide +kernel
theorem dX8_isStruck_53 : decode cX8_isStruck 53 = .ok (.iconst 1, 1) := by decide +kernel
theorem dX8_isStruck_54 : decode cX8_isStruck 54 = .ok (.goto 4, 3) := by decide +kernel
theorem dX8_isStruck_57 : decode cX8_isStruck 57 = .ok (.iconst 0, 1) := by decide +kernel
theorem dX8_isStruck_58 : decode cX8_isStruck 58 = .ok (.istore 4, 2) := by decide +kernel
theorem dX8_isStruck_60 : decode cX8_isStruck 60 = .ok (.iinc 5 1, 3) := by decide +kernel
theorem dX8_isStruck_63 : decode cX8_isStruck 63 = .ok (.goto (-57), 3) := by decide +kernel
theorem dX8_isStruck_66 : decode cX8_isStruck 66 = .ok (.iload 4, 2) := by decide +kernel
theorem dX8_isStruck_68 : decode cX8_isStruck 68 = .ok (.ireturn, 1) := by decide +kernel
theorem dX8_falls_0 : decode cX8_falls 0 = .ok (.iconst 0, 1) := by decide +kernel
theorem dX8_falls_1 : decode cX8_falls 1 = .ok (.istore_n 3, 1) := by decide +kernel
theorem dX8_falls_2 : decode cX8_falls 2 = .ok (.iconst 0, 1) := by decide +kernel
theorem dX8_falls_3 : decode cX8_falls 3 = .ok (.istore 4, 2) := by decide +kernel
theorem dX8_falls_5 : decode cX8_falls 5 = .ok (.iload 4, 2) := by decide +kernel
theorem dX8_falls_7 : decode cX8_falls 7 = .ok (.aload_n 0, 1) := by decide +kernel
theorem dX8_falls_8 : decode cX8_falls 8 = .ok (.getfield 115, 3) := by decide +kernel
theorem dX8_falls_11 : decode cX8_falls 11 = .ok (.if_icmp .ge 50, 3) := by decide +kernel
theorem dX8_falls_14 : decode cX8_falls 14 = .ok (.iload_n 3, 1) := by decide +kernel
theorem dX8_falls_15 : decode cX8_falls 15 = .ok (.ifCond .ne 34, 3) := by decide +kernel
theorem dX8_falls_18 : decode cX8_falls 18 = .ok (.aload_n 0, 1) := by decide +kernel
theorem dX8_falls_19 : decode cX8_falls 19 = .ok (.getfield 61, 3) := by decide +kernel
theorem dX8_falls_22 : decode cX8_falls 22 = .ok (.iload_n 1, 1) := by decide +kernel
theorem dX8_falls_23 : decode cX8_falls 23 = .ok (.iaload, 1) := by decide +kernel
theorem dX8_falls_24 : decode cX8_falls 24 = .ok (.iload 4, 2) := by decide +kernel
theorem dX8_falls_26 : decode cX8_falls 26 = .ok (.ishr, 1) := by decide +kernel
theorem dX8_falls_27 : decode cX8_falls 27 = .ok (.iconst 1, 1) := by decide +kernel
theorem dX8_falls_28 : decode cX8_falls 28 = .ok (.iand, 1) := by decide +kernel
theorem dX8_falls_29 : decode cX8_falls 29 = .ok (.iconst 1, 1) := by decide +kernel
theorem dX8_falls_30 : decode cX8_falls 30 = .ok (.if_icmp .ne 23, 3) := by decide +kernel
theorem dX8_falls_33 : decode cX8_falls 33 = .ok (.aload_n 0, 1) := by decide +kernel
theorem dX8_falls_34 : decode cX8_falls 34 = .ok (.iload 4, 2) := by decide +kernel
theorem dX8_falls_36 : decode cX8_falls 36 = .ok (.aload_n 0, 1) := by decide +kernel
theorem dX8_falls_37 : decode cX8_falls 37 = .ok (.getfield 58, 3) := by decide +kernel
theorem dX8_falls_40 : decode cX8_falls 40 = .ok (.iload_n 1, 1) := by decide +kernel
theorem dX8_falls_41 : decode cX8_falls 41 = .ok (.iaload, 1) := by decide +kernel
theorem dX8_falls_42 : decode cX8_falls 42 = .ok (.iload_n 2, 1) := by decide +kernel
theorem dX8_falls_43 : decode cX8_falls 43 = .ok (.invokevirtual 156, 3) := by decide +kernel
theorem dX8_falls_46 : decode cX8_falls 46 = .ok (.ifCond .eq 7, 3) := by decide +kernel
theorem dX8_falls_49 : decode cX8_falls 49 = .ok (.iconst 1, 1) := by decide +kernel
theorem dX8_falls_50 : decode cX8_falls 50 = .ok (.goto 4, 3) := by decide +kernel
theorem dX8_falls_53 : decode cX8_falls 53 = .ok (.iconst 0, 1) := by decide +kernel
theorem dX8_falls_54 : decode cX8_falls 54 = .ok (.istore_n 3, 1) := by decide +kernel
theorem dX8_falls_55 : decode cX8_falls 55 = .ok (.iinc 4 1, 3) := by decide +kernel
theorem dX8_falls_58 : decode cX8_falls 58 = .ok (.goto (-53), 3) := by decide +kernel
theorem dX8_falls_61 : decode cX8_falls 61 = .ok (.iload_n 3, 1) := by decide +kernel
theorem dX8_falls_62 : decode cX8_falls 62 = .ok (.ifCond .eq 22, 3) := by decide +kernel
theorem dX8_falls_65 : decode cX8_falls 65 = .ok (.aload_n 0, 1) := by decide +kernel
theorem dX8_falls_66 : decode cX8_falls 66 = .ok (.getfield 28, 3) := by decide +kernel
theorem dX8_falls_69 : decode cX8_falls 69 = .ok (.aload_n 0, 1) := by decide +kernel
theorem dX8_falls_70 : decode cX8_falls 70 = .ok (.getfield 52, 3) := by decide +kernel
theorem dX8_falls_73 : decode cX8_falls 73 = .ok (.iload_n 1, 1) := by decide +kernel
theorem dX8_falls_74 : decode cX8_falls 74 = .ok (.iaload, 1) := by decide +kernel
theorem dX8_falls_75 : decode cX8_falls 75 = .ok (.iaload, 1) := by decide +kernel
theorem dX8_falls_76 : decode cX8_falls 76 = .ok (.iconst 1, 1) := by decide +kernel
theorem dX8_falls_77 : decode cX8_falls 77 = .ok (.if_icmp .ne 7, 3) := by decide +kernel
theorem dX8_falls_80 : decode cX8_falls 80 = .ok (.iconst 1, 1) := by decide +kernel
theorem dX8_falls_81 : decode cX8_falls 81 = .ok (.goto 4, 3) := by decide +kernel
theorem dX8_falls_84 : decode cX8_falls 84 = .ok (.iconst 0, 1) := by decide +kernel
theorem dX8_falls_85 : decode cX8_falls 85 = .ok (.ireturn, 1) := by decide +kernel
theorem dX8_findStanding_0 : decode cX8_findStanding 0 = .ok (.iconst 0, 1) := by decide +kernel
theorem dX8_findStanding_1 : decode cX8_findStanding 1 = .ok (.istore_n 2, 1) := by decide +kernel
theorem dX8_findStanding_2 : decode cX8_findStanding 2 = .ok (.iload_n 2, 1) := by decide +kernel
theorem dX8_findStanding_3 : decode cX8_findStanding 3 = .ok (.aload_n 0, 1) := by decide +kernel
theorem dX8_findStanding_4 : decode cX8_findStanding 4 = .ok (.getfield 159, 3) := by decide +kernel
theorem dX8_findStanding_7 : decode cX8_findStanding 7 = .ok (.if_icmp .ge 123, 3) := by decide +kernel
theorem dX8_findStanding_10 : decode cX8_findStanding 10 = .ok (.iconst 0, 1) := by decide +kernel
theorem dX8_findStanding_11 : decode cX8_findStanding 11 = .ok (.istore_n 3, 1) := by decide +kernel
theorem dX8_findStanding_12 : decode cX8_findStanding 12 = .ok (.iconst 0, 1) := by decide +kernel
theorem dX8_findStanding_13 : decode cX8_findStanding 13 = .ok (.istore 4, 2) := by decide +kernel
theorem dX8_findStanding_15 : decode cX8_findStanding 15 = .ok (.iload 4, 2) := by decide +kernel
theorem dX8_findStanding_17 : decode cX8_findStanding 17 = .ok (.iload_n 2, 1) := by decide +kernel
theorem dX8_findStanding_18 : decode cX8_findStanding 18 = .ok (.if_icmp .ge 64, 3) := by decide +kernel
theorem dX8_findStanding_21 : decode cX8_findStanding 21 = .ok (.aload_n 0, 1) := by decide +kernel
theorem dX8_findStanding_22 : decode cX8_findStanding 22 = .ok (.getfield 94, 3) := by decide +kernel
theorem dX8_findStanding_25 : decode cX8_findStanding 25 = .ok (.iload 4, 2) := by decide +kernel
theorem dX8_findStanding_27 : decode cX8_findStanding 27 = .ok (.baload, 1) := by decide +kernel
theorem dX8_findStanding_28 : decode cX8_findStanding 28 = .ok (.ifCond .eq 48, 3) := by decide +kernel
theorem dX8_findStanding_31 : decode cX8_findStanding 31 = .ok (.aload_n 0, 1) := by decide +kernel
theorem dX8_findStanding_32 : decode cX8_findStanding 32 = .ok (.getfield 49, 3) := by decide +kernel
theorem dX8_findStanding_35 : decode cX8_findStanding 35 = .ok (.iload 4, 2) := by decide +kernel
theorem dX8_findStanding_37 : decode cX8_findStanding 37 = .ok (.iaload, 1) := by decide +kernel
theorem dX8_findStanding_38 : decode cX8_findStanding 38 = .ok (.aload_n 0, 1) := by decide +kernel
theorem dX8_findStanding_39 : decode cX8_findStanding 39 = .ok (.getfield 49, 3) := by decide +kernel
theorem dX8_findStanding_42 : decode cX8_findStanding 42 = .ok (.iload_n 2, 1) := by decide +kernel
theorem dX8_findStanding_43 : decode cX8_findStanding 43 = .ok (.iaload, 1) := by decide +kernel
theorem dX8_findStanding_44 : decode cX8_findStanding 44 = .ok (.if_icmp .ne 32, 3) := by decide +kernel
theorem dX8_findStanding_47 : decode cX8_findStanding 47 = .ok (.iload_n 3, 1) := by decide +kernel
theorem dX8_findStanding_48 : decode cX8_findStanding 48 = .ok (.aload_n 0, 1) := by decide +kernel
theorem dX8_findStanding_49 : decode cX8_findStanding 49 = .ok (.aload_n 0, 1) := by decide +kernel
theorem dX8_findStanding_50 : decode cX8_findStanding 50 = .ok (.getfield 52, 3) := by decide +kernel
theorem dX8_findStanding_53 : decode cX8_findStanding 53 = .ok (.iload_n 2, 1) := by decide +kernel
theorem dX8_findStanding_54 : decode cX8_findStanding 54 = .ok (.iaload, 1) := by decide +kernel
theorem dX8_findStanding_55 : decode cX8_findStanding 55 = .ok (.aload_n 0, 1) := by decide +kernel
theorem dX8_findStanding_56 : decode cX8_findStanding 56 = .ok (.getfield 52, 3) := by decide +kernel
theorem dX8_findStanding_59 : decode cX8_findStanding 59 = .ok (.iload 4, 2) := by decide +kernel
theorem dX8_findStanding_61 : decode cX8_findStanding 61 = .ok (.iaload, 1) := by decide +kernel
theorem dX8_findStanding_62 : decode cX8_findStanding 62 = .ok (.aload_n 0, 1) := by decide +kernel
theorem dX8_findStanding_63 : decode cX8_findStanding 63 = .ok (.getfield 55, 3) := by decide +kernel
theorem dX8_findStanding_66 : decode cX8_findStanding 66 = .ok (.iload 4, 2) := by decide +kernel
theorem dX8_findStanding_68 : decode cX8_findStanding 68 = .ok (.iaload, 1) := by decide +kernel
theorem dX8_findStanding_69 : decode cX8_findStanding 69 = .ok (.invokevirtual 162, 3) := by decide +kernel
theorem dX8_findStanding_72 : decode cX8_findStanding 72 = .ok (.invokestatic 165, 3) := by decide +kernel
theorem dX8_findStanding_75 : decode cX8_findStanding 75 = .ok (.istore_n 3, 1) := by decide +kernel
theorem dX8_findStanding_76 : decode cX8_findStanding 76 = .ok (.iinc 4 1, 3) := by decide +kernel
theorem dX8_findStanding_79 : decode cX8_findStanding 79 = .ok (.goto (-64), 3) := by decide +kernel
theorem dX8_findStanding_82 : decode cX8_findStanding 82 = .ok (.aload_n 0, 1) := by decide +kernel
theorem dX8_findStanding_83 : decode cX8_findStanding 83 = .ok (.getfield 94, 3) := by decide +kernel
theorem dX8_findStanding_86 : decode cX8_findStanding 86 = .ok (.iload_n 2, 1) := by decide +kernel
theorem dX8_findStanding_87 : decode cX8_findStanding 87 = .ok (.aload_n 0, 1) := by decide +kernel
theorem dX8_findStanding_88 : decode cX8_findStanding 88 = .ok (.iload_n 2, 1) := by decide +kernel
theorem dX8_findStanding_89 : decode cX8_findStanding 89 = .ok (.iload_n 1, 1) := by decide +kernel
theorem dX8_findStanding_90 : decode cX8_findStanding 90 = .ok (.invokevirtual 171, 3) := by decide +kernel
theorem dX8_findStanding_93 : decode cX8_findStanding 93 = .ok (.ifCond .ne 29, 3) := by decide +kernel
theorem dX8_findStanding_96 : decode cX8_findStanding 96 = .ok (.aload_n 0, 1) := by decide +kernel
theorem dX8_findStanding_97 : decode cX8_findStanding 97 = .ok (.getfield 55, 3) := by decide +kernel
theorem dX8_findStanding_100 : decode cX8_findStanding 100 = .ok (.iload_n 2, 1) := by decide +kernel
theorem dX8_findStanding_101 : decode cX8_findStanding 101 = .ok (.iaload, 1) := by decide +kernel
theorem dX8_findStanding_102 : decode cX8_findStanding 102 = .ok (.iconst 1, 1) := by decide +kernel
theorem dX8_findStanding_103 : decode cX8_findStanding 103 = .ok (.if_icmp .eq 15, 3) := by decide +kernel
theorem dX8_findStanding_106 : decode cX8_findStanding 106 = .ok (.iload_n 3, 1) := by decide +kernel
theorem dX8_findStanding_107 : decode cX8_findStanding 107 = .ok (.aload_n 0, 1) := by decide +kernel
theorem dX8_findStanding_108 : decode cX8_findStanding 108 = .ok (.getfield 55, 3) := by decide +kernel
theorem dX8_findStanding_111 : decode cX8_findStanding 111 = .ok (.iload_n 2, 1) := by decide +kernel
theorem dX8_findStanding_112 : decode cX8_findStanding 112 = .ok (.iaload, 1) := by decide +kernel
theorem dX8_findStanding_113 : decode cX8_findStanding 113 = .ok (.iconst 1, 1) := by decide +kernel
theorem dX8_findStanding_114 : decode cX8_findStanding 114 = .ok (.isub, 1) := by decide +kernel
theorem dX8_findStanding_115 : decode cX8_findStanding 115 = .ok (.if_icmp .lt 7, 3) := by decide +kernel
theorem dX8_findStanding_118 : decode cX8_findStanding 118 = .ok (.iconst 1, 1) := by decide +kernel
theorem dX8_findStanding_119 : decode cX8_findStanding 119 = .ok (.goto 4, 3) := by decide +kernel
theorem dX8_findStanding_122 : decode cX8_findStanding 122 = .ok (.iconst 0, 1) := by decide +kernel
theorem dX8_findStanding_123 : decode cX8_findStanding 123 = .ok (.bastore, 1) := by decide +kernel
theorem dX8_findStanding_124 : decode cX8_findStanding 124 = .ok (.iinc 2 1, 3) := by decide +kernel
theorem dX8_findStanding_127 : decode cX8_findStanding 127 = .ok (.goto (-125), 3) := by decide +kernel
theorem dX8_findStanding_130 : decode cX8_findStanding 130 = .ok (.return_, 1) := by decide +kernel
theorem dX8_hasOf_0 : decode cX8_hasOf 0 = .ok (.iconst 0, 1) := by decide +kernel
theorem dX8_hasOf_1 : decode cX8_hasOf 1 = .ok (.istore 4, 2) := by decide +kernel
theorem dX8_hasOf_3 : decode cX8_hasOf 3 = .ok (.iconst 0, 1) := by decide +kernel
theorem dX8_hasOf_4 : decode cX8_hasOf 4 = .ok (.istore 5, 2) := by decide +kernel
theorem dX8_hasOf_6 : decode cX8_hasOf 6 = .ok (.iload 5, 2) := by decide +kernel
theorem dX8_hasOf_8 : decode cX8_hasOf 8 = .ok (.aload_n 0, 1) := by decide +kernel
theorem dX8_hasOf_9 : decode cX8_hasOf 9 = .ok (.getfield 159, 3) := by decide +kernel
theorem dX8_hasOf_12 : decode cX8_hasOf 12 = .ok (.if_icmp .ge 67, 3) := by decide +kernel
theorem dX8_hasOf_15 : decode cX8_hasOf 15 = .ok (.aload_n 0, 1) := by decide +kernel
theorem dX8_hasOf_16 : decode cX8_hasOf 16 = .ok (.getfield 94, 3) := by decide +kernel
theorem dX8_hasOf_19 : decode cX8_hasOf 19 = .ok (.iload 5, 2) := by decide +kernel
theorem dX8_hasOf_21 : decode cX8_hasOf 21 = .ok (.baload, 1) := by decide +kernel
theorem dX8_hasOf_22 : decode cX8_hasOf 22 = .ok (.ifCond .eq 51, 3) := by decide +kernel
theorem dX8_hasOf_25 : decode cX8_hasOf 25 = .ok (.aload_n 0, 1) := by decide +kernel
theorem dX8_hasOf_26 : decode cX8_hasOf 26 = .ok (.getfield 49, 3) := by decide +kernel
theorem dX8_hasOf_29 : decode cX8_hasOf 29 = .ok (.iload 5, 2) := by decide +kernel
theorem dX8_hasOf_31 : decode cX8_hasOf 31 = .ok (.iaload, 1) := by decide +kernel
theorem dX8_hasOf_32 : decode cX8_hasOf 32 = .ok (.iload_n 1, 1) := by decide +kernel
theorem dX8_hasOf_33 : decode cX8_hasOf 33 = .ok (.if_icmp .ne 40, 3) := by decide +kernel
theorem dX8_hasOf_36 : decode cX8_hasOf 36 = .ok (.aload_n 0, 1) := by decide +kernel
theorem dX8_hasOf_37 : decode cX8_hasOf 37 = .ok (.getfield 58, 3) := by decide +kernel
theorem dX8_hasOf_40 : decode cX8_hasOf 40 = .ok (.iload 5, 2) := by decide +kernel
theorem dX8_hasOf_42 : decode cX8_hasOf 42 = .ok (.iaload, 1) := by decide +kernel
theorem dX8_hasOf_43 : decode cX8_hasOf 43 = .ok (.iload_n 3, 1) := by decide +kernel
theorem dX8_hasOf_44 : decode cX8_hasOf 44 = .ok (.if_icmp .gt 29, 3) := by decide +kernel
theorem dX8_hasOf_47 : decode cX8_hasOf 47 = .ok (.iload 4, 2) := by decide +kernel
theorem dX8_hasOf_49 : decode cX8_hasOf 49 = .ok (.aload_n 0, 1) := by decide +kernel
theorem dX8_hasOf_50 : decode cX8_hasOf 50 = .ok (.iload_n 2, 1) := by decide +kernel
theorem dX8_hasOf_51 : decode cX8_hasOf 51 = .ok (.aload_n 0, 1) := by decide +kernel
theorem dX8_hasOf_52 : decode cX8_hasOf 52 = .ok (.getfield 52, 3) := by decide +kernel
theorem dX8_hasOf_55 : decode cX8_hasOf 55 = .ok (.iload 5, 2) := by decide +kernel
theorem dX8_hasOf_57 : decode cX8_hasOf 57 = .ok (.iaload, 1) := by decide +kernel
theorem dX8_hasOf_58 : decode cX8_hasOf 58 = .ok (.aload_n 0, 1) := by decide +kernel
theorem dX8_hasOf_59 : decode cX8_hasOf 59 = .ok (.getfield 55, 3) := by decide +kernel
theorem dX8_hasOf_62 : decode cX8_hasOf 62 = .ok (.iload 5, 2) := by decide +kernel
theorem dX8_hasOf_64 : decode cX8_hasOf 64 = .ok (.iaload, 1) := by decide +kernel
theorem dX8_hasOf_65 : decode cX8_hasOf 65 = .ok (.invokevirtual 162, 3) := by decide +kernel
theorem dX8_hasOf_68 : decode cX8_hasOf 68 = .ok (.invokestatic 165, 3) := by decide +kernel
theorem dX8_hasOf_71 : decode cX8_hasOf 71 = .ok (.istore 4, 2) := by decide +kernel
theorem dX8_hasOf_73 : decode cX8_hasOf 73 = .ok (.iinc 5 1, 3) := by decide +kernel
theorem dX8_hasOf_76 : decode cX8_hasOf 76 = .ok (.goto (-70), 3) := by decide +kernel
theorem dX8_hasOf_79 : decode cX8_hasOf 79 = .ok (.iload 4, 2) := by decide +kernel
theorem dX8_hasOf_81 : decode cX8_hasOf 81 = .ok (.ireturn, 1) := by decide +kernel
theorem dX8_has_0 : decode cX8_has 0 = .ok (.aload_n 0, 1) := by decide +kernel
theorem dX8_has_1 : decode cX8_has 1 = .ok (.iload_n 1, 1) := by decide +kernel
theorem dX8_has_2 : decode cX8_has 2 = .ok (.invokevirtual 132, 3) := by decide +kernel
theorem dX8_has_5 : decode cX8_has 5 = .ok (.ifCond .eq 25, 3) := by decide +kernel
theorem dX8_has_8 : decode cX8_has 8 = .ok (.iload_n 2, 1) := by decide +kernel
theorem dX8_has_9 : decode cX8_has 9 = .ok (.invokestatic 136, 3) := by decide +kernel
theorem dX8_has_12 : decode cX8_has 12 = .ok (.ifCond .eq 18, 3) := by decide +kernel
theorem dX8_has_15 : decode cX8_has 15 = .ok (.iload_n 3, 1) := by decide +kernel
theorem dX8_has_16 : decode cX8_has 16 = .ok (.invokestatic 119, 3) := by decide +kernel
theorem dX8_has_19 : decode cX8_has 19 = .ok (.ifCond .eq 11, 3) := by decide +kernel
theorem dX8_has_22 : decode cX8_has 22 = .ok (.iload 4, 2) := by decide +kernel
theorem dX8_has_24 : decode cX8_has 24 = .ok (.invokestatic 119, 3) := by decide +kernel
theorem dX8_has_27 : decode cX8_has 27 = .ok (.ifCond .ne 10, 3) := by decide +kernel
theorem dX8_has_30 : decode cX8_has 30 = .ok (.aload_n 0, 1) := by decide +kernel
theorem dX8_has_31 : decode cX8_has 31 = .ok (.ldc 123, 2) := by decide +kernel
theorem dX8_has_33 : decode cX8_has 33 = .ok (.invokevirtual 124, 3) := by decide +kernel
theorem dX8_has_36 : decode cX8_has 36 = .ok (.ireturn, 1) := by decide +kernel
theorem dX8_has_37 : decode cX8_has 37 = .ok (.aload_n 0, 1) := by decide +kernel
theorem dX8_has_38 : decode cX8_has 38 = .ok (.iload 4, 2) := by decide +kernel
theorem dX8_has_40 : decode cX8_has 40 = .ok (.invokevirtual 175, 3) := by decide +kernel
theorem dX8_has_43 : decode cX8_has 43 = .ok (.aload_n 0, 1) := by decide +kernel
theorem dX8_has_44 : decode cX8_has 44 = .ok (.iload_n 1, 1) := by decide +kernel
theorem dX8_has_45 : decode cX8_has 45 = .ok (.iload_n 2, 1) := by decide +kernel
theorem dX8_has_46 : decode cX8_has 46 = .ok (.iload_n 3, 1) := by decide +kernel
theorem dX8_has_47 : decode cX8_has 47 = .ok (.invokevirtual 179, 3) := by decide +kernel
theorem dX8_has_50 : decode cX8_has 50 = .ok (.ireturn, 1) := by decide +kernel
theorem dX8_whyOf_0 : decode cX8_whyOf 0 = .ok (.aload_n 0, 1) := by decide +kernel
theorem dX8_whyOf_1 : decode cX8_whyOf 1 = .ok (.iload_n 2, 1) := by decide +kernel
theorem dX8_whyOf_2 : decode cX8_whyOf 2 = .ok (.iload_n 3, 1) := by decide +kernel
theorem dX8_whyOf_3 : decode cX8_whyOf 3 = .ok (.iload 4, 2) := by decide +kernel
theorem dX8_whyOf_5 : decode cX8_whyOf 5 = .ok (.invokevirtual 149, 3) := by decide +kernel
theorem dX8_whyOf_8 : decode cX8_whyOf 8 = .ok (.istore 5, 2) := by decide +kernel
theorem dX8_whyOf_10 : decode cX8_whyOf 10 = .ok (.iload 5, 2) := by decide +kernel
theorem dX8_whyOf_12 : decode cX8_whyOf 12 = .ok (.ifCond .lt 18, 3) := by decide +kernel
theorem dX8_whyOf_15 : decode cX8_whyOf 15 = .ok (.aload_n 0, 1) := by decide +kernel
theorem dX8_whyOf_16 : decode cX8_whyOf 16 = .ok (.getfield 9, 3) := by decide +kernel
theorem dX8_whyOf_19 : decode cX8_whyOf 19 = .ok (.iload_n 1, 1) := by decide +kernel
theorem dX8_whyOf_20 : decode cX8_whyOf 20 = .ok (.iaload, 1) := by decide +kernel
theorem dX8_whyOf_21 : decode cX8_whyOf 21 = .ok (.iconst 2, 1) := by decide +kernel
theorem dX8_whyOf_22 : decode cX8_whyOf 22 = .ok (.if_icmp .ne 10, 3) := by decide +kernel
theorem dX8_whyOf_25 : decode cX8_whyOf 25 = .ok (.iload_n 3, 1) := by decide +kernel
theorem dX8_whyOf_26 : decode cX8_whyOf 26 = .ok (.iconst 4, 1) := by decide +kernel
theorem dX8_whyOf_27 : decode cX8_whyOf 27 = .ok (.if_icmp .le 5, 3) := by decide +kernel
theorem dX8_whyOf_30 : decode cX8_whyOf 30 = .ok (.iconst 1, 1) := by decide +kernel
theorem dX8_whyOf_31 : decode cX8_whyOf 31 = .ok (.ireturn, 1) := by decide +kernel
theorem dX8_whyOf_32 : decode cX8_whyOf 32 = .ok (.aload_n 0, 1) := by decide +kernel
theorem dX8_whyOf_33 : decode cX8_whyOf 33 = .ok (.iload_n 1, 1) := by decide +kernel
theorem dX8_whyOf_34 : decode cX8_whyOf 34 = .ok (.iload_n 2, 1) := by decide +kernel
theorem dX8_whyOf_35 : decode cX8_whyOf 35 = .ok (.iload 4, 2) := by decide +kernel
theorem dX8_whyOf_37 : decode cX8_whyOf 37 = .ok (.invokevirtual 179, 3) := by decide +kernel
theorem dX8_whyOf_40 : decode cX8_whyOf 40 = .ok (.iload_n 3, 1) := by decide +kernel
theorem dX8_whyOf_41 : decode cX8_whyOf 41 = .ok (.iconst 1, 1) := by decide +kernel
theorem dX8_whyOf_42 : decode cX8_whyOf 42 = .ok (.isub, 1) := by decide +kernel
theorem dX8_whyOf_43 : decode cX8_whyOf 43 = .ok (.if_icmp .eq 5, 3) := by decide +kernel
theorem dX8_whyOf_46 : decode cX8_whyOf 46 = .ok (.iconst 2, 1) := by decide +kernel
theorem dX8_whyOf_47 : decode cX8_whyOf 47 = .ok (.ireturn, 1) := by decide +kernel
theorem dX8_whyOf_48 : decode cX8_whyOf 48 = .ok (.aload_n 0, 1) := by decide +kernel
theorem dX8_whyOf_49 : decode cX8_whyOf 49 = .ok (.getfield 19, 3) := by decide +kernel
theorem dX8_whyOf_52 : decode cX8_whyOf 52 = .ok (.iload_n 1, 1) := by decide +kernel
theorem dX8_whyOf_53 : decode cX8_whyOf 53 = .ok (.iaload, 1) := by decide +kernel
theorem dX8_whyOf_54 : decode cX8_whyOf 54 = .ok (.iload 4, 2) := by decide +kernel
theorem dX8_whyOf_56 : decode cX8_whyOf 56 = .ok (.if_icmp .ge 5, 3) := by decide +kernel
theorem dX8_whyOf_59 : decode cX8_whyOf 59 = .ok (.iconst 3, 1) := by decide +kernel
theorem dX8_whyOf_60 : decode cX8_whyOf 60 = .ok (.ireturn, 1) := by decide +kernel
theorem dX8_whyOf_61 : decode cX8_whyOf 61 = .ok (.iload 4, 2) := by decide +kernel
theorem dX8_whyOf_63 : decode cX8_whyOf 63 = .ok (.aload_n 0, 1) := by decide +kernel
theorem dX8_whyOf_64 : decode cX8_whyOf 64 = .ok (.getfield 13, 3) := by decide +kernel
theorem dX8_whyOf_67 : decode cX8_whyOf 67 = .ok (.iload_n 1, 1) := by decide +kernel
theorem dX8_whyOf_68 : decode cX8_whyOf 68 = .ok (.iaload, 1) := by decide +kernel
theorem dX8_whyOf_69 : decode cX8_whyOf 69 = .ok (.if_icmp .lt 22, 3) := by decide +kernel
theorem dX8_whyOf_72 : decode cX8_whyOf 72 = .ok (.iload 4, 2) := by decide +kernel
theorem dX8_whyOf_74 : decode cX8_whyOf 74 = .ok (.aload_n 0, 1) := by decide +kernel
theorem dX8_whyOf_75 : decode cX8_whyOf 75 = .ok (.getfield 13, 3) := by decide +kernel
theorem dX8_whyOf_78 : decode cX8_whyOf 78 = .ok (.iload_n 1, 1) := by decide +kernel
theorem dX8_whyOf_79 : decode cX8_whyOf 79 = .ok (.iaload, 1) := by decide +kernel
theorem dX8_whyOf_80 : decode cX8_whyOf 80 = .ok (.isub, 1) := by decide +kernel
theorem dX8_whyOf_81 : decode cX8_whyOf 81 = .ok (.aload_n 0, 1) := by decide +kernel
theorem dX8_whyOf_82 : decode cX8_whyOf 82 = .ok (.getfield 40, 3) := by decide +kernel
theorem dX8_whyOf_85 : decode cX8_whyOf 85 = .ok (.iload 5, 2) := by decide +kernel
theorem dX8_whyOf_87 : decode cX8_whyOf 87 = .ok (.iaload, 1) := by decide +kernel
theorem dX8_whyOf_88 : decode cX8_whyOf 88 = .ok (.if_icmp .ge 5, 3) := by decide +kernel
theorem dX8_whyOf_91 : decode cX8_whyOf 91 = .ok (.iconst 4, 1) := by decide +kernel
theorem dX8_whyOf_92 : decode cX8_whyOf 92 = .ok (.ireturn, 1) := by decide +kernel
theorem dX8_whyOf_93 : decode cX8_whyOf 93 = .ok (.iconst (-1), 1) := by decide +kernel
theorem dX8_whyOf_94 : decode cX8_whyOf 94 = .ok (.istore 6, 2) := by decide +kernel
theorem dX8_whyOf_96 : decode cX8_whyOf 96 = .ok (.iconst 0, 1) := by decide +kernel
theorem dX8_whyOf_97 : decode cX8_whyOf 97 = .ok (.istore 7, 2) := by decide +kernel
theorem dX8_whyOf_99 : decode cX8_whyOf 99 = .ok (.iload 7, 2) := by decide +kernel
theorem dX8_whyOf_101 : decode cX8_whyOf 101 = .ok (.aload_n 0, 1) := by decide +kernel
theorem dX8_whyOf_102 : decode cX8_whyOf 102 = .ok (.getfield 159, 3) := by decide +kernel
theorem dX8_whyOf_105 : decode cX8_whyOf 105 = .ok (.if_icmp .ge 56, 3) := by decide +kernel
theorem dX8_whyOf_108 : decode cX8_whyOf 108 = .ok (.aload_n 0, 1) := by decide +kernel
theorem dX8_whyOf_109 : decode cX8_whyOf 109 = .ok (.getfield 94, 3) := by decide +kernel
theorem dX8_whyOf_112 : decode cX8_whyOf 112 = .ok (.iload 7, 2) := by decide +kernel
theorem dX8_whyOf_114 : decode cX8_whyOf 114 = .ok (.baload, 1) := by decide +kernel
theorem dX8_whyOf_115 : decode cX8_whyOf 115 = .ok (.ifCond .eq 36, 3) := by decide +kernel
theorem dX8_whyOf_118 : decode cX8_whyOf 118 = .ok (.aload_n 0, 1) := by decide +kernel
theorem dX8_whyOf_119 : decode cX8_whyOf 119 = .ok (.getfield 49, 3) := by decide +kernel
theorem dX8_whyOf_122 : decode cX8_whyOf 122 = .ok (.iload 7, 2) := by decide +kernel
theorem dX8_whyOf_124 : decode cX8_whyOf 124 = .ok (.iaload, 1) := by decide +kernel
theorem dX8_whyOf_125 : decode cX8_whyOf 125 = .ok (.iload_n 1, 1) := by decide +kernel
theorem dX8_whyOf_126 : decode cX8_whyOf 126 = .ok (.if_icmp .ne 25, 3) := by decide +kernel
theorem dX8_whyOf_129 : decode cX8_whyOf 129 = .ok (.aload_n 0, 1) := by decide +kernel
theorem dX8_whyOf_130 : decode cX8_whyOf 130 = .ok (.getfield 58, 3) := by decide +kernel
theorem dX8_whyOf_133 : decode cX8_whyOf 133 = .ok (.iload 7, 2) := by decide +kernel
theorem dX8_whyOf_135 : decode cX8_whyOf 135 = .ok (.iaload, 1) := by decide +kernel
theorem dX8_whyOf_136 : decode cX8_whyOf 136 = .ok (.iload 4, 2) := by decide +kernel
theorem dX8_whyOf_138 : decode cX8_whyOf 138 = .ok (.if_icmp .gt 13, 3) := by decide +kernel
theorem dX8_whyOf_141 : decode cX8_whyOf 141 = .ok (.aload_n 0, 1) := by decide +kernel
theorem dX8_whyOf_142 : decode cX8_whyOf 142 = .ok (.getfield 58, 3) := by decide +kernel
theorem dX8_whyOf_145 : decode cX8_whyOf 145 = .ok (.iload 7, 2) := by decide +kernel
theorem dX8_whyOf_147 : decode cX8_whyOf 147 = .ok (.iaload, 1) := by decide +kernel
theorem dX8_whyOf_148 : decode cX8_whyOf 148 = .ok (.goto 5, 3) := by decide +kernel
theorem dX8_whyOf_151 : decode cX8_whyOf 151 = .ok (.iload 6, 2) := by decide +kernel
theorem dX8_whyOf_153 : decode cX8_whyOf 153 = .ok (.istore 6, 2) := by decide +kernel
theorem dX8_whyOf_155 : decode cX8_whyOf 155 = .ok (.iinc 7 1, 3) := by decide +kernel
theorem dX8_whyOf_158 : decode cX8_whyOf 158 = .ok (.goto (-59), 3) := by decide +kernel
theorem dX8_whyOf_161 : decode cX8_whyOf 161 = .ok (.iload 6, 2) := by decide +kernel
theorem dX8_whyOf_163 : decode cX8_whyOf 163 = .ok (.ifCond .lt 42, 3) := by decide +kernel
theorem dX8_whyOf_166 : decode cX8_whyOf 166 = .ok (.iload 4, 2) := by decide +kernel
theorem dX8_whyOf_168 : decode cX8_whyOf 168 = .ok (.iload 6, 2) := by decide +kernel
theorem dX8_whyOf_170 : decode cX8_whyOf 170 = .ok (.isub, 1) := by decide +kernel
theorem dX8_whyOf_171 : decode cX8_whyOf 171 = .ok (.aload_n 0, 1) := by decide +kernel
theorem dX8_whyOf_172 : decode cX8_whyOf 172 = .ok (.getfield 9, 3) := by decide +kernel
theorem dX8_whyOf_175 : decode cX8_whyOf 175 = .ok (.iload_n 1, 1) := by decide +kernel
theorem dX8_whyOf_176 : decode cX8_whyOf 176 = .ok (.iaload, 1) := by decide +kernel
theorem dX8_whyOf_177 : decode cX8_whyOf 177 = .ok (.iconst 2, 1) := by decide +kernel
theorem dX8_whyOf_178 : decode cX8_whyOf 178 = .ok (.if_icmp .ne 15, 3) := by decide +kernel
theorem dX8_whyOf_181 : decode cX8_whyOf 181 = .ok (.aload_n 0, 1) := by decide +kernel
theorem dX8_whyOf_182 : decode cX8_whyOf 182 = .ok (.getfield 37, 3) := by decide +kernel
theorem dX8_whyOf_185 : decode cX8_whyOf 185 = .ok (.iload 5, 2) := by decide +kernel
theorem dX8_whyOf_187 : decode cX8_whyOf 187 = .ok (.iaload, 1) := by decide +kernel
theorem dX8_whyOf_188 : decode cX8_whyOf 188 = .ok (.iconst 2, 1) := by decide +kernel
theorem dX8_whyOf_189 : decode cX8_whyOf 189 = .ok (.idiv, 1) := by decide +kernel
theorem dX8_whyOf_190 : decode cX8_whyOf 190 = .ok (.goto 10, 3) := by decide +kernel
theorem dX8_whyOf_193 : decode cX8_whyOf 193 = .ok (.aload_n 0, 1) := by decide +kernel
theorem dX8_whyOf_194 : decode cX8_whyOf 194 = .ok (.getfield 37, 3) := by decide +kernel
theorem dX8_whyOf_197 : decode cX8_whyOf 197 = .ok (.iload 5, 2) := by decide +kernel
theorem dX8_whyOf_199 : decode cX8_whyOf 199 = .ok (.iaload, 1) := by decide +kernel
theorem dX8_whyOf_200 : decode cX8_whyOf 200 = .ok (.if_icmp .ge 5, 3) := by decide +kernel
theorem dX8_whyOf_203 : decode cX8_whyOf 203 = .ok (.iconst 5, 1) := by decide +kernel
theorem dX8_whyOf_204 : decode cX8_whyOf 204 = .ok (.ireturn, 1) := by decide +kernel
theorem dX8_whyOf_205 : decode cX8_whyOf 205 = .ok (.iconst 0, 1) := by decide +kernel
theorem dX8_whyOf_206 : decode cX8_whyOf 206 = .ok (.istore 7, 2) := by decide +kernel
theorem dX8_whyOf_208 : decode cX8_whyOf 208 = .ok (.iload 7, 2) := by decide +kernel
theorem dX8_whyOf_210 : decode cX8_whyOf 210 = .ok (.bipush 8, 2) := by decide +kernel
theorem dX8_whyOf_212 : decode cX8_whyOf 212 = .ok (.if_icmp .ge 61, 3) := by decide +kernel
theorem dX8_whyOf_215 : decode cX8_whyOf 215 = .ok (.aload_n 0, 1) := by decide +kernel
theorem dX8_whyOf_216 : decode cX8_whyOf 216 = .ok (.getfield 22, 3) := by decide +kernel
theorem dX8_whyOf_219 : decode cX8_whyOf 219 = .ok (.bipush 8, 2) := by decide +kernel
theorem dX8_whyOf_221 : decode cX8_whyOf 221 = .ok (.iload_n 1, 1) := by decide +kernel
theorem dX8_whyOf_222 : decode cX8_whyOf 222 = .ok (.imul, 1) := by decide +kernel
theorem dX8_whyOf_223 : decode cX8_whyOf 223 = .ok (.iload 7, 2) := by decide +kernel
theorem dX8_whyOf_225 : decode cX8_whyOf 225 = .ok (.iadd, 1) := by decide +kernel
theorem dX8_whyOf_226 : decode cX8_whyOf 226 = .ok (.iaload, 1) := by decide +kernel
theorem dX8_whyOf_227 : decode cX8_whyOf 227 = .ok (.istore 8, 2) := by decide +kernel
theorem dX8_whyOf_229 : decode cX8_whyOf 229 = .ok (.aload_n 0, 1) := by decide +kernel
theorem dX8_whyOf_230 : decode cX8_whyOf 230 = .ok (.getfield 43, 3) := by decide +kernel
theorem dX8_whyOf_233 : decode cX8_whyOf 233 = .ok (.iload 5, 2) := by decide +kernel
theorem dX8_whyOf_235 : decode cX8_whyOf 235 = .ok (.iaload, 1) := by decide +kernel
theorem dX8_whyOf_236 : decode cX8_whyOf 236 = .ok (.iload 7, 2) := by decide +kernel
theorem dX8_whyOf_238 : decode cX8_whyOf 238 = .ok (.ishr, 1) := by decide +kernel
theorem dX8_whyOf_239 : decode cX8_whyOf 239 = .ok (.iconst 1, 1) := by decide +kernel
theorem dX8_whyOf_240 : decode cX8_whyOf 240 = .ok (.iand, 1) := by decide +kernel
theorem dX8_whyOf_241 : decode cX8_whyOf 241 = .ok (.iconst 1, 1) := by decide +kernel
theorem dX8_whyOf_242 : decode cX8_whyOf 242 = .ok (.if_icmp .ne 25, 3) := by decide +kernel
theorem dX8_whyOf_245 : decode cX8_whyOf 245 = .ok (.iload 8, 2) := by decide +kernel
theorem dX8_whyOf_247 : decode cX8_whyOf 247 = .ok (.ifCond .lt 17, 3) := by decide +kernel
theorem dX8_whyOf_250 : decode cX8_whyOf 250 = .ok (.iload 8, 2) := by decide +kernel
theorem dX8_whyOf_252 : decode cX8_whyOf 252 = .ok (.iload 4, 2) := by decide +kernel
theorem dX8_whyOf_254 : decode cX8_whyOf 254 = .ok (.if_icmp .gt 10, 3) := by decide +kernel
theorem dX8_whyOf_257 : decode cX8_whyOf 257 = .ok (.iload 8, 2) := by decide +kernel
theorem dX8_whyOf_259 : decode cX8_whyOf 259 = .ok (.iload 6, 2) := by decide +kernel
theorem dX8_whyOf_261 : decode cX8_whyOf 261 = .ok (.if_icmp .ge 6, 3) := by decide +kernel
theorem dX8_whyOf_264 : decode cX8_whyOf 264 = .ok (.bipush 6, 2) := by decide +kernel
theorem dX8_whyOf_266 : decode cX8_whyOf 266 = .ok (.ireturn, 1) := by decide +kernel
theorem dX8_whyOf_267 : decode cX8_whyOf 267 = .ok (.iinc 7 1, 3) := by decide +kernel
theorem dX8_whyOf_270 : decode cX8_whyOf 270 = .ok (.goto (-62), 3) := by decide +kernel
theorem dX8_whyOf_273 : decode cX8_whyOf 273 = .ok (.iconst 0, 1) := by decide +kernel
theorem dX8_whyOf_274 : decode cX8_whyOf 274 = .ok (.ireturn, 1) := by decide +kernel
theorem dX8_canAsk_0 : decode cX8_canAsk 0 = .ok (.aload_n 0, 1) := by decide +kernel
theorem dX8_canAsk_1 : decode cX8_canAsk 1 = .ok (.iload_n 1, 1) := by decide +kernel
theorem dX8_canAsk_2 : decode cX8_canAsk 2 = .ok (.invokevirtual 132, 3) := by decide +kernel
theorem dX8_canAsk_5 : decode cX8_canAsk 5 = .ok (.ifCond .eq 29, 3) := by decide +kernel
theorem dX8_canAsk_8 : decode cX8_canAsk 8 = .ok (.iload_n 2, 1) := by decide +kernel
theorem dX8_canAsk_9 : decode cX8_canAsk 9 = .ok (.invokestatic 136, 3) := by decide +kernel
theorem dX8_canAsk_12 : decode cX8_canAsk 12 = .ok (.ifCond .eq 22, 3) := by decide +kernel
theorem dX8_canAsk_15 : decode cX8_canAsk 15 = .ok (.iload_n 3, 1) := by decide +kernel
theorem dX8_canAsk_16 : decode cX8_canAsk 16 = .ok (.invokestatic 139, 3) := by decide +kernel
theorem dX8_canAsk_19 : decode cX8_canAsk 19 = .ok (.ifCond .eq 15, 3) := by decide +kernel
theorem dX8_canAsk_22 : decode cX8_canAsk 22 = .ok (.iload 4, 2) := by decide +kernel
theorem dX8_canAsk_24 : decode cX8_canAsk 24 = .ok (.invokestatic 119, 3) := by decide +kernel
theorem dX8_canAsk_27 : decode cX8_canAsk 27 = .ok (.ifCond .eq 7, 3) := by decide +kernel
theorem dX8_canAsk_30 : decode cX8_canAsk 30 = .ok (.iconst 1, 1) := by decide +kernel
theorem dX8_canAsk_31 : decode cX8_canAsk 31 = .ok (.goto 4, 3) := by decide +kernel
theorem dX8_canAsk_34 : decode cX8_canAsk 34 = .ok (.iconst 0, 1) := by decide +kernel
theorem dX8_canAsk_35 : decode cX8_canAsk 35 = .ok (.ireturn, 1) := by decide +kernel
theorem dX8_why_0 : decode cX8_why 0 = .ok (.aload_n 0, 1) := by decide +kernel
theorem dX8_why_1 : decode cX8_why 1 = .ok (.iload_n 1, 1) := by decide +kernel
theorem dX8_why_2 : decode cX8_why 2 = .ok (.iload_n 2, 1) := by decide +kernel
theorem dX8_why_3 : decode cX8_why 3 = .ok (.iload_n 3, 1) := by decide +kernel
theorem dX8_why_4 : decode cX8_why 4 = .ok (.iload 4, 2) := by decide +kernel
theorem dX8_why_6 : decode cX8_why 6 = .ok (.invokevirtual 182, 3) := by decide +kernel
theorem dX8_why_9 : decode cX8_why 9 = .ok (.ifCond .ne 10, 3) := by decide +kernel
theorem dX8_why_12 : decode cX8_why 12 = .ok (.aload_n 0, 1) := by decide +kernel
theorem dX8_why_13 : decode cX8_why 13 = .ok (.ldc 123, 2) := by decide +kernel
theorem dX8_why_15 : decode cX8_why 15 = .ok (.invokevirtual 124, 3) := by decide +kernel
theorem dX8_why_18 : decode cX8_why 18 = .ok (.ireturn, 1) := by decide +kernel
theorem dX8_why_19 : decode cX8_why 19 = .ok (.aload_n 0, 1) := by decide +kernel
theorem dX8_why_20 : decode cX8_why 20 = .ok (.iload 4, 2) := by decide +kernel
theorem dX8_why_22 : decode cX8_why 22 = .ok (.invokevirtual 175, 3) := by decide +kernel
theorem dX8_why_25 : decode cX8_why 25 = .ok (.aload_n 0, 1) := by decide +kernel
theorem dX8_why_26 : decode cX8_why 26 = .ok (.iload_n 1, 1) := by decide +kernel
theorem dX8_why_27 : decode cX8_why 27 = .ok (.iload_n 2, 1) := by decide +kernel
theorem dX8_why_28 : decode cX8_why 28 = .ok (.iload_n 3, 1) := by decide +kernel
theorem dX8_why_29 : decode cX8_why 29 = .ok (.iload 4, 2) := by decide +kernel
theorem dX8_why_31 : decode cX8_why 31 = .ok (.invokevirtual 186, 3) := by decide +kernel
theorem dX8_why_34 : decode cX8_why 34 = .ok (.ireturn, 1) := by decide +kernel
theorem dX8_against_0 : decode cX8_against 0 = .ok (.iload_n 1, 1) := by decide +kernel
theorem dX8_against_1 : decode cX8_against 1 = .ok (.iload_n 2, 1) := by decide +kernel
theorem dX8_against_2 : decode cX8_against 2 = .ok (.if_icmp .eq 18, 3) := by decide +kernel
theorem dX8_against_5 : decode cX8_against 5 = .ok (.aload_n 0, 1) := by decide +kernel
theorem dX8_against_6 : decode cX8_against 6 = .ok (.getfield 16, 3) := by decide +kernel
theorem dX8_against_9 : decode cX8_against 9 = .ok (.iload_n 1, 1) := by decide +kernel
theorem dX8_against_10 : decode cX8_against 10 = .ok (.iaload, 1) := by decide +kernel
theorem dX8_against_11 : decode cX8_against 11 = .ok (.aload_n 0, 1) := by decide +kernel
theorem dX8_against_12 : decode cX8_against 12 = .ok (.getfield 16, 3) := by decide +kernel
theorem dX8_against_15 : decode cX8_against 15 = .ok (.iload_n 2, 1) := by decide +kernel
theorem dX8_against_16 : decode cX8_against 16 = .ok (.iaload, 1) := by decide +kernel
theorem dX8_against_17 : decode cX8_against 17 = .ok (.if_icmp .ne 5, 3) := by decide +kernel
theorem dX8_against_20 : decode cX8_against 20 = .ok (.iconst 3, 1) := by decide +kernel
theorem dX8_against_21 : decode cX8_against 21 = .ok (.ireturn, 1) := by decide +kernel
theorem dX8_against_22 : decode cX8_against 22 = .ok (.aload_n 0, 1) := by decide +kernel
theorem dX8_against_23 : decode cX8_against 23 = .ok (.getfield 19, 3) := by decide +kernel
theorem dX8_against_26 : decode cX8_against 26 = .ok (.iload_n 1, 1) := by decide +kernel
theorem dX8_against_27 : decode cX8_against 27 = .ok (.iaload, 1) := by decide +kernel
theorem dX8_against_28 : decode cX8_against 28 = .ok (.iload 5, 2) := by decide +kernel
theorem dX8_against_30 : decode cX8_against 30 = .ok (.if_icmp .ge 5, 3) := by decide +kernel
theorem dX8_against_33 : decode cX8_against 33 = .ok (.iconst 4, 1) := by decide +kernel
theorem dX8_against_34 : decode cX8_against 34 = .ok (.ireturn, 1) := by decide +kernel
theorem dX8_against_35 : decode cX8_against 35 = .ok (.aload_n 0, 1) := by decide +kernel
theorem dX8_against_36 : decode cX8_against 36 = .ok (.iload_n 1, 1) := by decide +kernel
theorem dX8_against_37 : decode cX8_against 37 = .ok (.iload 5, 2) := by decide +kernel
theorem dX8_against_39 : decode cX8_against 39 = .ok (.iload 5, 2) := by decide +kernel
theorem dX8_against_41 : decode cX8_against 41 = .ok (.invokevirtual 156, 3) := by decide +kernel
theorem dX8_against_44 : decode cX8_against 44 = .ok (.ifCond .eq 5, 3) := by decide +kernel
theorem dX8_against_47 : decode cX8_against 47 = .ok (.iconst 5, 1) := by decide +kernel
theorem dX8_against_48 : decode cX8_against 48 = .ok (.ireturn, 1) := by decide +kernel
theorem dX8_against_49 : decode cX8_against 49 = .ok (.aload_n 0, 1) := by decide +kernel
theorem dX8_against_50 : decode cX8_against 50 = .ok (.iload_n 1, 1) := by decide +kernel
theorem dX8_against_51 : decode cX8_against 51 = .ok (.iload_n 3, 1) := by decide +kernel
theorem dX8_against_52 : decode cX8_against 52 = .ok (.iload 5, 2) := by decide +kernel
theorem dX8_against_54 : decode cX8_against 54 = .ok (.invokevirtual 179, 3) := by decide +kernel
theorem dX8_against_57 : decode cX8_against 57 = .ok (.aload_n 0, 1) := by decide +kernel
theorem dX8_against_58 : decode cX8_against 58 = .ok (.getfield 46, 3) := by decide +kernel
theorem dX8_against_61 : decode cX8_against 61 = .ok (.iload 4, 2) := by decide +kernel
theorem dX8_against_63 : decode cX8_against 63 = .ok (.iaload, 1) := by decide +kernel
theorem dX8_against_64 : decode cX8_against 64 = .ok (.if_icmp .ge 8, 3) := by decide +kernel
theorem dX8_against_67 : decode cX8_against 67 = .ok (.bipush 6, 2) := by decide +kernel
theorem dX8_against_69 : decode cX8_against 69 = .ok (.goto 4, 3) := by decide +kernel
theorem dX8_against_72 : decode cX8_against 72 = .ok (.iconst 0, 1) := by decide +kernel
theorem dX8_against_73 : decode cX8_against 73 = .ok (.ireturn, 1) := by decide +kernel
theorem dX8_panelOf_0 : decode cX8_panelOf 0 = .ok (.iconst 0, 1) := by decide +kernel
theorem dX8_panelOf_1 : decode cX8_panelOf 1 = .ok (.istore 6, 2) := by decide +kernel
theorem dX8_panelOf_3 : decode cX8_panelOf 3 = .ok (.iconst 1, 1) := by decide +kernel
theorem dX8_panelOf_4 : decode cX8_panelOf 4 = .ok (.istore 7, 2) := by decide +kernel
theorem dX8_panelOf_6 : decode cX8_panelOf 6 = .ok (.bipush 9, 2) := by decide +kernel
theorem dX8_panelOf_8 : decode cX8_panelOf 8 = .ok (.istore 8, 2) := by decide +kernel
theorem dX8_panelOf_10 : decode cX8_panelOf 10 = .ok (.iconst 0, 1) := by decide +kernel
theorem dX8_panelOf_11 : decode cX8_panelOf 11 = .ok (.istore 9, 2) := by decide +kernel
theorem dX8_panelOf_13 : decode cX8_panelOf 13 = .ok (.iload 9, 2) := by decide +kernel
theorem dX8_panelOf_15 : decode cX8_panelOf 15 = .ok (.aload_n 0, 1) := by decide +kernel
theorem dX8_panelOf_16 : decode cX8_panelOf 16 = .ok (.getfield 115, 3) := by decide +kernel
theorem dX8_panelOf_19 : decode cX8_panelOf 19 = .ok (.if_icmp .ge 80, 3) := by decide +kernel
theorem dX8_panelOf_22 : decode cX8_panelOf 22 = .ok (.iload 5, 2) := by decide +kernel
theorem dX8_panelOf_24 : decode cX8_panelOf 24 = .ok (.iload 9, 2) := by decide +kernel
theorem dX8_panelOf_26 : decode cX8_panelOf 26 = .ok (.ishr, 1) := by decide +kernel
theorem dX8_panelOf_27 : decode cX8_panelOf 27 = .ok (.iconst 1, 1) := by decide +kernel
theorem dX8_panelOf_28 : decode cX8_panelOf 28 = .ok (.iand, 1) := by decide +kernel
theorem dX8_panelOf_29 : decode cX8_panelOf 29 = .ok (.ifCond .ne 6, 3) := by decide +kernel
theorem dX8_panelOf_32 : decode cX8_panelOf 32 = .ok (.goto 61, 3) := by decide +kernel
theorem dX8_panelOf_35 : decode cX8_panelOf 35 = .ok (.iinc 6 1, 3) := by decide +kernel
theorem dX8_panelOf_38 : decode cX8_panelOf 38 = .ok (.iload 7, 2) := by decide +kernel
theorem dX8_panelOf_40 : decode cX8_panelOf 40 = .ok (.ifCond .eq 18, 3) := by decide +kernel
theorem dX8_panelOf_43 : decode cX8_panelOf 43 = .ok (.aload_n 0, 1) := by decide +kernel
theorem dX8_panelOf_44 : decode cX8_panelOf 44 = .ok (.getfield 9, 3) := by decide +kernel
theorem dX8_panelOf_47 : decode cX8_panelOf 47 = .ok (.iload 9, 2) := by decide +kernel
theorem dX8_panelOf_49 : decode cX8_panelOf 49 = .ok (.iaload, 1) := by decide +kernel
theorem dX8_panelOf_50 : decode cX8_panelOf 50 = .ok (.iconst 1, 1) := by decide +kernel
theorem dX8_panelOf_51 : decode cX8_panelOf 51 = .ok (.if_icmp .ne 7, 3) := by decide +kernel
theorem dX8_panelOf_54 : decode cX8_panelOf 54 = .ok (.iconst 1, 1) := by decide +kernel
theorem dX8_panelOf_55 : decode cX8_panelOf 55 = .ok (.goto 4, 3) := by decide +kernel
theorem dX8_panelOf_58 : decode cX8_panelOf 58 = .ok (.iconst 0, 1) := by decide +kernel
theorem dX8_panelOf_59 : decode cX8_panelOf 59 = .ok (.istore 7, 2) := by decide +kernel
theorem dX8_panelOf_61 : decode cX8_panelOf 61 = .ok (.aload_n 0, 1) := by decide +kernel
theorem dX8_panelOf_62 : decode cX8_panelOf 62 = .ok (.iload 9, 2) := by decide +kernel
theorem dX8_panelOf_64 : decode cX8_panelOf 64 = .ok (.iload_n 1, 1) := by decide +kernel
theorem dX8_panelOf_65 : decode cX8_panelOf 65 = .ok (.iload_n 2, 1) := by decide +kernel
theorem dX8_panelOf_66 : decode cX8_panelOf 66 = .ok (.iload_n 3, 1) := by decide +kernel
theorem dX8_panelOf_67 : decode cX8_panelOf 67 = .ok (.iload 4, 2) := by decide +kernel
theorem dX8_panelOf_69 : decode cX8_panelOf 69 = .ok (.invokevirtual 190, 3) := by decide +kernel
theorem dX8_panelOf_72 : decode cX8_panelOf 72 = .ok (.istore 10, 2) := by decide +kernel
theorem dX8_panelOf_74 : decode cX8_panelOf 74 = .ok (.iload 10, 2) := by decide +kernel
theorem dX8_panelOf_76 : decode cX8_panelOf 76 = .ok (.ifCond .le 13, 3) := by decide +kernel
theorem dX8_panelOf_79 : decode cX8_panelOf 79 = .ok (.iload 8, 2) := by decide +kernel
theorem dX8_panelOf_81 : decode cX8_panelOf 81 = .ok (.iload 10, 2) := by decide +kernel
theorem dX8_panelOf_83 : decode cX8_panelOf 83 = .ok (.invokestatic 194, 3) := by decide +kernel
theorem dX8_panelOf_86 : decode cX8_panelOf 86 = .ok (.goto 5, 3) := by decide +kernel
theorem dX8_panelOf_89 : decode cX8_panelOf 89 = .ok (.iload 8, 2) := by decide +kernel
theorem dX8_panelOf_91 : decode cX8_panelOf 91 = .ok (.istore 8, 2) := by decide +kernel
theorem dX8_panelOf_93 : decode cX8_panelOf 93 = .ok (.iinc 9 1, 3) := by decide +kernel
theorem dX8_panelOf_96 : decode cX8_panelOf 96 = .ok (.goto (-83), 3) := by decide +kernel
theorem dX8_panelOf_99 : decode cX8_panelOf 99 = .ok (.iload 6, 2) := by decide +kernel
theorem dX8_panelOf_101 : decode cX8_panelOf 101 = .ok (.iconst 3, 1) := by decide +kernel
theorem dX8_panelOf_102 : decode cX8_panelOf 102 = .ok (.if_icmp .eq 7, 3) := by decide +kernel
theorem dX8_panelOf_105 : decode cX8_panelOf 105 = .ok (.iconst 1, 1) := by decide +kernel
theorem dX8_panelOf_106 : decode cX8_panelOf 106 = .ok (.goto 25, 3) := by decide +kernel
theorem dX8_panelOf_109 : decode cX8_panelOf 109 = .ok (.iload 7, 2) := by decide +kernel
theorem dX8_panelOf_111 : decode cX8_panelOf 111 = .ok (.ifCond .ne 7, 3) := by decide +kernel
theorem dX8_panelOf_114 : decode cX8_panelOf 114 = .ok (.iconst 2, 1) := by decide +kernel
theorem dX8_panelOf_115 : decode cX8_panelOf 115 = .ok (.goto 16, 3) := by decide +kernel
theorem dX8_panelOf_118 : decode cX8_panelOf 118 = .ok (.iload 8, 2) := by decide +kernel
theorem dX8_panelOf_120 : decode cX8_panelOf 120 = .ok (.bipush 9, 2) := by decide +kernel
theorem dX8_panelOf_122 : decode cX8_panelOf 122 = .ok (.if_icmp .ge 8, 3) := by decide +kernel
theorem dX8_panelOf_125 : decode cX8_panelOf 125 = .ok (.iload 8, 2) := by decide +kernel
theorem dX8_panelOf_127 : decode cX8_panelOf 127 = .ok (.goto 4, 3) := by decide +kernel
theorem dX8_panelOf_130 : decode cX8_panelOf 130 = .ok (.iconst 0, 1) := by decide +kernel
theorem dX8_panelOf_131 : decode cX8_panelOf 131 = .ok (.ireturn, 1) := by decide +kernel
theorem dX8_isPanel_0 : decode cX8_isPanel 0 = .ok (.iload_n 1, 1) := by decide +kernel
theorem dX8_isPanel_1 : decode cX8_isPanel 1 = .ok (.ifCond .lt 17, 3) := by decide +kernel
theorem dX8_isPanel_4 : decode cX8_isPanel 4 = .ok (.iload_n 1, 1) := by decide +kernel
theorem dX8_isPanel_5 : decode cX8_isPanel 5 = .ok (.iconst 1, 1) := by decide +kernel
theorem dX8_isPanel_6 : decode cX8_isPanel 6 = .ok (.aload_n 0, 1) := by decide +kernel
theorem dX8_isPanel_7 : decode cX8_isPanel 7 = .ok (.getfield 115, 3) := by decide +kernel
theorem dX8_isPanel_10 : decode cX8_isPanel 10 = .ok (.ishl, 1) := by decide +kernel
theorem dX8_isPanel_11 : decode cX8_isPanel 11 = .ok (.if_icmp .ge 7, 3) := by decide +kernel
theorem dX8_isPanel_14 : decode cX8_isPanel 14 = .ok (.iconst 1, 1) := by decide +kernel
theorem dX8_isPanel_15 : decode cX8_isPanel 15 = .ok (.goto 4, 3) := by decide +kernel
theorem dX8_isPanel_18 : decode cX8_isPanel 18 = .ok (.iconst 0, 1) := by decide +kernel
theorem dX8_isPanel_19 : decode cX8_isPanel 19 = .ok (.ireturn, 1) := by decide +kernel
theorem dX8_panel_0 : decode cX8_panel 0 = .ok (.aload_n 0, 1) := by decide +kernel
theorem dX8_panel_1 : decode cX8_panel 1 = .ok (.iload_n 1, 1) := by decide +kernel
theorem dX8_panel_2 : decode cX8_panel 2 = .ok (.iload_n 2, 1) := by decide +kernel
theorem dX8_panel_3 : decode cX8_panel 3 = .ok (.iload_n 3, 1) := by decide +kernel
theorem dX8_panel_4 : decode cX8_panel 4 = .ok (.iload 4, 2) := by decide +kernel
theorem dX8_panel_6 : decode cX8_panel 6 = .ok (.invokevirtual 182, 3) := by decide +kernel
theorem dX8_panel_9 : decode cX8_panel 9 = .ok (.ifCond .eq 12, 3) := by decide +kernel
theorem dX8_panel_12 : decode cX8_panel 12 = .ok (.aload_n 0, 1) := by decide +kernel
theorem dX8_panel_13 : decode cX8_panel 13 = .ok (.iload 5, 2) := by decide +kernel
theorem dX8_panel_15 : decode cX8_panel 15 = .ok (.invokevirtual 197, 3) := by decide +kernel
theorem dX8_panel_18 : decode cX8_panel 18 = .ok (.ifCond .ne 10, 3) := by decide +kernel
theorem dX8_panel_21 : decode cX8_panel 21 = .ok (.aload_n 0, 1) := by decide +kernel
theorem dX8_panel_22 : decode cX8_panel 22 = .ok (.ldc 123, 2) := by decide +kernel
theorem dX8_panel_24 : decode cX8_panel 24 = .ok (.invokevirtual 124, 3) := by decide +kernel
theorem dX8_panel_27 : decode cX8_panel 27 = .ok (.ireturn, 1) := by decide +kernel
theorem dX8_panel_28 : decode cX8_panel 28 = .ok (.aload_n 0, 1) := by decide +kernel
theorem dX8_panel_29 : decode cX8_panel 29 = .ok (.iload_n 2, 1) := by decide +kernel
theorem dX8_panel_30 : decode cX8_panel 30 = .ok (.iload_n 3, 1) := by decide +kernel
theorem dX8_panel_31 : decode cX8_panel 31 = .ok (.iload 4, 2) := by decide +kernel
theorem dX8_panel_33 : decode cX8_panel 33 = .ok (.invokevirtual 149, 3) := by decide +kernel
theorem dX8_panel_36 : decode cX8_panel 36 = .ok (.istore 6, 2) := by decide +kernel
theorem dX8_panel_38 : decode cX8_panel 38 = .ok (.iload 6, 2) := by decide +kernel
theorem dX8_panel_40 : decode cX8_panel 40 = .ok (.ifCond .ge 10, 3) := by decide +kernel
theorem dX8_panel_43 : decode cX8_panel 43 = .ok (.aload_n 0, 1) := by decide +kernel
theorem dX8_panel_44 : decode cX8_panel 44 = .ok (.ldc 152, 2) := by decide +kernel
theorem dX8_panel_46 : decode cX8_panel 46 = .ok (.invokevirtual 124, 3) := by decide +kernel
theorem dX8_panel_49 : decode cX8_panel 49 = .ok (.ireturn, 1) := by decide +kernel
theorem dX8_panel_50 : decode cX8_panel 50 = .ok (.aload_n 0, 1) := by decide +kernel
theorem dX8_panel_51 : decode cX8_panel 51 = .ok (.iload 4, 2) := by decide +kernel
theorem dX8_panel_53 : decode cX8_panel 53 = .ok (.invokevirtual 175, 3) := by decide +kernel
theorem dX8_panel_56 : decode cX8_panel 56 = .ok (.aload_n 0, 1) := by decide +kernel
theorem dX8_panel_57 : decode cX8_panel 57 = .ok (.iload_n 1, 1) := by decide +kernel
theorem dX8_panel_58 : decode cX8_panel 58 = .ok (.iload_n 2, 1) := by decide +kernel
theorem dX8_panel_59 : decode cX8_panel 59 = .ok (.iload 6, 2) := by decide +kernel
theorem dX8_panel_61 : decode cX8_panel 61 = .ok (.iload 4, 2) := by decide +kernel
