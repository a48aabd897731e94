theorem dX0_init_0 : decode cX0_init 0 = .ok (.aload_n 0, 1) := by decide +kernel
theorem dX0_init_1 : decode cX0_init 1 = .ok (.invokespecial 3, 3) := by decide +kernel
theorem dX0_init_4 : decode cX0_init 4 = .ok (.aload_n 0, 1) := by decide +kernel
theorem dX0_init_5 : decode cX0_init 5 = .ok (.new 9, 3) := by decide +kernel
theorem dX0_init_8 : decode cX0_init 8 = .ok (.dup, 1) := by decide +kernel
theorem dX0_init_9 : decode cX0_init 9 = .ok (.invokespecial 11, 3) := by decide +kernel
theorem dX0_init_12 : decode cX0_init 12 = .ok (.putfield 12, 3) := by decide +kernel
theorem dX0_init_15 : decode cX0_init 15 = .ok (.aload_n 0, 1) := by decide +kernel
theorem dX0_init_16 : decode cX0_init 16 = .ok (.new 18, 3) := by decide +kernel
theorem dX0_init_19 : decode cX0_init 19 = .ok (.dup, 1) := by decide +kernel
theorem dX0_init_20 : decode cX0_init 20 = .ok (.invokespecial 20, 3) := by decide +kernel
theorem dX0_init_23 : decode cX0_init 23 = .ok (.putfield 21, 3) := by decide +kernel
theorem dX0_init_26 : decode cX0_init 26 = .ok (.aload_n 0, 1) := by decide +kernel
theorem dX0_init_27 : decode cX0_init 27 = .ok (.new 25, 3) := by decide +kernel
theorem dX0_init_30 : decode cX0_init 30 = .ok (.dup, 1) := by decide +kernel
theorem dX0_init_31 : decode cX0_init 31 = .ok (.invokespecial 27, 3) := by decide +kernel
theorem dX0_init_34 : decode cX0_init 34 = .ok (.putfield 28, 3) := by decide +kernel
theorem dX0_init_37 : decode cX0_init 37 = .ok (.return_, 1) := by decide +kernel
theorem dX0_whyNot_0 : decode cX0_whyNot 0 = .ok (.aload_n 0, 1) := by decide +kernel
theorem dX0_whyNot_1 : decode cX0_whyNot 1 = .ok (.getfield 21, 3) := by decide +kernel
theorem dX0_whyNot_4 : decode cX0_whyNot 4 = .ok (.iload_n 2, 1) := by decide +kernel
theorem dX0_whyNot_5 : decode cX0_whyNot 5 = .ok (.iload_n 3, 1) := by decide +kernel
theorem dX0_whyNot_6 : decode cX0_whyNot 6 = .ok (.iload 4, 2) := by decide +kernel
theorem dX0_whyNot_8 : decode cX0_whyNot 8 = .ok (.invokevirtual 32, 3) := by decide +kernel
theorem dX0_whyNot_11 : decode cX0_whyNot 11 = .ok (.istore 5, 2) := by decide +kernel
theorem dX0_whyNot_13 : decode cX0_whyNot 13 = .ok (.aload_n 0, 1) := by decide +kernel
theorem dX0_whyNot_14 : decode cX0_whyNot 14 = .ok (.getfield 12, 3) := by decide +kernel
theorem dX0_whyNot_17 : decode cX0_whyNot 17 = .ok (.getfield 36, 3) := by decide +kernel
theorem dX0_whyNot_20 : decode cX0_whyNot 20 = .ok (.iload_n 1, 1) := by decide +kernel
theorem dX0_whyNot_21 : decode cX0_whyNot 21 = .ok (.iaload, 1) := by decide +kernel
theorem dX0_whyNot_22 : decode cX0_whyNot 22 = .ok (.iconst 2, 1) := by decide +kernel
theorem dX0_whyNot_23 : decode cX0_whyNot 23 = .ok (.if_icmp .ne 7, 3) := by decide +kernel
theorem dX0_whyNot_26 : decode cX0_whyNot 26 = .ok (.iconst 1, 1) := by decide +kernel
theorem dX0_whyNot_27 : decode cX0_whyNot 27 = .ok (.goto 4, 3) := by decide +kernel
theorem dX0_whyNot_30 : decode cX0_whyNot 30 = .ok (.iconst 0, 1) := by decide +kernel
theorem dX0_whyNot_31 : decode cX0_whyNot 31 = .ok (.istore 6, 2) := by decide +kernel
theorem dX0_whyNot_33 : decode cX0_whyNot 33 = .ok (.iload 5, 2) := by decide +kernel
theorem dX0_whyNot_35 : decode cX0_whyNot 35 = .ok (.ifCond .lt 13, 3) := by decide +kernel
theorem dX0_whyNot_38 : decode cX0_whyNot 38 = .ok (.iload 6, 2) := by decide +kernel
theorem dX0_whyNot_40 : decode cX0_whyNot 40 = .ok (.ifCond .eq 10, 3) := by decide +kernel
theorem dX0_whyNot_43 : decode cX0_whyNot 43 = .ok (.iload_n 3, 1) := by decide +kernel
theorem dX0_whyNot_44 : decode cX0_whyNot 44 = .ok (.iconst 4, 1) := by decide +kernel
theorem dX0_whyNot_45 : decode cX0_whyNot 45 = .ok (.if_icmp .le 5, 3) := by decide +kernel
theorem dX0_whyNot_48 : decode cX0_whyNot 48 = .ok (.iconst 1, 1) := by decide +kernel
theorem dX0_whyNot_49 : decode cX0_whyNot 49 = .ok (.ireturn, 1) := by decide +kernel
theorem dX0_whyNot_50 : decode cX0_whyNot 50 = .ok (.aload_n 0, 1) := by decide +kernel
theorem dX0_whyNot_51 : decode cX0_whyNot 51 = .ok (.getfield 28, 3) := by decide +kernel
theorem dX0_whyNot_54 : decode cX0_whyNot 54 = .ok (.iload_n 1, 1) := by decide +kernel
theorem dX0_whyNot_55 : decode cX0_whyNot 55 = .ok (.iload_n 2, 1) := by decide +kernel
theorem dX0_whyNot_56 : decode cX0_whyNot 56 = .ok (.iload 4, 2) := by decide +kernel
theorem dX0_whyNot_58 : decode cX0_whyNot 58 = .ok (.invokevirtual 40, 3) := by decide +kernel
theorem dX0_whyNot_61 : decode cX0_whyNot 61 = .ok (.iload_n 3, 1) := by decide +kernel
theorem dX0_whyNot_62 : decode cX0_whyNot 62 = .ok (.iconst 1, 1) := by decide +kernel
theorem dX0_whyNot_63 : decode cX0_whyNot 63 = .ok (.isub, 1) := by decide +kernel
theorem dX0_whyNot_64 : decode cX0_whyNot 64 = .ok (.if_icmp .eq 5, 3) := by decide +kernel
theorem dX0_whyNot_67 : decode cX0_whyNot 67 = .ok (.iconst 2, 1) := by decide +kernel
theorem dX0_whyNot_68 : decode cX0_whyNot 68 = .ok (.ireturn, 1) := by decide +kernel
theorem dX0_whyNot_69 : decode cX0_whyNot 69 = .ok (.aload_n 0, 1) := by decide +kernel
theorem dX0_whyNot_70 : decode cX0_whyNot 70 = .ok (.getfield 12, 3) := by decide +kernel
theorem dX0_whyNot_73 : decode cX0_whyNot 73 = .ok (.getfield 43, 3) := by decide +kernel
theorem dX0_whyNot_76 : decode cX0_whyNot 76 = .ok (.iload_n 1, 1) := by decide +kernel
theorem dX0_whyNot_77 : decode cX0_whyNot 77 = .ok (.iaload, 1) := by decide +kernel
theorem dX0_whyNot_78 : decode cX0_whyNot 78 = .ok (.iload 4, 2) := by decide +kernel
theorem dX0_whyNot_80 : decode cX0_whyNot 80 = .ok (.if_icmp .ge 5, 3) := by decide +kernel
theorem dX0_whyNot_83 : decode cX0_whyNot 83 = .ok (.iconst 3, 1) := by decide +kernel
theorem dX0_whyNot_84 : decode cX0_whyNot 84 = .ok (.ireturn, 1) := by decide +kernel
theorem dX0_whyNot_85 : decode cX0_whyNot 85 = .ok (.iload 4, 2) := by decide +kernel
theorem dX0_whyNot_87 : decode cX0_whyNot 87 = .ok (.aload_n 0, 1) := by decide +kernel
theorem dX0_whyNot_88 : decode cX0_whyNot 88 = .ok (.getfield 12, 3) := by decide +kernel
theorem dX0_whyNot_91 : decode cX0_whyNot 91 = .ok (.getfield 46, 3) := by decide +kernel
theorem dX0_whyNot_94 : decode cX0_whyNot 94 = .ok (.iload_n 1, 1) := by decide +kernel
theorem dX0_whyNot_95 : decode cX0_whyNot 95 = .ok (.iaload, 1) := by decide +kernel
theorem dX0_whyNot_96 : decode cX0_whyNot 96 = .ok (.isub, 1) := by decide +kernel
theorem dX0_whyNot_97 : decode cX0_whyNot 97 = .ok (.aload_n 0, 1) := by decide +kernel
theorem dX0_whyNot_98 : decode cX0_whyNot 98 = .ok (.getfield 21, 3) := by decide +kernel
theorem dX0_whyNot_101 : decode cX0_whyNot 101 = .ok (.getfield 49, 3) := by decide +kernel
theorem dX0_whyNot_104 : decode cX0_whyNot 104 = .ok (.iload 5, 2) := by decide +kernel
theorem dX0_whyNot_106 : decode cX0_whyNot 106 = .ok (.iaload, 1) := by decide +kernel
theorem dX0_whyNot_107 : decode cX0_whyNot 107 = .ok (.if_icmp .ge 5, 3) := by decide +kernel
theorem dX0_whyNot_110 : decode cX0_whyNot 110 = .ok (.iconst 4, 1) := by decide +kernel
theorem dX0_whyNot_111 : decode cX0_whyNot 111 = .ok (.ireturn, 1) := by decide +kernel
theorem dX0_whyNot_112 : decode cX0_whyNot 112 = .ok (.aload_n 0, 1) := by decide +kernel
theorem dX0_whyNot_113 : decode cX0_whyNot 113 = .ok (.getfield 28, 3) := by decide +kernel
theorem dX0_whyNot_116 : decode cX0_whyNot 116 = .ok (.iload_n 1, 1) := by decide +kernel
theorem dX0_whyNot_117 : decode cX0_whyNot 117 = .ok (.iload 4, 2) := by decide +kernel
theorem dX0_whyNot_119 : decode cX0_whyNot 119 = .ok (.invokevirtual 52, 3) := by decide +kernel
theorem dX0_whyNot_122 : decode cX0_whyNot 122 = .ok (.istore 7, 2) := by decide +kernel
theorem dX0_whyNot_124 : decode cX0_whyNot 124 = .ok (.iload 6, 2) := by decide +kernel
theorem dX0_whyNot_126 : decode cX0_whyNot 126 = .ok (.ifCond .eq 18, 3) := by decide +kernel
theorem dX0_whyNot_129 : decode cX0_whyNot 129 = .ok (.aload_n 0, 1) := by decide +kernel
theorem dX0_whyNot_130 : decode cX0_whyNot 130 = .ok (.getfield 21, 3) := by decide +kernel
theorem dX0_whyNot_133 : decode cX0_whyNot 133 = .ok (.getfield 56, 3) := by decide +kernel
theorem dX0_whyNot_136 : decode cX0_whyNot 136 = .ok (.iload 5, 2) := by decide +kernel
theorem dX0_whyNot_138 : decode cX0_whyNot 138 = .ok (.iaload, 1) := by decide +kernel
theorem dX0_whyNot_139 : decode cX0_whyNot 139 = .ok (.iconst 2, 1) := by decide +kernel
theorem dX0_whyNot_140 : decode cX0_whyNot 140 = .ok (.idiv, 1) := by decide +kernel
theorem dX0_whyNot_141 : decode cX0_whyNot 141 = .ok (.goto 13, 3) := by decide +kernel
theorem dX0_whyNot_144 : decode cX0_whyNot 144 = .ok (.aload_n 0, 1) := by decide +kernel
theorem dX0_whyNot_145 : decode cX0_whyNot 145 = .ok (.getfield 21, 3) := by decide +kernel
theorem dX0_whyNot_148 : decode cX0_whyNot 148 = .ok (.getfield 56, 3) := by decide +kernel
theorem dX0_whyNot_151 : decode cX0_whyNot 151 = .ok (.iload 5, 2) := by decide +kernel
theorem dX0_whyNot_153 : decode cX0_whyNot 153 = .ok (.iaload, 1) := by decide +kernel
theorem dX0_whyNot_154 : decode cX0_whyNot 154 = .ok (.istore 8, 2) := by decide +kernel
theorem dX0_whyNot_156 : decode cX0_whyNot 156 = .ok (.iload 7, 2) := by decide +kernel
theorem dX0_whyNot_158 : decode cX0_whyNot 158 = .ok (.ifCond .lt 15, 3) := by decide +kernel
theorem dX0_whyNot_161 : decode cX0_whyNot 161 = .ok (.iload 4, 2) := by decide +kernel
theorem dX0_whyNot_163 : decode cX0_whyNot 163 = .ok (.iload 7, 2) := by decide +kernel
theorem dX0_whyNot_165 : decode cX0_whyNot 165 = .ok (.isub, 1) := by decide +kernel
theorem dX0_whyNot_166 : decode cX0_whyNot 166 = .ok (.iload 8, 2) := by decide +kernel
theorem dX0_whyNot_168 : decode cX0_whyNot 168 = .ok (.if_icmp .ge 5, 3) := by decide +kernel
theorem dX0_whyNot_171 : decode cX0_whyNot 171 = .ok (.iconst 5, 1) := by decide +kernel
theorem dX0_whyNot_172 : decode cX0_whyNot 172 = .ok (.ireturn, 1) := by decide +kernel
theorem dX0_whyNot_173 : decode cX0_whyNot 173 = .ok (.aload_n 0, 1) := by decide +kernel
theorem dX0_whyNot_174 : decode cX0_whyNot 174 = .ok (.getfield 12, 3) := by decide +kernel
theorem dX0_whyNot_177 : decode cX0_whyNot 177 = .ok (.iload_n 1, 1) := by decide +kernel
theorem dX0_whyNot_178 : decode cX0_whyNot 178 = .ok (.aload_n 0, 1) := by decide +kernel
theorem dX0_whyNot_179 : decode cX0_whyNot 179 = .ok (.getfield 21, 3) := by decide +kernel
theorem dX0_whyNot_182 : decode cX0_whyNot 182 = .ok (.getfield 59, 3) := by decide +kernel
theorem dX0_whyNot_185 : decode cX0_whyNot 185 = .ok (.iload 5, 2) := by decide +kernel
theorem dX0_whyNot_187 : decode cX0_whyNot 187 = .ok (.iaload, 1) := by decide +kernel
theorem dX0_whyNot_188 : decode cX0_whyNot 188 = .ok (.iload 7, 2) := by decide +kernel
theorem dX0_whyNot_190 : decode cX0_whyNot 190 = .ok (.iconst 0, 1) := by decide +kernel
theorem dX0_whyNot_191 : decode cX0_whyNot 191 = .ok (.invokestatic 62, 3) := by decide +kernel
theorem dX0_whyNot_194 : decode cX0_whyNot 194 = .ok (.iload 4, 2) := by decide +kernel
theorem dX0_whyNot_196 : decode cX0_whyNot 196 = .ok (.invokevirtual 67, 3) := by decide +kernel
theorem dX0_whyNot_199 : decode cX0_whyNot 199 = .ok (.ifCond .eq 7, 3) := by decide +kernel
theorem dX0_whyNot_202 : decode cX0_whyNot 202 = .ok (.iconst 0, 1) := by decide +kernel
theorem dX0_whyNot_203 : decode cX0_whyNot 203 = .ok (.goto 5, 3) := by decide +kernel
theorem dX0_whyNot_206 : decode cX0_whyNot 206 = .ok (.bipush 6, 2) := by decide +kernel
theorem dX0_whyNot_208 : decode cX0_whyNot 208 = .ok (.ireturn, 1) := by decide +kernel
theorem dX0_whyNoPanel_0 : decode cX0_whyNoPanel 0 = .ok (.iload 4, 2) := by decide +kernel
theorem dX0_whyNoPanel_2 : decode cX0_whyNoPanel 2 = .ok (.invokestatic 71, 3) := by decide +kernel
theorem dX0_whyNoPanel_5 : decode cX0_whyNoPanel 5 = .ok (.iconst 3, 1) := by decide +kernel
theorem dX0_whyNoPanel_6 : decode cX0_whyNoPanel 6 = .ok (.if_icmp .eq 5, 3) := by decide +kernel
theorem dX0_whyNoPanel_9 : decode cX0_whyNoPanel 9 = .ok (.iconst 1, 1) := by decide +kernel
theorem dX0_whyNoPanel_10 : decode cX0_whyNoPanel 10 = .ok (.ireturn, 1) := by decide +kernel
theorem dX0_whyNoPanel_11 : decode cX0_whyNoPanel 11 = .ok (.iconst 0, 1) := by decide +kernel
theorem dX0_whyNoPanel_12 : decode cX0_whyNoPanel 12 = .ok (.istore 6, 2) := by decide +kernel
theorem dX0_whyNoPanel_14 : decode cX0_whyNoPanel 14 = .ok (.iconst 0, 1) := by decide +kernel
theorem dX0_whyNoPanel_15 : decode cX0_whyNoPanel 15 = .ok (.istore 7, 2) := by decide +kernel
theorem dX0_whyNoPanel_17 : decode cX0_whyNoPanel 17 = .ok (.iload 7, 2) := by decide +kernel
theorem dX0_whyNoPanel_19 : decode cX0_whyNoPanel 19 = .ok (.aload_n 0, 1) := by decide +kernel
theorem dX0_whyNoPanel_20 : decode cX0_whyNoPanel 20 = .ok (.getfield 12, 3) := by decide +kernel
theorem dX0_whyNoPanel_23 : decode cX0_whyNoPanel 23 = .ok (.getfield 77, 3) := by decide +kernel
theorem dX0_whyNoPanel_26 : decode cX0_whyNoPanel 26 = .ok (.if_icmp .ge 53, 3) := by decide +kernel
theorem dX0_whyNoPanel_29 : decode cX0_whyNoPanel 29 = .ok (.iload 4, 2) := by decide +kernel
theorem dX0_whyNoPanel_31 : decode cX0_whyNoPanel 31 = .ok (.iload 7, 2) := by decide +kernel
theorem dX0_whyNoPanel_33 : decode cX0_whyNoPanel 33 = .ok (.ishr, 1) := by decide +kernel
theorem dX0_whyNoPanel_34 : decode cX0_whyNoPanel 34 = .ok (.iconst 1, 1) := by decide +kernel
theorem dX0_whyNoPanel_35 : decode cX0_whyNoPanel 35 = .ok (.iand, 1) := by decide +kernel
theorem dX0_whyNoPanel_36 : decode cX0_whyNoPanel 36 = .ok (.ifCond .eq 37, 3) := by decide +kernel
theorem dX0_whyNoPanel_39 : decode cX0_whyNoPanel 39 = .ok (.aload_n 0, 1) := by decide +kernel
theorem dX0_whyNoPanel_40 : decode cX0_whyNoPanel 40 = .ok (.iload_n 1, 1) := by decide +kernel
theorem dX0_whyNoPanel_41 : decode cX0_whyNoPanel 41 = .ok (.iload_n 2, 1) := by decide +kernel
theorem dX0_whyNoPanel_42 : decode cX0_whyNoPanel 42 = .ok (.iload_n 3, 1) := by decide +kernel
theorem dX0_whyNoPanel_43 : decode cX0_whyNoPanel 43 = .ok (.iload 7, 2) := by decide +kernel
theorem dX0_whyNoPanel_45 : decode cX0_whyNoPanel 45 = .ok (.iload 5, 2) := by decide +kernel
theorem dX0_whyNoPanel_47 : decode cX0_whyNoPanel 47 = .ok (.invokevirtual 81, 3) := by decide +kernel
theorem dX0_whyNoPanel_50 : decode cX0_whyNoPanel 50 = .ok (.istore 8, 2) := by decide +kernel
theorem dX0_whyNoPanel_52 : decode cX0_whyNoPanel 52 = .ok (.iload 8, 2) := by decide +kernel
theorem dX0_whyNoPanel_54 : decode cX0_whyNoPanel 54 = .ok (.ifCond .eq 19, 3) := by decide +kernel
theorem dX0_whyNoPanel_57 : decode cX0_whyNoPanel 57 = .ok (.iload 6, 2) := by decide +kernel
theorem dX0_whyNoPanel_59 : decode cX0_whyNoPanel 59 = .ok (.ifCond .eq 10, 3) := by decide +kernel
theorem dX0_whyNoPanel_62 : decode cX0_whyNoPanel 62 = .ok (.iload 8, 2) := by decide +kernel
theorem dX0_whyNoPanel_64 : decode cX0_whyNoPanel 64 = .ok (.iload 6, 2) := by decide +kernel
theorem dX0_whyNoPanel_66 : decode cX0_whyNoPanel 66 = .ok (.if_icmp .ge 7, 3) := by decide +kernel
theorem dX0_whyNoPanel_69 : decode cX0_whyNoPanel 69 = .ok (.iload 8, 2) := by decide +kernel
theorem dX0_whyNoPanel_71 : decode cX0_whyNoPanel 71 = .ok (.istore 6, 2) := by decide +kernel
theorem dX0_whyNoPanel_73 : decode cX0_whyNoPanel 73 = .ok (.iinc 7 1, 3) := by decide +kernel
theorem dX0_whyNoPanel_76 : decode cX0_whyNoPanel 76 = .ok (.goto (-59), 3) := by decide +kernel
theorem dX0_whyNoPanel_79 : decode cX0_whyNoPanel 79 = .ok (.iload 6, 2) := by decide +kernel
theorem dX0_whyNoPanel_81 : decode cX0_whyNoPanel 81 = .ok (.ireturn, 1) := by decide +kernel
theorem dX0_whyNoJudge_0 : decode cX0_whyNoJudge 0 = .ok (.aload_n 0, 1) := by decide +kernel
theorem dX0_whyNoJudge_1 : decode cX0_whyNoJudge 1 = .ok (.getfield 12, 3) := by decide +kernel
theorem dX0_whyNoJudge_4 : decode cX0_whyNoJudge 4 = .ok (.iload 4, 2) := by decide +kernel
theorem dX0_whyNoJudge_6 : decode cX0_whyNoJudge 6 = .ok (.invokevirtual 85, 3) := by decide +kernel
theorem dX0_whyNoJudge_9 : decode cX0_whyNoJudge 9 = .ok (.ifCond .ne 5, 3) := by decide +kernel
theorem dX0_whyNoJudge_12 : decode cX0_whyNoJudge 12 = .ok (.iconst 2, 1) := by decide +kernel
theorem dX0_whyNoJudge_13 : decode cX0_whyNoJudge 13 = .ok (.ireturn, 1) := by decide +kernel
theorem dX0_whyNoJudge_14 : decode cX0_whyNoJudge 14 = .ok (.iload 4, 2) := by decide +kernel
theorem dX0_whyNoJudge_16 : decode cX0_whyNoJudge 16 = .ok (.iload_n 1, 1) := by decide +kernel
theorem dX0_whyNoJudge_17 : decode cX0_whyNoJudge 17 = .ok (.if_icmp .eq 25, 3) := by decide +kernel
theorem dX0_whyNoJudge_20 : decode cX0_whyNoJudge 20 = .ok (.aload_n 0, 1) := by decide +kernel
theorem dX0_whyNoJudge_21 : decode cX0_whyNoJudge 21 = .ok (.getfield 12, 3) := by decide +kernel
theorem dX0_whyNoJudge_24 : decode cX0_whyNoJudge 24 = .ok (.getfield 89, 3) := by decide +kernel
theorem dX0_whyNoJudge_27 : decode cX0_whyNoJudge 27 = .ok (.iload 4, 2) := by decide +kernel
theorem dX0_whyNoJudge_29 : decode cX0_whyNoJudge 29 = .ok (.iaload, 1) := by decide +kernel
theorem dX0_whyNoJudge_30 : decode cX0_whyNoJudge 30 = .ok (.aload_n 0, 1) := by decide +kernel
theorem dX0_whyNoJudge_31 : decode cX0_whyNoJudge 31 = .ok (.getfield 12, 3) := by decide +kernel
theorem dX0_whyNoJudge_34 : decode cX0_whyNoJudge 34 = .ok (.getfield 89, 3) := by decide +kernel
theorem dX0_whyNoJudge_37 : decode cX0_whyNoJudge 37 = .ok (.iload_n 1, 1) := by decide +kernel
theorem dX0_whyNoJudge_38 : decode cX0_whyNoJudge 38 = .ok (.iaload, 1) := by decide +kernel
theorem dX0_whyNoJudge_39 : decode cX0_whyNoJudge 39 = .ok (.if_icmp .ne 5, 3) := by decide +kernel
theorem dX0_whyNoJudge_42 : decode cX0_whyNoJudge 42 = .ok (.iconst 3, 1) := by decide +kernel
theorem dX0_whyNoJudge_43 : decode cX0_whyNoJudge 43 = .ok (.ireturn, 1) := by decide +kernel
theorem dX0_whyNoJudge_44 : decode cX0_whyNoJudge 44 = .ok (.aload_n 0, 1) := by decide +kernel
theorem dX0_whyNoJudge_45 : decode cX0_whyNoJudge 45 = .ok (.getfield 12, 3) := by decide +kernel
theorem dX0_whyNoJudge_48 : decode cX0_whyNoJudge 48 = .ok (.getfield 43, 3) := by decide +kernel
theorem dX0_whyNoJudge_51 : decode cX0_whyNoJudge 51 = .ok (.iload 4, 2) := by decide +kernel
theorem dX0_whyNoJudge_53 : decode cX0_whyNoJudge 53 = .ok (.iaload, 1) := by decide +kernel
theorem dX0_whyNoJudge_54 : decode cX0_whyNoJudge 54 = .ok (.iload_n 3, 1) := by decide +kernel
theorem dX0_whyNoJudge_55 : decode cX0_whyNoJudge 55 = .ok (.if_icmp .ge 5, 3) := by decide +kernel
theorem dX0_whyNoJudge_58 : decode cX0_whyNoJudge 58 = .ok (.iconst 4, 1) := by decide +kernel
theorem dX0_whyNoJudge_59 : decode cX0_whyNoJudge 59 = .ok (.ireturn, 1) := by decide +kernel
theorem dX0_whyNoJudge_60 : decode cX0_whyNoJudge 60 = .ok (.aload_n 0, 1) := by decide +kernel
theorem dX0_whyNoJudge_61 : decode cX0_whyNoJudge 61 = .ok (.getfield 28, 3) := by decide +kernel
theorem dX0_whyNoJudge_64 : decode cX0_whyNoJudge 64 = .ok (.getfield 92, 3) := by decide +kernel
theorem dX0_whyNoJudge_67 : decode cX0_whyNoJudge 67 = .ok (.iconst 1, 1) := by decide +kernel
theorem dX0_whyNoJudge_68 : decode cX0_whyNoJudge 68 = .ok (.iload 4, 2) := by decide +kernel
theorem dX0_whyNoJudge_70 : decode cX0_whyNoJudge 70 = .ok (.ishl, 1) := by decide +kernel
theorem dX0_whyNoJudge_71 : decode cX0_whyNoJudge 71 = .ok (.iload_n 3, 1) := by decide +kernel
theorem dX0_whyNoJudge_72 : decode cX0_whyNoJudge 72 = .ok (.iload_n 3, 1) := by decide +kernel
theorem dX0_whyNoJudge_73 : decode cX0_whyNoJudge 73 = .ok (.invokevirtual 96, 3) := by decide +kernel
theorem dX0_whyNoJudge_76 : decode cX0_whyNoJudge 76 = .ok (.ifCond .eq 5, 3) := by decide +kernel
theorem dX0_whyNoJudge_79 : decode cX0_whyNoJudge 79 = .ok (.iconst 5, 1) := by decide +kernel
theorem dX0_whyNoJudge_80 : decode cX0_whyNoJudge 80 = .ok (.ireturn, 1) := by decide +kernel
theorem dX0_whyNoJudge_81 : decode cX0_whyNoJudge 81 = .ok (.aload_n 0, 1) := by decide +kernel
theorem dX0_whyNoJudge_82 : decode cX0_whyNoJudge 82 = .ok (.getfield 28, 3) := by decide +kernel
theorem dX0_whyNoJudge_85 : decode cX0_whyNoJudge 85 = .ok (.iload 4, 2) := by decide +kernel
theorem dX0_whyNoJudge_87 : decode cX0_whyNoJudge 87 = .ok (.iload_n 2, 1) := by decide +kernel
theorem dX0_whyNoJudge_88 : decode cX0_whyNoJudge 88 = .ok (.iload_n 3, 1) := by decide +kernel
theorem dX0_whyNoJudge_89 : decode cX0_whyNoJudge 89 = .ok (.invokevirtual 40, 3) := by decide +kernel
theorem dX0_whyNoJudge_92 : decode cX0_whyNoJudge 92 = .ok (.iload 5, 2) := by decide +kernel
theorem dX0_whyNoJudge_94 : decode cX0_whyNoJudge 94 = .ok (.if_icmp .ge 8, 3) := by decide +kernel
theorem dX0_whyNoJudge_97 : decode cX0_whyNoJudge 97 = .ok (.bipush 6, 2) := by decide +kernel
theorem dX0_whyNoJudge_99 : decode cX0_whyNoJudge 99 = .ok (.goto 4, 3) := by decide +kernel
theorem dX0_whyNoJudge_102 : decode cX0_whyNoJudge 102 = .ok (.iconst 0, 1) := by decide +kernel
theorem dX0_whyNoJudge_103 : decode cX0_whyNoJudge 103 = .ok (.ireturn, 1) := by decide +kernel
theorem dX1_init_0 : decode cX1_init 0 = .ok (.aload_n 0, 1) := by decide +kernel
theorem dX1_init_1 : decode cX1_init 1 = .ok (.invokespecial 3, 3) := by decide +kernel
theorem dX1_init_4 : decode cX1_init 4 = .ok (.aload_n 0, 1) := by decide +kernel
theorem dX1_init_5 : decode cX1_init 5 = .ok (.iconst 4, 1) := by decide +kernel
theorem dX1_init_6 : decode cX1_init 6 = .ok (.newarray .int, 2) := by decide +kernel
theorem dX1_init_8 : decode cX1_init 8 = .ok (.putfield 9, 3) := by decide +kernel
theorem dX1_init_11 : decode cX1_init 11 = .ok (.aload_n 0, 1) := by decide +kernel
theorem dX1_init_12 : decode cX1_init 12 = .ok (.bipush 80, 2) := by decide +kernel
theorem dX1_init_14 : decode cX1_init 14 = .ok (.newarray .int, 2) := by decide +kernel
theorem dX1_init_16 : decode cX1_init 16 = .ok (.putfield 15, 3) := by decide +kernel
theorem dX1_init_19 : decode cX1_init 19 = .ok (.aload_n 0, 1) := by decide +kernel
theorem dX1_init_20 : decode cX1_init 20 = .ok (.iconst 4, 1) := by decide +kernel
theorem dX1_init_21 : decode cX1_init 21 = .ok (.newarray .int, 2) := by decide +kernel
theorem dX1_init_23 : decode cX1_init 23 = .ok (.putfield 18, 3) := by decide +kernel
theorem dX1_init_26 : decode cX1_init 26 = .ok (.aload_n 0, 1) := by decide +kernel
theorem dX1_init_27 : decode cX1_init 27 = .ok (.iconst 4, 1) := by decide +kernel
theorem dX1_init_28 : decode cX1_init 28 = .ok (.newarray .int, 2) := by decide +kernel
theorem dX1_init_30 : decode cX1_init 30 = .ok (.putfield 21, 3) := by decide +kernel
theorem dX1_init_33 : decode cX1_init 33 = .ok (.aload_n 0, 1) := by decide +kernel
theorem dX1_init_34 : decode cX1_init 34 = .ok (.bipush 6, 2) := by decide +kernel
theorem dX1_init_36 : decode cX1_init 36 = .ok (.newarray .int, 2) := by decide +kernel
theorem dX1_init_38 : decode cX1_init 38 = .ok (.putfield 24, 3) := by decide +kernel
theorem dX1_init_41 : decode cX1_init 41 = .ok (.return_, 1) := by decide +kernel
theorem dX1_holds_0 : decode cX1_holds 0 = .ok (.iconst 0, 1) := by decide +kernel
theorem dX1_holds_1 : decode cX1_holds 1 = .ok (.istore_n 2, 1) := by decide +kernel
theorem dX1_holds_2 : decode cX1_holds 2 = .ok (.iload_n 2, 1) := by decide +kernel
theorem dX1_holds_3 : decode cX1_holds 3 = .ok (.aload_n 0, 1) := by decide +kernel
theorem dX1_holds_4 : decode cX1_holds 4 = .ok (.getfield 27, 3) := by decide +kernel
theorem dX1_holds_7 : decode cX1_holds 7 = .ok (.if_icmp .ge 21, 3) := by decide +kernel
theorem dX1_holds_10 : decode cX1_holds 10 = .ok (.aload_n 0, 1) := by decide +kernel
theorem dX1_holds_11 : decode cX1_holds 11 = .ok (.getfield 9, 3) := by decide +kernel
theorem dX1_holds_14 : decode cX1_holds 14 = .ok (.iload_n 2, 1) := by decide +kernel
theorem dX1_holds_15 : decode cX1_holds 15 = .ok (.iaload, 1) := by decide +kernel
theorem dX1_holds_16 : decode cX1_holds 16 = .ok (.iload_n 1, 1) := by decide +kernel
theorem dX1_holds_17 : decode cX1_holds 17 = .ok (.if_icmp .ne 5, 3) := by decide +kernel
theorem dX1_holds_20 : decode cX1_holds 20 = .ok (.iconst 1, 1) := by decide +kernel
theorem dX1_holds_21 : decode cX1_holds 21 = .ok (.ireturn, 1) := by decide +kernel
theorem dX1_holds_22 : decode cX1_holds 22 = .ok (.iinc 2 1, 3) := by decide +kernel
theorem dX1_holds_25 : decode cX1_holds 25 = .ok (.goto (-23), 3) := by decide +kernel
theorem dX1_holds_28 : decode cX1_holds 28 = .ok (.iconst 0, 1) := by decide +kernel
theorem dX1_holds_29 : decode cX1_holds 29 = .ok (.ireturn, 1) := by decide +kernel
theorem dX1_add_0 : decode cX1_add 0 = .ok (.aload_n 0, 1) := by decide +kernel
theorem dX1_add_1 : decode cX1_add 1 = .ok (.getfield 9, 3) := by decide +kernel
theorem dX1_add_4 : decode cX1_add 4 = .ok (.aload_n 0, 1) := by decide +kernel
theorem dX1_add_5 : decode cX1_add 5 = .ok (.getfield 27, 3) := by decide +kernel
theorem dX1_add_8 : decode cX1_add 8 = .ok (.iload_n 1, 1) := by decide +kernel
theorem dX1_add_9 : decode cX1_add 9 = .ok (.iastore, 1) := by decide +kernel
theorem dX1_add_10 : decode cX1_add 10 = .ok (.aload_n 0, 1) := by decide +kernel
theorem dX1_add_11 : decode cX1_add 11 = .ok (.dup, 1) := by decide +kernel
theorem dX1_add_12 : decode cX1_add 12 = .ok (.getfield 27, 3) := by decide +kernel
theorem dX1_add_15 : decode cX1_add 15 = .ok (.iconst 1, 1) := by decide +kernel
theorem dX1_add_16 : decode cX1_add 16 = .ok (.iadd, 1) := by decide +kernel
theorem dX1_add_17 : decode cX1_add 17 = .ok (.putfield 27, 3) := by decide +kernel
theorem dX1_add_20 : decode cX1_add 20 = .ok (.aload_n 0, 1) := by decide +kernel
theorem dX1_add_21 : decode cX1_add 21 = .ok (.iconst 0, 1) := by decide +kernel
theorem dX1_add_22 : decode cX1_add 22 = .ok (.putfield 31, 3) := by decide +kernel
theorem dX1_add_25 : decode cX1_add 25 = .ok (.return_, 1) := by decide +kernel
theorem dX1_clear_0 : decode cX1_clear 0 = .ok (.aload_n 0, 1) := by decide +kernel
theorem dX1_clear_1 : decode cX1_clear 1 = .ok (.iconst 0, 1) := by decide +kernel
theorem dX1_clear_2 : decode cX1_clear 2 = .ok (.putfield 27, 3) := by decide +kernel
theorem dX1_clear_5 : decode cX1_clear 5 = .ok (.aload_n 0, 1) := by decide +kernel
theorem dX1_clear_6 : decode cX1_clear 6 = .ok (.iconst 0, 1) := by decide +kernel
theorem dX1_clear_7 : decode cX1_clear 7 = .ok (.putfield 31, 3) := by decide +kernel
theorem dX1_clear_10 : decode cX1_clear 10 = .ok (.return_, 1) := by decide +kernel
theorem dX1_seat_0 : decode cX1_seat 0 = .ok (.iconst 0, 1) := by decide +kernel
theorem dX1_seat_1 : decode cX1_seat 1 = .ok (.istore 5, 2) := by decide +kernel
theorem dX1_seat_3 : decode cX1_seat 3 = .ok (.iload 5, 2) := by decide +kernel
theorem dX1_seat_5 : decode cX1_seat 5 = .ok (.aload_n 0, 1) := by decide +kernel
theorem dX1_seat_6 : decode cX1_seat 6 = .ok (.getfield 27, 3) := by decide +kernel
theorem dX1_seat_9 : decode cX1_seat 9 = .ok (.if_icmp .ge 18, 3) := by decide +kernel
theorem dX1_seat_12 : decode cX1_seat 12 = .ok (.aload_n 0, 1) := by decide +kernel
theorem dX1_seat_13 : decode cX1_seat 13 = .ok (.aload_n 1, 1) := by decide +kernel
theorem dX1_seat_14 : decode cX1_seat 14 = .ok (.iload 5, 2) := by decide +kernel
theorem dX1_seat_16 : decode cX1_seat 16 = .ok (.iload_n 2, 1) := by decide +kernel
theorem dX1_seat_17 : decode cX1_seat 17 = .ok (.iload_n 3, 1) := by decide +kernel
theorem dX1_seat_18 : decode cX1_seat 18 = .ok (.invokevirtual 35, 3) := by decide +kernel
theorem dX1_seat_21 : decode cX1_seat 21 = .ok (.iinc 5 1, 3) := by decide +kernel
theorem dX1_seat_24 : decode cX1_seat 24 = .ok (.goto (-21), 3) := by decide +kernel
theorem dX1_seat_27 : decode cX1_seat 27 = .ok (.aload_n 0, 1) := by decide +kernel
theorem dX1_seat_28 : decode cX1_seat 28 = .ok (.iconst 1, 1) := by decide +kernel
theorem dX1_seat_29 : decode cX1_seat 29 = .ok (.putfield 31, 3) := by decide +kernel
theorem dX1_seat_32 : decode cX1_seat 32 = .ok (.aload_n 0, 1) := by decide +kernel
theorem dX1_seat_33 : decode cX1_seat 33 = .ok (.getfield 27, 3) := by decide +kernel
theorem dX1_seat_36 : decode cX1_seat 36 = .ok (.istore 5, 2) := by decide +kernel
theorem dX1_seat_38 : decode cX1_seat 38 = .ok (.iload 5, 2) := by decide +kernel
theorem dX1_seat_40 : decode cX1_seat 40 = .ok (.ifCond .le 21, 3) := by decide +kernel
theorem dX1_seat_43 : decode cX1_seat 43 = .ok (.aload_n 0, 1) := by decide +kernel
theorem dX1_seat_44 : decode cX1_seat 44 = .ok (.iconst 0, 1) := by decide +kernel
theorem dX1_seat_45 : decode cX1_seat 45 = .ok (.iload 5, 2) := by decide +kernel
theorem dX1_seat_47 : decode cX1_seat 47 = .ok (.iload 4, 2) := by decide +kernel
theorem dX1_seat_49 : decode cX1_seat 49 = .ok (.invokevirtual 39, 3) := by decide +kernel
theorem dX1_seat_52 : decode cX1_seat 52 = .ok (.ifCond .ne 9, 3) := by decide +kernel
theorem dX1_seat_55 : decode cX1_seat 55 = .ok (.iinc 5 (-1), 3) := by decide +kernel
theorem dX1_seat_58 : decode cX1_seat 58 = .ok (.goto (-20), 3) := by decide +kernel
theorem dX1_seat_61 : decode cX1_seat 61 = .ok (.iload 5, 2) := by decide +kernel
theorem dX1_seat_63 : decode cX1_seat 63 = .ok (.ifCond .ne 11, 3) := by decide +kernel
theorem dX1_seat_66 : decode cX1_seat 66 = .ok (.aload_n 0, 1) := by decide +kernel
theorem dX1_seat_67 : decode cX1_seat 67 = .ok (.getfield 21, 3) := by decide +kernel
theorem dX1_seat_70 : decode cX1_seat 70 = .ok (.iconst 0, 1) := by decide +kernel
theorem dX1_seat_71 : decode cX1_seat 71 = .ok (.invokestatic 43, 3) := by decide +kernel
theorem dX1_seat_74 : decode cX1_seat 74 = .ok (.iload 5, 2) := by decide +kernel
theorem dX1_seat_76 : decode cX1_seat 76 = .ok (.ireturn, 1) := by decide +kernel
theorem dX1_listOptions_0 : decode cX1_listOptions 0 = .ok (.aload_n 0, 1) := by decide +kernel
theorem dX1_listOptions_1 : decode cX1_listOptions 1 = .ok (.getfield 18, 3) := by decide +kernel
theorem dX1_listOptions_4 : decode cX1_listOptions 4 = .ok (.iload_n 2, 1) := by decide +kernel
theorem dX1_listOptions_5 : decode cX1_listOptions 5 = .ok (.iconst 0, 1) := by decide +kernel
theorem dX1_listOptions_6 : decode cX1_listOptions 6 = .ok (.iastore, 1) := by decide +kernel
theorem dX1_listOptions_7 : decode cX1_listOptions 7 = .ok (.aload_n 0, 1) := by decide +kernel
theorem dX1_listOptions_8 : decode cX1_listOptions 8 = .ok (.getfield 9, 3) := by decide +kernel
theorem dX1_listOptions_11 : decode cX1_listOptions 11 = .ok (.iload_n 2, 1) := by decide +kernel
theorem dX1_listOptions_12 : decode cX1_listOptions 12 = .ok (.iaload, 1) := by decide +kernel
theorem dX1_listOptions_13 : decode cX1_listOptions 13 = .ok (.istore 5, 2) := by decide +kernel
theorem dX1_listOptions_15 : decode cX1_listOptions 15 = .ok (.aload_n 1, 1) := by decide +kernel
theorem dX1_listOptions_16 : decode cX1_listOptions 16 = .ok (.getfield 49, 3) := by decide +kernel
theorem dX1_listOptions_19 : decode cX1_listOptions 19 = .ok (.iload 5, 2) := by decide +kernel
theorem dX1_listOptions_21 : decode cX1_listOptions 21 = .ok (.iload_n 3, 1) := by decide +kernel
theorem dX1_listOptions_22 : decode cX1_listOptions 22 = .ok (.iload 4, 2) := by decide +kernel
theorem dX1_listOptions_24 : decode cX1_listOptions 24 = .ok (.invokevirtual 55, 3) := by decide +kernel
theorem dX1_listOptions_27 : decode cX1_listOptions 27 = .ok (.iconst 1, 1) := by decide +kernel
theorem dX1_listOptions_28 : decode cX1_listOptions 28 = .ok (.iadd, 1) := by decide +kernel
theorem dX1_listOptions_29 : decode cX1_listOptions 29 = .ok (.istore 6, 2) := by decide +kernel
theorem dX1_listOptions_31 : decode cX1_listOptions 31 = .ok (.aload_n 1, 1) := by decide +kernel
theorem dX1_listOptions_32 : decode cX1_listOptions 32 = .ok (.getfield 61, 3) := by decide +kernel
theorem dX1_listOptions_35 : decode cX1_listOptions 35 = .ok (.iload_n 3, 1) := by decide +kernel
theorem dX1_listOptions_36 : decode cX1_listOptions 36 = .ok (.iload 6, 2) := by decide +kernel
theorem dX1_listOptions_38 : decode cX1_listOptions 38 = .ok (.iload 4, 2) := by decide +kernel
theorem dX1_listOptions_40 : decode cX1_listOptions 40 = .ok (.invokevirtual 65, 3) := by decide +kernel
theorem dX1_listOptions_43 : decode cX1_listOptions 43 = .ok (.istore 7, 2) := by decide +kernel
theorem dX1_listOptions_45 : decode cX1_listOptions 45 = .ok (.iload 7, 2) := by decide +kernel
theorem dX1_listOptions_47 : decode cX1_listOptions 47 = .ok (.ifCond .lt 17, 3) := by decide +kernel
theorem dX1_listOptions_50 : decode cX1_listOptions 50 = .ok (.aload_n 1, 1) := by decide +kernel
theorem dX1_listOptions_51 : decode cX1_listOptions 51 = .ok (.iload 5, 2) := by decide +kernel
theorem dX1_listOptions_53 : decode cX1_listOptions 53 = .ok (.iload_n 3, 1) := by decide +kernel
theorem dX1_listOptions_54 : decode cX1_listOptions 54 = .ok (.iload 6, 2) := by decide +kernel
theorem dX1_listOptions_56 : decode cX1_listOptions 56 = .ok (.iload 4, 2) := by decide +kernel
theorem dX1_listOptions_58 : decode cX1_listOptions 58 = .ok (.invokevirtual 70, 3) := by decide +kernel
theorem dX1_listOptions_61 : decode cX1_listOptions 61 = .ok (.ifCond .eq 4, 3) := by decide +kernel
theorem dX1_listOptions_64 : decode cX1_listOptions 64 = .ok (.return_, 1) := by decide +kernel
theorem dX1_listOptions_65 : decode cX1_listOptions 65 = .ok (.iconst 0, 1) := by decide +kernel
theorem dX1_listOptions_66 : decode cX1_listOptions 66 = .ok (.istore 8, 2) := by decide +kernel
theorem dX1_listOptions_68 : decode cX1_listOptions 68 = .ok (.iconst 0, 1) := by decide +kernel
theorem dX1_listOptions_69 : decode cX1_listOptions 69 = .ok (.istore 9, 2) := by decide +kernel
theorem dX1_listOptions_71 : decode cX1_listOptions 71 = .ok (.iload 9, 2) := by decide +kernel
theorem dX1_listOptions_73 : decode cX1_listOptions 73 = .ok (.aload_n 1, 1) := by decide +kernel
theorem dX1_listOptions_74 : decode cX1_listOptions 74 = .ok (.getfield 74, 3) := by decide +kernel
theorem dX1_listOptions_77 : decode cX1_listOptions 77 = .ok (.getfield 78, 3) := by decide +kernel
theorem dX1_listOptions_80 : decode cX1_listOptions 80 = .ok (.if_icmp .ge 52, 3) := by decide +kernel
theorem dX1_listOptions_83 : decode cX1_listOptions 83 = .ok (.iload 8, 2) := by decide +kernel
theorem dX1_listOptions_85 : decode cX1_listOptions 85 = .ok (.bipush 6, 2) := by decide +kernel
theorem dX1_listOptions_87 : decode cX1_listOptions 87 = .ok (.if_icmp .ge 39, 3) := by decide +kernel
theorem dX1_listOptions_90 : decode cX1_listOptions 90 = .ok (.aload_n 1, 1) := by decide +kernel
theorem dX1_listOptions_91 : decode cX1_listOptions 91 = .ok (.iload 5, 2) := by decide +kernel
theorem dX1_listOptions_93 : decode cX1_listOptions 93 = .ok (.iload_n 3, 1) := by decide +kernel
theorem dX1_listOptions_94 : decode cX1_listOptions 94 = .ok (.iload 4, 2) := by decide +kernel
theorem dX1_listOptions_96 : decode cX1_listOptions 96 = .ok (.iload 9, 2) := by decide +kernel
theorem dX1_listOptions_98 : decode cX1_listOptions 98 = .ok (.aload_n 1, 1) := by decide +kernel
theorem dX1_listOptions_99 : decode cX1_listOptions 99 = .ok (.getfield 61, 3) := by decide +kernel
theorem dX1_listOptions_102 : decode cX1_listOptions 102 = .ok (.getfield 81, 3) := by decide +kernel
theorem dX1_listOptions_105 : decode cX1_listOptions 105 = .ok (.iload 7, 2) := by decide +kernel
theorem dX1_listOptions_107 : decode cX1_listOptions 107 = .ok (.iaload, 1) := by decide +kernel
theorem dX1_listOptions_108 : decode cX1_listOptions 108 = .ok (.invokevirtual 84, 3) := by decide +kernel
theorem dX1_listOptions_111 : decode cX1_listOptions 111 = .ok (.ifCond .ne 15, 3) := by decide +kernel
theorem dX1_listOptions_114 : decode cX1_listOptions 114 = .ok (.aload_n 0, 1) := by decide +kernel
theorem dX1_listOptions_115 : decode cX1_listOptions 115 = .ok (.getfield 24, 3) := by decide +kernel
theorem dX1_listOptions_118 : decode cX1_listOptions 118 = .ok (.iload 8, 2) := by decide +kernel
theorem dX1_listOptions_120 : decode cX1_listOptions 120 = .ok (.iload 9, 2) := by decide +kernel
theorem dX1_listOptions_122 : decode cX1_listOptions 122 = .ok (.iastore, 1) := by decide +kernel
theorem dX1_listOptions_123 : decode cX1_listOptions 123 = .ok (.iinc 8 1, 3) := by decide +kernel
theorem dX1_listOptions_126 : decode cX1_listOptions 126 = .ok (.iinc 9 1, 3) := by decide +kernel
theorem dX1_listOptions_129 : decode cX1_listOptions 129 = .ok (.goto (-58), 3) := by decide +kernel
theorem dX1_listOptions_132 : decode cX1_listOptions 132 = .ok (.aload_n 0, 1) := by decide +kernel
theorem dX1_listOptions_133 : decode cX1_listOptions 133 = .ok (.iload_n 2, 1) := by decide +kernel
theorem dX1_listOptions_134 : decode cX1_listOptions 134 = .ok (.iload 8, 2) := by decide +kernel
theorem dX1_listOptions_136 : decode cX1_listOptions 136 = .ok (.invokevirtual 88, 3) := by decide +kernel
theorem dX1_listOptions_139 : decode cX1_listOptions 139 = .ok (.return_, 1) := by decide +kernel
theorem dX1_listPanels_0 : decode cX1_listPanels 0 = .ok (.iconst 2, 1) := by decide +kernel
theorem dX1_listPanels_1 : decode cX1_listPanels 1 = .ok (.istore_n 3, 1) := by decide +kernel
theorem dX1_listPanels_2 : decode cX1_listPanels 2 = .ok (.iload_n 3, 1) := by decide +kernel
theorem dX1_listPanels_3 : decode cX1_listPanels 3 = .ok (.iload_n 2, 1) := by decide +kernel
theorem dX1_listPanels_4 : decode cX1_listPanels 4 = .ok (.if_icmp .ge 98, 3) := by decide +kernel
theorem dX1_listPanels_7 : decode cX1_listPanels 7 = .ok (.iconst 1, 1) := by decide +kernel
theorem dX1_listPanels_8 : decode cX1_listPanels 8 = .ok (.istore 4, 2) := by decide +kernel
theorem dX1_listPanels_10 : decode cX1_listPanels 10 = .ok (.iload 4, 2) := by decide +kernel
theorem dX1_listPanels_12 : decode cX1_listPanels 12 = .ok (.iload_n 3, 1) := by decide +kernel
theorem dX1_listPanels_13 : decode cX1_listPanels 13 = .ok (.if_icmp .ge 83, 3) := by decide +kernel
theorem dX1_listPanels_16 : decode cX1_listPanels 16 = .ok (.iconst 0, 1) := by decide +kernel
theorem dX1_listPanels_17 : decode cX1_listPanels 17 = .ok (.istore 5, 2) := by decide +kernel
theorem dX1_listPanels_19 : decode cX1_listPanels 19 = .ok (.iload 5, 2) := by decide +kernel
theorem dX1_listPanels_21 : decode cX1_listPanels 21 = .ok (.iload 4, 2) := by decide +kernel
theorem dX1_listPanels_23 : decode cX1_listPanels 23 = .ok (.if_icmp .ge 67, 3) := by decide +kernel
theorem dX1_listPanels_26 : decode cX1_listPanels 26 = .ok (.iconst 1, 1) := by decide +kernel
theorem dX1_listPanels_27 : decode cX1_listPanels 27 = .ok (.aload_n 0, 1) := by decide +kernel
theorem dX1_listPanels_28 : decode cX1_listPanels 28 = .ok (.getfield 24, 3) := by decide +kernel
theorem dX1_listPanels_31 : decode cX1_listPanels 31 = .ok (.iload 5, 2) := by decide +kernel
theorem dX1_listPanels_33 : decode cX1_listPanels 33 = .ok (.iaload, 1) := by decide +kernel
theorem dX1_listPanels_34 : decode cX1_listPanels 34 = .ok (.ishl, 1) := by decide +kernel
theorem dX1_listPanels_35 : decode cX1_listPanels 35 = .ok (.iconst 1, 1) := by decide +kernel
theorem dX1_listPanels_36 : decode cX1_listPanels 36 = .ok (.aload_n 0, 1) := by decide +kernel
theorem dX1_listPanels_37 : decode cX1_listPanels 37 = .ok (.getfield 24, 3) := by decide +kernel
theorem dX1_listPanels_40 : decode cX1_listPanels 40 = .ok (.iload 4, 2) := by decide +kernel
theorem dX1_listPanels_42 : decode cX1_listPanels 42 = .ok (.iaload, 1) := by decide +kernel
theorem dX1_listPanels_43 : decode cX1_listPanels 43 = .ok (.ishl, 1) := by decide +kernel
theorem dX1_listPanels_44 : decode cX1_listPanels 44 = .ok (.ior, 1) := by decide +kernel
theorem dX1_listPanels_45 : decode cX1_listPanels 45 = .ok (.iconst 1, 1) := by decide +kernel
theorem dX1_listPanels_46 : decode cX1_listPanels 46 = .ok (.aload_n 0, 1) := by decide +kernel
theorem dX1_listPanels_47 : decode cX1_listPanels 47 = .ok (.getfield 24, 3) := by decide +kernel
theorem dX1_listPanels_50 : decode cX1_listPanels 50 = .ok (.iload_n 3, 1) := by decide +kernel
theorem dX1_listPanels_51 : decode cX1_listPanels 51 = .ok (.iaload, 1) := by decide +kernel
theorem dX1_listPanels_52 : decode cX1_listPanels 52 = .ok (.ishl, 1) := by decide +kernel
theorem dX1_listPanels_53 : decode cX1_listPanels 53 = .ok (.ior, 1) := by decide +kernel
theorem dX1_listPanels_54 : decode cX1_listPanels 54 = .ok (.istore 6, 2) := by decide +kernel
theorem dX1_listPanels_56 : decode cX1_listPanels 56 = .ok (.aload_n 0, 1) := by decide +kernel
theorem dX1_listPanels_57 : decode cX1_listPanels 57 = .ok (.getfield 15, 3) := by decide +kernel
theorem dX1_listPanels_60 : decode cX1_listPanels 60 = .ok (.iload_n 1, 1) := by decide +kernel
theorem dX1_listPanels_61 : decode cX1_listPanels 61 = .ok (.bipush 20, 2) := by decide +kernel
theorem dX1_listPanels_63 : decode cX1_listPanels 63 = .ok (.imul, 1) := by decide +kernel
theorem dX1_listPanels_64 : decode cX1_listPanels 64 = .ok (.aload_n 0, 1) := by decide +kernel
theorem dX1_listPanels_65 : decode cX1_listPanels 65 = .ok (.getfield 18, 3) := by decide +kernel
theorem dX1_listPanels_68 : decode cX1_listPanels 68 = .ok (.iload_n 1, 1) := by decide +kernel
theorem dX1_listPanels_69 : decode cX1_listPanels 69 = .ok (.iaload, 1) := by decide +kernel
theorem dX1_listPanels_70 : decode cX1_listPanels 70 = .ok (.iadd, 1) := by decide +kernel
theorem dX1_listPanels_71 : decode cX1_listPanels 71 = .ok (.iload 6, 2) := by decide +kernel
theorem dX1_listPanels_73 : decode cX1_listPanels 73 = .ok (.iastore, 1) := by decide +kernel
theorem dX1_listPanels_74 : decode cX1_listPanels 74 = .ok (.aload_n 0, 1) := by decide +kernel
theorem dX1_listPanels_75 : decode cX1_listPanels 75 = .ok (.getfield 18, 3) := by decide +kernel
theorem dX1_listPanels_78 : decode cX1_listPanels 78 = .ok (.iload_n 1, 1) := by decide +kernel
theorem dX1_listPanels_79 : decode cX1_listPanels 79 = .ok (.dup2, 1) := by decide +kernel
theorem dX1_listPanels_80 : decode cX1_listPanels 80 = .ok (.iaload, 1) := by decide +kernel
theorem dX1_listPanels_81 : decode cX1_listPanels 81 = .ok (.iconst 1, 1) := by decide +kernel
theorem dX1_listPanels_82 : decode cX1_listPanels 82 = .ok (.iadd, 1) := by decide +kernel
theorem dX1_listPanels_83 : decode cX1_listPanels 83 = .ok (.iastore, 1) := by decide +kernel
theorem dX1_listPanels_84 : decode cX1_listPanels 84 = .ok (.iinc 5 1, 3) := by decide +kernel
theorem dX1_listPanels_87 : decode cX1_listPanels 87 = .ok (.goto (-68), 3) := by decide +kernel
theorem dX1_listPanels_90 : decode cX1_listPanels 90 = .ok (.iinc 4 1, 3) := by decide +kernel
theorem dX1_listPanels_93 : decode cX1_listPanels 93 = .ok (.goto (-83), 3) := by decide +kernel
theorem dX1_listPanels_96 : decode cX1_listPanels 96 = .ok (.iinc 3 1, 3) := by decide +kernel
theorem dX1_listPanels_99 : decode cX1_listPanels 99 = .ok (.goto (-97), 3) := by decide +kernel
theorem dX1_listPanels_102 : decode cX1_listPanels 102 = .ok (.return_, 1) := by decide +kernel
theorem dX1_place_0 : decode cX1_place 0 = .ok (.iload_n 2, 1) := by decide +kernel
theorem dX1_place_1 : decode cX1_place 1 = .ok (.aload_n 0, 1) := by decide +kernel
theorem dX1_place_2 : decode cX1_place 2 = .ok (.iload_n 1, 1) := by decide +kernel
theorem dX1_place_3 : decode cX1_place 3 = .ok (.invokevirtual 92, 3) := by decide +kernel
theorem dX1_place_6 : decode cX1_place 6 = .ok (.if_icmp .le 5, 3) := by decide +kernel
theorem dX1_place_9 : decode cX1_place 9 = .ok (.iconst 0, 1) := by decide +kernel
theorem dX1_place_10 : decode cX1_place 10 = .ok (.ireturn, 1) := by decide +kernel
theorem dX1_place_11 : decode cX1_place 11 = .ok (.iload_n 1, 1) := by decide +kernel
theorem dX1_place_12 : decode cX1_place 12 = .ok (.aload_n 0, 1) := by decide +kernel
theorem dX1_place_13 : decode cX1_place 13 = .ok (.getfield 27, 3) := by decide +kernel
theorem dX1_place_16 : decode cX1_place 16 = .ok (.if_icmp .lt 5, 3) := by decide +kernel
theorem dX1_place_19 : decode cX1_place 19 = .ok (.iconst 1, 1) := by decide +kernel
theorem dX1_place_20 : decode cX1_place 20 = .ok (.ireturn, 1) := by decide +kernel
theorem dX1_place_21 : decode cX1_place 21 = .ok (.aload_n 0, 1) := by decide +kernel
theorem dX1_place_22 : decode cX1_place 22 = .ok (.iload_n 1, 1) := by decide +kernel
theorem dX1_place_23 : decode cX1_place 23 = .ok (.iload_n 3, 1) := by decide +kernel
theorem dX1_place_24 : decode cX1_place 24 = .ok (.invokevirtual 96, 3) := by decide +kernel
theorem dX1_place_27 : decode cX1_place 27 = .ok (.istore 4, 2) := by decide +kernel
theorem dX1_place_29 : decode cX1_place 29 = .ok (.iconst 0, 1) := by decide +kernel
theorem dX1_place_30 : decode cX1_place 30 = .ok (.istore 5, 2) := by decide +kernel
theorem dX1_place_32 : decode cX1_place 32 = .ok (.iload 5, 2) := by decide +kernel
theorem dX1_place_34 : decode cX1_place 34 = .ok (.aload_n 0, 1) := by decide +kernel
theorem dX1_place_35 : decode cX1_place 35 = .ok (.getfield 18, 3) := by decide +kernel
theorem dX1_place_38 : decode cX1_place 38 = .ok (.iload_n 1, 1) := by decide +kernel
theorem dX1_place_39 : decode cX1_place 39 = .ok (.iaload, 1) := by decide +kernel
theorem dX1_place_40 : decode cX1_place 40 = .ok (.if_icmp .ge 55, 3) := by decide +kernel
theorem dX1_place_43 : decode cX1_place 43 = .ok (.aload_n 0, 1) := by decide +kernel
theorem dX1_place_44 : decode cX1_place 44 = .ok (.getfield 15, 3) := by decide +kernel
theorem dX1_place_47 : decode cX1_place 47 = .ok (.iload_n 1, 1) := by decide +kernel
theorem dX1_place_48 : decode cX1_place 48 = .ok (.bipush 20, 2) := by decide +kernel
theorem dX1_place_50 : decode cX1_place 50 = .ok (.imul, 1) := by decide +kernel
theorem dX1_place_51 : decode cX1_place 51 = .ok (.iload 5, 2) := by decide +kernel
theorem dX1_place_53 : decode cX1_place 53 = .ok (.iadd, 1) := by decide +kernel
theorem dX1_place_54 : decode cX1_place 54 = .ok (.iaload, 1) := by decide +kernel
theorem dX1_place_55 : decode cX1_place 55 = .ok (.istore 6, 2) := by decide +kernel
theorem dX1_place_57 : decode cX1_place 57 = .ok (.iload 6, 2) := by decide +kernel
theorem dX1_place_59 : decode cX1_place 59 = .ok (.iload 4, 2) := by decide +kernel
theorem dX1_place_61 : decode cX1_place 61 = .ok (.iand, 1) := by decide +kernel
theorem dX1_place_62 : decode cX1_place 62 = .ok (.ifCond .ne 27, 3) := by decide +kernel
theorem dX1_place_65 : decode cX1_place 65 = .ok (.aload_n 0, 1) := by decide +kernel
theorem dX1_place_66 : decode cX1_place 66 = .ok (.getfield 21, 3) := by decide +kernel
theorem dX1_place_69 : decode cX1_place 69 = .ok (.iload_n 1, 1) := by decide +kernel
theorem dX1_place_70 : decode cX1_place 70 = .ok (.iload 6, 2) := by decide +kernel
theorem dX1_place_72 : decode cX1_place 72 = .ok (.iastore, 1) := by decide +kernel
theorem dX1_place_73 : decode cX1_place 73 = .ok (.aload_n 0, 1) := by decide +kernel
theorem dX1_place_74 : decode cX1_place 74 = .ok (.iload_n 1, 1) := by decide +kernel
theorem dX1_place_75 : decode cX1_place 75 = .ok (.iconst 1, 1) := by decide +kernel
theorem dX1_place_76 : decode cX1_place 76 = .ok (.iadd, 1) := by decide +kernel
theorem dX1_place_77 : decode cX1_place 77 = .ok (.iload_n 2, 1) := by decide +kernel
theorem dX1_place_78 : decode cX1_place 78 = .ok (.iconst 1, 1) := by decide +kernel
theorem dX1_place_79 : decode cX1_place 79 = .ok (.isub, 1) := by decide +kernel
theorem dX1_place_80 : decode cX1_place 80 = .ok (.iload_n 3, 1) := by decide +kernel
theorem dX1_place_81 : decode cX1_place 81 = .ok (.invokevirtual 39, 3) := by decide +kernel
theorem dX1_place_84 : decode cX1_place 84 = .ok (.ifCond .eq 5, 3) := by decide +kernel
theorem dX1_place_87 : decode cX1_place 87 = .ok (.iconst 1, 1) := by decide +kernel
theorem dX1_place_88 : decode cX1_place 88 = .ok (.ireturn, 1) := by decide +kernel
theorem dX1_place_89 : decode cX1_place 89 = .ok (.iinc 5 1, 3) := by decide +kernel
theorem dX1_place_92 : decode cX1_place 92 = .ok (.goto (-60), 3) := by decide +kernel
theorem dX1_place_95 : decode cX1_place 95 = .ok (.aload_n 0, 1) := by decide +kernel
theorem dX1_place_96 : decode cX1_place 96 = .ok (.getfield 21, 3) := by decide +kernel
theorem dX1_place_99 : decode cX1_place 99 = .ok (.iload_n 1, 1) := by decide +kernel
theorem dX1_place_100 : decode cX1_place 100 = .ok (.iconst 0, 1) := by decide +kernel
theorem dX1_place_101 : decode cX1_place 101 = .ok (.iastore, 1) := by decide +kernel
theorem dX1_place_102 : decode cX1_place 102 = .ok (.aload_n 0, 1) := by decide +kernel
theorem dX1_place_103 : decode cX1_place 103 = .ok (.iload_n 1, 1) := by decide +kernel
theorem dX1_place_104 : decode cX1_place 104 = .ok (.iconst 1, 1) := by decide +kernel
theorem dX1_place_105 : decode cX1_place 105 = .ok (.iadd, 1) := by decide +kernel
theorem dX1_place_106 : decode cX1_place 106 = .ok (.iload_n 2, 1) := by decide +kernel
theorem dX1_place_107 : decode cX1_place 107 = .ok (.iload_n 3, 1) := by decide +kernel
theorem dX1_place_108 : decode cX1_place 108 = .ok (.invokevirtual 39, 3) := by decide +kernel
theorem dX1_place_111 : decode cX1_place 111 = .ok (.ireturn, 1) := by decide +kernel
theorem dX1_ableFrom_0 : decode cX1_ableFrom 0 = .ok (.iconst 0, 1) := by decide +kernel
theorem dX1_ableFrom_1 : decode cX1_ableFrom 1 = .ok (.istore_n 2, 1) := by decide +kernel
theorem dX1_ableFrom_2 : decode cX1_ableFrom 2 = .ok (.iload_n 1, 1) := by decide +kernel
theorem dX1_ableFrom_3 : decode cX1_ableFrom 3 = .ok (.istore_n 3, 1) := by decide +kernel
theorem dX1_ableFrom_4 : decode cX1_ableFrom 4 = .ok (.iload_n 3, 1) := by decide +kernel
theorem dX1_ableFrom_5 : decode cX1_ableFrom 5 = .ok (.aload_n 0, 1) := by decide +kernel
theorem dX1_ableFrom_6 : decode cX1_ableFrom 6 = .ok (.getfield 27, 3) := by decide +kernel
theorem dX1_ableFrom_9 : decode cX1_ableFrom 9 = .ok (.if_icmp .ge 21, 3) := by decide +kernel
theorem dX1_ableFrom_12 : decode cX1_ableFrom 12 = .ok (.aload_n 0, 1) := by decide +kernel
theorem dX1_ableFrom_13 : decode cX1_ableFrom 13 = .ok (.getfield 18, 3) := by decide +kernel
theorem dX1_ableFrom_16 : decode cX1_ableFrom 16 = .ok (.iload_n 3, 1) := by decide +kernel
theorem dX1_ableFrom_17 : decode cX1_ableFrom 17 = .ok (.iaload, 1) := by decide +kernel
theorem dX1_ableFrom_18 : decode cX1_ableFrom 18 = .ok (.ifCond .le 6, 3) := by decide +kernel
theorem dX1_ableFrom_21 : decode cX1_ableFrom 21 = .ok (.iinc 2 1, 3) := by decide +kernel
theorem dX1_ableFrom_24 : decode cX1_ableFrom 24 = .ok (.iinc 3 1, 3) := by decide +kernel
theorem dX1_ableFrom_27 : decode cX1_ableFrom 27 = .ok (.goto (-23), 3) := by decide +kernel
theorem dX1_ableFrom_30 : decode cX1_ableFrom 30 = .ok (.iload_n 2, 1) := by decide +kernel
theorem dX1_ableFrom_31 : decode cX1_ableFrom 31 = .ok (.ireturn, 1) := by decide +kernel
theorem dX1_fullAhead_0 : decode cX1_fullAhead 0 = .ok (.iconst 0, 1) := by decide +kernel
theorem dX1_fullAhead_1 : decode cX1_fullAhead 1 = .ok (.istore_n 3, 1) := by decide +kernel
theorem dX1_fullAhead_2 : decode cX1_fullAhead 2 = .ok (.iconst 0, 1) := by decide +kernel
theorem dX1_fullAhead_3 : decode cX1_fullAhead 3 = .ok (.istore 4, 2) := by decide +kernel
theorem dX1_fullAhead_5 : decode cX1_fullAhead 5 = .ok (.iconst 0, 1) := by decide +kernel
theorem dX1_fullAhead_6 : decode cX1_fullAhead 6 = .ok (.istore 5, 2) := by decide +kernel
theorem dX1_fullAhead_8 : decode cX1_fullAhead 8 = .ok (.iconst 0, 1) := by decide +kernel
theorem dX1_fullAhead_9 : decode cX1_fullAhead 9 = .ok (.istore 6, 2) := by decide +kernel
theorem dX1_fullAhead_11 : decode cX1_fullAhead 11 = .ok (.iload 6, 2) := by decide +kernel
theorem dX1_fullAhead_13 : decode cX1_fullAhead 13 = .ok (.iload_n 1, 1) := by decide +kernel
theorem dX1_fullAhead_14 : decode cX1_fullAhead 14 = .ok (.if_icmp .ge 48, 3) := by decide +kernel
theorem dX1_fullAhead_17 : decode cX1_fullAhead 17 = .ok (.iload 5, 2) := by decide +kernel
theorem dX1_fullAhead_19 : decode cX1_fullAhead 19 = .ok (.iload 4, 2) := by decide +kernel
theorem dX1_fullAhead_21 : decode cX1_fullAhead 21 = .ok (.aload_n 0, 1) := by decide +kernel
theorem dX1_fullAhead_22 : decode cX1_fullAhead 22 = .ok (.getfield 21, 3) := by decide +kernel
theorem dX1_fullAhead_25 : decode cX1_fullAhead 25 = .ok (.iload 6, 2) := by decide +kernel
theorem dX1_fullAhead_27 : decode cX1_fullAhead 27 = .ok (.iaload, 1) := by decide +kernel
theorem dX1_fullAhead_28 : decode cX1_fullAhead 28 = .ok (.iand, 1) := by decide +kernel
theorem dX1_fullAhead_29 : decode cX1_fullAhead 29 = .ok (.ior, 1) := by decide +kernel
theorem dX1_fullAhead_30 : decode cX1_fullAhead 30 = .ok (.istore 5, 2) := by decide +kernel
theorem dX1_fullAhead_32 : decode cX1_fullAhead 32 = .ok (.iload 4, 2) := by decide +kernel
theorem dX1_fullAhead_34 : decode cX1_fullAhead 34 = .ok (.iload_n 3, 1) := by decide +kernel
theorem dX1_fullAhead_35 : decode cX1_fullAhead 35 = .ok (.aload_n 0, 1) := by decide +kernel
theorem dX1_fullAhead_36 : decode cX1_fullAhead 36 = .ok (.getfield 21, 3) := by decide +kernel
theorem dX1_fullAhead_39 : decode cX1_fullAhead 39 = .ok (.iload 6, 2) := by decide +kernel
theorem dX1_fullAhead_41 : decode cX1_fullAhead 41 = .ok (.iaload, 1) := by decide +kernel
theorem dX1_fullAhead_42 : decode cX1_fullAhead 42 = .ok (.iand, 1) := by decide +kernel
theorem dX1_fullAhead_43 : decode cX1_fullAhead 43 = .ok (.ior, 1) := by decide +kernel
theorem dX1_fullAhead_44 : decode cX1_fullAhead 44 = .ok (.istore 4, 2) := by decide +kernel
theorem dX1_fullAhead_46 : decode cX1_fullAhead 46 = .ok (.iload_n 3, 1) := by decide +kernel
theorem dX1_fullAhead_47 : decode cX1_fullAhead 47 = .ok (.aload_n 0, 1) := by decide +kernel
theorem dX1_fullAhead_48 : decode cX1_fullAhead 48 = .ok (.getfield 21, 3) := by decide +kernel
theorem dX1_fullAhead_51 : decode cX1_fullAhead 51 = .ok (.iload 6, 2) := by decide +kernel
theorem dX1_fullAhead_53 : decode cX1_fullAhead 53 = .ok (.iaload, 1) := by decide +kernel
theorem dX1_fullAhead_54 : decode cX1_fullAhead 54 = .ok (.ior, 1) := by decide +kernel
theorem dX1_fullAhead_55 : decode cX1_fullAhead 55 = .ok (.istore_n 3, 1) := by decide +kernel
theorem dX1_fullAhead_56 : decode cX1_fullAhead 56 = .ok (.iinc 6 1, 3) := by decide +kernel
theorem dX1_fullAhead_59 : decode cX1_fullAhead 59 = .ok (.goto (-48), 3) := by decide +kernel
theorem dX1_fullAhead_62 : decode cX1_fullAhead 62 = .ok (.iload_n 2, 1) := by decide +kernel
theorem dX1_fullAhead_63 : decode cX1_fullAhead 63 = .ok (.tableswitch 33 1 3 #[25, 27, 30], 25) := by decide +kernel
theorem dX1_fullAhead_88 : decode cX1_fullAhead 88 = .ok (.iload_n 3, 1) := by decide +kernel
theorem dX1_fullAhead_89 : decode cX1_fullAhead 89 = .ok (.ireturn, 1) := by decide +kernel
theorem dX1_fullAhead_90 : decode cX1_fullAhead 90 = .ok (.iload 4, 2) := by decide +kernel
theorem dX1_fullAhead_92 : decode cX1_fullAhead 92 = .ok (.ireturn, 1) := by decide +kernel
theorem dX1_fullAhead_93 : decode cX1_fullAhead 93 = .ok (.iload 5, 2) := by decide +kernel
theorem dX1_fullAhead_95 : decode cX1_fullAhead 95 = .ok (.ireturn, 1) := by decide +kernel
theorem dX1_fullAhead_96 : decode cX1_fullAhead 96 = .ok (.iconst 0, 1) := by decide +kernel
theorem dX1_fullAhead_97 : decode cX1_fullAhead 97 = .ok (.ireturn, 1) := by decide +kernel
theorem dX2_init_0 : decode cX2_init 0 = .ok (.aload_n 0, 1) := by decide +kernel
theorem dX2_init_1 : decode cX2_init 1 = .ok (.invokespecial 3, 3) := by decide +kernel
theorem dX2_init_4 : decode cX2_init 4 = .ok (.aload_n 0, 1) := by decide +kernel
theorem dX2_init_5 : decode cX2_init 5 = .ok (.new 9, 3) := by decide +kernel
theorem dX2_init_8 : decode cX2_init 8 = .ok (.dup, 1) := by decide +kernel
theorem dX2_init_9 : decode cX2_init 9 = .ok (.invokespecial 11, 3) := by decide +kernel
theorem dX2_init_12 : decode cX2_init 12 = .ok (.putfield 12, 3) := by decide +kernel
theorem dX2_init_15 : decode cX2_init 15 = .ok (.aload_n 0, 1) := by decide +kernel
theorem dX2_init_16 : decode cX2_init 16 = .ok (.iconst 3, 1) := by decide +kernel
theorem dX2_init_17 : decode cX2_init 17 = .ok (.newarray .int, 2) := by decide +kernel
theorem dX2_init_19 : decode cX2_init 19 = .ok (.putfield 18, 3) := by decide +kernel
theorem dX2_init_22 : decode cX2_init 22 = .ok (.aload_n 0, 1) := by decide +kernel
theorem dX2_init_23 : decode cX2_init 23 = .ok (.bipush 99, 2) := by decide +kernel
theorem dX2_init_25 : decode cX2_init 25 = .ok (.newarray .int, 2) := by decide +kernel
theorem dX2_init_27 : decode cX2_init 27 = .ok (.putfield 22, 3) := by decide +kernel
theorem dX2_init_30 : decode cX2_init 30 = .ok (.aload_n 0, 1) := by decide +kernel
theorem dX2_init_31 : decode cX2_init 31 = .ok (.bipush 60, 2) := by decide +kernel
theorem dX2_init_33 : decode cX2_init 33 = .ok (.newarray .int, 2) := by decide +kernel
theorem dX2_init_35 : decode cX2_init 35 = .ok (.putfield 25, 3) := by decide +kernel
theorem dX2_init_38 : decode cX2_init 38 = .ok (.aload_n 0, 1) := by decide +kernel
theorem dX2_init_39 : decode cX2_init 39 = .ok (.bipush 60, 2) := by decide +kernel
theorem dX2_init_41 : decode cX2_init 41 = .ok (.newarray .int, 2) := by decide +kernel
theorem dX2_init_43 : decode cX2_init 43 = .ok (.putfield 28, 3) := by decide +kernel
theorem dX2_init_46 : decode cX2_init 46 = .ok (.aload_n 0, 1) := by decide +kernel
theorem dX2_init_47 : decode cX2_init 47 = .ok (.bipush 60, 2) := by decide +kernel
theorem dX2_init_49 : decode cX2_init 49 = .ok (.newarray .int, 2) := by decide +kernel
theorem dX2_init_51 : decode cX2_init 51 = .ok (.putfield 31, 3) := by decide +kernel
theorem dX2_init_54 : decode cX2_init 54 = .ok (.aload_n 0, 1) := by decide +kernel
theorem dX2_init_55 : decode cX2_init 55 = .ok (.bipush 60, 2) := by decide +kernel
theorem dX2_init_57 : decode cX2_init 57 = .ok (.newarray .int, 2) := by decide +kernel
theorem dX2_init_59 : decode cX2_init 59 = .ok (.putfield 34, 3) := by decide +kernel
theorem dX2_init_62 : decode cX2_init 62 = .ok (.aload_n 0, 1) := by decide +kernel
theorem dX2_init_63 : decode cX2_init 63 = .ok (.bipush 60, 2) := by decide +kernel
theorem dX2_init_65 : decode cX2_init 65 = .ok (.newarray .int, 2) := by decide +kernel
theorem dX2_init_67 : decode cX2_init 67 = .ok (.putfield 37, 3) := by decide +kernel
theorem dX2_init_70 : decode cX2_init 70 = .ok (.aload_n 0, 1) := by decide +kernel
theorem dX2_init_71 : decode cX2_init 71 = .ok (.bipush 60, 2) := by decide +kernel
theorem dX2_init_73 : decode cX2_init 73 = .ok (.newarray .boolean, 2) := by decide +kernel
theorem dX2_init_75 : decode cX2_init 75 = .ok (.putfield 40, 3) := by decide +kernel
theorem dX2_init_78 : decode cX2_init 78 = .ok (.aload_n 0, 1) := by decide +kernel
theorem dX2_init_79 : decode cX2_init 79 = .ok (.bipush 60, 2) := by decide +kernel
theorem dX2_init_81 : decode cX2_init 81 = .ok (.newarray .int, 2) := by decide +kernel
theorem dX2_init_83 : decode cX2_init 83 = .ok (.putfield 44, 3) := by decide +kernel
theorem dX2_init_86 : decode cX2_init 86 = .ok (.iconst 0, 1) := by decide +kernel
theorem dX2_init_87 : decode cX2_init 87 = .ok (.istore_n 1, 1) := by decide +kernel
theorem dX2_init_88 : decode cX2_init 88 = .ok (.iload_n 1, 1) := by decide +kernel
theorem dX2_init_89 : decode cX2_init 89 = .ok (.iconst 3, 1) := by decide +kernel
theorem dX2_init_90 : decode cX2_init 90 = .ok (.if_icmp .ge 39, 3) := by decide +kernel
theorem dX2_init_93 : decode cX2_init 93 = .ok (.iconst 1, 1) := by decide +kernel
theorem dX2_init_94 : decode cX2_init 94 = .ok (.istore_n 2, 1) := by decide +kernel
theorem dX2_init_95 : decode cX2_init 95 = .ok (.iload_n 2, 1) := by decide +kernel
theorem dX2_init_96 : decode cX2_init 96 = .ok (.bipush 10, 2) := by decide +kernel
theorem dX2_init_98 : decode cX2_init 98 = .ok (.if_icmp .gt 25, 3) := by decide +kernel
theorem dX2_init_101 : decode cX2_init 101 = .ok (.aload_n 0, 1) := by decide +kernel
theorem dX2_init_102 : decode cX2_init 102 = .ok (.getfield 22, 3) := by decide +kernel
theorem dX2_init_105 : decode cX2_init 105 = .ok (.iload_n 1, 1) := by decide +kernel
theorem dX2_init_106 : decode cX2_init 106 = .ok (.iconst 3, 1) := by decide +kernel
theorem dX2_init_107 : decode cX2_init 107 = .ok (.imul, 1) := by decide +kernel
theorem dX2_init_108 : decode cX2_init 108 = .ok (.iload_n 1, 1) := by decide +kernel
theorem dX2_init_109 : decode cX2_init 109 = .ok (.iadd, 1) := by decide +kernel
theorem dX2_init_110 : decode cX2_init 110 = .ok (.bipush 11, 2) := by decide +kernel
theorem dX2_init_112 : decode cX2_init 112 = .ok (.imul, 1) := by decide +kernel
theorem dX2_init_113 : decode cX2_init 113 = .ok (.iload_n 2, 1) := by decide +kernel
theorem dX2_init_114 : decode cX2_init 114 = .ok (.iadd, 1) := by decide +kernel
theorem dX2_init_115 : decode cX2_init 115 = .ok (.iload_n 2, 1) := by decide +kernel
theorem dX2_init_116 : decode cX2_init 116 = .ok (.iastore, 1) := by decide +kernel
theorem dX2_init_117 : decode cX2_init 117 = .ok (.iinc 2 1, 3) := by decide +kernel
theorem dX2_init_120 : decode cX2_init 120 = .ok (.goto (-25), 3) := by decide +kernel
theorem dX2_init_123 : decode cX2_init 123 = .ok (.iinc 1 1, 3) := by decide +kernel
theorem dX2_init_126 : decode cX2_init 126 = .ok (.goto (-38), 3) := by decide +kernel
theorem dX2_init_129 : decode cX2_init 129 = .ok (.return_, 1) := by decide +kernel
theorem dX2_holds_0 : decode cX2_holds 0 = .ok (.iload_n 1, 1) := by decide +kernel
theorem dX2_holds_1 : decode cX2_holds 1 = .ok (.ifCond .lt 15, 3) := by decide +kernel
theorem dX2_holds_4 : decode cX2_holds 4 = .ok (.iload_n 1, 1) := by decide +kernel
theorem dX2_holds_5 : decode cX2_holds 5 = .ok (.aload_n 0, 1) := by decide +kernel
theorem dX2_holds_6 : decode cX2_holds 6 = .ok (.getfield 47, 3) := by decide +kernel
theorem dX2_holds_9 : decode cX2_holds 9 = .ok (.if_icmp .ge 7, 3) := by decide +kernel
theorem dX2_holds_12 : decode cX2_holds 12 = .ok (.iconst 1, 1) := by decide +kernel
theorem dX2_holds_13 : decode cX2_holds 13 = .ok (.goto 4, 3) := by decide +kernel
theorem dX2_holds_16 : decode cX2_holds 16 = .ok (.iconst 0, 1) := by decide +kernel
theorem dX2_holds_17 : decode cX2_holds 17 = .ok (.ireturn, 1) := by decide +kernel
theorem dX2_latestDay_0 : decode cX2_latestDay 0 = .ok (.aload_n 0, 1) := by decide +kernel
theorem dX2_latestDay_1 : decode cX2_latestDay 1 = .ok (.getfield 47, 3) := by decide +kernel
theorem dX2_latestDay_4 : decode cX2_latestDay 4 = .ok (.ifCond .le 17, 3) := by decide +kernel
theorem dX2_latestDay_7 : decode cX2_latestDay 7 = .ok (.aload_n 0, 1) := by decide +kernel
theorem dX2_latestDay_8 : decode cX2_latestDay 8 = .ok (.getfield 34, 3) := by decide +kernel
theorem dX2_latestDay_11 : decode cX2_latestDay 11 = .ok (.aload_n 0, 1) := by decide +kernel
theorem dX2_latestDay_12 : decode cX2_latestDay 12 = .ok (.getfield 47, 3) := by decide +kernel
theorem dX2_latestDay_15 : decode cX2_latestDay 15 = .ok (.iconst 1, 1) := by decide +kernel
theorem dX2_latestDay_16 : decode cX2_latestDay 16 = .ok (.isub, 1) := by decide +kernel
theorem dX2_latestDay_17 : decode cX2_latestDay 17 = .ok (.iaload, 1) := by decide +kernel
theorem dX2_latestDay_18 : decode cX2_latestDay 18 = .ok (.goto 4, 3) := by decide +kernel
theorem dX2_latestDay_21 : decode cX2_latestDay 21 = .ok (.iconst 0, 1) := by decide +kernel
theorem dX2_latestDay_22 : decode cX2_latestDay 22 = .ok (.ireturn, 1) := by decide +kernel
theorem dX2_value_0 : decode cX2_value 0 = .ok (.aload_n 0, 1) := by decide +kernel
theorem dX2_value_1 : decode cX2_value 1 = .ok (.getfield 22, 3) := by decide +kernel
theorem dX2_value_4 : decode cX2_value 4 = .ok (.iload_n 1, 1) := by decide +kernel
theorem dX2_value_5 : decode cX2_value 5 = .ok (.iconst 3, 1) := by decide +kernel
theorem dX2_value_6 : decode cX2_value 6 = .ok (.imul, 1) := by decide +kernel
theorem dX2_value_7 : decode cX2_value 7 = .ok (.iload_n 2, 1) := by decide +kernel
theorem dX2_value_8 : decode cX2_value 8 = .ok (.iadd, 1) := by decide +kernel
theorem dX2_value_9 : decode cX2_value 9 = .ok (.bipush 11, 2) := by decide +kernel
theorem dX2_value_11 : decode cX2_value 11 = .ok (.imul, 1) := by decide +kernel
theorem dX2_value_12 : decode cX2_value 12 = .ok (.iload_n 3, 1) := by decide +kernel
theorem dX2_value_13 : decode cX2_value 13 = .ok (.iadd, 1) := by decide +kernel
theorem dX2_value_14 : decode cX2_value 14 = .ok (.iaload, 1) := by decide +kernel
theorem dX2_value_15 : decode cX2_value 15 = .ok (.ireturn, 1) := by decide +kernel
theorem dX2_setValue_0 : decode cX2_setValue 0 = .ok (.aload_n 0, 1) := by decide +kernel
theorem dX2_setValue_1 : decode cX2_setValue 1 = .ok (.getfield 22, 3) := by decide +kernel
theorem dX2_setValue_4 : decode cX2_setValue 4 = .ok (.iload_n 1, 1) := by decide +kernel
theorem dX2_setValue_5 : decode cX2_setValue 5 = .ok (.iconst 3, 1) := by decide +kernel
theorem dX2_setValue_6 : decode cX2_setValue 6 = .ok (.imul, 1) := by decide +kernel
theorem dX2_setValue_7 : decode cX2_setValue 7 = .ok (.iload_n 2, 1) := by decide +kernel
theorem dX2_setValue_8 : decode cX2_setValue 8 = .ok (.iadd, 1) := by decide +kernel
theorem dX2_setValue_9 : decode cX2_setValue 9 = .ok (.bipush 11, 2) := by decide +kernel
theorem dX2_setValue_11 : decode cX2_setValue 11 = .ok (.imul, 1) := by decide +kernel
theorem dX2_setValue_12 : decode cX2_setValue 12 = .ok (.iload_n 3, 1) := by decide +kernel
theorem dX2_setValue_13 : decode cX2_setValue 13 = .ok (.iadd, 1) := by decide +kernel
theorem dX2_setValue_14 : decode cX2_setValue 14 = .ok (.iload 4, 2) := by decide +kernel
theorem dX2_setValue_16 : decode cX2_setValue 16 = .ok (.iastore, 1) := by decide +kernel
theorem dX2_setValue_17 : decode cX2_setValue 17 = .ok (.return_, 1) := by decide +kernel
theorem dX2_add_0 : decode cX2_add 0 = .ok (.aload_n 0, 1) := by decide +kernel
theorem dX2_add_1 : decode cX2_add 1 = .ok (.getfield 47, 3) := by decide +kernel
theorem dX2_add_4 : decode cX2_add 4 = .ok (.istore 6, 2) := by decide +kernel
theorem dX2_add_6 : decode cX2_add 6 = .ok (.aload_n 0, 1) := by decide +kernel
theorem dX2_add_7 : decode cX2_add 7 = .ok (.getfield 25, 3) := by decide +kernel
theorem dX2_add_10 : decode cX2_add 10 = .ok (.iload 6, 2) := by decide +kernel
theorem dX2_add_12 : decode cX2_add 12 = .ok (.iload_n 1, 1) := by decide +kernel
theorem dX2_add_13 : decode cX2_add 13 = .ok (.iastore, 1) := by decide +kernel
theorem dX2_add_14 : decode cX2_add 14 = .ok (.aload_n 0, 1) := by decide +kernel
theorem dX2_add_15 : decode cX2_add 15 = .ok (.getfield 28, 3) := by decide +kernel
theorem dX2_add_18 : decode cX2_add 18 = .ok (.iload 6, 2) := by decide +kernel
theorem dX2_add_20 : decode cX2_add 20 = .ok (.iload_n 2, 1) := by decide +kernel
theorem dX2_add_21 : decode cX2_add 21 = .ok (.iastore, 1) := by decide +kernel
theorem dX2_add_22 : decode cX2_add 22 = .ok (.aload_n 0, 1) := by decide +kernel
theorem dX2_add_23 : decode cX2_add 23 = .ok (.getfield 31, 3) := by decide +kernel
theorem dX2_add_26 : decode cX2_add 26 = .ok (.iload 6, 2) := by decide +kernel
theorem dX2_add_28 : decode cX2_add 28 = .ok (.iload_n 3, 1) := by decide +kernel
theorem dX2_add_29 : decode cX2_add 29 = .ok (.iastore, 1) := by decide +kernel
theorem dX2_add_30 : decode cX2_add 30 = .ok (.aload_n 0, 1) := by decide +kernel
theorem dX2_add_31 : decode cX2_add 31 = .ok (.getfield 34, 3) := by decide +kernel
theorem dX2_add_34 : decode cX2_add 34 = .ok (.iload 6, 2) := by decide +kernel
theorem dX2_add_36 : decode cX2_add 36 = .ok (.iload 4, 2) := by decide +kernel
theorem dX2_add_38 : decode cX2_add 38 = .ok (.iastore, 1) := by decide +kernel
theorem dX2_add_39 : decode cX2_add 39 = .ok (.aload_n 0, 1) := by decide +kernel
theorem dX2_add_40 : decode cX2_add 40 = .ok (.getfield 37, 3) := by decide +kernel
theorem dX2_add_43 : decode cX2_add 43 = .ok (.iload 6, 2) := by decide +kernel
theorem dX2_add_45 : decode cX2_add 45 = .ok (.iload 5, 2) := by decide +kernel
theorem dX2_add_47 : decode cX2_add 47 = .ok (.iastore, 1) := by decide +kernel
theorem dX2_add_48 : decode cX2_add 48 = .ok (.aload_n 0, 1) := by decide +kernel
theorem dX2_add_49 : decode cX2_add 49 = .ok (.dup, 1) := by decide +kernel
theorem dX2_add_50 : decode cX2_add 50 = .ok (.getfield 47, 3) := by decide +kernel
theorem dX2_add_53 : decode cX2_add 53 = .ok (.iconst 1, 1) := by decide +kernel
theorem dX2_add_54 : decode cX2_add 54 = .ok (.iadd, 1) := by decide +kernel
theorem dX2_add_55 : decode cX2_add 55 = .ok (.putfield 47, 3) := by decide +kernel
theorem dX2_add_58 : decode cX2_add 58 = .ok (.iload 6, 2) := by decide +kernel
theorem dX2_add_60 : decode cX2_add 60 = .ok (.ireturn, 1) := by decide +kernel
theorem dX2_know_0 : decode cX2_know 0 = .ok (.aload_n 0, 1) := by decide +kernel
theorem dX2_know_1 : decode cX2_know 1 = .ok (.getfield 44, 3) := by decide +kernel
theorem dX2_know_4 : decode cX2_know 4 = .ok (.iconst 0, 1) := by decide +kernel
theorem dX2_know_5 : decode cX2_know 5 = .ok (.invokestatic 51, 3) := by decide +kernel
theorem dX2_know_8 : decode cX2_know 8 = .ok (.iconst 0, 1) := by decide +kernel
theorem dX2_know_9 : decode cX2_know 9 = .ok (.istore_n 2, 1) := by decide +kernel
theorem dX2_know_10 : decode cX2_know 10 = .ok (.iload_n 2, 1) := by decide +kernel
theorem dX2_know_11 : decode cX2_know 11 = .ok (.aload_n 0, 1) := by decide +kernel
theorem dX2_know_12 : decode cX2_know 12 = .ok (.getfield 47, 3) := by decide +kernel
theorem dX2_know_15 : decode cX2_know 15 = .ok (.if_icmp .ge 76, 3) := by decide +kernel
theorem dX2_know_18 : decode cX2_know 18 = .ok (.aload_n 0, 1) := by decide +kernel
theorem dX2_know_19 : decode cX2_know 19 = .ok (.getfield 44, 3) := by decide +kernel
theorem dX2_know_22 : decode cX2_know 22 = .ok (.aload_n 0, 1) := by decide +kernel
theorem dX2_know_23 : decode cX2_know 23 = .ok (.getfield 25, 3) := by decide +kernel
theorem dX2_know_26 : decode cX2_know 26 = .ok (.iload_n 2, 1) := by decide +kernel
theorem dX2_know_27 : decode cX2_know 27 = .ok (.iaload, 1) := by decide +kernel
theorem dX2_know_28 : decode cX2_know 28 = .ok (.iconst 3, 1) := by decide +kernel
theorem dX2_know_29 : decode cX2_know 29 = .ok (.imul, 1) := by decide +kernel
theorem dX2_know_30 : decode cX2_know 30 = .ok (.aload_n 0, 1) := by decide +kernel
theorem dX2_know_31 : decode cX2_know 31 = .ok (.getfield 28, 3) := by decide +kernel
theorem dX2_know_34 : decode cX2_know 34 = .ok (.iload_n 2, 1) := by decide +kernel
theorem dX2_know_35 : decode cX2_know 35 = .ok (.iaload, 1) := by decide +kernel
theorem dX2_know_36 : decode cX2_know 36 = .ok (.iadd, 1) := by decide +kernel
theorem dX2_know_37 : decode cX2_know 37 = .ok (.iaload, 1) := by decide +kernel
theorem dX2_know_38 : decode cX2_know 38 = .ok (.istore_n 3, 1) := by decide +kernel
theorem dX2_know_39 : decode cX2_know 39 = .ok (.aload_n 0, 1) := by decide +kernel
theorem dX2_know_40 : decode cX2_know 40 = .ok (.getfield 40, 3) := by decide +kernel
theorem dX2_know_43 : decode cX2_know 43 = .ok (.iload_n 2, 1) := by decide +kernel
theorem dX2_know_44 : decode cX2_know 44 = .ok (.iload_n 3, 1) := by decide +kernel
theorem dX2_know_45 : decode cX2_know 45 = .ok (.aload_n 0, 1) := by decide +kernel
theorem dX2_know_46 : decode cX2_know 46 = .ok (.getfield 31, 3) := by decide +kernel
theorem dX2_know_49 : decode cX2_know 49 = .ok (.iload_n 2, 1) := by decide +kernel
theorem dX2_know_50 : decode cX2_know 50 = .ok (.iaload, 1) := by decide +kernel
theorem dX2_know_51 : decode cX2_know 51 = .ok (.iconst 1, 1) := by decide +kernel
theorem dX2_know_52 : decode cX2_know 52 = .ok (.isub, 1) := by decide +kernel
theorem dX2_know_53 : decode cX2_know 53 = .ok (.if_icmp .lt 16, 3) := by decide +kernel
theorem dX2_know_56 : decode cX2_know 56 = .ok (.aload_n 0, 1) := by decide +kernel
theorem dX2_know_57 : decode cX2_know 57 = .ok (.iload_n 2, 1) := by decide +kernel
theorem dX2_know_58 : decode cX2_know 58 = .ok (.iload_n 1, 1) := by decide +kernel
theorem dX2_know_59 : decode cX2_know 59 = .ok (.invokevirtual 57, 3) := by decide +kernel
theorem dX2_know_62 : decode cX2_know 62 = .ok (.ifCond .ne 7, 3) := by decide +kernel
theorem dX2_know_65 : decode cX2_know 65 = .ok (.iconst 1, 1) := by decide +kernel
theorem dX2_know_66 : decode cX2_know 66 = .ok (.goto 4, 3) := by decide +kernel
theorem dX2_know_69 : decode cX2_know 69 = .ok (.iconst 0, 1) := by decide +kernel
theorem dX2_know_70 : decode cX2_know 70 = .ok (.bastore, 1) := by decide +kernel
theorem dX2_know_71 : decode cX2_know 71 = .ok (.aload_n 0, 1) := by decide +kernel
theorem dX2_know_72 : decode cX2_know 72 = .ok (.getfield 40, 3) := by decide +kernel
theorem dX2_know_75 : decode cX2_know 75 = .ok (.iload_n 2, 1) := by decide +kernel
theorem dX2_know_76 : decode cX2_know 76 = .ok (.baload, 1) := by decide +kernel
theorem dX2_know_77 : decode cX2_know 77 = .ok (.ifCond .eq 8, 3) := by decide +kernel
theorem dX2_know_80 : decode cX2_know 80 = .ok (.aload_n 0, 1) := by decide +kernel
theorem dX2_know_81 : decode cX2_know 81 = .ok (.iload_n 2, 1) := by decide +kernel
theorem dX2_know_82 : decode cX2_know 82 = .ok (.invokevirtual 61, 3) := by decide +kernel
theorem dX2_know_85 : decode cX2_know 85 = .ok (.iinc 2 1, 3) := by decide +kernel
theorem dX2_know_88 : decode cX2_know 88 = .ok (.goto (-78), 3) := by decide +kernel
theorem dX2_know_91 : decode cX2_know 91 = .ok (.return_, 1) := by decide +kernel
theorem dX2_falls_0 : decode cX2_falls 0 = .ok (.aload_n 0, 1) := by decide +kernel
theorem dX2_falls_1 : decode cX2_falls 1 = .ok (.getfield 18, 3) := by decide +kernel
theorem dX2_falls_4 : decode cX2_falls 4 = .ok (.aload_n 0, 1) := by decide +kernel
theorem dX2_falls_5 : decode cX2_falls 5 = .ok (.getfield 28, 3) := by decide +kernel
theorem dX2_falls_8 : decode cX2_falls 8 = .ok (.iload_n 1, 1) := by decide +kernel
theorem dX2_falls_9 : decode cX2_falls 9 = .ok (.iaload, 1) := by decide +kernel
theorem dX2_falls_10 : decode cX2_falls 10 = .ok (.iaload, 1) := by decide +kernel
theorem dX2_falls_11 : decode cX2_falls 11 = .ok (.iconst 1, 1) := by decide +kernel
theorem dX2_falls_12 : decode cX2_falls 12 = .ok (.if_icmp .ne 30, 3) := by decide +kernel
theorem dX2_falls_15 : decode cX2_falls 15 = .ok (.aload_n 0, 1) := by decide +kernel
theorem dX2_falls_16 : decode cX2_falls 16 = .ok (.getfield 12, 3) := by decide +kernel
theorem dX2_falls_19 : decode cX2_falls 19 = .ok (.aload_n 0, 1) := by decide +kernel
theorem dX2_falls_20 : decode cX2_falls 20 = .ok (.getfield 37, 3) := by decide +kernel
theorem dX2_falls_23 : decode cX2_falls 23 = .ok (.iload_n 1, 1) := by decide +kernel
theorem dX2_falls_24 : decode cX2_falls 24 = .ok (.iaload, 1) := by decide +kernel
theorem dX2_falls_25 : decode cX2_falls 25 = .ok (.aload_n 0, 1) := by decide +kernel
theorem dX2_falls_26 : decode cX2_falls 26 = .ok (.getfield 34, 3) := by decide +kernel
theorem dX2_falls_29 : decode cX2_falls 29 = .ok (.iload_n 1, 1) := by decide +kernel
theorem dX2_falls_30 : decode cX2_falls 30 = .ok (.iaload, 1) := by decide +kernel
theorem dX2_falls_31 : decode cX2_falls 31 = .ok (.iload_n 2, 1) := by decide +kernel
theorem dX2_falls_32 : decode cX2_falls 32 = .ok (.invokevirtual 65, 3) := by decide +kernel
theorem dX2_falls_35 : decode cX2_falls 35 = .ok (.ifCond .eq 7, 3) := by decide +kernel
theorem dX2_falls_38 : decode cX2_falls 38 = .ok (.iconst 1, 1) := by decide +kernel
theorem dX2_falls_39 : decode cX2_falls 39 = .ok (.goto 4, 3) := by decide +kernel
theorem dX2_falls_42 : decode cX2_falls 42 = .ok (.iconst 0, 1) := by decide +kernel
theorem dX2_falls_43 : decode cX2_falls 43 = .ok (.ireturn, 1) := by decide +kernel
theorem dX2_raise_0 : decode cX2_raise 0 = .ok (.iconst 0, 1) := by decide +kernel
theorem dX2_raise_1 : decode cX2_raise 1 = .ok (.istore_n 2, 1) := by decide +kernel
theorem dX2_raise_2 : decode cX2_raise 2 = .ok (.iload_n 2, 1) := by decide +kernel
theorem dX2_raise_3 : decode cX2_raise 3 = .ok (.iconst 3, 1) := by decide +kernel
theorem dX2_raise_4 : decode cX2_raise 4 = .ok (.if_icmp .ge 52, 3) := by decide +kernel
theorem dX2_raise_7 : decode cX2_raise 7 = .ok (.aload_n 0, 1) := by decide +kernel
theorem dX2_raise_8 : decode cX2_raise 8 = .ok (.getfield 25, 3) := by decide +kernel
theorem dX2_raise_11 : decode cX2_raise 11 = .ok (.iload_n 1, 1) := by decide +kernel
theorem dX2_raise_12 : decode cX2_raise 12 = .ok (.iaload, 1) := by decide +kernel
theorem dX2_raise_13 : decode cX2_raise 13 = .ok (.iconst 3, 1) := by decide +kernel
theorem dX2_raise_14 : decode cX2_raise 14 = .ok (.imul, 1) := by decide +kernel
theorem dX2_raise_15 : decode cX2_raise 15 = .ok (.iload_n 2, 1) := by decide +kernel
theorem dX2_raise_16 : decode cX2_raise 16 = .ok (.iadd, 1) := by decide +kernel
theorem dX2_raise_17 : decode cX2_raise 17 = .ok (.istore_n 3, 1) := by decide +kernel
theorem dX2_raise_18 : decode cX2_raise 18 = .ok (.aload_n 0, 1) := by decide +kernel
theorem dX2_raise_19 : decode cX2_raise 19 = .ok (.getfield 44, 3) := by decide +kernel
theorem dX2_raise_22 : decode cX2_raise 22 = .ok (.iload_n 3, 1) := by decide +kernel
theorem dX2_raise_23 : decode cX2_raise 23 = .ok (.aload_n 0, 1) := by decide +kernel
theorem dX2_raise_24 : decode cX2_raise 24 = .ok (.getfield 44, 3) := by decide +kernel
theorem dX2_raise_27 : decode cX2_raise 27 = .ok (.iload_n 3, 1) := by decide +kernel
theorem dX2_raise_28 : decode cX2_raise 28 = .ok (.iaload, 1) := by decide +kernel
theorem dX2_raise_29 : decode cX2_raise 29 = .ok (.aload_n 0, 1) := by decide +kernel
theorem dX2_raise_30 : decode cX2_raise 30 = .ok (.iload_n 2, 1) := by decide +kernel
theorem dX2_raise_31 : decode cX2_raise 31 = .ok (.aload_n 0, 1) := by decide +kernel
theorem dX2_raise_32 : decode cX2_raise 32 = .ok (.getfield 28, 3) := by decide +kernel
theorem dX2_raise_35 : decode cX2_raise 35 = .ok (.iload_n 1, 1) := by decide +kernel
theorem dX2_raise_36 : decode cX2_raise 36 = .ok (.iaload, 1) := by decide +kernel
theorem dX2_raise_37 : decode cX2_raise 37 = .ok (.aload_n 0, 1) := by decide +kernel
theorem dX2_raise_38 : decode cX2_raise 38 = .ok (.getfield 31, 3) := by decide +kernel
theorem dX2_raise_41 : decode cX2_raise 41 = .ok (.iload_n 1, 1) := by decide +kernel
theorem dX2_raise_42 : decode cX2_raise 42 = .ok (.iaload, 1) := by decide +kernel
theorem dX2_raise_43 : decode cX2_raise 43 = .ok (.invokevirtual 69, 3) := by decide +kernel
theorem dX2_raise_46 : decode cX2_raise 46 = .ok (.invokestatic 73, 3) := by decide +kernel
theorem dX2_raise_49 : decode cX2_raise 49 = .ok (.iastore, 1) := by decide +kernel
theorem dX2_raise_50 : decode cX2_raise 50 = .ok (.iinc 2 1, 3) := by decide +kernel
theorem dX2_raise_53 : decode cX2_raise 53 = .ok (.goto (-51), 3) := by decide +kernel
theorem dX2_raise_56 : decode cX2_raise 56 = .ok (.return_, 1) := by decide +kernel
theorem dX2_standingAtLast_0 : decode cX2_standingAtLast 0 = .ok (.aload_n 0, 1) := by decide +kernel
theorem dX2_standingAtLast_1 : decode cX2_standingAtLast 1 = .ok (.sipush 30000, 3) := by decide +kernel
theorem dX2_standingAtLast_4 : decode cX2_standingAtLast 4 = .ok (.invokevirtual 79, 3) := by decide +kernel
theorem dX2_standingAtLast_7 : decode cX2_standingAtLast 7 = .ok (.iconst 0, 1) := by decide +kernel
theorem dX2_standingAtLast_8 : decode cX2_standingAtLast 8 = .ok (.istore_n 1, 1) := by decide +kernel
theorem dX2_standingAtLast_9 : decode cX2_standingAtLast 9 = .ok (.iconst 0, 1) := by decide +kernel
theorem dX2_standingAtLast_10 : decode cX2_standingAtLast 10 = .ok (.istore_n 2, 1) := by decide +kernel
theorem dX2_standingAtLast_11 : decode cX2_standingAtLast 11 = .ok (.iload_n 2, 1) := by decide +kernel
theorem dX2_standingAtLast_12 : decode cX2_standingAtLast 12 = .ok (.aload_n 0, 1) := by decide +kernel
theorem dX2_standingAtLast_13 : decode cX2_standingAtLast 13 = .ok (.getfield 47, 3) := by decide +kernel
theorem dX2_standingAtLast_16 : decode cX2_standingAtLast 16 = .ok (.if_icmp .ge 21, 3) := by decide +kernel
theorem dX2_standingAtLast_19 : decode cX2_standingAtLast 19 = .ok (.aload_n 0, 1) := by decide +kernel
theorem dX2_standingAtLast_20 : decode cX2_standingAtLast 20 = .ok (.getfield 40, 3) := by decide +kernel
theorem dX2_standingAtLast_23 : decode cX2_standingAtLast 23 = .ok (.iload_n 2, 1) := by decide +kernel
theorem dX2_standingAtLast_24 : decode cX2_standingAtLast 24 = .ok (.baload, 1) := by decide +kernel
theorem dX2_standingAtLast_25 : decode cX2_standingAtLast 25 = .ok (.ifCond .eq 6, 3) := by decide +kernel
theorem dX2_standingAtLast_28 : decode cX2_standingAtLast 28 = .ok (.iinc 1 1, 3) := by decide +kernel
theorem dX2_standingAtLast_31 : decode cX2_standingAtLast 31 = .ok (.iinc 2 1, 3) := by decide +kernel
theorem dX2_standingAtLast_34 : decode cX2_standingAtLast 34 = .ok (.goto (-23), 3) := by decide +kernel
theorem dX2_standingAtLast_37 : decode cX2_standingAtLast 37 = .ok (.iload_n 1, 1) := by decide +kernel
theorem dX2_standingAtLast_38 : decode cX2_standingAtLast 38 = .ok (.ireturn, 1) := by decide +kernel
theorem dX2_counts_0 : decode cX2_counts 0 = .ok (.aload_n 0, 1) := by decide +kernel
theorem dX2_counts_1 : decode cX2_counts 1 = .ok (.getfield 25, 3) := by decide +kernel
theorem dX2_counts_4 : decode cX2_counts 4 = .ok (.iload_n 1, 1) := by decide +kernel
theorem dX2_counts_5 : decode cX2_counts 5 = .ok (.iaload, 1) := by decide +kernel
theorem dX2_counts_6 : decode cX2_counts 6 = .ok (.iload_n 2, 1) := by decide +kernel
theorem dX2_counts_7 : decode cX2_counts 7 = .ok (.if_icmp .ne 26, 3) := by decide +kernel
theorem dX2_counts_10 : decode cX2_counts 10 = .ok (.aload_n 0, 1) := by decide +kernel
theorem dX2_counts_11 : decode cX2_counts 11 = .ok (.getfield 34, 3) := by decide +kernel
theorem dX2_counts_14 : decode cX2_counts 14 = .ok (.iload_n 1, 1) := by decide +kernel
theorem dX2_counts_15 : decode cX2_counts 15 = .ok (.iaload, 1) := by decide +kernel
theorem dX2_counts_16 : decode cX2_counts 16 = .ok (.iload_n 3, 1) := by decide +kernel
theorem dX2_counts_17 : decode cX2_counts 17 = .ok (.if_icmp .gt 16, 3) := by decide +kernel
theorem dX2_counts_20 : decode cX2_counts 20 = .ok (.aload_n 0, 1) := by decide +kernel
theorem dX2_counts_21 : decode cX2_counts 21 = .ok (.getfield 40, 3) := by decide +kernel
theorem dX2_counts_24 : decode cX2_counts 24 = .ok (.iload_n 1, 1) := by decide +kernel
theorem dX2_counts_25 : decode cX2_counts 25 = .ok (.baload, 1) := by decide +kernel
theorem dX2_counts_26 : decode cX2_counts 26 = .ok (.ifCond .eq 7, 3) := by decide +kernel
theorem dX2_counts_29 : decode cX2_counts 29 = .ok (.iconst 1, 1) := by decide +kernel
theorem dX2_counts_30 : decode cX2_counts 30 = .ok (.goto 4, 3) := by decide +kernel
theorem dX2_counts_33 : decode cX2_counts 33 = .ok (.iconst 0, 1) := by decide +kernel
theorem dX2_counts_34 : decode cX2_counts 34 = .ok (.ireturn, 1) := by decide +kernel
theorem dX2_heldOn_0 : decode cX2_heldOn 0 = .ok (.iconst 0, 1) := by decide +kernel
theorem dX2_heldOn_1 : decode cX2_heldOn 1 = .ok (.istore 4, 2) := by decide +kernel
theorem dX2_heldOn_3 : decode cX2_heldOn 3 = .ok (.iconst 0, 1) := by decide +kernel
theorem dX2_heldOn_4 : decode cX2_heldOn 4 = .ok (.istore 5, 2) := by decide +kernel
theorem dX2_heldOn_6 : decode cX2_heldOn 6 = .ok (.iload 5, 2) := by decide +kernel
theorem dX2_heldOn_8 : decode cX2_heldOn 8 = .ok (.aload_n 0, 1) := by decide +kernel
theorem dX2_heldOn_9 : decode cX2_heldOn 9 = .ok (.getfield 47, 3) := by decide +kernel
theorem dX2_heldOn_12 : decode cX2_heldOn 12 = .ok (.if_icmp .ge 46, 3) := by decide +kernel
theorem dX2_heldOn_15 : decode cX2_heldOn 15 = .ok (.aload_n 0, 1) := by decide +kernel
theorem dX2_heldOn_16 : decode cX2_heldOn 16 = .ok (.iload 5, 2) := by decide +kernel
theorem dX2_heldOn_18 : decode cX2_heldOn 18 = .ok (.iload_n 1, 1) := by decide +kernel
theorem dX2_heldOn_19 : decode cX2_heldOn 19 = .ok (.iload_n 3, 1) := by decide +kernel
theorem dX2_heldOn_20 : decode cX2_heldOn 20 = .ok (.invokevirtual 82, 3) := by decide +kernel
theorem dX2_heldOn_23 : decode cX2_heldOn 23 = .ok (.ifCond .eq 29, 3) := by decide +kernel
theorem dX2_heldOn_26 : decode cX2_heldOn 26 = .ok (.iload 4, 2) := by decide +kernel
theorem dX2_heldOn_28 : decode cX2_heldOn 28 = .ok (.aload_n 0, 1) := by decide +kernel
theorem dX2_heldOn_29 : decode cX2_heldOn 29 = .ok (.iload_n 2, 1) := by decide +kernel
theorem dX2_heldOn_30 : decode cX2_heldOn 30 = .ok (.aload_n 0, 1) := by decide +kernel
theorem dX2_heldOn_31 : decode cX2_heldOn 31 = .ok (.getfield 28, 3) := by decide +kernel
theorem dX2_heldOn_34 : decode cX2_heldOn 34 = .ok (.iload 5, 2) := by decide +kernel
theorem dX2_heldOn_36 : decode cX2_heldOn 36 = .ok (.iaload, 1) := by decide +kernel
theorem dX2_heldOn_37 : decode cX2_heldOn 37 = .ok (.aload_n 0, 1) := by decide +kernel
theorem dX2_heldOn_38 : decode cX2_heldOn 38 = .ok (.getfield 31, 3) := by decide +kernel
theorem dX2_heldOn_41 : decode cX2_heldOn 41 = .ok (.iload 5, 2) := by decide +kernel
theorem dX2_heldOn_43 : decode cX2_heldOn 43 = .ok (.iaload, 1) := by decide +kernel
theorem dX2_heldOn_44 : decode cX2_heldOn 44 = .ok (.invokevirtual 69, 3) := by decide +kernel
theorem dX2_heldOn_47 : decode cX2_heldOn 47 = .ok (.invokestatic 73, 3) := by decide +kernel
theorem dX2_heldOn_50 : decode cX2_heldOn 50 = .ok (.istore 4, 2) := by decide +kernel
theorem dX2_heldOn_52 : decode cX2_heldOn 52 = .ok (.iinc 5 1, 3) := by decide +kernel
theorem dX2_heldOn_55 : decode cX2_heldOn 55 = .ok (.goto (-49), 3) := by decide +kernel
theorem dX2_heldOn_58 : decode cX2_heldOn 58 = .ok (.iload 4, 2) := by decide +kernel
theorem dX2_heldOn_60 : decode cX2_heldOn 60 = .ok (.ireturn, 1) := by decide +kernel
theorem dX2_lastGraded_0 : decode cX2_lastGraded 0 = .ok (.iconst (-1), 1) := by decide +kernel
theorem dX2_lastGraded_1 : decode cX2_lastGraded 1 = .ok (.istore_n 3, 1) := by decide +kernel
theorem dX2_lastGraded_2 : decode cX2_lastGraded 2 = .ok (.iconst 0, 1) := by decide +kernel
theorem dX2_lastGraded_3 : decode cX2_lastGraded 3 = .ok (.istore 4, 2) := by decide +kernel
theorem dX2_lastGraded_5 : decode cX2_lastGraded 5 = .ok (.iload 4, 2) := by decide +kernel
theorem dX2_lastGraded_7 : decode cX2_lastGraded 7 = .ok (.aload_n 0, 1) := by decide +kernel
theorem dX2_lastGraded_8 : decode cX2_lastGraded 8 = .ok (.getfield 47, 3) := by decide +kernel
theorem dX2_lastGraded_11 : decode cX2_lastGraded 11 = .ok (.if_icmp .ge 28, 3) := by decide +kernel
theorem dX2_lastGraded_14 : decode cX2_lastGraded 14 = .ok (.aload_n 0, 1) := by decide +kernel
theorem dX2_lastGraded_15 : decode cX2_lastGraded 15 = .ok (.iload 4, 2) := by decide +kernel
theorem dX2_lastGraded_17 : decode cX2_lastGraded 17 = .ok (.iload_n 1, 1) := by decide +kernel
theorem dX2_lastGraded_18 : decode cX2_lastGraded 18 = .ok (.iload_n 2, 1) := by decide +kernel
theorem dX2_lastGraded_19 : decode cX2_lastGraded 19 = .ok (.invokevirtual 82, 3) := by decide +kernel
theorem dX2_lastGraded_22 : decode cX2_lastGraded 22 = .ok (.ifCond .eq 11, 3) := by decide +kernel
theorem dX2_lastGraded_25 : decode cX2_lastGraded 25 = .ok (.aload_n 0, 1) := by decide +kernel
theorem dX2_lastGraded_26 : decode cX2_lastGraded 26 = .ok (.getfield 34, 3) := by decide +kernel
theorem dX2_lastGraded_29 : decode cX2_lastGraded 29 = .ok (.iload 4, 2) := by decide +kernel
theorem dX2_lastGraded_31 : decode cX2_lastGraded 31 = .ok (.iaload, 1) := by decide +kernel
theorem dX2_lastGraded_32 : decode cX2_lastGraded 32 = .ok (.istore_n 3, 1) := by decide +kernel
theorem dX2_lastGraded_33 : decode cX2_lastGraded 33 = .ok (.iinc 4 1, 3) := by decide +kernel
theorem dX2_lastGraded_36 : decode cX2_lastGraded 36 = .ok (.goto (-31), 3) := by decide +kernel
theorem dX2_lastGraded_39 : decode cX2_lastGraded 39 = .ok (.iload_n 3, 1) := by decide +kernel
theorem dX2_lastGraded_40 : decode cX2_lastGraded 40 = .ok (.ireturn, 1) := by decide +kernel
theorem dX3_init_0 : decode cX3_init 0 = .ok (.aload_n 0, 1) := by decide +kernel
theorem dX3_init_1 : decode cX3_init 1 = .ok (.invokespecial 3, 3) := by decide +kernel
theorem dX3_init_4 : decode cX3_init 4 = .ok (.aload_n 0, 1) := by decide +kernel
theorem dX3_init_5 : decode cX3_init 5 = .ok (.bipush 20, 2) := by decide +kernel
theorem dX3_init_7 : decode cX3_init 7 = .ok (.newarray .int, 2) := by decide +kernel
theorem dX3_init_9 : decode cX3_init 9 = .ok (.putfield 9, 3) := by decide +kernel
theorem dX3_init_12 : decode cX3_init 12 = .ok (.aload_n 0, 1) := by decide +kernel
theorem dX3_init_13 : decode cX3_init 13 = .ok (.bipush 100, 2) := by decide +kernel
theorem dX3_init_15 : decode cX3_init 15 = .ok (.newarray .int, 2) := by decide +kernel
theorem dX3_init_17 : decode cX3_init 17 = .ok (.putfield 15, 3) := by decide +kernel
theorem dX3_init_20 : decode cX3_init 20 = .ok (.aload_n 0, 1) := by decide +kernel
theorem dX3_init_21 : decode cX3_init 21 = .ok (.bipush 100, 2) := by decide +kernel
theorem dX3_init_23 : decode cX3_init 23 = .ok (.newarray .int, 2) := by decide +kernel
theorem dX3_init_25 : decode cX3_init 25 = .ok (.putfield 18, 3) := by decide +kernel
theorem dX3_init_28 : decode cX3_init 28 = .ok (.return_, 1) := by decide +kernel
theorem dX3_holds_0 : decode cX3_holds 0 = .ok (.iload_n 1, 1) := by decide +kernel
theorem dX3_holds_1 : decode cX3_holds 1 = .ok (.ifCond .lt 15, 3) := by decide +kernel
theorem dX3_holds_4 : decode cX3_holds 4 = .ok (.iload_n 1, 1) := by decide +kernel
theorem dX3_holds_5 : decode cX3_holds 5 = .ok (.aload_n 0, 1) := by decide +kernel
theorem dX3_holds_6 : decode cX3_holds 6 = .ok (.getfield 21, 3) := by decide +kernel
theorem dX3_holds_9 : decode cX3_holds 9 = .ok (.if_icmp .ge 7, 3) := by decide +kernel
theorem dX3_holds_12 : decode cX3_holds 12 = .ok (.iconst 1, 1) := by decide +kernel
theorem dX3_holds_13 : decode cX3_holds 13 = .ok (.goto 4, 3) := by decide +kernel
theorem dX3_holds_16 : decode cX3_holds 16 = .ok (.iconst 0, 1) := by decide +kernel
theorem dX3_holds_17 : decode cX3_holds 17 = .ok (.ireturn, 1) := by decide +kernel
theorem dX3_add_0 : decode cX3_add 0 = .ok (.aload_n 0, 1) := by decide +kernel
theorem dX3_add_1 : decode cX3_add 1 = .ok (.getfield 21, 3) := by decide +kernel
theorem dX3_add_4 : decode cX3_add 4 = .ok (.istore_n 1, 1) := by decide +kernel
theorem dX3_add_5 : decode cX3_add 5 = .ok (.aload_n 0, 1) := by decide +kernel
theorem dX3_add_6 : decode cX3_add 6 = .ok (.dup, 1) := by decide +kernel
theorem dX3_add_7 : decode cX3_add 7 = .ok (.getfield 21, 3) := by decide +kernel
theorem dX3_add_10 : decode cX3_add 10 = .ok (.iconst 1, 1) := by decide +kernel
theorem dX3_add_11 : decode cX3_add 11 = .ok (.iadd, 1) := by decide +kernel
theorem dX3_add_12 : decode cX3_add 12 = .ok (.putfield 21, 3) := by decide +kernel
theorem dX3_add_15 : decode cX3_add 15 = .ok (.iload_n 1, 1) := by decide +kernel
theorem dX3_add_16 : decode cX3_add 16 = .ok (.ireturn, 1) := by decide +kernel
theorem dX3_isWhole_0 : decode cX3_isWhole 0 = .ok (.aload_n 0, 1) := by decide +kernel
theorem dX3_isWhole_1 : decode cX3_isWhole 1 = .ok (.getfield 9, 3) := by decide +kernel
theorem dX3_isWhole_4 : decode cX3_isWhole 4 = .ok (.iload_n 1, 1) := by decide +kernel
theorem dX3_isWhole_5 : decode cX3_isWhole 5 = .ok (.iaload, 1) := by decide +kernel
theorem dX3_isWhole_6 : decode cX3_isWhole 6 = .ok (.iconst 5, 1) := by decide +kernel
theorem dX3_isWhole_7 : decode cX3_isWhole 7 = .ok (.if_icmp .ne 7, 3) := by decide +kernel
theorem dX3_isWhole_10 : decode cX3_isWhole 10 = .ok (.iconst 1, 1) := by decide +kernel
theorem dX3_isWhole_11 : decode cX3_isWhole 11 = .ok (.goto 4, 3) := by decide +kernel
theorem dX3_isWhole_14 : decode cX3_isWhole 14 = .ok (.iconst 0, 1) := by decide +kernel
theorem dX3_isWhole_15 : decode cX3_isWhole 15 = .ok (.ireturn, 1) := by decide +kernel
theorem dX3_placeFor_0 : decode cX3_placeFor 0 = .ok (.iconst 0, 1) := by decide +kernel
theorem dX3_placeFor_1 : decode cX3_placeFor 1 = .ok (.istore_n 3, 1) := by decide +kernel
theorem dX3_placeFor_2 : decode cX3_placeFor 2 = .ok (.iload_n 3, 1) := by decide +kernel
theorem dX3_placeFor_3 : decode cX3_placeFor 3 = .ok (.aload_n 0, 1) := by decide +kernel
theorem dX3_placeFor_4 : decode cX3_placeFor 4 = .ok (.getfield 9, 3) := by decide +kernel
theorem dX3_placeFor_7 : decode cX3_placeFor 7 = .ok (.iload_n 1, 1) := by decide +kernel
theorem dX3_placeFor_8 : decode cX3_placeFor 8 = .ok (.iaload, 1) := by decide +kernel
theorem dX3_placeFor_9 : decode cX3_placeFor 9 = .ok (.if_icmp .ge 25, 3) := by decide +kernel
theorem dX3_placeFor_12 : decode cX3_placeFor 12 = .ok (.aload_n 0, 1) := by decide +kernel
theorem dX3_placeFor_13 : decode cX3_placeFor 13 = .ok (.getfield 15, 3) := by decide +kernel
theorem dX3_placeFor_16 : decode cX3_placeFor 16 = .ok (.iload_n 1, 1) := by decide +kernel
theorem dX3_placeFor_17 : decode cX3_placeFor 17 = .ok (.iconst 5, 1) := by decide +kernel
theorem dX3_placeFor_18 : decode cX3_placeFor 18 = .ok (.imul, 1) := by decide +kernel
theorem dX3_placeFor_19 : decode cX3_placeFor 19 = .ok (.iload_n 3, 1) := by decide +kernel
theorem dX3_placeFor_20 : decode cX3_placeFor 20 = .ok (.iadd, 1) := by decide +kernel
theorem dX3_placeFor_21 : decode cX3_placeFor 21 = .ok (.iaload, 1) := by decide +kernel
theorem dX3_placeFor_22 : decode cX3_placeFor 22 = .ok (.iload_n 2, 1) := by decide +kernel
theorem dX3_placeFor_23 : decode cX3_placeFor 23 = .ok (.if_icmp .ne 5, 3) := by decide +kernel
theorem dX3_placeFor_26 : decode cX3_placeFor 26 = .ok (.iload_n 3, 1) := by decide +kernel
theorem dX3_placeFor_27 : decode cX3_placeFor 27 = .ok (.ireturn, 1) := by decide +kernel
theorem dX3_placeFor_28 : decode cX3_placeFor 28 = .ok (.iinc 3 1, 3) := by decide +kernel
theorem dX3_placeFor_31 : decode cX3_placeFor 31 = .ok (.goto (-29), 3) := by decide +kernel
theorem dX3_placeFor_34 : decode cX3_placeFor 34 = .ok (.aload_n 0, 1) := by decide +kernel
theorem dX3_placeFor_35 : decode cX3_placeFor 35 = .ok (.getfield 9, 3) := by decide +kernel
theorem dX3_placeFor_38 : decode cX3_placeFor 38 = .ok (.iload_n 1, 1) := by decide +kernel
theorem dX3_placeFor_39 : decode cX3_placeFor 39 = .ok (.iaload, 1) := by decide +kernel
theorem dX3_placeFor_40 : decode cX3_placeFor 40 = .ok (.ireturn, 1) := by decide +kernel
theorem dX3_put_0 : decode cX3_put 0 = .ok (.aload_n 0, 1) := by decide +kernel
theorem dX3_put_1 : decode cX3_put 1 = .ok (.getfield 15, 3) := by decide +kernel
theorem dX3_put_4 : decode cX3_put 4 = .ok (.iload_n 1, 1) := by decide +kernel
theorem dX3_put_5 : decode cX3_put 5 = .ok (.iconst 5, 1) := by decide +kernel
theorem dX3_put_6 : decode cX3_put 6 = .ok (.imul, 1) := by decide +kernel
theorem dX3_put_7 : decode cX3_put 7 = .ok (.iload_n 2, 1) := by decide +kernel
theorem dX3_put_8 : decode cX3_put 8 = .ok (.iadd, 1) := by decide +kernel
theorem dX3_put_9 : decode cX3_put 9 = .ok (.iload_n 3, 1) := by decide +kernel
theorem dX3_put_10 : decode cX3_put 10 = .ok (.iastore, 1) := by decide +kernel
theorem dX3_put_11 : decode cX3_put 11 = .ok (.aload_n 0, 1) := by decide +kernel
theorem dX3_put_12 : decode cX3_put 12 = .ok (.getfield 18, 3) := by decide +kernel
theorem dX3_put_15 : decode cX3_put 15 = .ok (.iload_n 1, 1) := by decide +kernel
theorem dX3_put_16 : decode cX3_put 16 = .ok (.iconst 5, 1) := by decide +kernel
theorem dX3_put_17 : decode cX3_put 17 = .ok (.imul, 1) := by decide +kernel
theorem dX3_put_18 : decode cX3_put 18 = .ok (.iload_n 2, 1) := by decide +kernel
theorem dX3_put_19 : decode cX3_put 19 = .ok (.iadd, 1) := by decide +kernel
theorem dX3_put_20 : decode cX3_put 20 = .ok (.iload 4, 2) := by decide +kernel
theorem dX3_put_22 : decode cX3_put 22 = .ok (.iastore, 1) := by decide +kernel
theorem dX3_put_23 : decode cX3_put 23 = .ok (.aload_n 0, 1) := by decide +kernel
theorem dX3_put_24 : decode cX3_put 24 = .ok (.getfield 9, 3) := by decide +kernel
theorem dX3_put_27 : decode cX3_put 27 = .ok (.iload_n 1, 1) := by decide +kernel
theorem dX3_put_28 : decode cX3_put 28 = .ok (.aload_n 0, 1) := by decide +kernel
theorem dX3_put_29 : decode cX3_put 29 = .ok (.getfield 9, 3) := by decide +kernel
theorem dX3_put_32 : decode cX3_put 32 = .ok (.iload_n 1, 1) := by decide +kernel
theorem dX3_put_33 : decode cX3_put 33 = .ok (.iaload, 1) := by decide +kernel
theorem dX3_put_34 : decode cX3_put 34 = .ok (.iload_n 2, 1) := by decide +kernel
theorem dX3_put_35 : decode cX3_put 35 = .ok (.iconst 1, 1) := by decide +kernel
theorem dX3_put_36 : decode cX3_put 36 = .ok (.iadd, 1) := by decide +kernel
theorem dX3_put_37 : decode cX3_put 37 = .ok (.invokestatic 25, 3) := by decide +kernel
theorem dX3_put_40 : decode cX3_put 40 = .ok (.iastore, 1) := by decide +kernel
theorem dX3_put_41 : decode cX3_put 41 = .ok (.aload_n 0, 1) := by decide +kernel
theorem dX3_put_42 : decode cX3_put 42 = .ok (.getfield 9, 3) := by decide +kernel
theorem dX3_put_45 : decode cX3_put 45 = .ok (.iload_n 1, 1) := by decide +kernel
theorem dX3_put_46 : decode cX3_put 46 = .ok (.iaload, 1) := by decide +kernel
theorem dX3_put_47 : decode cX3_put 47 = .ok (.ireturn, 1) := by decide +kernel
theorem dX3_upTo_0 : decode cX3_upTo 0 = .ok (.iconst 0, 1) := by decide +kernel
theorem dX3_upTo_1 : decode cX3_upTo 1 = .ok (.istore_n 3, 1) := by decide +kernel
theorem dX3_upTo_2 : decode cX3_upTo 2 = .ok (.iconst 0, 1) := by decide +kernel
theorem dX3_upTo_3 : decode cX3_upTo 3 = .ok (.istore 4, 2) := by decide +kernel
theorem dX3_upTo_5 : decode cX3_upTo 5 = .ok (.iload 4, 2) := by decide +kernel
theorem dX3_upTo_7 : decode cX3_upTo 7 = .ok (.iconst 5, 1) := by decide +kernel
theorem dX3_upTo_8 : decode cX3_upTo 8 = .ok (.if_icmp .ge 27, 3) := by decide +kernel
theorem dX3_upTo_11 : decode cX3_upTo 11 = .ok (.aload_n 0, 1) := by decide +kernel
theorem dX3_upTo_12 : decode cX3_upTo 12 = .ok (.getfield 18, 3) := by decide +kernel
theorem dX3_upTo_15 : decode cX3_upTo 15 = .ok (.iload_n 1, 1) := by decide +kernel
theorem dX3_upTo_16 : decode cX3_upTo 16 = .ok (.iconst 5, 1) := by decide +kernel
theorem dX3_upTo_17 : decode cX3_upTo 17 = .ok (.imul, 1) := by decide +kernel
theorem dX3_upTo_18 : decode cX3_upTo 18 = .ok (.iload 4, 2) := by decide +kernel
theorem dX3_upTo_20 : decode cX3_upTo 20 = .ok (.iadd, 1) := by decide +kernel
theorem dX3_upTo_21 : decode cX3_upTo 21 = .ok (.iaload, 1) := by decide +kernel
theorem dX3_upTo_22 : decode cX3_upTo 22 = .ok (.iload_n 2, 1) := by decide +kernel
theorem dX3_upTo_23 : decode cX3_upTo 23 = .ok (.if_icmp .gt 6, 3) := by decide +kernel
theorem dX3_upTo_26 : decode cX3_upTo 26 = .ok (.iinc 3 1, 3) := by decide +kernel
theorem dX3_upTo_29 : decode cX3_upTo 29 = .ok (.iinc 4 1, 3) := by decide +kernel
theorem dX3_upTo_32 : decode cX3_upTo 32 = .ok (.goto (-27), 3) := by decide +kernel
theorem dX3_upTo_35 : decode cX3_upTo 35 = .ok (.iload_n 3, 1) := by decide +kernel
theorem dX3_upTo_36 : decode cX3_upTo 36 = .ok (.ireturn, 1) := by decide +kernel
theorem dX3_middleOf_0 : decode cX3_middleOf 0 = .ok (.bipush 100, 2) := by decide +kernel
theorem dX3_middleOf_2 : decode cX3_middleOf 2 = .ok (.istore_n 2, 1) := by decide +kernel
theorem dX3_middleOf_3 : decode cX3_middleOf 3 = .ok (.iconst 0, 1) := by decide +kernel
theorem dX3_middleOf_4 : decode cX3_middleOf 4 = .ok (.istore_n 3, 1) := by decide +kernel
theorem dX3_middleOf_5 : decode cX3_middleOf 5 = .ok (.iload_n 3, 1) := by decide +kernel
theorem dX3_middleOf_6 : decode cX3_middleOf 6 = .ok (.iconst 5, 1) := by decide +kernel
theorem dX3_middleOf_7 : decode cX3_middleOf 7 = .ok (.if_icmp .ge 41, 3) := by decide +kernel
theorem dX3_middleOf_10 : decode cX3_middleOf 10 = .ok (.aload_n 0, 1) := by decide +kernel
theorem dX3_middleOf_11 : decode cX3_middleOf 11 = .ok (.getfield 18, 3) := by decide +kernel
theorem dX3_middleOf_14 : decode cX3_middleOf 14 = .ok (.iload_n 1, 1) := by decide +kernel
theorem dX3_middleOf_15 : decode cX3_middleOf 15 = .ok (.iconst 5, 1) := by decide +kernel
theorem dX3_middleOf_16 : decode cX3_middleOf 16 = .ok (.imul, 1) := by decide +kernel
theorem dX3_middleOf_17 : decode cX3_middleOf 17 = .ok (.iload_n 3, 1) := by decide +kernel
theorem dX3_middleOf_18 : decode cX3_middleOf 18 = .ok (.iadd, 1) := by decide +kernel
theorem dX3_middleOf_19 : decode cX3_middleOf 19 = .ok (.iaload, 1) := by decide +kernel
theorem dX3_middleOf_20 : decode cX3_middleOf 20 = .ok (.istore 4, 2) := by decide +kernel
theorem dX3_middleOf_22 : decode cX3_middleOf 22 = .ok (.iload 4, 2) := by decide +kernel
theorem dX3_middleOf_24 : decode cX3_middleOf 24 = .ok (.iload_n 2, 1) := by decide +kernel
theorem dX3_middleOf_25 : decode cX3_middleOf 25 = .ok (.if_icmp .ge 17, 3) := by decide +kernel
theorem dX3_middleOf_28 : decode cX3_middleOf 28 = .ok (.aload_n 0, 1) := by decide +kernel
theorem dX3_middleOf_29 : decode cX3_middleOf 29 = .ok (.iload_n 1, 1) := by decide +kernel
theorem dX3_middleOf_30 : decode cX3_middleOf 30 = .ok (.iload 4, 2) := by decide +kernel
theorem dX3_middleOf_32 : decode cX3_middleOf 32 = .ok (.invokevirtual 31, 3) := by decide +kernel
theorem dX3_middleOf_35 : decode cX3_middleOf 35 = .ok (.iconst 3, 1) := by decide +kernel
theorem dX3_middleOf_36 : decode cX3_middleOf 36 = .ok (.if_icmp .lt 6, 3) := by decide +kernel
theorem dX3_middleOf_39 : decode cX3_middleOf 39 = .ok (.iload 4, 2) := by decide +kernel
theorem dX3_middleOf_41 : decode cX3_middleOf 41 = .ok (.istore_n 2, 1) := by decide +kernel
theorem dX3_middleOf_42 : decode cX3_middleOf 42 = .ok (.iinc 3 1, 3) := by decide +kernel
theorem dX3_middleOf_45 : decode cX3_middleOf 45 = .ok (.goto (-40), 3) := by decide +kernel
theorem dX3_middleOf_48 : decode cX3_middleOf 48 = .ok (.iload_n 2, 1) := by decide +kernel
theorem dX3_middleOf_49 : decode cX3_middleOf 49 = .ok (.ireturn, 1) := by decide +kernel
theorem dX3_awayFromMiddle_0 : decode cX3_awayFromMiddle 0 = .ok (.aload_n 0, 1) := by decide +kernel
theorem dX3_awayFromMiddle_1 : decode cX3_awayFromMiddle 1 = .ok (.iload_n 1, 1) := by decide +kernel
theorem dX3_awayFromMiddle_2 : decode cX3_awayFromMiddle 2 = .ok (.invokevirtual 34, 3) := by decide +kernel
theorem dX3_awayFromMiddle_5 : decode cX3_awayFromMiddle 5 = .ok (.istore_n 3, 1) := by decide +kernel
theorem dX3_awayFromMiddle_6 : decode cX3_awayFromMiddle 6 = .ok (.iconst 0, 1) := by decide +kernel
theorem dX3_awayFromMiddle_7 : decode cX3_awayFromMiddle 7 = .ok (.istore 4, 2) := by decide +kernel
theorem dX3_awayFromMiddle_9 : decode cX3_awayFromMiddle 9 = .ok (.iconst 0, 1) := by decide +kernel
theorem dX3_awayFromMiddle_10 : decode cX3_awayFromMiddle 10 = .ok (.istore 5, 2) := by decide +kernel
theorem dX3_awayFromMiddle_12 : decode cX3_awayFromMiddle 12 = .ok (.iload 5, 2) := by decide +kernel
theorem dX3_awayFromMiddle_14 : decode cX3_awayFromMiddle 14 = .ok (.iconst 5, 1) := by decide +kernel
theorem dX3_awayFromMiddle_15 : decode cX3_awayFromMiddle 15 = .ok (.if_icmp .ge 32, 3) := by decide +kernel
theorem dX3_awayFromMiddle_18 : decode cX3_awayFromMiddle 18 = .ok (.aload_n 0, 1) := by decide +kernel
theorem dX3_awayFromMiddle_19 : decode cX3_awayFromMiddle 19 = .ok (.getfield 18, 3) := by decide +kernel
theorem dX3_awayFromMiddle_22 : decode cX3_awayFromMiddle 22 = .ok (.iload_n 1, 1) := by decide +kernel
theorem dX3_awayFromMiddle_23 : decode cX3_awayFromMiddle 23 = .ok (.iconst 5, 1) := by decide +kernel
theorem dX3_awayFromMiddle_24 : decode cX3_awayFromMiddle 24 = .ok (.imul, 1) := by decide +kernel
theorem dX3_awayFromMiddle_25 : decode cX3_awayFromMiddle 25 = .ok (.iload 5, 2) := by decide +kernel
theorem dX3_awayFromMiddle_27 : decode cX3_awayFromMiddle 27 = .ok (.iadd, 1) := by decide +kernel
theorem dX3_awayFromMiddle_28 : decode cX3_awayFromMiddle 28 = .ok (.iaload, 1) := by decide +kernel
theorem dX3_awayFromMiddle_29 : decode cX3_awayFromMiddle 29 = .ok (.iload_n 3, 1) := by decide +kernel
theorem dX3_awayFromMiddle_30 : decode cX3_awayFromMiddle 30 = .ok (.isub, 1) := by decide +kernel
theorem dX3_awayFromMiddle_31 : decode cX3_awayFromMiddle 31 = .ok (.invokestatic 38, 3) := by decide +kernel
theorem dX3_awayFromMiddle_34 : decode cX3_awayFromMiddle 34 = .ok (.iload_n 2, 1) := by decide +kernel
theorem dX3_awayFromMiddle_35 : decode cX3_awayFromMiddle 35 = .ok (.if_icmp .le 6, 3) := by decide +kernel
theorem dX3_awayFromMiddle_38 : decode cX3_awayFromMiddle 38 = .ok (.iinc 4 1, 3) := by decide +kernel
theorem dX3_awayFromMiddle_41 : decode cX3_awayFromMiddle 41 = .ok (.iinc 5 1, 3) := by decide +kernel
theorem dX3_awayFromMiddle_44 : decode cX3_awayFromMiddle 44 = .ok (.goto (-32), 3) := by decide +kernel
theorem dX3_awayFromMiddle_47 : decode cX3_awayFromMiddle 47 = .ok (.iload 4, 2) := by decide +kernel
theorem dX3_awayFromMiddle_49 : decode cX3_awayFromMiddle 49 = .ok (.ireturn, 1) := by decide +kernel
theorem dX3_hardness_0 : decode cX3_hardness 0 = .ok (.iconst 0, 1) := by decide +kernel
theorem dX3_hardness_1 : decode cX3_hardness 1 = .ok (.istore_n 2, 1) := by decide +kernel
theorem dX3_hardness_2 : decode cX3_hardness 2 = .ok (.iconst 0, 1) := by decide +kernel
theorem dX3_hardness_3 : decode cX3_hardness 3 = .ok (.istore_n 3, 1) := by decide +kernel
theorem dX3_hardness_4 : decode cX3_hardness 4 = .ok (.iload_n 3, 1) := by decide +kernel
theorem dX3_hardness_5 : decode cX3_hardness 5 = .ok (.aload_n 0, 1) := by decide +kernel
theorem dX3_hardness_6 : decode cX3_hardness 6 = .ok (.getfield 21, 3) := by decide +kernel
theorem dX3_hardness_9 : decode cX3_hardness 9 = .ok (.if_icmp .ge 51, 3) := by decide +kernel
theorem dX3_hardness_12 : decode cX3_hardness 12 = .ok (.aload_n 0, 1) := by decide +kernel
theorem dX3_hardness_13 : decode cX3_hardness 13 = .ok (.iload_n 3, 1) := by decide +kernel
theorem dX3_hardness_14 : decode cX3_hardness 14 = .ok (.iload_n 1, 1) := by decide +kernel
theorem dX3_hardness_15 : decode cX3_hardness 15 = .ok (.invokevirtual 41, 3) := by decide +kernel
theorem dX3_hardness_18 : decode cX3_hardness 18 = .ok (.istore 4, 2) := by decide +kernel
theorem dX3_hardness_20 : decode cX3_hardness 20 = .ok (.aload_n 0, 1) := by decide +kernel
theorem dX3_hardness_21 : decode cX3_hardness 21 = .ok (.iload_n 3, 1) := by decide +kernel
theorem dX3_hardness_22 : decode cX3_hardness 22 = .ok (.invokevirtual 44, 3) := by decide +kernel
theorem dX3_hardness_25 : decode cX3_hardness 25 = .ok (.ifCond .eq 29, 3) := by decide +kernel
theorem dX3_hardness_28 : decode cX3_hardness 28 = .ok (.iload 4, 2) := by decide +kernel
theorem dX3_hardness_30 : decode cX3_hardness 30 = .ok (.iconst 5, 1) := by decide +kernel
theorem dX3_hardness_31 : decode cX3_hardness 31 = .ok (.if_icmp .ge 23, 3) := by decide +kernel
theorem dX3_hardness_34 : decode cX3_hardness 34 = .ok (.iload_n 2, 1) := by decide +kernel
theorem dX3_hardness_35 : decode cX3_hardness 35 = .ok (.aload_n 0, 1) := by decide +kernel
theorem dX3_hardness_36 : decode cX3_hardness 36 = .ok (.getfield 18, 3) := by decide +kernel
theorem dX3_hardness_39 : decode cX3_hardness 39 = .ok (.iload_n 3, 1) := by decide +kernel
theorem dX3_hardness_40 : decode cX3_hardness 40 = .ok (.iconst 5, 1) := by decide +kernel
theorem dX3_hardness_41 : decode cX3_hardness 41 = .ok (.imul, 1) := by decide +kernel
theorem dX3_hardness_42 : decode cX3_hardness 42 = .ok (.iload 4, 2) := by decide +kernel
theorem dX3_hardness_44 : decode cX3_hardness 44 = .ok (.iadd, 1) := by decide +kernel
theorem dX3_hardness_45 : decode cX3_hardness 45 = .ok (.iaload, 1) := by decide +kernel
theorem dX3_hardness_46 : decode cX3_hardness 46 = .ok (.aload_n 0, 1) := by decide +kernel
theorem dX3_hardness_47 : decode cX3_hardness 47 = .ok (.iload_n 3, 1) := by decide +kernel
theorem dX3_hardness_48 : decode cX3_hardness 48 = .ok (.invokevirtual 34, 3) := by decide +kernel
theorem dX3_hardness_51 : decode cX3_hardness 51 = .ok (.isub, 1) := by decide +kernel
theorem dX3_hardness_52 : decode cX3_hardness 52 = .ok (.iadd, 1) := by decide +kernel
theorem dX3_hardness_53 : decode cX3_hardness 53 = .ok (.istore_n 2, 1) := by decide +kernel
theorem dX3_hardness_54 : decode cX3_hardness 54 = .ok (.iinc 3 1, 3) := by decide +kernel
theorem dX3_hardness_57 : decode cX3_hardness 57 = .ok (.goto (-53), 3) := by decide +kernel
theorem dX3_hardness_60 : decode cX3_hardness 60 = .ok (.iload_n 2, 1) := by decide +kernel
theorem dX3_hardness_61 : decode cX3_hardness 61 = .ok (.ireturn, 1) := by decide +kernel
theorem dX4_init_0 : decode cX4_init 0 = .ok (.aload_n 0, 1) := by decide +kernel
theorem dX4_init_1 : decode cX4_init 1 = .ok (.invokespecial 3, 3) := by decide +kernel
theorem dX4_init_4 : decode cX4_init 4 = .ok (.aload_n 0, 1) := by decide +kernel
theorem dX4_init_5 : decode cX4_init 5 = .ok (.bipush 20, 2) := by decide +kernel
theorem dX4_init_7 : decode cX4_init 7 = .ok (.newarray .int, 2) := by decide +kernel
theorem dX4_init_9 : decode cX4_init 9 = .ok (.putfield 9, 3) := by decide +kernel
theorem dX4_init_12 : decode cX4_init 12 = .ok (.aload_n 0, 1) := by decide +kernel
theorem dX4_init_13 : decode cX4_init 13 = .ok (.bipush 20, 2) := by decide +kernel
theorem dX4_init_15 : decode cX4_init 15 = .ok (.newarray .int, 2) := by decide +kernel
theorem dX4_init_17 : decode cX4_init 17 = .ok (.putfield 15, 3) := by decide +kernel
theorem dX4_init_20 : decode cX4_init 20 = .ok (.aload_n 0, 1) := by decide +kernel
theorem dX4_init_21 : decode cX4_init 21 = .ok (.bipush 20, 2) := by decide +kernel
theorem dX4_init_23 : decode cX4_init 23 = .ok (.newarray .int, 2) := by decide +kernel
theorem dX4_init_25 : decode cX4_init 25 = .ok (.putfield 18, 3) := by decide +kernel
theorem dX4_init_28 : decode cX4_init 28 = .ok (.aload_n 0, 1) := by decide +kernel
theorem dX4_init_29 : decode cX4_init 29 = .ok (.bipush 20, 2) := by decide +kernel
theorem dX4_init_31 : decode cX4_init 31 = .ok (.newarray .int, 2) := by decide +kernel
theorem dX4_init_33 : decode cX4_init 33 = .ok (.putfield 21, 3) := by decide +kernel
theorem dX4_init_36 : decode cX4_init 36 = .ok (.aload_n 0, 1) := by decide +kernel
theorem dX4_init_37 : decode cX4_init 37 = .ok (.sipush 160, 3) := by decide +kernel
theorem dX4_init_40 : decode cX4_init 40 = .ok (.newarray .int, 2) := by decide +kernel
theorem dX4_init_42 : decode cX4_init 42 = .ok (.putfield 24, 3) := by decide +kernel
theorem dX4_init_45 : decode cX4_init 45 = .ok (.return_, 1) := by decide +kernel
theorem dX4_holds_0 : decode cX4_holds 0 = .ok (.iload_n 1, 1) := by decide +kernel
theorem dX4_holds_1 : decode cX4_holds 1 = .ok (.ifCond .lt 15, 3) := by decide +kernel
theorem dX4_holds_4 : decode cX4_holds 4 = .ok (.iload_n 1, 1) := by decide +kernel
theorem dX4_holds_5 : decode cX4_holds 5 = .ok (.aload_n 0, 1) := by decide +kernel
theorem dX4_holds_6 : decode cX4_holds 6 = .ok (.getfield 27, 3) := by decide +kernel
theorem dX4_holds_9 : decode cX4_holds 9 = .ok (.if_icmp .ge 7, 3) := by decide +kernel
theorem dX4_holds_12 : decode cX4_holds 12 = .ok (.iconst 1, 1) := by decide +kernel
theorem dX4_holds_13 : decode cX4_holds 13 = .ok (.goto 4, 3) := by decide +kernel
theorem dX4_holds_16 : decode cX4_holds 16 = .ok (.iconst 0, 1) := by decide +kernel
theorem dX4_holds_17 : decode cX4_holds 17 = .ok (.ireturn, 1) := by decide +kernel
theorem dX4_areAll_0 : decode cX4_areAll 0 = .ok (.iload_n 1, 1) := by decide +kernel
theorem dX4_areAll_1 : decode cX4_areAll 1 = .ok (.aload_n 0, 1) := by decide +kernel
theorem dX4_areAll_2 : decode cX4_areAll 2 = .ok (.getfield 27, 3) := by decide +kernel
theorem dX4_areAll_5 : decode cX4_areAll 5 = .ok (.iushr, 1) := by decide +kernel
theorem dX4_areAll_6 : decode cX4_areAll 6 = .ok (.ifCond .ne 7, 3) := by decide +kernel
theorem dX4_areAll_9 : decode cX4_areAll 9 = .ok (.iconst 1, 1) := by decide +kernel
theorem dX4_areAll_10 : decode cX4_areAll 10 = .ok (.goto 4, 3) := by decide +kernel
theorem dX4_areAll_13 : decode cX4_areAll 13 = .ok (.iconst 0, 1) := by decide +kernel
theorem dX4_areAll_14 : decode cX4_areAll 14 = .ok (.ireturn, 1) := by decide +kernel
theorem dX4_isExaminer_0 : decode cX4_isExaminer 0 = .ok (.aload_n 0, 1) := by decide +kernel
theorem dX4_isExaminer_1 : decode cX4_isExaminer 1 = .ok (.getfield 9, 3) := by decide +kernel
theorem dX4_isExaminer_4 : decode cX4_isExaminer 4 = .ok (.iload_n 1, 1) := by decide +kernel
theorem dX4_isExaminer_5 : decode cX4_isExaminer 5 = .ok (.iaload, 1) := by decide +kernel
theorem dX4_isExaminer_6 : decode cX4_isExaminer 6 = .ok (.iconst 1, 1) := by decide +kernel
theorem dX4_isExaminer_7 : decode cX4_isExaminer 7 = .ok (.if_icmp .ne 7, 3) := by decide +kernel
theorem dX4_isExaminer_10 : decode cX4_isExaminer 10 = .ok (.iconst 1, 1) := by decide +kernel
theorem dX4_isExaminer_11 : decode cX4_isExaminer 11 = .ok (.goto 4, 3) := by decide +kernel
theorem dX4_isExaminer_14 : decode cX4_isExaminer 14 = .ok (.iconst 0, 1) := by decide +kernel
theorem dX4_isExaminer_15 : decode cX4_isExaminer 15 = .ok (.ireturn, 1) := by decide +kernel
theorem dX4_hasRoomFor_0 : decode cX4_hasRoomFor 0 = .ok (.aload_n 0, 1) := by decide +kernel
theorem dX4_hasRoomFor_1 : decode cX4_hasRoomFor 1 = .ok (.getfield 27, 3) := by decide +kernel
theorem dX4_hasRoomFor_4 : decode cX4_hasRoomFor 4 = .ok (.bipush 20, 2) := by decide +kernel
theorem dX4_hasRoomFor_6 : decode cX4_hasRoomFor 6 = .ok (.if_icmp .ge 21, 3) := by decide +kernel
theorem dX4_hasRoomFor_9 : decode cX4_hasRoomFor 9 = .ok (.iload_n 1, 1) := by decide +kernel
theorem dX4_hasRoomFor_10 : decode cX4_hasRoomFor 10 = .ok (.iconst 1, 1) := by decide +kernel
theorem dX4_hasRoomFor_11 : decode cX4_hasRoomFor 11 = .ok (.if_icmp .ne 12, 3) := by decide +kernel
theorem dX4_hasRoomFor_14 : decode cX4_hasRoomFor 14 = .ok (.aload_n 0, 1) := by decide +kernel
theorem dX4_hasRoomFor_15 : decode cX4_hasRoomFor 15 = .ok (.getfield 31, 3) := by decide +kernel
theorem dX4_hasRoomFor_18 : decode cX4_hasRoomFor 18 = .ok (.bipush 6, 2) := by decide +kernel
theorem dX4_hasRoomFor_20 : decode cX4_hasRoomFor 20 = .ok (.if_icmp .ge 7, 3) := by decide +kernel
theorem dX4_hasRoomFor_23 : decode cX4_hasRoomFor 23 = .ok (.iconst 1, 1) := by decide +kernel
theorem dX4_hasRoomFor_24 : decode cX4_hasRoomFor 24 = .ok (.goto 4, 3) := by decide +kernel
theorem dX4_hasRoomFor_27 : decode cX4_hasRoomFor 27 = .ok (.iconst 0, 1) := by decide +kernel
theorem dX4_hasRoomFor_28 : decode cX4_hasRoomFor 28 = .ok (.ireturn, 1) := by decide +kernel
theorem dX4_add_0 : decode cX4_add 0 = .ok (.aload_n 0, 1) := by decide +kernel
theorem dX4_add_1 : decode cX4_add 1 = .ok (.getfield 27, 3) := by decide +kernel
theorem dX4_add_4 : decode cX4_add 4 = .ok (.istore 4, 2) := by decide +kernel
theorem dX4_add_6 : decode cX4_add 6 = .ok (.aload_n 0, 1) := by decide +kernel
theorem dX4_add_7 : decode cX4_add 7 = .ok (.getfield 9, 3) := by decide +kernel
theorem dX4_add_10 : decode cX4_add 10 = .ok (.iload 4, 2) := by decide +kernel
theorem dX4_add_12 : decode cX4_add 12 = .ok (.iload_n 1, 1) := by decide +kernel
theorem dX4_add_13 : decode cX4_add 13 = .ok (.iastore, 1) := by decide +kernel
theorem dX4_add_14 : decode cX4_add 14 = .ok (.aload_n 0, 1) := by decide +kernel
theorem dX4_add_15 : decode cX4_add 15 = .ok (.getfield 15, 3) := by decide +kernel
theorem dX4_add_18 : decode cX4_add 18 = .ok (.iload 4, 2) := by decide +kernel
theorem dX4_add_20 : decode cX4_add 20 = .ok (.iload_n 2, 1) := by decide +kernel
theorem dX4_add_21 : decode cX4_add 21 = .ok (.iastore, 1) := by decide +kernel
theorem dX4_add_22 : decode cX4_add 22 = .ok (.aload_n 0, 1) := by decide +kernel
theorem dX4_add_23 : decode cX4_add 23 = .ok (.getfield 18, 3) := by decide +kernel
theorem dX4_add_26 : decode cX4_add 26 = .ok (.iload 4, 2) := by decide +kernel
theorem dX4_add_28 : decode cX4_add 28 = .ok (.iload_n 3, 1) := by decide +kernel
theorem dX4_add_29 : decode cX4_add 29 = .ok (.iastore, 1) := by decide +kernel
theorem dX4_add_30 : decode cX4_add 30 = .ok (.aload_n 0, 1) := by decide +kernel
theorem dX4_add_31 : decode cX4_add 31 = .ok (.getfield 21, 3) := by decide +kernel
theorem dX4_add_34 : decode cX4_add 34 = .ok (.iload 4, 2) := by decide +kernel
theorem dX4_add_36 : decode cX4_add 36 = .ok (.sipush 30000, 3) := by decide +kernel
theorem dX4_add_39 : decode cX4_add 39 = .ok (.iastore, 1) := by decide +kernel
theorem dX4_add_40 : decode cX4_add 40 = .ok (.iconst 0, 1) := by decide +kernel
theorem dX4_add_41 : decode cX4_add 41 = .ok (.istore 5, 2) := by decide +kernel
theorem dX4_add_43 : decode cX4_add 43 = .ok (.iload 5, 2) := by decide +kernel
theorem dX4_add_45 : decode cX4_add 45 = .ok (.bipush 8, 2) := by decide +kernel
theorem dX4_add_47 : decode cX4_add 47 = .ok (.if_icmp .ge 23, 3) := by decide +kernel
theorem dX4_add_50 : decode cX4_add 50 = .ok (.aload_n 0, 1) := by decide +kernel
theorem dX4_add_51 : decode cX4_add 51 = .ok (.getfield 24, 3) := by decide +kernel
theorem dX4_add_54 : decode cX4_add 54 = .ok (.iload 4, 2) := by decide +kernel
theorem dX4_add_56 : decode cX4_add 56 = .ok (.bipush 8, 2) := by decide +kernel
theorem dX4_add_58 : decode cX4_add 58 = .ok (.imul, 1) := by decide +kernel
theorem dX4_add_59 : decode cX4_add 59 = .ok (.iload 5, 2) := by decide +kernel
theorem dX4_add_61 : decode cX4_add 61 = .ok (.iadd, 1) := by decide +kernel
theorem dX4_add_62 : decode cX4_add 62 = .ok (.iconst (-1), 1) := by decide +kernel
theorem dX4_add_63 : decode cX4_add 63 = .ok (.iastore, 1) := by decide +kernel
theorem dX4_add_64 : decode cX4_add 64 = .ok (.iinc 5 1, 3) := by decide +kernel
theorem dX4_add_67 : decode cX4_add 67 = .ok (.goto (-24), 3) := by decide +kernel
theorem dX4_add_70 : decode cX4_add 70 = .ok (.iload_n 1, 1) := by decide +kernel
theorem dX4_add_71 : decode cX4_add 71 = .ok (.iconst 1, 1) := by decide +kernel
theorem dX4_add_72 : decode cX4_add 72 = .ok (.if_icmp .ne 13, 3) := by decide +kernel
theorem dX4_add_75 : decode cX4_add 75 = .ok (.aload_n 0, 1) := by decide +kernel
theorem dX4_add_76 : decode cX4_add 76 = .ok (.dup, 1) := by decide +kernel
theorem dX4_add_77 : decode cX4_add 77 = .ok (.getfield 31, 3) := by decide +kernel
theorem dX4_add_80 : decode cX4_add 80 = .ok (.iconst 1, 1) := by decide +kernel
theorem dX4_add_81 : decode cX4_add 81 = .ok (.iadd, 1) := by decide +kernel
theorem dX4_add_82 : decode cX4_add 82 = .ok (.putfield 31, 3) := by decide +kernel
theorem dX4_add_85 : decode cX4_add 85 = .ok (.aload_n 0, 1) := by decide +kernel
theorem dX4_add_86 : decode cX4_add 86 = .ok (.dup, 1) := by decide +kernel
theorem dX4_add_87 : decode cX4_add 87 = .ok (.getfield 27, 3) := by decide +kernel
theorem dX4_add_90 : decode cX4_add 90 = .ok (.iconst 1, 1) := by decide +kernel
theorem dX4_add_91 : decode cX4_add 91 = .ok (.iadd, 1) := by decide +kernel
theorem dX4_add_92 : decode cX4_add 92 = .ok (.putfield 27, 3) := by decide +kernel
theorem dX4_add_95 : decode cX4_add 95 = .ok (.iload 4, 2) := by decide +kernel
theorem dX4_add_97 : decode cX4_add 97 = .ok (.ireturn, 1) := by decide +kernel
theorem dX4_passedAll_0 : decode cX4_passedAll 0 = .ok (.iconst 0, 1) := by decide +kernel
theorem dX4_passedAll_1 : decode cX4_passedAll 1 = .ok (.istore 5, 2) := by decide +kernel
theorem dX4_passedAll_3 : decode cX4_passedAll 3 = .ok (.iload 5, 2) := by decide +kernel
theorem dX4_passedAll_5 : decode cX4_passedAll 5 = .ok (.bipush 8, 2) := by decide +kernel
theorem dX4_passedAll_7 : decode cX4_passedAll 7 = .ok (.if_icmp .ge 47, 3) := by decide +kernel
theorem dX4_passedAll_10 : decode cX4_passedAll 10 = .ok (.aload_n 0, 1) := by decide +kernel
theorem dX4_passedAll_11 : decode cX4_passedAll 11 = .ok (.getfield 24, 3) := by decide +kernel
theorem dX4_passedAll_14 : decode cX4_passedAll 14 = .ok (.iload_n 1, 1) := by decide +kernel
theorem dX4_passedAll_15 : decode cX4_passedAll 15 = .ok (.bipush 8, 2) := by decide +kernel
theorem dX4_passedAll_17 : decode cX4_passedAll 17 = .ok (.imul, 1) := by decide +kernel
theorem dX4_passedAll_18 : decode cX4_passedAll 18 = .ok (.iload 5, 2) := by decide +kernel
theorem dX4_passedAll_20 : decode cX4_passedAll 20 = .ok (.iadd, 1) := by decide +kernel
theorem dX4_passedAll_21 : decode cX4_passedAll 21 = .ok (.iaload, 1) := by decide +kernel
theorem dX4_passedAll_22 : decode cX4_passedAll 22 = .ok (.istore 6, 2) := by decide +kernel
theorem dX4_passedAll_24 : decode cX4_passedAll 24 = .ok (.iload_n 2, 1) := by decide +kernel
theorem dX4_passedAll_25 : decode cX4_passedAll 25 = .ok (.iload 5, 2) := by decide +kernel
theorem dX4_passedAll_27 : decode cX4_passedAll 27 = .ok (.ishr, 1) := by decide +kernel
theorem dX4_passedAll_28 : decode cX4_passedAll 28 = .ok (.iconst 1, 1) := by decide +kernel
theorem dX4_passedAll_29 : decode cX4_passedAll 29 = .ok (.iand, 1) := by decide +kernel
theorem dX4_passedAll_30 : decode cX4_passedAll 30 = .ok (.ifCond .eq 18, 3) := by decide +kernel
theorem dX4_passedAll_33 : decode cX4_passedAll 33 = .ok (.iload 6, 2) := by decide +kernel
theorem dX4_passedAll_35 : decode cX4_passedAll 35 = .ok (.iload_n 3, 1) := by decide +kernel
theorem dX4_passedAll_36 : decode cX4_passedAll 36 = .ok (.if_icmp .lt 10, 3) := by decide +kernel
theorem dX4_passedAll_39 : decode cX4_passedAll 39 = .ok (.iload 6, 2) := by decide +kernel
theorem dX4_passedAll_41 : decode cX4_passedAll 41 = .ok (.iload 4, 2) := by decide +kernel
theorem dX4_passedAll_43 : decode cX4_passedAll 43 = .ok (.if_icmp .le 5, 3) := by decide +kernel
theorem dX4_passedAll_46 : decode cX4_passedAll 46 = .ok (.iconst 0, 1) := by decide +kernel
theorem dX4_passedAll_47 : decode cX4_passedAll 47 = .ok (.ireturn, 1) := by decide +kernel
theorem dX4_passedAll_48 : decode cX4_passedAll 48 = .ok (.iinc 5 1, 3) := by decide +kernel
theorem dX4_passedAll_51 : decode cX4_passedAll 51 = .ok (.goto (-48), 3) := by decide +kernel
theorem dX4_passedAll_54 : decode cX4_passedAll 54 = .ok (.iconst 1, 1) := by decide +kernel
theorem dX4_passedAll_55 : decode cX4_passedAll 55 = .ok (.ireturn, 1) := by decide +kernel
theorem dX5_init_0 : decode cX5_init 0 = .ok (.aload_n 0, 1) := by decide +kernel
theorem dX5_init_1 : decode cX5_init 1 = .ok (.invokespecial 3, 3) := by decide +kernel
theorem dX5_init_4 : decode cX5_init 4 = .ok (.aload_n 0, 1) := by decide +kernel
theorem dX5_init_5 : decode cX5_init 5 = .ok (.bipush 40, 2) := by decide +kernel
theorem dX5_init_7 : decode cX5_init 7 = .ok (.newarray .int, 2) := by decide +kernel
theorem dX5_init_9 : decode cX5_init 9 = .ok (.putfield 9, 3) := by decide +kernel
theorem dX5_init_12 : decode cX5_init 12 = .ok (.aload_n 0, 1) := by decide +kernel
theorem dX5_init_13 : decode cX5_init 13 = .ok (.bipush 40, 2) := by decide +kernel
theorem dX5_init_15 : decode cX5_init 15 = .ok (.newarray .int, 2) := by decide +kernel
theorem dX5_init_17 : decode cX5_init 17 = .ok (.putfield 15, 3) := by decide +kernel
theorem dX5_init_20 : decode cX5_init 20 = .ok (.aload_n 0, 1) := by decide +kernel
theorem dX5_init_21 : decode cX5_init 21 = .ok (.bipush 40, 2) := by decide +kernel
theorem dX5_init_23 : decode cX5_init 23 = .ok (.newarray .int, 2) := by decide +kernel
theorem dX5_init_25 : decode cX5_init 25 = .ok (.putfield 18, 3) := by decide +kernel
theorem dX5_init_28 : decode cX5_init 28 = .ok (.aload_n 0, 1) := by decide +kernel
theorem dX5_init_29 : decode cX5_init 29 = .ok (.bipush 40, 2) := by decide +kernel
theorem dX5_init_31 : decode cX5_init 31 = .ok (.newarray .int, 2) := by decide +kernel
theorem dX5_init_33 : decode cX5_init 33 = .ok (.putfield 21, 3) := by decide +kernel
theorem dX5_init_36 : decode cX5_init 36 = .ok (.aload_n 0, 1) := by decide +kernel
theorem dX5_init_37 : decode cX5_init 37 = .ok (.bipush 40, 2) := by decide +kernel
theorem dX5_init_39 : decode cX5_init 39 = .ok (.newarray .int, 2) := by decide +kernel
theorem dX5_init_41 : decode cX5_init 41 = .ok (.putfield 24, 3) := by decide +kernel
theorem dX5_init_44 : decode cX5_init 44 = .ok (.aload_n 0, 1) := by decide +kernel
theorem dX5_init_45 : decode cX5_init 45 = .ok (.bipush 40, 2) := by decide +kernel
theorem dX5_init_47 : decode cX5_init 47 = .ok (.newarray .int, 2) := by decide +kernel
theorem dX5_init_49 : decode cX5_init 49 = .ok (.putfield 27, 3) := by decide +kernel
theorem dX5_init_52 : decode cX5_init 52 = .ok (.return_, 1) := by decide +kernel
theorem dX5_add_0 : decode cX5_add 0 = .ok (.aload_n 0, 1) := by decide +kernel
theorem dX5_add_1 : decode cX5_add 1 = .ok (.getfield 9, 3) := by decide +kernel
theorem dX5_add_4 : decode cX5_add 4 = .ok (.aload_n 0, 1) := by decide +kernel
theorem dX5_add_5 : decode cX5_add 5 = .ok (.getfield 30, 3) := by decide +kernel
theorem dX5_add_8 : decode cX5_add 8 = .ok (.iload_n 1, 1) := by decide +kernel
theorem dX5_add_9 : decode cX5_add 9 = .ok (.iastore, 1) := by decide +kernel
theorem dX5_add_10 : decode cX5_add 10 = .ok (.aload_n 0, 1) := by decide +kernel
theorem dX5_add_11 : decode cX5_add 11 = .ok (.getfield 15, 3) := by decide +kernel
theorem dX5_add_14 : decode cX5_add 14 = .ok (.aload_n 0, 1) := by decide +kernel
theorem dX5_add_15 : decode cX5_add 15 = .ok (.getfield 30, 3) := by decide +kernel
theorem dX5_add_18 : decode cX5_add 18 = .ok (.iload_n 2, 1) := by decide +kernel
theorem dX5_add_19 : decode cX5_add 19 = .ok (.iastore, 1) := by decide +kernel
theorem dX5_add_20 : decode cX5_add 20 = .ok (.aload_n 0, 1) := by decide +kernel
theorem dX5_add_21 : decode cX5_add 21 = .ok (.getfield 18, 3) := by decide +kernel
theorem dX5_add_24 : decode cX5_add 24 = .ok (.aload_n 0, 1) := by decide +kernel
theorem dX5_add_25 : decode cX5_add 25 = .ok (.getfield 30, 3) := by decide +kernel
theorem dX5_add_28 : decode cX5_add 28 = .ok (.iload_n 3, 1) := by decide +kernel
theorem dX5_add_29 : decode cX5_add 29 = .ok (.iastore, 1) := by decide +kernel
theorem dX5_add_30 : decode cX5_add 30 = .ok (.aload_n 0, 1) := by decide +kernel
theorem dX5_add_31 : decode cX5_add 31 = .ok (.getfield 21, 3) := by decide +kernel
theorem dX5_add_34 : decode cX5_add 34 = .ok (.aload_n 0, 1) := by decide +kernel
theorem dX5_add_35 : decode cX5_add 35 = .ok (.getfield 30, 3) := by decide +kernel
theorem dX5_add_38 : decode cX5_add 38 = .ok (.iload 4, 2) := by decide +kernel
theorem dX5_add_40 : decode cX5_add 40 = .ok (.iastore, 1) := by decide +kernel
theorem dX5_add_41 : decode cX5_add 41 = .ok (.aload_n 0, 1) := by decide +kernel
theorem dX5_add_42 : decode cX5_add 42 = .ok (.getfield 24, 3) := by decide +kernel
theorem dX5_add_45 : decode cX5_add 45 = .ok (.aload_n 0, 1) := by decide +kernel
theorem dX5_add_46 : decode cX5_add 46 = .ok (.getfield 30, 3) := by decide +kernel
theorem dX5_add_49 : decode cX5_add 49 = .ok (.iload 5, 2) := by decide +kernel
theorem dX5_add_51 : decode cX5_add 51 = .ok (.iconst 4, 1) := by decide +kernel
theorem dX5_add_52 : decode cX5_add 52 = .ok (.ishr, 1) := by decide +kernel
theorem dX5_add_53 : decode cX5_add 53 = .ok (.iastore, 1) := by decide +kernel
theorem dX5_add_54 : decode cX5_add 54 = .ok (.aload_n 0, 1) := by decide +kernel
theorem dX5_add_55 : decode cX5_add 55 = .ok (.getfield 27, 3) := by decide +kernel
theorem dX5_add_58 : decode cX5_add 58 = .ok (.aload_n 0, 1) := by decide +kernel
theorem dX5_add_59 : decode cX5_add 59 = .ok (.getfield 30, 3) := by decide +kernel
theorem dX5_add_62 : decode cX5_add 62 = .ok (.iload 5, 2) := by decide +kernel
theorem dX5_add_64 : decode cX5_add 64 = .ok (.bipush 15, 2) := by decide +kernel
theorem dX5_add_66 : decode cX5_add 66 = .ok (.iand, 1) := by decide +kernel
theorem dX5_add_67 : decode cX5_add 67 = .ok (.iastore, 1) := by decide +kernel
theorem dX5_add_68 : decode cX5_add 68 = .ok (.aload_n 0, 1) := by decide +kernel
theorem dX5_add_69 : decode cX5_add 69 = .ok (.dup, 1) := by decide +kernel
theorem dX5_add_70 : decode cX5_add 70 = .ok (.getfield 30, 3) := by decide +kernel
theorem dX5_add_73 : decode cX5_add 73 = .ok (.iconst 1, 1) := by decide +kernel
theorem dX5_add_74 : decode cX5_add 74 = .ok (.iadd, 1) := by decide +kernel
theorem dX5_add_75 : decode cX5_add 75 = .ok (.putfield 30, 3) := by decide +kernel
theorem dX5_add_78 : decode cX5_add 78 = .ok (.return_, 1) := by decide +kernel
theorem dX5_inForce_0 : decode cX5_inForce 0 = .ok (.iconst (-1), 1) := by decide +kernel
theorem dX5_inForce_1 : decode cX5_inForce 1 = .ok (.istore 4, 2) := by decide +kernel
theorem dX5_inForce_3 : decode cX5_inForce 3 = .ok (.iconst 0, 1) := by decide +kernel
theorem dX5_inForce_4 : decode cX5_inForce 4 = .ok (.istore 5, 2) := by decide +kernel
theorem dX5_inForce_6 : decode cX5_inForce 6 = .ok (.iload 5, 2) := by decide +kernel
theorem dX5_inForce_8 : decode cX5_inForce 8 = .ok (.aload_n 0, 1) := by decide +kernel
theorem dX5_inForce_9 : decode cX5_inForce 9 = .ok (.getfield 30, 3) := by decide +kernel
theorem dX5_inForce_12 : decode cX5_inForce 12 = .ok (.if_icmp .ge 62, 3) := by decide +kernel
theorem dX5_inForce_15 : decode cX5_inForce 15 = .ok (.aload_n 0, 1) := by decide +kernel
theorem dX5_inForce_16 : decode cX5_inForce 16 = .ok (.getfield 9, 3) := by decide +kernel
theorem dX5_inForce_19 : decode cX5_inForce 19 = .ok (.iload 5, 2) := by decide +kernel
theorem dX5_inForce_21 : decode cX5_inForce 21 = .ok (.iaload, 1) := by decide +kernel
theorem dX5_inForce_22 : decode cX5_inForce 22 = .ok (.bipush 100, 2) := by decide +kernel
theorem dX5_inForce_24 : decode cX5_inForce 24 = .ok (.iload_n 1, 1) := by decide +kernel
theorem dX5_inForce_25 : decode cX5_inForce 25 = .ok (.imul, 1) := by decide +kernel
theorem dX5_inForce_26 : decode cX5_inForce 26 = .ok (.iload_n 2, 1) := by decide +kernel
theorem dX5_inForce_27 : decode cX5_inForce 27 = .ok (.iadd, 1) := by decide +kernel
theorem dX5_inForce_28 : decode cX5_inForce 28 = .ok (.if_icmp .ne 40, 3) := by decide +kernel
theorem dX5_inForce_31 : decode cX5_inForce 31 = .ok (.aload_n 0, 1) := by decide +kernel
theorem dX5_inForce_32 : decode cX5_inForce 32 = .ok (.getfield 15, 3) := by decide +kernel
theorem dX5_inForce_35 : decode cX5_inForce 35 = .ok (.iload 5, 2) := by decide +kernel
theorem dX5_inForce_37 : decode cX5_inForce 37 = .ok (.iaload, 1) := by decide +kernel
theorem dX5_inForce_38 : decode cX5_inForce 38 = .ok (.iload_n 3, 1) := by decide +kernel
theorem dX5_inForce_39 : decode cX5_inForce 39 = .ok (.if_icmp .gt 29, 3) := by decide +kernel
theorem dX5_inForce_42 : decode cX5_inForce 42 = .ok (.iload 4, 2) := by decide +kernel
theorem dX5_inForce_44 : decode cX5_inForce 44 = .ok (.ifCond .lt 20, 3) := by decide +kernel
theorem dX5_inForce_47 : decode cX5_inForce 47 = .ok (.aload_n 0, 1) := by decide +kernel
theorem dX5_inForce_48 : decode cX5_inForce 48 = .ok (.getfield 15, 3) := by decide +kernel
theorem dX5_inForce_51 : decode cX5_inForce 51 = .ok (.iload 5, 2) := by decide +kernel
theorem dX5_inForce_53 : decode cX5_inForce 53 = .ok (.iaload, 1) := by decide +kernel
theorem dX5_inForce_54 : decode cX5_inForce 54 = .ok (.aload_n 0, 1) := by decide +kernel
theorem dX5_inForce_55 : decode cX5_inForce 55 = .ok (.getfield 15, 3) := by decide +kernel
theorem dX5_inForce_58 : decode cX5_inForce 58 = .ok (.iload 4, 2) := by decide +kernel
theorem dX5_inForce_60 : decode cX5_inForce 60 = .ok (.iaload, 1) := by decide +kernel
theorem dX5_inForce_61 : decode cX5_inForce 61 = .ok (.if_icmp .lt 7, 3) := by decide +kernel
theorem dX5_inForce_64 : decode cX5_inForce 64 = .ok (.iload 5, 2) := by decide +kernel
theorem dX5_inForce_66 : decode cX5_inForce 66 = .ok (.istore 4, 2) := by decide +kernel
theorem dX5_inForce_68 : decode cX5_inForce 68 = .ok (.iinc 5 1, 3) := by decide +kernel
theorem dX5_inForce_71 : decode cX5_inForce 71 = .ok (.goto (-65), 3) := by decide +kernel
theorem dX5_inForce_74 : decode cX5_inForce 74 = .ok (.iload 4, 2) := by decide +kernel
theorem dX5_inForce_76 : decode cX5_inForce 76 = .ok (.ireturn, 1) := by decide +kernel
theorem dX6_init_0 : decode cX6_init 0 = .ok (.aload_n 0, 1) := by decide +kernel
theorem dX6_init_1 : decode cX6_init 1 = .ok (.invokespecial 3, 3) := by decide +kernel
theorem dX6_init_4 : decode cX6_init 4 = .ok (.aload_n 0, 1) := by decide +kernel
theorem dX6_init_5 : decode cX6_init 5 = .ok (.bipush 20, 2) := by decide +kernel
theorem dX6_init_7 : decode cX6_init 7 = .ok (.newarray .int, 2) := by decide +kernel
theorem dX6_init_9 : decode cX6_init 9 = .ok (.putfield 9, 3) := by decide +kernel
theorem dX6_init_12 : decode cX6_init 12 = .ok (.aload_n 0, 1) := by decide +kernel
theorem dX6_init_13 : decode cX6_init 13 = .ok (.bipush 20, 2) := by decide +kernel
theorem dX6_init_15 : decode cX6_init 15 = .ok (.newarray .int, 2) := by decide +kernel
theorem dX6_init_17 : decode cX6_init 17 = .ok (.putfield 15, 3) := by decide +kernel
theorem dX6_init_20 : decode cX6_init 20 = .ok (.aload_n 0, 1) := by decide +kernel
theorem dX6_init_21 : decode cX6_init 21 = .ok (.bipush 20, 2) := by decide +kernel
theorem dX6_init_23 : decode cX6_init 23 = .ok (.newarray .int, 2) := by decide +kernel
theorem dX6_init_25 : decode cX6_init 25 = .ok (.putfield 18, 3) := by decide +kernel
theorem dX6_init_28 : decode cX6_init 28 = .ok (.return_, 1) := by decide +kernel
theorem dX6_add_0 : decode cX6_add 0 = .ok (.aload_n 0, 1) := by decide +kernel
theorem dX6_add_1 : decode cX6_add 1 = .ok (.getfield 9, 3) := by decide +kernel
theorem dX6_add_4 : decode cX6_add 4 = .ok (.aload_n 0, 1) := by decide +kernel
theorem dX6_add_5 : decode cX6_add 5 = .ok (.getfield 21, 3) := by decide +kernel
theorem dX6_add_8 : decode cX6_add 8 = .ok (.iload_n 1, 1) := by decide +kernel
theorem dX6_add_9 : decode cX6_add 9 = .ok (.iastore, 1) := by decide +kernel
theorem dX6_add_10 : decode cX6_add 10 = .ok (.aload_n 0, 1) := by decide +kernel
theorem dX6_add_11 : decode cX6_add 11 = .ok (.getfield 15, 3) := by decide +kernel
theorem dX6_add_14 : decode cX6_add 14 = .ok (.aload_n 0, 1) := by decide +kernel
theorem dX6_add_15 : decode cX6_add 15 = .ok (.getfield 21, 3) := by decide +kernel
theorem dX6_add_18 : decode cX6_add 18 = .ok (.iload_n 2, 1) := by decide +kernel
theorem dX6_add_19 : decode cX6_add 19 = .ok (.iastore, 1) := by decide +kernel
theorem dX6_add_20 : decode cX6_add 20 = .ok (.aload_n 0, 1) := by decide +kernel
theorem dX6_add_21 : decode cX6_add 21 = .ok (.getfield 18, 3) := by decide +kernel
theorem dX6_add_24 : decode cX6_add 24 = .ok (.aload_n 0, 1) := by decide +kernel
theorem dX6_add_25 : decode cX6_add 25 = .ok (.getfield 21, 3) := by decide +kernel
theorem dX6_add_28 : decode cX6_add 28 = .ok (.iload_n 3, 1) := by decide +kernel
theorem dX6_add_29 : decode cX6_add 29 = .ok (.iastore, 1) := by decide +kernel
theorem dX6_add_30 : decode cX6_add 30 = .ok (.aload_n 0, 1) := by decide +kernel
theorem dX6_add_31 : decode cX6_add 31 = .ok (.dup, 1) := by decide +kernel
theorem dX6_add_32 : decode cX6_add 32 = .ok (.getfield 21, 3) := by decide +kernel
theorem dX6_add_35 : decode cX6_add 35 = .ok (.iconst 1, 1) := by decide +kernel
theorem dX6_add_36 : decode cX6_add 36 = .ok (.iadd, 1) := by decide +kernel
theorem dX6_add_37 : decode cX6_add 37 = .ok (.putfield 21, 3) := by decide +kernel
theorem dX6_add_40 : decode cX6_add 40 = .ok (.return_, 1) := by decide +kernel
theorem dX6_hit_0 : decode cX6_hit 0 = .ok (.iconst 0, 1) := by decide +kernel
theorem dX6_hit_1 : decode cX6_hit 1 = .ok (.istore 4, 2) := by decide +kernel
theorem dX6_hit_3 : decode cX6_hit 3 = .ok (.iload 4, 2) := by decide +kernel
theorem dX6_hit_5 : decode cX6_hit 5 = .ok (.aload_n 0, 1) := by decide +kernel
theorem dX6_hit_6 : decode cX6_hit 6 = .ok (.getfield 21, 3) := by decide +kernel
theorem dX6_hit_9 : decode cX6_hit 9 = .ok (.if_icmp .ge 47, 3) := by decide +kernel
theorem dX6_hit_12 : decode cX6_hit 12 = .ok (.iload_n 1, 1) := by decide +kernel
theorem dX6_hit_13 : decode cX6_hit 13 = .ok (.aload_n 0, 1) := by decide +kernel
theorem dX6_hit_14 : decode cX6_hit 14 = .ok (.getfield 9, 3) := by decide +kernel
theorem dX6_hit_17 : decode cX6_hit 17 = .ok (.iload 4, 2) := by decide +kernel
theorem dX6_hit_19 : decode cX6_hit 19 = .ok (.iaload, 1) := by decide +kernel
theorem dX6_hit_20 : decode cX6_hit 20 = .ok (.ishr, 1) := by decide +kernel
theorem dX6_hit_21 : decode cX6_hit 21 = .ok (.iconst 1, 1) := by decide +kernel
theorem dX6_hit_22 : decode cX6_hit 22 = .ok (.iand, 1) := by decide +kernel
theorem dX6_hit_23 : decode cX6_hit 23 = .ok (.ifCond .eq 27, 3) := by decide +kernel
theorem dX6_hit_26 : decode cX6_hit 26 = .ok (.aload_n 0, 1) := by decide +kernel
theorem dX6_hit_27 : decode cX6_hit 27 = .ok (.getfield 15, 3) := by decide +kernel
theorem dX6_hit_30 : decode cX6_hit 30 = .ok (.iload 4, 2) := by decide +kernel
theorem dX6_hit_32 : decode cX6_hit 32 = .ok (.iaload, 1) := by decide +kernel
theorem dX6_hit_33 : decode cX6_hit 33 = .ok (.iload_n 2, 1) := by decide +kernel
theorem dX6_hit_34 : decode cX6_hit 34 = .ok (.if_icmp .gt 16, 3) := by decide +kernel
theorem dX6_hit_37 : decode cX6_hit 37 = .ok (.aload_n 0, 1) := by decide +kernel
theorem dX6_hit_38 : decode cX6_hit 38 = .ok (.getfield 18, 3) := by decide +kernel
theorem dX6_hit_41 : decode cX6_hit 41 = .ok (.iload 4, 2) := by decide +kernel
theorem dX6_hit_43 : decode cX6_hit 43 = .ok (.iaload, 1) := by decide +kernel
theorem dX6_hit_44 : decode cX6_hit 44 = .ok (.iload_n 3, 1) := by decide +kernel
theorem dX6_hit_45 : decode cX6_hit 45 = .ok (.if_icmp .gt 5, 3) := by decide +kernel
theorem dX6_hit_48 : decode cX6_hit 48 = .ok (.iconst 1, 1) := by decide +kernel
theorem dX6_hit_49 : decode cX6_hit 49 = .ok (.ireturn, 1) := by decide +kernel
theorem dX6_hit_50 : decode cX6_hit 50 = .ok (.iinc 4 1, 3) := by decide +kernel
theorem dX6_hit_53 : decode cX6_hit 53 = .ok (.goto (-50), 3) := by decide +kernel
theorem dX6_hit_56 : decode cX6_hit 56 = .ok (.iconst 0, 1) := by decide +kernel
theorem dX6_hit_57 : decode cX6_hit 57 = .ok (.ireturn, 1) := by decide +kernel
theorem dJ6_bitCount_0f7a4_0 : decode cJ6_bitCount_0f7a4 0 = .ok (.iload_n 0, 1) := by decide +kernel
theorem dJ6_bitCount_0f7a4_1 : decode cJ6_bitCount_0f7a4 1 = .ok (.iload_n 0, 1) := by decide +kernel
theorem dJ6_bitCount_0f7a4_2 : decode cJ6_bitCount_0f7a4 2 = .ok (.iconst 1, 1) := by decide +kernel
theorem dJ6_bitCount_0f7a4_3 : decode cJ6_bitCount_0f7a4 3 = .ok (.iushr, 1) := by decide +kernel
theorem dJ6_bitCount_0f7a4_4 : decode cJ6_bitCount_0f7a4 4 = .ok (.ldc_w 265, 3) := by decide +kernel
theorem dJ6_bitCount_0f7a4_7 : decode cJ6_bitCount_0f7a4 7 = .ok (.iand, 1) := by decide +kernel
theorem dJ6_bitCount_0f7a4_8 : decode cJ6_bitCount_0f7a4 8 = .ok (.isub, 1) := by decide +kernel
theorem dJ6_bitCount_0f7a4_9 : decode cJ6_bitCount_0f7a4 9 = .ok (.istore_n 0, 1) := by decide +kernel
theorem dJ6_bitCount_0f7a4_10 : decode cJ6_bitCount_0f7a4 10 = .ok (.iload_n 0, 1) := by decide +kernel
theorem dJ6_bitCount_0f7a4_11 : decode cJ6_bitCount_0f7a4 11 = .ok (.ldc_w 266, 3) := by decide +kernel
theorem dJ6_bitCount_0f7a4_14 : decode cJ6_bitCount_0f7a4 14 = .ok (.iand, 1) := by decide +kernel
theorem dJ6_bitCount_0f7a4_15 : decode cJ6_bitCount_0f7a4 15 = .ok (.iload_n 0, 1) := by decide +kernel
theorem dJ6_bitCount_0f7a4_16 : decode cJ6_bitCount_0f7a4 16 = .ok (.iconst 2, 1) := by decide +kernel
theorem dJ6_bitCount_0f7a4_17 : decode cJ6_bitCount_0f7a4 17 = .ok (.iushr, 1) := by decide +kernel
theorem dJ6_bitCount_0f7a4_18 : decode cJ6_bitCount_0f7a4 18 = .ok (.ldc_w 266, 3) := by decide +kernel
theorem dJ6_bitCount_0f7a4_21 : decode cJ6_bitCount_0f7a4 21 = .ok (.iand, 1) := by decide +kernel
theorem dJ6_bitCount_0f7a4_22 : decode cJ6_bitCount_0f7a4 22 = .ok (.iadd, 1) := by decide +kernel
theorem dJ6_bitCount_0f7a4_23 : decode cJ6_bitCount_0f7a4 23 = .ok (.istore_n 0, 1) := by decide +kernel
theorem dJ6_bitCount_0f7a4_24 : decode cJ6_bitCount_0f7a4 24 = .ok (.iload_n 0, 1) := by decide +kernel
theorem dJ6_bitCount_0f7a4_25 : decode cJ6_bitCount_0f7a4 25 = .ok (.iload_n 0, 1) := by decide +kernel
theorem dJ6_bitCount_0f7a4_26 : decode cJ6_bitCount_0f7a4 26 = .ok (.iconst 4, 1) := by decide +kernel
theorem dJ6_bitCount_0f7a4_27 : decode cJ6_bitCount_0f7a4 27 = .ok (.iushr, 1) := by decide +kernel
theorem dJ6_bitCount_0f7a4_28 : decode cJ6_bitCount_0f7a4 28 = .ok (.iadd, 1) := by decide +kernel
theorem dJ6_bitCount_0f7a4_29 : decode cJ6_bitCount_0f7a4 29 = .ok (.ldc_w 267, 3) := by decide +kernel
theorem dJ6_bitCount_0f7a4_32 : decode cJ6_bitCount_0f7a4 32 = .ok (.iand, 1) := by decide +kernel
theorem dJ6_bitCount_0f7a4_33 : decode cJ6_bitCount_0f7a4 33 = .ok (.istore_n 0, 1) := by decide +kernel
theorem dJ6_bitCount_0f7a4_34 : decode cJ6_bitCount_0f7a4 34 = .ok (.iload_n 0, 1) := by decide +kernel
theorem dJ6_bitCount_0f7a4_35 : decode cJ6_bitCount_0f7a4 35 = .ok (.iload_n 0, 1) := by decide +kernel
theorem dJ6_bitCount_0f7a4_36 : decode cJ6_bitCount_0f7a4 36 = .ok (.bipush 8, 2) := by decide +kernel
theorem dJ6_bitCount_0f7a4_38 : decode cJ6_bitCount_0f7a4 38 = .ok (.iushr, 1) := by decide +kernel
theorem dJ6_bitCount_0f7a4_39 : decode cJ6_bitCount_0f7a4 39 = .ok (.iadd, 1) := by decide +kernel
theorem dJ6_bitCount_0f7a4_40 : decode cJ6_bitCount_0f7a4 40 = .ok (.istore_n 0, 1) := by decide +kernel
theorem dJ6_bitCount_0f7a4_41 : decode cJ6_bitCount_0f7a4 41 = .ok (.iload_n 0, 1) := by decide +kernel
theorem dJ6_bitCount_0f7a4_42 : decode cJ6_bitCount_0f7a4 42 = .ok (.iload_n 0, 1) := by decide +kernel
theorem dJ6_bitCount_0f7a4_43 : decode cJ6_bitCount_0f7a4 43 = .ok (.bipush 16, 2) := by decide +kernel
theorem dJ6_bitCount_0f7a4_45 : decode cJ6_bitCount_0f7a4 45 = .ok (.iushr, 1) := by decide +kernel
theorem dJ6_bitCount_0f7a4_46 : decode cJ6_bitCount_0f7a4 46 = .ok (.iadd, 1) := by decide +kernel
theorem dJ6_bitCount_0f7a4_47 : decode cJ6_bitCount_0f7a4 47 = .ok (.istore_n 0, 1) := by decide +kernel
theorem dJ6_bitCount_0f7a4_48 : decode cJ6_bitCount_0f7a4 48 = .ok (.iload_n 0, 1) := by decide +kernel
theorem dJ6_bitCount_0f7a4_49 : decode cJ6_bitCount_0f7a4 49 = .ok (.bipush 63, 2) := by decide +kernel
theorem dJ6_bitCount_0f7a4_51 : decode cJ6_bitCount_0f7a4 51 = .ok (.iand, 1) := by decide +kernel
theorem dJ6_bitCount_0f7a4_52 : decode cJ6_bitCount_0f7a4 52 = .ok (.ireturn, 1) := by decide +kernel
theorem dJ9_abs_0f7a4_0 : decode cJ9_abs_0f7a4 0 = .ok (.iload_n 0, 1) := by decide +kernel
theorem dJ9_abs_0f7a4_1 : decode cJ9_abs_0f7a4 1 = .ok (.ifCond .ge 8, 3) := by decide +kernel
theorem dJ9_abs_0f7a4_4 : decode cJ9_abs_0f7a4 4 = .ok (.iload_n 0, 1) := by decide +kernel
theorem dJ9_abs_0f7a4_5 : decode cJ9_abs_0f7a4 5 = .ok (.ineg, 1) := by decide +kernel
theorem dJ9_abs_0f7a4_6 : decode cJ9_abs_0f7a4 6 = .ok (.goto 4, 3) := by decide +kernel
theorem dJ9_abs_0f7a4_9 : decode cJ9_abs_0f7a4 9 = .ok (.iload_n 0, 1) := by decide +kernel
theorem dJ9_abs_0f7a4_10 : decode cJ9_abs_0f7a4 10 = .ok (.ireturn, 1) := by decide +kernel
theorem dJ9_max_7cf53_0 : decode cJ9_max_7cf53 0 = .ok (.iload_n 0, 1) := by decide +kernel
theorem dJ9_max_7cf53_1 : decode cJ9_max_7cf53 1 = .ok (.iload_n 1, 1) := by decide +kernel
theorem dJ9_max_7cf53_2 : decode cJ9_max_7cf53 2 = .ok (.if_icmp .lt 7, 3) := by decide +kernel
theorem dJ9_max_7cf53_5 : decode cJ9_max_7cf53 5 = .ok (.iload_n 0, 1) := by decide +kernel
theorem dJ9_max_7cf53_6 : decode cJ9_max_7cf53 6 = .ok (.goto 4, 3) := by decide +kernel
theorem dJ9_max_7cf53_9 : decode cJ9_max_7cf53 9 = .ok (.iload_n 1, 1) := by decide +kernel
theorem dJ9_max_7cf53_10 : decode cJ9_max_7cf53 10 = .ok (.ireturn, 1) := by decide +kernel
theorem dJ9_min_7cf53_0 : decode cJ9_min_7cf53 0 = .ok (.iload_n 0, 1) := by decide +kernel
theorem dJ9_min_7cf53_1 : decode cJ9_min_7cf53 1 = .ok (.iload_n 1, 1) := by decide +kernel
theorem dJ9_min_7cf53_2 : decode cJ9_min_7cf53 2 = .ok (.if_icmp .gt 7, 3) := by decide +kernel
theorem dJ9_min_7cf53_5 : decode cJ9_min_7cf53 5 = .ok (.iload_n 0, 1) := by decide +kernel
theorem dJ9_min_7cf53_6 : decode cJ9_min_7cf53 6 = .ok (.goto 4, 3) := by decide +kernel
theorem dJ9_min_7cf53_9 : decode cJ9_min_7cf53 9 = .ok (.iload_n 1, 1) := by decide +kernel
theorem dJ9_min_7cf53_10 : decode cJ9_min_7cf53 10 = .ok (.ireturn, 1) := by decide +kernel
theorem dJ7_fill_53178_0 : decode cJ7_fill_53178 0 = .ok (.iconst 0, 1) := by decide +kernel
theorem dJ7_fill_53178_1 : decode cJ7_fill_53178 1 = .ok (.istore_n 2, 1) := by decide +kernel
theorem dJ7_fill_53178_2 : decode cJ7_fill_53178 2 = .ok (.aload_n 0, 1) := by decide +kernel
theorem dJ7_fill_53178_3 : decode cJ7_fill_53178 3 = .ok (.arraylength, 1) := by decide +kernel
theorem dJ7_fill_53178_4 : decode cJ7_fill_53178 4 = .ok (.istore_n 3, 1) := by decide +kernel
theorem dJ7_fill_53178_5 : decode cJ7_fill_53178 5 = .ok (.iload_n 2, 1) := by decide +kernel
theorem dJ7_fill_53178_6 : decode cJ7_fill_53178 6 = .ok (.iload_n 3, 1) := by decide +kernel
theorem dJ7_fill_53178_7 : decode cJ7_fill_53178 7 = .ok (.if_icmp .ge 13, 3) := by decide +kernel
theorem dJ7_fill_53178_10 : decode cJ7_fill_53178 10 = .ok (.aload_n 0, 1) := by decide +kernel
theorem dJ7_fill_53178_11 : decode cJ7_fill_53178 11 = .ok (.iload_n 2, 1) := by decide +kernel
theorem dJ7_fill_53178_12 : decode cJ7_fill_53178 12 = .ok (.iload_n 1, 1) := by decide +kernel
theorem dJ7_fill_53178_13 : decode cJ7_fill_53178 13 = .ok (.iastore, 1) := by decide +kernel
theorem dJ7_fill_53178_14 : decode cJ7_fill_53178 14 = .ok (.iinc 2 1, 3) := by decide +kernel
theorem dJ7_fill_53178_17 : decode cJ7_fill_53178 17 = .ok (.goto (-12), 3) := by decide +kernel
theorem dJ7_fill_53178_20 : decode cJ7_fill_53178 20 = .ok (.return_, 1) := by decide +kernel
