theorem dX8_panel_63 : decode cX8_panel 63 = .ok (.iload 5, 2) := by decide +kernel
theorem dX8_panel_65 : decode cX8_panel 65 = .ok (.invokevirtual 200, 3) := by decide +kernel
theorem dX8_panel_68 : decode cX8_panel 68 = .ok (.ireturn, 1) := by decide +kernel
theorem dX8_give_0 : decode cX8_give 0 = .ok (.aload_n 0, 1) := by decide +kernel
theorem dX8_give_1 : decode cX8_give 1 = .ok (.iload_n 1, 1) := by decide +kernel
theorem dX8_give_2 : decode cX8_give 2 = .ok (.iload_n 2, 1) := by decide +kernel
theorem dX8_give_3 : decode cX8_give 3 = .ok (.iload_n 3, 1) := by decide +kernel
theorem dX8_give_4 : decode cX8_give 4 = .ok (.iload 4, 2) := by decide +kernel
theorem dX8_give_6 : decode cX8_give 6 = .ok (.invokevirtual 182, 3) := by decide +kernel
theorem dX8_give_9 : decode cX8_give 9 = .ok (.ifCond .eq 35, 3) := by decide +kernel
theorem dX8_give_12 : decode cX8_give 12 = .ok (.aload_n 0, 1) := by decide +kernel
theorem dX8_give_13 : decode cX8_give 13 = .ok (.iload 5, 2) := by decide +kernel
theorem dX8_give_15 : decode cX8_give 15 = .ok (.invokevirtual 197, 3) := by decide +kernel
theorem dX8_give_18 : decode cX8_give 18 = .ok (.ifCond .eq 26, 3) := by decide +kernel
theorem dX8_give_21 : decode cX8_give 21 = .ok (.aload_n 0, 1) := by decide +kernel
theorem dX8_give_22 : decode cX8_give 22 = .ok (.getfield 159, 3) := by decide +kernel
theorem dX8_give_25 : decode cX8_give 25 = .ok (.ifCond .le 26, 3) := by decide +kernel
theorem dX8_give_28 : decode cX8_give 28 = .ok (.iload 4, 2) := by decide +kernel
theorem dX8_give_30 : decode cX8_give 30 = .ok (.aload_n 0, 1) := by decide +kernel
theorem dX8_give_31 : decode cX8_give 31 = .ok (.getfield 58, 3) := by decide +kernel
theorem dX8_give_34 : decode cX8_give 34 = .ok (.aload_n 0, 1) := by decide +kernel
theorem dX8_give_35 : decode cX8_give 35 = .ok (.getfield 159, 3) := by decide +kernel
theorem dX8_give_38 : decode cX8_give 38 = .ok (.iconst 1, 1) := by decide +kernel
theorem dX8_give_39 : decode cX8_give 39 = .ok (.isub, 1) := by decide +kernel
theorem dX8_give_40 : decode cX8_give 40 = .ok (.iaload, 1) := by decide +kernel
theorem dX8_give_41 : decode cX8_give 41 = .ok (.if_icmp .ge 10, 3) := by decide +kernel
theorem dX8_give_44 : decode cX8_give 44 = .ok (.aload_n 0, 1) := by decide +kernel
theorem dX8_give_45 : decode cX8_give 45 = .ok (.ldc 123, 2) := by decide +kernel
theorem dX8_give_47 : decode cX8_give 47 = .ok (.invokevirtual 124, 3) := by decide +kernel
theorem dX8_give_50 : decode cX8_give 50 = .ok (.ireturn, 1) := by decide +kernel
theorem dX8_give_51 : decode cX8_give 51 = .ok (.aload_n 0, 1) := by decide +kernel
theorem dX8_give_52 : decode cX8_give 52 = .ok (.iload 4, 2) := by decide +kernel
theorem dX8_give_54 : decode cX8_give 54 = .ok (.invokevirtual 175, 3) := by decide +kernel
theorem dX8_give_57 : decode cX8_give 57 = .ok (.aload_n 0, 1) := by decide +kernel
theorem dX8_give_58 : decode cX8_give 58 = .ok (.iload_n 1, 1) := by decide +kernel
theorem dX8_give_59 : decode cX8_give 59 = .ok (.iload_n 2, 1) := by decide +kernel
theorem dX8_give_60 : decode cX8_give 60 = .ok (.iload_n 3, 1) := by decide +kernel
theorem dX8_give_61 : decode cX8_give 61 = .ok (.iload 4, 2) := by decide +kernel
theorem dX8_give_63 : decode cX8_give 63 = .ok (.invokevirtual 186, 3) := by decide +kernel
theorem dX8_give_66 : decode cX8_give 66 = .ok (.ifCond .ne 24, 3) := by decide +kernel
theorem dX8_give_69 : decode cX8_give 69 = .ok (.aload_n 0, 1) := by decide +kernel
theorem dX8_give_70 : decode cX8_give 70 = .ok (.iload_n 1, 1) := by decide +kernel
theorem dX8_give_71 : decode cX8_give 71 = .ok (.iload_n 2, 1) := by decide +kernel
theorem dX8_give_72 : decode cX8_give 72 = .ok (.aload_n 0, 1) := by decide +kernel
theorem dX8_give_73 : decode cX8_give 73 = .ok (.iload_n 2, 1) := by decide +kernel
theorem dX8_give_74 : decode cX8_give 74 = .ok (.iload_n 3, 1) := by decide +kernel
theorem dX8_give_75 : decode cX8_give 75 = .ok (.iload 4, 2) := by decide +kernel
theorem dX8_give_77 : decode cX8_give 77 = .ok (.invokevirtual 149, 3) := by decide +kernel
theorem dX8_give_80 : decode cX8_give 80 = .ok (.iload 4, 2) := by decide +kernel
theorem dX8_give_82 : decode cX8_give 82 = .ok (.iload 5, 2) := by decide +kernel
theorem dX8_give_84 : decode cX8_give 84 = .ok (.invokevirtual 200, 3) := by decide +kernel
theorem dX8_give_87 : decode cX8_give 87 = .ok (.ifCond .eq 10, 3) := by decide +kernel
theorem dX8_give_90 : decode cX8_give 90 = .ok (.aload_n 0, 1) := by decide +kernel
theorem dX8_give_91 : decode cX8_give 91 = .ok (.ldc 203, 2) := by decide +kernel
theorem dX8_give_93 : decode cX8_give 93 = .ok (.invokevirtual 124, 3) := by decide +kernel
theorem dX8_give_96 : decode cX8_give 96 = .ok (.ireturn, 1) := by decide +kernel
theorem dX8_give_97 : decode cX8_give 97 = .ok (.aload_n 0, 1) := by decide +kernel
theorem dX8_give_98 : decode cX8_give 98 = .ok (.getfield 159, 3) := by decide +kernel
theorem dX8_give_101 : decode cX8_give 101 = .ok (.bipush 60, 2) := by decide +kernel
theorem dX8_give_103 : decode cX8_give 103 = .ok (.if_icmp .ne 10, 3) := by decide +kernel
theorem dX8_give_106 : decode cX8_give 106 = .ok (.aload_n 0, 1) := by decide +kernel
theorem dX8_give_107 : decode cX8_give 107 = .ok (.ldc 131, 2) := by decide +kernel
theorem dX8_give_109 : decode cX8_give 109 = .ok (.invokevirtual 124, 3) := by decide +kernel
theorem dX8_give_112 : decode cX8_give 112 = .ok (.ireturn, 1) := by decide +kernel
theorem dX8_give_113 : decode cX8_give 113 = .ok (.aload_n 0, 1) := by decide +kernel
theorem dX8_give_114 : decode cX8_give 114 = .ok (.getfield 49, 3) := by decide +kernel
theorem dX8_give_117 : decode cX8_give 117 = .ok (.aload_n 0, 1) := by decide +kernel
theorem dX8_give_118 : decode cX8_give 118 = .ok (.getfield 159, 3) := by decide +kernel
theorem dX8_give_121 : decode cX8_give 121 = .ok (.iload_n 1, 1) := by decide +kernel
theorem dX8_give_122 : decode cX8_give 122 = .ok (.iastore, 1) := by decide +kernel
theorem dX8_give_123 : decode cX8_give 123 = .ok (.aload_n 0, 1) := by decide +kernel
theorem dX8_give_124 : decode cX8_give 124 = .ok (.getfield 52, 3) := by decide +kernel
theorem dX8_give_127 : decode cX8_give 127 = .ok (.aload_n 0, 1) := by decide +kernel
theorem dX8_give_128 : decode cX8_give 128 = .ok (.getfield 159, 3) := by decide +kernel
theorem dX8_give_131 : decode cX8_give 131 = .ok (.iload_n 2, 1) := by decide +kernel
theorem dX8_give_132 : decode cX8_give 132 = .ok (.iastore, 1) := by decide +kernel
theorem dX8_give_133 : decode cX8_give 133 = .ok (.aload_n 0, 1) := by decide +kernel
theorem dX8_give_134 : decode cX8_give 134 = .ok (.getfield 55, 3) := by decide +kernel
theorem dX8_give_137 : decode cX8_give 137 = .ok (.aload_n 0, 1) := by decide +kernel
theorem dX8_give_138 : decode cX8_give 138 = .ok (.getfield 159, 3) := by decide +kernel
theorem dX8_give_141 : decode cX8_give 141 = .ok (.iload_n 3, 1) := by decide +kernel
theorem dX8_give_142 : decode cX8_give 142 = .ok (.iastore, 1) := by decide +kernel
theorem dX8_give_143 : decode cX8_give 143 = .ok (.aload_n 0, 1) := by decide +kernel
theorem dX8_give_144 : decode cX8_give 144 = .ok (.getfield 58, 3) := by decide +kernel
theorem dX8_give_147 : decode cX8_give 147 = .ok (.aload_n 0, 1) := by decide +kernel
theorem dX8_give_148 : decode cX8_give 148 = .ok (.getfield 159, 3) := by decide +kernel
theorem dX8_give_151 : decode cX8_give 151 = .ok (.iload 4, 2) := by decide +kernel
theorem dX8_give_153 : decode cX8_give 153 = .ok (.iastore, 1) := by decide +kernel
theorem dX8_give_154 : decode cX8_give 154 = .ok (.aload_n 0, 1) := by decide +kernel
theorem dX8_give_155 : decode cX8_give 155 = .ok (.getfield 61, 3) := by decide +kernel
theorem dX8_give_158 : decode cX8_give 158 = .ok (.aload_n 0, 1) := by decide +kernel
theorem dX8_give_159 : decode cX8_give 159 = .ok (.getfield 159, 3) := by decide +kernel
theorem dX8_give_162 : decode cX8_give 162 = .ok (.iload 5, 2) := by decide +kernel
theorem dX8_give_164 : decode cX8_give 164 = .ok (.iastore, 1) := by decide +kernel
theorem dX8_give_165 : decode cX8_give 165 = .ok (.aload_n 0, 1) := by decide +kernel
theorem dX8_give_166 : decode cX8_give 166 = .ok (.dup, 1) := by decide +kernel
theorem dX8_give_167 : decode cX8_give 167 = .ok (.getfield 159, 3) := by decide +kernel
theorem dX8_give_170 : decode cX8_give 170 = .ok (.iconst 1, 1) := by decide +kernel
theorem dX8_give_171 : decode cX8_give 171 = .ok (.iadd, 1) := by decide +kernel
theorem dX8_give_172 : decode cX8_give 172 = .ok (.putfield 159, 3) := by decide +kernel
theorem dX8_give_175 : decode cX8_give 175 = .ok (.aload_n 0, 1) := by decide +kernel
theorem dX8_give_176 : decode cX8_give 176 = .ok (.getfield 159, 3) := by decide +kernel
theorem dX8_give_179 : decode cX8_give 179 = .ok (.iconst 1, 1) := by decide +kernel
theorem dX8_give_180 : decode cX8_give 180 = .ok (.isub, 1) := by decide +kernel
theorem dX8_give_181 : decode cX8_give 181 = .ok (.ireturn, 1) := by decide +kernel
theorem dX8_entry_0 : decode cX8_entry 0 = .ok (.iload_n 1, 1) := by decide +kernel
theorem dX8_entry_1 : decode cX8_entry 1 = .ok (.iconst 0, 1) := by decide +kernel
theorem dX8_entry_2 : decode cX8_entry 2 = .ok (.aload_n 0, 1) := by decide +kernel
theorem dX8_entry_3 : decode cX8_entry 3 = .ok (.getfield 159, 3) := by decide +kernel
theorem dX8_entry_6 : decode cX8_entry 6 = .ok (.iconst 1, 1) := by decide +kernel
theorem dX8_entry_7 : decode cX8_entry 7 = .ok (.isub, 1) := by decide +kernel
theorem dX8_entry_8 : decode cX8_entry 8 = .ok (.invokestatic 111, 3) := by decide +kernel
theorem dX8_entry_11 : decode cX8_entry 11 = .ok (.ifCond .ne 10, 3) := by decide +kernel
theorem dX8_entry_14 : decode cX8_entry 14 = .ok (.aload_n 0, 1) := by decide +kernel
theorem dX8_entry_15 : decode cX8_entry 15 = .ok (.ldc 123, 2) := by decide +kernel
theorem dX8_entry_17 : decode cX8_entry 17 = .ok (.invokevirtual 124, 3) := by decide +kernel
theorem dX8_entry_20 : decode cX8_entry 20 = .ok (.ireturn, 1) := by decide +kernel
theorem dX8_entry_21 : decode cX8_entry 21 = .ok (.iload_n 2, 1) := by decide +kernel
theorem dX8_entry_22 : decode cX8_entry 22 = .ok (.tableswitch 69 0 4 #[34, 41, 48, 55, 62], 34) := by decide +kernel
theorem dX8_entry_56 : decode cX8_entry 56 = .ok (.aload_n 0, 1) := by decide +kernel
theorem dX8_entry_57 : decode cX8_entry 57 = .ok (.getfield 49, 3) := by decide +kernel
theorem dX8_entry_60 : decode cX8_entry 60 = .ok (.iload_n 1, 1) := by decide +kernel
theorem dX8_entry_61 : decode cX8_entry 61 = .ok (.iaload, 1) := by decide +kernel
theorem dX8_entry_62 : decode cX8_entry 62 = .ok (.ireturn, 1) := by decide +kernel
theorem dX8_entry_63 : decode cX8_entry 63 = .ok (.aload_n 0, 1) := by decide +kernel
theorem dX8_entry_64 : decode cX8_entry 64 = .ok (.getfield 52, 3) := by decide +kernel
theorem dX8_entry_67 : decode cX8_entry 67 = .ok (.iload_n 1, 1) := by decide +kernel
theorem dX8_entry_68 : decode cX8_entry 68 = .ok (.iaload, 1) := by decide +kernel
theorem dX8_entry_69 : decode cX8_entry 69 = .ok (.ireturn, 1) := by decide +kernel
theorem dX8_entry_70 : decode cX8_entry 70 = .ok (.aload_n 0, 1) := by decide +kernel
theorem dX8_entry_71 : decode cX8_entry 71 = .ok (.getfield 55, 3) := by decide +kernel
theorem dX8_entry_74 : decode cX8_entry 74 = .ok (.iload_n 1, 1) := by decide +kernel
theorem dX8_entry_75 : decode cX8_entry 75 = .ok (.iaload, 1) := by decide +kernel
theorem dX8_entry_76 : decode cX8_entry 76 = .ok (.ireturn, 1) := by decide +kernel
theorem dX8_entry_77 : decode cX8_entry 77 = .ok (.aload_n 0, 1) := by decide +kernel
theorem dX8_entry_78 : decode cX8_entry 78 = .ok (.getfield 58, 3) := by decide +kernel
theorem dX8_entry_81 : decode cX8_entry 81 = .ok (.iload_n 1, 1) := by decide +kernel
theorem dX8_entry_82 : decode cX8_entry 82 = .ok (.iaload, 1) := by decide +kernel
theorem dX8_entry_83 : decode cX8_entry 83 = .ok (.ireturn, 1) := by decide +kernel
theorem dX8_entry_84 : decode cX8_entry 84 = .ok (.aload_n 0, 1) := by decide +kernel
theorem dX8_entry_85 : decode cX8_entry 85 = .ok (.getfield 61, 3) := by decide +kernel
theorem dX8_entry_88 : decode cX8_entry 88 = .ok (.iload_n 1, 1) := by decide +kernel
theorem dX8_entry_89 : decode cX8_entry 89 = .ok (.iaload, 1) := by decide +kernel
theorem dX8_entry_90 : decode cX8_entry 90 = .ok (.ireturn, 1) := by decide +kernel
theorem dX8_entry_91 : decode cX8_entry 91 = .ok (.aload_n 0, 1) := by decide +kernel
theorem dX8_entry_92 : decode cX8_entry 92 = .ok (.ldc 123, 2) := by decide +kernel
theorem dX8_entry_94 : decode cX8_entry 94 = .ok (.invokevirtual 124, 3) := by decide +kernel
theorem dX8_entry_97 : decode cX8_entry 97 = .ok (.ireturn, 1) := by decide +kernel
theorem dX8_stands_0 : decode cX8_stands 0 = .ok (.iload_n 1, 1) := by decide +kernel
theorem dX8_stands_1 : decode cX8_stands 1 = .ok (.iconst 0, 1) := by decide +kernel
theorem dX8_stands_2 : decode cX8_stands 2 = .ok (.aload_n 0, 1) := by decide +kernel
theorem dX8_stands_3 : decode cX8_stands 3 = .ok (.getfield 159, 3) := by decide +kernel
theorem dX8_stands_6 : decode cX8_stands 6 = .ok (.iconst 1, 1) := by decide +kernel
theorem dX8_stands_7 : decode cX8_stands 7 = .ok (.isub, 1) := by decide +kernel
theorem dX8_stands_8 : decode cX8_stands 8 = .ok (.invokestatic 111, 3) := by decide +kernel
theorem dX8_stands_11 : decode cX8_stands 11 = .ok (.ifCond .eq 10, 3) := by decide +kernel
theorem dX8_stands_14 : decode cX8_stands 14 = .ok (.iload_n 2, 1) := by decide +kernel
theorem dX8_stands_15 : decode cX8_stands 15 = .ok (.invokestatic 119, 3) := by decide +kernel
theorem dX8_stands_18 : decode cX8_stands 18 = .ok (.ifCond .ne 10, 3) := by decide +kernel
theorem dX8_stands_21 : decode cX8_stands 21 = .ok (.aload_n 0, 1) := by decide +kernel
theorem dX8_stands_22 : decode cX8_stands 22 = .ok (.ldc 123, 2) := by decide +kernel
theorem dX8_stands_24 : decode cX8_stands 24 = .ok (.invokevirtual 124, 3) := by decide +kernel
theorem dX8_stands_27 : decode cX8_stands 27 = .ok (.ireturn, 1) := by decide +kernel
theorem dX8_stands_28 : decode cX8_stands 28 = .ok (.aload_n 0, 1) := by decide +kernel
theorem dX8_stands_29 : decode cX8_stands 29 = .ok (.iload_n 2, 1) := by decide +kernel
theorem dX8_stands_30 : decode cX8_stands 30 = .ok (.invokevirtual 175, 3) := by decide +kernel
theorem dX8_stands_33 : decode cX8_stands 33 = .ok (.aload_n 0, 1) := by decide +kernel
theorem dX8_stands_34 : decode cX8_stands 34 = .ok (.getfield 94, 3) := by decide +kernel
theorem dX8_stands_37 : decode cX8_stands 37 = .ok (.iload_n 1, 1) := by decide +kernel
theorem dX8_stands_38 : decode cX8_stands 38 = .ok (.baload, 1) := by decide +kernel
theorem dX8_stands_39 : decode cX8_stands 39 = .ok (.ifCond .eq 7, 3) := by decide +kernel
theorem dX8_stands_42 : decode cX8_stands 42 = .ok (.iconst 1, 1) := by decide +kernel
theorem dX8_stands_43 : decode cX8_stands 43 = .ok (.goto 4, 3) := by decide +kernel
theorem dX8_stands_46 : decode cX8_stands 46 = .ok (.iconst 0, 1) := by decide +kernel
theorem dX8_stands_47 : decode cX8_stands 47 = .ok (.ireturn, 1) := by decide +kernel
theorem dX8_standing_0 : decode cX8_standing 0 = .ok (.aload_n 0, 1) := by decide +kernel
theorem dX8_standing_1 : decode cX8_standing 1 = .ok (.sipush 30000, 3) := by decide +kernel
theorem dX8_standing_4 : decode cX8_standing 4 = .ok (.invokevirtual 175, 3) := by decide +kernel
theorem dX8_standing_7 : decode cX8_standing 7 = .ok (.iconst 0, 1) := by decide +kernel
theorem dX8_standing_8 : decode cX8_standing 8 = .ok (.istore_n 1, 1) := by decide +kernel
theorem dX8_standing_9 : decode cX8_standing 9 = .ok (.iconst 0, 1) := by decide +kernel
theorem dX8_standing_10 : decode cX8_standing 10 = .ok (.istore_n 2, 1) := by decide +kernel
theorem dX8_standing_11 : decode cX8_standing 11 = .ok (.iload_n 2, 1) := by decide +kernel
theorem dX8_standing_12 : decode cX8_standing 12 = .ok (.aload_n 0, 1) := by decide +kernel
theorem dX8_standing_13 : decode cX8_standing 13 = .ok (.getfield 159, 3) := by decide +kernel
theorem dX8_standing_16 : decode cX8_standing 16 = .ok (.if_icmp .ge 26, 3) := by decide +kernel
theorem dX8_standing_19 : decode cX8_standing 19 = .ok (.iload_n 1, 1) := by decide +kernel
theorem dX8_standing_20 : decode cX8_standing 20 = .ok (.aload_n 0, 1) := by decide +kernel
theorem dX8_standing_21 : decode cX8_standing 21 = .ok (.getfield 94, 3) := by decide +kernel
theorem dX8_standing_24 : decode cX8_standing 24 = .ok (.iload_n 2, 1) := by decide +kernel
theorem dX8_standing_25 : decode cX8_standing 25 = .ok (.baload, 1) := by decide +kernel
theorem dX8_standing_26 : decode cX8_standing 26 = .ok (.ifCond .eq 7, 3) := by decide +kernel
theorem dX8_standing_29 : decode cX8_standing 29 = .ok (.iconst 1, 1) := by decide +kernel
theorem dX8_standing_30 : decode cX8_standing 30 = .ok (.goto 4, 3) := by decide +kernel
theorem dX8_standing_33 : decode cX8_standing 33 = .ok (.iconst 0, 1) := by decide +kernel
theorem dX8_standing_34 : decode cX8_standing 34 = .ok (.iadd, 1) := by decide +kernel
theorem dX8_standing_35 : decode cX8_standing 35 = .ok (.istore_n 1, 1) := by decide +kernel
theorem dX8_standing_36 : decode cX8_standing 36 = .ok (.iinc 2 1, 3) := by decide +kernel
theorem dX8_standing_39 : decode cX8_standing 39 = .ok (.goto (-28), 3) := by decide +kernel
theorem dX8_standing_42 : decode cX8_standing 42 = .ok (.iload_n 1, 1) := by decide +kernel
theorem dX8_standing_43 : decode cX8_standing 43 = .ok (.ireturn, 1) := by decide +kernel
theorem dX8_strike_0 : decode cX8_strike 0 = .ok (.aload_n 0, 1) := by decide +kernel
theorem dX8_strike_1 : decode cX8_strike 1 = .ok (.iload_n 1, 1) := by decide +kernel
theorem dX8_strike_2 : decode cX8_strike 2 = .ok (.invokevirtual 132, 3) := by decide +kernel
theorem dX8_strike_5 : decode cX8_strike 5 = .ok (.ifCond .eq 17, 3) := by decide +kernel
theorem dX8_strike_8 : decode cX8_strike 8 = .ok (.iload_n 2, 1) := by decide +kernel
theorem dX8_strike_9 : decode cX8_strike 9 = .ok (.invokestatic 119, 3) := by decide +kernel
theorem dX8_strike_12 : decode cX8_strike 12 = .ok (.ifCond .eq 10, 3) := by decide +kernel
theorem dX8_strike_15 : decode cX8_strike 15 = .ok (.iload_n 3, 1) := by decide +kernel
theorem dX8_strike_16 : decode cX8_strike 16 = .ok (.invokestatic 119, 3) := by decide +kernel
theorem dX8_strike_19 : decode cX8_strike 19 = .ok (.ifCond .ne 10, 3) := by decide +kernel
theorem dX8_strike_22 : decode cX8_strike 22 = .ok (.aload_n 0, 1) := by decide +kernel
theorem dX8_strike_23 : decode cX8_strike 23 = .ok (.ldc 123, 2) := by decide +kernel
theorem dX8_strike_25 : decode cX8_strike 25 = .ok (.invokevirtual 124, 3) := by decide +kernel
theorem dX8_strike_28 : decode cX8_strike 28 = .ok (.ireturn, 1) := by decide +kernel
theorem dX8_strike_29 : decode cX8_strike 29 = .ok (.aload_n 0, 1) := by decide +kernel
theorem dX8_strike_30 : decode cX8_strike 30 = .ok (.getfield 9, 3) := by decide +kernel
theorem dX8_strike_33 : decode cX8_strike 33 = .ok (.iload_n 1, 1) := by decide +kernel
theorem dX8_strike_34 : decode cX8_strike 34 = .ok (.iaload, 1) := by decide +kernel
theorem dX8_strike_35 : decode cX8_strike 35 = .ok (.iconst 1, 1) := by decide +kernel
theorem dX8_strike_36 : decode cX8_strike 36 = .ok (.if_icmp .eq 10, 3) := by decide +kernel
theorem dX8_strike_39 : decode cX8_strike 39 = .ok (.aload_n 0, 1) := by decide +kernel
theorem dX8_strike_40 : decode cX8_strike 40 = .ok (.ldc 135, 2) := by decide +kernel
theorem dX8_strike_42 : decode cX8_strike 42 = .ok (.invokevirtual 124, 3) := by decide +kernel
theorem dX8_strike_45 : decode cX8_strike 45 = .ok (.ireturn, 1) := by decide +kernel
theorem dX8_strike_46 : decode cX8_strike 46 = .ok (.aload_n 0, 1) := by decide +kernel
theorem dX8_strike_47 : decode cX8_strike 47 = .ok (.getfield 153, 3) := by decide +kernel
theorem dX8_strike_50 : decode cX8_strike 50 = .ok (.bipush 20, 2) := by decide +kernel
theorem dX8_strike_52 : decode cX8_strike 52 = .ok (.if_icmp .ne 10, 3) := by decide +kernel
theorem dX8_strike_55 : decode cX8_strike 55 = .ok (.aload_n 0, 1) := by decide +kernel
theorem dX8_strike_56 : decode cX8_strike 56 = .ok (.ldc 131, 2) := by decide +kernel
theorem dX8_strike_58 : decode cX8_strike 58 = .ok (.invokevirtual 124, 3) := by decide +kernel
theorem dX8_strike_61 : decode cX8_strike 61 = .ok (.ireturn, 1) := by decide +kernel
theorem dX8_strike_62 : decode cX8_strike 62 = .ok (.aload_n 0, 1) := by decide +kernel
theorem dX8_strike_63 : decode cX8_strike 63 = .ok (.invokevirtual 204, 3) := by decide +kernel
theorem dX8_strike_66 : decode cX8_strike 66 = .ok (.istore 4, 2) := by decide +kernel
theorem dX8_strike_68 : decode cX8_strike 68 = .ok (.aload_n 0, 1) := by decide +kernel
theorem dX8_strike_69 : decode cX8_strike 69 = .ok (.getfield 64, 3) := by decide +kernel
theorem dX8_strike_72 : decode cX8_strike 72 = .ok (.aload_n 0, 1) := by decide +kernel
theorem dX8_strike_73 : decode cX8_strike 73 = .ok (.getfield 153, 3) := by decide +kernel
theorem dX8_strike_76 : decode cX8_strike 76 = .ok (.iload_n 1, 1) := by decide +kernel
theorem dX8_strike_77 : decode cX8_strike 77 = .ok (.iastore, 1) := by decide +kernel
theorem dX8_strike_78 : decode cX8_strike 78 = .ok (.aload_n 0, 1) := by decide +kernel
theorem dX8_strike_79 : decode cX8_strike 79 = .ok (.getfield 67, 3) := by decide +kernel
theorem dX8_strike_82 : decode cX8_strike 82 = .ok (.aload_n 0, 1) := by decide +kernel
theorem dX8_strike_83 : decode cX8_strike 83 = .ok (.getfield 153, 3) := by decide +kernel
theorem dX8_strike_86 : decode cX8_strike 86 = .ok (.iload_n 2, 1) := by decide +kernel
theorem dX8_strike_87 : decode cX8_strike 87 = .ok (.iastore, 1) := by decide +kernel
theorem dX8_strike_88 : decode cX8_strike 88 = .ok (.aload_n 0, 1) := by decide +kernel
theorem dX8_strike_89 : decode cX8_strike 89 = .ok (.getfield 70, 3) := by decide +kernel
theorem dX8_strike_92 : decode cX8_strike 92 = .ok (.aload_n 0, 1) := by decide +kernel
theorem dX8_strike_93 : decode cX8_strike 93 = .ok (.getfield 153, 3) := by decide +kernel
theorem dX8_strike_96 : decode cX8_strike 96 = .ok (.iload_n 3, 1) := by decide +kernel
theorem dX8_strike_97 : decode cX8_strike 97 = .ok (.iastore, 1) := by decide +kernel
theorem dX8_strike_98 : decode cX8_strike 98 = .ok (.aload_n 0, 1) := by decide +kernel
theorem dX8_strike_99 : decode cX8_strike 99 = .ok (.dup, 1) := by decide +kernel
theorem dX8_strike_100 : decode cX8_strike 100 = .ok (.getfield 153, 3) := by decide +kernel
theorem dX8_strike_103 : decode cX8_strike 103 = .ok (.iconst 1, 1) := by decide +kernel
theorem dX8_strike_104 : decode cX8_strike 104 = .ok (.iadd, 1) := by decide +kernel
theorem dX8_strike_105 : decode cX8_strike 105 = .ok (.putfield 153, 3) := by decide +kernel
theorem dX8_strike_108 : decode cX8_strike 108 = .ok (.iload 4, 2) := by decide +kernel
theorem dX8_strike_110 : decode cX8_strike 110 = .ok (.aload_n 0, 1) := by decide +kernel
theorem dX8_strike_111 : decode cX8_strike 111 = .ok (.invokevirtual 204, 3) := by decide +kernel
theorem dX8_strike_114 : decode cX8_strike 114 = .ok (.isub, 1) := by decide +kernel
theorem dX8_strike_115 : decode cX8_strike 115 = .ok (.ireturn, 1) := by decide +kernel
theorem dX8_unstrike_0 : decode cX8_unstrike 0 = .ok (.aload_n 0, 1) := by decide +kernel
theorem dX8_unstrike_1 : decode cX8_unstrike 1 = .ok (.getfield 153, 3) := by decide +kernel
theorem dX8_unstrike_4 : decode cX8_unstrike 4 = .ok (.ifCond .ne 10, 3) := by decide +kernel
theorem dX8_unstrike_7 : decode cX8_unstrike 7 = .ok (.aload_n 0, 1) := by decide +kernel
theorem dX8_unstrike_8 : decode cX8_unstrike 8 = .ok (.ldc 152, 2) := by decide +kernel
theorem dX8_unstrike_10 : decode cX8_unstrike 10 = .ok (.invokevirtual 124, 3) := by decide +kernel
theorem dX8_unstrike_13 : decode cX8_unstrike 13 = .ok (.ireturn, 1) := by decide +kernel
theorem dX8_unstrike_14 : decode cX8_unstrike 14 = .ok (.aload_n 0, 1) := by decide +kernel
theorem dX8_unstrike_15 : decode cX8_unstrike 15 = .ok (.dup, 1) := by decide +kernel
theorem dX8_unstrike_16 : decode cX8_unstrike 16 = .ok (.getfield 153, 3) := by decide +kernel
theorem dX8_unstrike_19 : decode cX8_unstrike 19 = .ok (.iconst 1, 1) := by decide +kernel
theorem dX8_unstrike_20 : decode cX8_unstrike 20 = .ok (.isub, 1) := by decide +kernel
theorem dX8_unstrike_21 : decode cX8_unstrike 21 = .ok (.putfield 153, 3) := by decide +kernel
theorem dX8_unstrike_24 : decode cX8_unstrike 24 = .ok (.aload_n 0, 1) := by decide +kernel
theorem dX8_unstrike_25 : decode cX8_unstrike 25 = .ok (.getfield 153, 3) := by decide +kernel
theorem dX8_unstrike_28 : decode cX8_unstrike 28 = .ok (.ireturn, 1) := by decide +kernel
theorem dX8_wait_0 : decode cX8_wait 0 = .ok (.aload_n 0, 1) := by decide +kernel
theorem dX8_wait_1 : decode cX8_wait 1 = .ok (.iload_n 1, 1) := by decide +kernel
theorem dX8_wait_2 : decode cX8_wait 2 = .ok (.invokevirtual 132, 3) := by decide +kernel
theorem dX8_wait_5 : decode cX8_wait 5 = .ok (.ifCond .ne 10, 3) := by decide +kernel
theorem dX8_wait_8 : decode cX8_wait 8 = .ok (.aload_n 0, 1) := by decide +kernel
theorem dX8_wait_9 : decode cX8_wait 9 = .ok (.ldc 123, 2) := by decide +kernel
theorem dX8_wait_11 : decode cX8_wait 11 = .ok (.invokevirtual 124, 3) := by decide +kernel
theorem dX8_wait_14 : decode cX8_wait 14 = .ok (.ireturn, 1) := by decide +kernel
theorem dX8_wait_15 : decode cX8_wait 15 = .ok (.iconst 0, 1) := by decide +kernel
theorem dX8_wait_16 : decode cX8_wait 16 = .ok (.istore_n 2, 1) := by decide +kernel
theorem dX8_wait_17 : decode cX8_wait 17 = .ok (.iload_n 2, 1) := by decide +kernel
theorem dX8_wait_18 : decode cX8_wait 18 = .ok (.aload_n 0, 1) := by decide +kernel
theorem dX8_wait_19 : decode cX8_wait 19 = .ok (.getfield 208, 3) := by decide +kernel
theorem dX8_wait_22 : decode cX8_wait 22 = .ok (.if_icmp .ge 26, 3) := by decide +kernel
theorem dX8_wait_25 : decode cX8_wait 25 = .ok (.aload_n 0, 1) := by decide +kernel
theorem dX8_wait_26 : decode cX8_wait 26 = .ok (.getfield 73, 3) := by decide +kernel
theorem dX8_wait_29 : decode cX8_wait 29 = .ok (.iload_n 2, 1) := by decide +kernel
theorem dX8_wait_30 : decode cX8_wait 30 = .ok (.iaload, 1) := by decide +kernel
theorem dX8_wait_31 : decode cX8_wait 31 = .ok (.iload_n 1, 1) := by decide +kernel
theorem dX8_wait_32 : decode cX8_wait 32 = .ok (.if_icmp .ne 10, 3) := by decide +kernel
theorem dX8_wait_35 : decode cX8_wait 35 = .ok (.aload_n 0, 1) := by decide +kernel
theorem dX8_wait_36 : decode cX8_wait 36 = .ok (.ldc 203, 2) := by decide +kernel
theorem dX8_wait_38 : decode cX8_wait 38 = .ok (.invokevirtual 124, 3) := by decide +kernel
theorem dX8_wait_41 : decode cX8_wait 41 = .ok (.ireturn, 1) := by decide +kernel
theorem dX8_wait_42 : decode cX8_wait 42 = .ok (.iinc 2 1, 3) := by decide +kernel
theorem dX8_wait_45 : decode cX8_wait 45 = .ok (.goto (-28), 3) := by decide +kernel
theorem dX8_wait_48 : decode cX8_wait 48 = .ok (.aload_n 0, 1) := by decide +kernel
theorem dX8_wait_49 : decode cX8_wait 49 = .ok (.getfield 208, 3) := by decide +kernel
theorem dX8_wait_52 : decode cX8_wait 52 = .ok (.iconst 4, 1) := by decide +kernel
theorem dX8_wait_53 : decode cX8_wait 53 = .ok (.if_icmp .ne 10, 3) := by decide +kernel
theorem dX8_wait_56 : decode cX8_wait 56 = .ok (.aload_n 0, 1) := by decide +kernel
theorem dX8_wait_57 : decode cX8_wait 57 = .ok (.ldc 131, 2) := by decide +kernel
theorem dX8_wait_59 : decode cX8_wait 59 = .ok (.invokevirtual 124, 3) := by decide +kernel
theorem dX8_wait_62 : decode cX8_wait 62 = .ok (.ireturn, 1) := by decide +kernel
theorem dX8_wait_63 : decode cX8_wait 63 = .ok (.aload_n 0, 1) := by decide +kernel
theorem dX8_wait_64 : decode cX8_wait 64 = .ok (.getfield 73, 3) := by decide +kernel
theorem dX8_wait_67 : decode cX8_wait 67 = .ok (.aload_n 0, 1) := by decide +kernel
theorem dX8_wait_68 : decode cX8_wait 68 = .ok (.getfield 208, 3) := by decide +kernel
theorem dX8_wait_71 : decode cX8_wait 71 = .ok (.iload_n 1, 1) := by decide +kernel
theorem dX8_wait_72 : decode cX8_wait 72 = .ok (.iastore, 1) := by decide +kernel
theorem dX8_wait_73 : decode cX8_wait 73 = .ok (.aload_n 0, 1) := by decide +kernel
theorem dX8_wait_74 : decode cX8_wait 74 = .ok (.dup, 1) := by decide +kernel
theorem dX8_wait_75 : decode cX8_wait 75 = .ok (.getfield 208, 3) := by decide +kernel
theorem dX8_wait_78 : decode cX8_wait 78 = .ok (.iconst 1, 1) := by decide +kernel
theorem dX8_wait_79 : decode cX8_wait 79 = .ok (.iadd, 1) := by decide +kernel
theorem dX8_wait_80 : decode cX8_wait 80 = .ok (.putfield 208, 3) := by decide +kernel
theorem dX8_wait_83 : decode cX8_wait 83 = .ok (.aload_n 0, 1) := by decide +kernel
theorem dX8_wait_84 : decode cX8_wait 84 = .ok (.iconst 0, 1) := by decide +kernel
theorem dX8_wait_85 : decode cX8_wait 85 = .ok (.putfield 211, 3) := by decide +kernel
theorem dX8_wait_88 : decode cX8_wait 88 = .ok (.aload_n 0, 1) := by decide +kernel
theorem dX8_wait_89 : decode cX8_wait 89 = .ok (.getfield 208, 3) := by decide +kernel
theorem dX8_wait_92 : decode cX8_wait 92 = .ok (.ireturn, 1) := by decide +kernel
theorem dX8_go_0 : decode cX8_go 0 = .ok (.aload_n 0, 1) := by decide +kernel
theorem dX8_go_1 : decode cX8_go 1 = .ok (.getfield 208, 3) := by decide +kernel
theorem dX8_go_4 : decode cX8_go 4 = .ok (.istore_n 1, 1) := by decide +kernel
theorem dX8_go_5 : decode cX8_go 5 = .ok (.aload_n 0, 1) := by decide +kernel
theorem dX8_go_6 : decode cX8_go 6 = .ok (.iconst 0, 1) := by decide +kernel
theorem dX8_go_7 : decode cX8_go 7 = .ok (.putfield 208, 3) := by decide +kernel
theorem dX8_go_10 : decode cX8_go 10 = .ok (.aload_n 0, 1) := by decide +kernel
theorem dX8_go_11 : decode cX8_go 11 = .ok (.iconst 0, 1) := by decide +kernel
theorem dX8_go_12 : decode cX8_go 12 = .ok (.putfield 211, 3) := by decide +kernel
theorem dX8_go_15 : decode cX8_go 15 = .ok (.iload_n 1, 1) := by decide +kernel
theorem dX8_go_16 : decode cX8_go 16 = .ok (.ireturn, 1) := by decide +kernel
theorem dX8_findPanels_0 : decode cX8_findPanels 0 = .ok (.aload_n 0, 1) := by decide +kernel
theorem dX8_findPanels_1 : decode cX8_findPanels 1 = .ok (.iconst 0, 1) := by decide +kernel
theorem dX8_findPanels_2 : decode cX8_findPanels 2 = .ok (.putfield 215, 3) := by decide +kernel
theorem dX8_findPanels_5 : decode cX8_findPanels 5 = .ok (.iconst 2, 1) := by decide +kernel
theorem dX8_findPanels_6 : decode cX8_findPanels 6 = .ok (.istore_n 3, 1) := by decide +kernel
theorem dX8_findPanels_7 : decode cX8_findPanels 7 = .ok (.iload_n 3, 1) := by decide +kernel
theorem dX8_findPanels_8 : decode cX8_findPanels 8 = .ok (.aload_n 0, 1) := by decide +kernel
theorem dX8_findPanels_9 : decode cX8_findPanels 9 = .ok (.getfield 115, 3) := by decide +kernel
theorem dX8_findPanels_12 : decode cX8_findPanels 12 = .ok (.if_icmp .ge 104, 3) := by decide +kernel
theorem dX8_findPanels_15 : decode cX8_findPanels 15 = .ok (.iconst 1, 1) := by decide +kernel
theorem dX8_findPanels_16 : decode cX8_findPanels 16 = .ok (.istore 4, 2) := by decide +kernel
theorem dX8_findPanels_18 : decode cX8_findPanels 18 = .ok (.iload 4, 2) := by decide +kernel
theorem dX8_findPanels_20 : decode cX8_findPanels 20 = .ok (.iload_n 3, 1) := by decide +kernel
theorem dX8_findPanels_21 : decode cX8_findPanels 21 = .ok (.if_icmp .ge 89, 3) := by decide +kernel
theorem dX8_findPanels_24 : decode cX8_findPanels 24 = .ok (.iconst 0, 1) := by decide +kernel
theorem dX8_findPanels_25 : decode cX8_findPanels 25 = .ok (.istore 5, 2) := by decide +kernel
theorem dX8_findPanels_27 : decode cX8_findPanels 27 = .ok (.iload 5, 2) := by decide +kernel
theorem dX8_findPanels_29 : decode cX8_findPanels 29 = .ok (.iload 4, 2) := by decide +kernel
theorem dX8_findPanels_31 : decode cX8_findPanels 31 = .ok (.if_icmp .ge 73, 3) := by decide +kernel
theorem dX8_findPanels_34 : decode cX8_findPanels 34 = .ok (.aload_n 0, 1) := by decide +kernel
theorem dX8_findPanels_35 : decode cX8_findPanels 35 = .ok (.getfield 9, 3) := by decide +kernel
theorem dX8_findPanels_38 : decode cX8_findPanels 38 = .ok (.iload 5, 2) := by decide +kernel
theorem dX8_findPanels_40 : decode cX8_findPanels 40 = .ok (.iaload, 1) := by decide +kernel
theorem dX8_findPanels_41 : decode cX8_findPanels 41 = .ok (.iconst 1, 1) := by decide +kernel
theorem dX8_findPanels_42 : decode cX8_findPanels 42 = .ok (.if_icmp .ne 56, 3) := by decide +kernel
theorem dX8_findPanels_45 : decode cX8_findPanels 45 = .ok (.aload_n 0, 1) := by decide +kernel
theorem dX8_findPanels_46 : decode cX8_findPanels 46 = .ok (.getfield 9, 3) := by decide +kernel
theorem dX8_findPanels_49 : decode cX8_findPanels 49 = .ok (.iload 4, 2) := by decide +kernel
theorem dX8_findPanels_51 : decode cX8_findPanels 51 = .ok (.iaload, 1) := by decide +kernel
theorem dX8_findPanels_52 : decode cX8_findPanels 52 = .ok (.iconst 1, 1) := by decide +kernel
theorem dX8_findPanels_53 : decode cX8_findPanels 53 = .ok (.if_icmp .ne 45, 3) := by decide +kernel
theorem dX8_findPanels_56 : decode cX8_findPanels 56 = .ok (.aload_n 0, 1) := by decide +kernel
theorem dX8_findPanels_57 : decode cX8_findPanels 57 = .ok (.getfield 9, 3) := by decide +kernel
theorem dX8_findPanels_60 : decode cX8_findPanels 60 = .ok (.iload_n 3, 1) := by decide +kernel
theorem dX8_findPanels_61 : decode cX8_findPanels 61 = .ok (.iaload, 1) := by decide +kernel
theorem dX8_findPanels_62 : decode cX8_findPanels 62 = .ok (.iconst 1, 1) := by decide +kernel
theorem dX8_findPanels_63 : decode cX8_findPanels 63 = .ok (.if_icmp .ne 35, 3) := by decide +kernel
theorem dX8_findPanels_66 : decode cX8_findPanels 66 = .ok (.aload_n 0, 1) := by decide +kernel
theorem dX8_findPanels_67 : decode cX8_findPanels 67 = .ok (.getfield 98, 3) := by decide +kernel
theorem dX8_findPanels_70 : decode cX8_findPanels 70 = .ok (.aload_n 0, 1) := by decide +kernel
theorem dX8_findPanels_71 : decode cX8_findPanels 71 = .ok (.getfield 215, 3) := by decide +kernel
theorem dX8_findPanels_74 : decode cX8_findPanels 74 = .ok (.iconst 1, 1) := by decide +kernel
theorem dX8_findPanels_75 : decode cX8_findPanels 75 = .ok (.iload 5, 2) := by decide +kernel
theorem dX8_findPanels_77 : decode cX8_findPanels 77 = .ok (.ishl, 1) := by decide +kernel
theorem dX8_findPanels_78 : decode cX8_findPanels 78 = .ok (.iconst 1, 1) := by decide +kernel
theorem dX8_findPanels_79 : decode cX8_findPanels 79 = .ok (.iload 4, 2) := by decide +kernel
theorem dX8_findPanels_81 : decode cX8_findPanels 81 = .ok (.ishl, 1) := by decide +kernel
theorem dX8_findPanels_82 : decode cX8_findPanels 82 = .ok (.ior, 1) := by decide +kernel
theorem dX8_findPanels_83 : decode cX8_findPanels 83 = .ok (.iconst 1, 1) := by decide +kernel
theorem dX8_findPanels_84 : decode cX8_findPanels 84 = .ok (.iload_n 3, 1) := by decide +kernel
theorem dX8_findPanels_85 : decode cX8_findPanels 85 = .ok (.ishl, 1) := by decide +kernel
theorem dX8_findPanels_86 : decode cX8_findPanels 86 = .ok (.ior, 1) := by decide +kernel
theorem dX8_findPanels_87 : decode cX8_findPanels 87 = .ok (.iastore, 1) := by decide +kernel
theorem dX8_findPanels_88 : decode cX8_findPanels 88 = .ok (.aload_n 0, 1) := by decide +kernel
theorem dX8_findPanels_89 : decode cX8_findPanels 89 = .ok (.dup, 1) := by decide +kernel
theorem dX8_findPanels_90 : decode cX8_findPanels 90 = .ok (.getfield 215, 3) := by decide +kernel
theorem dX8_findPanels_93 : decode cX8_findPanels 93 = .ok (.iconst 1, 1) := by decide +kernel
theorem dX8_findPanels_94 : decode cX8_findPanels 94 = .ok (.iadd, 1) := by decide +kernel
theorem dX8_findPanels_95 : decode cX8_findPanels 95 = .ok (.putfield 215, 3) := by decide +kernel
theorem dX8_findPanels_98 : decode cX8_findPanels 98 = .ok (.iinc 5 1, 3) := by decide +kernel
theorem dX8_findPanels_101 : decode cX8_findPanels 101 = .ok (.goto (-74), 3) := by decide +kernel
theorem dX8_findPanels_104 : decode cX8_findPanels 104 = .ok (.iinc 4 1, 3) := by decide +kernel
theorem dX8_findPanels_107 : decode cX8_findPanels 107 = .ok (.goto (-89), 3) := by decide +kernel
theorem dX8_findPanels_110 : decode cX8_findPanels 110 = .ok (.iinc 3 1, 3) := by decide +kernel
theorem dX8_findPanels_113 : decode cX8_findPanels 113 = .ok (.goto (-106), 3) := by decide +kernel
theorem dX8_findPanels_116 : decode cX8_findPanels 116 = .ok (.aload_n 0, 1) := by decide +kernel
theorem dX8_findPanels_117 : decode cX8_findPanels 117 = .ok (.iload_n 2, 1) := by decide +kernel
theorem dX8_findPanels_118 : decode cX8_findPanels 118 = .ok (.invokevirtual 175, 3) := by decide +kernel
theorem dX8_findPanels_121 : decode cX8_findPanels 121 = .ok (.iconst 0, 1) := by decide +kernel
theorem dX8_findPanels_122 : decode cX8_findPanels 122 = .ok (.istore_n 3, 1) := by decide +kernel
theorem dX8_findPanels_123 : decode cX8_findPanels 123 = .ok (.iload_n 3, 1) := by decide +kernel
theorem dX8_findPanels_124 : decode cX8_findPanels 124 = .ok (.aload_n 0, 1) := by decide +kernel
theorem dX8_findPanels_125 : decode cX8_findPanels 125 = .ok (.getfield 208, 3) := by decide +kernel
theorem dX8_findPanels_128 : decode cX8_findPanels 128 = .ok (.if_icmp .ge 122, 3) := by decide +kernel
theorem dX8_findPanels_131 : decode cX8_findPanels 131 = .ok (.aload_n 0, 1) := by decide +kernel
theorem dX8_findPanels_132 : decode cX8_findPanels 132 = .ok (.getfield 73, 3) := by decide +kernel
theorem dX8_findPanels_135 : decode cX8_findPanels 135 = .ok (.iload_n 3, 1) := by decide +kernel
theorem dX8_findPanels_136 : decode cX8_findPanels 136 = .ok (.iaload, 1) := by decide +kernel
theorem dX8_findPanels_137 : decode cX8_findPanels 137 = .ok (.istore 4, 2) := by decide +kernel
theorem dX8_findPanels_139 : decode cX8_findPanels 139 = .ok (.aload_n 0, 1) := by decide +kernel
theorem dX8_findPanels_140 : decode cX8_findPanels 140 = .ok (.iload 4, 2) := by decide +kernel
theorem dX8_findPanels_142 : decode cX8_findPanels 142 = .ok (.iload_n 1, 1) := by decide +kernel
theorem dX8_findPanels_143 : decode cX8_findPanels 143 = .ok (.iload_n 2, 1) := by decide +kernel
theorem dX8_findPanels_144 : decode cX8_findPanels 144 = .ok (.invokevirtual 179, 3) := by decide +kernel
theorem dX8_findPanels_147 : decode cX8_findPanels 147 = .ok (.iconst 1, 1) := by decide +kernel
theorem dX8_findPanels_148 : decode cX8_findPanels 148 = .ok (.iadd, 1) := by decide +kernel
theorem dX8_findPanels_149 : decode cX8_findPanels 149 = .ok (.istore 5, 2) := by decide +kernel
theorem dX8_findPanels_151 : decode cX8_findPanels 151 = .ok (.iload 5, 2) := by decide +kernel
theorem dX8_findPanels_153 : decode cX8_findPanels 153 = .ok (.bipush 10, 2) := by decide +kernel
theorem dX8_findPanels_155 : decode cX8_findPanels 155 = .ok (.if_icmp .gt 20, 3) := by decide +kernel
theorem dX8_findPanels_158 : decode cX8_findPanels 158 = .ok (.aload_n 0, 1) := by decide +kernel
theorem dX8_findPanels_159 : decode cX8_findPanels 159 = .ok (.iload 4, 2) := by decide +kernel
theorem dX8_findPanels_161 : decode cX8_findPanels 161 = .ok (.iload_n 1, 1) := by decide +kernel
theorem dX8_findPanels_162 : decode cX8_findPanels 162 = .ok (.iload 5, 2) := by decide +kernel
theorem dX8_findPanels_164 : decode cX8_findPanels 164 = .ok (.iload_n 2, 1) := by decide +kernel
theorem dX8_findPanels_165 : decode cX8_findPanels 165 = .ok (.invokevirtual 186, 3) := by decide +kernel
theorem dX8_findPanels_168 : decode cX8_findPanels 168 = .ok (.ifCond .ne 7, 3) := by decide +kernel
theorem dX8_findPanels_171 : decode cX8_findPanels 171 = .ok (.iconst 1, 1) := by decide +kernel
theorem dX8_findPanels_172 : decode cX8_findPanels 172 = .ok (.goto 4, 3) := by decide +kernel
theorem dX8_findPanels_175 : decode cX8_findPanels 175 = .ok (.iconst 0, 1) := by decide +kernel
theorem dX8_findPanels_176 : decode cX8_findPanels 176 = .ok (.istore 6, 2) := by decide +kernel
theorem dX8_findPanels_178 : decode cX8_findPanels 178 = .ok (.iconst 0, 1) := by decide +kernel
theorem dX8_findPanels_179 : decode cX8_findPanels 179 = .ok (.istore 7, 2) := by decide +kernel
theorem dX8_findPanels_181 : decode cX8_findPanels 181 = .ok (.iload 7, 2) := by decide +kernel
theorem dX8_findPanels_183 : decode cX8_findPanels 183 = .ok (.aload_n 0, 1) := by decide +kernel
theorem dX8_findPanels_184 : decode cX8_findPanels 184 = .ok (.getfield 215, 3) := by decide +kernel
theorem dX8_findPanels_187 : decode cX8_findPanels 187 = .ok (.if_icmp .ge 57, 3) := by decide +kernel
theorem dX8_findPanels_190 : decode cX8_findPanels 190 = .ok (.aload_n 0, 1) := by decide +kernel
theorem dX8_findPanels_191 : decode cX8_findPanels 191 = .ok (.getfield 101, 3) := by decide +kernel
theorem dX8_findPanels_194 : decode cX8_findPanels 194 = .ok (.bipush 20, 2) := by decide +kernel
theorem dX8_findPanels_196 : decode cX8_findPanels 196 = .ok (.iload_n 3, 1) := by decide +kernel
theorem dX8_findPanels_197 : decode cX8_findPanels 197 = .ok (.imul, 1) := by decide +kernel
theorem dX8_findPanels_198 : decode cX8_findPanels 198 = .ok (.iload 7, 2) := by decide +kernel
theorem dX8_findPanels_200 : decode cX8_findPanels 200 = .ok (.iadd, 1) := by decide +kernel
theorem dX8_findPanels_201 : decode cX8_findPanels 201 = .ok (.iload 6, 2) := by decide +kernel
theorem dX8_findPanels_203 : decode cX8_findPanels 203 = .ok (.ifCond .eq 33, 3) := by decide +kernel
theorem dX8_findPanels_206 : decode cX8_findPanels 206 = .ok (.aload_n 0, 1) := by decide +kernel
theorem dX8_findPanels_207 : decode cX8_findPanels 207 = .ok (.iload 4, 2) := by decide +kernel
theorem dX8_findPanels_209 : decode cX8_findPanels 209 = .ok (.iload_n 1, 1) := by decide +kernel
theorem dX8_findPanels_210 : decode cX8_findPanels 210 = .ok (.aload_n 0, 1) := by decide +kernel
theorem dX8_findPanels_211 : decode cX8_findPanels 211 = .ok (.iload_n 1, 1) := by decide +kernel
theorem dX8_findPanels_212 : decode cX8_findPanels 212 = .ok (.iload 5, 2) := by decide +kernel
theorem dX8_findPanels_214 : decode cX8_findPanels 214 = .ok (.iload_n 2, 1) := by decide +kernel
theorem dX8_findPanels_215 : decode cX8_findPanels 215 = .ok (.invokevirtual 149, 3) := by decide +kernel
theorem dX8_findPanels_218 : decode cX8_findPanels 218 = .ok (.iload_n 2, 1) := by decide +kernel
theorem dX8_findPanels_219 : decode cX8_findPanels 219 = .ok (.aload_n 0, 1) := by decide +kernel
theorem dX8_findPanels_220 : decode cX8_findPanels 220 = .ok (.getfield 98, 3) := by decide +kernel
theorem dX8_findPanels_223 : decode cX8_findPanels 223 = .ok (.iload 7, 2) := by decide +kernel
theorem dX8_findPanels_225 : decode cX8_findPanels 225 = .ok (.iaload, 1) := by decide +kernel
theorem dX8_findPanels_226 : decode cX8_findPanels 226 = .ok (.invokevirtual 200, 3) := by decide +kernel
theorem dX8_findPanels_229 : decode cX8_findPanels 229 = .ok (.ifCond .ne 7, 3) := by decide +kernel
theorem dX8_findPanels_232 : decode cX8_findPanels 232 = .ok (.iconst 1, 1) := by decide +kernel
theorem dX8_findPanels_233 : decode cX8_findPanels 233 = .ok (.goto 4, 3) := by decide +kernel
theorem dX8_findPanels_236 : decode cX8_findPanels 236 = .ok (.iconst 0, 1) := by decide +kernel
theorem dX8_findPanels_237 : decode cX8_findPanels 237 = .ok (.bastore, 1) := by decide +kernel
theorem dX8_findPanels_238 : decode cX8_findPanels 238 = .ok (.iinc 7 1, 3) := by decide +kernel
theorem dX8_findPanels_241 : decode cX8_findPanels 241 = .ok (.goto (-60), 3) := by decide +kernel
theorem dX8_findPanels_244 : decode cX8_findPanels 244 = .ok (.iinc 3 1, 3) := by decide +kernel
theorem dX8_findPanels_247 : decode cX8_findPanels 247 = .ok (.goto (-124), 3) := by decide +kernel
theorem dX8_findPanels_250 : decode cX8_findPanels 250 = .ok (.return_, 1) := by decide +kernel
theorem dX8_loads_0 : decode cX8_loads 0 = .ok (.iconst 0, 1) := by decide +kernel
theorem dX8_loads_1 : decode cX8_loads 1 = .ok (.istore_n 3, 1) := by decide +kernel
theorem dX8_loads_2 : decode cX8_loads 2 = .ok (.iload_n 3, 1) := by decide +kernel
theorem dX8_loads_3 : decode cX8_loads 3 = .ok (.aload_n 0, 1) := by decide +kernel
theorem dX8_loads_4 : decode cX8_loads 4 = .ok (.getfield 115, 3) := by decide +kernel
theorem dX8_loads_7 : decode cX8_loads 7 = .ok (.if_icmp .ge 32, 3) := by decide +kernel
theorem dX8_loads_10 : decode cX8_loads 10 = .ok (.aload_n 0, 1) := by decide +kernel
theorem dX8_loads_11 : decode cX8_loads 11 = .ok (.getfield 107, 3) := by decide +kernel
theorem dX8_loads_14 : decode cX8_loads 14 = .ok (.iload_n 3, 1) := by decide +kernel
theorem dX8_loads_15 : decode cX8_loads 15 = .ok (.dup2, 1) := by decide +kernel
theorem dX8_loads_16 : decode cX8_loads 16 = .ok (.iaload, 1) := by decide +kernel
theorem dX8_loads_17 : decode cX8_loads 17 = .ok (.iload_n 1, 1) := by decide +kernel
theorem dX8_loads_18 : decode cX8_loads 18 = .ok (.iload_n 3, 1) := by decide +kernel
theorem dX8_loads_19 : decode cX8_loads 19 = .ok (.ishr, 1) := by decide +kernel
theorem dX8_loads_20 : decode cX8_loads 20 = .ok (.iconst 1, 1) := by decide +kernel
theorem dX8_loads_21 : decode cX8_loads 21 = .ok (.iand, 1) := by decide +kernel
theorem dX8_loads_22 : decode cX8_loads 22 = .ok (.iconst 1, 1) := by decide +kernel
theorem dX8_loads_23 : decode cX8_loads 23 = .ok (.if_icmp .ne 7, 3) := by decide +kernel
theorem dX8_loads_26 : decode cX8_loads 26 = .ok (.iload_n 2, 1) := by decide +kernel
theorem dX8_loads_27 : decode cX8_loads 27 = .ok (.goto 4, 3) := by decide +kernel
theorem dX8_loads_30 : decode cX8_loads 30 = .ok (.iconst 0, 1) := by decide +kernel
theorem dX8_loads_31 : decode cX8_loads 31 = .ok (.iadd, 1) := by decide +kernel
theorem dX8_loads_32 : decode cX8_loads 32 = .ok (.iastore, 1) := by decide +kernel
theorem dX8_loads_33 : decode cX8_loads 33 = .ok (.iinc 3 1, 3) := by decide +kernel
theorem dX8_loads_36 : decode cX8_loads 36 = .ok (.goto (-34), 3) := by decide +kernel
theorem dX8_loads_39 : decode cX8_loads 39 = .ok (.return_, 1) := by decide +kernel
theorem dX8_isLight_0 : decode cX8_isLight 0 = .ok (.iconst 1, 1) := by decide +kernel
theorem dX8_isLight_1 : decode cX8_isLight 1 = .ok (.istore_n 3, 1) := by decide +kernel
theorem dX8_isLight_2 : decode cX8_isLight 2 = .ok (.iconst 0, 1) := by decide +kernel
theorem dX8_isLight_3 : decode cX8_isLight 3 = .ok (.istore 4, 2) := by decide +kernel
theorem dX8_isLight_5 : decode cX8_isLight 5 = .ok (.iload 4, 2) := by decide +kernel
theorem dX8_isLight_7 : decode cX8_isLight 7 = .ok (.aload_n 0, 1) := by decide +kernel
theorem dX8_isLight_8 : decode cX8_isLight 8 = .ok (.getfield 115, 3) := by decide +kernel
theorem dX8_isLight_11 : decode cX8_isLight 11 = .ok (.if_icmp .ge 39, 3) := by decide +kernel
theorem dX8_isLight_14 : decode cX8_isLight 14 = .ok (.iload_n 3, 1) := by decide +kernel
theorem dX8_isLight_15 : decode cX8_isLight 15 = .ok (.ifCond .eq 27, 3) := by decide +kernel
theorem dX8_isLight_18 : decode cX8_isLight 18 = .ok (.iload_n 1, 1) := by decide +kernel
theorem dX8_isLight_19 : decode cX8_isLight 19 = .ok (.iload 4, 2) := by decide +kernel
theorem dX8_isLight_21 : decode cX8_isLight 21 = .ok (.ishr, 1) := by decide +kernel
theorem dX8_isLight_22 : decode cX8_isLight 22 = .ok (.iconst 1, 1) := by decide +kernel
theorem dX8_isLight_23 : decode cX8_isLight 23 = .ok (.iand, 1) := by decide +kernel
theorem dX8_isLight_24 : decode cX8_isLight 24 = .ok (.ifCond .eq 14, 3) := by decide +kernel
theorem dX8_isLight_27 : decode cX8_isLight 27 = .ok (.aload_n 0, 1) := by decide +kernel
theorem dX8_isLight_28 : decode cX8_isLight 28 = .ok (.getfield 107, 3) := by decide +kernel
theorem dX8_isLight_31 : decode cX8_isLight 31 = .ok (.iload 4, 2) := by decide +kernel
theorem dX8_isLight_33 : decode cX8_isLight 33 = .ok (.iaload, 1) := by decide +kernel
theorem dX8_isLight_34 : decode cX8_isLight 34 = .ok (.iload_n 2, 1) := by decide +kernel
theorem dX8_isLight_35 : decode cX8_isLight 35 = .ok (.if_icmp .ge 7, 3) := by decide +kernel
theorem dX8_isLight_38 : decode cX8_isLight 38 = .ok (.iconst 1, 1) := by decide +kernel
theorem dX8_isLight_39 : decode cX8_isLight 39 = .ok (.goto 4, 3) := by decide +kernel
theorem dX8_isLight_42 : decode cX8_isLight 42 = .ok (.iconst 0, 1) := by decide +kernel
theorem dX8_isLight_43 : decode cX8_isLight 43 = .ok (.istore_n 3, 1) := by decide +kernel
theorem dX8_isLight_44 : decode cX8_isLight 44 = .ok (.iinc 4 1, 3) := by decide +kernel
theorem dX8_isLight_47 : decode cX8_isLight 47 = .ok (.goto (-42), 3) := by decide +kernel
theorem dX8_isLight_50 : decode cX8_isLight 50 = .ok (.iload_n 3, 1) := by decide +kernel
theorem dX8_isLight_51 : decode cX8_isLight 51 = .ok (.ireturn, 1) := by decide +kernel
theorem dX8_tryAll_0 : decode cX8_tryAll 0 = .ok (.aload_n 0, 1) := by decide +kernel
theorem dX8_tryAll_1 : decode cX8_tryAll 1 = .ok (.iconst (-1), 1) := by decide +kernel
theorem dX8_tryAll_2 : decode cX8_tryAll 2 = .ok (.putfield 218, 3) := by decide +kernel
theorem dX8_tryAll_5 : decode cX8_tryAll 5 = .ok (.iconst 0, 1) := by decide +kernel
theorem dX8_tryAll_6 : decode cX8_tryAll 6 = .ok (.istore_n 2, 1) := by decide +kernel
theorem dX8_tryAll_7 : decode cX8_tryAll 7 = .ok (.iconst 0, 1) := by decide +kernel
theorem dX8_tryAll_8 : decode cX8_tryAll 8 = .ok (.istore_n 3, 1) := by decide +kernel
theorem dX8_tryAll_9 : decode cX8_tryAll 9 = .ok (.iconst 0, 1) := by decide +kernel
theorem dX8_tryAll_10 : decode cX8_tryAll 10 = .ok (.istore 4, 2) := by decide +kernel
theorem dX8_tryAll_12 : decode cX8_tryAll 12 = .ok (.iload 4, 2) := by decide +kernel
theorem dX8_tryAll_14 : decode cX8_tryAll 14 = .ok (.bipush 20, 2) := by decide +kernel
theorem dX8_tryAll_16 : decode cX8_tryAll 16 = .ok (.if_icmp .ge 17, 3) := by decide +kernel
theorem dX8_tryAll_19 : decode cX8_tryAll 19 = .ok (.aload_n 0, 1) := by decide +kernel
theorem dX8_tryAll_20 : decode cX8_tryAll 20 = .ok (.getfield 107, 3) := by decide +kernel
theorem dX8_tryAll_23 : decode cX8_tryAll 23 = .ok (.iload 4, 2) := by decide +kernel
theorem dX8_tryAll_25 : decode cX8_tryAll 25 = .ok (.iconst 0, 1) := by decide +kernel
theorem dX8_tryAll_26 : decode cX8_tryAll 26 = .ok (.iastore, 1) := by decide +kernel
theorem dX8_tryAll_27 : decode cX8_tryAll 27 = .ok (.iinc 4 1, 3) := by decide +kernel
theorem dX8_tryAll_30 : decode cX8_tryAll 30 = .ok (.goto (-18), 3) := by decide +kernel
theorem dX8_tryAll_33 : decode cX8_tryAll 33 = .ok (.aload_n 0, 1) := by decide +kernel
theorem dX8_tryAll_34 : decode cX8_tryAll 34 = .ok (.getfield 104, 3) := by decide +kernel
theorem dX8_tryAll_37 : decode cX8_tryAll 37 = .ok (.iconst 0, 1) := by decide +kernel
theorem dX8_tryAll_38 : decode cX8_tryAll 38 = .ok (.iconst (-1), 1) := by decide +kernel
theorem dX8_tryAll_39 : decode cX8_tryAll 39 = .ok (.iastore, 1) := by decide +kernel
theorem dX8_tryAll_40 : decode cX8_tryAll 40 = .ok (.iload_n 2, 1) := by decide +kernel
theorem dX8_tryAll_41 : decode cX8_tryAll 41 = .ok (.ifCond .lt 264, 3) := by decide +kernel
theorem dX8_tryAll_44 : decode cX8_tryAll 44 = .ok (.iload_n 2, 1) := by decide +kernel
theorem dX8_tryAll_45 : decode cX8_tryAll 45 = .ok (.aload_n 0, 1) := by decide +kernel
theorem dX8_tryAll_46 : decode cX8_tryAll 46 = .ok (.getfield 208, 3) := by decide +kernel
theorem dX8_tryAll_49 : decode cX8_tryAll 49 = .ok (.if_icmp .ne 77, 3) := by decide +kernel
theorem dX8_tryAll_52 : decode cX8_tryAll 52 = .ok (.iload_n 3, 1) := by decide +kernel
theorem dX8_tryAll_53 : decode cX8_tryAll 53 = .ok (.aload_n 0, 1) := by decide +kernel
theorem dX8_tryAll_54 : decode cX8_tryAll 54 = .ok (.getfield 218, 3) := by decide +kernel
theorem dX8_tryAll_57 : decode cX8_tryAll 57 = .ok (.if_icmp .le 63, 3) := by decide +kernel
theorem dX8_tryAll_60 : decode cX8_tryAll 60 = .ok (.aload_n 0, 1) := by decide +kernel
theorem dX8_tryAll_61 : decode cX8_tryAll 61 = .ok (.iload_n 3, 1) := by decide +kernel
theorem dX8_tryAll_62 : decode cX8_tryAll 62 = .ok (.putfield 218, 3) := by decide +kernel
theorem dX8_tryAll_65 : decode cX8_tryAll 65 = .ok (.iconst 0, 1) := by decide +kernel
theorem dX8_tryAll_66 : decode cX8_tryAll 66 = .ok (.istore 4, 2) := by decide +kernel
theorem dX8_tryAll_68 : decode cX8_tryAll 68 = .ok (.iload 4, 2) := by decide +kernel
theorem dX8_tryAll_70 : decode cX8_tryAll 70 = .ok (.aload_n 0, 1) := by decide +kernel
theorem dX8_tryAll_71 : decode cX8_tryAll 71 = .ok (.getfield 208, 3) := by decide +kernel
theorem dX8_tryAll_74 : decode cX8_tryAll 74 = .ok (.if_icmp .ge 46, 3) := by decide +kernel
theorem dX8_tryAll_77 : decode cX8_tryAll 77 = .ok (.aload_n 0, 1) := by decide +kernel
theorem dX8_tryAll_78 : decode cX8_tryAll 78 = .ok (.getfield 76, 3) := by decide +kernel
theorem dX8_tryAll_81 : decode cX8_tryAll 81 = .ok (.iload 4, 2) := by decide +kernel
theorem dX8_tryAll_83 : decode cX8_tryAll 83 = .ok (.aload_n 0, 1) := by decide +kernel
theorem dX8_tryAll_84 : decode cX8_tryAll 84 = .ok (.getfield 104, 3) := by decide +kernel
theorem dX8_tryAll_87 : decode cX8_tryAll 87 = .ok (.iload 4, 2) := by decide +kernel
theorem dX8_tryAll_89 : decode cX8_tryAll 89 = .ok (.iaload, 1) := by decide +kernel
theorem dX8_tryAll_90 : decode cX8_tryAll 90 = .ok (.aload_n 0, 1) := by decide +kernel
theorem dX8_tryAll_91 : decode cX8_tryAll 91 = .ok (.getfield 215, 3) := by decide +kernel
theorem dX8_tryAll_94 : decode cX8_tryAll 94 = .ok (.if_icmp .ne 7, 3) := by decide +kernel
theorem dX8_tryAll_97 : decode cX8_tryAll 97 = .ok (.iconst 0, 1) := by decide +kernel
theorem dX8_tryAll_98 : decode cX8_tryAll 98 = .ok (.goto 15, 3) := by decide +kernel
theorem dX8_tryAll_101 : decode cX8_tryAll 101 = .ok (.aload_n 0, 1) := by decide +kernel
theorem dX8_tryAll_102 : decode cX8_tryAll 102 = .ok (.getfield 98, 3) := by decide +kernel
theorem dX8_tryAll_105 : decode cX8_tryAll 105 = .ok (.aload_n 0, 1) := by decide +kernel
theorem dX8_tryAll_106 : decode cX8_tryAll 106 = .ok (.getfield 104, 3) := by decide +kernel
theorem dX8_tryAll_109 : decode cX8_tryAll 109 = .ok (.iload 4, 2) := by decide +kernel
theorem dX8_tryAll_111 : decode cX8_tryAll 111 = .ok (.iaload, 1) := by decide +kernel
theorem dX8_tryAll_112 : decode cX8_tryAll 112 = .ok (.iaload, 1) := by decide +kernel
theorem dX8_tryAll_113 : decode cX8_tryAll 113 = .ok (.iastore, 1) := by decide +kernel
theorem dX8_tryAll_114 : decode cX8_tryAll 114 = .ok (.iinc 4 1, 3) := by decide +kernel
theorem dX8_tryAll_117 : decode cX8_tryAll 117 = .ok (.goto (-49), 3) := by decide +kernel
theorem dX8_tryAll_120 : decode cX8_tryAll 120 = .ok (.iinc 2 (-1), 3) := by decide +kernel
theorem dX8_tryAll_123 : decode cX8_tryAll 123 = .ok (.goto (-83), 3) := by decide +kernel
theorem dX8_tryAll_126 : decode cX8_tryAll 126 = .ok (.aload_n 0, 1) := by decide +kernel
theorem dX8_tryAll_127 : decode cX8_tryAll 127 = .ok (.getfield 104, 3) := by decide +kernel
theorem dX8_tryAll_130 : decode cX8_tryAll 130 = .ok (.iload_n 2, 1) := by decide +kernel
theorem dX8_tryAll_131 : decode cX8_tryAll 131 = .ok (.iaload, 1) := by decide +kernel
theorem dX8_tryAll_132 : decode cX8_tryAll 132 = .ok (.ifCond .lt 35, 3) := by decide +kernel
theorem dX8_tryAll_135 : decode cX8_tryAll 135 = .ok (.aload_n 0, 1) := by decide +kernel
theorem dX8_tryAll_136 : decode cX8_tryAll 136 = .ok (.getfield 104, 3) := by decide +kernel
theorem dX8_tryAll_139 : decode cX8_tryAll 139 = .ok (.iload_n 2, 1) := by decide +kernel
theorem dX8_tryAll_140 : decode cX8_tryAll 140 = .ok (.iaload, 1) := by decide +kernel
theorem dX8_tryAll_141 : decode cX8_tryAll 141 = .ok (.aload_n 0, 1) := by decide +kernel
theorem dX8_tryAll_142 : decode cX8_tryAll 142 = .ok (.getfield 215, 3) := by decide +kernel
theorem dX8_tryAll_145 : decode cX8_tryAll 145 = .ok (.if_icmp .ge 22, 3) := by decide +kernel
theorem dX8_tryAll_148 : decode cX8_tryAll 148 = .ok (.aload_n 0, 1) := by decide +kernel
theorem dX8_tryAll_149 : decode cX8_tryAll 149 = .ok (.aload_n 0, 1) := by decide +kernel
theorem dX8_tryAll_150 : decode cX8_tryAll 150 = .ok (.getfield 98, 3) := by decide +kernel
theorem dX8_tryAll_153 : decode cX8_tryAll 153 = .ok (.aload_n 0, 1) := by decide +kernel
theorem dX8_tryAll_154 : decode cX8_tryAll 154 = .ok (.getfield 104, 3) := by decide +kernel
theorem dX8_tryAll_157 : decode cX8_tryAll 157 = .ok (.iload_n 2, 1) := by decide +kernel
theorem dX8_tryAll_158 : decode cX8_tryAll 158 = .ok (.iaload, 1) := by decide +kernel
theorem dX8_tryAll_159 : decode cX8_tryAll 159 = .ok (.iaload, 1) := by decide +kernel
theorem dX8_tryAll_160 : decode cX8_tryAll 160 = .ok (.iconst (-1), 1) := by decide +kernel
theorem dX8_tryAll_161 : decode cX8_tryAll 161 = .ok (.invokevirtual 221, 3) := by decide +kernel
theorem dX8_tryAll_164 : decode cX8_tryAll 164 = .ok (.iinc 3 (-1), 3) := by decide +kernel
theorem dX8_tryAll_167 : decode cX8_tryAll 167 = .ok (.aload_n 0, 1) := by decide +kernel
theorem dX8_tryAll_168 : decode cX8_tryAll 168 = .ok (.getfield 104, 3) := by decide +kernel
theorem dX8_tryAll_171 : decode cX8_tryAll 171 = .ok (.iload_n 2, 1) := by decide +kernel
theorem dX8_tryAll_172 : decode cX8_tryAll 172 = .ok (.dup2, 1) := by decide +kernel
theorem dX8_tryAll_173 : decode cX8_tryAll 173 = .ok (.iaload, 1) := by decide +kernel
theorem dX8_tryAll_174 : decode cX8_tryAll 174 = .ok (.iconst 1, 1) := by decide +kernel
theorem dX8_tryAll_175 : decode cX8_tryAll 175 = .ok (.iadd, 1) := by decide +kernel
theorem dX8_tryAll_176 : decode cX8_tryAll 176 = .ok (.iastore, 1) := by decide +kernel
theorem dX8_tryAll_177 : decode cX8_tryAll 177 = .ok (.aload_n 0, 1) := by decide +kernel
theorem dX8_tryAll_178 : decode cX8_tryAll 178 = .ok (.getfield 104, 3) := by decide +kernel
theorem dX8_tryAll_181 : decode cX8_tryAll 181 = .ok (.iload_n 2, 1) := by decide +kernel
theorem dX8_tryAll_182 : decode cX8_tryAll 182 = .ok (.iaload, 1) := by decide +kernel
theorem dX8_tryAll_183 : decode cX8_tryAll 183 = .ok (.aload_n 0, 1) := by decide +kernel
theorem dX8_tryAll_184 : decode cX8_tryAll 184 = .ok (.getfield 215, 3) := by decide +kernel
theorem dX8_tryAll_187 : decode cX8_tryAll 187 = .ok (.if_icmp .ge 54, 3) := by decide +kernel
theorem dX8_tryAll_190 : decode cX8_tryAll 190 = .ok (.aload_n 0, 1) := by decide +kernel
theorem dX8_tryAll_191 : decode cX8_tryAll 191 = .ok (.getfield 101, 3) := by decide +kernel
theorem dX8_tryAll_194 : decode cX8_tryAll 194 = .ok (.bipush 20, 2) := by decide +kernel
theorem dX8_tryAll_196 : decode cX8_tryAll 196 = .ok (.iload_n 2, 1) := by decide +kernel
theorem dX8_tryAll_197 : decode cX8_tryAll 197 = .ok (.imul, 1) := by decide +kernel
theorem dX8_tryAll_198 : decode cX8_tryAll 198 = .ok (.aload_n 0, 1) := by decide +kernel
theorem dX8_tryAll_199 : decode cX8_tryAll 199 = .ok (.getfield 104, 3) := by decide +kernel
theorem dX8_tryAll_202 : decode cX8_tryAll 202 = .ok (.iload_n 2, 1) := by decide +kernel
theorem dX8_tryAll_203 : decode cX8_tryAll 203 = .ok (.iaload, 1) := by decide +kernel
theorem dX8_tryAll_204 : decode cX8_tryAll 204 = .ok (.iadd, 1) := by decide +kernel
theorem dX8_tryAll_205 : decode cX8_tryAll 205 = .ok (.baload, 1) := by decide +kernel
theorem dX8_tryAll_206 : decode cX8_tryAll 206 = .ok (.ifCond .eq 22, 3) := by decide +kernel
theorem dX8_tryAll_209 : decode cX8_tryAll 209 = .ok (.aload_n 0, 1) := by decide +kernel
theorem dX8_tryAll_210 : decode cX8_tryAll 210 = .ok (.aload_n 0, 1) := by decide +kernel
theorem dX8_tryAll_211 : decode cX8_tryAll 211 = .ok (.getfield 98, 3) := by decide +kernel
theorem dX8_tryAll_214 : decode cX8_tryAll 214 = .ok (.aload_n 0, 1) := by decide +kernel
theorem dX8_tryAll_215 : decode cX8_tryAll 215 = .ok (.getfield 104, 3) := by decide +kernel
theorem dX8_tryAll_218 : decode cX8_tryAll 218 = .ok (.iload_n 2, 1) := by decide +kernel
theorem dX8_tryAll_219 : decode cX8_tryAll 219 = .ok (.iaload, 1) := by decide +kernel
theorem dX8_tryAll_220 : decode cX8_tryAll 220 = .ok (.iaload, 1) := by decide +kernel
theorem dX8_tryAll_221 : decode cX8_tryAll 221 = .ok (.iload_n 1, 1) := by decide +kernel
theorem dX8_tryAll_222 : decode cX8_tryAll 222 = .ok (.invokevirtual 225, 3) := by decide +kernel
theorem dX8_tryAll_225 : decode cX8_tryAll 225 = .ok (.ifCond .ne 16, 3) := by decide +kernel
theorem dX8_tryAll_228 : decode cX8_tryAll 228 = .ok (.aload_n 0, 1) := by decide +kernel
theorem dX8_tryAll_229 : decode cX8_tryAll 229 = .ok (.getfield 104, 3) := by decide +kernel
theorem dX8_tryAll_232 : decode cX8_tryAll 232 = .ok (.iload_n 2, 1) := by decide +kernel
theorem dX8_tryAll_233 : decode cX8_tryAll 233 = .ok (.dup2, 1) := by decide +kernel
theorem dX8_tryAll_234 : decode cX8_tryAll 234 = .ok (.iaload, 1) := by decide +kernel
theorem dX8_tryAll_235 : decode cX8_tryAll 235 = .ok (.iconst 1, 1) := by decide +kernel
theorem dX8_tryAll_236 : decode cX8_tryAll 236 = .ok (.iadd, 1) := by decide +kernel
theorem dX8_tryAll_237 : decode cX8_tryAll 237 = .ok (.iastore, 1) := by decide +kernel
theorem dX8_tryAll_238 : decode cX8_tryAll 238 = .ok (.goto (-61), 3) := by decide +kernel
theorem dX8_tryAll_241 : decode cX8_tryAll 241 = .ok (.aload_n 0, 1) := by decide +kernel
theorem dX8_tryAll_242 : decode cX8_tryAll 242 = .ok (.getfield 104, 3) := by decide +kernel
theorem dX8_tryAll_245 : decode cX8_tryAll 245 = .ok (.iload_n 2, 1) := by decide +kernel
theorem dX8_tryAll_246 : decode cX8_tryAll 246 = .ok (.iaload, 1) := by decide +kernel
theorem dX8_tryAll_247 : decode cX8_tryAll 247 = .ok (.aload_n 0, 1) := by decide +kernel
theorem dX8_tryAll_248 : decode cX8_tryAll 248 = .ok (.getfield 215, 3) := by decide +kernel
theorem dX8_tryAll_251 : decode cX8_tryAll 251 = .ok (.if_icmp .le 9, 3) := by decide +kernel
theorem dX8_tryAll_254 : decode cX8_tryAll 254 = .ok (.iinc 2 (-1), 3) := by decide +kernel
theorem dX8_tryAll_257 : decode cX8_tryAll 257 = .ok (.goto (-217), 3) := by decide +kernel
theorem dX8_tryAll_260 : decode cX8_tryAll 260 = .ok (.aload_n 0, 1) := by decide +kernel
theorem dX8_tryAll_261 : decode cX8_tryAll 261 = .ok (.getfield 104, 3) := by decide +kernel
theorem dX8_tryAll_264 : decode cX8_tryAll 264 = .ok (.iload_n 2, 1) := by decide +kernel
theorem dX8_tryAll_265 : decode cX8_tryAll 265 = .ok (.iaload, 1) := by decide +kernel
theorem dX8_tryAll_266 : decode cX8_tryAll 266 = .ok (.aload_n 0, 1) := by decide +kernel
theorem dX8_tryAll_267 : decode cX8_tryAll 267 = .ok (.getfield 215, 3) := by decide +kernel
theorem dX8_tryAll_270 : decode cX8_tryAll 270 = .ok (.if_icmp .ge 22, 3) := by decide +kernel
theorem dX8_tryAll_273 : decode cX8_tryAll 273 = .ok (.aload_n 0, 1) := by decide +kernel
theorem dX8_tryAll_274 : decode cX8_tryAll 274 = .ok (.aload_n 0, 1) := by decide +kernel
theorem dX8_tryAll_275 : decode cX8_tryAll 275 = .ok (.getfield 98, 3) := by decide +kernel
theorem dX8_tryAll_278 : decode cX8_tryAll 278 = .ok (.aload_n 0, 1) := by decide +kernel
theorem dX8_tryAll_279 : decode cX8_tryAll 279 = .ok (.getfield 104, 3) := by decide +kernel
theorem dX8_tryAll_282 : decode cX8_tryAll 282 = .ok (.iload_n 2, 1) := by decide +kernel
theorem dX8_tryAll_283 : decode cX8_tryAll 283 = .ok (.iaload, 1) := by decide +kernel
theorem dX8_tryAll_284 : decode cX8_tryAll 284 = .ok (.iaload, 1) := by decide +kernel
theorem dX8_tryAll_285 : decode cX8_tryAll 285 = .ok (.iconst 1, 1) := by decide +kernel
theorem dX8_tryAll_286 : decode cX8_tryAll 286 = .ok (.invokevirtual 221, 3) := by decide +kernel
theorem dX8_tryAll_289 : decode cX8_tryAll 289 = .ok (.iinc 3 1, 3) := by decide +kernel
theorem dX8_tryAll_292 : decode cX8_tryAll 292 = .ok (.iinc 2 1, 3) := by decide +kernel
theorem dX8_tryAll_295 : decode cX8_tryAll 295 = .ok (.aload_n 0, 1) := by decide +kernel
theorem dX8_tryAll_296 : decode cX8_tryAll 296 = .ok (.getfield 104, 3) := by decide +kernel
theorem dX8_tryAll_299 : decode cX8_tryAll 299 = .ok (.iload_n 2, 1) := by decide +kernel
theorem dX8_tryAll_300 : decode cX8_tryAll 300 = .ok (.iconst (-1), 1) := by decide +kernel
theorem dX8_tryAll_301 : decode cX8_tryAll 301 = .ok (.iastore, 1) := by decide +kernel
theorem dX8_tryAll_302 : decode cX8_tryAll 302 = .ok (.goto (-262), 3) := by decide +kernel
theorem dX8_tryAll_305 : decode cX8_tryAll 305 = .ok (.return_, 1) := by decide +kernel
theorem dX8_best_0 : decode cX8_best 0 = .ok (.iload_n 1, 1) := by decide +kernel
theorem dX8_best_1 : decode cX8_best 1 = .ok (.invokestatic 136, 3) := by decide +kernel
theorem dX8_best_4 : decode cX8_best 4 = .ok (.ifCond .eq 19, 3) := by decide +kernel
theorem dX8_best_7 : decode cX8_best 7 = .ok (.iload_n 2, 1) := by decide +kernel
theorem dX8_best_8 : decode cX8_best 8 = .ok (.invokestatic 119, 3) := by decide +kernel
theorem dX8_best_11 : decode cX8_best 11 = .ok (.ifCond .eq 12, 3) := by decide +kernel
theorem dX8_best_14 : decode cX8_best 14 = .ok (.iload_n 3, 1) := by decide +kernel
theorem dX8_best_15 : decode cX8_best 15 = .ok (.iconst 1, 1) := by decide +kernel
theorem dX8_best_16 : decode cX8_best 16 = .ok (.iconst 4, 1) := by decide +kernel
theorem dX8_best_17 : decode cX8_best 17 = .ok (.invokestatic 111, 3) := by decide +kernel
theorem dX8_best_20 : decode cX8_best 20 = .ok (.ifCond .ne 10, 3) := by decide +kernel
theorem dX8_best_23 : decode cX8_best 23 = .ok (.aload_n 0, 1) := by decide +kernel
theorem dX8_best_24 : decode cX8_best 24 = .ok (.ldc 123, 2) := by decide +kernel
theorem dX8_best_26 : decode cX8_best 26 = .ok (.invokevirtual 124, 3) := by decide +kernel
theorem dX8_best_29 : decode cX8_best 29 = .ok (.ireturn, 1) := by decide +kernel
theorem dX8_best_30 : decode cX8_best 30 = .ok (.aload_n 0, 1) := by decide +kernel
theorem dX8_best_31 : decode cX8_best 31 = .ok (.iload_n 1, 1) := by decide +kernel
theorem dX8_best_32 : decode cX8_best 32 = .ok (.iload_n 2, 1) := by decide +kernel
theorem dX8_best_33 : decode cX8_best 33 = .ok (.invokevirtual 228, 3) := by decide +kernel
theorem dX8_best_36 : decode cX8_best 36 = .ok (.aload_n 0, 1) := by decide +kernel
theorem dX8_best_37 : decode cX8_best 37 = .ok (.iload_n 3, 1) := by decide +kernel
theorem dX8_best_38 : decode cX8_best 38 = .ok (.invokevirtual 231, 3) := by decide +kernel
theorem dX8_best_41 : decode cX8_best 41 = .ok (.aload_n 0, 1) := by decide +kernel
theorem dX8_best_42 : decode cX8_best 42 = .ok (.iconst 1, 1) := by decide +kernel
theorem dX8_best_43 : decode cX8_best 43 = .ok (.putfield 211, 3) := by decide +kernel
theorem dX8_best_46 : decode cX8_best 46 = .ok (.aload_n 0, 1) := by decide +kernel
theorem dX8_best_47 : decode cX8_best 47 = .ok (.getfield 218, 3) := by decide +kernel
theorem dX8_best_50 : decode cX8_best 50 = .ok (.ireturn, 1) := by decide +kernel
theorem dX8_given_0 : decode cX8_given 0 = .ok (.iload_n 1, 1) := by decide +kernel
theorem dX8_given_1 : decode cX8_given 1 = .ok (.iconst 0, 1) := by decide +kernel
theorem dX8_given_2 : decode cX8_given 2 = .ok (.aload_n 0, 1) := by decide +kernel
theorem dX8_given_3 : decode cX8_given 3 = .ok (.getfield 208, 3) := by decide +kernel
theorem dX8_given_6 : decode cX8_given 6 = .ok (.iconst 1, 1) := by decide +kernel
theorem dX8_given_7 : decode cX8_given 7 = .ok (.isub, 1) := by decide +kernel
theorem dX8_given_8 : decode cX8_given 8 = .ok (.invokestatic 111, 3) := by decide +kernel
theorem dX8_given_11 : decode cX8_given 11 = .ok (.ifCond .ne 10, 3) := by decide +kernel
theorem dX8_given_14 : decode cX8_given 14 = .ok (.aload_n 0, 1) := by decide +kernel
theorem dX8_given_15 : decode cX8_given 15 = .ok (.ldc 123, 2) := by decide +kernel
theorem dX8_given_17 : decode cX8_given 17 = .ok (.invokevirtual 124, 3) := by decide +kernel
theorem dX8_given_20 : decode cX8_given 20 = .ok (.ireturn, 1) := by decide +kernel
theorem dX8_given_21 : decode cX8_given 21 = .ok (.aload_n 0, 1) := by decide +kernel
theorem dX8_given_22 : decode cX8_given 22 = .ok (.getfield 211, 3) := by decide +kernel
theorem dX8_given_25 : decode cX8_given 25 = .ok (.ifCond .eq 12, 3) := by decide +kernel
theorem dX8_given_28 : decode cX8_given 28 = .ok (.aload_n 0, 1) := by decide +kernel
theorem dX8_given_29 : decode cX8_given 29 = .ok (.getfield 76, 3) := by decide +kernel
theorem dX8_given_32 : decode cX8_given 32 = .ok (.iload_n 1, 1) := by decide +kernel
theorem dX8_given_33 : decode cX8_given 33 = .ok (.iaload, 1) := by decide +kernel
theorem dX8_given_34 : decode cX8_given 34 = .ok (.goto 9, 3) := by decide +kernel
theorem dX8_given_37 : decode cX8_given 37 = .ok (.aload_n 0, 1) := by decide +kernel
theorem dX8_given_38 : decode cX8_given 38 = .ok (.ldc 203, 2) := by decide +kernel
theorem dX8_given_40 : decode cX8_given 40 = .ok (.invokevirtual 124, 3) := by decide +kernel
theorem dX8_given_43 : decode cX8_given 43 = .ok (.ireturn, 1) := by decide +kernel
theorem dX8_exam_0 : decode cX8_exam 0 = .ok (.aload_n 0, 1) := by decide +kernel
theorem dX8_exam_1 : decode cX8_exam 1 = .ok (.getfield 234, 3) := by decide +kernel
theorem dX8_exam_4 : decode cX8_exam 4 = .ok (.bipush 20, 2) := by decide +kernel
theorem dX8_exam_6 : decode cX8_exam 6 = .ok (.if_icmp .ne 10, 3) := by decide +kernel
theorem dX8_exam_9 : decode cX8_exam 9 = .ok (.aload_n 0, 1) := by decide +kernel
theorem dX8_exam_10 : decode cX8_exam 10 = .ok (.ldc 131, 2) := by decide +kernel
theorem dX8_exam_12 : decode cX8_exam 12 = .ok (.invokevirtual 124, 3) := by decide +kernel
theorem dX8_exam_15 : decode cX8_exam 15 = .ok (.ireturn, 1) := by decide +kernel
theorem dX8_exam_16 : decode cX8_exam 16 = .ok (.aload_n 0, 1) := by decide +kernel
theorem dX8_exam_17 : decode cX8_exam 17 = .ok (.dup, 1) := by decide +kernel
theorem dX8_exam_18 : decode cX8_exam 18 = .ok (.getfield 234, 3) := by decide +kernel
theorem dX8_exam_21 : decode cX8_exam 21 = .ok (.iconst 1, 1) := by decide +kernel
theorem dX8_exam_22 : decode cX8_exam 22 = .ok (.iadd, 1) := by decide +kernel
theorem dX8_exam_23 : decode cX8_exam 23 = .ok (.putfield 234, 3) := by decide +kernel
theorem dX8_exam_26 : decode cX8_exam 26 = .ok (.aload_n 0, 1) := by decide +kernel
theorem dX8_exam_27 : decode cX8_exam 27 = .ok (.getfield 234, 3) := by decide +kernel
theorem dX8_exam_30 : decode cX8_exam 30 = .ok (.iconst 1, 1) := by decide +kernel
theorem dX8_exam_31 : decode cX8_exam 31 = .ok (.isub, 1) := by decide +kernel
theorem dX8_exam_32 : decode cX8_exam 32 = .ok (.ireturn, 1) := by decide +kernel
theorem dX8_isExam_0 : decode cX8_isExam 0 = .ok (.iload_n 1, 1) := by decide +kernel
theorem dX8_isExam_1 : decode cX8_isExam 1 = .ok (.iconst 0, 1) := by decide +kernel
theorem dX8_isExam_2 : decode cX8_isExam 2 = .ok (.aload_n 0, 1) := by decide +kernel
theorem dX8_isExam_3 : decode cX8_isExam 3 = .ok (.getfield 234, 3) := by decide +kernel
theorem dX8_isExam_6 : decode cX8_isExam 6 = .ok (.iconst 1, 1) := by decide +kernel
theorem dX8_isExam_7 : decode cX8_isExam 7 = .ok (.isub, 1) := by decide +kernel
theorem dX8_isExam_8 : decode cX8_isExam 8 = .ok (.invokestatic 111, 3) := by decide +kernel
theorem dX8_isExam_11 : decode cX8_isExam 11 = .ok (.ireturn, 1) := by decide +kernel
theorem dX8_mark_0 : decode cX8_mark 0 = .ok (.aload_n 0, 1) := by decide +kernel
theorem dX8_mark_1 : decode cX8_mark 1 = .ok (.iload_n 1, 1) := by decide +kernel
theorem dX8_mark_2 : decode cX8_mark 2 = .ok (.invokevirtual 237, 3) := by decide +kernel
theorem dX8_mark_5 : decode cX8_mark 5 = .ok (.ifCond .eq 21, 3) := by decide +kernel
theorem dX8_mark_8 : decode cX8_mark 8 = .ok (.aload_n 0, 1) := by decide +kernel
theorem dX8_mark_9 : decode cX8_mark 9 = .ok (.iload_n 2, 1) := by decide +kernel
theorem dX8_mark_10 : decode cX8_mark 10 = .ok (.invokevirtual 132, 3) := by decide +kernel
theorem dX8_mark_13 : decode cX8_mark 13 = .ok (.ifCond .eq 13, 3) := by decide +kernel
theorem dX8_mark_16 : decode cX8_mark 16 = .ok (.iload_n 3, 1) := by decide +kernel
theorem dX8_mark_17 : decode cX8_mark 17 = .ok (.iconst 0, 1) := by decide +kernel
theorem dX8_mark_18 : decode cX8_mark 18 = .ok (.bipush 100, 2) := by decide +kernel
theorem dX8_mark_20 : decode cX8_mark 20 = .ok (.invokestatic 111, 3) := by decide +kernel
theorem dX8_mark_23 : decode cX8_mark 23 = .ok (.ifCond .ne 10, 3) := by decide +kernel
theorem dX8_mark_26 : decode cX8_mark 26 = .ok (.aload_n 0, 1) := by decide +kernel
theorem dX8_mark_27 : decode cX8_mark 27 = .ok (.ldc 123, 2) := by decide +kernel
theorem dX8_mark_29 : decode cX8_mark 29 = .ok (.invokevirtual 124, 3) := by decide +kernel
theorem dX8_mark_32 : decode cX8_mark 32 = .ok (.ireturn, 1) := by decide +kernel
theorem dX8_mark_33 : decode cX8_mark 33 = .ok (.aload_n 0, 1) := by decide +kernel
theorem dX8_mark_34 : decode cX8_mark 34 = .ok (.getfield 9, 3) := by decide +kernel
theorem dX8_mark_37 : decode cX8_mark 37 = .ok (.iload_n 2, 1) := by decide +kernel
theorem dX8_mark_38 : decode cX8_mark 38 = .ok (.iaload, 1) := by decide +kernel
theorem dX8_mark_39 : decode cX8_mark 39 = .ok (.iconst 1, 1) := by decide +kernel
theorem dX8_mark_40 : decode cX8_mark 40 = .ok (.if_icmp .eq 10, 3) := by decide +kernel
theorem dX8_mark_43 : decode cX8_mark 43 = .ok (.aload_n 0, 1) := by decide +kernel
theorem dX8_mark_44 : decode cX8_mark 44 = .ok (.ldc 135, 2) := by decide +kernel
theorem dX8_mark_46 : decode cX8_mark 46 = .ok (.invokevirtual 124, 3) := by decide +kernel
theorem dX8_mark_49 : decode cX8_mark 49 = .ok (.ireturn, 1) := by decide +kernel
theorem dX8_mark_50 : decode cX8_mark 50 = .ok (.iconst 0, 1) := by decide +kernel
theorem dX8_mark_51 : decode cX8_mark 51 = .ok (.istore 4, 2) := by decide +kernel
theorem dX8_mark_53 : decode cX8_mark 53 = .ok (.iload 4, 2) := by decide +kernel
theorem dX8_mark_55 : decode cX8_mark 55 = .ok (.aload_n 0, 1) := by decide +kernel
theorem dX8_mark_56 : decode cX8_mark 56 = .ok (.getfield 79, 3) := by decide +kernel
theorem dX8_mark_59 : decode cX8_mark 59 = .ok (.iload_n 1, 1) := by decide +kernel
theorem dX8_mark_60 : decode cX8_mark 60 = .ok (.iaload, 1) := by decide +kernel
theorem dX8_mark_61 : decode cX8_mark 61 = .ok (.if_icmp .ge 24, 3) := by decide +kernel
theorem dX8_mark_64 : decode cX8_mark 64 = .ok (.aload_n 0, 1) := by decide +kernel
theorem dX8_mark_65 : decode cX8_mark 65 = .ok (.getfield 82, 3) := by decide +kernel
theorem dX8_mark_68 : decode cX8_mark 68 = .ok (.iconst 5, 1) := by decide +kernel
theorem dX8_mark_69 : decode cX8_mark 69 = .ok (.iload_n 1, 1) := by decide +kernel
theorem dX8_mark_70 : decode cX8_mark 70 = .ok (.imul, 1) := by decide +kernel
theorem dX8_mark_71 : decode cX8_mark 71 = .ok (.iload 4, 2) := by decide +kernel
theorem dX8_mark_73 : decode cX8_mark 73 = .ok (.iadd, 1) := by decide +kernel
theorem dX8_mark_74 : decode cX8_mark 74 = .ok (.iaload, 1) := by decide +kernel
theorem dX8_mark_75 : decode cX8_mark 75 = .ok (.iload_n 2, 1) := by decide +kernel
theorem dX8_mark_76 : decode cX8_mark 76 = .ok (.if_icmp .eq 9, 3) := by decide +kernel
theorem dX8_mark_79 : decode cX8_mark 79 = .ok (.iinc 4 1, 3) := by decide +kernel
theorem dX8_mark_82 : decode cX8_mark 82 = .ok (.goto (-29), 3) := by decide +kernel
theorem dX8_mark_85 : decode cX8_mark 85 = .ok (.iload 4, 2) := by decide +kernel
theorem dX8_mark_87 : decode cX8_mark 87 = .ok (.iconst 5, 1) := by decide +kernel
theorem dX8_mark_88 : decode cX8_mark 88 = .ok (.if_icmp .ne 10, 3) := by decide +kernel
theorem dX8_mark_91 : decode cX8_mark 91 = .ok (.aload_n 0, 1) := by decide +kernel
theorem dX8_mark_92 : decode cX8_mark 92 = .ok (.ldc 131, 2) := by decide +kernel
theorem dX8_mark_94 : decode cX8_mark 94 = .ok (.invokevirtual 124, 3) := by decide +kernel
theorem dX8_mark_97 : decode cX8_mark 97 = .ok (.ireturn, 1) := by decide +kernel
theorem dX8_mark_98 : decode cX8_mark 98 = .ok (.aload_n 0, 1) := by decide +kernel
theorem dX8_mark_99 : decode cX8_mark 99 = .ok (.getfield 82, 3) := by decide +kernel
theorem dX8_mark_102 : decode cX8_mark 102 = .ok (.iconst 5, 1) := by decide +kernel
theorem dX8_mark_103 : decode cX8_mark 103 = .ok (.iload_n 1, 1) := by decide +kernel
theorem dX8_mark_104 : decode cX8_mark 104 = .ok (.imul, 1) := by decide +kernel
theorem dX8_mark_105 : decode cX8_mark 105 = .ok (.iload 4, 2) := by decide +kernel
theorem dX8_mark_107 : decode cX8_mark 107 = .ok (.iadd, 1) := by decide +kernel
theorem dX8_mark_108 : decode cX8_mark 108 = .ok (.iload_n 2, 1) := by decide +kernel
theorem dX8_mark_109 : decode cX8_mark 109 = .ok (.iastore, 1) := by decide +kernel
theorem dX8_mark_110 : decode cX8_mark 110 = .ok (.aload_n 0, 1) := by decide +kernel
theorem dX8_mark_111 : decode cX8_mark 111 = .ok (.getfield 85, 3) := by decide +kernel
theorem dX8_mark_114 : decode cX8_mark 114 = .ok (.iconst 5, 1) := by decide +kernel
theorem dX8_mark_115 : decode cX8_mark 115 = .ok (.iload_n 1, 1) := by decide +kernel
theorem dX8_mark_116 : decode cX8_mark 116 = .ok (.imul, 1) := by decide +kernel
theorem dX8_mark_117 : decode cX8_mark 117 = .ok (.iload 4, 2) := by decide +kernel
theorem dX8_mark_119 : decode cX8_mark 119 = .ok (.iadd, 1) := by decide +kernel
theorem dX8_mark_120 : decode cX8_mark 120 = .ok (.iload_n 3, 1) := by decide +kernel
theorem dX8_mark_121 : decode cX8_mark 121 = .ok (.iastore, 1) := by decide +kernel
theorem dX8_mark_122 : decode cX8_mark 122 = .ok (.aload_n 0, 1) := by decide +kernel
theorem dX8_mark_123 : decode cX8_mark 123 = .ok (.getfield 79, 3) := by decide +kernel
theorem dX8_mark_126 : decode cX8_mark 126 = .ok (.iload_n 1, 1) := by decide +kernel
theorem dX8_mark_127 : decode cX8_mark 127 = .ok (.aload_n 0, 1) := by decide +kernel
theorem dX8_mark_128 : decode cX8_mark 128 = .ok (.getfield 79, 3) := by decide +kernel
theorem dX8_mark_131 : decode cX8_mark 131 = .ok (.iload_n 1, 1) := by decide +kernel
theorem dX8_mark_132 : decode cX8_mark 132 = .ok (.iaload, 1) := by decide +kernel
theorem dX8_mark_133 : decode cX8_mark 133 = .ok (.iload 4, 2) := by decide +kernel
theorem dX8_mark_135 : decode cX8_mark 135 = .ok (.iconst 1, 1) := by decide +kernel
theorem dX8_mark_136 : decode cX8_mark 136 = .ok (.iadd, 1) := by decide +kernel
theorem dX8_mark_137 : decode cX8_mark 137 = .ok (.invokestatic 165, 3) := by decide +kernel
theorem dX8_mark_140 : decode cX8_mark 140 = .ok (.iastore, 1) := by decide +kernel
theorem dX8_mark_141 : decode cX8_mark 141 = .ok (.aload_n 0, 1) := by decide +kernel
theorem dX8_mark_142 : decode cX8_mark 142 = .ok (.getfield 79, 3) := by decide +kernel
theorem dX8_mark_145 : decode cX8_mark 145 = .ok (.iload_n 1, 1) := by decide +kernel
theorem dX8_mark_146 : decode cX8_mark 146 = .ok (.iaload, 1) := by decide +kernel
theorem dX8_mark_147 : decode cX8_mark 147 = .ok (.ireturn, 1) := by decide +kernel
theorem dX8_middleOf_0 : decode cX8_middleOf 0 = .ok (.iconst 0, 1) := by decide +kernel
theorem dX8_middleOf_1 : decode cX8_middleOf 1 = .ok (.istore_n 2, 1) := by decide +kernel
theorem dX8_middleOf_2 : decode cX8_middleOf 2 = .ok (.iconst 0, 1) := by decide +kernel
theorem dX8_middleOf_3 : decode cX8_middleOf 3 = .ok (.istore_n 3, 1) := by decide +kernel
theorem dX8_middleOf_4 : decode cX8_middleOf 4 = .ok (.iload_n 3, 1) := by decide +kernel
theorem dX8_middleOf_5 : decode cX8_middleOf 5 = .ok (.iconst 5, 1) := by decide +kernel
theorem dX8_middleOf_6 : decode cX8_middleOf 6 = .ok (.if_icmp .ge 113, 3) := by decide +kernel
theorem dX8_middleOf_9 : decode cX8_middleOf 9 = .ok (.aload_n 0, 1) := by decide +kernel
theorem dX8_middleOf_10 : decode cX8_middleOf 10 = .ok (.getfield 85, 3) := by decide +kernel
theorem dX8_middleOf_13 : decode cX8_middleOf 13 = .ok (.iconst 5, 1) := by decide +kernel
theorem dX8_middleOf_14 : decode cX8_middleOf 14 = .ok (.iload_n 1, 1) := by decide +kernel
theorem dX8_middleOf_15 : decode cX8_middleOf 15 = .ok (.imul, 1) := by decide +kernel
theorem dX8_middleOf_16 : decode cX8_middleOf 16 = .ok (.iload_n 3, 1) := by decide +kernel
theorem dX8_middleOf_17 : decode cX8_middleOf 17 = .ok (.iadd, 1) := by decide +kernel
theorem dX8_middleOf_18 : decode cX8_middleOf 18 = .ok (.iaload, 1) := by decide +kernel
theorem dX8_middleOf_19 : decode cX8_middleOf 19 = .ok (.istore 4, 2) := by decide +kernel
theorem dX8_middleOf_21 : decode cX8_middleOf 21 = .ok (.iconst 0, 1) := by decide +kernel
theorem dX8_middleOf_22 : decode cX8_middleOf 22 = .ok (.istore 5, 2) := by decide +kernel
theorem dX8_middleOf_24 : decode cX8_middleOf 24 = .ok (.iconst 0, 1) := by decide +kernel
theorem dX8_middleOf_25 : decode cX8_middleOf 25 = .ok (.istore 6, 2) := by decide +kernel
theorem dX8_middleOf_27 : decode cX8_middleOf 27 = .ok (.iconst 0, 1) := by decide +kernel
theorem dX8_middleOf_28 : decode cX8_middleOf 28 = .ok (.istore 7, 2) := by decide +kernel
theorem dX8_middleOf_30 : decode cX8_middleOf 30 = .ok (.iload 7, 2) := by decide +kernel
theorem dX8_middleOf_32 : decode cX8_middleOf 32 = .ok (.iconst 5, 1) := by decide +kernel
theorem dX8_middleOf_33 : decode cX8_middleOf 33 = .ok (.if_icmp .ge 61, 3) := by decide +kernel
theorem dX8_middleOf_36 : decode cX8_middleOf 36 = .ok (.iload 5, 2) := by decide +kernel
theorem dX8_middleOf_38 : decode cX8_middleOf 38 = .ok (.aload_n 0, 1) := by decide +kernel
theorem dX8_middleOf_39 : decode cX8_middleOf 39 = .ok (.getfield 85, 3) := by decide +kernel
theorem dX8_middleOf_42 : decode cX8_middleOf 42 = .ok (.iconst 5, 1) := by decide +kernel
theorem dX8_middleOf_43 : decode cX8_middleOf 43 = .ok (.iload_n 1, 1) := by decide +kernel
theorem dX8_middleOf_44 : decode cX8_middleOf 44 = .ok (.imul, 1) := by decide +kernel
theorem dX8_middleOf_45 : decode cX8_middleOf 45 = .ok (.iload 7, 2) := by decide +kernel
theorem dX8_middleOf_47 : decode cX8_middleOf 47 = .ok (.iadd, 1) := by decide +kernel
theorem dX8_middleOf_48 : decode cX8_middleOf 48 = .ok (.iaload, 1) := by decide +kernel
theorem dX8_middleOf_49 : decode cX8_middleOf 49 = .ok (.iload 4, 2) := by decide +kernel
theorem dX8_middleOf_51 : decode cX8_middleOf 51 = .ok (.if_icmp .ge 7, 3) := by decide +kernel
theorem dX8_middleOf_54 : decode cX8_middleOf 54 = .ok (.iconst 1, 1) := by decide +kernel
theorem dX8_middleOf_55 : decode cX8_middleOf 55 = .ok (.goto 4, 3) := by decide +kernel
theorem dX8_middleOf_58 : decode cX8_middleOf 58 = .ok (.iconst 0, 1) := by decide +kernel
theorem dX8_middleOf_59 : decode cX8_middleOf 59 = .ok (.iadd, 1) := by decide +kernel
theorem dX8_middleOf_60 : decode cX8_middleOf 60 = .ok (.istore 5, 2) := by decide +kernel
theorem dX8_middleOf_62 : decode cX8_middleOf 62 = .ok (.iload 6, 2) := by decide +kernel
theorem dX8_middleOf_64 : decode cX8_middleOf 64 = .ok (.aload_n 0, 1) := by decide +kernel
theorem dX8_middleOf_65 : decode cX8_middleOf 65 = .ok (.getfield 85, 3) := by decide +kernel
theorem dX8_middleOf_68 : decode cX8_middleOf 68 = .ok (.iconst 5, 1) := by decide +kernel
theorem dX8_middleOf_69 : decode cX8_middleOf 69 = .ok (.iload_n 1, 1) := by decide +kernel
theorem dX8_middleOf_70 : decode cX8_middleOf 70 = .ok (.imul, 1) := by decide +kernel
theorem dX8_middleOf_71 : decode cX8_middleOf 71 = .ok (.iload 7, 2) := by decide +kernel
theorem dX8_middleOf_73 : decode cX8_middleOf 73 = .ok (.iadd, 1) := by decide +kernel
theorem dX8_middleOf_74 : decode cX8_middleOf 74 = .ok (.iaload, 1) := by decide +kernel
theorem dX8_middleOf_75 : decode cX8_middleOf 75 = .ok (.iload 4, 2) := by decide +kernel
theorem dX8_middleOf_77 : decode cX8_middleOf 77 = .ok (.if_icmp .gt 7, 3) := by decide +kernel
theorem dX8_middleOf_80 : decode cX8_middleOf 80 = .ok (.iconst 1, 1) := by decide +kernel
theorem dX8_middleOf_81 : decode cX8_middleOf 81 = .ok (.goto 4, 3) := by decide +kernel
theorem dX8_middleOf_84 : decode cX8_middleOf 84 = .ok (.iconst 0, 1) := by decide +kernel
theorem dX8_middleOf_85 : decode cX8_middleOf 85 = .ok (.iadd, 1) := by decide +kernel
theorem dX8_middleOf_86 : decode cX8_middleOf 86 = .ok (.istore 6, 2) := by decide +kernel
theorem dX8_middleOf_88 : decode cX8_middleOf 88 = .ok (.iinc 7 1, 3) := by decide +kernel
theorem dX8_middleOf_91 : decode cX8_middleOf 91 = .ok (.goto (-61), 3) := by decide +kernel
theorem dX8_middleOf_94 : decode cX8_middleOf 94 = .ok (.iload 5, 2) := by decide +kernel
theorem dX8_middleOf_96 : decode cX8_middleOf 96 = .ok (.iconst 2, 1) := by decide +kernel
theorem dX8_middleOf_97 : decode cX8_middleOf 97 = .ok (.if_icmp .gt 14, 3) := by decide +kernel
theorem dX8_middleOf_100 : decode cX8_middleOf 100 = .ok (.iload 6, 2) := by decide +kernel
theorem dX8_middleOf_102 : decode cX8_middleOf 102 = .ok (.iconst 3, 1) := by decide +kernel
theorem dX8_middleOf_103 : decode cX8_middleOf 103 = .ok (.if_icmp .lt 8, 3) := by decide +kernel
theorem dX8_middleOf_106 : decode cX8_middleOf 106 = .ok (.iload 4, 2) := by decide +kernel
theorem dX8_middleOf_108 : decode cX8_middleOf 108 = .ok (.goto 4, 3) := by decide +kernel
theorem dX8_middleOf_111 : decode cX8_middleOf 111 = .ok (.iload_n 2, 1) := by decide +kernel
theorem dX8_middleOf_112 : decode cX8_middleOf 112 = .ok (.istore_n 2, 1) := by decide +kernel
theorem dX8_middleOf_113 : decode cX8_middleOf 113 = .ok (.iinc 3 1, 3) := by decide +kernel
theorem dX8_middleOf_116 : decode cX8_middleOf 116 = .ok (.goto (-112), 3) := by decide +kernel
theorem dX8_middleOf_119 : decode cX8_middleOf 119 = .ok (.iload_n 2, 1) := by decide +kernel
theorem dX8_middleOf_120 : decode cX8_middleOf 120 = .ok (.ireturn, 1) := by decide +kernel
theorem dX8_middle_0 : decode cX8_middle 0 = .ok (.aload_n 0, 1) := by decide +kernel
theorem dX8_middle_1 : decode cX8_middle 1 = .ok (.iload_n 1, 1) := by decide +kernel
theorem dX8_middle_2 : decode cX8_middle 2 = .ok (.invokevirtual 237, 3) := by decide +kernel
theorem dX8_middle_5 : decode cX8_middle 5 = .ok (.ifCond .ne 10, 3) := by decide +kernel
theorem dX8_middle_8 : decode cX8_middle 8 = .ok (.aload_n 0, 1) := by decide +kernel
theorem dX8_middle_9 : decode cX8_middle 9 = .ok (.ldc 123, 2) := by decide +kernel
theorem dX8_middle_11 : decode cX8_middle 11 = .ok (.invokevirtual 124, 3) := by decide +kernel
theorem dX8_middle_14 : decode cX8_middle 14 = .ok (.ireturn, 1) := by decide +kernel
theorem dX8_middle_15 : decode cX8_middle 15 = .ok (.aload_n 0, 1) := by decide +kernel
theorem dX8_middle_16 : decode cX8_middle 16 = .ok (.getfield 79, 3) := by decide +kernel
theorem dX8_middle_19 : decode cX8_middle 19 = .ok (.iload_n 1, 1) := by decide +kernel
theorem dX8_middle_20 : decode cX8_middle 20 = .ok (.iaload, 1) := by decide +kernel
theorem dX8_middle_21 : decode cX8_middle 21 = .ok (.iconst 5, 1) := by decide +kernel
theorem dX8_middle_22 : decode cX8_middle 22 = .ok (.if_icmp .ne 11, 3) := by decide +kernel
theorem dX8_middle_25 : decode cX8_middle 25 = .ok (.aload_n 0, 1) := by decide +kernel
theorem dX8_middle_26 : decode cX8_middle 26 = .ok (.iload_n 1, 1) := by decide +kernel
theorem dX8_middle_27 : decode cX8_middle 27 = .ok (.invokevirtual 240, 3) := by decide +kernel
theorem dX8_middle_30 : decode cX8_middle 30 = .ok (.goto 9, 3) := by decide +kernel
theorem dX8_middle_33 : decode cX8_middle 33 = .ok (.aload_n 0, 1) := by decide +kernel
theorem dX8_middle_34 : decode cX8_middle 34 = .ok (.ldc 203, 2) := by decide +kernel
theorem dX8_middle_36 : decode cX8_middle 36 = .ok (.invokevirtual 124, 3) := by decide +kernel
theorem dX8_middle_39 : decode cX8_middle 39 = .ok (.ireturn, 1) := by decide +kernel
theorem dX8_apart_0 : decode cX8_apart 0 = .ok (.aload_n 0, 1) := by decide +kernel
theorem dX8_apart_1 : decode cX8_apart 1 = .ok (.iload_n 1, 1) := by decide +kernel
theorem dX8_apart_2 : decode cX8_apart 2 = .ok (.invokevirtual 237, 3) := by decide +kernel
theorem dX8_apart_5 : decode cX8_apart 5 = .ok (.ifCond .eq 13, 3) := by decide +kernel
theorem dX8_apart_8 : decode cX8_apart 8 = .ok (.iload_n 2, 1) := by decide +kernel
theorem dX8_apart_9 : decode cX8_apart 9 = .ok (.iconst 0, 1) := by decide +kernel
theorem dX8_apart_10 : decode cX8_apart 10 = .ok (.bipush 100, 2) := by decide +kernel
theorem dX8_apart_12 : decode cX8_apart 12 = .ok (.invokestatic 111, 3) := by decide +kernel
theorem dX8_apart_15 : decode cX8_apart 15 = .ok (.ifCond .ne 10, 3) := by decide +kernel
theorem dX8_apart_18 : decode cX8_apart 18 = .ok (.aload_n 0, 1) := by decide +kernel
theorem dX8_apart_19 : decode cX8_apart 19 = .ok (.ldc 123, 2) := by decide +kernel
theorem dX8_apart_21 : decode cX8_apart 21 = .ok (.invokevirtual 124, 3) := by decide +kernel
theorem dX8_apart_24 : decode cX8_apart 24 = .ok (.ireturn, 1) := by decide +kernel
theorem dX8_apart_25 : decode cX8_apart 25 = .ok (.aload_n 0, 1) := by decide +kernel
theorem dX8_apart_26 : decode cX8_apart 26 = .ok (.getfield 79, 3) := by decide +kernel
theorem dX8_apart_29 : decode cX8_apart 29 = .ok (.iload_n 1, 1) := by decide +kernel
theorem dX8_apart_30 : decode cX8_apart 30 = .ok (.iaload, 1) := by decide +kernel
theorem dX8_apart_31 : decode cX8_apart 31 = .ok (.iconst 5, 1) := by decide +kernel
theorem dX8_apart_32 : decode cX8_apart 32 = .ok (.if_icmp .ge 10, 3) := by decide +kernel
theorem dX8_apart_35 : decode cX8_apart 35 = .ok (.aload_n 0, 1) := by decide +kernel
theorem dX8_apart_36 : decode cX8_apart 36 = .ok (.ldc 203, 2) := by decide +kernel
theorem dX8_apart_38 : decode cX8_apart 38 = .ok (.invokevirtual 124, 3) := by decide +kernel
theorem dX8_apart_41 : decode cX8_apart 41 = .ok (.ireturn, 1) := by decide +kernel
theorem dX8_apart_42 : decode cX8_apart 42 = .ok (.iconst 0, 1) := by decide +kernel
theorem dX8_apart_43 : decode cX8_apart 43 = .ok (.istore_n 3, 1) := by decide +kernel
theorem dX8_apart_44 : decode cX8_apart 44 = .ok (.iconst 0, 1) := by decide +kernel
theorem dX8_apart_45 : decode cX8_apart 45 = .ok (.istore 4, 2) := by decide +kernel
theorem dX8_apart_47 : decode cX8_apart 47 = .ok (.iload 4, 2) := by decide +kernel
theorem dX8_apart_49 : decode cX8_apart 49 = .ok (.iconst 5, 1) := by decide +kernel
theorem dX8_apart_50 : decode cX8_apart 50 = .ok (.if_icmp .ge 41, 3) := by decide +kernel
theorem dX8_apart_53 : decode cX8_apart 53 = .ok (.iload_n 3, 1) := by decide +kernel
theorem dX8_apart_54 : decode cX8_apart 54 = .ok (.aload_n 0, 1) := by decide +kernel
theorem dX8_apart_55 : decode cX8_apart 55 = .ok (.getfield 85, 3) := by decide +kernel
theorem dX8_apart_58 : decode cX8_apart 58 = .ok (.iconst 5, 1) := by decide +kernel
theorem dX8_apart_59 : decode cX8_apart 59 = .ok (.iload_n 1, 1) := by decide +kernel
theorem dX8_apart_60 : decode cX8_apart 60 = .ok (.imul, 1) := by decide +kernel
theorem dX8_apart_61 : decode cX8_apart 61 = .ok (.iload 4, 2) := by decide +kernel
theorem dX8_apart_63 : decode cX8_apart 63 = .ok (.iadd, 1) := by decide +kernel
theorem dX8_apart_64 : decode cX8_apart 64 = .ok (.iaload, 1) := by decide +kernel
theorem dX8_apart_65 : decode cX8_apart 65 = .ok (.aload_n 0, 1) := by decide +kernel
theorem dX8_apart_66 : decode cX8_apart 66 = .ok (.iload_n 1, 1) := by decide +kernel
theorem dX8_apart_67 : decode cX8_apart 67 = .ok (.invokevirtual 240, 3) := by decide +kernel
theorem dX8_apart_70 : decode cX8_apart 70 = .ok (.isub, 1) := by decide +kernel
theorem dX8_apart_71 : decode cX8_apart 71 = .ok (.invokestatic 243, 3) := by decide +kernel
theorem dX8_apart_74 : decode cX8_apart 74 = .ok (.iload_n 2, 1) := by decide +kernel
theorem dX8_apart_75 : decode cX8_apart 75 = .ok (.if_icmp .le 7, 3) := by decide +kernel
theorem dX8_apart_78 : decode cX8_apart 78 = .ok (.iconst 1, 1) := by decide +kernel
theorem dX8_apart_79 : decode cX8_apart 79 = .ok (.goto 4, 3) := by decide +kernel
theorem dX8_apart_82 : decode cX8_apart 82 = .ok (.iconst 0, 1) := by decide +kernel
theorem dX8_apart_83 : decode cX8_apart 83 = .ok (.iadd, 1) := by decide +kernel
theorem dX8_apart_84 : decode cX8_apart 84 = .ok (.istore_n 3, 1) := by decide +kernel
theorem dX8_apart_85 : decode cX8_apart 85 = .ok (.iinc 4 1, 3) := by decide +kernel
theorem dX8_apart_88 : decode cX8_apart 88 = .ok (.goto (-41), 3) := by decide +kernel
theorem dX8_apart_91 : decode cX8_apart 91 = .ok (.iload_n 3, 1) := by decide +kernel
theorem dX8_apart_92 : decode cX8_apart 92 = .ok (.ireturn, 1) := by decide +kernel
theorem dX8_hard_0 : decode cX8_hard 0 = .ok (.aload_n 0, 1) := by decide +kernel
theorem dX8_hard_1 : decode cX8_hard 1 = .ok (.iload_n 1, 1) := by decide +kernel
theorem dX8_hard_2 : decode cX8_hard 2 = .ok (.invokevirtual 132, 3) := by decide +kernel
theorem dX8_hard_5 : decode cX8_hard 5 = .ok (.ifCond .ne 10, 3) := by decide +kernel
theorem dX8_hard_8 : decode cX8_hard 8 = .ok (.aload_n 0, 1) := by decide +kernel
theorem dX8_hard_9 : decode cX8_hard 9 = .ok (.ldc 123, 2) := by decide +kernel
theorem dX8_hard_11 : decode cX8_hard 11 = .ok (.invokevirtual 124, 3) := by decide +kernel
theorem dX8_hard_14 : decode cX8_hard 14 = .ok (.ireturn, 1) := by decide +kernel
theorem dX8_hard_15 : decode cX8_hard 15 = .ok (.aload_n 0, 1) := by decide +kernel
theorem dX8_hard_16 : decode cX8_hard 16 = .ok (.getfield 9, 3) := by decide +kernel
theorem dX8_hard_19 : decode cX8_hard 19 = .ok (.iload_n 1, 1) := by decide +kernel
theorem dX8_hard_20 : decode cX8_hard 20 = .ok (.iaload, 1) := by decide +kernel
theorem dX8_hard_21 : decode cX8_hard 21 = .ok (.iconst 1, 1) := by decide +kernel
theorem dX8_hard_22 : decode cX8_hard 22 = .ok (.if_icmp .eq 10, 3) := by decide +kernel
theorem dX8_hard_25 : decode cX8_hard 25 = .ok (.aload_n 0, 1) := by decide +kernel
theorem dX8_hard_26 : decode cX8_hard 26 = .ok (.ldc 135, 2) := by decide +kernel
theorem dX8_hard_28 : decode cX8_hard 28 = .ok (.invokevirtual 124, 3) := by decide +kernel
theorem dX8_hard_31 : decode cX8_hard 31 = .ok (.ireturn, 1) := by decide +kernel
theorem dX8_hard_32 : decode cX8_hard 32 = .ok (.iconst 0, 1) := by decide +kernel
theorem dX8_hard_33 : decode cX8_hard 33 = .ok (.istore_n 2, 1) := by decide +kernel
theorem dX8_hard_34 : decode cX8_hard 34 = .ok (.iconst 0, 1) := by decide +kernel
theorem dX8_hard_35 : decode cX8_hard 35 = .ok (.istore_n 3, 1) := by decide +kernel
theorem dX8_hard_36 : decode cX8_hard 36 = .ok (.iload_n 3, 1) := by decide +kernel
theorem dX8_hard_37 : decode cX8_hard 37 = .ok (.aload_n 0, 1) := by decide +kernel
theorem dX8_hard_38 : decode cX8_hard 38 = .ok (.getfield 234, 3) := by decide +kernel
theorem dX8_hard_41 : decode cX8_hard 41 = .ok (.if_icmp .ge 73, 3) := by decide +kernel
theorem dX8_hard_44 : decode cX8_hard 44 = .ok (.iconst 0, 1) := by decide +kernel
theorem dX8_hard_45 : decode cX8_hard 45 = .ok (.istore 4, 2) := by decide +kernel
theorem dX8_hard_47 : decode cX8_hard 47 = .ok (.iload 4, 2) := by decide +kernel
theorem dX8_hard_49 : decode cX8_hard 49 = .ok (.iconst 5, 1) := by decide +kernel
theorem dX8_hard_50 : decode cX8_hard 50 = .ok (.if_icmp .ge 58, 3) := by decide +kernel
theorem dX8_hard_53 : decode cX8_hard 53 = .ok (.aload_n 0, 1) := by decide +kernel
theorem dX8_hard_54 : decode cX8_hard 54 = .ok (.getfield 79, 3) := by decide +kernel
theorem dX8_hard_57 : decode cX8_hard 57 = .ok (.iload_n 3, 1) := by decide +kernel
theorem dX8_hard_58 : decode cX8_hard 58 = .ok (.iaload, 1) := by decide +kernel
theorem dX8_hard_59 : decode cX8_hard 59 = .ok (.iconst 5, 1) := by decide +kernel
theorem dX8_hard_60 : decode cX8_hard 60 = .ok (.if_icmp .ne 48, 3) := by decide +kernel
theorem dX8_hard_63 : decode cX8_hard 63 = .ok (.iload_n 2, 1) := by decide +kernel
theorem dX8_hard_64 : decode cX8_hard 64 = .ok (.aload_n 0, 1) := by decide +kernel
theorem dX8_hard_65 : decode cX8_hard 65 = .ok (.getfield 82, 3) := by decide +kernel
theorem dX8_hard_68 : decode cX8_hard 68 = .ok (.iconst 5, 1) := by decide +kernel
theorem dX8_hard_69 : decode cX8_hard 69 = .ok (.iload_n 3, 1) := by decide +kernel
theorem dX8_hard_70 : decode cX8_hard 70 = .ok (.imul, 1) := by decide +kernel
theorem dX8_hard_71 : decode cX8_hard 71 = .ok (.iload 4, 2) := by decide +kernel
theorem dX8_hard_73 : decode cX8_hard 73 = .ok (.iadd, 1) := by decide +kernel
theorem dX8_hard_74 : decode cX8_hard 74 = .ok (.iaload, 1) := by decide +kernel
theorem dX8_hard_75 : decode cX8_hard 75 = .ok (.iload_n 1, 1) := by decide +kernel
theorem dX8_hard_76 : decode cX8_hard 76 = .ok (.if_icmp .ne 23, 3) := by decide +kernel
theorem dX8_hard_79 : decode cX8_hard 79 = .ok (.aload_n 0, 1) := by decide +kernel
theorem dX8_hard_80 : decode cX8_hard 80 = .ok (.getfield 85, 3) := by decide +kernel
theorem dX8_hard_83 : decode cX8_hard 83 = .ok (.iconst 5, 1) := by decide +kernel
theorem dX8_hard_84 : decode cX8_hard 84 = .ok (.iload_n 3, 1) := by decide +kernel
theorem dX8_hard_85 : decode cX8_hard 85 = .ok (.imul, 1) := by decide +kernel
theorem dX8_hard_86 : decode cX8_hard 86 = .ok (.iload 4, 2) := by decide +kernel
theorem dX8_hard_88 : decode cX8_hard 88 = .ok (.iadd, 1) := by decide +kernel
theorem dX8_hard_89 : decode cX8_hard 89 = .ok (.iaload, 1) := by decide +kernel
theorem dX8_hard_90 : decode cX8_hard 90 = .ok (.aload_n 0, 1) := by decide +kernel
theorem dX8_hard_91 : decode cX8_hard 91 = .ok (.iload_n 3, 1) := by decide +kernel
theorem dX8_hard_92 : decode cX8_hard 92 = .ok (.invokevirtual 240, 3) := by decide +kernel
theorem dX8_hard_95 : decode cX8_hard 95 = .ok (.isub, 1) := by decide +kernel
theorem dX8_hard_96 : decode cX8_hard 96 = .ok (.goto 4, 3) := by decide +kernel
theorem dX8_hard_99 : decode cX8_hard 99 = .ok (.iconst 0, 1) := by decide +kernel
theorem dX8_hard_100 : decode cX8_hard 100 = .ok (.iadd, 1) := by decide +kernel
theorem dX8_hard_101 : decode cX8_hard 101 = .ok (.istore_n 2, 1) := by decide +kernel
theorem dX8_hard_102 : decode cX8_hard 102 = .ok (.iinc 4 1, 3) := by decide +kernel
theorem dX8_hard_105 : decode cX8_hard 105 = .ok (.goto (-58), 3) := by decide +kernel
theorem dX8_hard_108 : decode cX8_hard 108 = .ok (.iinc 3 1, 3) := by decide +kernel
theorem dX8_hard_111 : decode cX8_hard 111 = .ok (.goto (-75), 3) := by decide +kernel
theorem dX8_hard_114 : decode cX8_hard 114 = .ok (.iload_n 2, 1) := by decide +kernel
theorem dX8_hard_115 : decode cX8_hard 115 = .ok (.ireturn, 1) := by decide +kernel
theorem dX8_tell_0 : decode cX8_tell 0 = .ok (.aload_n 0, 1) := by decide +kernel
theorem dX8_tell_1 : decode cX8_tell 1 = .ok (.getfield 246, 3) := by decide +kernel
theorem dX8_tell_4 : decode cX8_tell 4 = .ok (.bipush 20, 2) := by decide +kernel
theorem dX8_tell_6 : decode cX8_tell 6 = .ok (.if_icmp .ne 10, 3) := by decide +kernel
theorem dX8_tell_9 : decode cX8_tell 9 = .ok (.aload_n 0, 1) := by decide +kernel
theorem dX8_tell_10 : decode cX8_tell 10 = .ok (.ldc 131, 2) := by decide +kernel
theorem dX8_tell_12 : decode cX8_tell 12 = .ok (.invokevirtual 124, 3) := by decide +kernel
theorem dX8_tell_15 : decode cX8_tell 15 = .ok (.ireturn, 1) := by decide +kernel
theorem dX8_tell_16 : decode cX8_tell 16 = .ok (.aload_n 0, 1) := by decide +kernel
theorem dX8_tell_17 : decode cX8_tell 17 = .ok (.getfield 88, 3) := by decide +kernel
theorem dX8_tell_20 : decode cX8_tell 20 = .ok (.aload_n 0, 1) := by decide +kernel
theorem dX8_tell_21 : decode cX8_tell 21 = .ok (.getfield 246, 3) := by decide +kernel
theorem dX8_tell_24 : decode cX8_tell 24 = .ok (.iload_n 1, 1) := by decide +kernel
theorem dX8_tell_25 : decode cX8_tell 25 = .ok (.iastore, 1) := by decide +kernel
theorem dX8_tell_26 : decode cX8_tell 26 = .ok (.aload_n 0, 1) := by decide +kernel
theorem dX8_tell_27 : decode cX8_tell 27 = .ok (.dup, 1) := by decide +kernel
theorem dX8_tell_28 : decode cX8_tell 28 = .ok (.getfield 246, 3) := by decide +kernel
theorem dX8_tell_31 : decode cX8_tell 31 = .ok (.iconst 1, 1) := by decide +kernel
theorem dX8_tell_32 : decode cX8_tell 32 = .ok (.iadd, 1) := by decide +kernel
theorem dX8_tell_33 : decode cX8_tell 33 = .ok (.putfield 246, 3) := by decide +kernel
theorem dX8_tell_36 : decode cX8_tell 36 = .ok (.aload_n 0, 1) := by decide +kernel
theorem dX8_tell_37 : decode cX8_tell 37 = .ok (.getfield 246, 3) := by decide +kernel
theorem dX8_tell_40 : decode cX8_tell 40 = .ok (.ireturn, 1) := by decide +kernel
theorem dX8_check_0 : decode cX8_check 0 = .ok (.aload_n 0, 1) := by decide +kernel
theorem dX8_check_1 : decode cX8_check 1 = .ok (.getfield 246, 3) := by decide +kernel
theorem dX8_check_4 : decode cX8_check 4 = .ok (.istore_n 2, 1) := by decide +kernel
theorem dX8_check_5 : decode cX8_check 5 = .ok (.aload_n 0, 1) := by decide +kernel
theorem dX8_check_6 : decode cX8_check 6 = .ok (.iconst 0, 1) := by decide +kernel
theorem dX8_check_7 : decode cX8_check 7 = .ok (.putfield 246, 3) := by decide +kernel
theorem dX8_check_10 : decode cX8_check 10 = .ok (.iload_n 1, 1) := by decide +kernel
theorem dX8_check_11 : decode cX8_check 11 = .ok (.invokestatic 119, 3) := by decide +kernel
theorem dX8_check_14 : decode cX8_check 14 = .ok (.ifCond .ne 10, 3) := by decide +kernel
theorem dX8_check_17 : decode cX8_check 17 = .ok (.aload_n 0, 1) := by decide +kernel
theorem dX8_check_18 : decode cX8_check 18 = .ok (.ldc 123, 2) := by decide +kernel
theorem dX8_check_20 : decode cX8_check 20 = .ok (.invokevirtual 124, 3) := by decide +kernel
theorem dX8_check_23 : decode cX8_check 23 = .ok (.ireturn, 1) := by decide +kernel
theorem dX8_check_24 : decode cX8_check 24 = .ok (.aload_n 0, 1) := by decide +kernel
theorem dX8_check_25 : decode cX8_check 25 = .ok (.iload_n 1, 1) := by decide +kernel
theorem dX8_check_26 : decode cX8_check 26 = .ok (.invokevirtual 175, 3) := by decide +kernel
theorem dX8_check_29 : decode cX8_check 29 = .ok (.iconst 0, 1) := by decide +kernel
theorem dX8_check_30 : decode cX8_check 30 = .ok (.istore_n 3, 1) := by decide +kernel
theorem dX8_check_31 : decode cX8_check 31 = .ok (.iconst 0, 1) := by decide +kernel
theorem dX8_check_32 : decode cX8_check 32 = .ok (.istore 4, 2) := by decide +kernel
theorem dX8_check_34 : decode cX8_check 34 = .ok (.iload 4, 2) := by decide +kernel
theorem dX8_check_36 : decode cX8_check 36 = .ok (.aload_n 0, 1) := by decide +kernel
theorem dX8_check_37 : decode cX8_check 37 = .ok (.getfield 159, 3) := by decide +kernel
theorem dX8_check_40 : decode cX8_check 40 = .ok (.if_icmp .ge 42, 3) := by decide +kernel
theorem dX8_check_43 : decode cX8_check 43 = .ok (.aload_n 0, 1) := by decide +kernel
theorem dX8_check_44 : decode cX8_check 44 = .ok (.getfield 94, 3) := by decide +kernel
theorem dX8_check_47 : decode cX8_check 47 = .ok (.iload 4, 2) := by decide +kernel
theorem dX8_check_49 : decode cX8_check 49 = .ok (.baload, 1) := by decide +kernel
theorem dX8_check_50 : decode cX8_check 50 = .ok (.ifCond .eq 26, 3) := by decide +kernel
theorem dX8_check_53 : decode cX8_check 53 = .ok (.iload_n 3, 1) := by decide +kernel
theorem dX8_check_54 : decode cX8_check 54 = .ok (.iload_n 2, 1) := by decide +kernel
theorem dX8_check_55 : decode cX8_check 55 = .ok (.if_icmp .ge 14, 3) := by decide +kernel
theorem dX8_check_58 : decode cX8_check 58 = .ok (.aload_n 0, 1) := by decide +kernel
theorem dX8_check_59 : decode cX8_check 59 = .ok (.getfield 88, 3) := by decide +kernel
theorem dX8_check_62 : decode cX8_check 62 = .ok (.iload_n 3, 1) := by decide +kernel
theorem dX8_check_63 : decode cX8_check 63 = .ok (.iaload, 1) := by decide +kernel
theorem dX8_check_64 : decode cX8_check 64 = .ok (.iload 4, 2) := by decide +kernel
theorem dX8_check_66 : decode cX8_check 66 = .ok (.if_icmp .eq 7, 3) := by decide +kernel
theorem dX8_check_69 : decode cX8_check 69 = .ok (.iconst 1, 1) := by decide +kernel
theorem dX8_check_70 : decode cX8_check 70 = .ok (.iload_n 3, 1) := by decide +kernel
theorem dX8_check_71 : decode cX8_check 71 = .ok (.iadd, 1) := by decide +kernel
theorem dX8_check_72 : decode cX8_check 72 = .ok (.ireturn, 1) := by decide +kernel
theorem dX8_check_73 : decode cX8_check 73 = .ok (.iinc 3 1, 3) := by decide +kernel
theorem dX8_check_76 : decode cX8_check 76 = .ok (.iinc 4 1, 3) := by decide +kernel
theorem dX8_check_79 : decode cX8_check 79 = .ok (.goto (-45), 3) := by decide +kernel
theorem dX8_check_82 : decode cX8_check 82 = .ok (.iload_n 2, 1) := by decide +kernel
theorem dX8_check_83 : decode cX8_check 83 = .ok (.iload_n 3, 1) := by decide +kernel
theorem dX8_check_84 : decode cX8_check 84 = .ok (.if_icmp .le 8, 3) := by decide +kernel
theorem dX8_check_87 : decode cX8_check 87 = .ok (.bipush 99, 2) := by decide +kernel
theorem dX8_check_89 : decode cX8_check 89 = .ok (.goto 4, 3) := by decide +kernel
theorem dX8_check_92 : decode cX8_check 92 = .ok (.iconst 0, 1) := by decide +kernel
theorem dX8_check_93 : decode cX8_check 93 = .ok (.ireturn, 1) := by decide +kernel
theorem dX8_count_0 : decode cX8_count 0 = .ok (.iload_n 1, 1) := by decide +kernel
theorem dX8_count_1 : decode cX8_count 1 = .ok (.tableswitch 78 0 6 #[43, 48, 53, 58, 63, 68, 73], 43) := by decide +kernel
theorem dX8_count_44 : decode cX8_count 44 = .ok (.aload_n 0, 1) := by decide +kernel
theorem dX8_count_45 : decode cX8_count 45 = .ok (.getfield 115, 3) := by decide +kernel
theorem dX8_count_48 : decode cX8_count 48 = .ok (.ireturn, 1) := by decide +kernel
theorem dX8_count_49 : decode cX8_count 49 = .ok (.aload_n 0, 1) := by decide +kernel
theorem dX8_count_50 : decode cX8_count 50 = .ok (.getfield 146, 3) := by decide +kernel
theorem dX8_count_53 : decode cX8_count 53 = .ok (.ireturn, 1) := by decide +kernel
theorem dX8_count_54 : decode cX8_count 54 = .ok (.aload_n 0, 1) := by decide +kernel
theorem dX8_count_55 : decode cX8_count 55 = .ok (.getfield 159, 3) := by decide +kernel
theorem dX8_count_58 : decode cX8_count 58 = .ok (.ireturn, 1) := by decide +kernel
theorem dX8_count_59 : decode cX8_count 59 = .ok (.aload_n 0, 1) := by decide +kernel
theorem dX8_count_60 : decode cX8_count 60 = .ok (.getfield 153, 3) := by decide +kernel
theorem dX8_count_63 : decode cX8_count 63 = .ok (.ireturn, 1) := by decide +kernel
theorem dX8_count_64 : decode cX8_count 64 = .ok (.aload_n 0, 1) := by decide +kernel
theorem dX8_count_65 : decode cX8_count 65 = .ok (.getfield 234, 3) := by decide +kernel
theorem dX8_count_68 : decode cX8_count 68 = .ok (.ireturn, 1) := by decide +kernel
theorem dX8_count_69 : decode cX8_count 69 = .ok (.aload_n 0, 1) := by decide +kernel
theorem dX8_count_70 : decode cX8_count 70 = .ok (.getfield 208, 3) := by decide +kernel
theorem dX8_count_73 : decode cX8_count 73 = .ok (.ireturn, 1) := by decide +kernel
theorem dX8_count_74 : decode cX8_count 74 = .ok (.aload_n 0, 1) := by decide +kernel
theorem dX8_count_75 : decode cX8_count 75 = .ok (.getfield 246, 3) := by decide +kernel
theorem dX8_count_78 : decode cX8_count 78 = .ok (.ireturn, 1) := by decide +kernel
theorem dX8_count_79 : decode cX8_count 79 = .ok (.aload_n 0, 1) := by decide +kernel
theorem dX8_count_80 : decode cX8_count 80 = .ok (.ldc 123, 2) := by decide +kernel
theorem dX8_count_82 : decode cX8_count 82 = .ok (.invokevirtual 124, 3) := by decide +kernel
theorem dX8_count_85 : decode cX8_count 85 = .ok (.ireturn, 1) := by decide +kernel
theorem dX8_found_0 : decode cX8_found 0 = .ok (.iload_n 1, 1) := by decide +kernel
theorem dX8_found_1 : decode cX8_found 1 = .ok (.iconst 1, 1) := by decide +kernel
theorem dX8_found_2 : decode cX8_found 2 = .ok (.iconst 5, 1) := by decide +kernel
theorem dX8_found_3 : decode cX8_found 3 = .ok (.invokestatic 111, 3) := by decide +kernel
theorem dX8_found_6 : decode cX8_found 6 = .ok (.ifCond .eq 12, 3) := by decide +kernel
theorem dX8_found_9 : decode cX8_found 9 = .ok (.aload_n 0, 1) := by decide +kernel
theorem dX8_found_10 : decode cX8_found 10 = .ok (.getfield 91, 3) := by decide +kernel
theorem dX8_found_13 : decode cX8_found 13 = .ok (.iload_n 1, 1) := by decide +kernel
theorem dX8_found_14 : decode cX8_found 14 = .ok (.iaload, 1) := by decide +kernel
theorem dX8_found_15 : decode cX8_found 15 = .ok (.goto 9, 3) := by decide +kernel
theorem dX8_found_18 : decode cX8_found 18 = .ok (.aload_n 0, 1) := by decide +kernel
theorem dX8_found_19 : decode cX8_found 19 = .ok (.ldc 123, 2) := by decide +kernel
theorem dX8_found_21 : decode cX8_found 21 = .ok (.invokevirtual 124, 3) := by decide +kernel
theorem dX8_found_24 : decode cX8_found 24 = .ok (.ireturn, 1) := by decide +kernel
