theorem dX10_feels_13 : decode cX10_feels 13 = .ok (.getfield 7, 3) := by decide +kernel
theorem dX10_feels_16 : decode cX10_feels 16 = .ok (.iconst 0, 1) := by decide +kernel
theorem dX10_feels_17 : decode cX10_feels 17 = .ok (.iload_n 1, 1) := by decide +kernel
theorem dX10_feels_18 : decode cX10_feels 18 = .ok (.iadd, 1) := by decide +kernel
theorem dX10_feels_19 : decode cX10_feels 19 = .ok (.iaload, 1) := by decide +kernel
theorem dX10_feels_20 : decode cX10_feels 20 = .ok (.iastore, 1) := by decide +kernel
theorem dX10_feels_21 : decode cX10_feels 21 = .ok (.aload_n 0, 1) := by decide +kernel
theorem dX10_feels_22 : decode cX10_feels 22 = .ok (.getfield 62, 3) := by decide +kernel
theorem dX10_feels_25 : decode cX10_feels 25 = .ok (.iconst 2, 1) := by decide +kernel
theorem dX10_feels_26 : decode cX10_feels 26 = .ok (.iload 5, 2) := by decide +kernel
theorem dX10_feels_28 : decode cX10_feels 28 = .ok (.iastore, 1) := by decide +kernel
theorem dX10_feels_29 : decode cX10_feels 29 = .ok (.aload_n 0, 1) := by decide +kernel
theorem dX10_feels_30 : decode cX10_feels 30 = .ok (.getfield 62, 3) := by decide +kernel
theorem dX10_feels_33 : decode cX10_feels 33 = .ok (.iconst 3, 1) := by decide +kernel
theorem dX10_feels_34 : decode cX10_feels 34 = .ok (.iload_n 2, 1) := by decide +kernel
theorem dX10_feels_35 : decode cX10_feels 35 = .ok (.iastore, 1) := by decide +kernel
theorem dX10_feels_36 : decode cX10_feels 36 = .ok (.aload_n 0, 1) := by decide +kernel
theorem dX10_feels_37 : decode cX10_feels 37 = .ok (.getfield 62, 3) := by decide +kernel
theorem dX10_feels_40 : decode cX10_feels 40 = .ok (.iconst 4, 1) := by decide +kernel
theorem dX10_feels_41 : decode cX10_feels 41 = .ok (.iload_n 3, 1) := by decide +kernel
theorem dX10_feels_42 : decode cX10_feels 42 = .ok (.iastore, 1) := by decide +kernel
theorem dX10_feels_43 : decode cX10_feels 43 = .ok (.aload_n 0, 1) := by decide +kernel
theorem dX10_feels_44 : decode cX10_feels 44 = .ok (.getfield 62, 3) := by decide +kernel
theorem dX10_feels_47 : decode cX10_feels 47 = .ok (.iconst 5, 1) := by decide +kernel
theorem dX10_feels_48 : decode cX10_feels 48 = .ok (.iload 4, 2) := by decide +kernel
theorem dX10_feels_50 : decode cX10_feels 50 = .ok (.iastore, 1) := by decide +kernel
theorem dX10_feels_51 : decode cX10_feels 51 = .ok (.aload_n 0, 1) := by decide +kernel
theorem dX10_feels_52 : decode cX10_feels 52 = .ok (.getfield 62, 3) := by decide +kernel
theorem dX10_feels_55 : decode cX10_feels 55 = .ok (.bipush 6, 2) := by decide +kernel
theorem dX10_feels_57 : decode cX10_feels 57 = .ok (.iload 6, 2) := by decide +kernel
theorem dX10_feels_59 : decode cX10_feels 59 = .ok (.bipush 12, 2) := by decide +kernel
theorem dX10_feels_61 : decode cX10_feels 61 = .ok (.irem, 1) := by decide +kernel
theorem dX10_feels_62 : decode cX10_feels 62 = .ok (.iastore, 1) := by decide +kernel
theorem dX10_feels_63 : decode cX10_feels 63 = .ok (.return_, 1) := by decide +kernel
theorem dX10_readsAmount_0 : decode cX10_readsAmount 0 = .ok (.aload_n 0, 1) := by decide +kernel
theorem dX10_readsAmount_1 : decode cX10_readsAmount 1 = .ok (.getfield 158, 3) := by decide +kernel
theorem dX10_readsAmount_4 : decode cX10_readsAmount 4 = .ok (.istore_n 1, 1) := by decide +kernel
theorem dX10_readsAmount_5 : decode cX10_readsAmount 5 = .ok (.aload_n 0, 1) := by decide +kernel
theorem dX10_readsAmount_6 : decode cX10_readsAmount 6 = .ok (.invokevirtual 177, 3) := by decide +kernel
theorem dX10_readsAmount_9 : decode cX10_readsAmount 9 = .ok (.ifCond .ne 13, 3) := by decide +kernel
theorem dX10_readsAmount_12 : decode cX10_readsAmount 12 = .ok (.aload_n 0, 1) := by decide +kernel
theorem dX10_readsAmount_13 : decode cX10_readsAmount 13 = .ok (.iconst 1, 1) := by decide +kernel
theorem dX10_readsAmount_14 : decode cX10_readsAmount 14 = .ok (.aload_n 0, 1) := by decide +kernel
theorem dX10_readsAmount_15 : decode cX10_readsAmount 15 = .ok (.getfield 158, 3) := by decide +kernel
theorem dX10_readsAmount_18 : decode cX10_readsAmount 18 = .ok (.invokevirtual 171, 3) := by decide +kernel
theorem dX10_readsAmount_21 : decode cX10_readsAmount 21 = .ok (.ireturn, 1) := by decide +kernel
theorem dX10_readsAmount_22 : decode cX10_readsAmount 22 = .ok (.aload_n 0, 1) := by decide +kernel
theorem dX10_readsAmount_23 : decode cX10_readsAmount 23 = .ok (.iconst 0, 1) := by decide +kernel
theorem dX10_readsAmount_24 : decode cX10_readsAmount 24 = .ok (.putfield 174, 3) := by decide +kernel
theorem dX10_readsAmount_27 : decode cX10_readsAmount 27 = .ok (.aload_n 0, 1) := by decide +kernel
theorem dX10_readsAmount_28 : decode cX10_readsAmount 28 = .ok (.invokevirtual 177, 3) := by decide +kernel
theorem dX10_readsAmount_31 : decode cX10_readsAmount 31 = .ok (.ifCond .eq 55, 3) := by decide +kernel
theorem dX10_readsAmount_34 : decode cX10_readsAmount 34 = .ok (.aload_n 0, 1) := by decide +kernel
theorem dX10_readsAmount_35 : decode cX10_readsAmount 35 = .ok (.getfield 158, 3) := by decide +kernel
theorem dX10_readsAmount_38 : decode cX10_readsAmount 38 = .ok (.iload_n 1, 1) := by decide +kernel
theorem dX10_readsAmount_39 : decode cX10_readsAmount 39 = .ok (.iconst 4, 1) := by decide +kernel
theorem dX10_readsAmount_40 : decode cX10_readsAmount 40 = .ok (.iadd, 1) := by decide +kernel
theorem dX10_readsAmount_41 : decode cX10_readsAmount 41 = .ok (.if_icmp .ne 13, 3) := by decide +kernel
theorem dX10_readsAmount_44 : decode cX10_readsAmount 44 = .ok (.aload_n 0, 1) := by decide +kernel
theorem dX10_readsAmount_45 : decode cX10_readsAmount 45 = .ok (.iconst 2, 1) := by decide +kernel
theorem dX10_readsAmount_46 : decode cX10_readsAmount 46 = .ok (.aload_n 0, 1) := by decide +kernel
theorem dX10_readsAmount_47 : decode cX10_readsAmount 47 = .ok (.getfield 158, 3) := by decide +kernel
theorem dX10_readsAmount_50 : decode cX10_readsAmount 50 = .ok (.invokevirtual 171, 3) := by decide +kernel
theorem dX10_readsAmount_53 : decode cX10_readsAmount 53 = .ok (.ireturn, 1) := by decide +kernel
theorem dX10_readsAmount_54 : decode cX10_readsAmount 54 = .ok (.aload_n 0, 1) := by decide +kernel
theorem dX10_readsAmount_55 : decode cX10_readsAmount 55 = .ok (.bipush 10, 2) := by decide +kernel
theorem dX10_readsAmount_57 : decode cX10_readsAmount 57 = .ok (.aload_n 0, 1) := by decide +kernel
theorem dX10_readsAmount_58 : decode cX10_readsAmount 58 = .ok (.getfield 174, 3) := by decide +kernel
theorem dX10_readsAmount_61 : decode cX10_readsAmount 61 = .ok (.imul, 1) := by decide +kernel
theorem dX10_readsAmount_62 : decode cX10_readsAmount 62 = .ok (.aload_n 0, 1) := by decide +kernel
theorem dX10_readsAmount_63 : decode cX10_readsAmount 63 = .ok (.invokevirtual 164, 3) := by decide +kernel
theorem dX10_readsAmount_66 : decode cX10_readsAmount 66 = .ok (.iadd, 1) := by decide +kernel
theorem dX10_readsAmount_67 : decode cX10_readsAmount 67 = .ok (.bipush 48, 2) := by decide +kernel
theorem dX10_readsAmount_69 : decode cX10_readsAmount 69 = .ok (.isub, 1) := by decide +kernel
theorem dX10_readsAmount_70 : decode cX10_readsAmount 70 = .ok (.putfield 174, 3) := by decide +kernel
theorem dX10_readsAmount_73 : decode cX10_readsAmount 73 = .ok (.aload_n 0, 1) := by decide +kernel
theorem dX10_readsAmount_74 : decode cX10_readsAmount 74 = .ok (.aload_n 0, 1) := by decide +kernel
theorem dX10_readsAmount_75 : decode cX10_readsAmount 75 = .ok (.getfield 158, 3) := by decide +kernel
theorem dX10_readsAmount_78 : decode cX10_readsAmount 78 = .ok (.iconst 1, 1) := by decide +kernel
theorem dX10_readsAmount_79 : decode cX10_readsAmount 79 = .ok (.iadd, 1) := by decide +kernel
theorem dX10_readsAmount_80 : decode cX10_readsAmount 80 = .ok (.putfield 158, 3) := by decide +kernel
theorem dX10_readsAmount_83 : decode cX10_readsAmount 83 = .ok (.goto (-56), 3) := by decide +kernel
theorem dX10_readsAmount_86 : decode cX10_readsAmount 86 = .ok (.iconst 1, 1) := by decide +kernel
theorem dX10_readsAmount_87 : decode cX10_readsAmount 87 = .ok (.ireturn, 1) := by decide +kernel
theorem dX10_readsLine_0 : decode cX10_readsLine 0 = .ok (.aload_n 0, 1) := by decide +kernel
theorem dX10_readsLine_1 : decode cX10_readsLine 1 = .ok (.invokevirtual 164, 3) := by decide +kernel
theorem dX10_readsLine_4 : decode cX10_readsLine 4 = .ok (.bipush 65, 2) := by decide +kernel
theorem dX10_readsLine_6 : decode cX10_readsLine 6 = .ok (.isub, 1) := by decide +kernel
theorem dX10_readsLine_7 : decode cX10_readsLine 7 = .ok (.istore_n 1, 1) := by decide +kernel
theorem dX10_readsLine_8 : decode cX10_readsLine 8 = .ok (.iload_n 1, 1) := by decide +kernel
theorem dX10_readsLine_9 : decode cX10_readsLine 9 = .ok (.iconst 0, 1) := by decide +kernel
theorem dX10_readsLine_10 : decode cX10_readsLine 10 = .ok (.iconst 5, 1) := by decide +kernel
theorem dX10_readsLine_11 : decode cX10_readsLine 11 = .ok (.invokestatic 134, 3) := by decide +kernel
theorem dX10_readsLine_14 : decode cX10_readsLine 14 = .ok (.ifCond .ne 13, 3) := by decide +kernel
theorem dX10_readsLine_17 : decode cX10_readsLine 17 = .ok (.aload_n 0, 1) := by decide +kernel
theorem dX10_readsLine_18 : decode cX10_readsLine 18 = .ok (.iconst 1, 1) := by decide +kernel
theorem dX10_readsLine_19 : decode cX10_readsLine 19 = .ok (.aload_n 0, 1) := by decide +kernel
theorem dX10_readsLine_20 : decode cX10_readsLine 20 = .ok (.getfield 158, 3) := by decide +kernel
theorem dX10_readsLine_23 : decode cX10_readsLine 23 = .ok (.invokevirtual 171, 3) := by decide +kernel
theorem dX10_readsLine_26 : decode cX10_readsLine 26 = .ok (.ireturn, 1) := by decide +kernel
theorem dX10_readsLine_27 : decode cX10_readsLine 27 = .ok (.aload_n 0, 1) := by decide +kernel
theorem dX10_readsLine_28 : decode cX10_readsLine 28 = .ok (.getfield 261, 3) := by decide +kernel
theorem dX10_readsLine_31 : decode cX10_readsLine 31 = .ok (.bipush 20, 2) := by decide +kernel
theorem dX10_readsLine_33 : decode cX10_readsLine 33 = .ok (.if_icmp .ne 13, 3) := by decide +kernel
theorem dX10_readsLine_36 : decode cX10_readsLine 36 = .ok (.aload_n 0, 1) := by decide +kernel
theorem dX10_readsLine_37 : decode cX10_readsLine 37 = .ok (.iconst 4, 1) := by decide +kernel
theorem dX10_readsLine_38 : decode cX10_readsLine 38 = .ok (.aload_n 0, 1) := by decide +kernel
theorem dX10_readsLine_39 : decode cX10_readsLine 39 = .ok (.getfield 158, 3) := by decide +kernel
theorem dX10_readsLine_42 : decode cX10_readsLine 42 = .ok (.invokevirtual 171, 3) := by decide +kernel
theorem dX10_readsLine_45 : decode cX10_readsLine 45 = .ok (.ireturn, 1) := by decide +kernel
theorem dX10_readsLine_46 : decode cX10_readsLine 46 = .ok (.aload_n 0, 1) := by decide +kernel
theorem dX10_readsLine_47 : decode cX10_readsLine 47 = .ok (.iload_n 1, 1) := by decide +kernel
theorem dX10_readsLine_48 : decode cX10_readsLine 48 = .ok (.invokevirtual 264, 3) := by decide +kernel
theorem dX10_readsLine_51 : decode cX10_readsLine 51 = .ok (.ifCond .ne 14, 3) := by decide +kernel
theorem dX10_readsLine_54 : decode cX10_readsLine 54 = .ok (.aload_n 0, 1) := by decide +kernel
theorem dX10_readsLine_55 : decode cX10_readsLine 55 = .ok (.bipush 7, 2) := by decide +kernel
theorem dX10_readsLine_57 : decode cX10_readsLine 57 = .ok (.aload_n 0, 1) := by decide +kernel
theorem dX10_readsLine_58 : decode cX10_readsLine 58 = .ok (.getfield 158, 3) := by decide +kernel
theorem dX10_readsLine_61 : decode cX10_readsLine 61 = .ok (.invokevirtual 171, 3) := by decide +kernel
theorem dX10_readsLine_64 : decode cX10_readsLine 64 = .ok (.ireturn, 1) := by decide +kernel
theorem dX10_readsLine_65 : decode cX10_readsLine 65 = .ok (.aload_n 0, 1) := by decide +kernel
theorem dX10_readsLine_66 : decode cX10_readsLine 66 = .ok (.aload_n 0, 1) := by decide +kernel
theorem dX10_readsLine_67 : decode cX10_readsLine 67 = .ok (.getfield 158, 3) := by decide +kernel
theorem dX10_readsLine_70 : decode cX10_readsLine 70 = .ok (.iconst 1, 1) := by decide +kernel
theorem dX10_readsLine_71 : decode cX10_readsLine 71 = .ok (.iadd, 1) := by decide +kernel
theorem dX10_readsLine_72 : decode cX10_readsLine 72 = .ok (.putfield 158, 3) := by decide +kernel
theorem dX10_readsLine_75 : decode cX10_readsLine 75 = .ok (.aload_n 0, 1) := by decide +kernel
theorem dX10_readsLine_76 : decode cX10_readsLine 76 = .ok (.invokevirtual 164, 3) := by decide +kernel
theorem dX10_readsLine_79 : decode cX10_readsLine 79 = .ok (.bipush 97, 2) := by decide +kernel
theorem dX10_readsLine_81 : decode cX10_readsLine 81 = .ok (.isub, 1) := by decide +kernel
theorem dX10_readsLine_82 : decode cX10_readsLine 82 = .ok (.istore_n 2, 1) := by decide +kernel
theorem dX10_readsLine_83 : decode cX10_readsLine 83 = .ok (.iload_n 2, 1) := by decide +kernel
theorem dX10_readsLine_84 : decode cX10_readsLine 84 = .ok (.iconst 0, 1) := by decide +kernel
theorem dX10_readsLine_85 : decode cX10_readsLine 85 = .ok (.bipush 11, 2) := by decide +kernel
theorem dX10_readsLine_87 : decode cX10_readsLine 87 = .ok (.invokestatic 134, 3) := by decide +kernel
theorem dX10_readsLine_90 : decode cX10_readsLine 90 = .ok (.ifCond .ne 13, 3) := by decide +kernel
theorem dX10_readsLine_93 : decode cX10_readsLine 93 = .ok (.aload_n 0, 1) := by decide +kernel
theorem dX10_readsLine_94 : decode cX10_readsLine 94 = .ok (.iconst 1, 1) := by decide +kernel
theorem dX10_readsLine_95 : decode cX10_readsLine 95 = .ok (.aload_n 0, 1) := by decide +kernel
theorem dX10_readsLine_96 : decode cX10_readsLine 96 = .ok (.getfield 158, 3) := by decide +kernel
theorem dX10_readsLine_99 : decode cX10_readsLine 99 = .ok (.invokevirtual 171, 3) := by decide +kernel
theorem dX10_readsLine_102 : decode cX10_readsLine 102 = .ok (.ireturn, 1) := by decide +kernel
theorem dX10_readsLine_103 : decode cX10_readsLine 103 = .ok (.aload_n 0, 1) := by decide +kernel
theorem dX10_readsLine_104 : decode cX10_readsLine 104 = .ok (.iload_n 2, 1) := by decide +kernel
theorem dX10_readsLine_105 : decode cX10_readsLine 105 = .ok (.invokevirtual 146, 3) := by decide +kernel
theorem dX10_readsLine_108 : decode cX10_readsLine 108 = .ok (.ifCond .ne 14, 3) := by decide +kernel
theorem dX10_readsLine_111 : decode cX10_readsLine 111 = .ok (.aload_n 0, 1) := by decide +kernel
theorem dX10_readsLine_112 : decode cX10_readsLine 112 = .ok (.bipush 7, 2) := by decide +kernel
theorem dX10_readsLine_114 : decode cX10_readsLine 114 = .ok (.aload_n 0, 1) := by decide +kernel
theorem dX10_readsLine_115 : decode cX10_readsLine 115 = .ok (.getfield 158, 3) := by decide +kernel
theorem dX10_readsLine_118 : decode cX10_readsLine 118 = .ok (.invokevirtual 171, 3) := by decide +kernel
theorem dX10_readsLine_121 : decode cX10_readsLine 121 = .ok (.ireturn, 1) := by decide +kernel
theorem dX10_readsLine_122 : decode cX10_readsLine 122 = .ok (.aload_n 0, 1) := by decide +kernel
theorem dX10_readsLine_123 : decode cX10_readsLine 123 = .ok (.aload_n 0, 1) := by decide +kernel
theorem dX10_readsLine_124 : decode cX10_readsLine 124 = .ok (.getfield 158, 3) := by decide +kernel
theorem dX10_readsLine_127 : decode cX10_readsLine 127 = .ok (.iconst 1, 1) := by decide +kernel
theorem dX10_readsLine_128 : decode cX10_readsLine 128 = .ok (.iadd, 1) := by decide +kernel
theorem dX10_readsLine_129 : decode cX10_readsLine 129 = .ok (.putfield 158, 3) := by decide +kernel
theorem dX10_readsLine_132 : decode cX10_readsLine 132 = .ok (.aload_n 0, 1) := by decide +kernel
theorem dX10_readsLine_133 : decode cX10_readsLine 133 = .ok (.invokevirtual 164, 3) := by decide +kernel
theorem dX10_readsLine_136 : decode cX10_readsLine 136 = .ok (.istore_n 3, 1) := by decide +kernel
theorem dX10_readsLine_137 : decode cX10_readsLine 137 = .ok (.iload_n 3, 1) := by decide +kernel
theorem dX10_readsLine_138 : decode cX10_readsLine 138 = .ok (.bipush 58, 2) := by decide +kernel
theorem dX10_readsLine_140 : decode cX10_readsLine 140 = .ok (.if_icmp .eq 25, 3) := by decide +kernel
theorem dX10_readsLine_143 : decode cX10_readsLine 143 = .ok (.iload_n 3, 1) := by decide +kernel
theorem dX10_readsLine_144 : decode cX10_readsLine 144 = .ok (.bipush 43, 2) := by decide +kernel
theorem dX10_readsLine_146 : decode cX10_readsLine 146 = .ok (.if_icmp .eq 19, 3) := by decide +kernel
theorem dX10_readsLine_149 : decode cX10_readsLine 149 = .ok (.iload_n 3, 1) := by decide +kernel
theorem dX10_readsLine_150 : decode cX10_readsLine 150 = .ok (.bipush 33, 2) := by decide +kernel
theorem dX10_readsLine_152 : decode cX10_readsLine 152 = .ok (.if_icmp .eq 13, 3) := by decide +kernel
theorem dX10_readsLine_155 : decode cX10_readsLine 155 = .ok (.aload_n 0, 1) := by decide +kernel
theorem dX10_readsLine_156 : decode cX10_readsLine 156 = .ok (.iconst 1, 1) := by decide +kernel
theorem dX10_readsLine_157 : decode cX10_readsLine 157 = .ok (.aload_n 0, 1) := by decide +kernel
theorem dX10_readsLine_158 : decode cX10_readsLine 158 = .ok (.getfield 158, 3) := by decide +kernel
theorem dX10_readsLine_161 : decode cX10_readsLine 161 = .ok (.invokevirtual 171, 3) := by decide +kernel
theorem dX10_readsLine_164 : decode cX10_readsLine 164 = .ok (.ireturn, 1) := by decide +kernel
theorem dX10_readsLine_165 : decode cX10_readsLine 165 = .ok (.aload_n 0, 1) := by decide +kernel
theorem dX10_readsLine_166 : decode cX10_readsLine 166 = .ok (.aload_n 0, 1) := by decide +kernel
theorem dX10_readsLine_167 : decode cX10_readsLine 167 = .ok (.getfield 158, 3) := by decide +kernel
theorem dX10_readsLine_170 : decode cX10_readsLine 170 = .ok (.iconst 1, 1) := by decide +kernel
theorem dX10_readsLine_171 : decode cX10_readsLine 171 = .ok (.iadd, 1) := by decide +kernel
theorem dX10_readsLine_172 : decode cX10_readsLine 172 = .ok (.putfield 158, 3) := by decide +kernel
theorem dX10_readsLine_175 : decode cX10_readsLine 175 = .ok (.aload_n 0, 1) := by decide +kernel
theorem dX10_readsLine_176 : decode cX10_readsLine 176 = .ok (.iconst 0, 1) := by decide +kernel
theorem dX10_readsLine_177 : decode cX10_readsLine 177 = .ok (.putfield 174, 3) := by decide +kernel
theorem dX10_readsLine_180 : decode cX10_readsLine 180 = .ok (.iload_n 3, 1) := by decide +kernel
theorem dX10_readsLine_181 : decode cX10_readsLine 181 = .ok (.bipush 33, 2) := by decide +kernel
theorem dX10_readsLine_183 : decode cX10_readsLine 183 = .ok (.if_icmp .eq 12, 3) := by decide +kernel
theorem dX10_readsLine_186 : decode cX10_readsLine 186 = .ok (.aload_n 0, 1) := by decide +kernel
theorem dX10_readsLine_187 : decode cX10_readsLine 187 = .ok (.invokevirtual 267, 3) := by decide +kernel
theorem dX10_readsLine_190 : decode cX10_readsLine 190 = .ok (.ifCond .ne 5, 3) := by decide +kernel
theorem dX10_readsLine_193 : decode cX10_readsLine 193 = .ok (.iconst 0, 1) := by decide +kernel
theorem dX10_readsLine_194 : decode cX10_readsLine 194 = .ok (.ireturn, 1) := by decide +kernel
theorem dX10_readsLine_195 : decode cX10_readsLine 195 = .ok (.aload_n 0, 1) := by decide +kernel
theorem dX10_readsLine_196 : decode cX10_readsLine 196 = .ok (.getfield 65, 3) := by decide +kernel
theorem dX10_readsLine_199 : decode cX10_readsLine 199 = .ok (.aload_n 0, 1) := by decide +kernel
theorem dX10_readsLine_200 : decode cX10_readsLine 200 = .ok (.getfield 261, 3) := by decide +kernel
theorem dX10_readsLine_203 : decode cX10_readsLine 203 = .ok (.iload_n 1, 1) := by decide +kernel
theorem dX10_readsLine_204 : decode cX10_readsLine 204 = .ok (.iastore, 1) := by decide +kernel
theorem dX10_readsLine_205 : decode cX10_readsLine 205 = .ok (.aload_n 0, 1) := by decide +kernel
theorem dX10_readsLine_206 : decode cX10_readsLine 206 = .ok (.getfield 68, 3) := by decide +kernel
theorem dX10_readsLine_209 : decode cX10_readsLine 209 = .ok (.aload_n 0, 1) := by decide +kernel
theorem dX10_readsLine_210 : decode cX10_readsLine 210 = .ok (.getfield 261, 3) := by decide +kernel
theorem dX10_readsLine_213 : decode cX10_readsLine 213 = .ok (.iload_n 2, 1) := by decide +kernel
theorem dX10_readsLine_214 : decode cX10_readsLine 214 = .ok (.iastore, 1) := by decide +kernel
theorem dX10_readsLine_215 : decode cX10_readsLine 215 = .ok (.aload_n 0, 1) := by decide +kernel
theorem dX10_readsLine_216 : decode cX10_readsLine 216 = .ok (.getfield 71, 3) := by decide +kernel
theorem dX10_readsLine_219 : decode cX10_readsLine 219 = .ok (.aload_n 0, 1) := by decide +kernel
theorem dX10_readsLine_220 : decode cX10_readsLine 220 = .ok (.getfield 261, 3) := by decide +kernel
theorem dX10_readsLine_223 : decode cX10_readsLine 223 = .ok (.iload_n 3, 1) := by decide +kernel
theorem dX10_readsLine_224 : decode cX10_readsLine 224 = .ok (.iastore, 1) := by decide +kernel
theorem dX10_readsLine_225 : decode cX10_readsLine 225 = .ok (.aload_n 0, 1) := by decide +kernel
theorem dX10_readsLine_226 : decode cX10_readsLine 226 = .ok (.getfield 74, 3) := by decide +kernel
theorem dX10_readsLine_229 : decode cX10_readsLine 229 = .ok (.aload_n 0, 1) := by decide +kernel
theorem dX10_readsLine_230 : decode cX10_readsLine 230 = .ok (.getfield 261, 3) := by decide +kernel
theorem dX10_readsLine_233 : decode cX10_readsLine 233 = .ok (.aload_n 0, 1) := by decide +kernel
theorem dX10_readsLine_234 : decode cX10_readsLine 234 = .ok (.getfield 174, 3) := by decide +kernel
theorem dX10_readsLine_237 : decode cX10_readsLine 237 = .ok (.iastore, 1) := by decide +kernel
theorem dX10_readsLine_238 : decode cX10_readsLine 238 = .ok (.aload_n 0, 1) := by decide +kernel
theorem dX10_readsLine_239 : decode cX10_readsLine 239 = .ok (.aload_n 0, 1) := by decide +kernel
theorem dX10_readsLine_240 : decode cX10_readsLine 240 = .ok (.getfield 261, 3) := by decide +kernel
theorem dX10_readsLine_243 : decode cX10_readsLine 243 = .ok (.iconst 1, 1) := by decide +kernel
theorem dX10_readsLine_244 : decode cX10_readsLine 244 = .ok (.iadd, 1) := by decide +kernel
theorem dX10_readsLine_245 : decode cX10_readsLine 245 = .ok (.putfield 261, 3) := by decide +kernel
theorem dX10_readsLine_248 : decode cX10_readsLine 248 = .ok (.iconst 1, 1) := by decide +kernel
theorem dX10_readsLine_249 : decode cX10_readsLine 249 = .ok (.ireturn, 1) := by decide +kernel
theorem dX10_gives_0 : decode cX10_gives 0 = .ok (.iconst 2, 1) := by decide +kernel
theorem dX10_gives_1 : decode cX10_gives 1 = .ok (.iload_n 3, 1) := by decide +kernel
theorem dX10_gives_2 : decode cX10_gives 2 = .ok (.imul, 1) := by decide +kernel
theorem dX10_gives_3 : decode cX10_gives 3 = .ok (.iconst 2, 1) := by decide +kernel
theorem dX10_gives_4 : decode cX10_gives 4 = .ok (.iadd, 1) := by decide +kernel
theorem dX10_gives_5 : decode cX10_gives 5 = .ok (.iconst 3, 1) := by decide +kernel
theorem dX10_gives_6 : decode cX10_gives 6 = .ok (.idiv, 1) := by decide +kernel
theorem dX10_gives_7 : decode cX10_gives 7 = .ok (.istore 4, 2) := by decide +kernel
theorem dX10_gives_9 : decode cX10_gives 9 = .ok (.aload_n 0, 1) := by decide +kernel
theorem dX10_gives_10 : decode cX10_gives 10 = .ok (.getfield 7, 3) := by decide +kernel
theorem dX10_gives_13 : decode cX10_gives 13 = .ok (.sipush 138, 3) := by decide +kernel
theorem dX10_gives_16 : decode cX10_gives 16 = .ok (.iload_n 1, 1) := by decide +kernel
theorem dX10_gives_17 : decode cX10_gives 17 = .ok (.iadd, 1) := by decide +kernel
theorem dX10_gives_18 : decode cX10_gives 18 = .ok (.ldc_w 270, 3) := by decide +kernel
theorem dX10_gives_21 : decode cX10_gives 21 = .ok (.aload_n 0, 1) := by decide +kernel
theorem dX10_gives_22 : decode cX10_gives 22 = .ok (.getfield 7, 3) := by decide +kernel
theorem dX10_gives_25 : decode cX10_gives 25 = .ok (.sipush 138, 3) := by decide +kernel
theorem dX10_gives_28 : decode cX10_gives 28 = .ok (.iload_n 1, 1) := by decide +kernel
theorem dX10_gives_29 : decode cX10_gives 29 = .ok (.iadd, 1) := by decide +kernel
theorem dX10_gives_30 : decode cX10_gives 30 = .ok (.iaload, 1) := by decide +kernel
theorem dX10_gives_31 : decode cX10_gives 31 = .ok (.iload 4, 2) := by decide +kernel
theorem dX10_gives_33 : decode cX10_gives 33 = .ok (.iadd, 1) := by decide +kernel
theorem dX10_gives_34 : decode cX10_gives 34 = .ok (.invokestatic 271, 3) := by decide +kernel
theorem dX10_gives_37 : decode cX10_gives 37 = .ok (.iastore, 1) := by decide +kernel
theorem dX10_gives_38 : decode cX10_gives 38 = .ok (.aload_n 0, 1) := by decide +kernel
theorem dX10_gives_39 : decode cX10_gives 39 = .ok (.getfield 7, 3) := by decide +kernel
theorem dX10_gives_42 : decode cX10_gives 42 = .ok (.sipush 149, 3) := by decide +kernel
theorem dX10_gives_45 : decode cX10_gives 45 = .ok (.ldc_w 270, 3) := by decide +kernel
theorem dX10_gives_48 : decode cX10_gives 48 = .ok (.aload_n 0, 1) := by decide +kernel
theorem dX10_gives_49 : decode cX10_gives 49 = .ok (.getfield 7, 3) := by decide +kernel
theorem dX10_gives_52 : decode cX10_gives 52 = .ok (.sipush 149, 3) := by decide +kernel
theorem dX10_gives_55 : decode cX10_gives 55 = .ok (.iaload, 1) := by decide +kernel
theorem dX10_gives_56 : decode cX10_gives 56 = .ok (.iload_n 3, 1) := by decide +kernel
theorem dX10_gives_57 : decode cX10_gives 57 = .ok (.iadd, 1) := by decide +kernel
theorem dX10_gives_58 : decode cX10_gives 58 = .ok (.iload 4, 2) := by decide +kernel
theorem dX10_gives_60 : decode cX10_gives 60 = .ok (.isub, 1) := by decide +kernel
theorem dX10_gives_61 : decode cX10_gives 61 = .ok (.invokestatic 271, 3) := by decide +kernel
theorem dX10_gives_64 : decode cX10_gives 64 = .ok (.iastore, 1) := by decide +kernel
theorem dX10_gives_65 : decode cX10_gives 65 = .ok (.aload_n 0, 1) := by decide +kernel
theorem dX10_gives_66 : decode cX10_gives 66 = .ok (.getfield 7, 3) := by decide +kernel
theorem dX10_gives_69 : decode cX10_gives 69 = .ok (.bipush 84, 2) := by decide +kernel
theorem dX10_gives_71 : decode cX10_gives 71 = .ok (.iload_n 1, 1) := by decide +kernel
theorem dX10_gives_72 : decode cX10_gives 72 = .ok (.iadd, 1) := by decide +kernel
theorem dX10_gives_73 : decode cX10_gives 73 = .ok (.aload_n 0, 1) := by decide +kernel
theorem dX10_gives_74 : decode cX10_gives 74 = .ok (.getfield 7, 3) := by decide +kernel
theorem dX10_gives_77 : decode cX10_gives 77 = .ok (.bipush 84, 2) := by decide +kernel
theorem dX10_gives_79 : decode cX10_gives 79 = .ok (.iload_n 1, 1) := by decide +kernel
theorem dX10_gives_80 : decode cX10_gives 80 = .ok (.iadd, 1) := by decide +kernel
theorem dX10_gives_81 : decode cX10_gives 81 = .ok (.iaload, 1) := by decide +kernel
theorem dX10_gives_82 : decode cX10_gives 82 = .ok (.iconst 1, 1) := by decide +kernel
theorem dX10_gives_83 : decode cX10_gives 83 = .ok (.iload_n 2, 1) := by decide +kernel
theorem dX10_gives_84 : decode cX10_gives 84 = .ok (.ishl, 1) := by decide +kernel
theorem dX10_gives_85 : decode cX10_gives 85 = .ok (.ior, 1) := by decide +kernel
theorem dX10_gives_86 : decode cX10_gives 86 = .ok (.iastore, 1) := by decide +kernel
theorem dX10_gives_87 : decode cX10_gives 87 = .ok (.return_, 1) := by decide +kernel
theorem dX10_doesLine_0 : decode cX10_doesLine 0 = .ok (.aload_n 0, 1) := by decide +kernel
theorem dX10_doesLine_1 : decode cX10_doesLine 1 = .ok (.getfield 65, 3) := by decide +kernel
theorem dX10_doesLine_4 : decode cX10_doesLine 4 = .ok (.iload_n 1, 1) := by decide +kernel
theorem dX10_doesLine_5 : decode cX10_doesLine 5 = .ok (.iaload, 1) := by decide +kernel
theorem dX10_doesLine_6 : decode cX10_doesLine 6 = .ok (.istore_n 2, 1) := by decide +kernel
theorem dX10_doesLine_7 : decode cX10_doesLine 7 = .ok (.aload_n 0, 1) := by decide +kernel
theorem dX10_doesLine_8 : decode cX10_doesLine 8 = .ok (.getfield 68, 3) := by decide +kernel
theorem dX10_doesLine_11 : decode cX10_doesLine 11 = .ok (.iload_n 1, 1) := by decide +kernel
theorem dX10_doesLine_12 : decode cX10_doesLine 12 = .ok (.iaload, 1) := by decide +kernel
theorem dX10_doesLine_13 : decode cX10_doesLine 13 = .ok (.istore_n 3, 1) := by decide +kernel
theorem dX10_doesLine_14 : decode cX10_doesLine 14 = .ok (.aload_n 0, 1) := by decide +kernel
theorem dX10_doesLine_15 : decode cX10_doesLine 15 = .ok (.getfield 71, 3) := by decide +kernel
theorem dX10_doesLine_18 : decode cX10_doesLine 18 = .ok (.iload_n 1, 1) := by decide +kernel
theorem dX10_doesLine_19 : decode cX10_doesLine 19 = .ok (.iaload, 1) := by decide +kernel
theorem dX10_doesLine_20 : decode cX10_doesLine 20 = .ok (.bipush 58, 2) := by decide +kernel
theorem dX10_doesLine_22 : decode cX10_doesLine 22 = .ok (.if_icmp .ne 22, 3) := by decide +kernel
theorem dX10_doesLine_25 : decode cX10_doesLine 25 = .ok (.aload_n 0, 1) := by decide +kernel
theorem dX10_doesLine_26 : decode cX10_doesLine 26 = .ok (.getfield 7, 3) := by decide +kernel
theorem dX10_doesLine_29 : decode cX10_doesLine 29 = .ok (.iload_n 2, 1) := by decide +kernel
theorem dX10_doesLine_30 : decode cX10_doesLine 30 = .ok (.iload_n 3, 1) := by decide +kernel
theorem dX10_doesLine_31 : decode cX10_doesLine 31 = .ok (.invokestatic 142, 3) := by decide +kernel
theorem dX10_doesLine_34 : decode cX10_doesLine 34 = .ok (.aload_n 0, 1) := by decide +kernel
theorem dX10_doesLine_35 : decode cX10_doesLine 35 = .ok (.getfield 74, 3) := by decide +kernel
theorem dX10_doesLine_38 : decode cX10_doesLine 38 = .ok (.iload_n 1, 1) := by decide +kernel
theorem dX10_doesLine_39 : decode cX10_doesLine 39 = .ok (.iaload, 1) := by decide +kernel
theorem dX10_doesLine_40 : decode cX10_doesLine 40 = .ok (.iastore, 1) := by decide +kernel
theorem dX10_doesLine_41 : decode cX10_doesLine 41 = .ok (.goto 64, 3) := by decide +kernel
theorem dX10_doesLine_44 : decode cX10_doesLine 44 = .ok (.aload_n 0, 1) := by decide +kernel
theorem dX10_doesLine_45 : decode cX10_doesLine 45 = .ok (.getfield 71, 3) := by decide +kernel
theorem dX10_doesLine_48 : decode cX10_doesLine 48 = .ok (.iload_n 1, 1) := by decide +kernel
theorem dX10_doesLine_49 : decode cX10_doesLine 49 = .ok (.iaload, 1) := by decide +kernel
theorem dX10_doesLine_50 : decode cX10_doesLine 50 = .ok (.bipush 43, 2) := by decide +kernel
theorem dX10_doesLine_52 : decode cX10_doesLine 52 = .ok (.if_icmp .ne 18, 3) := by decide +kernel
theorem dX10_doesLine_55 : decode cX10_doesLine 55 = .ok (.aload_n 0, 1) := by decide +kernel
theorem dX10_doesLine_56 : decode cX10_doesLine 56 = .ok (.iload_n 2, 1) := by decide +kernel
theorem dX10_doesLine_57 : decode cX10_doesLine 57 = .ok (.iload_n 3, 1) := by decide +kernel
theorem dX10_doesLine_58 : decode cX10_doesLine 58 = .ok (.aload_n 0, 1) := by decide +kernel
theorem dX10_doesLine_59 : decode cX10_doesLine 59 = .ok (.getfield 74, 3) := by decide +kernel
theorem dX10_doesLine_62 : decode cX10_doesLine 62 = .ok (.iload_n 1, 1) := by decide +kernel
theorem dX10_doesLine_63 : decode cX10_doesLine 63 = .ok (.iaload, 1) := by decide +kernel
theorem dX10_doesLine_64 : decode cX10_doesLine 64 = .ok (.invokevirtual 274, 3) := by decide +kernel
theorem dX10_doesLine_67 : decode cX10_doesLine 67 = .ok (.goto 38, 3) := by decide +kernel
theorem dX10_doesLine_70 : decode cX10_doesLine 70 = .ok (.aload_n 0, 1) := by decide +kernel
theorem dX10_doesLine_71 : decode cX10_doesLine 71 = .ok (.getfield 7, 3) := by decide +kernel
theorem dX10_doesLine_74 : decode cX10_doesLine 74 = .ok (.iload_n 2, 1) := by decide +kernel
theorem dX10_doesLine_75 : decode cX10_doesLine 75 = .ok (.iload_n 3, 1) := by decide +kernel
theorem dX10_doesLine_76 : decode cX10_doesLine 76 = .ok (.invokestatic 142, 3) := by decide +kernel
theorem dX10_doesLine_79 : decode cX10_doesLine 79 = .ok (.iconst (-1), 1) := by decide +kernel
theorem dX10_doesLine_80 : decode cX10_doesLine 80 = .ok (.iastore, 1) := by decide +kernel
theorem dX10_doesLine_81 : decode cX10_doesLine 81 = .ok (.aload_n 0, 1) := by decide +kernel
theorem dX10_doesLine_82 : decode cX10_doesLine 82 = .ok (.getfield 7, 3) := by decide +kernel
theorem dX10_doesLine_85 : decode cX10_doesLine 85 = .ok (.bipush 84, 2) := by decide +kernel
theorem dX10_doesLine_87 : decode cX10_doesLine 87 = .ok (.iload_n 2, 1) := by decide +kernel
theorem dX10_doesLine_88 : decode cX10_doesLine 88 = .ok (.iadd, 1) := by decide +kernel
theorem dX10_doesLine_89 : decode cX10_doesLine 89 = .ok (.aload_n 0, 1) := by decide +kernel
theorem dX10_doesLine_90 : decode cX10_doesLine 90 = .ok (.getfield 7, 3) := by decide +kernel
theorem dX10_doesLine_93 : decode cX10_doesLine 93 = .ok (.bipush 84, 2) := by decide +kernel
theorem dX10_doesLine_95 : decode cX10_doesLine 95 = .ok (.iload_n 2, 1) := by decide +kernel
theorem dX10_doesLine_96 : decode cX10_doesLine 96 = .ok (.iadd, 1) := by decide +kernel
theorem dX10_doesLine_97 : decode cX10_doesLine 97 = .ok (.iaload, 1) := by decide +kernel
theorem dX10_doesLine_98 : decode cX10_doesLine 98 = .ok (.iconst 1, 1) := by decide +kernel
theorem dX10_doesLine_99 : decode cX10_doesLine 99 = .ok (.iload_n 3, 1) := by decide +kernel
theorem dX10_doesLine_100 : decode cX10_doesLine 100 = .ok (.ishl, 1) := by decide +kernel
theorem dX10_doesLine_101 : decode cX10_doesLine 101 = .ok (.iconst (-1), 1) := by decide +kernel
theorem dX10_doesLine_102 : decode cX10_doesLine 102 = .ok (.ixor, 1) := by decide +kernel
theorem dX10_doesLine_103 : decode cX10_doesLine 103 = .ok (.iand, 1) := by decide +kernel
theorem dX10_doesLine_104 : decode cX10_doesLine 104 = .ok (.iastore, 1) := by decide +kernel
theorem dX10_doesLine_105 : decode cX10_doesLine 105 = .ok (.return_, 1) := by decide +kernel
theorem dX10_report_0 : decode cX10_report 0 = .ok (.iload_n 1, 1) := by decide +kernel
theorem dX10_report_1 : decode cX10_report 1 = .ok (.iconst 1, 1) := by decide +kernel
theorem dX10_report_2 : decode cX10_report 2 = .ok (.bipush 120, 2) := by decide +kernel
theorem dX10_report_4 : decode cX10_report 4 = .ok (.invokestatic 134, 3) := by decide +kernel
theorem dX10_report_7 : decode cX10_report 7 = .ok (.ifCond .eq 11, 3) := by decide +kernel
theorem dX10_report_10 : decode cX10_report 10 = .ok (.iload_n 1, 1) := by decide +kernel
theorem dX10_report_11 : decode cX10_report 11 = .ok (.aload_n 0, 1) := by decide +kernel
theorem dX10_report_12 : decode cX10_report 12 = .ok (.getfield 150, 3) := by decide +kernel
theorem dX10_report_15 : decode cX10_report 15 = .ok (.if_icmp .le 5, 3) := by decide +kernel
theorem dX10_report_18 : decode cX10_report 18 = .ok (.iconst (-1), 1) := by decide +kernel
theorem dX10_report_19 : decode cX10_report 19 = .ok (.ireturn, 1) := by decide +kernel
theorem dX10_report_20 : decode cX10_report 20 = .ok (.aload_n 0, 1) := by decide +kernel
theorem dX10_report_21 : decode cX10_report 21 = .ok (.iload_n 1, 1) := by decide +kernel
theorem dX10_report_22 : decode cX10_report 22 = .ok (.invokevirtual 242, 3) := by decide +kernel
theorem dX10_report_25 : decode cX10_report 25 = .ok (.aload_n 0, 1) := by decide +kernel
theorem dX10_report_26 : decode cX10_report 26 = .ok (.iconst 0, 1) := by decide +kernel
theorem dX10_report_27 : decode cX10_report 27 = .ok (.putfield 261, 3) := by decide +kernel
theorem dX10_report_30 : decode cX10_report 30 = .ok (.aload_n 0, 1) := by decide +kernel
theorem dX10_report_31 : decode cX10_report 31 = .ok (.invokevirtual 278, 3) := by decide +kernel
theorem dX10_report_34 : decode cX10_report 34 = .ok (.istore_n 2, 1) := by decide +kernel
theorem dX10_report_35 : decode cX10_report 35 = .ok (.iload_n 2, 1) := by decide +kernel
theorem dX10_report_36 : decode cX10_report 36 = .ok (.ifCond .eq 39, 3) := by decide +kernel
theorem dX10_report_39 : decode cX10_report 39 = .ok (.aload_n 0, 1) := by decide +kernel
theorem dX10_report_40 : decode cX10_report 40 = .ok (.getfield 158, 3) := by decide +kernel
theorem dX10_report_43 : decode cX10_report 43 = .ok (.aload_n 0, 1) := by decide +kernel
theorem dX10_report_44 : decode cX10_report 44 = .ok (.getfield 161, 3) := by decide +kernel
theorem dX10_report_47 : decode cX10_report 47 = .ok (.if_icmp .ge 28, 3) := by decide +kernel
theorem dX10_report_50 : decode cX10_report 50 = .ok (.aload_n 0, 1) := by decide +kernel
theorem dX10_report_51 : decode cX10_report 51 = .ok (.bipush 59, 2) := by decide +kernel
theorem dX10_report_53 : decode cX10_report 53 = .ok (.invokevirtual 248, 3) := by decide +kernel
theorem dX10_report_56 : decode cX10_report 56 = .ok (.ifCond .eq 14, 3) := by decide +kernel
theorem dX10_report_59 : decode cX10_report 59 = .ok (.aload_n 0, 1) := by decide +kernel
theorem dX10_report_60 : decode cX10_report 60 = .ok (.invokevirtual 278, 3) := by decide +kernel
theorem dX10_report_63 : decode cX10_report 63 = .ok (.ifCond .eq 7, 3) := by decide +kernel
theorem dX10_report_66 : decode cX10_report 66 = .ok (.iconst 1, 1) := by decide +kernel
theorem dX10_report_67 : decode cX10_report 67 = .ok (.goto 4, 3) := by decide +kernel
theorem dX10_report_70 : decode cX10_report 70 = .ok (.iconst 0, 1) := by decide +kernel
theorem dX10_report_71 : decode cX10_report 71 = .ok (.istore_n 2, 1) := by decide +kernel
theorem dX10_report_72 : decode cX10_report 72 = .ok (.goto (-37), 3) := by decide +kernel
theorem dX10_report_75 : decode cX10_report 75 = .ok (.aload_n 0, 1) := by decide +kernel
theorem dX10_report_76 : decode cX10_report 76 = .ok (.iconst 0, 1) := by decide +kernel
theorem dX10_report_77 : decode cX10_report 77 = .ok (.putfield 150, 3) := by decide +kernel
theorem dX10_report_80 : decode cX10_report 80 = .ok (.iload_n 2, 1) := by decide +kernel
theorem dX10_report_81 : decode cX10_report 81 = .ok (.ifCond .ne 8, 3) := by decide +kernel
theorem dX10_report_84 : decode cX10_report 84 = .ok (.aload_n 0, 1) := by decide +kernel
theorem dX10_report_85 : decode cX10_report 85 = .ok (.getfield 168, 3) := by decide +kernel
theorem dX10_report_88 : decode cX10_report 88 = .ok (.ireturn, 1) := by decide +kernel
theorem dX10_report_89 : decode cX10_report 89 = .ok (.iconst 0, 1) := by decide +kernel
theorem dX10_report_90 : decode cX10_report 90 = .ok (.istore_n 3, 1) := by decide +kernel
theorem dX10_report_91 : decode cX10_report 91 = .ok (.iload_n 3, 1) := by decide +kernel
theorem dX10_report_92 : decode cX10_report 92 = .ok (.aload_n 0, 1) := by decide +kernel
theorem dX10_report_93 : decode cX10_report 93 = .ok (.getfield 261, 3) := by decide +kernel
theorem dX10_report_96 : decode cX10_report 96 = .ok (.if_icmp .ge 14, 3) := by decide +kernel
theorem dX10_report_99 : decode cX10_report 99 = .ok (.aload_n 0, 1) := by decide +kernel
theorem dX10_report_100 : decode cX10_report 100 = .ok (.iload_n 3, 1) := by decide +kernel
theorem dX10_report_101 : decode cX10_report 101 = .ok (.invokevirtual 281, 3) := by decide +kernel
theorem dX10_report_104 : decode cX10_report 104 = .ok (.iinc 3 1, 3) := by decide +kernel
theorem dX10_report_107 : decode cX10_report 107 = .ok (.goto (-16), 3) := by decide +kernel
theorem dX10_report_110 : decode cX10_report 110 = .ok (.aload_n 0, 1) := by decide +kernel
theorem dX10_report_111 : decode cX10_report 111 = .ok (.getfield 261, 3) := by decide +kernel
theorem dX10_report_114 : decode cX10_report 114 = .ok (.ireturn, 1) := by decide +kernel
theorem dX10_hearsFrom_0 : decode cX10_hearsFrom 0 = .ok (.iconst (-1), 1) := by decide +kernel
theorem dX10_hearsFrom_1 : decode cX10_hearsFrom 1 = .ok (.istore 4, 2) := by decide +kernel
theorem dX10_hearsFrom_3 : decode cX10_hearsFrom 3 = .ok (.iconst 0, 1) := by decide +kernel
theorem dX10_hearsFrom_4 : decode cX10_hearsFrom 4 = .ok (.istore 5, 2) := by decide +kernel
theorem dX10_hearsFrom_6 : decode cX10_hearsFrom 6 = .ok (.iload 5, 2) := by decide +kernel
theorem dX10_hearsFrom_8 : decode cX10_hearsFrom 8 = .ok (.bipush 12, 2) := by decide +kernel
theorem dX10_hearsFrom_10 : decode cX10_hearsFrom 10 = .ok (.if_icmp .ge 102, 3) := by decide +kernel
theorem dX10_hearsFrom_13 : decode cX10_hearsFrom 13 = .ok (.aload_n 0, 1) := by decide +kernel
theorem dX10_hearsFrom_14 : decode cX10_hearsFrom 14 = .ok (.getfield 19, 3) := by decide +kernel
theorem dX10_hearsFrom_17 : decode cX10_hearsFrom 17 = .ok (.bipush 12, 2) := by decide +kernel
theorem dX10_hearsFrom_19 : decode cX10_hearsFrom 19 = .ok (.iload 5, 2) := by decide +kernel
theorem dX10_hearsFrom_21 : decode cX10_hearsFrom 21 = .ok (.imul, 1) := by decide +kernel
theorem dX10_hearsFrom_22 : decode cX10_hearsFrom 22 = .ok (.iload_n 2, 1) := by decide +kernel
theorem dX10_hearsFrom_23 : decode cX10_hearsFrom 23 = .ok (.iadd, 1) := by decide +kernel
theorem dX10_hearsFrom_24 : decode cX10_hearsFrom 24 = .ok (.iaload, 1) := by decide +kernel
theorem dX10_hearsFrom_25 : decode cX10_hearsFrom 25 = .ok (.istore 6, 2) := by decide +kernel
theorem dX10_hearsFrom_27 : decode cX10_hearsFrom 27 = .ok (.iload 6, 2) := by decide +kernel
theorem dX10_hearsFrom_29 : decode cX10_hearsFrom 29 = .ok (.ifCond .eq 77, 3) := by decide +kernel
theorem dX10_hearsFrom_32 : decode cX10_hearsFrom 32 = .ok (.aload_n 0, 1) := by decide +kernel
theorem dX10_hearsFrom_33 : decode cX10_hearsFrom 33 = .ok (.iload_n 1, 1) := by decide +kernel
theorem dX10_hearsFrom_34 : decode cX10_hearsFrom 34 = .ok (.iload 5, 2) := by decide +kernel
theorem dX10_hearsFrom_36 : decode cX10_hearsFrom 36 = .ok (.invokevirtual 284, 3) := by decide +kernel
theorem dX10_hearsFrom_39 : decode cX10_hearsFrom 39 = .ok (.ifCond .eq 67, 3) := by decide +kernel
theorem dX10_hearsFrom_42 : decode cX10_hearsFrom 42 = .ok (.iload 4, 2) := by decide +kernel
theorem dX10_hearsFrom_44 : decode cX10_hearsFrom 44 = .ok (.iconst (-1), 1) := by decide +kernel
theorem dX10_hearsFrom_45 : decode cX10_hearsFrom 45 = .ok (.if_icmp .eq 23, 3) := by decide +kernel
theorem dX10_hearsFrom_48 : decode cX10_hearsFrom 48 = .ok (.iload 6, 2) := by decide +kernel
theorem dX10_hearsFrom_50 : decode cX10_hearsFrom 50 = .ok (.aload_n 0, 1) := by decide +kernel
theorem dX10_hearsFrom_51 : decode cX10_hearsFrom 51 = .ok (.getfield 19, 3) := by decide +kernel
theorem dX10_hearsFrom_54 : decode cX10_hearsFrom 54 = .ok (.bipush 12, 2) := by decide +kernel
theorem dX10_hearsFrom_56 : decode cX10_hearsFrom 56 = .ok (.iload 4, 2) := by decide +kernel
theorem dX10_hearsFrom_58 : decode cX10_hearsFrom 58 = .ok (.imul, 1) := by decide +kernel
theorem dX10_hearsFrom_59 : decode cX10_hearsFrom 59 = .ok (.iload_n 2, 1) := by decide +kernel
theorem dX10_hearsFrom_60 : decode cX10_hearsFrom 60 = .ok (.iadd, 1) := by decide +kernel
theorem dX10_hearsFrom_61 : decode cX10_hearsFrom 61 = .ok (.iaload, 1) := by decide +kernel
theorem dX10_hearsFrom_62 : decode cX10_hearsFrom 62 = .ok (.if_icmp .lt 6, 3) := by decide +kernel
theorem dX10_hearsFrom_65 : decode cX10_hearsFrom 65 = .ok (.goto 41, 3) := by decide +kernel
theorem dX10_hearsFrom_68 : decode cX10_hearsFrom 68 = .ok (.aload_n 0, 1) := by decide +kernel
theorem dX10_hearsFrom_69 : decode cX10_hearsFrom 69 = .ok (.iload_n 2, 1) := by decide +kernel
theorem dX10_hearsFrom_70 : decode cX10_hearsFrom 70 = .ok (.iload_n 1, 1) := by decide +kernel
theorem dX10_hearsFrom_71 : decode cX10_hearsFrom 71 = .ok (.aload_n 0, 1) := by decide +kernel
theorem dX10_hearsFrom_72 : decode cX10_hearsFrom 72 = .ok (.getfield 7, 3) := by decide +kernel
theorem dX10_hearsFrom_75 : decode cX10_hearsFrom 75 = .ok (.iload_n 1, 1) := by decide +kernel
theorem dX10_hearsFrom_76 : decode cX10_hearsFrom 76 = .ok (.iload 5, 2) := by decide +kernel
theorem dX10_hearsFrom_78 : decode cX10_hearsFrom 78 = .ok (.invokestatic 142, 3) := by decide +kernel
theorem dX10_hearsFrom_81 : decode cX10_hearsFrom 81 = .ok (.iaload, 1) := by decide +kernel
theorem dX10_hearsFrom_82 : decode cX10_hearsFrom 82 = .ok (.iload 6, 2) := by decide +kernel
theorem dX10_hearsFrom_84 : decode cX10_hearsFrom 84 = .ok (.aload_n 0, 1) := by decide +kernel
theorem dX10_hearsFrom_85 : decode cX10_hearsFrom 85 = .ok (.iload_n 2, 1) := by decide +kernel
theorem dX10_hearsFrom_86 : decode cX10_hearsFrom 86 = .ok (.invokevirtual 287, 3) := by decide +kernel
theorem dX10_hearsFrom_89 : decode cX10_hearsFrom 89 = .ok (.iload_n 3, 1) := by decide +kernel
theorem dX10_hearsFrom_90 : decode cX10_hearsFrom 90 = .ok (.invokevirtual 290, 3) := by decide +kernel
theorem dX10_hearsFrom_93 : decode cX10_hearsFrom 93 = .ok (.aload_n 0, 1) := by decide +kernel
theorem dX10_hearsFrom_94 : decode cX10_hearsFrom 94 = .ok (.bipush 120, 2) := by decide +kernel
theorem dX10_hearsFrom_96 : decode cX10_hearsFrom 96 = .ok (.invokevirtual 294, 3) := by decide +kernel
theorem dX10_hearsFrom_99 : decode cX10_hearsFrom 99 = .ok (.ifCond .ne 7, 3) := by decide +kernel
theorem dX10_hearsFrom_102 : decode cX10_hearsFrom 102 = .ok (.iload 5, 2) := by decide +kernel
theorem dX10_hearsFrom_104 : decode cX10_hearsFrom 104 = .ok (.istore 4, 2) := by decide +kernel
theorem dX10_hearsFrom_106 : decode cX10_hearsFrom 106 = .ok (.iinc 5 1, 3) := by decide +kernel
theorem dX10_hearsFrom_109 : decode cX10_hearsFrom 109 = .ok (.goto (-103), 3) := by decide +kernel
theorem dX10_hearsFrom_112 : decode cX10_hearsFrom 112 = .ok (.iload 4, 2) := by decide +kernel
theorem dX10_hearsFrom_114 : decode cX10_hearsFrom 114 = .ok (.ireturn, 1) := by decide +kernel
theorem dX10_goesOn_0 : decode cX10_goesOn 0 = .ok (.iconst 0, 1) := by decide +kernel
theorem dX10_goesOn_1 : decode cX10_goesOn 1 = .ok (.istore_n 3, 1) := by decide +kernel
theorem dX10_goesOn_2 : decode cX10_goesOn 2 = .ok (.iconst 0, 1) := by decide +kernel
theorem dX10_goesOn_3 : decode cX10_goesOn 3 = .ok (.istore 4, 2) := by decide +kernel
theorem dX10_goesOn_5 : decode cX10_goesOn 5 = .ok (.iload 4, 2) := by decide +kernel
theorem dX10_goesOn_7 : decode cX10_goesOn 7 = .ok (.bipush 12, 2) := by decide +kernel
theorem dX10_goesOn_9 : decode cX10_goesOn 9 = .ok (.if_icmp .ge 132, 3) := by decide +kernel
theorem dX10_goesOn_12 : decode cX10_goesOn 12 = .ok (.aload_n 0, 1) := by decide +kernel
theorem dX10_goesOn_13 : decode cX10_goesOn 13 = .ok (.getfield 77, 3) := by decide +kernel
theorem dX10_goesOn_16 : decode cX10_goesOn 16 = .ok (.iload 4, 2) := by decide +kernel
theorem dX10_goesOn_18 : decode cX10_goesOn 18 = .ok (.iconst (-1), 1) := by decide +kernel
theorem dX10_goesOn_19 : decode cX10_goesOn 19 = .ok (.iastore, 1) := by decide +kernel
theorem dX10_goesOn_20 : decode cX10_goesOn 20 = .ok (.aload_n 0, 1) := by decide +kernel
theorem dX10_goesOn_21 : decode cX10_goesOn 21 = .ok (.iload 4, 2) := by decide +kernel
theorem dX10_goesOn_23 : decode cX10_goesOn 23 = .ok (.invokevirtual 146, 3) := by decide +kernel
theorem dX10_goesOn_26 : decode cX10_goesOn 26 = .ok (.ifCond .eq 109, 3) := by decide +kernel
theorem dX10_goesOn_29 : decode cX10_goesOn 29 = .ok (.aload_n 0, 1) := by decide +kernel
theorem dX10_goesOn_30 : decode cX10_goesOn 30 = .ok (.iload_n 1, 1) := by decide +kernel
theorem dX10_goesOn_31 : decode cX10_goesOn 31 = .ok (.iload 4, 2) := by decide +kernel
theorem dX10_goesOn_33 : decode cX10_goesOn 33 = .ok (.invokevirtual 284, 3) := by decide +kernel
theorem dX10_goesOn_36 : decode cX10_goesOn 36 = .ok (.ifCond .eq 6, 3) := by decide +kernel
theorem dX10_goesOn_39 : decode cX10_goesOn 39 = .ok (.goto 96, 3) := by decide +kernel
theorem dX10_goesOn_42 : decode cX10_goesOn 42 = .ok (.aload_n 0, 1) := by decide +kernel
theorem dX10_goesOn_43 : decode cX10_goesOn 43 = .ok (.iload_n 1, 1) := by decide +kernel
theorem dX10_goesOn_44 : decode cX10_goesOn 44 = .ok (.iload 4, 2) := by decide +kernel
theorem dX10_goesOn_46 : decode cX10_goesOn 46 = .ok (.iload_n 2, 1) := by decide +kernel
theorem dX10_goesOn_47 : decode cX10_goesOn 47 = .ok (.invokevirtual 297, 3) := by decide +kernel
theorem dX10_goesOn_50 : decode cX10_goesOn 50 = .ok (.istore 5, 2) := by decide +kernel
theorem dX10_goesOn_52 : decode cX10_goesOn 52 = .ok (.iload 5, 2) := by decide +kernel
theorem dX10_goesOn_54 : decode cX10_goesOn 54 = .ok (.iconst (-1), 1) := by decide +kernel
theorem dX10_goesOn_55 : decode cX10_goesOn 55 = .ok (.if_icmp .ne 6, 3) := by decide +kernel
theorem dX10_goesOn_58 : decode cX10_goesOn 58 = .ok (.goto 77, 3) := by decide +kernel
theorem dX10_goesOn_61 : decode cX10_goesOn 61 = .ok (.aload_n 0, 1) := by decide +kernel
theorem dX10_goesOn_62 : decode cX10_goesOn 62 = .ok (.iload 4, 2) := by decide +kernel
theorem dX10_goesOn_64 : decode cX10_goesOn 64 = .ok (.iload_n 1, 1) := by decide +kernel
theorem dX10_goesOn_65 : decode cX10_goesOn 65 = .ok (.aload_n 0, 1) := by decide +kernel
theorem dX10_goesOn_66 : decode cX10_goesOn 66 = .ok (.getfield 7, 3) := by decide +kernel
theorem dX10_goesOn_69 : decode cX10_goesOn 69 = .ok (.iload_n 1, 1) := by decide +kernel
theorem dX10_goesOn_70 : decode cX10_goesOn 70 = .ok (.iload 5, 2) := by decide +kernel
theorem dX10_goesOn_72 : decode cX10_goesOn 72 = .ok (.invokestatic 142, 3) := by decide +kernel
theorem dX10_goesOn_75 : decode cX10_goesOn 75 = .ok (.iaload, 1) := by decide +kernel
theorem dX10_goesOn_76 : decode cX10_goesOn 76 = .ok (.aload_n 0, 1) := by decide +kernel
theorem dX10_goesOn_77 : decode cX10_goesOn 77 = .ok (.getfield 19, 3) := by decide +kernel
theorem dX10_goesOn_80 : decode cX10_goesOn 80 = .ok (.bipush 12, 2) := by decide +kernel
theorem dX10_goesOn_82 : decode cX10_goesOn 82 = .ok (.iload 5, 2) := by decide +kernel
theorem dX10_goesOn_84 : decode cX10_goesOn 84 = .ok (.imul, 1) := by decide +kernel
theorem dX10_goesOn_85 : decode cX10_goesOn 85 = .ok (.iload 4, 2) := by decide +kernel
theorem dX10_goesOn_87 : decode cX10_goesOn 87 = .ok (.iadd, 1) := by decide +kernel
theorem dX10_goesOn_88 : decode cX10_goesOn 88 = .ok (.iaload, 1) := by decide +kernel
theorem dX10_goesOn_89 : decode cX10_goesOn 89 = .ok (.aload_n 0, 1) := by decide +kernel
theorem dX10_goesOn_90 : decode cX10_goesOn 90 = .ok (.iload 4, 2) := by decide +kernel
theorem dX10_goesOn_92 : decode cX10_goesOn 92 = .ok (.invokevirtual 287, 3) := by decide +kernel
theorem dX10_goesOn_95 : decode cX10_goesOn 95 = .ok (.iload_n 2, 1) := by decide +kernel
theorem dX10_goesOn_96 : decode cX10_goesOn 96 = .ok (.invokevirtual 290, 3) := by decide +kernel
theorem dX10_goesOn_99 : decode cX10_goesOn 99 = .ok (.aload_n 0, 1) := by decide +kernel
theorem dX10_goesOn_100 : decode cX10_goesOn 100 = .ok (.getfield 77, 3) := by decide +kernel
theorem dX10_goesOn_103 : decode cX10_goesOn 103 = .ok (.iload 4, 2) := by decide +kernel
theorem dX10_goesOn_105 : decode cX10_goesOn 105 = .ok (.ldc_w 300, 3) := by decide +kernel
theorem dX10_goesOn_108 : decode cX10_goesOn 108 = .ok (.aload_n 0, 1) := by decide +kernel
theorem dX10_goesOn_109 : decode cX10_goesOn 109 = .ok (.getfield 7, 3) := by decide +kernel
theorem dX10_goesOn_112 : decode cX10_goesOn 112 = .ok (.iload_n 1, 1) := by decide +kernel
theorem dX10_goesOn_113 : decode cX10_goesOn 113 = .ok (.iload 5, 2) := by decide +kernel
theorem dX10_goesOn_115 : decode cX10_goesOn 115 = .ok (.invokestatic 142, 3) := by decide +kernel
theorem dX10_goesOn_118 : decode cX10_goesOn 118 = .ok (.iaload, 1) := by decide +kernel
theorem dX10_goesOn_119 : decode cX10_goesOn 119 = .ok (.aload_n 0, 1) := by decide +kernel
theorem dX10_goesOn_120 : decode cX10_goesOn 120 = .ok (.bipush 116, 2) := by decide +kernel
theorem dX10_goesOn_122 : decode cX10_goesOn 122 = .ok (.sipush 999, 3) := by decide +kernel
theorem dX10_goesOn_125 : decode cX10_goesOn 125 = .ok (.invokevirtual 301, 3) := by decide +kernel
theorem dX10_goesOn_128 : decode cX10_goesOn 128 = .ok (.iadd, 1) := by decide +kernel
theorem dX10_goesOn_129 : decode cX10_goesOn 129 = .ok (.invokestatic 271, 3) := by decide +kernel
theorem dX10_goesOn_132 : decode cX10_goesOn 132 = .ok (.iastore, 1) := by decide +kernel
theorem dX10_goesOn_133 : decode cX10_goesOn 133 = .ok (.iconst 1, 1) := by decide +kernel
theorem dX10_goesOn_134 : decode cX10_goesOn 134 = .ok (.istore_n 3, 1) := by decide +kernel
theorem dX10_goesOn_135 : decode cX10_goesOn 135 = .ok (.iinc 4 1, 3) := by decide +kernel
theorem dX10_goesOn_138 : decode cX10_goesOn 138 = .ok (.goto (-133), 3) := by decide +kernel
theorem dX10_goesOn_141 : decode cX10_goesOn 141 = .ok (.iconst 0, 1) := by decide +kernel
theorem dX10_goesOn_142 : decode cX10_goesOn 142 = .ok (.istore 4, 2) := by decide +kernel
theorem dX10_goesOn_144 : decode cX10_goesOn 144 = .ok (.iload 4, 2) := by decide +kernel
theorem dX10_goesOn_146 : decode cX10_goesOn 146 = .ok (.bipush 12, 2) := by decide +kernel
theorem dX10_goesOn_148 : decode cX10_goesOn 148 = .ok (.if_icmp .ge 38, 3) := by decide +kernel
theorem dX10_goesOn_151 : decode cX10_goesOn 151 = .ok (.aload_n 0, 1) := by decide +kernel
theorem dX10_goesOn_152 : decode cX10_goesOn 152 = .ok (.getfield 77, 3) := by decide +kernel
theorem dX10_goesOn_155 : decode cX10_goesOn 155 = .ok (.iload 4, 2) := by decide +kernel
theorem dX10_goesOn_157 : decode cX10_goesOn 157 = .ok (.iaload, 1) := by decide +kernel
theorem dX10_goesOn_158 : decode cX10_goesOn 158 = .ok (.iconst (-1), 1) := by decide +kernel
theorem dX10_goesOn_159 : decode cX10_goesOn 159 = .ok (.if_icmp .eq 21, 3) := by decide +kernel
theorem dX10_goesOn_162 : decode cX10_goesOn 162 = .ok (.aload_n 0, 1) := by decide +kernel
theorem dX10_goesOn_163 : decode cX10_goesOn 163 = .ok (.getfield 7, 3) := by decide +kernel
theorem dX10_goesOn_166 : decode cX10_goesOn 166 = .ok (.iload_n 1, 1) := by decide +kernel
theorem dX10_goesOn_167 : decode cX10_goesOn 167 = .ok (.iload 4, 2) := by decide +kernel
theorem dX10_goesOn_169 : decode cX10_goesOn 169 = .ok (.invokestatic 142, 3) := by decide +kernel
theorem dX10_goesOn_172 : decode cX10_goesOn 172 = .ok (.aload_n 0, 1) := by decide +kernel
theorem dX10_goesOn_173 : decode cX10_goesOn 173 = .ok (.getfield 77, 3) := by decide +kernel
theorem dX10_goesOn_176 : decode cX10_goesOn 176 = .ok (.iload 4, 2) := by decide +kernel
theorem dX10_goesOn_178 : decode cX10_goesOn 178 = .ok (.iaload, 1) := by decide +kernel
theorem dX10_goesOn_179 : decode cX10_goesOn 179 = .ok (.iastore, 1) := by decide +kernel
theorem dX10_goesOn_180 : decode cX10_goesOn 180 = .ok (.iinc 4 1, 3) := by decide +kernel
theorem dX10_goesOn_183 : decode cX10_goesOn 183 = .ok (.goto (-39), 3) := by decide +kernel
theorem dX10_goesOn_186 : decode cX10_goesOn 186 = .ok (.iload_n 3, 1) := by decide +kernel
theorem dX10_goesOn_187 : decode cX10_goesOn 187 = .ok (.ireturn, 1) := by decide +kernel
theorem dX10_readsNext_0 : decode cX10_readsNext 0 = .ok (.iconst 0, 1) := by decide +kernel
theorem dX10_readsNext_1 : decode cX10_readsNext 1 = .ok (.istore_n 2, 1) := by decide +kernel
theorem dX10_readsNext_2 : decode cX10_readsNext 2 = .ok (.iload_n 2, 1) := by decide +kernel
theorem dX10_readsNext_3 : decode cX10_readsNext 3 = .ok (.bipush 6, 2) := by decide +kernel
theorem dX10_readsNext_5 : decode cX10_readsNext 5 = .ok (.if_icmp .ge 51, 3) := by decide +kernel
theorem dX10_readsNext_8 : decode cX10_readsNext 8 = .ok (.aload_n 0, 1) := by decide +kernel
theorem dX10_readsNext_9 : decode cX10_readsNext 9 = .ok (.getfield 7, 3) := by decide +kernel
theorem dX10_readsNext_12 : decode cX10_readsNext 12 = .ok (.sipush 144, 3) := by decide +kernel
theorem dX10_readsNext_15 : decode cX10_readsNext 15 = .ok (.iaload, 1) := by decide +kernel
theorem dX10_readsNext_16 : decode cX10_readsNext 16 = .ok (.iload_n 2, 1) := by decide +kernel
theorem dX10_readsNext_17 : decode cX10_readsNext 17 = .ok (.invokestatic 138, 3) := by decide +kernel
theorem dX10_readsNext_20 : decode cX10_readsNext 20 = .ok (.ifCond .eq 30, 3) := by decide +kernel
theorem dX10_readsNext_23 : decode cX10_readsNext 23 = .ok (.aload_n 0, 1) := by decide +kernel
theorem dX10_readsNext_24 : decode cX10_readsNext 24 = .ok (.iload_n 2, 1) := by decide +kernel
theorem dX10_readsNext_25 : decode cX10_readsNext 25 = .ok (.iload_n 1, 1) := by decide +kernel
theorem dX10_readsNext_26 : decode cX10_readsNext 26 = .ok (.invokevirtual 284, 3) := by decide +kernel
theorem dX10_readsNext_29 : decode cX10_readsNext 29 = .ok (.ifCond .eq 21, 3) := by decide +kernel
theorem dX10_readsNext_32 : decode cX10_readsNext 32 = .ok (.aload_n 0, 1) := by decide +kernel
theorem dX10_readsNext_33 : decode cX10_readsNext 33 = .ok (.getfield 7, 3) := by decide +kernel
theorem dX10_readsNext_36 : decode cX10_readsNext 36 = .ok (.bipush 84, 2) := by decide +kernel
theorem dX10_readsNext_38 : decode cX10_readsNext 38 = .ok (.iload_n 2, 1) := by decide +kernel
theorem dX10_readsNext_39 : decode cX10_readsNext 39 = .ok (.iadd, 1) := by decide +kernel
theorem dX10_readsNext_40 : decode cX10_readsNext 40 = .ok (.iaload, 1) := by decide +kernel
theorem dX10_readsNext_41 : decode cX10_readsNext 41 = .ok (.iload_n 1, 1) := by decide +kernel
theorem dX10_readsNext_42 : decode cX10_readsNext 42 = .ok (.invokestatic 138, 3) := by decide +kernel
theorem dX10_readsNext_45 : decode cX10_readsNext 45 = .ok (.ifCond .ne 5, 3) := by decide +kernel
theorem dX10_readsNext_48 : decode cX10_readsNext 48 = .ok (.iload_n 2, 1) := by decide +kernel
theorem dX10_readsNext_49 : decode cX10_readsNext 49 = .ok (.ireturn, 1) := by decide +kernel
theorem dX10_readsNext_50 : decode cX10_readsNext 50 = .ok (.iinc 2 1, 3) := by decide +kernel
theorem dX10_readsNext_53 : decode cX10_readsNext 53 = .ok (.goto (-51), 3) := by decide +kernel
theorem dX10_readsNext_56 : decode cX10_readsNext 56 = .ok (.iconst (-1), 1) := by decide +kernel
theorem dX10_readsNext_57 : decode cX10_readsNext 57 = .ok (.ireturn, 1) := by decide +kernel
theorem dX10_reads_0 : decode cX10_reads 0 = .ok (.aload_n 0, 1) := by decide +kernel
theorem dX10_reads_1 : decode cX10_reads 1 = .ok (.iload_n 1, 1) := by decide +kernel
theorem dX10_reads_2 : decode cX10_reads 2 = .ok (.invokevirtual 304, 3) := by decide +kernel
theorem dX10_reads_5 : decode cX10_reads 5 = .ok (.istore_n 2, 1) := by decide +kernel
theorem dX10_reads_6 : decode cX10_reads 6 = .ok (.iload_n 2, 1) := by decide +kernel
theorem dX10_reads_7 : decode cX10_reads 7 = .ok (.iconst (-1), 1) := by decide +kernel
theorem dX10_reads_8 : decode cX10_reads 8 = .ok (.if_icmp .ne 5, 3) := by decide +kernel
theorem dX10_reads_11 : decode cX10_reads 11 = .ok (.iconst 0, 1) := by decide +kernel
theorem dX10_reads_12 : decode cX10_reads 12 = .ok (.ireturn, 1) := by decide +kernel
theorem dX10_reads_13 : decode cX10_reads 13 = .ok (.aload_n 0, 1) := by decide +kernel
theorem dX10_reads_14 : decode cX10_reads 14 = .ok (.iload_n 1, 1) := by decide +kernel
theorem dX10_reads_15 : decode cX10_reads 15 = .ok (.iload_n 2, 1) := by decide +kernel
theorem dX10_reads_16 : decode cX10_reads 16 = .ok (.aload_n 0, 1) := by decide +kernel
theorem dX10_reads_17 : decode cX10_reads 17 = .ok (.getfield 7, 3) := by decide +kernel
theorem dX10_reads_20 : decode cX10_reads 20 = .ok (.iload_n 2, 1) := by decide +kernel
theorem dX10_reads_21 : decode cX10_reads 21 = .ok (.iload_n 1, 1) := by decide +kernel
theorem dX10_reads_22 : decode cX10_reads 22 = .ok (.invokestatic 142, 3) := by decide +kernel
theorem dX10_reads_25 : decode cX10_reads 25 = .ok (.iaload, 1) := by decide +kernel
theorem dX10_reads_26 : decode cX10_reads 26 = .ok (.iconst 0, 1) := by decide +kernel
theorem dX10_reads_27 : decode cX10_reads 27 = .ok (.aload_n 0, 1) := by decide +kernel
theorem dX10_reads_28 : decode cX10_reads 28 = .ok (.iload_n 1, 1) := by decide +kernel
theorem dX10_reads_29 : decode cX10_reads 29 = .ok (.invokevirtual 287, 3) := by decide +kernel
theorem dX10_reads_32 : decode cX10_reads 32 = .ok (.aload_n 0, 1) := by decide +kernel
theorem dX10_reads_33 : decode cX10_reads 33 = .ok (.getfield 7, 3) := by decide +kernel
theorem dX10_reads_36 : decode cX10_reads 36 = .ok (.sipush 147, 3) := by decide +kernel
theorem dX10_reads_39 : decode cX10_reads 39 = .ok (.iaload, 1) := by decide +kernel
theorem dX10_reads_40 : decode cX10_reads 40 = .ok (.invokevirtual 290, 3) := by decide +kernel
theorem dX10_reads_43 : decode cX10_reads 43 = .ok (.aload_n 0, 1) := by decide +kernel
theorem dX10_reads_44 : decode cX10_reads 44 = .ok (.bipush 104, 2) := by decide +kernel
theorem dX10_reads_46 : decode cX10_reads 46 = .ok (.bipush 10, 2) := by decide +kernel
theorem dX10_reads_48 : decode cX10_reads 48 = .ok (.invokevirtual 301, 3) := by decide +kernel
theorem dX10_reads_51 : decode cX10_reads 51 = .ok (.istore_n 3, 1) := by decide +kernel
theorem dX10_reads_52 : decode cX10_reads 52 = .ok (.aload_n 0, 1) := by decide +kernel
theorem dX10_reads_53 : decode cX10_reads 53 = .ok (.bipush 103, 2) := by decide +kernel
theorem dX10_reads_55 : decode cX10_reads 55 = .ok (.sipush 999, 3) := by decide +kernel
theorem dX10_reads_58 : decode cX10_reads 58 = .ok (.invokevirtual 301, 3) := by decide +kernel
theorem dX10_reads_61 : decode cX10_reads 61 = .ok (.istore 4, 2) := by decide +kernel
theorem dX10_reads_63 : decode cX10_reads 63 = .ok (.aload_n 0, 1) := by decide +kernel
theorem dX10_reads_64 : decode cX10_reads 64 = .ok (.getfield 7, 3) := by decide +kernel
theorem dX10_reads_67 : decode cX10_reads 67 = .ok (.sipush 150, 3) := by decide +kernel
theorem dX10_reads_70 : decode cX10_reads 70 = .ok (.sipush 25173, 3) := by decide +kernel
theorem dX10_reads_73 : decode cX10_reads 73 = .ok (.aload_n 0, 1) := by decide +kernel
theorem dX10_reads_74 : decode cX10_reads 74 = .ok (.getfield 7, 3) := by decide +kernel
theorem dX10_reads_77 : decode cX10_reads 77 = .ok (.sipush 150, 3) := by decide +kernel
theorem dX10_reads_80 : decode cX10_reads 80 = .ok (.iaload, 1) := by decide +kernel
theorem dX10_reads_81 : decode cX10_reads 81 = .ok (.imul, 1) := by decide +kernel
theorem dX10_reads_82 : decode cX10_reads 82 = .ok (.sipush 13849, 3) := by decide +kernel
theorem dX10_reads_85 : decode cX10_reads 85 = .ok (.iadd, 1) := by decide +kernel
theorem dX10_reads_86 : decode cX10_reads 86 = .ok (.ldc_w 307, 3) := by decide +kernel
theorem dX10_reads_89 : decode cX10_reads 89 = .ok (.irem, 1) := by decide +kernel
theorem dX10_reads_90 : decode cX10_reads 90 = .ok (.iastore, 1) := by decide +kernel
theorem dX10_reads_91 : decode cX10_reads 91 = .ok (.aload_n 0, 1) := by decide +kernel
theorem dX10_reads_92 : decode cX10_reads 92 = .ok (.getfield 7, 3) := by decide +kernel
theorem dX10_reads_95 : decode cX10_reads 95 = .ok (.sipush 150, 3) := by decide +kernel
theorem dX10_reads_98 : decode cX10_reads 98 = .ok (.iaload, 1) := by decide +kernel
theorem dX10_reads_99 : decode cX10_reads 99 = .ok (.bipush 10, 2) := by decide +kernel
theorem dX10_reads_101 : decode cX10_reads 101 = .ok (.irem, 1) := by decide +kernel
theorem dX10_reads_102 : decode cX10_reads 102 = .ok (.iload_n 3, 1) := by decide +kernel
theorem dX10_reads_103 : decode cX10_reads 103 = .ok (.if_icmp .ge 15, 3) := by decide +kernel
theorem dX10_reads_106 : decode cX10_reads 106 = .ok (.aload_n 0, 1) := by decide +kernel
theorem dX10_reads_107 : decode cX10_reads 107 = .ok (.aload_n 0, 1) := by decide +kernel
theorem dX10_reads_108 : decode cX10_reads 108 = .ok (.getfield 308, 3) := by decide +kernel
theorem dX10_reads_111 : decode cX10_reads 111 = .ok (.iconst 1, 1) := by decide +kernel
theorem dX10_reads_112 : decode cX10_reads 112 = .ok (.iadd, 1) := by decide +kernel
theorem dX10_reads_113 : decode cX10_reads 113 = .ok (.putfield 308, 3) := by decide +kernel
theorem dX10_reads_116 : decode cX10_reads 116 = .ok (.iconst 0, 1) := by decide +kernel
theorem dX10_reads_117 : decode cX10_reads 117 = .ok (.ireturn, 1) := by decide +kernel
theorem dX10_reads_118 : decode cX10_reads 118 = .ok (.aload_n 0, 1) := by decide +kernel
theorem dX10_reads_119 : decode cX10_reads 119 = .ok (.iload_n 2, 1) := by decide +kernel
theorem dX10_reads_120 : decode cX10_reads 120 = .ok (.iload_n 1, 1) := by decide +kernel
theorem dX10_reads_121 : decode cX10_reads 121 = .ok (.iload 4, 2) := by decide +kernel
theorem dX10_reads_123 : decode cX10_reads 123 = .ok (.invokevirtual 274, 3) := by decide +kernel
theorem dX10_reads_126 : decode cX10_reads 126 = .ok (.aload_n 0, 1) := by decide +kernel
theorem dX10_reads_127 : decode cX10_reads 127 = .ok (.aload_n 0, 1) := by decide +kernel
theorem dX10_reads_128 : decode cX10_reads 128 = .ok (.getfield 311, 3) := by decide +kernel
theorem dX10_reads_131 : decode cX10_reads 131 = .ok (.iconst 1, 1) := by decide +kernel
theorem dX10_reads_132 : decode cX10_reads 132 = .ok (.iadd, 1) := by decide +kernel
theorem dX10_reads_133 : decode cX10_reads 133 = .ok (.putfield 311, 3) := by decide +kernel
theorem dX10_reads_136 : decode cX10_reads 136 = .ok (.iconst 1, 1) := by decide +kernel
theorem dX10_reads_137 : decode cX10_reads 137 = .ok (.ireturn, 1) := by decide +kernel
theorem dX10_remembers_0 : decode cX10_remembers 0 = .ok (.aload_n 0, 1) := by decide +kernel
theorem dX10_remembers_1 : decode cX10_remembers 1 = .ok (.getfield 7, 3) := by decide +kernel
theorem dX10_remembers_4 : decode cX10_remembers 4 = .ok (.bipush 90, 2) := by decide +kernel
theorem dX10_remembers_6 : decode cX10_remembers 6 = .ok (.iconst 3, 1) := by decide +kernel
theorem dX10_remembers_7 : decode cX10_remembers 7 = .ok (.iload_n 1, 1) := by decide +kernel
theorem dX10_remembers_8 : decode cX10_remembers 8 = .ok (.imul, 1) := by decide +kernel
theorem dX10_remembers_9 : decode cX10_remembers 9 = .ok (.iadd, 1) := by decide +kernel
theorem dX10_remembers_10 : decode cX10_remembers 10 = .ok (.iconst 2, 1) := by decide +kernel
theorem dX10_remembers_11 : decode cX10_remembers 11 = .ok (.iadd, 1) := by decide +kernel
theorem dX10_remembers_12 : decode cX10_remembers 12 = .ok (.aload_n 0, 1) := by decide +kernel
theorem dX10_remembers_13 : decode cX10_remembers 13 = .ok (.getfield 7, 3) := by decide +kernel
theorem dX10_remembers_16 : decode cX10_remembers 16 = .ok (.bipush 90, 2) := by decide +kernel
theorem dX10_remembers_18 : decode cX10_remembers 18 = .ok (.iconst 3, 1) := by decide +kernel
theorem dX10_remembers_19 : decode cX10_remembers 19 = .ok (.iload_n 1, 1) := by decide +kernel
theorem dX10_remembers_20 : decode cX10_remembers 20 = .ok (.imul, 1) := by decide +kernel
theorem dX10_remembers_21 : decode cX10_remembers 21 = .ok (.iadd, 1) := by decide +kernel
theorem dX10_remembers_22 : decode cX10_remembers 22 = .ok (.iconst 1, 1) := by decide +kernel
theorem dX10_remembers_23 : decode cX10_remembers 23 = .ok (.iadd, 1) := by decide +kernel
theorem dX10_remembers_24 : decode cX10_remembers 24 = .ok (.iaload, 1) := by decide +kernel
theorem dX10_remembers_25 : decode cX10_remembers 25 = .ok (.iastore, 1) := by decide +kernel
theorem dX10_remembers_26 : decode cX10_remembers 26 = .ok (.aload_n 0, 1) := by decide +kernel
theorem dX10_remembers_27 : decode cX10_remembers 27 = .ok (.getfield 7, 3) := by decide +kernel
theorem dX10_remembers_30 : decode cX10_remembers 30 = .ok (.bipush 90, 2) := by decide +kernel
theorem dX10_remembers_32 : decode cX10_remembers 32 = .ok (.iconst 3, 1) := by decide +kernel
theorem dX10_remembers_33 : decode cX10_remembers 33 = .ok (.iload_n 1, 1) := by decide +kernel
theorem dX10_remembers_34 : decode cX10_remembers 34 = .ok (.imul, 1) := by decide +kernel
theorem dX10_remembers_35 : decode cX10_remembers 35 = .ok (.iadd, 1) := by decide +kernel
theorem dX10_remembers_36 : decode cX10_remembers 36 = .ok (.iconst 1, 1) := by decide +kernel
theorem dX10_remembers_37 : decode cX10_remembers 37 = .ok (.iadd, 1) := by decide +kernel
theorem dX10_remembers_38 : decode cX10_remembers 38 = .ok (.aload_n 0, 1) := by decide +kernel
theorem dX10_remembers_39 : decode cX10_remembers 39 = .ok (.getfield 7, 3) := by decide +kernel
theorem dX10_remembers_42 : decode cX10_remembers 42 = .ok (.bipush 90, 2) := by decide +kernel
theorem dX10_remembers_44 : decode cX10_remembers 44 = .ok (.iconst 3, 1) := by decide +kernel
theorem dX10_remembers_45 : decode cX10_remembers 45 = .ok (.iload_n 1, 1) := by decide +kernel
theorem dX10_remembers_46 : decode cX10_remembers 46 = .ok (.imul, 1) := by decide +kernel
theorem dX10_remembers_47 : decode cX10_remembers 47 = .ok (.iadd, 1) := by decide +kernel
theorem dX10_remembers_48 : decode cX10_remembers 48 = .ok (.iaload, 1) := by decide +kernel
theorem dX10_remembers_49 : decode cX10_remembers 49 = .ok (.iastore, 1) := by decide +kernel
theorem dX10_remembers_50 : decode cX10_remembers 50 = .ok (.aload_n 0, 1) := by decide +kernel
theorem dX10_remembers_51 : decode cX10_remembers 51 = .ok (.getfield 7, 3) := by decide +kernel
theorem dX10_remembers_54 : decode cX10_remembers 54 = .ok (.bipush 90, 2) := by decide +kernel
theorem dX10_remembers_56 : decode cX10_remembers 56 = .ok (.iconst 3, 1) := by decide +kernel
theorem dX10_remembers_57 : decode cX10_remembers 57 = .ok (.iload_n 1, 1) := by decide +kernel
theorem dX10_remembers_58 : decode cX10_remembers 58 = .ok (.imul, 1) := by decide +kernel
theorem dX10_remembers_59 : decode cX10_remembers 59 = .ok (.iadd, 1) := by decide +kernel
theorem dX10_remembers_60 : decode cX10_remembers 60 = .ok (.iload_n 2, 1) := by decide +kernel
theorem dX10_remembers_61 : decode cX10_remembers 61 = .ok (.iastore, 1) := by decide +kernel
theorem dX10_remembers_62 : decode cX10_remembers 62 = .ok (.return_, 1) := by decide +kernel
theorem dX10_monthGoes_0 : decode cX10_monthGoes 0 = .ok (.iconst 0, 1) := by decide +kernel
theorem dX10_monthGoes_1 : decode cX10_monthGoes 1 = .ok (.istore_n 1, 1) := by decide +kernel
theorem dX10_monthGoes_2 : decode cX10_monthGoes 2 = .ok (.iload_n 1, 1) := by decide +kernel
theorem dX10_monthGoes_3 : decode cX10_monthGoes 3 = .ok (.bipush 6, 2) := by decide +kernel
theorem dX10_monthGoes_5 : decode cX10_monthGoes 5 = .ok (.if_icmp .ge 38, 3) := by decide +kernel
theorem dX10_monthGoes_8 : decode cX10_monthGoes 8 = .ok (.aload_n 0, 1) := by decide +kernel
theorem dX10_monthGoes_9 : decode cX10_monthGoes 9 = .ok (.getfield 7, 3) := by decide +kernel
theorem dX10_monthGoes_12 : decode cX10_monthGoes 12 = .ok (.sipush 144, 3) := by decide +kernel
theorem dX10_monthGoes_15 : decode cX10_monthGoes 15 = .ok (.iaload, 1) := by decide +kernel
theorem dX10_monthGoes_16 : decode cX10_monthGoes 16 = .ok (.iload_n 1, 1) := by decide +kernel
theorem dX10_monthGoes_17 : decode cX10_monthGoes 17 = .ok (.invokestatic 138, 3) := by decide +kernel
theorem dX10_monthGoes_20 : decode cX10_monthGoes 20 = .ok (.ifCond .eq 17, 3) := by decide +kernel
theorem dX10_monthGoes_23 : decode cX10_monthGoes 23 = .ok (.aload_n 0, 1) := by decide +kernel
theorem dX10_monthGoes_24 : decode cX10_monthGoes 24 = .ok (.iload_n 1, 1) := by decide +kernel
theorem dX10_monthGoes_25 : decode cX10_monthGoes 25 = .ok (.aload_n 0, 1) := by decide +kernel
theorem dX10_monthGoes_26 : decode cX10_monthGoes 26 = .ok (.getfield 7, 3) := by decide +kernel
theorem dX10_monthGoes_29 : decode cX10_monthGoes 29 = .ok (.sipush 147, 3) := by decide +kernel
theorem dX10_monthGoes_32 : decode cX10_monthGoes 32 = .ok (.iaload, 1) := by decide +kernel
theorem dX10_monthGoes_33 : decode cX10_monthGoes 33 = .ok (.invokevirtual 314, 3) := by decide +kernel
theorem dX10_monthGoes_36 : decode cX10_monthGoes 36 = .ok (.pop, 1) := by decide +kernel
theorem dX10_monthGoes_37 : decode cX10_monthGoes 37 = .ok (.iinc 1 1, 3) := by decide +kernel
theorem dX10_monthGoes_40 : decode cX10_monthGoes 40 = .ok (.goto (-38), 3) := by decide +kernel
theorem dX10_monthGoes_43 : decode cX10_monthGoes 43 = .ok (.iconst 0, 1) := by decide +kernel
theorem dX10_monthGoes_44 : decode cX10_monthGoes 44 = .ok (.istore_n 1, 1) := by decide +kernel
theorem dX10_monthGoes_45 : decode cX10_monthGoes 45 = .ok (.iload_n 1, 1) := by decide +kernel
theorem dX10_monthGoes_46 : decode cX10_monthGoes 46 = .ok (.bipush 12, 2) := by decide +kernel
theorem dX10_monthGoes_48 : decode cX10_monthGoes 48 = .ok (.if_icmp .ge 27, 3) := by decide +kernel
theorem dX10_monthGoes_51 : decode cX10_monthGoes 51 = .ok (.aload_n 0, 1) := by decide +kernel
theorem dX10_monthGoes_52 : decode cX10_monthGoes 52 = .ok (.iload_n 1, 1) := by decide +kernel
theorem dX10_monthGoes_53 : decode cX10_monthGoes 53 = .ok (.invokevirtual 146, 3) := by decide +kernel
theorem dX10_monthGoes_56 : decode cX10_monthGoes 56 = .ok (.ifCond .eq 13, 3) := by decide +kernel
theorem dX10_monthGoes_59 : decode cX10_monthGoes 59 = .ok (.aload_n 0, 1) := by decide +kernel
theorem dX10_monthGoes_60 : decode cX10_monthGoes 60 = .ok (.iload_n 1, 1) := by decide +kernel
theorem dX10_monthGoes_61 : decode cX10_monthGoes 61 = .ok (.aload_n 0, 1) := by decide +kernel
theorem dX10_monthGoes_62 : decode cX10_monthGoes 62 = .ok (.iload_n 1, 1) := by decide +kernel
theorem dX10_monthGoes_63 : decode cX10_monthGoes 63 = .ok (.invokevirtual 317, 3) := by decide +kernel
theorem dX10_monthGoes_66 : decode cX10_monthGoes 66 = .ok (.invokevirtual 320, 3) := by decide +kernel
theorem dX10_monthGoes_69 : decode cX10_monthGoes 69 = .ok (.iinc 1 1, 3) := by decide +kernel
theorem dX10_monthGoes_72 : decode cX10_monthGoes 72 = .ok (.goto (-27), 3) := by decide +kernel
theorem dX10_monthGoes_75 : decode cX10_monthGoes 75 = .ok (.iconst 0, 1) := by decide +kernel
theorem dX10_monthGoes_76 : decode cX10_monthGoes 76 = .ok (.istore_n 1, 1) := by decide +kernel
theorem dX10_monthGoes_77 : decode cX10_monthGoes 77 = .ok (.iload_n 1, 1) := by decide +kernel
theorem dX10_monthGoes_78 : decode cX10_monthGoes 78 = .ok (.bipush 6, 2) := by decide +kernel
theorem dX10_monthGoes_80 : decode cX10_monthGoes 80 = .ok (.if_icmp .ge 100, 3) := by decide +kernel
theorem dX10_monthGoes_83 : decode cX10_monthGoes 83 = .ok (.aload_n 0, 1) := by decide +kernel
theorem dX10_monthGoes_84 : decode cX10_monthGoes 84 = .ok (.getfield 7, 3) := by decide +kernel
theorem dX10_monthGoes_87 : decode cX10_monthGoes 87 = .ok (.sipush 144, 3) := by decide +kernel
theorem dX10_monthGoes_90 : decode cX10_monthGoes 90 = .ok (.iaload, 1) := by decide +kernel
theorem dX10_monthGoes_91 : decode cX10_monthGoes 91 = .ok (.iload_n 1, 1) := by decide +kernel
theorem dX10_monthGoes_92 : decode cX10_monthGoes 92 = .ok (.invokestatic 138, 3) := by decide +kernel
theorem dX10_monthGoes_95 : decode cX10_monthGoes 95 = .ok (.ifCond .eq 79, 3) := by decide +kernel
theorem dX10_monthGoes_98 : decode cX10_monthGoes 98 = .ok (.aload_n 0, 1) := by decide +kernel
theorem dX10_monthGoes_99 : decode cX10_monthGoes 99 = .ok (.getfield 7, 3) := by decide +kernel
theorem dX10_monthGoes_102 : decode cX10_monthGoes 102 = .ok (.sipush 138, 3) := by decide +kernel
theorem dX10_monthGoes_105 : decode cX10_monthGoes 105 = .ok (.iload_n 1, 1) := by decide +kernel
theorem dX10_monthGoes_106 : decode cX10_monthGoes 106 = .ok (.iadd, 1) := by decide +kernel
theorem dX10_monthGoes_107 : decode cX10_monthGoes 107 = .ok (.iaload, 1) := by decide +kernel
theorem dX10_monthGoes_108 : decode cX10_monthGoes 108 = .ok (.aload_n 0, 1) := by decide +kernel
theorem dX10_monthGoes_109 : decode cX10_monthGoes 109 = .ok (.getfield 7, 3) := by decide +kernel
theorem dX10_monthGoes_112 : decode cX10_monthGoes 112 = .ok (.sipush 132, 3) := by decide +kernel
theorem dX10_monthGoes_115 : decode cX10_monthGoes 115 = .ok (.iload_n 1, 1) := by decide +kernel
theorem dX10_monthGoes_116 : decode cX10_monthGoes 116 = .ok (.iadd, 1) := by decide +kernel
theorem dX10_monthGoes_117 : decode cX10_monthGoes 117 = .ok (.iaload, 1) := by decide +kernel
theorem dX10_monthGoes_118 : decode cX10_monthGoes 118 = .ok (.if_icmp .ge 6, 3) := by decide +kernel
theorem dX10_monthGoes_121 : decode cX10_monthGoes 121 = .ok (.goto 53, 3) := by decide +kernel
theorem dX10_monthGoes_124 : decode cX10_monthGoes 124 = .ok (.aload_n 0, 1) := by decide +kernel
theorem dX10_monthGoes_125 : decode cX10_monthGoes 125 = .ok (.getfield 7, 3) := by decide +kernel
theorem dX10_monthGoes_128 : decode cX10_monthGoes 128 = .ok (.sipush 144, 3) := by decide +kernel
theorem dX10_monthGoes_131 : decode cX10_monthGoes 131 = .ok (.aload_n 0, 1) := by decide +kernel
theorem dX10_monthGoes_132 : decode cX10_monthGoes 132 = .ok (.getfield 7, 3) := by decide +kernel
theorem dX10_monthGoes_135 : decode cX10_monthGoes 135 = .ok (.sipush 144, 3) := by decide +kernel
theorem dX10_monthGoes_138 : decode cX10_monthGoes 138 = .ok (.iaload, 1) := by decide +kernel
theorem dX10_monthGoes_139 : decode cX10_monthGoes 139 = .ok (.iconst 1, 1) := by decide +kernel
theorem dX10_monthGoes_140 : decode cX10_monthGoes 140 = .ok (.iload_n 1, 1) := by decide +kernel
theorem dX10_monthGoes_141 : decode cX10_monthGoes 141 = .ok (.ishl, 1) := by decide +kernel
theorem dX10_monthGoes_142 : decode cX10_monthGoes 142 = .ok (.iconst (-1), 1) := by decide +kernel
theorem dX10_monthGoes_143 : decode cX10_monthGoes 143 = .ok (.ixor, 1) := by decide +kernel
theorem dX10_monthGoes_144 : decode cX10_monthGoes 144 = .ok (.iand, 1) := by decide +kernel
theorem dX10_monthGoes_145 : decode cX10_monthGoes 145 = .ok (.iastore, 1) := by decide +kernel
theorem dX10_monthGoes_146 : decode cX10_monthGoes 146 = .ok (.aload_n 0, 1) := by decide +kernel
theorem dX10_monthGoes_147 : decode cX10_monthGoes 147 = .ok (.getfield 7, 3) := by decide +kernel
theorem dX10_monthGoes_150 : decode cX10_monthGoes 150 = .ok (.sipush 148, 3) := by decide +kernel
theorem dX10_monthGoes_153 : decode cX10_monthGoes 153 = .ok (.aload_n 0, 1) := by decide +kernel
theorem dX10_monthGoes_154 : decode cX10_monthGoes 154 = .ok (.getfield 7, 3) := by decide +kernel
theorem dX10_monthGoes_157 : decode cX10_monthGoes 157 = .ok (.sipush 148, 3) := by decide +kernel
theorem dX10_monthGoes_160 : decode cX10_monthGoes 160 = .ok (.iaload, 1) := by decide +kernel
theorem dX10_monthGoes_161 : decode cX10_monthGoes 161 = .ok (.iconst 1, 1) := by decide +kernel
theorem dX10_monthGoes_162 : decode cX10_monthGoes 162 = .ok (.iadd, 1) := by decide +kernel
theorem dX10_monthGoes_163 : decode cX10_monthGoes 163 = .ok (.iastore, 1) := by decide +kernel
theorem dX10_monthGoes_164 : decode cX10_monthGoes 164 = .ok (.aload_n 0, 1) := by decide +kernel
theorem dX10_monthGoes_165 : decode cX10_monthGoes 165 = .ok (.aload_n 0, 1) := by decide +kernel
theorem dX10_monthGoes_166 : decode cX10_monthGoes 166 = .ok (.getfield 323, 3) := by decide +kernel
theorem dX10_monthGoes_169 : decode cX10_monthGoes 169 = .ok (.iconst 1, 1) := by decide +kernel
theorem dX10_monthGoes_170 : decode cX10_monthGoes 170 = .ok (.iadd, 1) := by decide +kernel
theorem dX10_monthGoes_171 : decode cX10_monthGoes 171 = .ok (.putfield 323, 3) := by decide +kernel
theorem dX10_monthGoes_174 : decode cX10_monthGoes 174 = .ok (.iinc 1 1, 3) := by decide +kernel
theorem dX10_monthGoes_177 : decode cX10_monthGoes 177 = .ok (.goto (-100), 3) := by decide +kernel
theorem dX10_monthGoes_180 : decode cX10_monthGoes 180 = .ok (.aload_n 0, 1) := by decide +kernel
theorem dX10_monthGoes_181 : decode cX10_monthGoes 181 = .ok (.getfield 7, 3) := by decide +kernel
theorem dX10_monthGoes_184 : decode cX10_monthGoes 184 = .ok (.sipush 147, 3) := by decide +kernel
theorem dX10_monthGoes_187 : decode cX10_monthGoes 187 = .ok (.aload_n 0, 1) := by decide +kernel
theorem dX10_monthGoes_188 : decode cX10_monthGoes 188 = .ok (.getfield 7, 3) := by decide +kernel
theorem dX10_monthGoes_191 : decode cX10_monthGoes 191 = .ok (.sipush 147, 3) := by decide +kernel
theorem dX10_monthGoes_194 : decode cX10_monthGoes 194 = .ok (.iaload, 1) := by decide +kernel
theorem dX10_monthGoes_195 : decode cX10_monthGoes 195 = .ok (.iconst 1, 1) := by decide +kernel
theorem dX10_monthGoes_196 : decode cX10_monthGoes 196 = .ok (.iadd, 1) := by decide +kernel
theorem dX10_monthGoes_197 : decode cX10_monthGoes 197 = .ok (.iastore, 1) := by decide +kernel
theorem dX10_monthGoes_198 : decode cX10_monthGoes 198 = .ok (.return_, 1) := by decide +kernel
theorem dX10_monthsGo_0 : decode cX10_monthsGo 0 = .ok (.aload_n 0, 1) := by decide +kernel
theorem dX10_monthsGo_1 : decode cX10_monthsGo 1 = .ok (.iconst 0, 1) := by decide +kernel
theorem dX10_monthsGo_2 : decode cX10_monthsGo 2 = .ok (.putfield 311, 3) := by decide +kernel
theorem dX10_monthsGo_5 : decode cX10_monthsGo 5 = .ok (.aload_n 0, 1) := by decide +kernel
theorem dX10_monthsGo_6 : decode cX10_monthsGo 6 = .ok (.iconst 0, 1) := by decide +kernel
theorem dX10_monthsGo_7 : decode cX10_monthsGo 7 = .ok (.putfield 308, 3) := by decide +kernel
theorem dX10_monthsGo_10 : decode cX10_monthsGo 10 = .ok (.aload_n 0, 1) := by decide +kernel
theorem dX10_monthsGo_11 : decode cX10_monthsGo 11 = .ok (.iconst 0, 1) := by decide +kernel
theorem dX10_monthsGo_12 : decode cX10_monthsGo 12 = .ok (.putfield 323, 3) := by decide +kernel
theorem dX10_monthsGo_15 : decode cX10_monthsGo 15 = .ok (.iconst 0, 1) := by decide +kernel
theorem dX10_monthsGo_16 : decode cX10_monthsGo 16 = .ok (.istore_n 2, 1) := by decide +kernel
theorem dX10_monthsGo_17 : decode cX10_monthsGo 17 = .ok (.iload_n 2, 1) := by decide +kernel
theorem dX10_monthsGo_18 : decode cX10_monthsGo 18 = .ok (.iload_n 1, 1) := by decide +kernel
theorem dX10_monthsGo_19 : decode cX10_monthsGo 19 = .ok (.if_icmp .ge 27, 3) := by decide +kernel
theorem dX10_monthsGo_22 : decode cX10_monthsGo 22 = .ok (.aload_n 0, 1) := by decide +kernel
theorem dX10_monthsGo_23 : decode cX10_monthsGo 23 = .ok (.getfield 7, 3) := by decide +kernel
theorem dX10_monthsGo_26 : decode cX10_monthsGo 26 = .ok (.sipush 147, 3) := by decide +kernel
theorem dX10_monthsGo_29 : decode cX10_monthsGo 29 = .ok (.iaload, 1) := by decide +kernel
theorem dX10_monthsGo_30 : decode cX10_monthsGo 30 = .ok (.sipush 9999, 3) := by decide +kernel
theorem dX10_monthsGo_33 : decode cX10_monthsGo 33 = .ok (.if_icmp .ge 13, 3) := by decide +kernel
theorem dX10_monthsGo_36 : decode cX10_monthsGo 36 = .ok (.aload_n 0, 1) := by decide +kernel
theorem dX10_monthsGo_37 : decode cX10_monthsGo 37 = .ok (.invokevirtual 326, 3) := by decide +kernel
theorem dX10_monthsGo_40 : decode cX10_monthsGo 40 = .ok (.iinc 2 1, 3) := by decide +kernel
theorem dX10_monthsGo_43 : decode cX10_monthsGo 43 = .ok (.goto (-26), 3) := by decide +kernel
theorem dX10_monthsGo_46 : decode cX10_monthsGo 46 = .ok (.return_, 1) := by decide +kernel
theorem dX10_months_0 : decode cX10_months 0 = .ok (.iload_n 1, 1) := by decide +kernel
theorem dX10_months_1 : decode cX10_months 1 = .ok (.iconst 1, 1) := by decide +kernel
theorem dX10_months_2 : decode cX10_months 2 = .ok (.bipush 60, 2) := by decide +kernel
theorem dX10_months_4 : decode cX10_months 4 = .ok (.invokestatic 134, 3) := by decide +kernel
theorem dX10_months_7 : decode cX10_months 7 = .ok (.ifCond .ne 5, 3) := by decide +kernel
theorem dX10_months_10 : decode cX10_months 10 = .ok (.iconst (-1), 1) := by decide +kernel
theorem dX10_months_11 : decode cX10_months 11 = .ok (.ireturn, 1) := by decide +kernel
theorem dX10_months_12 : decode cX10_months 12 = .ok (.aload_n 0, 1) := by decide +kernel
theorem dX10_months_13 : decode cX10_months 13 = .ok (.iload_n 1, 1) := by decide +kernel
theorem dX10_months_14 : decode cX10_months 14 = .ok (.invokevirtual 329, 3) := by decide +kernel
theorem dX10_months_17 : decode cX10_months 17 = .ok (.aload_n 0, 1) := by decide +kernel
theorem dX10_months_18 : decode cX10_months 18 = .ok (.getfield 311, 3) := by decide +kernel
theorem dX10_months_21 : decode cX10_months 21 = .ok (.ireturn, 1) := by decide +kernel
theorem dX10_tried_0 : decode cX10_tried 0 = .ok (.iload_n 1, 1) := by decide +kernel
theorem dX10_tried_1 : decode cX10_tried 1 = .ok (.iconst 1, 1) := by decide +kernel
theorem dX10_tried_2 : decode cX10_tried 2 = .ok (.bipush 60, 2) := by decide +kernel
theorem dX10_tried_4 : decode cX10_tried 4 = .ok (.invokestatic 134, 3) := by decide +kernel
theorem dX10_tried_7 : decode cX10_tried 7 = .ok (.ifCond .eq 34, 3) := by decide +kernel
theorem dX10_tried_10 : decode cX10_tried 10 = .ok (.iload_n 2, 1) := by decide +kernel
theorem dX10_tried_11 : decode cX10_tried 11 = .ok (.iconst 0, 1) := by decide +kernel
theorem dX10_tried_12 : decode cX10_tried 12 = .ok (.iconst 3, 1) := by decide +kernel
theorem dX10_tried_13 : decode cX10_tried 13 = .ok (.invokestatic 134, 3) := by decide +kernel
theorem dX10_tried_16 : decode cX10_tried 16 = .ok (.ifCond .ne 27, 3) := by decide +kernel
theorem dX10_tried_19 : decode cX10_tried 19 = .ok (.iload_n 2, 1) := by decide +kernel
theorem dX10_tried_20 : decode cX10_tried 20 = .ok (.bipush 10, 2) := by decide +kernel
theorem dX10_tried_22 : decode cX10_tried 22 = .ok (.bipush 15, 2) := by decide +kernel
theorem dX10_tried_24 : decode cX10_tried 24 = .ok (.invokestatic 134, 3) := by decide +kernel
theorem dX10_tried_27 : decode cX10_tried 27 = .ok (.ifCond .eq 14, 3) := by decide +kernel
theorem dX10_tried_30 : decode cX10_tried 30 = .ok (.aload_n 0, 1) := by decide +kernel
theorem dX10_tried_31 : decode cX10_tried 31 = .ok (.iload_n 2, 1) := by decide +kernel
theorem dX10_tried_32 : decode cX10_tried 32 = .ok (.bipush 10, 2) := by decide +kernel
theorem dX10_tried_34 : decode cX10_tried 34 = .ok (.isub, 1) := by decide +kernel
theorem dX10_tried_35 : decode cX10_tried 35 = .ok (.invokevirtual 264, 3) := by decide +kernel
theorem dX10_tried_38 : decode cX10_tried 38 = .ok (.ifCond .ne 5, 3) := by decide +kernel
theorem dX10_tried_41 : decode cX10_tried 41 = .ok (.iconst (-1), 1) := by decide +kernel
theorem dX10_tried_42 : decode cX10_tried 42 = .ok (.ireturn, 1) := by decide +kernel
theorem dX10_tried_43 : decode cX10_tried 43 = .ok (.aload_n 0, 1) := by decide +kernel
theorem dX10_tried_44 : decode cX10_tried 44 = .ok (.getfield 7, 3) := by decide +kernel
theorem dX10_tried_47 : decode cX10_tried 47 = .ok (.aload_n 0, 1) := by decide +kernel
theorem dX10_tried_48 : decode cX10_tried 48 = .ok (.getfield 13, 3) := by decide +kernel
theorem dX10_tried_51 : decode cX10_tried 51 = .ok (.invokestatic 332, 3) := by decide +kernel
theorem dX10_tried_54 : decode cX10_tried 54 = .ok (.aload_n 0, 1) := by decide +kernel
theorem dX10_tried_55 : decode cX10_tried 55 = .ok (.iload_n 1, 1) := by decide +kernel
theorem dX10_tried_56 : decode cX10_tried 56 = .ok (.invokevirtual 329, 3) := by decide +kernel
theorem dX10_tried_59 : decode cX10_tried 59 = .ok (.iload_n 2, 1) := by decide +kernel
theorem dX10_tried_60 : decode cX10_tried 60 = .ok (.ifCond .ne 10, 3) := by decide +kernel
theorem dX10_tried_63 : decode cX10_tried 63 = .ok (.aload_n 0, 1) := by decide +kernel
theorem dX10_tried_64 : decode cX10_tried 64 = .ok (.getfield 311, 3) := by decide +kernel
theorem dX10_tried_67 : decode cX10_tried 67 = .ok (.goto 65, 3) := by decide +kernel
theorem dX10_tried_70 : decode cX10_tried 70 = .ok (.iload_n 2, 1) := by decide +kernel
theorem dX10_tried_71 : decode cX10_tried 71 = .ok (.iconst 1, 1) := by decide +kernel
theorem dX10_tried_72 : decode cX10_tried 72 = .ok (.if_icmp .ne 10, 3) := by decide +kernel
theorem dX10_tried_75 : decode cX10_tried 75 = .ok (.aload_n 0, 1) := by decide +kernel
theorem dX10_tried_76 : decode cX10_tried 76 = .ok (.getfield 308, 3) := by decide +kernel
theorem dX10_tried_79 : decode cX10_tried 79 = .ok (.goto 53, 3) := by decide +kernel
theorem dX10_tried_82 : decode cX10_tried 82 = .ok (.iload_n 2, 1) := by decide +kernel
theorem dX10_tried_83 : decode cX10_tried 83 = .ok (.iconst 2, 1) := by decide +kernel
theorem dX10_tried_84 : decode cX10_tried 84 = .ok (.if_icmp .ne 23, 3) := by decide +kernel
theorem dX10_tried_87 : decode cX10_tried 87 = .ok (.aload_n 0, 1) := by decide +kernel
theorem dX10_tried_88 : decode cX10_tried 88 = .ok (.getfield 7, 3) := by decide +kernel
theorem dX10_tried_91 : decode cX10_tried 91 = .ok (.sipush 149, 3) := by decide +kernel
theorem dX10_tried_94 : decode cX10_tried 94 = .ok (.iaload, 1) := by decide +kernel
theorem dX10_tried_95 : decode cX10_tried 95 = .ok (.aload_n 0, 1) := by decide +kernel
theorem dX10_tried_96 : decode cX10_tried 96 = .ok (.getfield 13, 3) := by decide +kernel
theorem dX10_tried_99 : decode cX10_tried 99 = .ok (.sipush 149, 3) := by decide +kernel
theorem dX10_tried_102 : decode cX10_tried 102 = .ok (.iaload, 1) := by decide +kernel
theorem dX10_tried_103 : decode cX10_tried 103 = .ok (.isub, 1) := by decide +kernel
theorem dX10_tried_104 : decode cX10_tried 104 = .ok (.goto 28, 3) := by decide +kernel
theorem dX10_tried_107 : decode cX10_tried 107 = .ok (.iload_n 2, 1) := by decide +kernel
theorem dX10_tried_108 : decode cX10_tried 108 = .ok (.iconst 3, 1) := by decide +kernel
theorem dX10_tried_109 : decode cX10_tried 109 = .ok (.if_icmp .ne 10, 3) := by decide +kernel
theorem dX10_tried_112 : decode cX10_tried 112 = .ok (.aload_n 0, 1) := by decide +kernel
theorem dX10_tried_113 : decode cX10_tried 113 = .ok (.getfield 323, 3) := by decide +kernel
theorem dX10_tried_116 : decode cX10_tried 116 = .ok (.goto 16, 3) := by decide +kernel
theorem dX10_tried_119 : decode cX10_tried 119 = .ok (.aload_n 0, 1) := by decide +kernel
theorem dX10_tried_120 : decode cX10_tried 120 = .ok (.getfield 7, 3) := by decide +kernel
theorem dX10_tried_123 : decode cX10_tried 123 = .ok (.sipush 138, 3) := by decide +kernel
theorem dX10_tried_126 : decode cX10_tried 126 = .ok (.iload_n 2, 1) := by decide +kernel
theorem dX10_tried_127 : decode cX10_tried 127 = .ok (.iadd, 1) := by decide +kernel
theorem dX10_tried_128 : decode cX10_tried 128 = .ok (.bipush 10, 2) := by decide +kernel
theorem dX10_tried_130 : decode cX10_tried 130 = .ok (.isub, 1) := by decide +kernel
theorem dX10_tried_131 : decode cX10_tried 131 = .ok (.iaload, 1) := by decide +kernel
theorem dX10_tried_132 : decode cX10_tried 132 = .ok (.istore_n 3, 1) := by decide +kernel
theorem dX10_tried_133 : decode cX10_tried 133 = .ok (.aload_n 0, 1) := by decide +kernel
theorem dX10_tried_134 : decode cX10_tried 134 = .ok (.getfield 13, 3) := by decide +kernel
theorem dX10_tried_137 : decode cX10_tried 137 = .ok (.aload_n 0, 1) := by decide +kernel
theorem dX10_tried_138 : decode cX10_tried 138 = .ok (.getfield 7, 3) := by decide +kernel
theorem dX10_tried_141 : decode cX10_tried 141 = .ok (.invokestatic 332, 3) := by decide +kernel
theorem dX10_tried_144 : decode cX10_tried 144 = .ok (.iload_n 3, 1) := by decide +kernel
theorem dX10_tried_145 : decode cX10_tried 145 = .ok (.ireturn, 1) := by decide +kernel
theorem dX10_knownSet_0 : decode cX10_knownSet 0 = .ok (.iconst 0, 1) := by decide +kernel
theorem dX10_knownSet_1 : decode cX10_knownSet 1 = .ok (.istore_n 2, 1) := by decide +kernel
theorem dX10_knownSet_2 : decode cX10_knownSet 2 = .ok (.iconst 0, 1) := by decide +kernel
theorem dX10_knownSet_3 : decode cX10_knownSet 3 = .ok (.istore_n 3, 1) := by decide +kernel
theorem dX10_knownSet_4 : decode cX10_knownSet 4 = .ok (.iload_n 3, 1) := by decide +kernel
theorem dX10_knownSet_5 : decode cX10_knownSet 5 = .ok (.bipush 12, 2) := by decide +kernel
theorem dX10_knownSet_7 : decode cX10_knownSet 7 = .ok (.if_icmp .ge 28, 3) := by decide +kernel
theorem dX10_knownSet_10 : decode cX10_knownSet 10 = .ok (.iload_n 2, 1) := by decide +kernel
theorem dX10_knownSet_11 : decode cX10_knownSet 11 = .ok (.aload_n 0, 1) := by decide +kernel
theorem dX10_knownSet_12 : decode cX10_knownSet 12 = .ok (.iload_n 1, 1) := by decide +kernel
theorem dX10_knownSet_13 : decode cX10_knownSet 13 = .ok (.iload_n 3, 1) := by decide +kernel
theorem dX10_knownSet_14 : decode cX10_knownSet 14 = .ok (.invokevirtual 284, 3) := by decide +kernel
theorem dX10_knownSet_17 : decode cX10_knownSet 17 = .ok (.ifCond .eq 9, 3) := by decide +kernel
theorem dX10_knownSet_20 : decode cX10_knownSet 20 = .ok (.iconst 1, 1) := by decide +kernel
theorem dX10_knownSet_21 : decode cX10_knownSet 21 = .ok (.iload_n 3, 1) := by decide +kernel
theorem dX10_knownSet_22 : decode cX10_knownSet 22 = .ok (.ishl, 1) := by decide +kernel
theorem dX10_knownSet_23 : decode cX10_knownSet 23 = .ok (.goto 4, 3) := by decide +kernel
theorem dX10_knownSet_26 : decode cX10_knownSet 26 = .ok (.iconst 0, 1) := by decide +kernel
theorem dX10_knownSet_27 : decode cX10_knownSet 27 = .ok (.ior, 1) := by decide +kernel
theorem dX10_knownSet_28 : decode cX10_knownSet 28 = .ok (.istore_n 2, 1) := by decide +kernel
theorem dX10_knownSet_29 : decode cX10_knownSet 29 = .ok (.iinc 3 1, 3) := by decide +kernel
theorem dX10_knownSet_32 : decode cX10_knownSet 32 = .ok (.goto (-28), 3) := by decide +kernel
theorem dX10_knownSet_35 : decode cX10_knownSet 35 = .ok (.iload_n 2, 1) := by decide +kernel
theorem dX10_knownSet_36 : decode cX10_knownSet 36 = .ok (.ireturn, 1) := by decide +kernel
theorem dX10_parishIs_0 : decode cX10_parishIs 0 = .ok (.aload_n 0, 1) := by decide +kernel
theorem dX10_parishIs_1 : decode cX10_parishIs 1 = .ok (.iload_n 1, 1) := by decide +kernel
theorem dX10_parishIs_2 : decode cX10_parishIs 2 = .ok (.invokevirtual 146, 3) := by decide +kernel
theorem dX10_parishIs_5 : decode cX10_parishIs 5 = .ok (.ifCond .eq 12, 3) := by decide +kernel
theorem dX10_parishIs_8 : decode cX10_parishIs 8 = .ok (.iload_n 2, 1) := by decide +kernel
theorem dX10_parishIs_9 : decode cX10_parishIs 9 = .ok (.iconst 0, 1) := by decide +kernel
theorem dX10_parishIs_10 : decode cX10_parishIs 10 = .ok (.iconst 3, 1) := by decide +kernel
theorem dX10_parishIs_11 : decode cX10_parishIs 11 = .ok (.invokestatic 134, 3) := by decide +kernel
theorem dX10_parishIs_14 : decode cX10_parishIs 14 = .ok (.ifCond .ne 5, 3) := by decide +kernel
theorem dX10_parishIs_17 : decode cX10_parishIs 17 = .ok (.iconst (-1), 1) := by decide +kernel
theorem dX10_parishIs_18 : decode cX10_parishIs 18 = .ok (.ireturn, 1) := by decide +kernel
theorem dX10_parishIs_19 : decode cX10_parishIs 19 = .ok (.iload_n 2, 1) := by decide +kernel
theorem dX10_parishIs_20 : decode cX10_parishIs 20 = .ok (.iconst 2, 1) := by decide +kernel
theorem dX10_parishIs_21 : decode cX10_parishIs 21 = .ok (.if_icmp .ge 24, 3) := by decide +kernel
theorem dX10_parishIs_24 : decode cX10_parishIs 24 = .ok (.iload_n 2, 1) := by decide +kernel
theorem dX10_parishIs_25 : decode cX10_parishIs 25 = .ok (.ifCond .ne 14, 3) := by decide +kernel
theorem dX10_parishIs_28 : decode cX10_parishIs 28 = .ok (.aload_n 0, 1) := by decide +kernel
theorem dX10_parishIs_29 : decode cX10_parishIs 29 = .ok (.getfield 7, 3) := by decide +kernel
theorem dX10_parishIs_32 : decode cX10_parishIs 32 = .ok (.iconst 0, 1) := by decide +kernel
theorem dX10_parishIs_33 : decode cX10_parishIs 33 = .ok (.iload_n 1, 1) := by decide +kernel
theorem dX10_parishIs_34 : decode cX10_parishIs 34 = .ok (.iadd, 1) := by decide +kernel
theorem dX10_parishIs_35 : decode cX10_parishIs 35 = .ok (.iaload, 1) := by decide +kernel
theorem dX10_parishIs_36 : decode cX10_parishIs 36 = .ok (.goto 8, 3) := by decide +kernel
theorem dX10_parishIs_39 : decode cX10_parishIs 39 = .ok (.aload_n 0, 1) := by decide +kernel
theorem dX10_parishIs_40 : decode cX10_parishIs 40 = .ok (.iload_n 1, 1) := by decide +kernel
theorem dX10_parishIs_41 : decode cX10_parishIs 41 = .ok (.invokevirtual 287, 3) := by decide +kernel
theorem dX10_parishIs_44 : decode cX10_parishIs 44 = .ok (.ireturn, 1) := by decide +kernel
theorem dX10_parishIs_45 : decode cX10_parishIs 45 = .ok (.iconst 0, 1) := by decide +kernel
theorem dX10_parishIs_46 : decode cX10_parishIs 46 = .ok (.istore_n 3, 1) := by decide +kernel
theorem dX10_parishIs_47 : decode cX10_parishIs 47 = .ok (.iconst 0, 1) := by decide +kernel
theorem dX10_parishIs_48 : decode cX10_parishIs 48 = .ok (.istore 4, 2) := by decide +kernel
theorem dX10_parishIs_50 : decode cX10_parishIs 50 = .ok (.iload 4, 2) := by decide +kernel
theorem dX10_parishIs_52 : decode cX10_parishIs 52 = .ok (.bipush 6, 2) := by decide +kernel
theorem dX10_parishIs_54 : decode cX10_parishIs 54 = .ok (.if_icmp .ge 61, 3) := by decide +kernel
theorem dX10_parishIs_57 : decode cX10_parishIs 57 = .ok (.iload_n 2, 1) := by decide +kernel
theorem dX10_parishIs_58 : decode cX10_parishIs 58 = .ok (.iconst 2, 1) := by decide +kernel
theorem dX10_parishIs_59 : decode cX10_parishIs 59 = .ok (.if_icmp .ne 13, 3) := by decide +kernel
theorem dX10_parishIs_62 : decode cX10_parishIs 62 = .ok (.aload_n 0, 1) := by decide +kernel
theorem dX10_parishIs_63 : decode cX10_parishIs 63 = .ok (.iload 4, 2) := by decide +kernel
theorem dX10_parishIs_65 : decode cX10_parishIs 65 = .ok (.iload_n 1, 1) := by decide +kernel
theorem dX10_parishIs_66 : decode cX10_parishIs 66 = .ok (.invokevirtual 284, 3) := by decide +kernel
theorem dX10_parishIs_69 : decode cX10_parishIs 69 = .ok (.goto 17, 3) := by decide +kernel
theorem dX10_parishIs_72 : decode cX10_parishIs 72 = .ok (.aload_n 0, 1) := by decide +kernel
theorem dX10_parishIs_73 : decode cX10_parishIs 73 = .ok (.getfield 7, 3) := by decide +kernel
theorem dX10_parishIs_76 : decode cX10_parishIs 76 = .ok (.bipush 84, 2) := by decide +kernel
theorem dX10_parishIs_78 : decode cX10_parishIs 78 = .ok (.iload 4, 2) := by decide +kernel
theorem dX10_parishIs_80 : decode cX10_parishIs 80 = .ok (.iadd, 1) := by decide +kernel
theorem dX10_parishIs_81 : decode cX10_parishIs 81 = .ok (.iaload, 1) := by decide +kernel
theorem dX10_parishIs_82 : decode cX10_parishIs 82 = .ok (.iload_n 1, 1) := by decide +kernel
theorem dX10_parishIs_83 : decode cX10_parishIs 83 = .ok (.invokestatic 138, 3) := by decide +kernel
theorem dX10_parishIs_86 : decode cX10_parishIs 86 = .ok (.istore 5, 2) := by decide +kernel
theorem dX10_parishIs_88 : decode cX10_parishIs 88 = .ok (.aload_n 0, 1) := by decide +kernel
theorem dX10_parishIs_89 : decode cX10_parishIs 89 = .ok (.iload 4, 2) := by decide +kernel
theorem dX10_parishIs_91 : decode cX10_parishIs 91 = .ok (.invokevirtual 264, 3) := by decide +kernel
theorem dX10_parishIs_94 : decode cX10_parishIs 94 = .ok (.ifCond .eq 15, 3) := by decide +kernel
theorem dX10_parishIs_97 : decode cX10_parishIs 97 = .ok (.iload 5, 2) := by decide +kernel
theorem dX10_parishIs_99 : decode cX10_parishIs 99 = .ok (.ifCond .eq 10, 3) := by decide +kernel
theorem dX10_parishIs_102 : decode cX10_parishIs 102 = .ok (.iload_n 3, 1) := by decide +kernel
theorem dX10_parishIs_103 : decode cX10_parishIs 103 = .ok (.iconst 1, 1) := by decide +kernel
theorem dX10_parishIs_104 : decode cX10_parishIs 104 = .ok (.iload 4, 2) := by decide +kernel
theorem dX10_parishIs_106 : decode cX10_parishIs 106 = .ok (.ishl, 1) := by decide +kernel
theorem dX10_parishIs_107 : decode cX10_parishIs 107 = .ok (.ior, 1) := by decide +kernel
theorem dX10_parishIs_108 : decode cX10_parishIs 108 = .ok (.istore_n 3, 1) := by decide +kernel
theorem dX10_parishIs_109 : decode cX10_parishIs 109 = .ok (.iinc 4 1, 3) := by decide +kernel
theorem dX10_parishIs_112 : decode cX10_parishIs 112 = .ok (.goto (-62), 3) := by decide +kernel
theorem dX10_parishIs_115 : decode cX10_parishIs 115 = .ok (.iload_n 3, 1) := by decide +kernel
theorem dX10_parishIs_116 : decode cX10_parishIs 116 = .ok (.ireturn, 1) := by decide +kernel
theorem dX10_letterIs_0 : decode cX10_letterIs 0 = .ok (.aload_n 0, 1) := by decide +kernel
theorem dX10_letterIs_1 : decode cX10_letterIs 1 = .ok (.iload_n 1, 1) := by decide +kernel
theorem dX10_letterIs_2 : decode cX10_letterIs 2 = .ok (.invokevirtual 264, 3) := by decide +kernel
theorem dX10_letterIs_5 : decode cX10_letterIs 5 = .ok (.ifCond .ne 5, 3) := by decide +kernel
theorem dX10_letterIs_8 : decode cX10_letterIs 8 = .ok (.iconst (-1), 1) := by decide +kernel
theorem dX10_letterIs_9 : decode cX10_letterIs 9 = .ok (.ireturn, 1) := by decide +kernel
theorem dX10_letterIs_10 : decode cX10_letterIs 10 = .ok (.iload_n 2, 1) := by decide +kernel
theorem dX10_letterIs_11 : decode cX10_letterIs 11 = .ok (.tableswitch 106 0 5 #[37, 47, 58, 69, 90, 96], 37) := by decide +kernel
theorem dX10_letterIs_48 : decode cX10_letterIs 48 = .ok (.aload_n 0, 1) := by decide +kernel
theorem dX10_letterIs_49 : decode cX10_letterIs 49 = .ok (.getfield 7, 3) := by decide +kernel
theorem dX10_letterIs_52 : decode cX10_letterIs 52 = .ok (.bipush 126, 2) := by decide +kernel
theorem dX10_letterIs_54 : decode cX10_letterIs 54 = .ok (.iload_n 1, 1) := by decide +kernel
theorem dX10_letterIs_55 : decode cX10_letterIs 55 = .ok (.iadd, 1) := by decide +kernel
theorem dX10_letterIs_56 : decode cX10_letterIs 56 = .ok (.iaload, 1) := by decide +kernel
theorem dX10_letterIs_57 : decode cX10_letterIs 57 = .ok (.ireturn, 1) := by decide +kernel
theorem dX10_letterIs_58 : decode cX10_letterIs 58 = .ok (.aload_n 0, 1) := by decide +kernel
theorem dX10_letterIs_59 : decode cX10_letterIs 59 = .ok (.getfield 7, 3) := by decide +kernel
theorem dX10_letterIs_62 : decode cX10_letterIs 62 = .ok (.sipush 132, 3) := by decide +kernel
theorem dX10_letterIs_65 : decode cX10_letterIs 65 = .ok (.iload_n 1, 1) := by decide +kernel
theorem dX10_letterIs_66 : decode cX10_letterIs 66 = .ok (.iadd, 1) := by decide +kernel
theorem dX10_letterIs_67 : decode cX10_letterIs 67 = .ok (.iaload, 1) := by decide +kernel
theorem dX10_letterIs_68 : decode cX10_letterIs 68 = .ok (.ireturn, 1) := by decide +kernel
theorem dX10_letterIs_69 : decode cX10_letterIs 69 = .ok (.aload_n 0, 1) := by decide +kernel
theorem dX10_letterIs_70 : decode cX10_letterIs 70 = .ok (.getfield 7, 3) := by decide +kernel
theorem dX10_letterIs_73 : decode cX10_letterIs 73 = .ok (.sipush 138, 3) := by decide +kernel
theorem dX10_letterIs_76 : decode cX10_letterIs 76 = .ok (.iload_n 1, 1) := by decide +kernel
theorem dX10_letterIs_77 : decode cX10_letterIs 77 = .ok (.iadd, 1) := by decide +kernel
theorem dX10_letterIs_78 : decode cX10_letterIs 78 = .ok (.iaload, 1) := by decide +kernel
theorem dX10_letterIs_79 : decode cX10_letterIs 79 = .ok (.ireturn, 1) := by decide +kernel
theorem dX10_letterIs_80 : decode cX10_letterIs 80 = .ok (.aload_n 0, 1) := by decide +kernel
theorem dX10_letterIs_81 : decode cX10_letterIs 81 = .ok (.getfield 7, 3) := by decide +kernel
theorem dX10_letterIs_84 : decode cX10_letterIs 84 = .ok (.sipush 144, 3) := by decide +kernel
theorem dX10_letterIs_87 : decode cX10_letterIs 87 = .ok (.iaload, 1) := by decide +kernel
theorem dX10_letterIs_88 : decode cX10_letterIs 88 = .ok (.iload_n 1, 1) := by decide +kernel
theorem dX10_letterIs_89 : decode cX10_letterIs 89 = .ok (.invokestatic 138, 3) := by decide +kernel
theorem dX10_letterIs_92 : decode cX10_letterIs 92 = .ok (.ifCond .eq 7, 3) := by decide +kernel
theorem dX10_letterIs_95 : decode cX10_letterIs 95 = .ok (.iconst 1, 1) := by decide +kernel
theorem dX10_letterIs_96 : decode cX10_letterIs 96 = .ok (.goto 4, 3) := by decide +kernel
theorem dX10_letterIs_99 : decode cX10_letterIs 99 = .ok (.iconst 0, 1) := by decide +kernel
theorem dX10_letterIs_100 : decode cX10_letterIs 100 = .ok (.ireturn, 1) := by decide +kernel
theorem dX10_letterIs_101 : decode cX10_letterIs 101 = .ok (.aload_n 0, 1) := by decide +kernel
theorem dX10_letterIs_102 : decode cX10_letterIs 102 = .ok (.iload_n 1, 1) := by decide +kernel
theorem dX10_letterIs_103 : decode cX10_letterIs 103 = .ok (.invokevirtual 336, 3) := by decide +kernel
theorem dX10_letterIs_106 : decode cX10_letterIs 106 = .ok (.ireturn, 1) := by decide +kernel
theorem dX10_letterIs_107 : decode cX10_letterIs 107 = .ok (.aload_n 0, 1) := by decide +kernel
theorem dX10_letterIs_108 : decode cX10_letterIs 108 = .ok (.getfield 7, 3) := by decide +kernel
theorem dX10_letterIs_111 : decode cX10_letterIs 111 = .ok (.bipush 84, 2) := by decide +kernel
theorem dX10_letterIs_113 : decode cX10_letterIs 113 = .ok (.iload_n 1, 1) := by decide +kernel
theorem dX10_letterIs_114 : decode cX10_letterIs 114 = .ok (.iadd, 1) := by decide +kernel
theorem dX10_letterIs_115 : decode cX10_letterIs 115 = .ok (.iaload, 1) := by decide +kernel
theorem dX10_letterIs_116 : decode cX10_letterIs 116 = .ok (.ireturn, 1) := by decide +kernel
theorem dX10_letterIs_117 : decode cX10_letterIs 117 = .ok (.iconst (-1), 1) := by decide +kernel
theorem dX10_letterIs_118 : decode cX10_letterIs 118 = .ok (.ireturn, 1) := by decide +kernel
theorem dX10_toldAt_0 : decode cX10_toldAt 0 = .ok (.aload_n 0, 1) := by decide +kernel
theorem dX10_toldAt_1 : decode cX10_toldAt 1 = .ok (.iload_n 1, 1) := by decide +kernel
theorem dX10_toldAt_2 : decode cX10_toldAt 2 = .ok (.invokevirtual 264, 3) := by decide +kernel
theorem dX10_toldAt_5 : decode cX10_toldAt 5 = .ok (.ifCond .eq 11, 3) := by decide +kernel
theorem dX10_toldAt_8 : decode cX10_toldAt 8 = .ok (.aload_n 0, 1) := by decide +kernel
theorem dX10_toldAt_9 : decode cX10_toldAt 9 = .ok (.iload_n 2, 1) := by decide +kernel
theorem dX10_toldAt_10 : decode cX10_toldAt 10 = .ok (.invokevirtual 146, 3) := by decide +kernel
theorem dX10_toldAt_13 : decode cX10_toldAt 13 = .ok (.ifCond .ne 5, 3) := by decide +kernel
theorem dX10_toldAt_16 : decode cX10_toldAt 16 = .ok (.iconst (-1), 1) := by decide +kernel
theorem dX10_toldAt_17 : decode cX10_toldAt 17 = .ok (.ireturn, 1) := by decide +kernel
theorem dX10_toldAt_18 : decode cX10_toldAt 18 = .ok (.aload_n 0, 1) := by decide +kernel
theorem dX10_toldAt_19 : decode cX10_toldAt 19 = .ok (.iload_n 1, 1) := by decide +kernel
theorem dX10_toldAt_20 : decode cX10_toldAt 20 = .ok (.iload_n 2, 1) := by decide +kernel
theorem dX10_toldAt_21 : decode cX10_toldAt 21 = .ok (.invokevirtual 284, 3) := by decide +kernel
theorem dX10_toldAt_24 : decode cX10_toldAt 24 = .ok (.ifCond .eq 16, 3) := by decide +kernel
theorem dX10_toldAt_27 : decode cX10_toldAt 27 = .ok (.aload_n 0, 1) := by decide +kernel
theorem dX10_toldAt_28 : decode cX10_toldAt 28 = .ok (.getfield 7, 3) := by decide +kernel
theorem dX10_toldAt_31 : decode cX10_toldAt 31 = .ok (.iload_n 1, 1) := by decide +kernel
theorem dX10_toldAt_32 : decode cX10_toldAt 32 = .ok (.iload_n 2, 1) := by decide +kernel
theorem dX10_toldAt_33 : decode cX10_toldAt 33 = .ok (.invokestatic 142, 3) := by decide +kernel
theorem dX10_toldAt_36 : decode cX10_toldAt 36 = .ok (.iaload, 1) := by decide +kernel
theorem dX10_toldAt_37 : decode cX10_toldAt 37 = .ok (.goto 5, 3) := by decide +kernel
theorem dX10_toldAt_40 : decode cX10_toldAt 40 = .ok (.bipush (-2), 2) := by decide +kernel
theorem dX10_toldAt_42 : decode cX10_toldAt 42 = .ok (.ireturn, 1) := by decide +kernel
theorem dX10_spreads_0 : decode cX10_spreads 0 = .ok (.aload_n 0, 1) := by decide +kernel
theorem dX10_spreads_1 : decode cX10_spreads 1 = .ok (.iload_n 1, 1) := by decide +kernel
theorem dX10_spreads_2 : decode cX10_spreads 2 = .ok (.invokevirtual 264, 3) := by decide +kernel
theorem dX10_spreads_5 : decode cX10_spreads 5 = .ok (.ifCond .eq 22, 3) := by decide +kernel
theorem dX10_spreads_8 : decode cX10_spreads 8 = .ok (.iload_n 2, 1) := by decide +kernel
theorem dX10_spreads_9 : decode cX10_spreads 9 = .ok (.bipush 100, 2) := by decide +kernel
theorem dX10_spreads_11 : decode cX10_spreads 11 = .ok (.bipush 102, 2) := by decide +kernel
theorem dX10_spreads_13 : decode cX10_spreads 13 = .ok (.invokestatic 134, 3) := by decide +kernel
theorem dX10_spreads_16 : decode cX10_spreads 16 = .ok (.ifCond .ne 13, 3) := by decide +kernel
theorem dX10_spreads_19 : decode cX10_spreads 19 = .ok (.aload_n 0, 1) := by decide +kernel
theorem dX10_spreads_20 : decode cX10_spreads 20 = .ok (.iload_n 2, 1) := by decide +kernel
theorem dX10_spreads_21 : decode cX10_spreads 21 = .ok (.invokevirtual 146, 3) := by decide +kernel
theorem dX10_spreads_24 : decode cX10_spreads 24 = .ok (.ifCond .ne 5, 3) := by decide +kernel
theorem dX10_spreads_27 : decode cX10_spreads 27 = .ok (.iconst (-1), 1) := by decide +kernel
theorem dX10_spreads_28 : decode cX10_spreads 28 = .ok (.ireturn, 1) := by decide +kernel
theorem dX10_spreads_29 : decode cX10_spreads 29 = .ok (.aload_n 0, 1) := by decide +kernel
theorem dX10_spreads_30 : decode cX10_spreads 30 = .ok (.getfield 7, 3) := by decide +kernel
theorem dX10_spreads_33 : decode cX10_spreads 33 = .ok (.sipush 144, 3) := by decide +kernel
theorem dX10_spreads_36 : decode cX10_spreads 36 = .ok (.iaload, 1) := by decide +kernel
theorem dX10_spreads_37 : decode cX10_spreads 37 = .ok (.iload_n 1, 1) := by decide +kernel
theorem dX10_spreads_38 : decode cX10_spreads 38 = .ok (.invokestatic 138, 3) := by decide +kernel
theorem dX10_spreads_41 : decode cX10_spreads 41 = .ok (.ifCond .ne 6, 3) := by decide +kernel
theorem dX10_spreads_44 : decode cX10_spreads 44 = .ok (.bipush (-3), 2) := by decide +kernel
theorem dX10_spreads_46 : decode cX10_spreads 46 = .ok (.ireturn, 1) := by decide +kernel
theorem dX10_spreads_47 : decode cX10_spreads 47 = .ok (.aload_n 0, 1) := by decide +kernel
theorem dX10_spreads_48 : decode cX10_spreads 48 = .ok (.getfield 7, 3) := by decide +kernel
theorem dX10_spreads_51 : decode cX10_spreads 51 = .ok (.aload_n 0, 1) := by decide +kernel
theorem dX10_spreads_52 : decode cX10_spreads 52 = .ok (.getfield 13, 3) := by decide +kernel
theorem dX10_spreads_55 : decode cX10_spreads 55 = .ok (.invokestatic 332, 3) := by decide +kernel
theorem dX10_spreads_58 : decode cX10_spreads 58 = .ok (.iconst 0, 1) := by decide +kernel
theorem dX10_spreads_59 : decode cX10_spreads 59 = .ok (.istore_n 3, 1) := by decide +kernel
theorem dX10_spreads_60 : decode cX10_spreads 60 = .ok (.iload_n 3, 1) := by decide +kernel
theorem dX10_spreads_61 : decode cX10_spreads 61 = .ok (.bipush 12, 2) := by decide +kernel
theorem dX10_spreads_63 : decode cX10_spreads 63 = .ok (.if_icmp .ge 30, 3) := by decide +kernel
theorem dX10_spreads_66 : decode cX10_spreads 66 = .ok (.aload_n 0, 1) := by decide +kernel
theorem dX10_spreads_67 : decode cX10_spreads 67 = .ok (.getfield 80, 3) := by decide +kernel
theorem dX10_spreads_70 : decode cX10_spreads 70 = .ok (.iload_n 3, 1) := by decide +kernel
theorem dX10_spreads_71 : decode cX10_spreads 71 = .ok (.aload_n 0, 1) := by decide +kernel
theorem dX10_spreads_72 : decode cX10_spreads 72 = .ok (.iload_n 1, 1) := by decide +kernel
theorem dX10_spreads_73 : decode cX10_spreads 73 = .ok (.iload_n 3, 1) := by decide +kernel
theorem dX10_spreads_74 : decode cX10_spreads 74 = .ok (.invokevirtual 284, 3) := by decide +kernel
theorem dX10_spreads_77 : decode cX10_spreads 77 = .ok (.ifCond .eq 7, 3) := by decide +kernel
theorem dX10_spreads_80 : decode cX10_spreads 80 = .ok (.iconst 0, 1) := by decide +kernel
theorem dX10_spreads_81 : decode cX10_spreads 81 = .ok (.goto 5, 3) := by decide +kernel
theorem dX10_spreads_84 : decode cX10_spreads 84 = .ok (.bipush (-2), 2) := by decide +kernel
theorem dX10_spreads_86 : decode cX10_spreads 86 = .ok (.iastore, 1) := by decide +kernel
theorem dX10_spreads_87 : decode cX10_spreads 87 = .ok (.iinc 3 1, 3) := by decide +kernel
theorem dX10_spreads_90 : decode cX10_spreads 90 = .ok (.goto (-30), 3) := by decide +kernel
theorem dX10_spreads_93 : decode cX10_spreads 93 = .ok (.iconst 1, 1) := by decide +kernel
theorem dX10_spreads_94 : decode cX10_spreads 94 = .ok (.istore_n 3, 1) := by decide +kernel
theorem dX10_spreads_95 : decode cX10_spreads 95 = .ok (.iload_n 3, 1) := by decide +kernel
theorem dX10_spreads_96 : decode cX10_spreads 96 = .ok (.bipush 100, 2) := by decide +kernel
theorem dX10_spreads_98 : decode cX10_spreads 98 = .ok (.if_icmp .gt 73, 3) := by decide +kernel
theorem dX10_spreads_101 : decode cX10_spreads 101 = .ok (.aload_n 0, 1) := by decide +kernel
theorem dX10_spreads_102 : decode cX10_spreads 102 = .ok (.iload_n 1, 1) := by decide +kernel
theorem dX10_spreads_103 : decode cX10_spreads 103 = .ok (.aload_n 0, 1) := by decide +kernel
theorem dX10_spreads_104 : decode cX10_spreads 104 = .ok (.getfield 7, 3) := by decide +kernel
theorem dX10_spreads_107 : decode cX10_spreads 107 = .ok (.sipush 147, 3) := by decide +kernel
theorem dX10_spreads_110 : decode cX10_spreads 110 = .ok (.iaload, 1) := by decide +kernel
theorem dX10_spreads_111 : decode cX10_spreads 111 = .ok (.iload_n 3, 1) := by decide +kernel
theorem dX10_spreads_112 : decode cX10_spreads 112 = .ok (.iadd, 1) := by decide +kernel
theorem dX10_spreads_113 : decode cX10_spreads 113 = .ok (.iconst 1, 1) := by decide +kernel
theorem dX10_spreads_114 : decode cX10_spreads 114 = .ok (.isub, 1) := by decide +kernel
theorem dX10_spreads_115 : decode cX10_spreads 115 = .ok (.invokevirtual 314, 3) := by decide +kernel
theorem dX10_spreads_118 : decode cX10_spreads 118 = .ok (.pop, 1) := by decide +kernel
theorem dX10_spreads_119 : decode cX10_spreads 119 = .ok (.iconst 0, 1) := by decide +kernel
theorem dX10_spreads_120 : decode cX10_spreads 120 = .ok (.istore 4, 2) := by decide +kernel
theorem dX10_spreads_122 : decode cX10_spreads 122 = .ok (.iload 4, 2) := by decide +kernel
theorem dX10_spreads_124 : decode cX10_spreads 124 = .ok (.bipush 12, 2) := by decide +kernel
theorem dX10_spreads_126 : decode cX10_spreads 126 = .ok (.if_icmp .ge 39, 3) := by decide +kernel
theorem dX10_spreads_129 : decode cX10_spreads 129 = .ok (.aload_n 0, 1) := by decide +kernel
theorem dX10_spreads_130 : decode cX10_spreads 130 = .ok (.getfield 80, 3) := by decide +kernel
theorem dX10_spreads_133 : decode cX10_spreads 133 = .ok (.iload 4, 2) := by decide +kernel
theorem dX10_spreads_135 : decode cX10_spreads 135 = .ok (.iaload, 1) := by decide +kernel
theorem dX10_spreads_136 : decode cX10_spreads 136 = .ok (.bipush (-2), 2) := by decide +kernel
theorem dX10_spreads_138 : decode cX10_spreads 138 = .ok (.if_icmp .ne 21, 3) := by decide +kernel
theorem dX10_spreads_141 : decode cX10_spreads 141 = .ok (.aload_n 0, 1) := by decide +kernel
theorem dX10_spreads_142 : decode cX10_spreads 142 = .ok (.iload_n 1, 1) := by decide +kernel
theorem dX10_spreads_143 : decode cX10_spreads 143 = .ok (.iload 4, 2) := by decide +kernel
theorem dX10_spreads_145 : decode cX10_spreads 145 = .ok (.invokevirtual 284, 3) := by decide +kernel
theorem dX10_spreads_148 : decode cX10_spreads 148 = .ok (.ifCond .eq 11, 3) := by decide +kernel
theorem dX10_spreads_151 : decode cX10_spreads 151 = .ok (.aload_n 0, 1) := by decide +kernel
theorem dX10_spreads_152 : decode cX10_spreads 152 = .ok (.getfield 80, 3) := by decide +kernel
theorem dX10_spreads_155 : decode cX10_spreads 155 = .ok (.iload 4, 2) := by decide +kernel
theorem dX10_spreads_157 : decode cX10_spreads 157 = .ok (.iload_n 3, 1) := by decide +kernel
theorem dX10_spreads_158 : decode cX10_spreads 158 = .ok (.iastore, 1) := by decide +kernel
theorem dX10_spreads_159 : decode cX10_spreads 159 = .ok (.iinc 4 1, 3) := by decide +kernel
theorem dX10_spreads_162 : decode cX10_spreads 162 = .ok (.goto (-40), 3) := by decide +kernel
theorem dX10_spreads_165 : decode cX10_spreads 165 = .ok (.iinc 3 1, 3) := by decide +kernel
theorem dX10_spreads_168 : decode cX10_spreads 168 = .ok (.goto (-73), 3) := by decide +kernel
theorem dX10_spreads_171 : decode cX10_spreads 171 = .ok (.aload_n 0, 1) := by decide +kernel
theorem dX10_spreads_172 : decode cX10_spreads 172 = .ok (.getfield 13, 3) := by decide +kernel
theorem dX10_spreads_175 : decode cX10_spreads 175 = .ok (.aload_n 0, 1) := by decide +kernel
theorem dX10_spreads_176 : decode cX10_spreads 176 = .ok (.getfield 7, 3) := by decide +kernel
theorem dX10_spreads_179 : decode cX10_spreads 179 = .ok (.invokestatic 332, 3) := by decide +kernel
theorem dX10_spreads_182 : decode cX10_spreads 182 = .ok (.iload_n 2, 1) := by decide +kernel
theorem dX10_spreads_183 : decode cX10_spreads 183 = .ok (.bipush 100, 2) := by decide +kernel
theorem dX10_spreads_185 : decode cX10_spreads 185 = .ok (.if_icmp .ge 10, 3) := by decide +kernel
theorem dX10_spreads_188 : decode cX10_spreads 188 = .ok (.aload_n 0, 1) := by decide +kernel
theorem dX10_spreads_189 : decode cX10_spreads 189 = .ok (.getfield 80, 3) := by decide +kernel
theorem dX10_spreads_192 : decode cX10_spreads 192 = .ok (.iload_n 2, 1) := by decide +kernel
theorem dX10_spreads_193 : decode cX10_spreads 193 = .ok (.iaload, 1) := by decide +kernel
theorem dX10_spreads_194 : decode cX10_spreads 194 = .ok (.ireturn, 1) := by decide +kernel
theorem dX10_spreads_195 : decode cX10_spreads 195 = .ok (.iconst 0, 1) := by decide +kernel
theorem dX10_spreads_196 : decode cX10_spreads 196 = .ok (.istore_n 3, 1) := by decide +kernel
theorem dX10_spreads_197 : decode cX10_spreads 197 = .ok (.bipush (-2), 2) := by decide +kernel
theorem dX10_spreads_199 : decode cX10_spreads 199 = .ok (.istore 4, 2) := by decide +kernel
theorem dX10_spreads_201 : decode cX10_spreads 201 = .ok (.bipush (-2), 2) := by decide +kernel
theorem dX10_spreads_203 : decode cX10_spreads 203 = .ok (.istore 5, 2) := by decide +kernel
theorem dX10_spreads_205 : decode cX10_spreads 205 = .ok (.iconst 0, 1) := by decide +kernel
theorem dX10_spreads_206 : decode cX10_spreads 206 = .ok (.istore 6, 2) := by decide +kernel
theorem dX10_spreads_208 : decode cX10_spreads 208 = .ok (.iload 6, 2) := by decide +kernel
theorem dX10_spreads_210 : decode cX10_spreads 210 = .ok (.bipush 12, 2) := by decide +kernel
theorem dX10_spreads_212 : decode cX10_spreads 212 = .ok (.if_icmp .ge 56, 3) := by decide +kernel
theorem dX10_spreads_215 : decode cX10_spreads 215 = .ok (.aload_n 0, 1) := by decide +kernel
theorem dX10_spreads_216 : decode cX10_spreads 216 = .ok (.getfield 80, 3) := by decide +kernel
theorem dX10_spreads_219 : decode cX10_spreads 219 = .ok (.iload 6, 2) := by decide +kernel
theorem dX10_spreads_221 : decode cX10_spreads 221 = .ok (.iaload, 1) := by decide +kernel
theorem dX10_spreads_222 : decode cX10_spreads 222 = .ok (.bipush (-2), 2) := by decide +kernel
theorem dX10_spreads_224 : decode cX10_spreads 224 = .ok (.if_icmp .ne 6, 3) := by decide +kernel
theorem dX10_spreads_227 : decode cX10_spreads 227 = .ok (.goto 35, 3) := by decide +kernel
theorem dX10_spreads_230 : decode cX10_spreads 230 = .ok (.iload_n 3, 1) := by decide +kernel
theorem dX10_spreads_231 : decode cX10_spreads 231 = .ok (.iconst 1, 1) := by decide +kernel
theorem dX10_spreads_232 : decode cX10_spreads 232 = .ok (.iadd, 1) := by decide +kernel
theorem dX10_spreads_233 : decode cX10_spreads 233 = .ok (.istore_n 3, 1) := by decide +kernel
theorem dX10_spreads_234 : decode cX10_spreads 234 = .ok (.aload_n 0, 1) := by decide +kernel
theorem dX10_spreads_235 : decode cX10_spreads 235 = .ok (.getfield 80, 3) := by decide +kernel
theorem dX10_spreads_238 : decode cX10_spreads 238 = .ok (.iload 6, 2) := by decide +kernel
theorem dX10_spreads_240 : decode cX10_spreads 240 = .ok (.iaload, 1) := by decide +kernel
theorem dX10_spreads_241 : decode cX10_spreads 241 = .ok (.iload 4, 2) := by decide +kernel
theorem dX10_spreads_243 : decode cX10_spreads 243 = .ok (.if_icmp .gt 6, 3) := by decide +kernel
theorem dX10_spreads_246 : decode cX10_spreads 246 = .ok (.goto 16, 3) := by decide +kernel
theorem dX10_spreads_249 : decode cX10_spreads 249 = .ok (.aload_n 0, 1) := by decide +kernel
theorem dX10_spreads_250 : decode cX10_spreads 250 = .ok (.getfield 80, 3) := by decide +kernel
theorem dX10_spreads_253 : decode cX10_spreads 253 = .ok (.iload 6, 2) := by decide +kernel
theorem dX10_spreads_255 : decode cX10_spreads 255 = .ok (.iaload, 1) := by decide +kernel
theorem dX10_spreads_256 : decode cX10_spreads 256 = .ok (.istore 4, 2) := by decide +kernel
theorem dX10_spreads_258 : decode cX10_spreads 258 = .ok (.iload 6, 2) := by decide +kernel
theorem dX10_spreads_260 : decode cX10_spreads 260 = .ok (.istore 5, 2) := by decide +kernel
theorem dX10_spreads_262 : decode cX10_spreads 262 = .ok (.iinc 6 1, 3) := by decide +kernel
theorem dX10_spreads_265 : decode cX10_spreads 265 = .ok (.goto (-57), 3) := by decide +kernel
theorem dX10_spreads_268 : decode cX10_spreads 268 = .ok (.iload_n 2, 1) := by decide +kernel
theorem dX10_spreads_269 : decode cX10_spreads 269 = .ok (.bipush 100, 2) := by decide +kernel
theorem dX10_spreads_271 : decode cX10_spreads 271 = .ok (.if_icmp .ne 7, 3) := by decide +kernel
theorem dX10_spreads_274 : decode cX10_spreads 274 = .ok (.iload_n 3, 1) := by decide +kernel
theorem dX10_spreads_275 : decode cX10_spreads 275 = .ok (.goto 16, 3) := by decide +kernel
theorem dX10_spreads_278 : decode cX10_spreads 278 = .ok (.iload_n 2, 1) := by decide +kernel
theorem dX10_spreads_279 : decode cX10_spreads 279 = .ok (.bipush 101, 2) := by decide +kernel
theorem dX10_spreads_281 : decode cX10_spreads 281 = .ok (.if_icmp .ne 8, 3) := by decide +kernel
theorem dX10_spreads_284 : decode cX10_spreads 284 = .ok (.iload 4, 2) := by decide +kernel
theorem dX10_spreads_286 : decode cX10_spreads 286 = .ok (.goto 5, 3) := by decide +kernel
theorem dX10_spreads_289 : decode cX10_spreads 289 = .ok (.iload 5, 2) := by decide +kernel
theorem dX10_spreads_291 : decode cX10_spreads 291 = .ok (.ireturn, 1) := by decide +kernel
theorem dX10_laysWays_0 : decode cX10_laysWays 0 = .ok (.iconst 0, 1) := by decide +kernel
theorem dX10_laysWays_1 : decode cX10_laysWays 1 = .ok (.istore_n 1, 1) := by decide +kernel
theorem dX10_laysWays_2 : decode cX10_laysWays 2 = .ok (.iload_n 1, 1) := by decide +kernel
theorem dX10_laysWays_3 : decode cX10_laysWays 3 = .ok (.sipush 144, 3) := by decide +kernel
theorem dX10_laysWays_6 : decode cX10_laysWays 6 = .ok (.if_icmp .ge 51, 3) := by decide +kernel
theorem dX10_laysWays_9 : decode cX10_laysWays 9 = .ok (.aload_n 0, 1) := by decide +kernel
theorem dX10_laysWays_10 : decode cX10_laysWays 10 = .ok (.getfield 83, 3) := by decide +kernel
theorem dX10_laysWays_13 : decode cX10_laysWays 13 = .ok (.iload_n 1, 1) := by decide +kernel
theorem dX10_laysWays_14 : decode cX10_laysWays 14 = .ok (.iload_n 1, 1) := by decide +kernel
theorem dX10_laysWays_15 : decode cX10_laysWays 15 = .ok (.bipush 12, 2) := by decide +kernel
theorem dX10_laysWays_17 : decode cX10_laysWays 17 = .ok (.idiv, 1) := by decide +kernel
theorem dX10_laysWays_18 : decode cX10_laysWays 18 = .ok (.iload_n 1, 1) := by decide +kernel
theorem dX10_laysWays_19 : decode cX10_laysWays 19 = .ok (.bipush 12, 2) := by decide +kernel
theorem dX10_laysWays_21 : decode cX10_laysWays 21 = .ok (.irem, 1) := by decide +kernel
theorem dX10_laysWays_22 : decode cX10_laysWays 22 = .ok (.if_icmp .ne 7, 3) := by decide +kernel
theorem dX10_laysWays_25 : decode cX10_laysWays 25 = .ok (.iconst 0, 1) := by decide +kernel
theorem dX10_laysWays_26 : decode cX10_laysWays 26 = .ok (.goto 24, 3) := by decide +kernel
theorem dX10_laysWays_29 : decode cX10_laysWays 29 = .ok (.aload_n 0, 1) := by decide +kernel
theorem dX10_laysWays_30 : decode cX10_laysWays 30 = .ok (.getfield 19, 3) := by decide +kernel
theorem dX10_laysWays_33 : decode cX10_laysWays 33 = .ok (.iload_n 1, 1) := by decide +kernel
theorem dX10_laysWays_34 : decode cX10_laysWays 34 = .ok (.iaload, 1) := by decide +kernel
theorem dX10_laysWays_35 : decode cX10_laysWays 35 = .ok (.ifCond .ne 9, 3) := by decide +kernel
theorem dX10_laysWays_38 : decode cX10_laysWays 38 = .ok (.ldc_w 339, 3) := by decide +kernel
theorem dX10_laysWays_41 : decode cX10_laysWays 41 = .ok (.goto 9, 3) := by decide +kernel
theorem dX10_laysWays_44 : decode cX10_laysWays 44 = .ok (.aload_n 0, 1) := by decide +kernel
theorem dX10_laysWays_45 : decode cX10_laysWays 45 = .ok (.getfield 19, 3) := by decide +kernel
theorem dX10_laysWays_48 : decode cX10_laysWays 48 = .ok (.iload_n 1, 1) := by decide +kernel
theorem dX10_laysWays_49 : decode cX10_laysWays 49 = .ok (.iaload, 1) := by decide +kernel
theorem dX10_laysWays_50 : decode cX10_laysWays 50 = .ok (.iastore, 1) := by decide +kernel
theorem dX10_laysWays_51 : decode cX10_laysWays 51 = .ok (.iinc 1 1, 3) := by decide +kernel
theorem dX10_laysWays_54 : decode cX10_laysWays 54 = .ok (.goto (-52), 3) := by decide +kernel
theorem dX10_laysWays_57 : decode cX10_laysWays 57 = .ok (.iconst 0, 1) := by decide +kernel
theorem dX10_laysWays_58 : decode cX10_laysWays 58 = .ok (.istore_n 1, 1) := by decide +kernel
theorem dX10_laysWays_59 : decode cX10_laysWays 59 = .ok (.iload_n 1, 1) := by decide +kernel
theorem dX10_laysWays_60 : decode cX10_laysWays 60 = .ok (.bipush 12, 2) := by decide +kernel
theorem dX10_laysWays_62 : decode cX10_laysWays 62 = .ok (.if_icmp .ge 85, 3) := by decide +kernel
theorem dX10_laysWays_65 : decode cX10_laysWays 65 = .ok (.iconst 0, 1) := by decide +kernel
theorem dX10_laysWays_66 : decode cX10_laysWays 66 = .ok (.istore_n 2, 1) := by decide +kernel
theorem dX10_laysWays_67 : decode cX10_laysWays 67 = .ok (.iload_n 2, 1) := by decide +kernel
theorem dX10_laysWays_68 : decode cX10_laysWays 68 = .ok (.bipush 12, 2) := by decide +kernel
theorem dX10_laysWays_70 : decode cX10_laysWays 70 = .ok (.if_icmp .ge 71, 3) := by decide +kernel
theorem dX10_laysWays_73 : decode cX10_laysWays 73 = .ok (.iconst 0, 1) := by decide +kernel
theorem dX10_laysWays_74 : decode cX10_laysWays 74 = .ok (.istore_n 3, 1) := by decide +kernel
theorem dX10_laysWays_75 : decode cX10_laysWays 75 = .ok (.iload_n 3, 1) := by decide +kernel
theorem dX10_laysWays_76 : decode cX10_laysWays 76 = .ok (.bipush 12, 2) := by decide +kernel
theorem dX10_laysWays_78 : decode cX10_laysWays 78 = .ok (.if_icmp .ge 57, 3) := by decide +kernel
theorem dX10_laysWays_81 : decode cX10_laysWays 81 = .ok (.aload_n 0, 1) := by decide +kernel
theorem dX10_laysWays_82 : decode cX10_laysWays 82 = .ok (.getfield 83, 3) := by decide +kernel
theorem dX10_laysWays_85 : decode cX10_laysWays 85 = .ok (.bipush 12, 2) := by decide +kernel
theorem dX10_laysWays_87 : decode cX10_laysWays 87 = .ok (.iload_n 2, 1) := by decide +kernel
theorem dX10_laysWays_88 : decode cX10_laysWays 88 = .ok (.imul, 1) := by decide +kernel
theorem dX10_laysWays_89 : decode cX10_laysWays 89 = .ok (.iload_n 3, 1) := by decide +kernel
theorem dX10_laysWays_90 : decode cX10_laysWays 90 = .ok (.iadd, 1) := by decide +kernel
theorem dX10_laysWays_91 : decode cX10_laysWays 91 = .ok (.aload_n 0, 1) := by decide +kernel
theorem dX10_laysWays_92 : decode cX10_laysWays 92 = .ok (.getfield 83, 3) := by decide +kernel
theorem dX10_laysWays_95 : decode cX10_laysWays 95 = .ok (.bipush 12, 2) := by decide +kernel
theorem dX10_laysWays_97 : decode cX10_laysWays 97 = .ok (.iload_n 2, 1) := by decide +kernel
theorem dX10_laysWays_98 : decode cX10_laysWays 98 = .ok (.imul, 1) := by decide +kernel
theorem dX10_laysWays_99 : decode cX10_laysWays 99 = .ok (.iload_n 3, 1) := by decide +kernel
theorem dX10_laysWays_100 : decode cX10_laysWays 100 = .ok (.iadd, 1) := by decide +kernel
theorem dX10_laysWays_101 : decode cX10_laysWays 101 = .ok (.iaload, 1) := by decide +kernel
theorem dX10_laysWays_102 : decode cX10_laysWays 102 = .ok (.aload_n 0, 1) := by decide +kernel
theorem dX10_laysWays_103 : decode cX10_laysWays 103 = .ok (.getfield 83, 3) := by decide +kernel
theorem dX10_laysWays_106 : decode cX10_laysWays 106 = .ok (.bipush 12, 2) := by decide +kernel
theorem dX10_laysWays_108 : decode cX10_laysWays 108 = .ok (.iload_n 2, 1) := by decide +kernel
theorem dX10_laysWays_109 : decode cX10_laysWays 109 = .ok (.imul, 1) := by decide +kernel
theorem dX10_laysWays_110 : decode cX10_laysWays 110 = .ok (.iload_n 1, 1) := by decide +kernel
theorem dX10_laysWays_111 : decode cX10_laysWays 111 = .ok (.iadd, 1) := by decide +kernel
theorem dX10_laysWays_112 : decode cX10_laysWays 112 = .ok (.iaload, 1) := by decide +kernel
theorem dX10_laysWays_113 : decode cX10_laysWays 113 = .ok (.aload_n 0, 1) := by decide +kernel
theorem dX10_laysWays_114 : decode cX10_laysWays 114 = .ok (.getfield 83, 3) := by decide +kernel
theorem dX10_laysWays_117 : decode cX10_laysWays 117 = .ok (.bipush 12, 2) := by decide +kernel
theorem dX10_laysWays_119 : decode cX10_laysWays 119 = .ok (.iload_n 1, 1) := by decide +kernel
theorem dX10_laysWays_120 : decode cX10_laysWays 120 = .ok (.imul, 1) := by decide +kernel
theorem dX10_laysWays_121 : decode cX10_laysWays 121 = .ok (.iload_n 3, 1) := by decide +kernel
theorem dX10_laysWays_122 : decode cX10_laysWays 122 = .ok (.iadd, 1) := by decide +kernel
theorem dX10_laysWays_123 : decode cX10_laysWays 123 = .ok (.iaload, 1) := by decide +kernel
theorem dX10_laysWays_124 : decode cX10_laysWays 124 = .ok (.iadd, 1) := by decide +kernel
theorem dX10_laysWays_125 : decode cX10_laysWays 125 = .ok (.invokestatic 271, 3) := by decide +kernel
theorem dX10_laysWays_128 : decode cX10_laysWays 128 = .ok (.iastore, 1) := by decide +kernel
theorem dX10_laysWays_129 : decode cX10_laysWays 129 = .ok (.iinc 3 1, 3) := by decide +kernel
theorem dX10_laysWays_132 : decode cX10_laysWays 132 = .ok (.goto (-57), 3) := by decide +kernel
theorem dX10_laysWays_135 : decode cX10_laysWays 135 = .ok (.iinc 2 1, 3) := by decide +kernel
theorem dX10_laysWays_138 : decode cX10_laysWays 138 = .ok (.goto (-71), 3) := by decide +kernel
theorem dX10_laysWays_141 : decode cX10_laysWays 141 = .ok (.iinc 1 1, 3) := by decide +kernel
theorem dX10_laysWays_144 : decode cX10_laysWays 144 = .ok (.goto (-85), 3) := by decide +kernel
theorem dX10_laysWays_147 : decode cX10_laysWays 147 = .ok (.return_, 1) := by decide +kernel
theorem dX10_miles_0 : decode cX10_miles 0 = .ok (.aload_n 0, 1) := by decide +kernel
theorem dX10_miles_1 : decode cX10_miles 1 = .ok (.iload_n 1, 1) := by decide +kernel
theorem dX10_miles_2 : decode cX10_miles 2 = .ok (.invokevirtual 146, 3) := by decide +kernel
theorem dX10_miles_5 : decode cX10_miles 5 = .ok (.ifCond .eq 11, 3) := by decide +kernel
theorem dX10_miles_8 : decode cX10_miles 8 = .ok (.aload_n 0, 1) := by decide +kernel
theorem dX10_miles_9 : decode cX10_miles 9 = .ok (.iload_n 2, 1) := by decide +kernel
theorem dX10_miles_10 : decode cX10_miles 10 = .ok (.invokevirtual 146, 3) := by decide +kernel
theorem dX10_miles_13 : decode cX10_miles 13 = .ok (.ifCond .ne 5, 3) := by decide +kernel
theorem dX10_miles_16 : decode cX10_miles 16 = .ok (.iconst (-1), 1) := by decide +kernel
theorem dX10_miles_17 : decode cX10_miles 17 = .ok (.ireturn, 1) := by decide +kernel
theorem dX10_miles_18 : decode cX10_miles 18 = .ok (.aload_n 0, 1) := by decide +kernel
theorem dX10_miles_19 : decode cX10_miles 19 = .ok (.invokevirtual 340, 3) := by decide +kernel
theorem dX10_miles_22 : decode cX10_miles 22 = .ok (.aload_n 0, 1) := by decide +kernel
theorem dX10_miles_23 : decode cX10_miles 23 = .ok (.getfield 83, 3) := by decide +kernel
theorem dX10_miles_26 : decode cX10_miles 26 = .ok (.bipush 12, 2) := by decide +kernel
theorem dX10_miles_28 : decode cX10_miles 28 = .ok (.iload_n 1, 1) := by decide +kernel
theorem dX10_miles_29 : decode cX10_miles 29 = .ok (.imul, 1) := by decide +kernel
theorem dX10_miles_30 : decode cX10_miles 30 = .ok (.iload_n 2, 1) := by decide +kernel
theorem dX10_miles_31 : decode cX10_miles 31 = .ok (.iadd, 1) := by decide +kernel
theorem dX10_miles_32 : decode cX10_miles 32 = .ok (.iaload, 1) := by decide +kernel
theorem dX10_miles_33 : decode cX10_miles 33 = .ok (.ldc_w 339, 3) := by decide +kernel
theorem dX10_miles_36 : decode cX10_miles 36 = .ok (.if_icmp .lt 8, 3) := by decide +kernel
theorem dX10_miles_39 : decode cX10_miles 39 = .ok (.bipush (-2), 2) := by decide +kernel
theorem dX10_miles_41 : decode cX10_miles 41 = .ok (.goto 14, 3) := by decide +kernel
theorem dX10_miles_44 : decode cX10_miles 44 = .ok (.aload_n 0, 1) := by decide +kernel
theorem dX10_miles_45 : decode cX10_miles 45 = .ok (.getfield 83, 3) := by decide +kernel
theorem dX10_miles_48 : decode cX10_miles 48 = .ok (.bipush 12, 2) := by decide +kernel
theorem dX10_miles_50 : decode cX10_miles 50 = .ok (.iload_n 1, 1) := by decide +kernel
theorem dX10_miles_51 : decode cX10_miles 51 = .ok (.imul, 1) := by decide +kernel
theorem dX10_miles_52 : decode cX10_miles 52 = .ok (.iload_n 2, 1) := by decide +kernel
theorem dX10_miles_53 : decode cX10_miles 53 = .ok (.iadd, 1) := by decide +kernel
theorem dX10_miles_54 : decode cX10_miles 54 = .ok (.iaload, 1) := by decide +kernel
theorem dX10_miles_55 : decode cX10_miles 55 = .ok (.ireturn, 1) := by decide +kernel
theorem dX10_listsOnes_0 : decode cX10_listsOnes 0 = .ok (.iconst 0, 1) := by decide +kernel
theorem dX10_listsOnes_1 : decode cX10_listsOnes 1 = .ok (.istore_n 2, 1) := by decide +kernel
theorem dX10_listsOnes_2 : decode cX10_listsOnes 2 = .ok (.iconst 0, 1) := by decide +kernel
theorem dX10_listsOnes_3 : decode cX10_listsOnes 3 = .ok (.istore_n 3, 1) := by decide +kernel
theorem dX10_listsOnes_4 : decode cX10_listsOnes 4 = .ok (.iload_n 3, 1) := by decide +kernel
theorem dX10_listsOnes_5 : decode cX10_listsOnes 5 = .ok (.bipush 12, 2) := by decide +kernel
theorem dX10_listsOnes_7 : decode cX10_listsOnes 7 = .ok (.if_icmp .ge 31, 3) := by decide +kernel
theorem dX10_listsOnes_10 : decode cX10_listsOnes 10 = .ok (.iload_n 1, 1) := by decide +kernel
theorem dX10_listsOnes_11 : decode cX10_listsOnes 11 = .ok (.iload_n 3, 1) := by decide +kernel
theorem dX10_listsOnes_12 : decode cX10_listsOnes 12 = .ok (.invokestatic 138, 3) := by decide +kernel
theorem dX10_listsOnes_15 : decode cX10_listsOnes 15 = .ok (.ifCond .ne 6, 3) := by decide +kernel
theorem dX10_listsOnes_18 : decode cX10_listsOnes 18 = .ok (.goto 14, 3) := by decide +kernel
theorem dX10_listsOnes_21 : decode cX10_listsOnes 21 = .ok (.aload_n 0, 1) := by decide +kernel
theorem dX10_listsOnes_22 : decode cX10_listsOnes 22 = .ok (.getfield 86, 3) := by decide +kernel
theorem dX10_listsOnes_25 : decode cX10_listsOnes 25 = .ok (.iload_n 2, 1) := by decide +kernel
theorem dX10_listsOnes_26 : decode cX10_listsOnes 26 = .ok (.iload_n 3, 1) := by decide +kernel
theorem dX10_listsOnes_27 : decode cX10_listsOnes 27 = .ok (.iastore, 1) := by decide +kernel
theorem dX10_listsOnes_28 : decode cX10_listsOnes 28 = .ok (.iload_n 2, 1) := by decide +kernel
theorem dX10_listsOnes_29 : decode cX10_listsOnes 29 = .ok (.iconst 1, 1) := by decide +kernel
theorem dX10_listsOnes_30 : decode cX10_listsOnes 30 = .ok (.iadd, 1) := by decide +kernel
theorem dX10_listsOnes_31 : decode cX10_listsOnes 31 = .ok (.istore_n 2, 1) := by decide +kernel
theorem dX10_listsOnes_32 : decode cX10_listsOnes 32 = .ok (.iinc 3 1, 3) := by decide +kernel
theorem dX10_listsOnes_35 : decode cX10_listsOnes 35 = .ok (.goto (-31), 3) := by decide +kernel
theorem dX10_listsOnes_38 : decode cX10_listsOnes 38 = .ok (.return_, 1) := by decide +kernel
theorem dX10_beginsRows_0 : decode cX10_beginsRows 0 = .ok (.iconst 0, 1) := by decide +kernel
theorem dX10_beginsRows_1 : decode cX10_beginsRows 1 = .ok (.istore_n 2, 1) := by decide +kernel
theorem dX10_beginsRows_2 : decode cX10_beginsRows 2 = .ok (.iload_n 2, 1) := by decide +kernel
theorem dX10_beginsRows_3 : decode cX10_beginsRows 3 = .ok (.iload_n 1, 1) := by decide +kernel
theorem dX10_beginsRows_4 : decode cX10_beginsRows 4 = .ok (.if_icmp .ge 16, 3) := by decide +kernel
theorem dX10_beginsRows_7 : decode cX10_beginsRows 7 = .ok (.aload_n 0, 1) := by decide +kernel
theorem dX10_beginsRows_8 : decode cX10_beginsRows 8 = .ok (.getfield 89, 3) := by decide +kernel
theorem dX10_beginsRows_11 : decode cX10_beginsRows 11 = .ok (.iload_n 2, 1) := by decide +kernel
theorem dX10_beginsRows_12 : decode cX10_beginsRows 12 = .ok (.iload_n 2, 1) := by decide +kernel
theorem dX10_beginsRows_13 : decode cX10_beginsRows 13 = .ok (.iastore, 1) := by decide +kernel
theorem dX10_beginsRows_14 : decode cX10_beginsRows 14 = .ok (.iinc 2 1, 3) := by decide +kernel
theorem dX10_beginsRows_17 : decode cX10_beginsRows 17 = .ok (.goto (-15), 3) := by decide +kernel
theorem dX10_beginsRows_20 : decode cX10_beginsRows 20 = .ok (.return_, 1) := by decide +kernel
theorem dX10_keepsRow_0 : decode cX10_keepsRow 0 = .ok (.iconst 0, 1) := by decide +kernel
theorem dX10_keepsRow_1 : decode cX10_keepsRow 1 = .ok (.istore_n 2, 1) := by decide +kernel
theorem dX10_keepsRow_2 : decode cX10_keepsRow 2 = .ok (.iload_n 2, 1) := by decide +kernel
theorem dX10_keepsRow_3 : decode cX10_keepsRow 3 = .ok (.iload_n 1, 1) := by decide +kernel
theorem dX10_keepsRow_4 : decode cX10_keepsRow 4 = .ok (.if_icmp .ge 26, 3) := by decide +kernel
theorem dX10_keepsRow_7 : decode cX10_keepsRow 7 = .ok (.aload_n 0, 1) := by decide +kernel
theorem dX10_keepsRow_8 : decode cX10_keepsRow 8 = .ok (.getfield 92, 3) := by decide +kernel
theorem dX10_keepsRow_11 : decode cX10_keepsRow 11 = .ok (.iload_n 2, 1) := by decide +kernel
theorem dX10_keepsRow_12 : decode cX10_keepsRow 12 = .ok (.aload_n 0, 1) := by decide +kernel
theorem dX10_keepsRow_13 : decode cX10_keepsRow 13 = .ok (.getfield 86, 3) := by decide +kernel
theorem dX10_keepsRow_16 : decode cX10_keepsRow 16 = .ok (.aload_n 0, 1) := by decide +kernel
theorem dX10_keepsRow_17 : decode cX10_keepsRow 17 = .ok (.getfield 89, 3) := by decide +kernel
theorem dX10_keepsRow_20 : decode cX10_keepsRow 20 = .ok (.iload_n 2, 1) := by decide +kernel
theorem dX10_keepsRow_21 : decode cX10_keepsRow 21 = .ok (.iaload, 1) := by decide +kernel
theorem dX10_keepsRow_22 : decode cX10_keepsRow 22 = .ok (.iaload, 1) := by decide +kernel
theorem dX10_keepsRow_23 : decode cX10_keepsRow 23 = .ok (.iastore, 1) := by decide +kernel
theorem dX10_keepsRow_24 : decode cX10_keepsRow 24 = .ok (.iinc 2 1, 3) := by decide +kernel
theorem dX10_keepsRow_27 : decode cX10_keepsRow 27 = .ok (.goto (-25), 3) := by decide +kernel
theorem dX10_keepsRow_30 : decode cX10_keepsRow 30 = .ok (.return_, 1) := by decide +kernel
theorem dX10_changes_0 : decode cX10_changes 0 = .ok (.aload_n 0, 1) := by decide +kernel
theorem dX10_changes_1 : decode cX10_changes 1 = .ok (.getfield 89, 3) := by decide +kernel
theorem dX10_changes_4 : decode cX10_changes 4 = .ok (.iload_n 1, 1) := by decide +kernel
theorem dX10_changes_5 : decode cX10_changes 5 = .ok (.iaload, 1) := by decide +kernel
theorem dX10_changes_6 : decode cX10_changes 6 = .ok (.istore_n 3, 1) := by decide +kernel
theorem dX10_changes_7 : decode cX10_changes 7 = .ok (.aload_n 0, 1) := by decide +kernel
theorem dX10_changes_8 : decode cX10_changes 8 = .ok (.getfield 89, 3) := by decide +kernel
theorem dX10_changes_11 : decode cX10_changes 11 = .ok (.iload_n 1, 1) := by decide +kernel
theorem dX10_changes_12 : decode cX10_changes 12 = .ok (.aload_n 0, 1) := by decide +kernel
theorem dX10_changes_13 : decode cX10_changes 13 = .ok (.getfield 89, 3) := by decide +kernel
theorem dX10_changes_16 : decode cX10_changes 16 = .ok (.iload_n 2, 1) := by decide +kernel
theorem dX10_changes_17 : decode cX10_changes 17 = .ok (.iaload, 1) := by decide +kernel
theorem dX10_changes_18 : decode cX10_changes 18 = .ok (.iastore, 1) := by decide +kernel
theorem dX10_changes_19 : decode cX10_changes 19 = .ok (.aload_n 0, 1) := by decide +kernel
theorem dX10_changes_20 : decode cX10_changes 20 = .ok (.getfield 89, 3) := by decide +kernel
theorem dX10_changes_23 : decode cX10_changes 23 = .ok (.iload_n 2, 1) := by decide +kernel
theorem dX10_changes_24 : decode cX10_changes 24 = .ok (.iload_n 3, 1) := by decide +kernel
theorem dX10_changes_25 : decode cX10_changes 25 = .ok (.iastore, 1) := by decide +kernel
theorem dX10_changes_26 : decode cX10_changes 26 = .ok (.return_, 1) := by decide +kernel
theorem dX10_nextRow_0 : decode cX10_nextRow 0 = .ok (.iload_n 1, 1) := by decide +kernel
theorem dX10_nextRow_1 : decode cX10_nextRow 1 = .ok (.iconst 2, 1) := by decide +kernel
theorem dX10_nextRow_2 : decode cX10_nextRow 2 = .ok (.isub, 1) := by decide +kernel
theorem dX10_nextRow_3 : decode cX10_nextRow 3 = .ok (.istore_n 2, 1) := by decide +kernel
theorem dX10_nextRow_4 : decode cX10_nextRow 4 = .ok (.iload_n 2, 1) := by decide +kernel
theorem dX10_nextRow_5 : decode cX10_nextRow 5 = .ok (.ifCond .lt 27, 3) := by decide +kernel
theorem dX10_nextRow_8 : decode cX10_nextRow 8 = .ok (.aload_n 0, 1) := by decide +kernel
theorem dX10_nextRow_9 : decode cX10_nextRow 9 = .ok (.getfield 89, 3) := by decide +kernel
theorem dX10_nextRow_12 : decode cX10_nextRow 12 = .ok (.iload_n 2, 1) := by decide +kernel
theorem dX10_nextRow_13 : decode cX10_nextRow 13 = .ok (.iaload, 1) := by decide +kernel
theorem dX10_nextRow_14 : decode cX10_nextRow 14 = .ok (.aload_n 0, 1) := by decide +kernel
theorem dX10_nextRow_15 : decode cX10_nextRow 15 = .ok (.getfield 89, 3) := by decide +kernel
theorem dX10_nextRow_18 : decode cX10_nextRow 18 = .ok (.iload_n 2, 1) := by decide +kernel
theorem dX10_nextRow_19 : decode cX10_nextRow 19 = .ok (.iconst 1, 1) := by decide +kernel
theorem dX10_nextRow_20 : decode cX10_nextRow 20 = .ok (.iadd, 1) := by decide +kernel
theorem dX10_nextRow_21 : decode cX10_nextRow 21 = .ok (.iaload, 1) := by decide +kernel
theorem dX10_nextRow_22 : decode cX10_nextRow 22 = .ok (.if_icmp .le 10, 3) := by decide +kernel
theorem dX10_nextRow_25 : decode cX10_nextRow 25 = .ok (.iload_n 2, 1) := by decide +kernel
theorem dX10_nextRow_26 : decode cX10_nextRow 26 = .ok (.iconst 1, 1) := by decide +kernel
theorem dX10_nextRow_27 : decode cX10_nextRow 27 = .ok (.isub, 1) := by decide +kernel
theorem dX10_nextRow_28 : decode cX10_nextRow 28 = .ok (.istore_n 2, 1) := by decide +kernel
theorem dX10_nextRow_29 : decode cX10_nextRow 29 = .ok (.goto (-25), 3) := by decide +kernel
theorem dX10_nextRow_32 : decode cX10_nextRow 32 = .ok (.iload_n 2, 1) := by decide +kernel
theorem dX10_nextRow_33 : decode cX10_nextRow 33 = .ok (.ifCond .ge 5, 3) := by decide +kernel
theorem dX10_nextRow_36 : decode cX10_nextRow 36 = .ok (.iconst 0, 1) := by decide +kernel
theorem dX10_nextRow_37 : decode cX10_nextRow 37 = .ok (.ireturn, 1) := by decide +kernel
theorem dX10_nextRow_38 : decode cX10_nextRow 38 = .ok (.iload_n 1, 1) := by decide +kernel
theorem dX10_nextRow_39 : decode cX10_nextRow 39 = .ok (.iconst 1, 1) := by decide +kernel
theorem dX10_nextRow_40 : decode cX10_nextRow 40 = .ok (.isub, 1) := by decide +kernel
theorem dX10_nextRow_41 : decode cX10_nextRow 41 = .ok (.istore_n 3, 1) := by decide +kernel
theorem dX10_nextRow_42 : decode cX10_nextRow 42 = .ok (.aload_n 0, 1) := by decide +kernel
theorem dX10_nextRow_43 : decode cX10_nextRow 43 = .ok (.getfield 89, 3) := by decide +kernel
theorem dX10_nextRow_46 : decode cX10_nextRow 46 = .ok (.iload_n 3, 1) := by decide +kernel
theorem dX10_nextRow_47 : decode cX10_nextRow 47 = .ok (.iaload, 1) := by decide +kernel
theorem dX10_nextRow_48 : decode cX10_nextRow 48 = .ok (.aload_n 0, 1) := by decide +kernel
theorem dX10_nextRow_49 : decode cX10_nextRow 49 = .ok (.getfield 89, 3) := by decide +kernel
theorem dX10_nextRow_52 : decode cX10_nextRow 52 = .ok (.iload_n 2, 1) := by decide +kernel
theorem dX10_nextRow_53 : decode cX10_nextRow 53 = .ok (.iaload, 1) := by decide +kernel
theorem dX10_nextRow_54 : decode cX10_nextRow 54 = .ok (.if_icmp .ge 10, 3) := by decide +kernel
theorem dX10_nextRow_57 : decode cX10_nextRow 57 = .ok (.iload_n 3, 1) := by decide +kernel
theorem dX10_nextRow_58 : decode cX10_nextRow 58 = .ok (.iconst 1, 1) := by decide +kernel
theorem dX10_nextRow_59 : decode cX10_nextRow 59 = .ok (.isub, 1) := by decide +kernel
theorem dX10_nextRow_60 : decode cX10_nextRow 60 = .ok (.istore_n 3, 1) := by decide +kernel
theorem dX10_nextRow_61 : decode cX10_nextRow 61 = .ok (.goto (-19), 3) := by decide +kernel
theorem dX10_nextRow_64 : decode cX10_nextRow 64 = .ok (.aload_n 0, 1) := by decide +kernel
theorem dX10_nextRow_65 : decode cX10_nextRow 65 = .ok (.iload_n 2, 1) := by decide +kernel
theorem dX10_nextRow_66 : decode cX10_nextRow 66 = .ok (.iload_n 3, 1) := by decide +kernel
theorem dX10_nextRow_67 : decode cX10_nextRow 67 = .ok (.invokevirtual 343, 3) := by decide +kernel
theorem dX10_nextRow_70 : decode cX10_nextRow 70 = .ok (.iload_n 2, 1) := by decide +kernel
theorem dX10_nextRow_71 : decode cX10_nextRow 71 = .ok (.iconst 1, 1) := by decide +kernel
theorem dX10_nextRow_72 : decode cX10_nextRow 72 = .ok (.iadd, 1) := by decide +kernel
theorem dX10_nextRow_73 : decode cX10_nextRow 73 = .ok (.istore 4, 2) := by decide +kernel
theorem dX10_nextRow_75 : decode cX10_nextRow 75 = .ok (.iload_n 1, 1) := by decide +kernel
theorem dX10_nextRow_76 : decode cX10_nextRow 76 = .ok (.iconst 1, 1) := by decide +kernel
theorem dX10_nextRow_77 : decode cX10_nextRow 77 = .ok (.isub, 1) := by decide +kernel
theorem dX10_nextRow_78 : decode cX10_nextRow 78 = .ok (.istore 5, 2) := by decide +kernel
theorem dX10_nextRow_80 : decode cX10_nextRow 80 = .ok (.iload 4, 2) := by decide +kernel
theorem dX10_nextRow_82 : decode cX10_nextRow 82 = .ok (.iload 5, 2) := by decide +kernel
theorem dX10_nextRow_84 : decode cX10_nextRow 84 = .ok (.if_icmp .ge 20, 3) := by decide +kernel
theorem dX10_nextRow_87 : decode cX10_nextRow 87 = .ok (.aload_n 0, 1) := by decide +kernel
theorem dX10_nextRow_88 : decode cX10_nextRow 88 = .ok (.iload 4, 2) := by decide +kernel
theorem dX10_nextRow_90 : decode cX10_nextRow 90 = .ok (.iload 5, 2) := by decide +kernel
theorem dX10_nextRow_92 : decode cX10_nextRow 92 = .ok (.invokevirtual 343, 3) := by decide +kernel
theorem dX10_nextRow_95 : decode cX10_nextRow 95 = .ok (.iinc 4 1, 3) := by decide +kernel
theorem dX10_nextRow_98 : decode cX10_nextRow 98 = .ok (.iinc 5 (-1), 3) := by decide +kernel
theorem dX10_nextRow_101 : decode cX10_nextRow 101 = .ok (.goto (-21), 3) := by decide +kernel
theorem dX10_nextRow_104 : decode cX10_nextRow 104 = .ok (.iconst 1, 1) := by decide +kernel
theorem dX10_nextRow_105 : decode cX10_nextRow 105 = .ok (.ireturn, 1) := by decide +kernel
theorem dX10_milesOfRow_0 : decode cX10_milesOfRow 0 = .ok (.iconst 0, 1) := by decide +kernel
theorem dX10_milesOfRow_1 : decode cX10_milesOfRow 1 = .ok (.istore_n 3, 1) := by decide +kernel
theorem dX10_milesOfRow_2 : decode cX10_milesOfRow 2 = .ok (.iload_n 1, 1) := by decide +kernel
theorem dX10_milesOfRow_3 : decode cX10_milesOfRow 3 = .ok (.istore 4, 2) := by decide +kernel
theorem dX10_milesOfRow_5 : decode cX10_milesOfRow 5 = .ok (.iconst 0, 1) := by decide +kernel
theorem dX10_milesOfRow_6 : decode cX10_milesOfRow 6 = .ok (.istore 5, 2) := by decide +kernel
theorem dX10_milesOfRow_8 : decode cX10_milesOfRow 8 = .ok (.iload 5, 2) := by decide +kernel
theorem dX10_milesOfRow_10 : decode cX10_milesOfRow 10 = .ok (.iload_n 2, 1) := by decide +kernel
theorem dX10_milesOfRow_11 : decode cX10_milesOfRow 11 = .ok (.if_icmp .ge 49, 3) := by decide +kernel
theorem dX10_milesOfRow_14 : decode cX10_milesOfRow 14 = .ok (.aload_n 0, 1) := by decide +kernel
theorem dX10_milesOfRow_15 : decode cX10_milesOfRow 15 = .ok (.getfield 86, 3) := by decide +kernel
theorem dX10_milesOfRow_18 : decode cX10_milesOfRow 18 = .ok (.aload_n 0, 1) := by decide +kernel
theorem dX10_milesOfRow_19 : decode cX10_milesOfRow 19 = .ok (.getfield 89, 3) := by decide +kernel
theorem dX10_milesOfRow_22 : decode cX10_milesOfRow 22 = .ok (.iload 5, 2) := by decide +kernel
theorem dX10_milesOfRow_24 : decode cX10_milesOfRow 24 = .ok (.iaload, 1) := by decide +kernel
theorem dX10_milesOfRow_25 : decode cX10_milesOfRow 25 = .ok (.iaload, 1) := by decide +kernel
theorem dX10_milesOfRow_26 : decode cX10_milesOfRow 26 = .ok (.istore 6, 2) := by decide +kernel
theorem dX10_milesOfRow_28 : decode cX10_milesOfRow 28 = .ok (.ldc_w 339, 3) := by decide +kernel
theorem dX10_milesOfRow_31 : decode cX10_milesOfRow 31 = .ok (.iload_n 3, 1) := by decide +kernel
theorem dX10_milesOfRow_32 : decode cX10_milesOfRow 32 = .ok (.aload_n 0, 1) := by decide +kernel
theorem dX10_milesOfRow_33 : decode cX10_milesOfRow 33 = .ok (.getfield 83, 3) := by decide +kernel
theorem dX10_milesOfRow_36 : decode cX10_milesOfRow 36 = .ok (.bipush 12, 2) := by decide +kernel
theorem dX10_milesOfRow_38 : decode cX10_milesOfRow 38 = .ok (.iload 4, 2) := by decide +kernel
theorem dX10_milesOfRow_40 : decode cX10_milesOfRow 40 = .ok (.imul, 1) := by decide +kernel
theorem dX10_milesOfRow_41 : decode cX10_milesOfRow 41 = .ok (.iload 6, 2) := by decide +kernel
theorem dX10_milesOfRow_43 : decode cX10_milesOfRow 43 = .ok (.iadd, 1) := by decide +kernel
theorem dX10_milesOfRow_44 : decode cX10_milesOfRow 44 = .ok (.iaload, 1) := by decide +kernel
theorem dX10_milesOfRow_45 : decode cX10_milesOfRow 45 = .ok (.iadd, 1) := by decide +kernel
theorem dX10_milesOfRow_46 : decode cX10_milesOfRow 46 = .ok (.invokestatic 271, 3) := by decide +kernel
theorem dX10_milesOfRow_49 : decode cX10_milesOfRow 49 = .ok (.istore_n 3, 1) := by decide +kernel
theorem dX10_milesOfRow_50 : decode cX10_milesOfRow 50 = .ok (.iload 6, 2) := by decide +kernel
theorem dX10_milesOfRow_52 : decode cX10_milesOfRow 52 = .ok (.istore 4, 2) := by decide +kernel
theorem dX10_milesOfRow_54 : decode cX10_milesOfRow 54 = .ok (.iinc 5 1, 3) := by decide +kernel
theorem dX10_milesOfRow_57 : decode cX10_milesOfRow 57 = .ok (.goto (-49), 3) := by decide +kernel
theorem dX10_milesOfRow_60 : decode cX10_milesOfRow 60 = .ok (.ldc_w 339, 3) := by decide +kernel
theorem dX10_milesOfRow_63 : decode cX10_milesOfRow 63 = .ok (.iload_n 3, 1) := by decide +kernel
theorem dX10_milesOfRow_64 : decode cX10_milesOfRow 64 = .ok (.aload_n 0, 1) := by decide +kernel
theorem dX10_milesOfRow_65 : decode cX10_milesOfRow 65 = .ok (.getfield 83, 3) := by decide +kernel
theorem dX10_milesOfRow_68 : decode cX10_milesOfRow 68 = .ok (.bipush 12, 2) := by decide +kernel
theorem dX10_milesOfRow_70 : decode cX10_milesOfRow 70 = .ok (.iload 4, 2) := by decide +kernel
theorem dX10_milesOfRow_72 : decode cX10_milesOfRow 72 = .ok (.imul, 1) := by decide +kernel
theorem dX10_milesOfRow_73 : decode cX10_milesOfRow 73 = .ok (.iload_n 1, 1) := by decide +kernel
theorem dX10_milesOfRow_74 : decode cX10_milesOfRow 74 = .ok (.iadd, 1) := by decide +kernel
theorem dX10_milesOfRow_75 : decode cX10_milesOfRow 75 = .ok (.iaload, 1) := by decide +kernel
theorem dX10_milesOfRow_76 : decode cX10_milesOfRow 76 = .ok (.iadd, 1) := by decide +kernel
theorem dX10_milesOfRow_77 : decode cX10_milesOfRow 77 = .ok (.invokestatic 271, 3) := by decide +kernel
theorem dX10_milesOfRow_80 : decode cX10_milesOfRow 80 = .ok (.ireturn, 1) := by decide +kernel
theorem dX10_round_0 : decode cX10_round 0 = .ok (.aload_n 0, 1) := by decide +kernel
theorem dX10_round_1 : decode cX10_round 1 = .ok (.iload_n 1, 1) := by decide +kernel
theorem dX10_round_2 : decode cX10_round 2 = .ok (.invokevirtual 146, 3) := by decide +kernel
theorem dX10_round_5 : decode cX10_round 5 = .ok (.ifCond .eq 46, 3) := by decide +kernel
theorem dX10_round_8 : decode cX10_round 8 = .ok (.iload_n 2, 1) := by decide +kernel
theorem dX10_round_9 : decode cX10_round 9 = .ok (.iconst 1, 1) := by decide +kernel
theorem dX10_round_10 : decode cX10_round 10 = .ok (.sipush 4095, 3) := by decide +kernel
theorem dX10_round_13 : decode cX10_round 13 = .ok (.invokestatic 134, 3) := by decide +kernel
theorem dX10_round_16 : decode cX10_round 16 = .ok (.ifCond .eq 35, 3) := by decide +kernel
theorem dX10_round_19 : decode cX10_round 19 = .ok (.iload_n 2, 1) := by decide +kernel
theorem dX10_round_20 : decode cX10_round 20 = .ok (.aload_n 0, 1) := by decide +kernel
theorem dX10_round_21 : decode cX10_round 21 = .ok (.getfield 7, 3) := by decide +kernel
theorem dX10_round_24 : decode cX10_round 24 = .ok (.sipush 145, 3) := by decide +kernel
theorem dX10_round_27 : decode cX10_round 27 = .ok (.iaload, 1) := by decide +kernel
theorem dX10_round_28 : decode cX10_round 28 = .ok (.iconst (-1), 1) := by decide +kernel
theorem dX10_round_29 : decode cX10_round 29 = .ok (.ixor, 1) := by decide +kernel
theorem dX10_round_30 : decode cX10_round 30 = .ok (.iand, 1) := by decide +kernel
theorem dX10_round_31 : decode cX10_round 31 = .ok (.ifCond .ne 20, 3) := by decide +kernel
theorem dX10_round_34 : decode cX10_round 34 = .ok (.iload_n 2, 1) := by decide +kernel
theorem dX10_round_35 : decode cX10_round 35 = .ok (.iload_n 1, 1) := by decide +kernel
theorem dX10_round_36 : decode cX10_round 36 = .ok (.invokestatic 138, 3) := by decide +kernel
theorem dX10_round_39 : decode cX10_round 39 = .ok (.ifCond .ne 12, 3) := by decide +kernel
theorem dX10_round_42 : decode cX10_round 42 = .ok (.iload_n 2, 1) := by decide +kernel
theorem dX10_round_43 : decode cX10_round 43 = .ok (.invokestatic 346, 3) := by decide +kernel
theorem dX10_round_46 : decode cX10_round 46 = .ok (.bipush 7, 2) := by decide +kernel
theorem dX10_round_48 : decode cX10_round 48 = .ok (.if_icmp .le 5, 3) := by decide +kernel
theorem dX10_round_51 : decode cX10_round 51 = .ok (.iconst (-1), 1) := by decide +kernel
theorem dX10_round_52 : decode cX10_round 52 = .ok (.ireturn, 1) := by decide +kernel
theorem dX10_round_53 : decode cX10_round 53 = .ok (.iload_n 2, 1) := by decide +kernel
theorem dX10_round_54 : decode cX10_round 54 = .ok (.invokestatic 346, 3) := by decide +kernel
theorem dX10_round_57 : decode cX10_round 57 = .ok (.istore 4, 2) := by decide +kernel
theorem dX10_round_59 : decode cX10_round 59 = .ok (.iload_n 3, 1) := by decide +kernel
theorem dX10_round_60 : decode cX10_round 60 = .ok (.bipush 100, 2) := by decide +kernel
theorem dX10_round_62 : decode cX10_round 62 = .ok (.if_icmp .eq 17, 3) := by decide +kernel
theorem dX10_round_65 : decode cX10_round 65 = .ok (.iload_n 3, 1) := by decide +kernel
theorem dX10_round_66 : decode cX10_round 66 = .ok (.iconst 0, 1) := by decide +kernel
theorem dX10_round_67 : decode cX10_round 67 = .ok (.iload 4, 2) := by decide +kernel
theorem dX10_round_69 : decode cX10_round 69 = .ok (.iconst 1, 1) := by decide +kernel
theorem dX10_round_70 : decode cX10_round 70 = .ok (.isub, 1) := by decide +kernel
theorem dX10_round_71 : decode cX10_round 71 = .ok (.invokestatic 134, 3) := by decide +kernel
theorem dX10_round_74 : decode cX10_round 74 = .ok (.ifCond .ne 5, 3) := by decide +kernel
theorem dX10_round_77 : decode cX10_round 77 = .ok (.iconst (-1), 1) := by decide +kernel
theorem dX10_round_78 : decode cX10_round 78 = .ok (.ireturn, 1) := by decide +kernel
theorem dX10_round_79 : decode cX10_round 79 = .ok (.aload_n 0, 1) := by decide +kernel
theorem dX10_round_80 : decode cX10_round 80 = .ok (.invokevirtual 340, 3) := by decide +kernel
theorem dX10_round_83 : decode cX10_round 83 = .ok (.aload_n 0, 1) := by decide +kernel
theorem dX10_round_84 : decode cX10_round 84 = .ok (.iload_n 2, 1) := by decide +kernel
theorem dX10_round_85 : decode cX10_round 85 = .ok (.invokevirtual 349, 3) := by decide +kernel
theorem dX10_round_88 : decode cX10_round 88 = .ok (.aload_n 0, 1) := by decide +kernel
theorem dX10_round_89 : decode cX10_round 89 = .ok (.iload 4, 2) := by decide +kernel
theorem dX10_round_91 : decode cX10_round 91 = .ok (.invokevirtual 352, 3) := by decide +kernel
theorem dX10_round_94 : decode cX10_round 94 = .ok (.ldc_w 339, 3) := by decide +kernel
theorem dX10_round_97 : decode cX10_round 97 = .ok (.istore 5, 2) := by decide +kernel
theorem dX10_round_99 : decode cX10_round 99 = .ok (.iconst 1, 1) := by decide +kernel
theorem dX10_round_100 : decode cX10_round 100 = .ok (.istore 6, 2) := by decide +kernel
theorem dX10_round_102 : decode cX10_round 102 = .ok (.iload 6, 2) := by decide +kernel
theorem dX10_round_104 : decode cX10_round 104 = .ok (.ifCond .eq 40, 3) := by decide +kernel
theorem dX10_round_107 : decode cX10_round 107 = .ok (.aload_n 0, 1) := by decide +kernel
theorem dX10_round_108 : decode cX10_round 108 = .ok (.iload_n 1, 1) := by decide +kernel
theorem dX10_round_109 : decode cX10_round 109 = .ok (.iload 4, 2) := by decide +kernel
theorem dX10_round_111 : decode cX10_round 111 = .ok (.invokevirtual 355, 3) := by decide +kernel
theorem dX10_round_114 : decode cX10_round 114 = .ok (.istore 7, 2) := by decide +kernel
theorem dX10_round_116 : decode cX10_round 116 = .ok (.iload 7, 2) := by decide +kernel
theorem dX10_round_118 : decode cX10_round 118 = .ok (.iload 5, 2) := by decide +kernel
theorem dX10_round_120 : decode cX10_round 120 = .ok (.if_icmp .ge 13, 3) := by decide +kernel
theorem dX10_round_123 : decode cX10_round 123 = .ok (.iload 7, 2) := by decide +kernel
theorem dX10_round_125 : decode cX10_round 125 = .ok (.istore 5, 2) := by decide +kernel
theorem dX10_round_127 : decode cX10_round 127 = .ok (.aload_n 0, 1) := by decide +kernel
theorem dX10_round_128 : decode cX10_round 128 = .ok (.iload 4, 2) := by decide +kernel
theorem dX10_round_130 : decode cX10_round 130 = .ok (.invokevirtual 358, 3) := by decide +kernel
theorem dX10_round_133 : decode cX10_round 133 = .ok (.aload_n 0, 1) := by decide +kernel
theorem dX10_round_134 : decode cX10_round 134 = .ok (.iload 4, 2) := by decide +kernel
theorem dX10_round_136 : decode cX10_round 136 = .ok (.invokevirtual 361, 3) := by decide +kernel
theorem dX10_round_139 : decode cX10_round 139 = .ok (.istore 6, 2) := by decide +kernel
theorem dX10_round_141 : decode cX10_round 141 = .ok (.goto (-39), 3) := by decide +kernel
theorem dX10_round_144 : decode cX10_round 144 = .ok (.iload 5, 2) := by decide +kernel
theorem dX10_round_146 : decode cX10_round 146 = .ok (.ldc_w 339, 3) := by decide +kernel
theorem dX10_round_149 : decode cX10_round 149 = .ok (.if_icmp .ne 8, 3) := by decide +kernel
theorem dX10_round_152 : decode cX10_round 152 = .ok (.bipush (-2), 2) := by decide +kernel
theorem dX10_round_154 : decode cX10_round 154 = .ok (.goto 20, 3) := by decide +kernel
theorem dX10_round_157 : decode cX10_round 157 = .ok (.iload_n 3, 1) := by decide +kernel
theorem dX10_round_158 : decode cX10_round 158 = .ok (.bipush 100, 2) := by decide +kernel
theorem dX10_round_160 : decode cX10_round 160 = .ok (.if_icmp .ne 8, 3) := by decide +kernel
theorem dX10_round_163 : decode cX10_round 163 = .ok (.iload 5, 2) := by decide +kernel
theorem dX10_round_165 : decode cX10_round 165 = .ok (.goto 9, 3) := by decide +kernel
theorem dX10_round_168 : decode cX10_round 168 = .ok (.aload_n 0, 1) := by decide +kernel
theorem dX10_round_169 : decode cX10_round 169 = .ok (.getfield 92, 3) := by decide +kernel
theorem dX10_round_172 : decode cX10_round 172 = .ok (.iload_n 3, 1) := by decide +kernel
theorem dX10_round_173 : decode cX10_round 173 = .ok (.iaload, 1) := by decide +kernel
theorem dX10_round_174 : decode cX10_round 174 = .ok (.ireturn, 1) := by decide +kernel
theorem dX10_takesPast_0 : decode cX10_takesPast 0 = .ok (.iconst 0, 1) := by decide +kernel
theorem dX10_takesPast_1 : decode cX10_takesPast 1 = .ok (.istore_n 2, 1) := by decide +kernel
theorem dX10_takesPast_2 : decode cX10_takesPast 2 = .ok (.iload_n 2, 1) := by decide +kernel
theorem dX10_takesPast_3 : decode cX10_takesPast 3 = .ok (.iconst 3, 1) := by decide +kernel
theorem dX10_takesPast_4 : decode cX10_takesPast 4 = .ok (.if_icmp .ge 28, 3) := by decide +kernel
theorem dX10_takesPast_7 : decode cX10_takesPast 7 = .ok (.aload_n 0, 1) := by decide +kernel
theorem dX10_takesPast_8 : decode cX10_takesPast 8 = .ok (.getfield 95, 3) := by decide +kernel
theorem dX10_takesPast_11 : decode cX10_takesPast 11 = .ok (.iload_n 2, 1) := by decide +kernel
theorem dX10_takesPast_12 : decode cX10_takesPast 12 = .ok (.aload_n 0, 1) := by decide +kernel
theorem dX10_takesPast_13 : decode cX10_takesPast 13 = .ok (.getfield 7, 3) := by decide +kernel
theorem dX10_takesPast_16 : decode cX10_takesPast 16 = .ok (.bipush 90, 2) := by decide +kernel
theorem dX10_takesPast_18 : decode cX10_takesPast 18 = .ok (.iconst 3, 1) := by decide +kernel
theorem dX10_takesPast_19 : decode cX10_takesPast 19 = .ok (.iload_n 1, 1) := by decide +kernel
theorem dX10_takesPast_20 : decode cX10_takesPast 20 = .ok (.imul, 1) := by decide +kernel
theorem dX10_takesPast_21 : decode cX10_takesPast 21 = .ok (.iadd, 1) := by decide +kernel
theorem dX10_takesPast_22 : decode cX10_takesPast 22 = .ok (.iload_n 2, 1) := by decide +kernel
theorem dX10_takesPast_23 : decode cX10_takesPast 23 = .ok (.iadd, 1) := by decide +kernel
theorem dX10_takesPast_24 : decode cX10_takesPast 24 = .ok (.iaload, 1) := by decide +kernel
theorem dX10_takesPast_25 : decode cX10_takesPast 25 = .ok (.iastore, 1) := by decide +kernel
theorem dX10_takesPast_26 : decode cX10_takesPast 26 = .ok (.iinc 2 1, 3) := by decide +kernel
theorem dX10_takesPast_29 : decode cX10_takesPast 29 = .ok (.goto (-27), 3) := by decide +kernel
theorem dX10_takesPast_32 : decode cX10_takesPast 32 = .ok (.return_, 1) := by decide +kernel
theorem dX10_pastGoes_0 : decode cX10_pastGoes 0 = .ok (.aload_n 0, 1) := by decide +kernel
theorem dX10_pastGoes_1 : decode cX10_pastGoes 1 = .ok (.getfield 95, 3) := by decide +kernel
theorem dX10_pastGoes_4 : decode cX10_pastGoes 4 = .ok (.iconst 2, 1) := by decide +kernel
theorem dX10_pastGoes_5 : decode cX10_pastGoes 5 = .ok (.aload_n 0, 1) := by decide +kernel
theorem dX10_pastGoes_6 : decode cX10_pastGoes 6 = .ok (.getfield 95, 3) := by decide +kernel
theorem dX10_pastGoes_9 : decode cX10_pastGoes 9 = .ok (.iconst 1, 1) := by decide +kernel
theorem dX10_pastGoes_10 : decode cX10_pastGoes 10 = .ok (.iaload, 1) := by decide +kernel
theorem dX10_pastGoes_11 : decode cX10_pastGoes 11 = .ok (.iastore, 1) := by decide +kernel
theorem dX10_pastGoes_12 : decode cX10_pastGoes 12 = .ok (.aload_n 0, 1) := by decide +kernel
theorem dX10_pastGoes_13 : decode cX10_pastGoes 13 = .ok (.getfield 95, 3) := by decide +kernel
theorem dX10_pastGoes_16 : decode cX10_pastGoes 16 = .ok (.iconst 1, 1) := by decide +kernel
theorem dX10_pastGoes_17 : decode cX10_pastGoes 17 = .ok (.aload_n 0, 1) := by decide +kernel
theorem dX10_pastGoes_18 : decode cX10_pastGoes 18 = .ok (.getfield 95, 3) := by decide +kernel
theorem dX10_pastGoes_21 : decode cX10_pastGoes 21 = .ok (.iconst 0, 1) := by decide +kernel
theorem dX10_pastGoes_22 : decode cX10_pastGoes 22 = .ok (.iaload, 1) := by decide +kernel
theorem dX10_pastGoes_23 : decode cX10_pastGoes 23 = .ok (.iastore, 1) := by decide +kernel
theorem dX10_pastGoes_24 : decode cX10_pastGoes 24 = .ok (.aload_n 0, 1) := by decide +kernel
theorem dX10_pastGoes_25 : decode cX10_pastGoes 25 = .ok (.getfield 95, 3) := by decide +kernel
theorem dX10_pastGoes_28 : decode cX10_pastGoes 28 = .ok (.iconst 0, 1) := by decide +kernel
theorem dX10_pastGoes_29 : decode cX10_pastGoes 29 = .ok (.iload_n 1, 1) := by decide +kernel
theorem dX10_pastGoes_30 : decode cX10_pastGoes 30 = .ok (.iastore, 1) := by decide +kernel
theorem dX10_pastGoes_31 : decode cX10_pastGoes 31 = .ok (.return_, 1) := by decide +kernel
theorem dX10_givenIn_0 : decode cX10_givenIn 0 = .ok (.aload_n 0, 1) := by decide +kernel
theorem dX10_givenIn_1 : decode cX10_givenIn 1 = .ok (.iload_n 2, 1) := by decide +kernel
theorem dX10_givenIn_2 : decode cX10_givenIn 2 = .ok (.iload_n 1, 1) := by decide +kernel
theorem dX10_givenIn_3 : decode cX10_givenIn 3 = .ok (.invokevirtual 284, 3) := by decide +kernel
theorem dX10_givenIn_6 : decode cX10_givenIn 6 = .ok (.ifCond .eq 16, 3) := by decide +kernel
theorem dX10_givenIn_9 : decode cX10_givenIn 9 = .ok (.aload_n 0, 1) := by decide +kernel
theorem dX10_givenIn_10 : decode cX10_givenIn 10 = .ok (.getfield 7, 3) := by decide +kernel
theorem dX10_givenIn_13 : decode cX10_givenIn 13 = .ok (.iload_n 2, 1) := by decide +kernel
theorem dX10_givenIn_14 : decode cX10_givenIn 14 = .ok (.iload_n 1, 1) := by decide +kernel
theorem dX10_givenIn_15 : decode cX10_givenIn 15 = .ok (.invokestatic 142, 3) := by decide +kernel
theorem dX10_givenIn_18 : decode cX10_givenIn 18 = .ok (.iaload, 1) := by decide +kernel
theorem dX10_givenIn_19 : decode cX10_givenIn 19 = .ok (.goto 13, 3) := by decide +kernel
theorem dX10_givenIn_22 : decode cX10_givenIn 22 = .ok (.aload_n 0, 1) := by decide +kernel
theorem dX10_givenIn_23 : decode cX10_givenIn 23 = .ok (.getfield 7, 3) := by decide +kernel
theorem dX10_givenIn_26 : decode cX10_givenIn 26 = .ok (.sipush 132, 3) := by decide +kernel
theorem dX10_givenIn_29 : decode cX10_givenIn 29 = .ok (.iload_n 2, 1) := by decide +kernel
theorem dX10_givenIn_30 : decode cX10_givenIn 30 = .ok (.iadd, 1) := by decide +kernel
theorem dX10_givenIn_31 : decode cX10_givenIn 31 = .ok (.iaload, 1) := by decide +kernel
theorem dX10_givenIn_32 : decode cX10_givenIn 32 = .ok (.istore 4, 2) := by decide +kernel
theorem dX10_givenIn_34 : decode cX10_givenIn 34 = .ok (.aload_n 0, 1) := by decide +kernel
theorem dX10_givenIn_35 : decode cX10_givenIn 35 = .ok (.iload_n 1, 1) := by decide +kernel
theorem dX10_givenIn_36 : decode cX10_givenIn 36 = .ok (.iload_n 2, 1) := by decide +kernel
theorem dX10_givenIn_37 : decode cX10_givenIn 37 = .ok (.iload 4, 2) := by decide +kernel
theorem dX10_givenIn_39 : decode cX10_givenIn 39 = .ok (.iconst 0, 1) := by decide +kernel
theorem dX10_givenIn_40 : decode cX10_givenIn 40 = .ok (.aload_n 0, 1) := by decide +kernel
theorem dX10_givenIn_41 : decode cX10_givenIn 41 = .ok (.getfield 95, 3) := by decide +kernel
theorem dX10_givenIn_44 : decode cX10_givenIn 44 = .ok (.iconst 0, 1) := by decide +kernel
theorem dX10_givenIn_45 : decode cX10_givenIn 45 = .ok (.iaload, 1) := by decide +kernel
theorem dX10_givenIn_46 : decode cX10_givenIn 46 = .ok (.aload_n 0, 1) := by decide +kernel
theorem dX10_givenIn_47 : decode cX10_givenIn 47 = .ok (.getfield 95, 3) := by decide +kernel
theorem dX10_givenIn_50 : decode cX10_givenIn 50 = .ok (.iconst 1, 1) := by decide +kernel
theorem dX10_givenIn_51 : decode cX10_givenIn 51 = .ok (.iaload, 1) := by decide +kernel
theorem dX10_givenIn_52 : decode cX10_givenIn 52 = .ok (.iadd, 1) := by decide +kernel
theorem dX10_givenIn_53 : decode cX10_givenIn 53 = .ok (.aload_n 0, 1) := by decide +kernel
theorem dX10_givenIn_54 : decode cX10_givenIn 54 = .ok (.getfield 95, 3) := by decide +kernel
theorem dX10_givenIn_57 : decode cX10_givenIn 57 = .ok (.iconst 2, 1) := by decide +kernel
theorem dX10_givenIn_58 : decode cX10_givenIn 58 = .ok (.iaload, 1) := by decide +kernel
theorem dX10_givenIn_59 : decode cX10_givenIn 59 = .ok (.iadd, 1) := by decide +kernel
theorem dX10_givenIn_60 : decode cX10_givenIn 60 = .ok (.aload_n 0, 1) := by decide +kernel
theorem dX10_givenIn_61 : decode cX10_givenIn 61 = .ok (.getfield 7, 3) := by decide +kernel
theorem dX10_givenIn_64 : decode cX10_givenIn 64 = .ok (.sipush 147, 3) := by decide +kernel
theorem dX10_givenIn_67 : decode cX10_givenIn 67 = .ok (.iaload, 1) := by decide +kernel
theorem dX10_givenIn_68 : decode cX10_givenIn 68 = .ok (.iload_n 3, 1) := by decide +kernel
theorem dX10_givenIn_69 : decode cX10_givenIn 69 = .ok (.iadd, 1) := by decide +kernel
theorem dX10_givenIn_70 : decode cX10_givenIn 70 = .ok (.invokevirtual 290, 3) := by decide +kernel
theorem dX10_givenIn_73 : decode cX10_givenIn 73 = .ok (.aload_n 0, 1) := by decide +kernel
theorem dX10_givenIn_74 : decode cX10_givenIn 74 = .ok (.bipush 103, 2) := by decide +kernel
theorem dX10_givenIn_76 : decode cX10_givenIn 76 = .ok (.sipush 999, 3) := by decide +kernel
theorem dX10_givenIn_79 : decode cX10_givenIn 79 = .ok (.invokevirtual 301, 3) := by decide +kernel
theorem dX10_givenIn_82 : decode cX10_givenIn 82 = .ok (.ireturn, 1) := by decide +kernel
theorem dX10_readsMost_0 : decode cX10_readsMost 0 = .ok (.aload_n 0, 1) := by decide +kernel
theorem dX10_readsMost_1 : decode cX10_readsMost 1 = .ok (.iload_n 1, 1) := by decide +kernel
theorem dX10_readsMost_2 : decode cX10_readsMost 2 = .ok (.invokevirtual 146, 3) := by decide +kernel
theorem dX10_readsMost_5 : decode cX10_readsMost 5 = .ok (.ifCond .eq 36, 3) := by decide +kernel
theorem dX10_readsMost_8 : decode cX10_readsMost 8 = .ok (.iload_n 2, 1) := by decide +kernel
theorem dX10_readsMost_9 : decode cX10_readsMost 9 = .ok (.iconst 1, 1) := by decide +kernel
theorem dX10_readsMost_10 : decode cX10_readsMost 10 = .ok (.bipush 63, 2) := by decide +kernel
theorem dX10_readsMost_12 : decode cX10_readsMost 12 = .ok (.invokestatic 134, 3) := by decide +kernel
theorem dX10_readsMost_15 : decode cX10_readsMost 15 = .ok (.ifCond .eq 26, 3) := by decide +kernel
theorem dX10_readsMost_18 : decode cX10_readsMost 18 = .ok (.iload_n 2, 1) := by decide +kernel
theorem dX10_readsMost_19 : decode cX10_readsMost 19 = .ok (.aload_n 0, 1) := by decide +kernel
theorem dX10_readsMost_20 : decode cX10_readsMost 20 = .ok (.getfield 7, 3) := by decide +kernel
theorem dX10_readsMost_23 : decode cX10_readsMost 23 = .ok (.sipush 146, 3) := by decide +kernel
theorem dX10_readsMost_26 : decode cX10_readsMost 26 = .ok (.iaload, 1) := by decide +kernel
theorem dX10_readsMost_27 : decode cX10_readsMost 27 = .ok (.iconst (-1), 1) := by decide +kernel
theorem dX10_readsMost_28 : decode cX10_readsMost 28 = .ok (.ixor, 1) := by decide +kernel
theorem dX10_readsMost_29 : decode cX10_readsMost 29 = .ok (.iand, 1) := by decide +kernel
theorem dX10_readsMost_30 : decode cX10_readsMost 30 = .ok (.ifCond .ne 11, 3) := by decide +kernel
theorem dX10_readsMost_33 : decode cX10_readsMost 33 = .ok (.iload_n 2, 1) := by decide +kernel
theorem dX10_readsMost_34 : decode cX10_readsMost 34 = .ok (.invokestatic 346, 3) := by decide +kernel
theorem dX10_readsMost_37 : decode cX10_readsMost 37 = .ok (.iconst 5, 1) := by decide +kernel
theorem dX10_readsMost_38 : decode cX10_readsMost 38 = .ok (.if_icmp .le 5, 3) := by decide +kernel
theorem dX10_readsMost_41 : decode cX10_readsMost 41 = .ok (.iconst (-1), 1) := by decide +kernel
theorem dX10_readsMost_42 : decode cX10_readsMost 42 = .ok (.ireturn, 1) := by decide +kernel
theorem dX10_readsMost_43 : decode cX10_readsMost 43 = .ok (.iload_n 2, 1) := by decide +kernel
theorem dX10_readsMost_44 : decode cX10_readsMost 44 = .ok (.invokestatic 346, 3) := by decide +kernel
theorem dX10_readsMost_47 : decode cX10_readsMost 47 = .ok (.istore 4, 2) := by decide +kernel
theorem dX10_readsMost_49 : decode cX10_readsMost 49 = .ok (.iload_n 3, 1) := by decide +kernel
theorem dX10_readsMost_50 : decode cX10_readsMost 50 = .ok (.bipush 100, 2) := by decide +kernel
theorem dX10_readsMost_52 : decode cX10_readsMost 52 = .ok (.if_icmp .eq 17, 3) := by decide +kernel
theorem dX10_readsMost_55 : decode cX10_readsMost 55 = .ok (.iload_n 3, 1) := by decide +kernel
theorem dX10_readsMost_56 : decode cX10_readsMost 56 = .ok (.iconst 0, 1) := by decide +kernel
theorem dX10_readsMost_57 : decode cX10_readsMost 57 = .ok (.iload 4, 2) := by decide +kernel
theorem dX10_readsMost_59 : decode cX10_readsMost 59 = .ok (.iconst 1, 1) := by decide +kernel
theorem dX10_readsMost_60 : decode cX10_readsMost 60 = .ok (.isub, 1) := by decide +kernel
theorem dX10_readsMost_61 : decode cX10_readsMost 61 = .ok (.invokestatic 134, 3) := by decide +kernel
theorem dX10_readsMost_64 : decode cX10_readsMost 64 = .ok (.ifCond .ne 5, 3) := by decide +kernel
theorem dX10_readsMost_67 : decode cX10_readsMost 67 = .ok (.iconst (-1), 1) := by decide +kernel
theorem dX10_readsMost_68 : decode cX10_readsMost 68 = .ok (.ireturn, 1) := by decide +kernel
theorem dX10_readsMost_69 : decode cX10_readsMost 69 = .ok (.aload_n 0, 1) := by decide +kernel
theorem dX10_readsMost_70 : decode cX10_readsMost 70 = .ok (.iload_n 2, 1) := by decide +kernel
theorem dX10_readsMost_71 : decode cX10_readsMost 71 = .ok (.invokevirtual 349, 3) := by decide +kernel
theorem dX10_readsMost_74 : decode cX10_readsMost 74 = .ok (.aload_n 0, 1) := by decide +kernel
theorem dX10_readsMost_75 : decode cX10_readsMost 75 = .ok (.iload 4, 2) := by decide +kernel
theorem dX10_readsMost_77 : decode cX10_readsMost 77 = .ok (.invokevirtual 352, 3) := by decide +kernel
theorem dX10_readsMost_80 : decode cX10_readsMost 80 = .ok (.iconst (-1), 1) := by decide +kernel
theorem dX10_readsMost_81 : decode cX10_readsMost 81 = .ok (.istore 5, 2) := by decide +kernel
theorem dX10_readsMost_83 : decode cX10_readsMost 83 = .ok (.iconst 1, 1) := by decide +kernel
theorem dX10_readsMost_84 : decode cX10_readsMost 84 = .ok (.istore 6, 2) := by decide +kernel
theorem dX10_readsMost_86 : decode cX10_readsMost 86 = .ok (.iload 6, 2) := by decide +kernel
theorem dX10_readsMost_88 : decode cX10_readsMost 88 = .ok (.ifCond .eq 84, 3) := by decide +kernel
theorem dX10_readsMost_91 : decode cX10_readsMost 91 = .ok (.iconst 0, 1) := by decide +kernel
theorem dX10_readsMost_92 : decode cX10_readsMost 92 = .ok (.istore 7, 2) := by decide +kernel
theorem dX10_readsMost_94 : decode cX10_readsMost 94 = .ok (.aload_n 0, 1) := by decide +kernel
theorem dX10_readsMost_95 : decode cX10_readsMost 95 = .ok (.iload_n 1, 1) := by decide +kernel
theorem dX10_readsMost_96 : decode cX10_readsMost 96 = .ok (.invokevirtual 364, 3) := by decide +kernel
theorem dX10_readsMost_99 : decode cX10_readsMost 99 = .ok (.iconst 0, 1) := by decide +kernel
theorem dX10_readsMost_100 : decode cX10_readsMost 100 = .ok (.istore 8, 2) := by decide +kernel
theorem dX10_readsMost_102 : decode cX10_readsMost 102 = .ok (.iload 8, 2) := by decide +kernel
theorem dX10_readsMost_104 : decode cX10_readsMost 104 = .ok (.iload 4, 2) := by decide +kernel
theorem dX10_readsMost_106 : decode cX10_readsMost 106 = .ok (.if_icmp .ge 38, 3) := by decide +kernel
theorem dX10_readsMost_109 : decode cX10_readsMost 109 = .ok (.iload 7, 2) := by decide +kernel
theorem dX10_readsMost_111 : decode cX10_readsMost 111 = .ok (.aload_n 0, 1) := by decide +kernel
theorem dX10_readsMost_112 : decode cX10_readsMost 112 = .ok (.iload_n 1, 1) := by decide +kernel
theorem dX10_readsMost_113 : decode cX10_readsMost 113 = .ok (.aload_n 0, 1) := by decide +kernel
theorem dX10_readsMost_114 : decode cX10_readsMost 114 = .ok (.getfield 86, 3) := by decide +kernel
theorem dX10_readsMost_117 : decode cX10_readsMost 117 = .ok (.aload_n 0, 1) := by decide +kernel
theorem dX10_readsMost_118 : decode cX10_readsMost 118 = .ok (.getfield 89, 3) := by decide +kernel
theorem dX10_readsMost_121 : decode cX10_readsMost 121 = .ok (.iload 8, 2) := by decide +kernel
theorem dX10_readsMost_123 : decode cX10_readsMost 123 = .ok (.iaload, 1) := by decide +kernel
theorem dX10_readsMost_124 : decode cX10_readsMost 124 = .ok (.iaload, 1) := by decide +kernel
theorem dX10_readsMost_125 : decode cX10_readsMost 125 = .ok (.iload 8, 2) := by decide +kernel
theorem dX10_readsMost_127 : decode cX10_readsMost 127 = .ok (.invokevirtual 367, 3) := by decide +kernel
theorem dX10_readsMost_130 : decode cX10_readsMost 130 = .ok (.iadd, 1) := by decide +kernel
theorem dX10_readsMost_131 : decode cX10_readsMost 131 = .ok (.istore 7, 2) := by decide +kernel
theorem dX10_readsMost_133 : decode cX10_readsMost 133 = .ok (.aload_n 0, 1) := by decide +kernel
theorem dX10_readsMost_134 : decode cX10_readsMost 134 = .ok (.iconst 1, 1) := by decide +kernel
theorem dX10_readsMost_135 : decode cX10_readsMost 135 = .ok (.invokevirtual 370, 3) := by decide +kernel
theorem dX10_readsMost_138 : decode cX10_readsMost 138 = .ok (.iinc 8 1, 3) := by decide +kernel
theorem dX10_readsMost_141 : decode cX10_readsMost 141 = .ok (.goto (-39), 3) := by decide +kernel
theorem dX10_readsMost_144 : decode cX10_readsMost 144 = .ok (.iload 7, 2) := by decide +kernel
theorem dX10_readsMost_146 : decode cX10_readsMost 146 = .ok (.iload 5, 2) := by decide +kernel
theorem dX10_readsMost_148 : decode cX10_readsMost 148 = .ok (.if_icmp .le 13, 3) := by decide +kernel
theorem dX10_readsMost_151 : decode cX10_readsMost 151 = .ok (.iload 7, 2) := by decide +kernel
theorem dX10_readsMost_153 : decode cX10_readsMost 153 = .ok (.istore 5, 2) := by decide +kernel
theorem dX10_readsMost_155 : decode cX10_readsMost 155 = .ok (.aload_n 0, 1) := by decide +kernel
theorem dX10_readsMost_156 : decode cX10_readsMost 156 = .ok (.iload 4, 2) := by decide +kernel
theorem dX10_readsMost_158 : decode cX10_readsMost 158 = .ok (.invokevirtual 358, 3) := by decide +kernel
theorem dX10_readsMost_161 : decode cX10_readsMost 161 = .ok (.aload_n 0, 1) := by decide +kernel
theorem dX10_readsMost_162 : decode cX10_readsMost 162 = .ok (.iload 4, 2) := by decide +kernel
theorem dX10_readsMost_164 : decode cX10_readsMost 164 = .ok (.invokevirtual 361, 3) := by decide +kernel
theorem dX10_readsMost_167 : decode cX10_readsMost 167 = .ok (.istore 6, 2) := by decide +kernel
theorem dX10_readsMost_169 : decode cX10_readsMost 169 = .ok (.goto (-83), 3) := by decide +kernel
theorem dX10_readsMost_172 : decode cX10_readsMost 172 = .ok (.iload_n 3, 1) := by decide +kernel
theorem dX10_readsMost_173 : decode cX10_readsMost 173 = .ok (.bipush 100, 2) := by decide +kernel
theorem dX10_readsMost_175 : decode cX10_readsMost 175 = .ok (.if_icmp .ne 8, 3) := by decide +kernel
theorem dX10_readsMost_178 : decode cX10_readsMost 178 = .ok (.iload 5, 2) := by decide +kernel
theorem dX10_readsMost_180 : decode cX10_readsMost 180 = .ok (.goto 9, 3) := by decide +kernel
theorem dX10_readsMost_183 : decode cX10_readsMost 183 = .ok (.aload_n 0, 1) := by decide +kernel
theorem dX10_readsMost_184 : decode cX10_readsMost 184 = .ok (.getfield 92, 3) := by decide +kernel
theorem dX10_readsMost_187 : decode cX10_readsMost 187 = .ok (.iload_n 3, 1) := by decide +kernel
theorem dX10_readsMost_188 : decode cX10_readsMost 188 = .ok (.iaload, 1) := by decide +kernel
theorem dX10_readsMost_189 : decode cX10_readsMost 189 = .ok (.ireturn, 1) := by decide +kernel
theorem dX10_bestMonth_0 : decode cX10_bestMonth 0 = .ok (.aload_n 0, 1) := by decide +kernel
theorem dX10_bestMonth_1 : decode cX10_bestMonth 1 = .ok (.iload_n 1, 1) := by decide +kernel
theorem dX10_bestMonth_2 : decode cX10_bestMonth 2 = .ok (.invokevirtual 146, 3) := by decide +kernel
theorem dX10_bestMonth_5 : decode cX10_bestMonth 5 = .ok (.ifCond .eq 20, 3) := by decide +kernel
theorem dX10_bestMonth_8 : decode cX10_bestMonth 8 = .ok (.aload_n 0, 1) := by decide +kernel
theorem dX10_bestMonth_9 : decode cX10_bestMonth 9 = .ok (.iload_n 2, 1) := by decide +kernel
theorem dX10_bestMonth_10 : decode cX10_bestMonth 10 = .ok (.invokevirtual 264, 3) := by decide +kernel
theorem dX10_bestMonth_13 : decode cX10_bestMonth 13 = .ok (.ifCond .eq 12, 3) := by decide +kernel
theorem dX10_bestMonth_16 : decode cX10_bestMonth 16 = .ok (.iload_n 3, 1) := by decide +kernel
theorem dX10_bestMonth_17 : decode cX10_bestMonth 17 = .ok (.iconst 0, 1) := by decide +kernel
theorem dX10_bestMonth_18 : decode cX10_bestMonth 18 = .ok (.iconst 1, 1) := by decide +kernel
theorem dX10_bestMonth_19 : decode cX10_bestMonth 19 = .ok (.invokestatic 134, 3) := by decide +kernel
theorem dX10_bestMonth_22 : decode cX10_bestMonth 22 = .ok (.ifCond .ne 5, 3) := by decide +kernel
theorem dX10_bestMonth_25 : decode cX10_bestMonth 25 = .ok (.iconst (-1), 1) := by decide +kernel
theorem dX10_bestMonth_26 : decode cX10_bestMonth 26 = .ok (.ireturn, 1) := by decide +kernel
theorem dX10_bestMonth_27 : decode cX10_bestMonth 27 = .ok (.iconst 0, 1) := by decide +kernel
theorem dX10_bestMonth_28 : decode cX10_bestMonth 28 = .ok (.istore 4, 2) := by decide +kernel
theorem dX10_bestMonth_30 : decode cX10_bestMonth 30 = .ok (.iconst (-1), 1) := by decide +kernel
theorem dX10_bestMonth_31 : decode cX10_bestMonth 31 = .ok (.istore 5, 2) := by decide +kernel
theorem dX10_bestMonth_33 : decode cX10_bestMonth 33 = .ok (.aload_n 0, 1) := by decide +kernel
theorem dX10_bestMonth_34 : decode cX10_bestMonth 34 = .ok (.iload_n 1, 1) := by decide +kernel
theorem dX10_bestMonth_35 : decode cX10_bestMonth 35 = .ok (.invokevirtual 364, 3) := by decide +kernel
theorem dX10_bestMonth_38 : decode cX10_bestMonth 38 = .ok (.iconst 0, 1) := by decide +kernel
theorem dX10_bestMonth_39 : decode cX10_bestMonth 39 = .ok (.istore 6, 2) := by decide +kernel
theorem dX10_bestMonth_41 : decode cX10_bestMonth 41 = .ok (.iload 6, 2) := by decide +kernel
theorem dX10_bestMonth_43 : decode cX10_bestMonth 43 = .ok (.bipush 12, 2) := by decide +kernel
theorem dX10_bestMonth_45 : decode cX10_bestMonth 45 = .ok (.if_icmp .ge 42, 3) := by decide +kernel
theorem dX10_bestMonth_48 : decode cX10_bestMonth 48 = .ok (.aload_n 0, 1) := by decide +kernel
theorem dX10_bestMonth_49 : decode cX10_bestMonth 49 = .ok (.iload_n 1, 1) := by decide +kernel
theorem dX10_bestMonth_50 : decode cX10_bestMonth 50 = .ok (.iload_n 2, 1) := by decide +kernel
theorem dX10_bestMonth_51 : decode cX10_bestMonth 51 = .ok (.iload 6, 2) := by decide +kernel
theorem dX10_bestMonth_53 : decode cX10_bestMonth 53 = .ok (.invokevirtual 367, 3) := by decide +kernel
theorem dX10_bestMonth_56 : decode cX10_bestMonth 56 = .ok (.istore 7, 2) := by decide +kernel
theorem dX10_bestMonth_58 : decode cX10_bestMonth 58 = .ok (.aload_n 0, 1) := by decide +kernel
theorem dX10_bestMonth_59 : decode cX10_bestMonth 59 = .ok (.iconst 0, 1) := by decide +kernel
theorem dX10_bestMonth_60 : decode cX10_bestMonth 60 = .ok (.invokevirtual 370, 3) := by decide +kernel
theorem dX10_bestMonth_63 : decode cX10_bestMonth 63 = .ok (.iload 7, 2) := by decide +kernel
theorem dX10_bestMonth_65 : decode cX10_bestMonth 65 = .ok (.iload 5, 2) := by decide +kernel
theorem dX10_bestMonth_67 : decode cX10_bestMonth 67 = .ok (.if_icmp .gt 6, 3) := by decide +kernel
theorem dX10_bestMonth_70 : decode cX10_bestMonth 70 = .ok (.goto 11, 3) := by decide +kernel
theorem dX10_bestMonth_73 : decode cX10_bestMonth 73 = .ok (.iload 7, 2) := by decide +kernel
theorem dX10_bestMonth_75 : decode cX10_bestMonth 75 = .ok (.istore 5, 2) := by decide +kernel
theorem dX10_bestMonth_77 : decode cX10_bestMonth 77 = .ok (.iload 6, 2) := by decide +kernel
theorem dX10_bestMonth_79 : decode cX10_bestMonth 79 = .ok (.istore 4, 2) := by decide +kernel
theorem dX10_bestMonth_81 : decode cX10_bestMonth 81 = .ok (.iinc 6 1, 3) := by decide +kernel
theorem dX10_bestMonth_84 : decode cX10_bestMonth 84 = .ok (.goto (-43), 3) := by decide +kernel
theorem dX10_bestMonth_87 : decode cX10_bestMonth 87 = .ok (.iload_n 3, 1) := by decide +kernel
theorem dX10_bestMonth_88 : decode cX10_bestMonth 88 = .ok (.ifCond .ne 8, 3) := by decide +kernel
theorem dX10_bestMonth_91 : decode cX10_bestMonth 91 = .ok (.iload 4, 2) := by decide +kernel
theorem dX10_bestMonth_93 : decode cX10_bestMonth 93 = .ok (.goto 5, 3) := by decide +kernel
theorem dX10_bestMonth_96 : decode cX10_bestMonth 96 = .ok (.iload 5, 2) := by decide +kernel
theorem dX10_bestMonth_98 : decode cX10_bestMonth 98 = .ok (.ireturn, 1) := by decide +kernel
theorem dX10_isOnWay_0 : decode cX10_isOnWay 0 = .ok (.iconst 0, 1) := by decide +kernel
theorem dX10_isOnWay_1 : decode cX10_isOnWay 1 = .ok (.istore_n 3, 1) := by decide +kernel
theorem dX10_isOnWay_2 : decode cX10_isOnWay 2 = .ok (.iload_n 3, 1) := by decide +kernel
theorem dX10_isOnWay_3 : decode cX10_isOnWay 3 = .ok (.iload_n 2, 1) := by decide +kernel
theorem dX10_isOnWay_4 : decode cX10_isOnWay 4 = .ok (.if_icmp .gt 21, 3) := by decide +kernel
theorem dX10_isOnWay_7 : decode cX10_isOnWay 7 = .ok (.aload_n 0, 1) := by decide +kernel
theorem dX10_isOnWay_8 : decode cX10_isOnWay 8 = .ok (.getfield 101, 3) := by decide +kernel
theorem dX10_isOnWay_11 : decode cX10_isOnWay 11 = .ok (.iload_n 3, 1) := by decide +kernel
theorem dX10_isOnWay_12 : decode cX10_isOnWay 12 = .ok (.iaload, 1) := by decide +kernel
theorem dX10_isOnWay_13 : decode cX10_isOnWay 13 = .ok (.iload_n 1, 1) := by decide +kernel
theorem dX10_isOnWay_14 : decode cX10_isOnWay 14 = .ok (.if_icmp .ne 5, 3) := by decide +kernel
theorem dX10_isOnWay_17 : decode cX10_isOnWay 17 = .ok (.iconst 1, 1) := by decide +kernel
theorem dX10_isOnWay_18 : decode cX10_isOnWay 18 = .ok (.ireturn, 1) := by decide +kernel
theorem dX10_isOnWay_19 : decode cX10_isOnWay 19 = .ok (.iinc 3 1, 3) := by decide +kernel
theorem dX10_isOnWay_22 : decode cX10_isOnWay 22 = .ok (.goto (-20), 3) := by decide +kernel
theorem dX10_isOnWay_25 : decode cX10_isOnWay 25 = .ok (.iconst 0, 1) := by decide +kernel
theorem dX10_isOnWay_26 : decode cX10_isOnWay 26 = .ok (.ireturn, 1) := by decide +kernel
theorem dX10_laysTales_0 : decode cX10_laysTales 0 = .ok (.iconst 0, 1) := by decide +kernel
theorem dX10_laysTales_1 : decode cX10_laysTales 1 = .ok (.istore_n 2, 1) := by decide +kernel
theorem dX10_laysTales_2 : decode cX10_laysTales 2 = .ok (.iload_n 2, 1) := by decide +kernel
theorem dX10_laysTales_3 : decode cX10_laysTales 3 = .ok (.bipush 12, 2) := by decide +kernel
theorem dX10_laysTales_5 : decode cX10_laysTales 5 = .ok (.if_icmp .ge 16, 3) := by decide +kernel
theorem dX10_laysTales_8 : decode cX10_laysTales 8 = .ok (.aload_n 0, 1) := by decide +kernel
theorem dX10_laysTales_9 : decode cX10_laysTales 9 = .ok (.getfield 98, 3) := by decide +kernel
theorem dX10_laysTales_12 : decode cX10_laysTales 12 = .ok (.iload_n 2, 1) := by decide +kernel
theorem dX10_laysTales_13 : decode cX10_laysTales 13 = .ok (.iconst (-1), 1) := by decide +kernel
theorem dX10_laysTales_14 : decode cX10_laysTales 14 = .ok (.iastore, 1) := by decide +kernel
theorem dX10_laysTales_15 : decode cX10_laysTales 15 = .ok (.iinc 2 1, 3) := by decide +kernel
theorem dX10_laysTales_18 : decode cX10_laysTales 18 = .ok (.goto (-16), 3) := by decide +kernel
theorem dX10_laysTales_21 : decode cX10_laysTales 21 = .ok (.aload_n 0, 1) := by decide +kernel
theorem dX10_laysTales_22 : decode cX10_laysTales 22 = .ok (.getfield 101, 3) := by decide +kernel
theorem dX10_laysTales_25 : decode cX10_laysTales 25 = .ok (.iconst 0, 1) := by decide +kernel
theorem dX10_laysTales_26 : decode cX10_laysTales 26 = .ok (.aload_n 0, 1) := by decide +kernel
theorem dX10_laysTales_27 : decode cX10_laysTales 27 = .ok (.getfield 7, 3) := by decide +kernel
theorem dX10_laysTales_30 : decode cX10_laysTales 30 = .ok (.bipush 126, 2) := by decide +kernel
theorem dX10_laysTales_32 : decode cX10_laysTales 32 = .ok (.iload_n 1, 1) := by decide +kernel
theorem dX10_laysTales_33 : decode cX10_laysTales 33 = .ok (.iadd, 1) := by decide +kernel
theorem dX10_laysTales_34 : decode cX10_laysTales 34 = .ok (.iaload, 1) := by decide +kernel
theorem dX10_laysTales_35 : decode cX10_laysTales 35 = .ok (.iastore, 1) := by decide +kernel
theorem dX10_laysTales_36 : decode cX10_laysTales 36 = .ok (.aload_n 0, 1) := by decide +kernel
theorem dX10_laysTales_37 : decode cX10_laysTales 37 = .ok (.getfield 104, 3) := by decide +kernel
theorem dX10_laysTales_40 : decode cX10_laysTales 40 = .ok (.iconst 0, 1) := by decide +kernel
theorem dX10_laysTales_41 : decode cX10_laysTales 41 = .ok (.aload_n 0, 1) := by decide +kernel
theorem dX10_laysTales_42 : decode cX10_laysTales 42 = .ok (.getfield 7, 3) := by decide +kernel
theorem dX10_laysTales_45 : decode cX10_laysTales 45 = .ok (.sipush 132, 3) := by decide +kernel
theorem dX10_laysTales_48 : decode cX10_laysTales 48 = .ok (.iload_n 1, 1) := by decide +kernel
theorem dX10_laysTales_49 : decode cX10_laysTales 49 = .ok (.iadd, 1) := by decide +kernel
theorem dX10_laysTales_50 : decode cX10_laysTales 50 = .ok (.iaload, 1) := by decide +kernel
theorem dX10_laysTales_51 : decode cX10_laysTales 51 = .ok (.iastore, 1) := by decide +kernel
theorem dX10_laysTales_52 : decode cX10_laysTales 52 = .ok (.aload_n 0, 1) := by decide +kernel
theorem dX10_laysTales_53 : decode cX10_laysTales 53 = .ok (.getfield 98, 3) := by decide +kernel
theorem dX10_laysTales_56 : decode cX10_laysTales 56 = .ok (.aload_n 0, 1) := by decide +kernel
theorem dX10_laysTales_57 : decode cX10_laysTales 57 = .ok (.getfield 101, 3) := by decide +kernel
theorem dX10_laysTales_60 : decode cX10_laysTales 60 = .ok (.iconst 0, 1) := by decide +kernel
theorem dX10_laysTales_61 : decode cX10_laysTales 61 = .ok (.iaload, 1) := by decide +kernel
theorem dX10_laysTales_62 : decode cX10_laysTales 62 = .ok (.aload_n 0, 1) := by decide +kernel
theorem dX10_laysTales_63 : decode cX10_laysTales 63 = .ok (.getfield 104, 3) := by decide +kernel
theorem dX10_laysTales_66 : decode cX10_laysTales 66 = .ok (.iconst 0, 1) := by decide +kernel
theorem dX10_laysTales_67 : decode cX10_laysTales 67 = .ok (.iaload, 1) := by decide +kernel
theorem dX10_laysTales_68 : decode cX10_laysTales 68 = .ok (.iastore, 1) := by decide +kernel
theorem dX10_laysTales_69 : decode cX10_laysTales 69 = .ok (.iconst 0, 1) := by decide +kernel
theorem dX10_laysTales_70 : decode cX10_laysTales 70 = .ok (.istore_n 2, 1) := by decide +kernel
theorem dX10_laysTales_71 : decode cX10_laysTales 71 = .ok (.iconst 0, 1) := by decide +kernel
theorem dX10_laysTales_72 : decode cX10_laysTales 72 = .ok (.istore_n 3, 1) := by decide +kernel
theorem dX10_laysTales_73 : decode cX10_laysTales 73 = .ok (.iload_n 2, 1) := by decide +kernel
theorem dX10_laysTales_74 : decode cX10_laysTales 74 = .ok (.ifCond .lt 175, 3) := by decide +kernel
theorem dX10_laysTales_77 : decode cX10_laysTales 77 = .ok (.aload_n 0, 1) := by decide +kernel
theorem dX10_laysTales_78 : decode cX10_laysTales 78 = .ok (.getfield 101, 3) := by decide +kernel
theorem dX10_laysTales_81 : decode cX10_laysTales 81 = .ok (.iload_n 2, 1) := by decide +kernel
theorem dX10_laysTales_82 : decode cX10_laysTales 82 = .ok (.iaload, 1) := by decide +kernel
theorem dX10_laysTales_83 : decode cX10_laysTales 83 = .ok (.istore 4, 2) := by decide +kernel
theorem dX10_laysTales_85 : decode cX10_laysTales 85 = .ok (.iload_n 3, 1) := by decide +kernel
theorem dX10_laysTales_86 : decode cX10_laysTales 86 = .ok (.bipush 12, 2) := by decide +kernel
theorem dX10_laysTales_88 : decode cX10_laysTales 88 = .ok (.if_icmp .ge 39, 3) := by decide +kernel
theorem dX10_laysTales_91 : decode cX10_laysTales 91 = .ok (.iload_n 2, 1) := by decide +kernel
theorem dX10_laysTales_92 : decode cX10_laysTales 92 = .ok (.iconst 4, 1) := by decide +kernel
theorem dX10_laysTales_93 : decode cX10_laysTales 93 = .ok (.if_icmp .eq 27, 3) := by decide +kernel
theorem dX10_laysTales_96 : decode cX10_laysTales 96 = .ok (.aload_n 0, 1) := by decide +kernel
theorem dX10_laysTales_97 : decode cX10_laysTales 97 = .ok (.getfield 19, 3) := by decide +kernel
theorem dX10_laysTales_100 : decode cX10_laysTales 100 = .ok (.bipush 12, 2) := by decide +kernel
theorem dX10_laysTales_102 : decode cX10_laysTales 102 = .ok (.iload 4, 2) := by decide +kernel
theorem dX10_laysTales_104 : decode cX10_laysTales 104 = .ok (.imul, 1) := by decide +kernel
theorem dX10_laysTales_105 : decode cX10_laysTales 105 = .ok (.iload_n 3, 1) := by decide +kernel
theorem dX10_laysTales_106 : decode cX10_laysTales 106 = .ok (.iadd, 1) := by decide +kernel
theorem dX10_laysTales_107 : decode cX10_laysTales 107 = .ok (.iaload, 1) := by decide +kernel
theorem dX10_laysTales_108 : decode cX10_laysTales 108 = .ok (.ifCond .eq 12, 3) := by decide +kernel
theorem dX10_laysTales_111 : decode cX10_laysTales 111 = .ok (.aload_n 0, 1) := by decide +kernel
theorem dX10_laysTales_112 : decode cX10_laysTales 112 = .ok (.iload_n 3, 1) := by decide +kernel
theorem dX10_laysTales_113 : decode cX10_laysTales 113 = .ok (.iload_n 2, 1) := by decide +kernel
theorem dX10_laysTales_114 : decode cX10_laysTales 114 = .ok (.invokevirtual 373, 3) := by decide +kernel
theorem dX10_laysTales_117 : decode cX10_laysTales 117 = .ok (.ifCond .eq 10, 3) := by decide +kernel
theorem dX10_laysTales_120 : decode cX10_laysTales 120 = .ok (.iload_n 3, 1) := by decide +kernel
theorem dX10_laysTales_121 : decode cX10_laysTales 121 = .ok (.iconst 1, 1) := by decide +kernel
theorem dX10_laysTales_122 : decode cX10_laysTales 122 = .ok (.iadd, 1) := by decide +kernel
theorem dX10_laysTales_123 : decode cX10_laysTales 123 = .ok (.istore_n 3, 1) := by decide +kernel
theorem dX10_laysTales_124 : decode cX10_laysTales 124 = .ok (.goto (-39), 3) := by decide +kernel
theorem dX10_laysTales_127 : decode cX10_laysTales 127 = .ok (.iload_n 3, 1) := by decide +kernel
theorem dX10_laysTales_128 : decode cX10_laysTales 128 = .ok (.bipush 12, 2) := by decide +kernel
theorem dX10_laysTales_130 : decode cX10_laysTales 130 = .ok (.if_icmp .ne 15, 3) := by decide +kernel
theorem dX10_laysTales_133 : decode cX10_laysTales 133 = .ok (.iload 4, 2) := by decide +kernel
theorem dX10_laysTales_135 : decode cX10_laysTales 135 = .ok (.iconst 1, 1) := by decide +kernel
theorem dX10_laysTales_136 : decode cX10_laysTales 136 = .ok (.iadd, 1) := by decide +kernel
theorem dX10_laysTales_137 : decode cX10_laysTales 137 = .ok (.istore_n 3, 1) := by decide +kernel
theorem dX10_laysTales_138 : decode cX10_laysTales 138 = .ok (.iload_n 2, 1) := by decide +kernel
theorem dX10_laysTales_139 : decode cX10_laysTales 139 = .ok (.iconst 1, 1) := by decide +kernel
theorem dX10_laysTales_140 : decode cX10_laysTales 140 = .ok (.isub, 1) := by decide +kernel
theorem dX10_laysTales_141 : decode cX10_laysTales 141 = .ok (.istore_n 2, 1) := by decide +kernel
theorem dX10_laysTales_142 : decode cX10_laysTales 142 = .ok (.goto (-69), 3) := by decide +kernel
theorem dX10_laysTales_145 : decode cX10_laysTales 145 = .ok (.aload_n 0, 1) := by decide +kernel
theorem dX10_laysTales_146 : decode cX10_laysTales 146 = .ok (.iload_n 3, 1) := by decide +kernel
theorem dX10_laysTales_147 : decode cX10_laysTales 147 = .ok (.iload_n 1, 1) := by decide +kernel
theorem dX10_laysTales_148 : decode cX10_laysTales 148 = .ok (.aload_n 0, 1) := by decide +kernel
theorem dX10_laysTales_149 : decode cX10_laysTales 149 = .ok (.getfield 104, 3) := by decide +kernel
theorem dX10_laysTales_152 : decode cX10_laysTales 152 = .ok (.iload_n 2, 1) := by decide +kernel
theorem dX10_laysTales_153 : decode cX10_laysTales 153 = .ok (.iaload, 1) := by decide +kernel
theorem dX10_laysTales_154 : decode cX10_laysTales 154 = .ok (.aload_n 0, 1) := by decide +kernel
theorem dX10_laysTales_155 : decode cX10_laysTales 155 = .ok (.getfield 19, 3) := by decide +kernel
theorem dX10_laysTales_158 : decode cX10_laysTales 158 = .ok (.bipush 12, 2) := by decide +kernel
theorem dX10_laysTales_160 : decode cX10_laysTales 160 = .ok (.iload 4, 2) := by decide +kernel
theorem dX10_laysTales_162 : decode cX10_laysTales 162 = .ok (.imul, 1) := by decide +kernel
theorem dX10_laysTales_163 : decode cX10_laysTales 163 = .ok (.iload_n 3, 1) := by decide +kernel
theorem dX10_laysTales_164 : decode cX10_laysTales 164 = .ok (.iadd, 1) := by decide +kernel
theorem dX10_laysTales_165 : decode cX10_laysTales 165 = .ok (.iaload, 1) := by decide +kernel
theorem dX10_laysTales_166 : decode cX10_laysTales 166 = .ok (.aload_n 0, 1) := by decide +kernel
theorem dX10_laysTales_167 : decode cX10_laysTales 167 = .ok (.iload_n 3, 1) := by decide +kernel
theorem dX10_laysTales_168 : decode cX10_laysTales 168 = .ok (.invokevirtual 287, 3) := by decide +kernel
theorem dX10_laysTales_171 : decode cX10_laysTales 171 = .ok (.aload_n 0, 1) := by decide +kernel
theorem dX10_laysTales_172 : decode cX10_laysTales 172 = .ok (.getfield 7, 3) := by decide +kernel
theorem dX10_laysTales_175 : decode cX10_laysTales 175 = .ok (.sipush 147, 3) := by decide +kernel
theorem dX10_laysTales_178 : decode cX10_laysTales 178 = .ok (.iaload, 1) := by decide +kernel
theorem dX10_laysTales_179 : decode cX10_laysTales 179 = .ok (.invokevirtual 290, 3) := by decide +kernel
theorem dX10_laysTales_182 : decode cX10_laysTales 182 = .ok (.iload_n 2, 1) := by decide +kernel
theorem dX10_laysTales_183 : decode cX10_laysTales 183 = .ok (.iconst 1, 1) := by decide +kernel
theorem dX10_laysTales_184 : decode cX10_laysTales 184 = .ok (.iadd, 1) := by decide +kernel
theorem dX10_laysTales_185 : decode cX10_laysTales 185 = .ok (.istore_n 2, 1) := by decide +kernel
theorem dX10_laysTales_186 : decode cX10_laysTales 186 = .ok (.aload_n 0, 1) := by decide +kernel
theorem dX10_laysTales_187 : decode cX10_laysTales 187 = .ok (.getfield 101, 3) := by decide +kernel
theorem dX10_laysTales_190 : decode cX10_laysTales 190 = .ok (.iload_n 2, 1) := by decide +kernel
theorem dX10_laysTales_191 : decode cX10_laysTales 191 = .ok (.iload_n 3, 1) := by decide +kernel
theorem dX10_laysTales_192 : decode cX10_laysTales 192 = .ok (.iastore, 1) := by decide +kernel
theorem dX10_laysTales_193 : decode cX10_laysTales 193 = .ok (.aload_n 0, 1) := by decide +kernel
theorem dX10_laysTales_194 : decode cX10_laysTales 194 = .ok (.getfield 104, 3) := by decide +kernel
theorem dX10_laysTales_197 : decode cX10_laysTales 197 = .ok (.iload_n 2, 1) := by decide +kernel
theorem dX10_laysTales_198 : decode cX10_laysTales 198 = .ok (.ldc_w 300, 3) := by decide +kernel
theorem dX10_laysTales_201 : decode cX10_laysTales 201 = .ok (.aload_n 0, 1) := by decide +kernel
theorem dX10_laysTales_202 : decode cX10_laysTales 202 = .ok (.getfield 104, 3) := by decide +kernel
theorem dX10_laysTales_205 : decode cX10_laysTales 205 = .ok (.iload_n 2, 1) := by decide +kernel
theorem dX10_laysTales_206 : decode cX10_laysTales 206 = .ok (.iconst 1, 1) := by decide +kernel
theorem dX10_laysTales_207 : decode cX10_laysTales 207 = .ok (.isub, 1) := by decide +kernel
theorem dX10_laysTales_208 : decode cX10_laysTales 208 = .ok (.iaload, 1) := by decide +kernel
theorem dX10_laysTales_209 : decode cX10_laysTales 209 = .ok (.aload_n 0, 1) := by decide +kernel
theorem dX10_laysTales_210 : decode cX10_laysTales 210 = .ok (.bipush 116, 2) := by decide +kernel
theorem dX10_laysTales_212 : decode cX10_laysTales 212 = .ok (.sipush 999, 3) := by decide +kernel
theorem dX10_laysTales_215 : decode cX10_laysTales 215 = .ok (.invokevirtual 301, 3) := by decide +kernel
theorem dX10_laysTales_218 : decode cX10_laysTales 218 = .ok (.iadd, 1) := by decide +kernel
theorem dX10_laysTales_219 : decode cX10_laysTales 219 = .ok (.invokestatic 271, 3) := by decide +kernel
theorem dX10_laysTales_222 : decode cX10_laysTales 222 = .ok (.iastore, 1) := by decide +kernel
theorem dX10_laysTales_223 : decode cX10_laysTales 223 = .ok (.aload_n 0, 1) := by decide +kernel
theorem dX10_laysTales_224 : decode cX10_laysTales 224 = .ok (.getfield 98, 3) := by decide +kernel
theorem dX10_laysTales_227 : decode cX10_laysTales 227 = .ok (.iload_n 3, 1) := by decide +kernel
theorem dX10_laysTales_228 : decode cX10_laysTales 228 = .ok (.aload_n 0, 1) := by decide +kernel
theorem dX10_laysTales_229 : decode cX10_laysTales 229 = .ok (.getfield 98, 3) := by decide +kernel
theorem dX10_laysTales_232 : decode cX10_laysTales 232 = .ok (.iload_n 3, 1) := by decide +kernel
theorem dX10_laysTales_233 : decode cX10_laysTales 233 = .ok (.iaload, 1) := by decide +kernel
theorem dX10_laysTales_234 : decode cX10_laysTales 234 = .ok (.aload_n 0, 1) := by decide +kernel
theorem dX10_laysTales_235 : decode cX10_laysTales 235 = .ok (.getfield 104, 3) := by decide +kernel
theorem dX10_laysTales_238 : decode cX10_laysTales 238 = .ok (.iload_n 2, 1) := by decide +kernel
theorem dX10_laysTales_239 : decode cX10_laysTales 239 = .ok (.iaload, 1) := by decide +kernel
theorem dX10_laysTales_240 : decode cX10_laysTales 240 = .ok (.invokestatic 376, 3) := by decide +kernel
theorem dX10_laysTales_243 : decode cX10_laysTales 243 = .ok (.iastore, 1) := by decide +kernel
theorem dX10_laysTales_244 : decode cX10_laysTales 244 = .ok (.iconst 0, 1) := by decide +kernel
theorem dX10_laysTales_245 : decode cX10_laysTales 245 = .ok (.istore_n 3, 1) := by decide +kernel
theorem dX10_laysTales_246 : decode cX10_laysTales 246 = .ok (.goto (-173), 3) := by decide +kernel
theorem dX10_laysTales_249 : decode cX10_laysTales 249 = .ok (.return_, 1) := by decide +kernel
theorem dX10_tales_0 : decode cX10_tales 0 = .ok (.aload_n 0, 1) := by decide +kernel
theorem dX10_tales_1 : decode cX10_tales 1 = .ok (.iload_n 1, 1) := by decide +kernel
theorem dX10_tales_2 : decode cX10_tales 2 = .ok (.invokevirtual 264, 3) := by decide +kernel
theorem dX10_tales_5 : decode cX10_tales 5 = .ok (.ifCond .eq 12, 3) := by decide +kernel
theorem dX10_tales_8 : decode cX10_tales 8 = .ok (.iload_n 2, 1) := by decide +kernel
theorem dX10_tales_9 : decode cX10_tales 9 = .ok (.iconst 0, 1) := by decide +kernel
theorem dX10_tales_10 : decode cX10_tales 10 = .ok (.iconst 2, 1) := by decide +kernel
theorem dX10_tales_11 : decode cX10_tales 11 = .ok (.invokestatic 134, 3) := by decide +kernel
theorem dX10_tales_14 : decode cX10_tales 14 = .ok (.ifCond .ne 5, 3) := by decide +kernel
theorem dX10_tales_17 : decode cX10_tales 17 = .ok (.iconst (-1), 1) := by decide +kernel
theorem dX10_tales_18 : decode cX10_tales 18 = .ok (.ireturn, 1) := by decide +kernel
theorem dX10_tales_19 : decode cX10_tales 19 = .ok (.aload_n 0, 1) := by decide +kernel
theorem dX10_tales_20 : decode cX10_tales 20 = .ok (.iload_n 1, 1) := by decide +kernel
theorem dX10_tales_21 : decode cX10_tales 21 = .ok (.invokevirtual 379, 3) := by decide +kernel
theorem dX10_tales_24 : decode cX10_tales 24 = .ok (.iconst 0, 1) := by decide +kernel
theorem dX10_tales_25 : decode cX10_tales 25 = .ok (.istore_n 3, 1) := by decide +kernel
theorem dX10_tales_26 : decode cX10_tales 26 = .ok (.iconst 0, 1) := by decide +kernel
theorem dX10_tales_27 : decode cX10_tales 27 = .ok (.istore 4, 2) := by decide +kernel
theorem dX10_tales_29 : decode cX10_tales 29 = .ok (.bipush (-2), 2) := by decide +kernel
theorem dX10_tales_31 : decode cX10_tales 31 = .ok (.istore 5, 2) := by decide +kernel
theorem dX10_tales_33 : decode cX10_tales 33 = .ok (.iconst 0, 1) := by decide +kernel
theorem dX10_tales_34 : decode cX10_tales 34 = .ok (.istore 6, 2) := by decide +kernel
theorem dX10_tales_36 : decode cX10_tales 36 = .ok (.iload 6, 2) := by decide +kernel
theorem dX10_tales_38 : decode cX10_tales 38 = .ok (.bipush 12, 2) := by decide +kernel
theorem dX10_tales_40 : decode cX10_tales 40 = .ok (.if_icmp .ge 109, 3) := by decide +kernel
theorem dX10_tales_43 : decode cX10_tales 43 = .ok (.aload_n 0, 1) := by decide +kernel
theorem dX10_tales_44 : decode cX10_tales 44 = .ok (.iload_n 1, 1) := by decide +kernel
theorem dX10_tales_45 : decode cX10_tales 45 = .ok (.iload 6, 2) := by decide +kernel
theorem dX10_tales_47 : decode cX10_tales 47 = .ok (.invokevirtual 284, 3) := by decide +kernel
theorem dX10_tales_50 : decode cX10_tales 50 = .ok (.ifCond .ne 6, 3) := by decide +kernel
theorem dX10_tales_53 : decode cX10_tales 53 = .ok (.goto 90, 3) := by decide +kernel
theorem dX10_tales_56 : decode cX10_tales 56 = .ok (.aload_n 0, 1) := by decide +kernel
theorem dX10_tales_57 : decode cX10_tales 57 = .ok (.getfield 7, 3) := by decide +kernel
theorem dX10_tales_60 : decode cX10_tales 60 = .ok (.iload_n 1, 1) := by decide +kernel
theorem dX10_tales_61 : decode cX10_tales 61 = .ok (.iload 6, 2) := by decide +kernel
theorem dX10_tales_63 : decode cX10_tales 63 = .ok (.invokestatic 142, 3) := by decide +kernel
theorem dX10_tales_66 : decode cX10_tales 66 = .ok (.iaload, 1) := by decide +kernel
theorem dX10_tales_67 : decode cX10_tales 67 = .ok (.istore 7, 2) := by decide +kernel
theorem dX10_tales_69 : decode cX10_tales 69 = .ok (.iload 7, 2) := by decide +kernel
theorem dX10_tales_71 : decode cX10_tales 71 = .ok (.aload_n 0, 1) := by decide +kernel
theorem dX10_tales_72 : decode cX10_tales 72 = .ok (.getfield 7, 3) := by decide +kernel
theorem dX10_tales_75 : decode cX10_tales 75 = .ok (.sipush 132, 3) := by decide +kernel
theorem dX10_tales_78 : decode cX10_tales 78 = .ok (.iload_n 1, 1) := by decide +kernel
theorem dX10_tales_79 : decode cX10_tales 79 = .ok (.iadd, 1) := by decide +kernel
theorem dX10_tales_80 : decode cX10_tales 80 = .ok (.iaload, 1) := by decide +kernel
theorem dX10_tales_81 : decode cX10_tales 81 = .ok (.if_icmp .lt 15, 3) := by decide +kernel
theorem dX10_tales_84 : decode cX10_tales 84 = .ok (.iload 7, 2) := by decide +kernel
theorem dX10_tales_86 : decode cX10_tales 86 = .ok (.aload_n 0, 1) := by decide +kernel
theorem dX10_tales_87 : decode cX10_tales 87 = .ok (.getfield 98, 3) := by decide +kernel
theorem dX10_tales_90 : decode cX10_tales 90 = .ok (.iload 6, 2) := by decide +kernel
theorem dX10_tales_92 : decode cX10_tales 92 = .ok (.iaload, 1) := by decide +kernel
theorem dX10_tales_93 : decode cX10_tales 93 = .ok (.if_icmp .le 10, 3) := by decide +kernel
theorem dX10_tales_96 : decode cX10_tales 96 = .ok (.iload_n 3, 1) := by decide +kernel
theorem dX10_tales_97 : decode cX10_tales 97 = .ok (.iconst 1, 1) := by decide +kernel
theorem dX10_tales_98 : decode cX10_tales 98 = .ok (.iload 6, 2) := by decide +kernel
theorem dX10_tales_100 : decode cX10_tales 100 = .ok (.ishl, 1) := by decide +kernel
theorem dX10_tales_101 : decode cX10_tales 101 = .ok (.ior, 1) := by decide +kernel
theorem dX10_tales_102 : decode cX10_tales 102 = .ok (.istore_n 3, 1) := by decide +kernel
theorem dX10_tales_103 : decode cX10_tales 103 = .ok (.iload 7, 2) := by decide +kernel
theorem dX10_tales_105 : decode cX10_tales 105 = .ok (.aload_n 0, 1) := by decide +kernel
theorem dX10_tales_106 : decode cX10_tales 106 = .ok (.getfield 7, 3) := by decide +kernel
theorem dX10_tales_109 : decode cX10_tales 109 = .ok (.sipush 132, 3) := by decide +kernel
theorem dX10_tales_112 : decode cX10_tales 112 = .ok (.iload_n 1, 1) := by decide +kernel
theorem dX10_tales_113 : decode cX10_tales 113 = .ok (.iadd, 1) := by decide +kernel
theorem dX10_tales_114 : decode cX10_tales 114 = .ok (.iaload, 1) := by decide +kernel
theorem dX10_tales_115 : decode cX10_tales 115 = .ok (.isub, 1) := by decide +kernel
theorem dX10_tales_116 : decode cX10_tales 116 = .ok (.iload 4, 2) := by decide +kernel
theorem dX10_tales_118 : decode cX10_tales 118 = .ok (.if_icmp .gt 6, 3) := by decide +kernel
theorem dX10_tales_121 : decode cX10_tales 121 = .ok (.goto 22, 3) := by decide +kernel
theorem dX10_tales_124 : decode cX10_tales 124 = .ok (.iload 7, 2) := by decide +kernel
theorem dX10_tales_126 : decode cX10_tales 126 = .ok (.aload_n 0, 1) := by decide +kernel
theorem dX10_tales_127 : decode cX10_tales 127 = .ok (.getfield 7, 3) := by decide +kernel
theorem dX10_tales_130 : decode cX10_tales 130 = .ok (.sipush 132, 3) := by decide +kernel
theorem dX10_tales_133 : decode cX10_tales 133 = .ok (.iload_n 1, 1) := by decide +kernel
theorem dX10_tales_134 : decode cX10_tales 134 = .ok (.iadd, 1) := by decide +kernel
theorem dX10_tales_135 : decode cX10_tales 135 = .ok (.iaload, 1) := by decide +kernel
theorem dX10_tales_136 : decode cX10_tales 136 = .ok (.isub, 1) := by decide +kernel
theorem dX10_tales_137 : decode cX10_tales 137 = .ok (.istore 4, 2) := by decide +kernel
theorem dX10_tales_139 : decode cX10_tales 139 = .ok (.iload 6, 2) := by decide +kernel
theorem dX10_tales_141 : decode cX10_tales 141 = .ok (.istore 5, 2) := by decide +kernel
theorem dX10_tales_143 : decode cX10_tales 143 = .ok (.iinc 6 1, 3) := by decide +kernel
theorem dX10_tales_146 : decode cX10_tales 146 = .ok (.goto (-110), 3) := by decide +kernel
theorem dX10_tales_149 : decode cX10_tales 149 = .ok (.iload_n 2, 1) := by decide +kernel
theorem dX10_tales_150 : decode cX10_tales 150 = .ok (.ifCond .ne 7, 3) := by decide +kernel
theorem dX10_tales_153 : decode cX10_tales 153 = .ok (.iload_n 3, 1) := by decide +kernel
theorem dX10_tales_154 : decode cX10_tales 154 = .ok (.goto 15, 3) := by decide +kernel
theorem dX10_tales_157 : decode cX10_tales 157 = .ok (.iload_n 2, 1) := by decide +kernel
theorem dX10_tales_158 : decode cX10_tales 158 = .ok (.iconst 1, 1) := by decide +kernel
theorem dX10_tales_159 : decode cX10_tales 159 = .ok (.if_icmp .ne 8, 3) := by decide +kernel
theorem dX10_tales_162 : decode cX10_tales 162 = .ok (.iload 4, 2) := by decide +kernel
theorem dX10_tales_164 : decode cX10_tales 164 = .ok (.goto 5, 3) := by decide +kernel
theorem dX10_tales_167 : decode cX10_tales 167 = .ok (.iload 5, 2) := by decide +kernel
theorem dX10_tales_169 : decode cX10_tales 169 = .ok (.ireturn, 1) := by decide +kernel
theorem dX10_laysText_0 : decode cX10_laysText 0 = .ok (.aload_n 0, 1) := by decide +kernel
theorem dX10_laysText_1 : decode cX10_laysText 1 = .ok (.getfield 110, 3) := by decide +kernel
theorem dX10_laysText_4 : decode cX10_laysText 4 = .ok (.iload_n 1, 1) := by decide +kernel
theorem dX10_laysText_5 : decode cX10_laysText 5 = .ok (.iload_n 2, 1) := by decide +kernel
theorem dX10_laysText_6 : decode cX10_laysText 6 = .ok (.iastore, 1) := by decide +kernel
theorem dX10_laysText_7 : decode cX10_laysText 7 = .ok (.iconst 0, 1) := by decide +kernel
theorem dX10_laysText_8 : decode cX10_laysText 8 = .ok (.istore_n 3, 1) := by decide +kernel
theorem dX10_laysText_9 : decode cX10_laysText 9 = .ok (.iload_n 3, 1) := by decide +kernel
theorem dX10_laysText_10 : decode cX10_laysText 10 = .ok (.iload_n 2, 1) := by decide +kernel
theorem dX10_laysText_11 : decode cX10_laysText 11 = .ok (.if_icmp .ge 26, 3) := by decide +kernel
theorem dX10_laysText_14 : decode cX10_laysText 14 = .ok (.aload_n 0, 1) := by decide +kernel
theorem dX10_laysText_15 : decode cX10_laysText 15 = .ok (.getfield 107, 3) := by decide +kernel
theorem dX10_laysText_18 : decode cX10_laysText 18 = .ok (.bipush 40, 2) := by decide +kernel
theorem dX10_laysText_20 : decode cX10_laysText 20 = .ok (.iload_n 1, 1) := by decide +kernel
theorem dX10_laysText_21 : decode cX10_laysText 21 = .ok (.imul, 1) := by decide +kernel
theorem dX10_laysText_22 : decode cX10_laysText 22 = .ok (.iload_n 3, 1) := by decide +kernel
theorem dX10_laysText_23 : decode cX10_laysText 23 = .ok (.iadd, 1) := by decide +kernel
theorem dX10_laysText_24 : decode cX10_laysText 24 = .ok (.aload_n 0, 1) := by decide +kernel
theorem dX10_laysText_25 : decode cX10_laysText 25 = .ok (.getfield 22, 3) := by decide +kernel
theorem dX10_laysText_28 : decode cX10_laysText 28 = .ok (.iload_n 3, 1) := by decide +kernel
theorem dX10_laysText_29 : decode cX10_laysText 29 = .ok (.baload, 1) := by decide +kernel
theorem dX10_laysText_30 : decode cX10_laysText 30 = .ok (.bastore, 1) := by decide +kernel
theorem dX10_laysText_31 : decode cX10_laysText 31 = .ok (.iinc 3 1, 3) := by decide +kernel
theorem dX10_laysText_34 : decode cX10_laysText 34 = .ok (.goto (-25), 3) := by decide +kernel
theorem dX10_laysText_37 : decode cX10_laysText 37 = .ok (.return_, 1) := by decide +kernel
theorem dX10_text_0 : decode cX10_text 0 = .ok (.iload_n 1, 1) := by decide +kernel
theorem dX10_text_1 : decode cX10_text 1 = .ok (.iconst 0, 1) := by decide +kernel
theorem dX10_text_2 : decode cX10_text 2 = .ok (.iconst 5, 1) := by decide +kernel
theorem dX10_text_3 : decode cX10_text 3 = .ok (.invokestatic 134, 3) := by decide +kernel
theorem dX10_text_6 : decode cX10_text 6 = .ok (.ifCond .eq 21, 3) := by decide +kernel
theorem dX10_text_9 : decode cX10_text 9 = .ok (.iload_n 2, 1) := by decide +kernel
theorem dX10_text_10 : decode cX10_text 10 = .ok (.iconst 1, 1) := by decide +kernel
theorem dX10_text_11 : decode cX10_text 11 = .ok (.bipush 40, 2) := by decide +kernel
theorem dX10_text_13 : decode cX10_text 13 = .ok (.invokestatic 134, 3) := by decide +kernel
theorem dX10_text_16 : decode cX10_text 16 = .ok (.ifCond .eq 11, 3) := by decide +kernel
theorem dX10_text_19 : decode cX10_text 19 = .ok (.iload_n 2, 1) := by decide +kernel
theorem dX10_text_20 : decode cX10_text 20 = .ok (.aload_n 0, 1) := by decide +kernel
theorem dX10_text_21 : decode cX10_text 21 = .ok (.getfield 150, 3) := by decide +kernel
theorem dX10_text_24 : decode cX10_text 24 = .ok (.if_icmp .le 5, 3) := by decide +kernel
theorem dX10_text_27 : decode cX10_text 27 = .ok (.iconst 0, 1) := by decide +kernel
theorem dX10_text_28 : decode cX10_text 28 = .ok (.ireturn, 1) := by decide +kernel
theorem dX10_text_29 : decode cX10_text 29 = .ok (.aload_n 0, 1) := by decide +kernel
theorem dX10_text_30 : decode cX10_text 30 = .ok (.iload_n 1, 1) := by decide +kernel
theorem dX10_text_31 : decode cX10_text 31 = .ok (.iload_n 2, 1) := by decide +kernel
theorem dX10_text_32 : decode cX10_text 32 = .ok (.invokevirtual 382, 3) := by decide +kernel
theorem dX10_text_35 : decode cX10_text 35 = .ok (.aload_n 0, 1) := by decide +kernel
theorem dX10_text_36 : decode cX10_text 36 = .ok (.iconst 0, 1) := by decide +kernel
theorem dX10_text_37 : decode cX10_text 37 = .ok (.putfield 150, 3) := by decide +kernel
theorem dX10_text_40 : decode cX10_text 40 = .ok (.iconst 1, 1) := by decide +kernel
theorem dX10_text_41 : decode cX10_text 41 = .ok (.ireturn, 1) := by decide +kernel
theorem dX10_farFrom_0 : decode cX10_farFrom 0 = .ok (.iconst 0, 1) := by decide +kernel
theorem dX10_farFrom_1 : decode cX10_farFrom 1 = .ok (.istore_n 3, 1) := by decide +kernel
theorem dX10_farFrom_2 : decode cX10_farFrom 2 = .ok (.iload_n 3, 1) := by decide +kernel
theorem dX10_farFrom_3 : decode cX10_farFrom 3 = .ok (.aload_n 0, 1) := by decide +kernel
theorem dX10_farFrom_4 : decode cX10_farFrom 4 = .ok (.getfield 110, 3) := by decide +kernel
theorem dX10_farFrom_7 : decode cX10_farFrom 7 = .ok (.iload_n 2, 1) := by decide +kernel
theorem dX10_farFrom_8 : decode cX10_farFrom 8 = .ok (.iaload, 1) := by decide +kernel
theorem dX10_farFrom_9 : decode cX10_farFrom 9 = .ok (.if_icmp .gt 16, 3) := by decide +kernel
theorem dX10_farFrom_12 : decode cX10_farFrom 12 = .ok (.aload_n 0, 1) := by decide +kernel
theorem dX10_farFrom_13 : decode cX10_farFrom 13 = .ok (.getfield 113, 3) := by decide +kernel
theorem dX10_farFrom_16 : decode cX10_farFrom 16 = .ok (.iload_n 3, 1) := by decide +kernel
theorem dX10_farFrom_17 : decode cX10_farFrom 17 = .ok (.iload_n 3, 1) := by decide +kernel
theorem dX10_farFrom_18 : decode cX10_farFrom 18 = .ok (.iastore, 1) := by decide +kernel
theorem dX10_farFrom_19 : decode cX10_farFrom 19 = .ok (.iinc 3 1, 3) := by decide +kernel
theorem dX10_farFrom_22 : decode cX10_farFrom 22 = .ok (.goto (-20), 3) := by decide +kernel
theorem dX10_farFrom_25 : decode cX10_farFrom 25 = .ok (.iconst 1, 1) := by decide +kernel
theorem dX10_farFrom_26 : decode cX10_farFrom 26 = .ok (.istore_n 3, 1) := by decide +kernel
theorem dX10_farFrom_27 : decode cX10_farFrom 27 = .ok (.iload_n 3, 1) := by decide +kernel
theorem dX10_farFrom_28 : decode cX10_farFrom 28 = .ok (.aload_n 0, 1) := by decide +kernel
theorem dX10_farFrom_29 : decode cX10_farFrom 29 = .ok (.getfield 110, 3) := by decide +kernel
theorem dX10_farFrom_32 : decode cX10_farFrom 32 = .ok (.iload_n 1, 1) := by decide +kernel
theorem dX10_farFrom_33 : decode cX10_farFrom 33 = .ok (.iaload, 1) := by decide +kernel
theorem dX10_farFrom_34 : decode cX10_farFrom 34 = .ok (.if_icmp .gt 150, 3) := by decide +kernel
theorem dX10_farFrom_37 : decode cX10_farFrom 37 = .ok (.aload_n 0, 1) := by decide +kernel
theorem dX10_farFrom_38 : decode cX10_farFrom 38 = .ok (.getfield 116, 3) := by decide +kernel
theorem dX10_farFrom_41 : decode cX10_farFrom 41 = .ok (.iconst 0, 1) := by decide +kernel
theorem dX10_farFrom_42 : decode cX10_farFrom 42 = .ok (.iload_n 3, 1) := by decide +kernel
theorem dX10_farFrom_43 : decode cX10_farFrom 43 = .ok (.iastore, 1) := by decide +kernel
theorem dX10_farFrom_44 : decode cX10_farFrom 44 = .ok (.iconst 1, 1) := by decide +kernel
theorem dX10_farFrom_45 : decode cX10_farFrom 45 = .ok (.istore 4, 2) := by decide +kernel
theorem dX10_farFrom_47 : decode cX10_farFrom 47 = .ok (.iload 4, 2) := by decide +kernel
theorem dX10_farFrom_49 : decode cX10_farFrom 49 = .ok (.aload_n 0, 1) := by decide +kernel
theorem dX10_farFrom_50 : decode cX10_farFrom 50 = .ok (.getfield 110, 3) := by decide +kernel
theorem dX10_farFrom_53 : decode cX10_farFrom 53 = .ok (.iload_n 2, 1) := by decide +kernel
theorem dX10_farFrom_54 : decode cX10_farFrom 54 = .ok (.iaload, 1) := by decide +kernel
theorem dX10_farFrom_55 : decode cX10_farFrom 55 = .ok (.if_icmp .gt 89, 3) := by decide +kernel
theorem dX10_farFrom_58 : decode cX10_farFrom 58 = .ok (.aload_n 0, 1) := by decide +kernel
theorem dX10_farFrom_59 : decode cX10_farFrom 59 = .ok (.getfield 113, 3) := by decide +kernel
theorem dX10_farFrom_62 : decode cX10_farFrom 62 = .ok (.iload 4, 2) := by decide +kernel
theorem dX10_farFrom_64 : decode cX10_farFrom 64 = .ok (.iconst 1, 1) := by decide +kernel
theorem dX10_farFrom_65 : decode cX10_farFrom 65 = .ok (.isub, 1) := by decide +kernel
theorem dX10_farFrom_66 : decode cX10_farFrom 66 = .ok (.iaload, 1) := by decide +kernel
theorem dX10_farFrom_67 : decode cX10_farFrom 67 = .ok (.aload_n 0, 1) := by decide +kernel
theorem dX10_farFrom_68 : decode cX10_farFrom 68 = .ok (.getfield 107, 3) := by decide +kernel
theorem dX10_farFrom_71 : decode cX10_farFrom 71 = .ok (.bipush 40, 2) := by decide +kernel
theorem dX10_farFrom_73 : decode cX10_farFrom 73 = .ok (.iload_n 1, 1) := by decide +kernel
theorem dX10_farFrom_74 : decode cX10_farFrom 74 = .ok (.imul, 1) := by decide +kernel
theorem dX10_farFrom_75 : decode cX10_farFrom 75 = .ok (.iload_n 3, 1) := by decide +kernel
theorem dX10_farFrom_76 : decode cX10_farFrom 76 = .ok (.iadd, 1) := by decide +kernel
theorem dX10_farFrom_77 : decode cX10_farFrom 77 = .ok (.iconst 1, 1) := by decide +kernel
theorem dX10_farFrom_78 : decode cX10_farFrom 78 = .ok (.isub, 1) := by decide +kernel
theorem dX10_farFrom_79 : decode cX10_farFrom 79 = .ok (.baload, 1) := by decide +kernel
theorem dX10_farFrom_80 : decode cX10_farFrom 80 = .ok (.aload_n 0, 1) := by decide +kernel
theorem dX10_farFrom_81 : decode cX10_farFrom 81 = .ok (.getfield 107, 3) := by decide +kernel
theorem dX10_farFrom_84 : decode cX10_farFrom 84 = .ok (.bipush 40, 2) := by decide +kernel
theorem dX10_farFrom_86 : decode cX10_farFrom 86 = .ok (.iload_n 2, 1) := by decide +kernel
theorem dX10_farFrom_87 : decode cX10_farFrom 87 = .ok (.imul, 1) := by decide +kernel
theorem dX10_farFrom_88 : decode cX10_farFrom 88 = .ok (.iload 4, 2) := by decide +kernel
theorem dX10_farFrom_90 : decode cX10_farFrom 90 = .ok (.iadd, 1) := by decide +kernel
theorem dX10_farFrom_91 : decode cX10_farFrom 91 = .ok (.iconst 1, 1) := by decide +kernel
theorem dX10_farFrom_92 : decode cX10_farFrom 92 = .ok (.isub, 1) := by decide +kernel
theorem dX10_farFrom_93 : decode cX10_farFrom 93 = .ok (.baload, 1) := by decide +kernel
theorem dX10_farFrom_94 : decode cX10_farFrom 94 = .ok (.if_icmp .ne 7, 3) := by decide +kernel
theorem dX10_farFrom_97 : decode cX10_farFrom 97 = .ok (.iconst 0, 1) := by decide +kernel
theorem dX10_farFrom_98 : decode cX10_farFrom 98 = .ok (.goto 4, 3) := by decide +kernel
theorem dX10_farFrom_101 : decode cX10_farFrom 101 = .ok (.iconst 1, 1) := by decide +kernel
theorem dX10_farFrom_102 : decode cX10_farFrom 102 = .ok (.iadd, 1) := by decide +kernel
theorem dX10_farFrom_103 : decode cX10_farFrom 103 = .ok (.istore 5, 2) := by decide +kernel
theorem dX10_farFrom_105 : decode cX10_farFrom 105 = .ok (.aload_n 0, 1) := by decide +kernel
theorem dX10_farFrom_106 : decode cX10_farFrom 106 = .ok (.getfield 116, 3) := by decide +kernel
theorem dX10_farFrom_109 : decode cX10_farFrom 109 = .ok (.iload 4, 2) := by decide +kernel
theorem dX10_farFrom_111 : decode cX10_farFrom 111 = .ok (.iload 5, 2) := by decide +kernel
theorem dX10_farFrom_113 : decode cX10_farFrom 113 = .ok (.iconst 1, 1) := by decide +kernel
theorem dX10_farFrom_114 : decode cX10_farFrom 114 = .ok (.aload_n 0, 1) := by decide +kernel
theorem dX10_farFrom_115 : decode cX10_farFrom 115 = .ok (.getfield 113, 3) := by decide +kernel
theorem dX10_farFrom_118 : decode cX10_farFrom 118 = .ok (.iload 4, 2) := by decide +kernel
theorem dX10_farFrom_120 : decode cX10_farFrom 120 = .ok (.iaload, 1) := by decide +kernel
theorem dX10_farFrom_121 : decode cX10_farFrom 121 = .ok (.aload_n 0, 1) := by decide +kernel
theorem dX10_farFrom_122 : decode cX10_farFrom 122 = .ok (.getfield 116, 3) := by decide +kernel
theorem dX10_farFrom_125 : decode cX10_farFrom 125 = .ok (.iload 4, 2) := by decide +kernel
theorem dX10_farFrom_127 : decode cX10_farFrom 127 = .ok (.iconst 1, 1) := by decide +kernel
theorem dX10_farFrom_128 : decode cX10_farFrom 128 = .ok (.isub, 1) := by decide +kernel
theorem dX10_farFrom_129 : decode cX10_farFrom 129 = .ok (.iaload, 1) := by decide +kernel
theorem dX10_farFrom_130 : decode cX10_farFrom 130 = .ok (.invokestatic 271, 3) := by decide +kernel
theorem dX10_farFrom_133 : decode cX10_farFrom 133 = .ok (.iadd, 1) := by decide +kernel
theorem dX10_farFrom_134 : decode cX10_farFrom 134 = .ok (.invokestatic 271, 3) := by decide +kernel
theorem dX10_farFrom_137 : decode cX10_farFrom 137 = .ok (.iastore, 1) := by decide +kernel
theorem dX10_farFrom_138 : decode cX10_farFrom 138 = .ok (.iinc 4 1, 3) := by decide +kernel
theorem dX10_farFrom_141 : decode cX10_farFrom 141 = .ok (.goto (-94), 3) := by decide +kernel
theorem dX10_farFrom_144 : decode cX10_farFrom 144 = .ok (.iconst 0, 1) := by decide +kernel
theorem dX10_farFrom_145 : decode cX10_farFrom 145 = .ok (.istore 4, 2) := by decide +kernel
theorem dX10_farFrom_147 : decode cX10_farFrom 147 = .ok (.iload 4, 2) := by decide +kernel
theorem dX10_farFrom_149 : decode cX10_farFrom 149 = .ok (.aload_n 0, 1) := by decide +kernel
theorem dX10_farFrom_150 : decode cX10_farFrom 150 = .ok (.getfield 110, 3) := by decide +kernel
theorem dX10_farFrom_153 : decode cX10_farFrom 153 = .ok (.iload_n 2, 1) := by decide +kernel
theorem dX10_farFrom_154 : decode cX10_farFrom 154 = .ok (.iaload, 1) := by decide +kernel
theorem dX10_farFrom_155 : decode cX10_farFrom 155 = .ok (.if_icmp .gt 23, 3) := by decide +kernel
theorem dX10_farFrom_158 : decode cX10_farFrom 158 = .ok (.aload_n 0, 1) := by decide +kernel
theorem dX10_farFrom_159 : decode cX10_farFrom 159 = .ok (.getfield 113, 3) := by decide +kernel
theorem dX10_farFrom_162 : decode cX10_farFrom 162 = .ok (.iload 4, 2) := by decide +kernel
theorem dX10_farFrom_164 : decode cX10_farFrom 164 = .ok (.aload_n 0, 1) := by decide +kernel
theorem dX10_farFrom_165 : decode cX10_farFrom 165 = .ok (.getfield 116, 3) := by decide +kernel
theorem dX10_farFrom_168 : decode cX10_farFrom 168 = .ok (.iload 4, 2) := by decide +kernel
theorem dX10_farFrom_170 : decode cX10_farFrom 170 = .ok (.iaload, 1) := by decide +kernel
theorem dX10_farFrom_171 : decode cX10_farFrom 171 = .ok (.iastore, 1) := by decide +kernel
theorem dX10_farFrom_172 : decode cX10_farFrom 172 = .ok (.iinc 4 1, 3) := by decide +kernel
theorem dX10_farFrom_175 : decode cX10_farFrom 175 = .ok (.goto (-28), 3) := by decide +kernel
theorem dX10_farFrom_178 : decode cX10_farFrom 178 = .ok (.iinc 3 1, 3) := by decide +kernel
theorem dX10_farFrom_181 : decode cX10_farFrom 181 = .ok (.goto (-154), 3) := by decide +kernel
theorem dX10_farFrom_184 : decode cX10_farFrom 184 = .ok (.aload_n 0, 1) := by decide +kernel
theorem dX10_farFrom_185 : decode cX10_farFrom 185 = .ok (.getfield 113, 3) := by decide +kernel
theorem dX10_farFrom_188 : decode cX10_farFrom 188 = .ok (.aload_n 0, 1) := by decide +kernel
theorem dX10_farFrom_189 : decode cX10_farFrom 189 = .ok (.getfield 110, 3) := by decide +kernel
theorem dX10_farFrom_192 : decode cX10_farFrom 192 = .ok (.iload_n 2, 1) := by decide +kernel
theorem dX10_farFrom_193 : decode cX10_farFrom 193 = .ok (.iaload, 1) := by decide +kernel
theorem dX10_farFrom_194 : decode cX10_farFrom 194 = .ok (.iaload, 1) := by decide +kernel
theorem dX10_farFrom_195 : decode cX10_farFrom 195 = .ok (.ireturn, 1) := by decide +kernel
theorem dX10_far_0 : decode cX10_far 0 = .ok (.iload_n 1, 1) := by decide +kernel
theorem dX10_far_1 : decode cX10_far 1 = .ok (.iconst 0, 1) := by decide +kernel
theorem dX10_far_2 : decode cX10_far 2 = .ok (.iconst 5, 1) := by decide +kernel
theorem dX10_far_3 : decode cX10_far 3 = .ok (.invokestatic 134, 3) := by decide +kernel
theorem dX10_far_6 : decode cX10_far 6 = .ok (.ifCond .eq 12, 3) := by decide +kernel
theorem dX10_far_9 : decode cX10_far 9 = .ok (.iload_n 2, 1) := by decide +kernel
theorem dX10_far_10 : decode cX10_far 10 = .ok (.iconst 0, 1) := by decide +kernel
theorem dX10_far_11 : decode cX10_far 11 = .ok (.iconst 5, 1) := by decide +kernel
theorem dX10_far_12 : decode cX10_far 12 = .ok (.invokestatic 134, 3) := by decide +kernel
theorem dX10_far_15 : decode cX10_far 15 = .ok (.ifCond .ne 5, 3) := by decide +kernel
theorem dX10_far_18 : decode cX10_far 18 = .ok (.iconst (-1), 1) := by decide +kernel
theorem dX10_far_19 : decode cX10_far 19 = .ok (.ireturn, 1) := by decide +kernel
theorem dX10_far_20 : decode cX10_far 20 = .ok (.aload_n 0, 1) := by decide +kernel
theorem dX10_far_21 : decode cX10_far 21 = .ok (.getfield 110, 3) := by decide +kernel
theorem dX10_far_24 : decode cX10_far 24 = .ok (.iload_n 1, 1) := by decide +kernel
theorem dX10_far_25 : decode cX10_far 25 = .ok (.iaload, 1) := by decide +kernel
theorem dX10_far_26 : decode cX10_far 26 = .ok (.ifCond .eq 12, 3) := by decide +kernel
theorem dX10_far_29 : decode cX10_far 29 = .ok (.aload_n 0, 1) := by decide +kernel
theorem dX10_far_30 : decode cX10_far 30 = .ok (.getfield 110, 3) := by decide +kernel
theorem dX10_far_33 : decode cX10_far 33 = .ok (.iload_n 2, 1) := by decide +kernel
theorem dX10_far_34 : decode cX10_far 34 = .ok (.iaload, 1) := by decide +kernel
theorem dX10_far_35 : decode cX10_far 35 = .ok (.ifCond .ne 8, 3) := by decide +kernel
theorem dX10_far_38 : decode cX10_far 38 = .ok (.bipush (-2), 2) := by decide +kernel
theorem dX10_far_40 : decode cX10_far 40 = .ok (.goto 9, 3) := by decide +kernel
theorem dX10_far_43 : decode cX10_far 43 = .ok (.aload_n 0, 1) := by decide +kernel
theorem dX10_far_44 : decode cX10_far 44 = .ok (.iload_n 1, 1) := by decide +kernel
theorem dX10_far_45 : decode cX10_far 45 = .ok (.iload_n 2, 1) := by decide +kernel
theorem dX10_far_46 : decode cX10_far 46 = .ok (.invokevirtual 385, 3) := by decide +kernel
theorem dX10_far_49 : decode cX10_far 49 = .ok (.ireturn, 1) := by decide +kernel
theorem dX10_nearest_0 : decode cX10_nearest 0 = .ok (.iload_n 1, 1) := by decide +kernel
theorem dX10_nearest_1 : decode cX10_nearest 1 = .ok (.iconst 1, 1) := by decide +kernel
theorem dX10_nearest_2 : decode cX10_nearest 2 = .ok (.bipush 40, 2) := by decide +kernel
theorem dX10_nearest_4 : decode cX10_nearest 4 = .ok (.invokestatic 134, 3) := by decide +kernel
theorem dX10_nearest_7 : decode cX10_nearest 7 = .ok (.ifCond .eq 20, 3) := by decide +kernel
theorem dX10_nearest_10 : decode cX10_nearest 10 = .ok (.iload_n 2, 1) := by decide +kernel
theorem dX10_nearest_11 : decode cX10_nearest 11 = .ok (.iconst 0, 1) := by decide +kernel
theorem dX10_nearest_12 : decode cX10_nearest 12 = .ok (.iconst 1, 1) := by decide +kernel
theorem dX10_nearest_13 : decode cX10_nearest 13 = .ok (.invokestatic 134, 3) := by decide +kernel
theorem dX10_nearest_16 : decode cX10_nearest 16 = .ok (.ifCond .eq 11, 3) := by decide +kernel
theorem dX10_nearest_19 : decode cX10_nearest 19 = .ok (.iload_n 1, 1) := by decide +kernel
theorem dX10_nearest_20 : decode cX10_nearest 20 = .ok (.aload_n 0, 1) := by decide +kernel
theorem dX10_nearest_21 : decode cX10_nearest 21 = .ok (.getfield 150, 3) := by decide +kernel
theorem dX10_nearest_24 : decode cX10_nearest 24 = .ok (.if_icmp .le 5, 3) := by decide +kernel
theorem dX10_nearest_27 : decode cX10_nearest 27 = .ok (.iconst (-1), 1) := by decide +kernel
theorem dX10_nearest_28 : decode cX10_nearest 28 = .ok (.ireturn, 1) := by decide +kernel
theorem dX10_nearest_29 : decode cX10_nearest 29 = .ok (.aload_n 0, 1) := by decide +kernel
theorem dX10_nearest_30 : decode cX10_nearest 30 = .ok (.bipush 6, 2) := by decide +kernel
theorem dX10_nearest_32 : decode cX10_nearest 32 = .ok (.iload_n 1, 1) := by decide +kernel
theorem dX10_nearest_33 : decode cX10_nearest 33 = .ok (.invokevirtual 382, 3) := by decide +kernel
theorem dX10_nearest_36 : decode cX10_nearest 36 = .ok (.aload_n 0, 1) := by decide +kernel
theorem dX10_nearest_37 : decode cX10_nearest 37 = .ok (.iconst 0, 1) := by decide +kernel
theorem dX10_nearest_38 : decode cX10_nearest 38 = .ok (.putfield 150, 3) := by decide +kernel
theorem dX10_nearest_41 : decode cX10_nearest 41 = .ok (.bipush (-2), 2) := by decide +kernel
theorem dX10_nearest_43 : decode cX10_nearest 43 = .ok (.istore_n 3, 1) := by decide +kernel
theorem dX10_nearest_44 : decode cX10_nearest 44 = .ok (.bipush (-2), 2) := by decide +kernel
theorem dX10_nearest_46 : decode cX10_nearest 46 = .ok (.istore 4, 2) := by decide +kernel
theorem dX10_nearest_48 : decode cX10_nearest 48 = .ok (.iconst 0, 1) := by decide +kernel
theorem dX10_nearest_49 : decode cX10_nearest 49 = .ok (.istore 5, 2) := by decide +kernel
theorem dX10_nearest_51 : decode cX10_nearest 51 = .ok (.iload 5, 2) := by decide +kernel
theorem dX10_nearest_53 : decode cX10_nearest 53 = .ok (.bipush 6, 2) := by decide +kernel
theorem dX10_nearest_55 : decode cX10_nearest 55 = .ok (.if_icmp .ge 55, 3) := by decide +kernel
theorem dX10_nearest_58 : decode cX10_nearest 58 = .ok (.aload_n 0, 1) := by decide +kernel
theorem dX10_nearest_59 : decode cX10_nearest 59 = .ok (.getfield 110, 3) := by decide +kernel
theorem dX10_nearest_62 : decode cX10_nearest 62 = .ok (.iload 5, 2) := by decide +kernel
theorem dX10_nearest_64 : decode cX10_nearest 64 = .ok (.iaload, 1) := by decide +kernel
theorem dX10_nearest_65 : decode cX10_nearest 65 = .ok (.ifCond .ne 6, 3) := by decide +kernel
theorem dX10_nearest_68 : decode cX10_nearest 68 = .ok (.goto 36, 3) := by decide +kernel
theorem dX10_nearest_71 : decode cX10_nearest 71 = .ok (.aload_n 0, 1) := by decide +kernel
theorem dX10_nearest_72 : decode cX10_nearest 72 = .ok (.bipush 6, 2) := by decide +kernel
theorem dX10_nearest_74 : decode cX10_nearest 74 = .ok (.iload 5, 2) := by decide +kernel
theorem dX10_nearest_76 : decode cX10_nearest 76 = .ok (.invokevirtual 385, 3) := by decide +kernel
theorem dX10_nearest_79 : decode cX10_nearest 79 = .ok (.istore 6, 2) := by decide +kernel
theorem dX10_nearest_81 : decode cX10_nearest 81 = .ok (.iload_n 3, 1) := by decide +kernel
theorem dX10_nearest_82 : decode cX10_nearest 82 = .ok (.bipush (-2), 2) := by decide +kernel
theorem dX10_nearest_84 : decode cX10_nearest 84 = .ok (.if_icmp .eq 13, 3) := by decide +kernel
theorem dX10_nearest_87 : decode cX10_nearest 87 = .ok (.iload 6, 2) := by decide +kernel
theorem dX10_nearest_89 : decode cX10_nearest 89 = .ok (.iload 4, 2) := by decide +kernel
theorem dX10_nearest_91 : decode cX10_nearest 91 = .ok (.if_icmp .lt 6, 3) := by decide +kernel
theorem dX10_nearest_94 : decode cX10_nearest 94 = .ok (.goto 10, 3) := by decide +kernel
theorem dX10_nearest_97 : decode cX10_nearest 97 = .ok (.iload 5, 2) := by decide +kernel
theorem dX10_nearest_99 : decode cX10_nearest 99 = .ok (.istore_n 3, 1) := by decide +kernel
theorem dX10_nearest_100 : decode cX10_nearest 100 = .ok (.iload 6, 2) := by decide +kernel
theorem dX10_nearest_102 : decode cX10_nearest 102 = .ok (.istore 4, 2) := by decide +kernel
theorem dX10_nearest_104 : decode cX10_nearest 104 = .ok (.iinc 5 1, 3) := by decide +kernel
theorem dX10_nearest_107 : decode cX10_nearest 107 = .ok (.goto (-56), 3) := by decide +kernel
theorem dX10_nearest_110 : decode cX10_nearest 110 = .ok (.iload_n 2, 1) := by decide +kernel
theorem dX10_nearest_111 : decode cX10_nearest 111 = .ok (.ifCond .ne 7, 3) := by decide +kernel
theorem dX10_nearest_114 : decode cX10_nearest 114 = .ok (.iload_n 3, 1) := by decide +kernel
theorem dX10_nearest_115 : decode cX10_nearest 115 = .ok (.goto 5, 3) := by decide +kernel
theorem dX10_nearest_118 : decode cX10_nearest 118 = .ok (.iload 4, 2) := by decide +kernel
theorem dX10_nearest_120 : decode cX10_nearest 120 = .ok (.ireturn, 1) := by decide +kernel
theorem dX10_fromWhom_0 : decode cX10_fromWhom 0 = .ok (.iconst 0, 1) := by decide +kernel
theorem dX10_fromWhom_1 : decode cX10_fromWhom 1 = .ok (.istore_n 1, 1) := by decide +kernel
theorem dX10_fromWhom_2 : decode cX10_fromWhom 2 = .ok (.iconst 0, 1) := by decide +kernel
theorem dX10_fromWhom_3 : decode cX10_fromWhom 3 = .ok (.istore_n 2, 1) := by decide +kernel
theorem dX10_fromWhom_4 : decode cX10_fromWhom 4 = .ok (.iconst 5, 1) := by decide +kernel
theorem dX10_fromWhom_5 : decode cX10_fromWhom 5 = .ok (.istore_n 3, 1) := by decide +kernel
theorem dX10_fromWhom_6 : decode cX10_fromWhom 6 = .ok (.iload_n 3, 1) := by decide +kernel
theorem dX10_fromWhom_7 : decode cX10_fromWhom 7 = .ok (.ifCond .lt 36, 3) := by decide +kernel
theorem dX10_fromWhom_10 : decode cX10_fromWhom 10 = .ok (.aload_n 0, 1) := by decide +kernel
theorem dX10_fromWhom_11 : decode cX10_fromWhom 11 = .ok (.getfield 119, 3) := by decide +kernel
theorem dX10_fromWhom_14 : decode cX10_fromWhom 14 = .ok (.iload_n 3, 1) := by decide +kernel
theorem dX10_fromWhom_15 : decode cX10_fromWhom 15 = .ok (.ldc_w 339, 3) := by decide +kernel
theorem dX10_fromWhom_18 : decode cX10_fromWhom 18 = .ok (.iastore, 1) := by decide +kernel
theorem dX10_fromWhom_19 : decode cX10_fromWhom 19 = .ok (.aload_n 0, 1) := by decide +kernel
theorem dX10_fromWhom_20 : decode cX10_fromWhom 20 = .ok (.getfield 110, 3) := by decide +kernel
theorem dX10_fromWhom_23 : decode cX10_fromWhom 23 = .ok (.iload_n 3, 1) := by decide +kernel
theorem dX10_fromWhom_24 : decode cX10_fromWhom 24 = .ok (.iaload, 1) := by decide +kernel
theorem dX10_fromWhom_25 : decode cX10_fromWhom 25 = .ok (.ifCond .ne 6, 3) := by decide +kernel
theorem dX10_fromWhom_28 : decode cX10_fromWhom 28 = .ok (.goto 9, 3) := by decide +kernel
theorem dX10_fromWhom_31 : decode cX10_fromWhom 31 = .ok (.iload_n 2, 1) := by decide +kernel
theorem dX10_fromWhom_32 : decode cX10_fromWhom 32 = .ok (.iconst 1, 1) := by decide +kernel
theorem dX10_fromWhom_33 : decode cX10_fromWhom 33 = .ok (.iload_n 3, 1) := by decide +kernel
theorem dX10_fromWhom_34 : decode cX10_fromWhom 34 = .ok (.ishl, 1) := by decide +kernel
theorem dX10_fromWhom_35 : decode cX10_fromWhom 35 = .ok (.ior, 1) := by decide +kernel
theorem dX10_fromWhom_36 : decode cX10_fromWhom 36 = .ok (.istore_n 2, 1) := by decide +kernel
theorem dX10_fromWhom_37 : decode cX10_fromWhom 37 = .ok (.iinc 3 (-1), 3) := by decide +kernel
theorem dX10_fromWhom_40 : decode cX10_fromWhom 40 = .ok (.goto (-34), 3) := by decide +kernel
theorem dX10_fromWhom_43 : decode cX10_fromWhom 43 = .ok (.iload_n 2, 1) := by decide +kernel
theorem dX10_fromWhom_44 : decode cX10_fromWhom 44 = .ok (.ifCond .ne 6, 3) := by decide +kernel
theorem dX10_fromWhom_47 : decode cX10_fromWhom 47 = .ok (.bipush (-2), 2) := by decide +kernel
theorem dX10_fromWhom_49 : decode cX10_fromWhom 49 = .ok (.ireturn, 1) := by decide +kernel
theorem dX10_fromWhom_50 : decode cX10_fromWhom 50 = .ok (.iconst 1, 1) := by decide +kernel
theorem dX10_fromWhom_51 : decode cX10_fromWhom 51 = .ok (.istore_n 3, 1) := by decide +kernel
theorem dX10_fromWhom_52 : decode cX10_fromWhom 52 = .ok (.iload_n 2, 1) := by decide +kernel
theorem dX10_fromWhom_53 : decode cX10_fromWhom 53 = .ok (.ifCond .eq 140, 3) := by decide +kernel
theorem dX10_fromWhom_56 : decode cX10_fromWhom 56 = .ok (.iconst (-1), 1) := by decide +kernel
theorem dX10_fromWhom_57 : decode cX10_fromWhom 57 = .ok (.istore 4, 2) := by decide +kernel
theorem dX10_fromWhom_59 : decode cX10_fromWhom 59 = .ok (.iconst 0, 1) := by decide +kernel
theorem dX10_fromWhom_60 : decode cX10_fromWhom 60 = .ok (.istore 5, 2) := by decide +kernel
theorem dX10_fromWhom_62 : decode cX10_fromWhom 62 = .ok (.iload 5, 2) := by decide +kernel
theorem dX10_fromWhom_64 : decode cX10_fromWhom 64 = .ok (.bipush 6, 2) := by decide +kernel
theorem dX10_fromWhom_66 : decode cX10_fromWhom 66 = .ok (.if_icmp .ge 45, 3) := by decide +kernel
theorem dX10_fromWhom_69 : decode cX10_fromWhom 69 = .ok (.iload_n 2, 1) := by decide +kernel
theorem dX10_fromWhom_70 : decode cX10_fromWhom 70 = .ok (.iload 5, 2) := by decide +kernel
theorem dX10_fromWhom_72 : decode cX10_fromWhom 72 = .ok (.invokestatic 138, 3) := by decide +kernel
theorem dX10_fromWhom_75 : decode cX10_fromWhom 75 = .ok (.ifCond .eq 30, 3) := by decide +kernel
theorem dX10_fromWhom_78 : decode cX10_fromWhom 78 = .ok (.iload 4, 2) := by decide +kernel
theorem dX10_fromWhom_80 : decode cX10_fromWhom 80 = .ok (.iconst (-1), 1) := by decide +kernel
theorem dX10_fromWhom_81 : decode cX10_fromWhom 81 = .ok (.if_icmp .eq 20, 3) := by decide +kernel
theorem dX10_fromWhom_84 : decode cX10_fromWhom 84 = .ok (.aload_n 0, 1) := by decide +kernel
theorem dX10_fromWhom_85 : decode cX10_fromWhom 85 = .ok (.getfield 119, 3) := by decide +kernel
theorem dX10_fromWhom_88 : decode cX10_fromWhom 88 = .ok (.iload 5, 2) := by decide +kernel
theorem dX10_fromWhom_90 : decode cX10_fromWhom 90 = .ok (.iaload, 1) := by decide +kernel
theorem dX10_fromWhom_91 : decode cX10_fromWhom 91 = .ok (.aload_n 0, 1) := by decide +kernel
theorem dX10_fromWhom_92 : decode cX10_fromWhom 92 = .ok (.getfield 119, 3) := by decide +kernel
theorem dX10_fromWhom_95 : decode cX10_fromWhom 95 = .ok (.iload 4, 2) := by decide +kernel
theorem dX10_fromWhom_97 : decode cX10_fromWhom 97 = .ok (.iaload, 1) := by decide +kernel
theorem dX10_fromWhom_98 : decode cX10_fromWhom 98 = .ok (.if_icmp .ge 7, 3) := by decide +kernel
theorem dX10_fromWhom_101 : decode cX10_fromWhom 101 = .ok (.iload 5, 2) := by decide +kernel
theorem dX10_fromWhom_103 : decode cX10_fromWhom 103 = .ok (.istore 4, 2) := by decide +kernel
theorem dX10_fromWhom_105 : decode cX10_fromWhom 105 = .ok (.iinc 5 1, 3) := by decide +kernel
theorem dX10_fromWhom_108 : decode cX10_fromWhom 108 = .ok (.goto (-46), 3) := by decide +kernel
theorem dX10_fromWhom_111 : decode cX10_fromWhom 111 = .ok (.iload_n 1, 1) := by decide +kernel
theorem dX10_fromWhom_112 : decode cX10_fromWhom 112 = .ok (.iload_n 3, 1) := by decide +kernel
theorem dX10_fromWhom_113 : decode cX10_fromWhom 113 = .ok (.ifCond .eq 7, 3) := by decide +kernel
theorem dX10_fromWhom_116 : decode cX10_fromWhom 116 = .ok (.iconst 0, 1) := by decide +kernel
theorem dX10_fromWhom_117 : decode cX10_fromWhom 117 = .ok (.goto 10, 3) := by decide +kernel
theorem dX10_fromWhom_120 : decode cX10_fromWhom 120 = .ok (.aload_n 0, 1) := by decide +kernel
theorem dX10_fromWhom_121 : decode cX10_fromWhom 121 = .ok (.getfield 119, 3) := by decide +kernel
theorem dX10_fromWhom_124 : decode cX10_fromWhom 124 = .ok (.iload 4, 2) := by decide +kernel
theorem dX10_fromWhom_126 : decode cX10_fromWhom 126 = .ok (.iaload, 1) := by decide +kernel
theorem dX10_fromWhom_127 : decode cX10_fromWhom 127 = .ok (.iadd, 1) := by decide +kernel
theorem dX10_fromWhom_128 : decode cX10_fromWhom 128 = .ok (.istore_n 1, 1) := by decide +kernel
theorem dX10_fromWhom_129 : decode cX10_fromWhom 129 = .ok (.iconst 0, 1) := by decide +kernel
theorem dX10_fromWhom_130 : decode cX10_fromWhom 130 = .ok (.istore_n 3, 1) := by decide +kernel
theorem dX10_fromWhom_131 : decode cX10_fromWhom 131 = .ok (.iload_n 2, 1) := by decide +kernel
theorem dX10_fromWhom_132 : decode cX10_fromWhom 132 = .ok (.iconst 1, 1) := by decide +kernel
theorem dX10_fromWhom_133 : decode cX10_fromWhom 133 = .ok (.iload 4, 2) := by decide +kernel
theorem dX10_fromWhom_135 : decode cX10_fromWhom 135 = .ok (.ishl, 1) := by decide +kernel
theorem dX10_fromWhom_136 : decode cX10_fromWhom 136 = .ok (.iconst (-1), 1) := by decide +kernel
theorem dX10_fromWhom_137 : decode cX10_fromWhom 137 = .ok (.ixor, 1) := by decide +kernel
theorem dX10_fromWhom_138 : decode cX10_fromWhom 138 = .ok (.iand, 1) := by decide +kernel
theorem dX10_fromWhom_139 : decode cX10_fromWhom 139 = .ok (.istore_n 2, 1) := by decide +kernel
theorem dX10_fromWhom_140 : decode cX10_fromWhom 140 = .ok (.iconst 0, 1) := by decide +kernel
theorem dX10_fromWhom_141 : decode cX10_fromWhom 141 = .ok (.istore 5, 2) := by decide +kernel
theorem dX10_fromWhom_143 : decode cX10_fromWhom 143 = .ok (.iload 5, 2) := by decide +kernel
theorem dX10_fromWhom_145 : decode cX10_fromWhom 145 = .ok (.bipush 6, 2) := by decide +kernel
theorem dX10_fromWhom_147 : decode cX10_fromWhom 147 = .ok (.if_icmp .ge 43, 3) := by decide +kernel
theorem dX10_fromWhom_150 : decode cX10_fromWhom 150 = .ok (.iload_n 2, 1) := by decide +kernel
theorem dX10_fromWhom_151 : decode cX10_fromWhom 151 = .ok (.iload 5, 2) := by decide +kernel
theorem dX10_fromWhom_153 : decode cX10_fromWhom 153 = .ok (.invokestatic 138, 3) := by decide +kernel
theorem dX10_fromWhom_156 : decode cX10_fromWhom 156 = .ok (.ifCond .eq 28, 3) := by decide +kernel
theorem dX10_fromWhom_159 : decode cX10_fromWhom 159 = .ok (.aload_n 0, 1) := by decide +kernel
theorem dX10_fromWhom_160 : decode cX10_fromWhom 160 = .ok (.getfield 119, 3) := by decide +kernel
theorem dX10_fromWhom_163 : decode cX10_fromWhom 163 = .ok (.iload 5, 2) := by decide +kernel
theorem dX10_fromWhom_165 : decode cX10_fromWhom 165 = .ok (.aload_n 0, 1) := by decide +kernel
theorem dX10_fromWhom_166 : decode cX10_fromWhom 166 = .ok (.getfield 119, 3) := by decide +kernel
theorem dX10_fromWhom_169 : decode cX10_fromWhom 169 = .ok (.iload 5, 2) := by decide +kernel
theorem dX10_fromWhom_171 : decode cX10_fromWhom 171 = .ok (.iaload, 1) := by decide +kernel
theorem dX10_fromWhom_172 : decode cX10_fromWhom 172 = .ok (.aload_n 0, 1) := by decide +kernel
theorem dX10_fromWhom_173 : decode cX10_fromWhom 173 = .ok (.iload 4, 2) := by decide +kernel
theorem dX10_fromWhom_175 : decode cX10_fromWhom 175 = .ok (.iload 5, 2) := by decide +kernel
theorem dX10_fromWhom_177 : decode cX10_fromWhom 177 = .ok (.invokevirtual 385, 3) := by decide +kernel
theorem dX10_fromWhom_180 : decode cX10_fromWhom 180 = .ok (.invokestatic 271, 3) := by decide +kernel
theorem dX10_fromWhom_183 : decode cX10_fromWhom 183 = .ok (.iastore, 1) := by decide +kernel
theorem dX10_fromWhom_184 : decode cX10_fromWhom 184 = .ok (.iinc 5 1, 3) := by decide +kernel
theorem dX10_fromWhom_187 : decode cX10_fromWhom 187 = .ok (.goto (-44), 3) := by decide +kernel
theorem dX10_fromWhom_190 : decode cX10_fromWhom 190 = .ok (.goto (-138), 3) := by decide +kernel
theorem dX10_fromWhom_193 : decode cX10_fromWhom 193 = .ok (.iload_n 1, 1) := by decide +kernel
theorem dX10_fromWhom_194 : decode cX10_fromWhom 194 = .ok (.ireturn, 1) := by decide +kernel
theorem dX10_misspelt_0 : decode cX10_misspelt 0 = .ok (.iload_n 1, 1) := by decide +kernel
theorem dX10_misspelt_1 : decode cX10_misspelt 1 = .ok (.iconst 0, 1) := by decide +kernel
theorem dX10_misspelt_2 : decode cX10_misspelt 2 = .ok (.iconst 5, 1) := by decide +kernel
theorem dX10_misspelt_3 : decode cX10_misspelt 3 = .ok (.invokestatic 134, 3) := by decide +kernel
theorem dX10_misspelt_6 : decode cX10_misspelt 6 = .ok (.ifCond .eq 12, 3) := by decide +kernel
theorem dX10_misspelt_9 : decode cX10_misspelt 9 = .ok (.iload_n 2, 1) := by decide +kernel
theorem dX10_misspelt_10 : decode cX10_misspelt 10 = .ok (.iconst 0, 1) := by decide +kernel
theorem dX10_misspelt_11 : decode cX10_misspelt 11 = .ok (.iconst 5, 1) := by decide +kernel
theorem dX10_misspelt_12 : decode cX10_misspelt 12 = .ok (.invokestatic 134, 3) := by decide +kernel
theorem dX10_misspelt_15 : decode cX10_misspelt 15 = .ok (.ifCond .ne 5, 3) := by decide +kernel
theorem dX10_misspelt_18 : decode cX10_misspelt 18 = .ok (.iconst (-1), 1) := by decide +kernel
theorem dX10_misspelt_19 : decode cX10_misspelt 19 = .ok (.ireturn, 1) := by decide +kernel
theorem dX10_misspelt_20 : decode cX10_misspelt 20 = .ok (.aload_n 0, 1) := by decide +kernel
theorem dX10_misspelt_21 : decode cX10_misspelt 21 = .ok (.getfield 110, 3) := by decide +kernel
theorem dX10_misspelt_24 : decode cX10_misspelt 24 = .ok (.iload_n 1, 1) := by decide +kernel
theorem dX10_misspelt_25 : decode cX10_misspelt 25 = .ok (.iaload, 1) := by decide +kernel
theorem dX10_misspelt_26 : decode cX10_misspelt 26 = .ok (.ifCond .eq 12, 3) := by decide +kernel
theorem dX10_misspelt_29 : decode cX10_misspelt 29 = .ok (.aload_n 0, 1) := by decide +kernel
theorem dX10_misspelt_30 : decode cX10_misspelt 30 = .ok (.getfield 110, 3) := by decide +kernel
theorem dX10_misspelt_33 : decode cX10_misspelt 33 = .ok (.iload_n 2, 1) := by decide +kernel
theorem dX10_misspelt_34 : decode cX10_misspelt 34 = .ok (.iaload, 1) := by decide +kernel
theorem dX10_misspelt_35 : decode cX10_misspelt 35 = .ok (.ifCond .ne 6, 3) := by decide +kernel
theorem dX10_misspelt_38 : decode cX10_misspelt 38 = .ok (.bipush (-2), 2) := by decide +kernel
theorem dX10_misspelt_40 : decode cX10_misspelt 40 = .ok (.ireturn, 1) := by decide +kernel
theorem dX10_misspelt_41 : decode cX10_misspelt 41 = .ok (.aload_n 0, 1) := by decide +kernel
theorem dX10_misspelt_42 : decode cX10_misspelt 42 = .ok (.getfield 110, 3) := by decide +kernel
theorem dX10_misspelt_45 : decode cX10_misspelt 45 = .ok (.iload_n 1, 1) := by decide +kernel
theorem dX10_misspelt_46 : decode cX10_misspelt 46 = .ok (.iaload, 1) := by decide +kernel
theorem dX10_misspelt_47 : decode cX10_misspelt 47 = .ok (.aload_n 0, 1) := by decide +kernel
theorem dX10_misspelt_48 : decode cX10_misspelt 48 = .ok (.getfield 110, 3) := by decide +kernel
theorem dX10_misspelt_51 : decode cX10_misspelt 51 = .ok (.iload_n 2, 1) := by decide +kernel
theorem dX10_misspelt_52 : decode cX10_misspelt 52 = .ok (.iaload, 1) := by decide +kernel
theorem dX10_misspelt_53 : decode cX10_misspelt 53 = .ok (.invokestatic 271, 3) := by decide +kernel
theorem dX10_misspelt_56 : decode cX10_misspelt 56 = .ok (.istore_n 3, 1) := by decide +kernel
theorem dX10_misspelt_57 : decode cX10_misspelt 57 = .ok (.iconst 0, 1) := by decide +kernel
theorem dX10_misspelt_58 : decode cX10_misspelt 58 = .ok (.istore 4, 2) := by decide +kernel
theorem dX10_misspelt_60 : decode cX10_misspelt 60 = .ok (.iload 4, 2) := by decide +kernel
theorem dX10_misspelt_62 : decode cX10_misspelt 62 = .ok (.iload_n 3, 1) := by decide +kernel
theorem dX10_misspelt_63 : decode cX10_misspelt 63 = .ok (.if_icmp .ge 39, 3) := by decide +kernel
theorem dX10_misspelt_66 : decode cX10_misspelt 66 = .ok (.aload_n 0, 1) := by decide +kernel
theorem dX10_misspelt_67 : decode cX10_misspelt 67 = .ok (.getfield 107, 3) := by decide +kernel
theorem dX10_misspelt_70 : decode cX10_misspelt 70 = .ok (.bipush 40, 2) := by decide +kernel
theorem dX10_misspelt_72 : decode cX10_misspelt 72 = .ok (.iload_n 1, 1) := by decide +kernel
theorem dX10_misspelt_73 : decode cX10_misspelt 73 = .ok (.imul, 1) := by decide +kernel
theorem dX10_misspelt_74 : decode cX10_misspelt 74 = .ok (.iload 4, 2) := by decide +kernel
theorem dX10_misspelt_76 : decode cX10_misspelt 76 = .ok (.iadd, 1) := by decide +kernel
theorem dX10_misspelt_77 : decode cX10_misspelt 77 = .ok (.baload, 1) := by decide +kernel
theorem dX10_misspelt_78 : decode cX10_misspelt 78 = .ok (.aload_n 0, 1) := by decide +kernel
theorem dX10_misspelt_79 : decode cX10_misspelt 79 = .ok (.getfield 107, 3) := by decide +kernel
theorem dX10_misspelt_82 : decode cX10_misspelt 82 = .ok (.bipush 40, 2) := by decide +kernel
theorem dX10_misspelt_84 : decode cX10_misspelt 84 = .ok (.iload_n 2, 1) := by decide +kernel
theorem dX10_misspelt_85 : decode cX10_misspelt 85 = .ok (.imul, 1) := by decide +kernel
theorem dX10_misspelt_86 : decode cX10_misspelt 86 = .ok (.iload 4, 2) := by decide +kernel
theorem dX10_misspelt_88 : decode cX10_misspelt 88 = .ok (.iadd, 1) := by decide +kernel
theorem dX10_misspelt_89 : decode cX10_misspelt 89 = .ok (.baload, 1) := by decide +kernel
theorem dX10_misspelt_90 : decode cX10_misspelt 90 = .ok (.if_icmp .eq 6, 3) := by decide +kernel
theorem dX10_misspelt_93 : decode cX10_misspelt 93 = .ok (.iload 4, 2) := by decide +kernel
theorem dX10_misspelt_95 : decode cX10_misspelt 95 = .ok (.ireturn, 1) := by decide +kernel
theorem dX10_misspelt_96 : decode cX10_misspelt 96 = .ok (.iinc 4 1, 3) := by decide +kernel
theorem dX10_misspelt_99 : decode cX10_misspelt 99 = .ok (.goto (-39), 3) := by decide +kernel
theorem dX10_misspelt_102 : decode cX10_misspelt 102 = .ok (.aload_n 0, 1) := by decide +kernel
theorem dX10_misspelt_103 : decode cX10_misspelt 103 = .ok (.getfield 110, 3) := by decide +kernel
theorem dX10_misspelt_106 : decode cX10_misspelt 106 = .ok (.iload_n 1, 1) := by decide +kernel
theorem dX10_misspelt_107 : decode cX10_misspelt 107 = .ok (.iaload, 1) := by decide +kernel
theorem dX10_misspelt_108 : decode cX10_misspelt 108 = .ok (.aload_n 0, 1) := by decide +kernel
theorem dX10_misspelt_109 : decode cX10_misspelt 109 = .ok (.getfield 110, 3) := by decide +kernel
theorem dX10_misspelt_112 : decode cX10_misspelt 112 = .ok (.iload_n 2, 1) := by decide +kernel
theorem dX10_misspelt_113 : decode cX10_misspelt 113 = .ok (.iaload, 1) := by decide +kernel
theorem dX10_misspelt_114 : decode cX10_misspelt 114 = .ok (.if_icmp .ne 8, 3) := by decide +kernel
theorem dX10_misspelt_117 : decode cX10_misspelt 117 = .ok (.bipush (-2), 2) := by decide +kernel
theorem dX10_misspelt_119 : decode cX10_misspelt 119 = .ok (.goto 4, 3) := by decide +kernel
theorem dX10_misspelt_122 : decode cX10_misspelt 122 = .ok (.iload_n 3, 1) := by decide +kernel
theorem dX10_misspelt_123 : decode cX10_misspelt 123 = .ok (.ireturn, 1) := by decide +kernel
theorem dX10_bids_0 : decode cX10_bids 0 = .ok (.iload_n 1, 1) := by decide +kernel
theorem dX10_bids_1 : decode cX10_bids 1 = .ok (.iconst 1, 1) := by decide +kernel
theorem dX10_bids_2 : decode cX10_bids 2 = .ok (.bipush 12, 2) := by decide +kernel
theorem dX10_bids_4 : decode cX10_bids 4 = .ok (.invokestatic 134, 3) := by decide +kernel
theorem dX10_bids_7 : decode cX10_bids 7 = .ok (.ifCond .eq 31, 3) := by decide +kernel
theorem dX10_bids_10 : decode cX10_bids 10 = .ok (.iload_n 2, 1) := by decide +kernel
theorem dX10_bids_11 : decode cX10_bids 11 = .ok (.iconst 0, 1) := by decide +kernel
theorem dX10_bids_12 : decode cX10_bids 12 = .ok (.sipush 255, 3) := by decide +kernel
theorem dX10_bids_15 : decode cX10_bids 15 = .ok (.invokestatic 134, 3) := by decide +kernel
theorem dX10_bids_18 : decode cX10_bids 18 = .ok (.ifCond .eq 20, 3) := by decide +kernel
theorem dX10_bids_21 : decode cX10_bids 21 = .ok (.iload_n 3, 1) := by decide +kernel
theorem dX10_bids_22 : decode cX10_bids 22 = .ok (.iconst 0, 1) := by decide +kernel
theorem dX10_bids_23 : decode cX10_bids 23 = .ok (.iconst 1, 1) := by decide +kernel
theorem dX10_bids_24 : decode cX10_bids 24 = .ok (.invokestatic 134, 3) := by decide +kernel
theorem dX10_bids_27 : decode cX10_bids 27 = .ok (.ifCond .eq 11, 3) := by decide +kernel
theorem dX10_bids_30 : decode cX10_bids 30 = .ok (.iload_n 1, 1) := by decide +kernel
theorem dX10_bids_31 : decode cX10_bids 31 = .ok (.aload_n 0, 1) := by decide +kernel
theorem dX10_bids_32 : decode cX10_bids 32 = .ok (.getfield 150, 3) := by decide +kernel
theorem dX10_bids_35 : decode cX10_bids 35 = .ok (.if_icmp .le 5, 3) := by decide +kernel
theorem dX10_bids_38 : decode cX10_bids 38 = .ok (.iconst (-1), 1) := by decide +kernel
theorem dX10_bids_39 : decode cX10_bids 39 = .ok (.ireturn, 1) := by decide +kernel
theorem dX10_bids_40 : decode cX10_bids 40 = .ok (.aload_n 0, 1) := by decide +kernel
theorem dX10_bids_41 : decode cX10_bids 41 = .ok (.iconst 0, 1) := by decide +kernel
theorem dX10_bids_42 : decode cX10_bids 42 = .ok (.putfield 150, 3) := by decide +kernel
theorem dX10_bids_45 : decode cX10_bids 45 = .ok (.iconst 0, 1) := by decide +kernel
theorem dX10_bids_46 : decode cX10_bids 46 = .ok (.istore 4, 2) := by decide +kernel
theorem dX10_bids_48 : decode cX10_bids 48 = .ok (.iconst 1, 1) := by decide +kernel
theorem dX10_bids_49 : decode cX10_bids 49 = .ok (.istore 5, 2) := by decide +kernel
theorem dX10_bids_51 : decode cX10_bids 51 = .ok (.iload 5, 2) := by decide +kernel
theorem dX10_bids_53 : decode cX10_bids 53 = .ok (.iload_n 1, 1) := by decide +kernel
theorem dX10_bids_54 : decode cX10_bids 54 = .ok (.if_icmp .ge 28, 3) := by decide +kernel
theorem dX10_bids_57 : decode cX10_bids 57 = .ok (.aload_n 0, 1) := by decide +kernel
theorem dX10_bids_58 : decode cX10_bids 58 = .ok (.iload 5, 2) := by decide +kernel
theorem dX10_bids_60 : decode cX10_bids 60 = .ok (.invokevirtual 388, 3) := by decide +kernel
theorem dX10_bids_63 : decode cX10_bids 63 = .ok (.aload_n 0, 1) := by decide +kernel
theorem dX10_bids_64 : decode cX10_bids 64 = .ok (.iload 4, 2) := by decide +kernel
theorem dX10_bids_66 : decode cX10_bids 66 = .ok (.invokevirtual 388, 3) := by decide +kernel
theorem dX10_bids_69 : decode cX10_bids 69 = .ok (.if_icmp .le 7, 3) := by decide +kernel
theorem dX10_bids_72 : decode cX10_bids 72 = .ok (.iload 5, 2) := by decide +kernel
theorem dX10_bids_74 : decode cX10_bids 74 = .ok (.istore 4, 2) := by decide +kernel
theorem dX10_bids_76 : decode cX10_bids 76 = .ok (.iinc 5 1, 3) := by decide +kernel
theorem dX10_bids_79 : decode cX10_bids 79 = .ok (.goto (-28), 3) := by decide +kernel
theorem dX10_bids_82 : decode cX10_bids 82 = .ok (.aload_n 0, 1) := by decide +kernel
theorem dX10_bids_83 : decode cX10_bids 83 = .ok (.iload 4, 2) := by decide +kernel
theorem dX10_bids_85 : decode cX10_bids 85 = .ok (.invokevirtual 388, 3) := by decide +kernel
theorem dX10_bids_88 : decode cX10_bids 88 = .ok (.iload_n 2, 1) := by decide +kernel
theorem dX10_bids_89 : decode cX10_bids 89 = .ok (.if_icmp .ge 6, 3) := by decide +kernel
theorem dX10_bids_92 : decode cX10_bids 92 = .ok (.bipush (-2), 2) := by decide +kernel
theorem dX10_bids_94 : decode cX10_bids 94 = .ok (.ireturn, 1) := by decide +kernel
theorem dX10_bids_95 : decode cX10_bids 95 = .ok (.iload_n 2, 1) := by decide +kernel
theorem dX10_bids_96 : decode cX10_bids 96 = .ok (.istore 5, 2) := by decide +kernel
theorem dX10_bids_98 : decode cX10_bids 98 = .ok (.iconst 0, 1) := by decide +kernel
theorem dX10_bids_99 : decode cX10_bids 99 = .ok (.istore 6, 2) := by decide +kernel
theorem dX10_bids_101 : decode cX10_bids 101 = .ok (.iload 6, 2) := by decide +kernel
theorem dX10_bids_103 : decode cX10_bids 103 = .ok (.iload_n 1, 1) := by decide +kernel
theorem dX10_bids_104 : decode cX10_bids 104 = .ok (.if_icmp .ge 29, 3) := by decide +kernel
theorem dX10_bids_107 : decode cX10_bids 107 = .ok (.iload 6, 2) := by decide +kernel
theorem dX10_bids_109 : decode cX10_bids 109 = .ok (.iload 4, 2) := by decide +kernel
theorem dX10_bids_111 : decode cX10_bids 111 = .ok (.if_icmp .eq 16, 3) := by decide +kernel
theorem dX10_bids_114 : decode cX10_bids 114 = .ok (.iload 5, 2) := by decide +kernel
theorem dX10_bids_116 : decode cX10_bids 116 = .ok (.aload_n 0, 1) := by decide +kernel
theorem dX10_bids_117 : decode cX10_bids 117 = .ok (.iload 6, 2) := by decide +kernel
theorem dX10_bids_119 : decode cX10_bids 119 = .ok (.invokevirtual 388, 3) := by decide +kernel
theorem dX10_bids_122 : decode cX10_bids 122 = .ok (.invokestatic 376, 3) := by decide +kernel
theorem dX10_bids_125 : decode cX10_bids 125 = .ok (.istore 5, 2) := by decide +kernel
theorem dX10_bids_127 : decode cX10_bids 127 = .ok (.iinc 6 1, 3) := by decide +kernel
theorem dX10_bids_130 : decode cX10_bids 130 = .ok (.goto (-29), 3) := by decide +kernel
theorem dX10_bids_133 : decode cX10_bids 133 = .ok (.iload_n 3, 1) := by decide +kernel
theorem dX10_bids_134 : decode cX10_bids 134 = .ok (.ifCond .ne 8, 3) := by decide +kernel
theorem dX10_bids_137 : decode cX10_bids 137 = .ok (.iload 4, 2) := by decide +kernel
theorem dX10_bids_139 : decode cX10_bids 139 = .ok (.goto 5, 3) := by decide +kernel
theorem dX10_bids_142 : decode cX10_bids 142 = .ok (.iload 5, 2) := by decide +kernel
theorem dX10_bids_144 : decode cX10_bids 144 = .ok (.ireturn, 1) := by decide +kernel
theorem dX10_allLost_0 : decode cX10_allLost 0 = .ok (.iconst 0, 1) := by decide +kernel
theorem dX10_allLost_1 : decode cX10_allLost 1 = .ok (.istore_n 2, 1) := by decide +kernel
theorem dX10_allLost_2 : decode cX10_allLost 2 = .ok (.iconst 0, 1) := by decide +kernel
theorem dX10_allLost_3 : decode cX10_allLost 3 = .ok (.istore_n 3, 1) := by decide +kernel
theorem dX10_allLost_4 : decode cX10_allLost 4 = .ok (.iload_n 3, 1) := by decide +kernel
theorem dX10_allLost_5 : decode cX10_allLost 5 = .ok (.iload_n 1, 1) := by decide +kernel
theorem dX10_allLost_6 : decode cX10_allLost 6 = .ok (.if_icmp .ge 18, 3) := by decide +kernel
theorem dX10_allLost_9 : decode cX10_allLost 9 = .ok (.iload_n 2, 1) := by decide +kernel
theorem dX10_allLost_10 : decode cX10_allLost 10 = .ok (.aload_n 0, 1) := by decide +kernel
theorem dX10_allLost_11 : decode cX10_allLost 11 = .ok (.getfield 122, 3) := by decide +kernel
theorem dX10_allLost_14 : decode cX10_allLost 14 = .ok (.iload_n 3, 1) := by decide +kernel
theorem dX10_allLost_15 : decode cX10_allLost 15 = .ok (.iaload, 1) := by decide +kernel
theorem dX10_allLost_16 : decode cX10_allLost 16 = .ok (.iadd, 1) := by decide +kernel
theorem dX10_allLost_17 : decode cX10_allLost 17 = .ok (.istore_n 2, 1) := by decide +kernel
theorem dX10_allLost_18 : decode cX10_allLost 18 = .ok (.iinc 3 1, 3) := by decide +kernel
theorem dX10_allLost_21 : decode cX10_allLost 21 = .ok (.goto (-17), 3) := by decide +kernel
theorem dX10_allLost_24 : decode cX10_allLost 24 = .ok (.iload_n 2, 1) := by decide +kernel
theorem dX10_allLost_25 : decode cX10_allLost 25 = .ok (.ireturn, 1) := by decide +kernel
theorem dX10_givenUpTo_0 : decode cX10_givenUpTo 0 = .ok (.iconst 0, 1) := by decide +kernel
theorem dX10_givenUpTo_1 : decode cX10_givenUpTo 1 = .ok (.istore_n 3, 1) := by decide +kernel
theorem dX10_givenUpTo_2 : decode cX10_givenUpTo 2 = .ok (.iconst 0, 1) := by decide +kernel
theorem dX10_givenUpTo_3 : decode cX10_givenUpTo 3 = .ok (.istore 4, 2) := by decide +kernel
theorem dX10_givenUpTo_5 : decode cX10_givenUpTo 5 = .ok (.iload 4, 2) := by decide +kernel
theorem dX10_givenUpTo_7 : decode cX10_givenUpTo 7 = .ok (.iload_n 1, 1) := by decide +kernel
theorem dX10_givenUpTo_8 : decode cX10_givenUpTo 8 = .ok (.if_icmp .ge 23, 3) := by decide +kernel
theorem dX10_givenUpTo_11 : decode cX10_givenUpTo 11 = .ok (.iload_n 3, 1) := by decide +kernel
theorem dX10_givenUpTo_12 : decode cX10_givenUpTo 12 = .ok (.aload_n 0, 1) := by decide +kernel
theorem dX10_givenUpTo_13 : decode cX10_givenUpTo 13 = .ok (.getfield 122, 3) := by decide +kernel
theorem dX10_givenUpTo_16 : decode cX10_givenUpTo 16 = .ok (.iload 4, 2) := by decide +kernel
theorem dX10_givenUpTo_18 : decode cX10_givenUpTo 18 = .ok (.iaload, 1) := by decide +kernel
theorem dX10_givenUpTo_19 : decode cX10_givenUpTo 19 = .ok (.iload_n 2, 1) := by decide +kernel
theorem dX10_givenUpTo_20 : decode cX10_givenUpTo 20 = .ok (.invokestatic 271, 3) := by decide +kernel
theorem dX10_givenUpTo_23 : decode cX10_givenUpTo 23 = .ok (.iadd, 1) := by decide +kernel
theorem dX10_givenUpTo_24 : decode cX10_givenUpTo 24 = .ok (.istore_n 3, 1) := by decide +kernel
theorem dX10_givenUpTo_25 : decode cX10_givenUpTo 25 = .ok (.iinc 4 1, 3) := by decide +kernel
theorem dX10_givenUpTo_28 : decode cX10_givenUpTo 28 = .ok (.goto (-23), 3) := by decide +kernel
theorem dX10_givenUpTo_31 : decode cX10_givenUpTo 31 = .ok (.iload_n 3, 1) := by decide +kernel
theorem dX10_givenUpTo_32 : decode cX10_givenUpTo 32 = .ok (.ireturn, 1) := by decide +kernel
theorem dX10_givesAlike_0 : decode cX10_givesAlike 0 = .ok (.iconst 0, 1) := by decide +kernel
theorem dX10_givesAlike_1 : decode cX10_givesAlike 1 = .ok (.istore_n 3, 1) := by decide +kernel
theorem dX10_givesAlike_2 : decode cX10_givesAlike 2 = .ok (.iload_n 3, 1) := by decide +kernel
theorem dX10_givesAlike_3 : decode cX10_givesAlike 3 = .ok (.sipush 9999, 3) := by decide +kernel
theorem dX10_givesAlike_6 : decode cX10_givesAlike 6 = .ok (.if_icmp .ge 22, 3) := by decide +kernel
theorem dX10_givesAlike_9 : decode cX10_givesAlike 9 = .ok (.aload_n 0, 1) := by decide +kernel
theorem dX10_givesAlike_10 : decode cX10_givesAlike 10 = .ok (.iload_n 1, 1) := by decide +kernel
theorem dX10_givesAlike_11 : decode cX10_givesAlike 11 = .ok (.iload_n 3, 1) := by decide +kernel
theorem dX10_givesAlike_12 : decode cX10_givesAlike 12 = .ok (.iconst 1, 1) := by decide +kernel
theorem dX10_givesAlike_13 : decode cX10_givesAlike 13 = .ok (.iadd, 1) := by decide +kernel
theorem dX10_givesAlike_14 : decode cX10_givesAlike 14 = .ok (.invokevirtual 391, 3) := by decide +kernel
theorem dX10_givesAlike_17 : decode cX10_givesAlike 17 = .ok (.iload_n 2, 1) := by decide +kernel
theorem dX10_givesAlike_18 : decode cX10_givesAlike 18 = .ok (.if_icmp .gt 10, 3) := by decide +kernel
theorem dX10_givesAlike_21 : decode cX10_givesAlike 21 = .ok (.iload_n 3, 1) := by decide +kernel
theorem dX10_givesAlike_22 : decode cX10_givesAlike 22 = .ok (.iconst 1, 1) := by decide +kernel
theorem dX10_givesAlike_23 : decode cX10_givesAlike 23 = .ok (.iadd, 1) := by decide +kernel
theorem dX10_givesAlike_24 : decode cX10_givesAlike 24 = .ok (.istore_n 3, 1) := by decide +kernel
theorem dX10_givesAlike_25 : decode cX10_givesAlike 25 = .ok (.goto (-23), 3) := by decide +kernel
theorem dX10_givesAlike_28 : decode cX10_givesAlike 28 = .ok (.iload_n 2, 1) := by decide +kernel
theorem dX10_givesAlike_29 : decode cX10_givesAlike 29 = .ok (.aload_n 0, 1) := by decide +kernel
theorem dX10_givesAlike_30 : decode cX10_givesAlike 30 = .ok (.iload_n 1, 1) := by decide +kernel
theorem dX10_givesAlike_31 : decode cX10_givesAlike 31 = .ok (.iload_n 3, 1) := by decide +kernel
theorem dX10_givesAlike_32 : decode cX10_givesAlike 32 = .ok (.invokevirtual 391, 3) := by decide +kernel
theorem dX10_givesAlike_35 : decode cX10_givesAlike 35 = .ok (.isub, 1) := by decide +kernel
theorem dX10_givesAlike_36 : decode cX10_givesAlike 36 = .ok (.istore 4, 2) := by decide +kernel
theorem dX10_givesAlike_38 : decode cX10_givesAlike 38 = .ok (.iconst 0, 1) := by decide +kernel
theorem dX10_givesAlike_39 : decode cX10_givesAlike 39 = .ok (.istore 5, 2) := by decide +kernel
theorem dX10_givesAlike_41 : decode cX10_givesAlike 41 = .ok (.iload 5, 2) := by decide +kernel
theorem dX10_givesAlike_43 : decode cX10_givesAlike 43 = .ok (.iload_n 1, 1) := by decide +kernel
theorem dX10_givesAlike_44 : decode cX10_givesAlike 44 = .ok (.if_icmp .ge 84, 3) := by decide +kernel
theorem dX10_givesAlike_47 : decode cX10_givesAlike 47 = .ok (.iload 4, 2) := by decide +kernel
theorem dX10_givesAlike_49 : decode cX10_givesAlike 49 = .ok (.ifCond .le 18, 3) := by decide +kernel
theorem dX10_givesAlike_52 : decode cX10_givesAlike 52 = .ok (.aload_n 0, 1) := by decide +kernel
theorem dX10_givesAlike_53 : decode cX10_givesAlike 53 = .ok (.getfield 122, 3) := by decide +kernel
theorem dX10_givesAlike_56 : decode cX10_givesAlike 56 = .ok (.iload 5, 2) := by decide +kernel
theorem dX10_givesAlike_58 : decode cX10_givesAlike 58 = .ok (.iaload, 1) := by decide +kernel
theorem dX10_givesAlike_59 : decode cX10_givesAlike 59 = .ok (.iload_n 3, 1) := by decide +kernel
theorem dX10_givesAlike_60 : decode cX10_givesAlike 60 = .ok (.if_icmp .le 7, 3) := by decide +kernel
theorem dX10_givesAlike_63 : decode cX10_givesAlike 63 = .ok (.iconst 1, 1) := by decide +kernel
theorem dX10_givesAlike_64 : decode cX10_givesAlike 64 = .ok (.goto 4, 3) := by decide +kernel
theorem dX10_givesAlike_67 : decode cX10_givesAlike 67 = .ok (.iconst 0, 1) := by decide +kernel
theorem dX10_givesAlike_68 : decode cX10_givesAlike 68 = .ok (.istore 6, 2) := by decide +kernel
theorem dX10_givesAlike_70 : decode cX10_givesAlike 70 = .ok (.aload_n 0, 1) := by decide +kernel
theorem dX10_givesAlike_71 : decode cX10_givesAlike 71 = .ok (.getfield 125, 3) := by decide +kernel
theorem dX10_givesAlike_74 : decode cX10_givesAlike 74 = .ok (.iload 5, 2) := by decide +kernel
theorem dX10_givesAlike_76 : decode cX10_givesAlike 76 = .ok (.aload_n 0, 1) := by decide +kernel
theorem dX10_givesAlike_77 : decode cX10_givesAlike 77 = .ok (.getfield 125, 3) := by decide +kernel
theorem dX10_givesAlike_80 : decode cX10_givesAlike 80 = .ok (.iload 5, 2) := by decide +kernel
theorem dX10_givesAlike_82 : decode cX10_givesAlike 82 = .ok (.iaload, 1) := by decide +kernel
theorem dX10_givesAlike_83 : decode cX10_givesAlike 83 = .ok (.aload_n 0, 1) := by decide +kernel
theorem dX10_givesAlike_84 : decode cX10_givesAlike 84 = .ok (.getfield 122, 3) := by decide +kernel
theorem dX10_givesAlike_87 : decode cX10_givesAlike 87 = .ok (.iload 5, 2) := by decide +kernel
theorem dX10_givesAlike_89 : decode cX10_givesAlike 89 = .ok (.iaload, 1) := by decide +kernel
theorem dX10_givesAlike_90 : decode cX10_givesAlike 90 = .ok (.iload_n 3, 1) := by decide +kernel
theorem dX10_givesAlike_91 : decode cX10_givesAlike 91 = .ok (.invokestatic 271, 3) := by decide +kernel
theorem dX10_givesAlike_94 : decode cX10_givesAlike 94 = .ok (.iadd, 1) := by decide +kernel
theorem dX10_givesAlike_95 : decode cX10_givesAlike 95 = .ok (.iload 6, 2) := by decide +kernel
theorem dX10_givesAlike_97 : decode cX10_givesAlike 97 = .ok (.ifCond .eq 7, 3) := by decide +kernel
theorem dX10_givesAlike_100 : decode cX10_givesAlike 100 = .ok (.iconst 1, 1) := by decide +kernel
theorem dX10_givesAlike_101 : decode cX10_givesAlike 101 = .ok (.goto 4, 3) := by decide +kernel
theorem dX10_givesAlike_104 : decode cX10_givesAlike 104 = .ok (.iconst 0, 1) := by decide +kernel
theorem dX10_givesAlike_105 : decode cX10_givesAlike 105 = .ok (.iadd, 1) := by decide +kernel
theorem dX10_givesAlike_106 : decode cX10_givesAlike 106 = .ok (.iastore, 1) := by decide +kernel
theorem dX10_givesAlike_107 : decode cX10_givesAlike 107 = .ok (.iload 4, 2) := by decide +kernel
theorem dX10_givesAlike_109 : decode cX10_givesAlike 109 = .ok (.iload 6, 2) := by decide +kernel
theorem dX10_givesAlike_111 : decode cX10_givesAlike 111 = .ok (.ifCond .eq 7, 3) := by decide +kernel
theorem dX10_givesAlike_114 : decode cX10_givesAlike 114 = .ok (.iconst 1, 1) := by decide +kernel
theorem dX10_givesAlike_115 : decode cX10_givesAlike 115 = .ok (.goto 4, 3) := by decide +kernel
theorem dX10_givesAlike_118 : decode cX10_givesAlike 118 = .ok (.iconst 0, 1) := by decide +kernel
theorem dX10_givesAlike_119 : decode cX10_givesAlike 119 = .ok (.isub, 1) := by decide +kernel
theorem dX10_givesAlike_120 : decode cX10_givesAlike 120 = .ok (.istore 4, 2) := by decide +kernel
theorem dX10_givesAlike_122 : decode cX10_givesAlike 122 = .ok (.iinc 5 1, 3) := by decide +kernel
theorem dX10_givesAlike_125 : decode cX10_givesAlike 125 = .ok (.goto (-84), 3) := by decide +kernel
theorem dX10_givesAlike_128 : decode cX10_givesAlike 128 = .ok (.return_, 1) := by decide +kernel
theorem dX10_losesAlike_0 : decode cX10_losesAlike 0 = .ok (.iconst 0, 1) := by decide +kernel
theorem dX10_losesAlike_1 : decode cX10_losesAlike 1 = .ok (.istore_n 3, 1) := by decide +kernel
theorem dX10_losesAlike_2 : decode cX10_losesAlike 2 = .ok (.aload_n 0, 1) := by decide +kernel
theorem dX10_losesAlike_3 : decode cX10_losesAlike 3 = .ok (.iload_n 1, 1) := by decide +kernel
theorem dX10_losesAlike_4 : decode cX10_losesAlike 4 = .ok (.invokevirtual 394, 3) := by decide +kernel
theorem dX10_losesAlike_7 : decode cX10_losesAlike 7 = .ok (.aload_n 0, 1) := by decide +kernel
theorem dX10_losesAlike_8 : decode cX10_losesAlike 8 = .ok (.iload_n 1, 1) := by decide +kernel
theorem dX10_losesAlike_9 : decode cX10_losesAlike 9 = .ok (.iload_n 3, 1) := by decide +kernel
theorem dX10_losesAlike_10 : decode cX10_losesAlike 10 = .ok (.invokevirtual 391, 3) := by decide +kernel
theorem dX10_losesAlike_13 : decode cX10_losesAlike 13 = .ok (.isub, 1) := by decide +kernel
theorem dX10_losesAlike_14 : decode cX10_losesAlike 14 = .ok (.iload_n 2, 1) := by decide +kernel
theorem dX10_losesAlike_15 : decode cX10_losesAlike 15 = .ok (.if_icmp .le 10, 3) := by decide +kernel
theorem dX10_losesAlike_18 : decode cX10_losesAlike 18 = .ok (.iload_n 3, 1) := by decide +kernel
theorem dX10_losesAlike_19 : decode cX10_losesAlike 19 = .ok (.iconst 1, 1) := by decide +kernel
theorem dX10_losesAlike_20 : decode cX10_losesAlike 20 = .ok (.iadd, 1) := by decide +kernel
theorem dX10_losesAlike_21 : decode cX10_losesAlike 21 = .ok (.istore_n 3, 1) := by decide +kernel
theorem dX10_losesAlike_22 : decode cX10_losesAlike 22 = .ok (.goto (-20), 3) := by decide +kernel
theorem dX10_losesAlike_25 : decode cX10_losesAlike 25 = .ok (.iload_n 2, 1) := by decide +kernel
theorem dX10_losesAlike_26 : decode cX10_losesAlike 26 = .ok (.aload_n 0, 1) := by decide +kernel
theorem dX10_losesAlike_27 : decode cX10_losesAlike 27 = .ok (.iload_n 1, 1) := by decide +kernel
theorem dX10_losesAlike_28 : decode cX10_losesAlike 28 = .ok (.invokevirtual 394, 3) := by decide +kernel
theorem dX10_losesAlike_31 : decode cX10_losesAlike 31 = .ok (.isub, 1) := by decide +kernel
theorem dX10_losesAlike_32 : decode cX10_losesAlike 32 = .ok (.aload_n 0, 1) := by decide +kernel
theorem dX10_losesAlike_33 : decode cX10_losesAlike 33 = .ok (.iload_n 1, 1) := by decide +kernel
theorem dX10_losesAlike_34 : decode cX10_losesAlike 34 = .ok (.iload_n 3, 1) := by decide +kernel
theorem dX10_losesAlike_35 : decode cX10_losesAlike 35 = .ok (.invokevirtual 391, 3) := by decide +kernel
theorem dX10_losesAlike_38 : decode cX10_losesAlike 38 = .ok (.iadd, 1) := by decide +kernel
theorem dX10_losesAlike_39 : decode cX10_losesAlike 39 = .ok (.istore 4, 2) := by decide +kernel
theorem dX10_losesAlike_41 : decode cX10_losesAlike 41 = .ok (.iconst 0, 1) := by decide +kernel
theorem dX10_losesAlike_42 : decode cX10_losesAlike 42 = .ok (.istore 5, 2) := by decide +kernel
theorem dX10_losesAlike_44 : decode cX10_losesAlike 44 = .ok (.iload 5, 2) := by decide +kernel
theorem dX10_losesAlike_46 : decode cX10_losesAlike 46 = .ok (.iload_n 1, 1) := by decide +kernel
theorem dX10_losesAlike_47 : decode cX10_losesAlike 47 = .ok (.if_icmp .ge 90, 3) := by decide +kernel
theorem dX10_losesAlike_50 : decode cX10_losesAlike 50 = .ok (.iload 4, 2) := by decide +kernel
theorem dX10_losesAlike_52 : decode cX10_losesAlike 52 = .ok (.ifCond .le 22, 3) := by decide +kernel
theorem dX10_losesAlike_55 : decode cX10_losesAlike 55 = .ok (.iload_n 3, 1) := by decide +kernel
theorem dX10_losesAlike_56 : decode cX10_losesAlike 56 = .ok (.ifCond .le 18, 3) := by decide +kernel
theorem dX10_losesAlike_59 : decode cX10_losesAlike 59 = .ok (.aload_n 0, 1) := by decide +kernel
theorem dX10_losesAlike_60 : decode cX10_losesAlike 60 = .ok (.getfield 122, 3) := by decide +kernel
theorem dX10_losesAlike_63 : decode cX10_losesAlike 63 = .ok (.iload 5, 2) := by decide +kernel
theorem dX10_losesAlike_65 : decode cX10_losesAlike 65 = .ok (.iaload, 1) := by decide +kernel
theorem dX10_losesAlike_66 : decode cX10_losesAlike 66 = .ok (.iload_n 3, 1) := by decide +kernel
theorem dX10_losesAlike_67 : decode cX10_losesAlike 67 = .ok (.if_icmp .lt 7, 3) := by decide +kernel
theorem dX10_losesAlike_70 : decode cX10_losesAlike 70 = .ok (.iconst 1, 1) := by decide +kernel
theorem dX10_losesAlike_71 : decode cX10_losesAlike 71 = .ok (.goto 4, 3) := by decide +kernel
theorem dX10_losesAlike_74 : decode cX10_losesAlike 74 = .ok (.iconst 0, 1) := by decide +kernel
theorem dX10_losesAlike_75 : decode cX10_losesAlike 75 = .ok (.istore 6, 2) := by decide +kernel
theorem dX10_losesAlike_77 : decode cX10_losesAlike 77 = .ok (.aload_n 0, 1) := by decide +kernel
theorem dX10_losesAlike_78 : decode cX10_losesAlike 78 = .ok (.getfield 125, 3) := by decide +kernel
theorem dX10_losesAlike_81 : decode cX10_losesAlike 81 = .ok (.iload 5, 2) := by decide +kernel
theorem dX10_losesAlike_83 : decode cX10_losesAlike 83 = .ok (.aload_n 0, 1) := by decide +kernel
theorem dX10_losesAlike_84 : decode cX10_losesAlike 84 = .ok (.getfield 125, 3) := by decide +kernel
theorem dX10_losesAlike_87 : decode cX10_losesAlike 87 = .ok (.iload 5, 2) := by decide +kernel
theorem dX10_losesAlike_89 : decode cX10_losesAlike 89 = .ok (.iaload, 1) := by decide +kernel
theorem dX10_losesAlike_90 : decode cX10_losesAlike 90 = .ok (.iconst 0, 1) := by decide +kernel
theorem dX10_losesAlike_91 : decode cX10_losesAlike 91 = .ok (.aload_n 0, 1) := by decide +kernel
theorem dX10_losesAlike_92 : decode cX10_losesAlike 92 = .ok (.getfield 122, 3) := by decide +kernel
theorem dX10_losesAlike_95 : decode cX10_losesAlike 95 = .ok (.iload 5, 2) := by decide +kernel
theorem dX10_losesAlike_97 : decode cX10_losesAlike 97 = .ok (.iaload, 1) := by decide +kernel
theorem dX10_losesAlike_98 : decode cX10_losesAlike 98 = .ok (.iload_n 3, 1) := by decide +kernel
theorem dX10_losesAlike_99 : decode cX10_losesAlike 99 = .ok (.isub, 1) := by decide +kernel
theorem dX10_losesAlike_100 : decode cX10_losesAlike 100 = .ok (.invokestatic 376, 3) := by decide +kernel
theorem dX10_losesAlike_103 : decode cX10_losesAlike 103 = .ok (.iadd, 1) := by decide +kernel
theorem dX10_losesAlike_104 : decode cX10_losesAlike 104 = .ok (.iload 6, 2) := by decide +kernel
theorem dX10_losesAlike_106 : decode cX10_losesAlike 106 = .ok (.ifCond .eq 7, 3) := by decide +kernel
theorem dX10_losesAlike_109 : decode cX10_losesAlike 109 = .ok (.iconst 1, 1) := by decide +kernel
theorem dX10_losesAlike_110 : decode cX10_losesAlike 110 = .ok (.goto 4, 3) := by decide +kernel
theorem dX10_losesAlike_113 : decode cX10_losesAlike 113 = .ok (.iconst 0, 1) := by decide +kernel
theorem dX10_losesAlike_114 : decode cX10_losesAlike 114 = .ok (.iadd, 1) := by decide +kernel
theorem dX10_losesAlike_115 : decode cX10_losesAlike 115 = .ok (.iastore, 1) := by decide +kernel
theorem dX10_losesAlike_116 : decode cX10_losesAlike 116 = .ok (.iload 4, 2) := by decide +kernel
theorem dX10_losesAlike_118 : decode cX10_losesAlike 118 = .ok (.iload 6, 2) := by decide +kernel
theorem dX10_losesAlike_120 : decode cX10_losesAlike 120 = .ok (.ifCond .eq 7, 3) := by decide +kernel
theorem dX10_losesAlike_123 : decode cX10_losesAlike 123 = .ok (.iconst 1, 1) := by decide +kernel
theorem dX10_losesAlike_124 : decode cX10_losesAlike 124 = .ok (.goto 4, 3) := by decide +kernel
theorem dX10_losesAlike_127 : decode cX10_losesAlike 127 = .ok (.iconst 0, 1) := by decide +kernel
theorem dX10_losesAlike_128 : decode cX10_losesAlike 128 = .ok (.isub, 1) := by decide +kernel
theorem dX10_losesAlike_129 : decode cX10_losesAlike 129 = .ok (.istore 4, 2) := by decide +kernel
theorem dX10_losesAlike_131 : decode cX10_losesAlike 131 = .ok (.iinc 5 1, 3) := by decide +kernel
theorem dX10_losesAlike_134 : decode cX10_losesAlike 134 = .ok (.goto (-90), 3) := by decide +kernel
theorem dX10_losesAlike_137 : decode cX10_losesAlike 137 = .ok (.return_, 1) := by decide +kernel
theorem dX10_divides_0 : decode cX10_divides 0 = .ok (.iconst 0, 1) := by decide +kernel
theorem dX10_divides_1 : decode cX10_divides 1 = .ok (.istore 4, 2) := by decide +kernel
theorem dX10_divides_3 : decode cX10_divides 3 = .ok (.iload 4, 2) := by decide +kernel
theorem dX10_divides_5 : decode cX10_divides 5 = .ok (.iload_n 1, 1) := by decide +kernel
theorem dX10_divides_6 : decode cX10_divides 6 = .ok (.if_icmp .ge 17, 3) := by decide +kernel
theorem dX10_divides_9 : decode cX10_divides 9 = .ok (.aload_n 0, 1) := by decide +kernel
theorem dX10_divides_10 : decode cX10_divides 10 = .ok (.getfield 125, 3) := by decide +kernel
theorem dX10_divides_13 : decode cX10_divides 13 = .ok (.iload 4, 2) := by decide +kernel
theorem dX10_divides_15 : decode cX10_divides 15 = .ok (.iconst 0, 1) := by decide +kernel
theorem dX10_divides_16 : decode cX10_divides 16 = .ok (.iastore, 1) := by decide +kernel
theorem dX10_divides_17 : decode cX10_divides 17 = .ok (.iinc 4 1, 3) := by decide +kernel
theorem dX10_divides_20 : decode cX10_divides 20 = .ok (.goto (-17), 3) := by decide +kernel
theorem dX10_divides_23 : decode cX10_divides 23 = .ok (.iload_n 3, 1) := by decide +kernel
theorem dX10_divides_24 : decode cX10_divides 24 = .ok (.ifCond .ne 10, 3) := by decide +kernel
theorem dX10_divides_27 : decode cX10_divides 27 = .ok (.aload_n 0, 1) := by decide +kernel
theorem dX10_divides_28 : decode cX10_divides 28 = .ok (.iload_n 1, 1) := by decide +kernel
theorem dX10_divides_29 : decode cX10_divides 29 = .ok (.iload_n 2, 1) := by decide +kernel
theorem dX10_divides_30 : decode cX10_divides 30 = .ok (.invokevirtual 397, 3) := by decide +kernel
theorem dX10_divides_33 : decode cX10_divides 33 = .ok (.return_, 1) := by decide +kernel
theorem dX10_divides_34 : decode cX10_divides 34 = .ok (.iload_n 3, 1) := by decide +kernel
theorem dX10_divides_35 : decode cX10_divides 35 = .ok (.iconst 1, 1) := by decide +kernel
theorem dX10_divides_36 : decode cX10_divides 36 = .ok (.if_icmp .ne 10, 3) := by decide +kernel
theorem dX10_divides_39 : decode cX10_divides 39 = .ok (.aload_n 0, 1) := by decide +kernel
theorem dX10_divides_40 : decode cX10_divides 40 = .ok (.iload_n 1, 1) := by decide +kernel
theorem dX10_divides_41 : decode cX10_divides 41 = .ok (.iload_n 2, 1) := by decide +kernel
theorem dX10_divides_42 : decode cX10_divides 42 = .ok (.invokevirtual 400, 3) := by decide +kernel
theorem dX10_divides_45 : decode cX10_divides 45 = .ok (.return_, 1) := by decide +kernel
theorem dX10_divides_46 : decode cX10_divides 46 = .ok (.iconst 2, 1) := by decide +kernel
theorem dX10_divides_47 : decode cX10_divides 47 = .ok (.iload_n 2, 1) := by decide +kernel
theorem dX10_divides_48 : decode cX10_divides 48 = .ok (.imul, 1) := by decide +kernel
theorem dX10_divides_49 : decode cX10_divides 49 = .ok (.aload_n 0, 1) := by decide +kernel
theorem dX10_divides_50 : decode cX10_divides 50 = .ok (.iload_n 1, 1) := by decide +kernel
theorem dX10_divides_51 : decode cX10_divides 51 = .ok (.invokevirtual 394, 3) := by decide +kernel
theorem dX10_divides_54 : decode cX10_divides 54 = .ok (.if_icmp .gt 7, 3) := by decide +kernel
theorem dX10_divides_57 : decode cX10_divides 57 = .ok (.iconst 1, 1) := by decide +kernel
theorem dX10_divides_58 : decode cX10_divides 58 = .ok (.goto 4, 3) := by decide +kernel
theorem dX10_divides_61 : decode cX10_divides 61 = .ok (.iconst 0, 1) := by decide +kernel
theorem dX10_divides_62 : decode cX10_divides 62 = .ok (.istore 4, 2) := by decide +kernel
theorem dX10_divides_64 : decode cX10_divides 64 = .ok (.iconst 0, 1) := by decide +kernel
theorem dX10_divides_65 : decode cX10_divides 65 = .ok (.istore 5, 2) := by decide +kernel
theorem dX10_divides_67 : decode cX10_divides 67 = .ok (.iconst 0, 1) := by decide +kernel
theorem dX10_divides_68 : decode cX10_divides 68 = .ok (.istore 6, 2) := by decide +kernel
theorem dX10_divides_70 : decode cX10_divides 70 = .ok (.iload 6, 2) := by decide +kernel
theorem dX10_divides_72 : decode cX10_divides 72 = .ok (.iload_n 1, 1) := by decide +kernel
theorem dX10_divides_73 : decode cX10_divides 73 = .ok (.if_icmp .ge 68, 3) := by decide +kernel
theorem dX10_divides_76 : decode cX10_divides 76 = .ok (.aload_n 0, 1) := by decide +kernel
theorem dX10_divides_77 : decode cX10_divides 77 = .ok (.getfield 122, 3) := by decide +kernel
theorem dX10_divides_80 : decode cX10_divides 80 = .ok (.iload 6, 2) := by decide +kernel
theorem dX10_divides_82 : decode cX10_divides 82 = .ok (.iaload, 1) := by decide +kernel
theorem dX10_divides_83 : decode cX10_divides 83 = .ok (.iconst 2, 1) := by decide +kernel
theorem dX10_divides_84 : decode cX10_divides 84 = .ok (.idiv, 1) := by decide +kernel
theorem dX10_divides_85 : decode cX10_divides 85 = .ok (.istore 7, 2) := by decide +kernel
theorem dX10_divides_87 : decode cX10_divides 87 = .ok (.iload 5, 2) := by decide +kernel
theorem dX10_divides_89 : decode cX10_divides 89 = .ok (.iload 7, 2) := by decide +kernel
theorem dX10_divides_91 : decode cX10_divides 91 = .ok (.iadd, 1) := by decide +kernel
theorem dX10_divides_92 : decode cX10_divides 92 = .ok (.istore 5, 2) := by decide +kernel
theorem dX10_divides_94 : decode cX10_divides 94 = .ok (.iload 4, 2) := by decide +kernel
theorem dX10_divides_96 : decode cX10_divides 96 = .ok (.ifCond .ne 12, 3) := by decide +kernel
theorem dX10_divides_99 : decode cX10_divides 99 = .ok (.aload_n 0, 1) := by decide +kernel
theorem dX10_divides_100 : decode cX10_divides 100 = .ok (.getfield 125, 3) := by decide +kernel
theorem dX10_divides_103 : decode cX10_divides 103 = .ok (.iload 6, 2) := by decide +kernel
theorem dX10_divides_105 : decode cX10_divides 105 = .ok (.iload 7, 2) := by decide +kernel
theorem dX10_divides_107 : decode cX10_divides 107 = .ok (.iastore, 1) := by decide +kernel
theorem dX10_divides_108 : decode cX10_divides 108 = .ok (.aload_n 0, 1) := by decide +kernel
theorem dX10_divides_109 : decode cX10_divides 109 = .ok (.getfield 122, 3) := by decide +kernel
theorem dX10_divides_112 : decode cX10_divides 112 = .ok (.iload 6, 2) := by decide +kernel
theorem dX10_divides_114 : decode cX10_divides 114 = .ok (.iload 4, 2) := by decide +kernel
theorem dX10_divides_116 : decode cX10_divides 116 = .ok (.ifCond .eq 8, 3) := by decide +kernel
theorem dX10_divides_119 : decode cX10_divides 119 = .ok (.iload 7, 2) := by decide +kernel
theorem dX10_divides_121 : decode cX10_divides 121 = .ok (.goto 13, 3) := by decide +kernel
theorem dX10_divides_124 : decode cX10_divides 124 = .ok (.aload_n 0, 1) := by decide +kernel
theorem dX10_divides_125 : decode cX10_divides 125 = .ok (.getfield 122, 3) := by decide +kernel
theorem dX10_divides_128 : decode cX10_divides 128 = .ok (.iload 6, 2) := by decide +kernel
theorem dX10_divides_130 : decode cX10_divides 130 = .ok (.iaload, 1) := by decide +kernel
theorem dX10_divides_131 : decode cX10_divides 131 = .ok (.iload 7, 2) := by decide +kernel
theorem dX10_divides_133 : decode cX10_divides 133 = .ok (.isub, 1) := by decide +kernel
theorem dX10_divides_134 : decode cX10_divides 134 = .ok (.iastore, 1) := by decide +kernel
theorem dX10_divides_135 : decode cX10_divides 135 = .ok (.iinc 6 1, 3) := by decide +kernel
theorem dX10_divides_138 : decode cX10_divides 138 = .ok (.goto (-68), 3) := by decide +kernel
theorem dX10_divides_141 : decode cX10_divides 141 = .ok (.iload 4, 2) := by decide +kernel
theorem dX10_divides_143 : decode cX10_divides 143 = .ok (.ifCond .eq 12, 3) := by decide +kernel
theorem dX10_divides_146 : decode cX10_divides 146 = .ok (.aload_n 0, 1) := by decide +kernel
theorem dX10_divides_147 : decode cX10_divides 147 = .ok (.iload_n 1, 1) := by decide +kernel
theorem dX10_divides_148 : decode cX10_divides 148 = .ok (.iload_n 2, 1) := by decide +kernel
theorem dX10_divides_149 : decode cX10_divides 149 = .ok (.invokevirtual 397, 3) := by decide +kernel
theorem dX10_divides_152 : decode cX10_divides 152 = .ok (.goto 12, 3) := by decide +kernel
theorem dX10_divides_155 : decode cX10_divides 155 = .ok (.aload_n 0, 1) := by decide +kernel
theorem dX10_divides_156 : decode cX10_divides 156 = .ok (.iload_n 1, 1) := by decide +kernel
theorem dX10_divides_157 : decode cX10_divides 157 = .ok (.iload_n 2, 1) := by decide +kernel
theorem dX10_divides_158 : decode cX10_divides 158 = .ok (.iload 5, 2) := by decide +kernel
theorem dX10_divides_160 : decode cX10_divides 160 = .ok (.isub, 1) := by decide +kernel
theorem dX10_divides_161 : decode cX10_divides 161 = .ok (.invokevirtual 400, 3) := by decide +kernel
theorem dX10_divides_164 : decode cX10_divides 164 = .ok (.return_, 1) := by decide +kernel
theorem dX10_divided_0 : decode cX10_divided 0 = .ok (.iload_n 1, 1) := by decide +kernel
theorem dX10_divided_1 : decode cX10_divided 1 = .ok (.iconst 1, 1) := by decide +kernel
theorem dX10_divided_2 : decode cX10_divided 2 = .ok (.bipush 8, 2) := by decide +kernel
theorem dX10_divided_4 : decode cX10_divided 4 = .ok (.invokestatic 134, 3) := by decide +kernel
theorem dX10_divided_7 : decode cX10_divided 7 = .ok (.ifCond .eq 45, 3) := by decide +kernel
theorem dX10_divided_10 : decode cX10_divided 10 = .ok (.iload_n 2, 1) := by decide +kernel
theorem dX10_divided_11 : decode cX10_divided 11 = .ok (.iconst 0, 1) := by decide +kernel
theorem dX10_divided_12 : decode cX10_divided 12 = .ok (.sipush 9999, 3) := by decide +kernel
theorem dX10_divided_15 : decode cX10_divided 15 = .ok (.invokestatic 134, 3) := by decide +kernel
theorem dX10_divided_18 : decode cX10_divided 18 = .ok (.ifCond .eq 34, 3) := by decide +kernel
theorem dX10_divided_21 : decode cX10_divided 21 = .ok (.iload_n 3, 1) := by decide +kernel
theorem dX10_divided_22 : decode cX10_divided 22 = .ok (.iconst 0, 1) := by decide +kernel
theorem dX10_divided_23 : decode cX10_divided 23 = .ok (.iconst 2, 1) := by decide +kernel
theorem dX10_divided_24 : decode cX10_divided 24 = .ok (.invokestatic 134, 3) := by decide +kernel
theorem dX10_divided_27 : decode cX10_divided 27 = .ok (.ifCond .eq 25, 3) := by decide +kernel
theorem dX10_divided_30 : decode cX10_divided 30 = .ok (.iload 4, 2) := by decide +kernel
theorem dX10_divided_32 : decode cX10_divided 32 = .ok (.iconst 0, 1) := by decide +kernel
theorem dX10_divided_33 : decode cX10_divided 33 = .ok (.iload_n 1, 1) := by decide +kernel
theorem dX10_divided_34 : decode cX10_divided 34 = .ok (.iconst 1, 1) := by decide +kernel
theorem dX10_divided_35 : decode cX10_divided 35 = .ok (.isub, 1) := by decide +kernel
theorem dX10_divided_36 : decode cX10_divided 36 = .ok (.invokestatic 134, 3) := by decide +kernel
theorem dX10_divided_39 : decode cX10_divided 39 = .ok (.ifCond .eq 13, 3) := by decide +kernel
theorem dX10_divided_42 : decode cX10_divided 42 = .ok (.iconst 2, 1) := by decide +kernel
theorem dX10_divided_43 : decode cX10_divided 43 = .ok (.iload_n 1, 1) := by decide +kernel
theorem dX10_divided_44 : decode cX10_divided 44 = .ok (.imul, 1) := by decide +kernel
theorem dX10_divided_45 : decode cX10_divided 45 = .ok (.aload_n 0, 1) := by decide +kernel
theorem dX10_divided_46 : decode cX10_divided 46 = .ok (.getfield 150, 3) := by decide +kernel
theorem dX10_divided_49 : decode cX10_divided 49 = .ok (.if_icmp .le 5, 3) := by decide +kernel
theorem dX10_divided_52 : decode cX10_divided 52 = .ok (.iconst (-1), 1) := by decide +kernel
theorem dX10_divided_53 : decode cX10_divided 53 = .ok (.ireturn, 1) := by decide +kernel
theorem dX10_divided_54 : decode cX10_divided 54 = .ok (.aload_n 0, 1) := by decide +kernel
theorem dX10_divided_55 : decode cX10_divided 55 = .ok (.iconst 0, 1) := by decide +kernel
theorem dX10_divided_56 : decode cX10_divided 56 = .ok (.putfield 150, 3) := by decide +kernel
theorem dX10_divided_59 : decode cX10_divided 59 = .ok (.iconst 0, 1) := by decide +kernel
theorem dX10_divided_60 : decode cX10_divided 60 = .ok (.istore 5, 2) := by decide +kernel
theorem dX10_divided_62 : decode cX10_divided 62 = .ok (.iload 5, 2) := by decide +kernel
theorem dX10_divided_64 : decode cX10_divided 64 = .ok (.iload_n 1, 1) := by decide +kernel
theorem dX10_divided_65 : decode cX10_divided 65 = .ok (.if_icmp .ge 55, 3) := by decide +kernel
theorem dX10_divided_68 : decode cX10_divided 68 = .ok (.aload_n 0, 1) := by decide +kernel
theorem dX10_divided_69 : decode cX10_divided 69 = .ok (.getfield 122, 3) := by decide +kernel
theorem dX10_divided_72 : decode cX10_divided 72 = .ok (.iload 5, 2) := by decide +kernel
theorem dX10_divided_74 : decode cX10_divided 74 = .ok (.sipush 256, 3) := by decide +kernel
theorem dX10_divided_77 : decode cX10_divided 77 = .ok (.aload_n 0, 1) := by decide +kernel
theorem dX10_divided_78 : decode cX10_divided 78 = .ok (.iconst 2, 1) := by decide +kernel
theorem dX10_divided_79 : decode cX10_divided 79 = .ok (.iload 5, 2) := by decide +kernel
theorem dX10_divided_81 : decode cX10_divided 81 = .ok (.imul, 1) := by decide +kernel
theorem dX10_divided_82 : decode cX10_divided 82 = .ok (.invokevirtual 388, 3) := by decide +kernel
theorem dX10_divided_85 : decode cX10_divided 85 = .ok (.imul, 1) := by decide +kernel
theorem dX10_divided_86 : decode cX10_divided 86 = .ok (.aload_n 0, 1) := by decide +kernel
theorem dX10_divided_87 : decode cX10_divided 87 = .ok (.iconst 2, 1) := by decide +kernel
theorem dX10_divided_88 : decode cX10_divided 88 = .ok (.iload 5, 2) := by decide +kernel
theorem dX10_divided_90 : decode cX10_divided 90 = .ok (.imul, 1) := by decide +kernel
theorem dX10_divided_91 : decode cX10_divided 91 = .ok (.iconst 1, 1) := by decide +kernel
theorem dX10_divided_92 : decode cX10_divided 92 = .ok (.iadd, 1) := by decide +kernel
theorem dX10_divided_93 : decode cX10_divided 93 = .ok (.invokevirtual 388, 3) := by decide +kernel
theorem dX10_divided_96 : decode cX10_divided 96 = .ok (.iadd, 1) := by decide +kernel
theorem dX10_divided_97 : decode cX10_divided 97 = .ok (.iastore, 1) := by decide +kernel
theorem dX10_divided_98 : decode cX10_divided 98 = .ok (.aload_n 0, 1) := by decide +kernel
theorem dX10_divided_99 : decode cX10_divided 99 = .ok (.getfield 122, 3) := by decide +kernel
theorem dX10_divided_102 : decode cX10_divided 102 = .ok (.iload 5, 2) := by decide +kernel
theorem dX10_divided_104 : decode cX10_divided 104 = .ok (.iaload, 1) := by decide +kernel
theorem dX10_divided_105 : decode cX10_divided 105 = .ok (.sipush 9999, 3) := by decide +kernel
theorem dX10_divided_108 : decode cX10_divided 108 = .ok (.if_icmp .le 6, 3) := by decide +kernel
theorem dX10_divided_111 : decode cX10_divided 111 = .ok (.bipush (-2), 2) := by decide +kernel
theorem dX10_divided_113 : decode cX10_divided 113 = .ok (.ireturn, 1) := by decide +kernel
theorem dX10_divided_114 : decode cX10_divided 114 = .ok (.iinc 5 1, 3) := by decide +kernel
theorem dX10_divided_117 : decode cX10_divided 117 = .ok (.goto (-55), 3) := by decide +kernel
theorem dX10_divided_120 : decode cX10_divided 120 = .ok (.aload_n 0, 1) := by decide +kernel
theorem dX10_divided_121 : decode cX10_divided 121 = .ok (.iload_n 1, 1) := by decide +kernel
theorem dX10_divided_122 : decode cX10_divided 122 = .ok (.iload_n 2, 1) := by decide +kernel
theorem dX10_divided_123 : decode cX10_divided 123 = .ok (.iload_n 3, 1) := by decide +kernel
theorem dX10_divided_124 : decode cX10_divided 124 = .ok (.invokevirtual 403, 3) := by decide +kernel
theorem dX10_divided_127 : decode cX10_divided 127 = .ok (.aload_n 0, 1) := by decide +kernel
theorem dX10_divided_128 : decode cX10_divided 128 = .ok (.getfield 125, 3) := by decide +kernel
theorem dX10_divided_131 : decode cX10_divided 131 = .ok (.iload 4, 2) := by decide +kernel
theorem dX10_divided_133 : decode cX10_divided 133 = .ok (.iaload, 1) := by decide +kernel
theorem dX10_divided_134 : decode cX10_divided 134 = .ok (.ireturn, 1) := by decide +kernel
theorem dX10_isAgain_0 : decode cX10_isAgain 0 = .ok (.iconst 0, 1) := by decide +kernel
theorem dX10_isAgain_1 : decode cX10_isAgain 1 = .ok (.istore_n 2, 1) := by decide +kernel
theorem dX10_isAgain_2 : decode cX10_isAgain 2 = .ok (.iload_n 2, 1) := by decide +kernel
theorem dX10_isAgain_3 : decode cX10_isAgain 3 = .ok (.iload_n 1, 1) := by decide +kernel
theorem dX10_isAgain_4 : decode cX10_isAgain 4 = .ok (.if_icmp .ge 24, 3) := by decide +kernel
theorem dX10_isAgain_7 : decode cX10_isAgain 7 = .ok (.aload_n 0, 1) := by decide +kernel
theorem dX10_isAgain_8 : decode cX10_isAgain 8 = .ok (.iload_n 2, 1) := by decide +kernel
theorem dX10_isAgain_9 : decode cX10_isAgain 9 = .ok (.invokevirtual 388, 3) := by decide +kernel
theorem dX10_isAgain_12 : decode cX10_isAgain 12 = .ok (.aload_n 0, 1) := by decide +kernel
theorem dX10_isAgain_13 : decode cX10_isAgain 13 = .ok (.iload_n 1, 1) := by decide +kernel
theorem dX10_isAgain_14 : decode cX10_isAgain 14 = .ok (.invokevirtual 388, 3) := by decide +kernel
theorem dX10_isAgain_17 : decode cX10_isAgain 17 = .ok (.if_icmp .ne 5, 3) := by decide +kernel
theorem dX10_isAgain_20 : decode cX10_isAgain 20 = .ok (.iconst 1, 1) := by decide +kernel
theorem dX10_isAgain_21 : decode cX10_isAgain 21 = .ok (.ireturn, 1) := by decide +kernel
theorem dX10_isAgain_22 : decode cX10_isAgain 22 = .ok (.iinc 2 1, 3) := by decide +kernel
theorem dX10_isAgain_25 : decode cX10_isAgain 25 = .ok (.goto (-23), 3) := by decide +kernel
theorem dX10_isAgain_28 : decode cX10_isAgain 28 = .ok (.iconst 0, 1) := by decide +kernel
theorem dX10_isAgain_29 : decode cX10_isAgain 29 = .ok (.ireturn, 1) := by decide +kernel
theorem dX10_laysCoins_0 : decode cX10_laysCoins 0 = .ok (.iconst 0, 1) := by decide +kernel
theorem dX10_laysCoins_1 : decode cX10_laysCoins 1 = .ok (.istore_n 3, 1) := by decide +kernel
theorem dX10_laysCoins_2 : decode cX10_laysCoins 2 = .ok (.iload_n 3, 1) := by decide +kernel
theorem dX10_laysCoins_3 : decode cX10_laysCoins 3 = .ok (.iload_n 2, 1) := by decide +kernel
theorem dX10_laysCoins_4 : decode cX10_laysCoins 4 = .ok (.if_icmp .gt 41, 3) := by decide +kernel
theorem dX10_laysCoins_7 : decode cX10_laysCoins 7 = .ok (.aload_n 0, 1) := by decide +kernel
theorem dX10_laysCoins_8 : decode cX10_laysCoins 8 = .ok (.getfield 128, 3) := by decide +kernel
theorem dX10_laysCoins_11 : decode cX10_laysCoins 11 = .ok (.iload_n 3, 1) := by decide +kernel
theorem dX10_laysCoins_12 : decode cX10_laysCoins 12 = .ok (.iload_n 3, 1) := by decide +kernel
theorem dX10_laysCoins_13 : decode cX10_laysCoins 13 = .ok (.ifCond .ne 7, 3) := by decide +kernel
theorem dX10_laysCoins_16 : decode cX10_laysCoins 16 = .ok (.iconst 0, 1) := by decide +kernel
theorem dX10_laysCoins_17 : decode cX10_laysCoins 17 = .ok (.goto 6, 3) := by decide +kernel
theorem dX10_laysCoins_20 : decode cX10_laysCoins 20 = .ok (.ldc_w 339, 3) := by decide +kernel
theorem dX10_laysCoins_23 : decode cX10_laysCoins 23 = .ok (.iastore, 1) := by decide +kernel
theorem dX10_laysCoins_24 : decode cX10_laysCoins 24 = .ok (.aload_n 0, 1) := by decide +kernel
theorem dX10_laysCoins_25 : decode cX10_laysCoins 25 = .ok (.getfield 131, 3) := by decide +kernel
theorem dX10_laysCoins_28 : decode cX10_laysCoins 28 = .ok (.iload_n 3, 1) := by decide +kernel
theorem dX10_laysCoins_29 : decode cX10_laysCoins 29 = .ok (.iload_n 3, 1) := by decide +kernel
theorem dX10_laysCoins_30 : decode cX10_laysCoins 30 = .ok (.ifCond .ne 7, 3) := by decide +kernel
theorem dX10_laysCoins_33 : decode cX10_laysCoins 33 = .ok (.iconst 1, 1) := by decide +kernel
theorem dX10_laysCoins_34 : decode cX10_laysCoins 34 = .ok (.goto 4, 3) := by decide +kernel
theorem dX10_laysCoins_37 : decode cX10_laysCoins 37 = .ok (.iconst 0, 1) := by decide +kernel
theorem dX10_laysCoins_38 : decode cX10_laysCoins 38 = .ok (.iastore, 1) := by decide +kernel
theorem dX10_laysCoins_39 : decode cX10_laysCoins 39 = .ok (.iinc 3 1, 3) := by decide +kernel
theorem dX10_laysCoins_42 : decode cX10_laysCoins 42 = .ok (.goto (-40), 3) := by decide +kernel
theorem dX10_laysCoins_45 : decode cX10_laysCoins 45 = .ok (.iconst 0, 1) := by decide +kernel
theorem dX10_laysCoins_46 : decode cX10_laysCoins 46 = .ok (.istore_n 3, 1) := by decide +kernel
theorem dX10_laysCoins_47 : decode cX10_laysCoins 47 = .ok (.iload_n 3, 1) := by decide +kernel
theorem dX10_laysCoins_48 : decode cX10_laysCoins 48 = .ok (.iload_n 1, 1) := by decide +kernel
theorem dX10_laysCoins_49 : decode cX10_laysCoins 49 = .ok (.if_icmp .ge 105, 3) := by decide +kernel
theorem dX10_laysCoins_52 : decode cX10_laysCoins 52 = .ok (.aload_n 0, 1) := by decide +kernel
theorem dX10_laysCoins_53 : decode cX10_laysCoins 53 = .ok (.iload_n 3, 1) := by decide +kernel
theorem dX10_laysCoins_54 : decode cX10_laysCoins 54 = .ok (.invokevirtual 406, 3) := by decide +kernel
theorem dX10_laysCoins_57 : decode cX10_laysCoins 57 = .ok (.ifCond .eq 6, 3) := by decide +kernel
theorem dX10_laysCoins_60 : decode cX10_laysCoins 60 = .ok (.goto 88, 3) := by decide +kernel
theorem dX10_laysCoins_63 : decode cX10_laysCoins 63 = .ok (.aload_n 0, 1) := by decide +kernel
theorem dX10_laysCoins_64 : decode cX10_laysCoins 64 = .ok (.iload_n 3, 1) := by decide +kernel
theorem dX10_laysCoins_65 : decode cX10_laysCoins 65 = .ok (.invokevirtual 388, 3) := by decide +kernel
theorem dX10_laysCoins_68 : decode cX10_laysCoins 68 = .ok (.istore 4, 2) := by decide +kernel
theorem dX10_laysCoins_70 : decode cX10_laysCoins 70 = .ok (.iload 4, 2) := by decide +kernel
theorem dX10_laysCoins_72 : decode cX10_laysCoins 72 = .ok (.iload_n 2, 1) := by decide +kernel
theorem dX10_laysCoins_73 : decode cX10_laysCoins 73 = .ok (.if_icmp .gt 75, 3) := by decide +kernel
theorem dX10_laysCoins_76 : decode cX10_laysCoins 76 = .ok (.aload_n 0, 1) := by decide +kernel
theorem dX10_laysCoins_77 : decode cX10_laysCoins 77 = .ok (.getfield 128, 3) := by decide +kernel
theorem dX10_laysCoins_80 : decode cX10_laysCoins 80 = .ok (.iload 4, 2) := by decide +kernel
theorem dX10_laysCoins_82 : decode cX10_laysCoins 82 = .ok (.aload_n 0, 1) := by decide +kernel
theorem dX10_laysCoins_83 : decode cX10_laysCoins 83 = .ok (.getfield 128, 3) := by decide +kernel
theorem dX10_laysCoins_86 : decode cX10_laysCoins 86 = .ok (.iload 4, 2) := by decide +kernel
theorem dX10_laysCoins_88 : decode cX10_laysCoins 88 = .ok (.iaload, 1) := by decide +kernel
theorem dX10_laysCoins_89 : decode cX10_laysCoins 89 = .ok (.aload_n 0, 1) := by decide +kernel
theorem dX10_laysCoins_90 : decode cX10_laysCoins 90 = .ok (.getfield 128, 3) := by decide +kernel
theorem dX10_laysCoins_93 : decode cX10_laysCoins 93 = .ok (.iload 4, 2) := by decide +kernel
theorem dX10_laysCoins_95 : decode cX10_laysCoins 95 = .ok (.aload_n 0, 1) := by decide +kernel
theorem dX10_laysCoins_96 : decode cX10_laysCoins 96 = .ok (.iload_n 3, 1) := by decide +kernel
theorem dX10_laysCoins_97 : decode cX10_laysCoins 97 = .ok (.invokevirtual 388, 3) := by decide +kernel
theorem dX10_laysCoins_100 : decode cX10_laysCoins 100 = .ok (.isub, 1) := by decide +kernel
theorem dX10_laysCoins_101 : decode cX10_laysCoins 101 = .ok (.iaload, 1) := by decide +kernel
theorem dX10_laysCoins_102 : decode cX10_laysCoins 102 = .ok (.iconst 1, 1) := by decide +kernel
theorem dX10_laysCoins_103 : decode cX10_laysCoins 103 = .ok (.iadd, 1) := by decide +kernel
theorem dX10_laysCoins_104 : decode cX10_laysCoins 104 = .ok (.invokestatic 271, 3) := by decide +kernel
theorem dX10_laysCoins_107 : decode cX10_laysCoins 107 = .ok (.iastore, 1) := by decide +kernel
theorem dX10_laysCoins_108 : decode cX10_laysCoins 108 = .ok (.aload_n 0, 1) := by decide +kernel
theorem dX10_laysCoins_109 : decode cX10_laysCoins 109 = .ok (.getfield 131, 3) := by decide +kernel
theorem dX10_laysCoins_112 : decode cX10_laysCoins 112 = .ok (.iload 4, 2) := by decide +kernel
theorem dX10_laysCoins_114 : decode cX10_laysCoins 114 = .ok (.ldc_w 409, 3) := by decide +kernel
theorem dX10_laysCoins_117 : decode cX10_laysCoins 117 = .ok (.aload_n 0, 1) := by decide +kernel
theorem dX10_laysCoins_118 : decode cX10_laysCoins 118 = .ok (.getfield 131, 3) := by decide +kernel
theorem dX10_laysCoins_121 : decode cX10_laysCoins 121 = .ok (.iload 4, 2) := by decide +kernel
theorem dX10_laysCoins_123 : decode cX10_laysCoins 123 = .ok (.iaload, 1) := by decide +kernel
theorem dX10_laysCoins_124 : decode cX10_laysCoins 124 = .ok (.aload_n 0, 1) := by decide +kernel
theorem dX10_laysCoins_125 : decode cX10_laysCoins 125 = .ok (.getfield 131, 3) := by decide +kernel
theorem dX10_laysCoins_128 : decode cX10_laysCoins 128 = .ok (.iload 4, 2) := by decide +kernel
theorem dX10_laysCoins_130 : decode cX10_laysCoins 130 = .ok (.aload_n 0, 1) := by decide +kernel
theorem dX10_laysCoins_131 : decode cX10_laysCoins 131 = .ok (.iload_n 3, 1) := by decide +kernel
theorem dX10_laysCoins_132 : decode cX10_laysCoins 132 = .ok (.invokevirtual 388, 3) := by decide +kernel
theorem dX10_laysCoins_135 : decode cX10_laysCoins 135 = .ok (.isub, 1) := by decide +kernel
theorem dX10_laysCoins_136 : decode cX10_laysCoins 136 = .ok (.iaload, 1) := by decide +kernel
theorem dX10_laysCoins_137 : decode cX10_laysCoins 137 = .ok (.iadd, 1) := by decide +kernel
theorem dX10_laysCoins_138 : decode cX10_laysCoins 138 = .ok (.invokestatic 271, 3) := by decide +kernel
theorem dX10_laysCoins_141 : decode cX10_laysCoins 141 = .ok (.iastore, 1) := by decide +kernel
theorem dX10_laysCoins_142 : decode cX10_laysCoins 142 = .ok (.iinc 4 1, 3) := by decide +kernel
theorem dX10_laysCoins_145 : decode cX10_laysCoins 145 = .ok (.goto (-75), 3) := by decide +kernel
theorem dX10_laysCoins_148 : decode cX10_laysCoins 148 = .ok (.iinc 3 1, 3) := by decide +kernel
theorem dX10_laysCoins_151 : decode cX10_laysCoins 151 = .ok (.goto (-104), 3) := by decide +kernel
theorem dX10_laysCoins_154 : decode cX10_laysCoins 154 = .ok (.return_, 1) := by decide +kernel
theorem dX10_byGreatest_0 : decode cX10_byGreatest 0 = .ok (.iload_n 2, 1) := by decide +kernel
theorem dX10_byGreatest_1 : decode cX10_byGreatest 1 = .ok (.istore_n 3, 1) := by decide +kernel
theorem dX10_byGreatest_2 : decode cX10_byGreatest 2 = .ok (.iconst 0, 1) := by decide +kernel
theorem dX10_byGreatest_3 : decode cX10_byGreatest 3 = .ok (.istore 4, 2) := by decide +kernel
theorem dX10_byGreatest_5 : decode cX10_byGreatest 5 = .ok (.iload_n 3, 1) := by decide +kernel
theorem dX10_byGreatest_6 : decode cX10_byGreatest 6 = .ok (.ifCond .le 66, 3) := by decide +kernel
theorem dX10_byGreatest_9 : decode cX10_byGreatest 9 = .ok (.iconst 0, 1) := by decide +kernel
theorem dX10_byGreatest_10 : decode cX10_byGreatest 10 = .ok (.istore 5, 2) := by decide +kernel
theorem dX10_byGreatest_12 : decode cX10_byGreatest 12 = .ok (.iconst 0, 1) := by decide +kernel
theorem dX10_byGreatest_13 : decode cX10_byGreatest 13 = .ok (.istore 6, 2) := by decide +kernel
theorem dX10_byGreatest_15 : decode cX10_byGreatest 15 = .ok (.iload 6, 2) := by decide +kernel
theorem dX10_byGreatest_17 : decode cX10_byGreatest 17 = .ok (.iload_n 1, 1) := by decide +kernel
theorem dX10_byGreatest_18 : decode cX10_byGreatest 18 = .ok (.if_icmp .ge 32, 3) := by decide +kernel
theorem dX10_byGreatest_21 : decode cX10_byGreatest 21 = .ok (.aload_n 0, 1) := by decide +kernel
theorem dX10_byGreatest_22 : decode cX10_byGreatest 22 = .ok (.iload 6, 2) := by decide +kernel
theorem dX10_byGreatest_24 : decode cX10_byGreatest 24 = .ok (.invokevirtual 388, 3) := by decide +kernel
theorem dX10_byGreatest_27 : decode cX10_byGreatest 27 = .ok (.iload_n 3, 1) := by decide +kernel
theorem dX10_byGreatest_28 : decode cX10_byGreatest 28 = .ok (.if_icmp .gt 16, 3) := by decide +kernel
theorem dX10_byGreatest_31 : decode cX10_byGreatest 31 = .ok (.iload 5, 2) := by decide +kernel
theorem dX10_byGreatest_33 : decode cX10_byGreatest 33 = .ok (.aload_n 0, 1) := by decide +kernel
theorem dX10_byGreatest_34 : decode cX10_byGreatest 34 = .ok (.iload 6, 2) := by decide +kernel
theorem dX10_byGreatest_36 : decode cX10_byGreatest 36 = .ok (.invokevirtual 388, 3) := by decide +kernel
theorem dX10_byGreatest_39 : decode cX10_byGreatest 39 = .ok (.invokestatic 376, 3) := by decide +kernel
theorem dX10_byGreatest_42 : decode cX10_byGreatest 42 = .ok (.istore 5, 2) := by decide +kernel
theorem dX10_byGreatest_44 : decode cX10_byGreatest 44 = .ok (.iinc 6 1, 3) := by decide +kernel
theorem dX10_byGreatest_47 : decode cX10_byGreatest 47 = .ok (.goto (-32), 3) := by decide +kernel
theorem dX10_byGreatest_50 : decode cX10_byGreatest 50 = .ok (.iload 5, 2) := by decide +kernel
theorem dX10_byGreatest_52 : decode cX10_byGreatest 52 = .ok (.ifCond .ne 6, 3) := by decide +kernel
theorem dX10_byGreatest_55 : decode cX10_byGreatest 55 = .ok (.bipush (-2), 2) := by decide +kernel
theorem dX10_byGreatest_57 : decode cX10_byGreatest 57 = .ok (.ireturn, 1) := by decide +kernel
theorem dX10_byGreatest_58 : decode cX10_byGreatest 58 = .ok (.iload_n 3, 1) := by decide +kernel
theorem dX10_byGreatest_59 : decode cX10_byGreatest 59 = .ok (.iload 5, 2) := by decide +kernel
theorem dX10_byGreatest_61 : decode cX10_byGreatest 61 = .ok (.isub, 1) := by decide +kernel
theorem dX10_byGreatest_62 : decode cX10_byGreatest 62 = .ok (.istore_n 3, 1) := by decide +kernel
theorem dX10_byGreatest_63 : decode cX10_byGreatest 63 = .ok (.iload 4, 2) := by decide +kernel
theorem dX10_byGreatest_65 : decode cX10_byGreatest 65 = .ok (.iconst 1, 1) := by decide +kernel
theorem dX10_byGreatest_66 : decode cX10_byGreatest 66 = .ok (.iadd, 1) := by decide +kernel
theorem dX10_byGreatest_67 : decode cX10_byGreatest 67 = .ok (.istore 4, 2) := by decide +kernel
theorem dX10_byGreatest_69 : decode cX10_byGreatest 69 = .ok (.goto (-64), 3) := by decide +kernel
theorem dX10_byGreatest_72 : decode cX10_byGreatest 72 = .ok (.iload 4, 2) := by decide +kernel
theorem dX10_byGreatest_74 : decode cX10_byGreatest 74 = .ok (.ireturn, 1) := by decide +kernel
theorem dX10_coins_0 : decode cX10_coins 0 = .ok (.iload_n 1, 1) := by decide +kernel
theorem dX10_coins_1 : decode cX10_coins 1 = .ok (.iconst 1, 1) := by decide +kernel
theorem dX10_coins_2 : decode cX10_coins 2 = .ok (.bipush 6, 2) := by decide +kernel
theorem dX10_coins_4 : decode cX10_coins 4 = .ok (.invokestatic 134, 3) := by decide +kernel
theorem dX10_coins_7 : decode cX10_coins 7 = .ok (.ifCond .eq 31, 3) := by decide +kernel
theorem dX10_coins_10 : decode cX10_coins 10 = .ok (.iload_n 2, 1) := by decide +kernel
theorem dX10_coins_11 : decode cX10_coins 11 = .ok (.iconst 0, 1) := by decide +kernel
theorem dX10_coins_12 : decode cX10_coins 12 = .ok (.sipush 999, 3) := by decide +kernel
theorem dX10_coins_15 : decode cX10_coins 15 = .ok (.invokestatic 134, 3) := by decide +kernel
theorem dX10_coins_18 : decode cX10_coins 18 = .ok (.ifCond .eq 20, 3) := by decide +kernel
theorem dX10_coins_21 : decode cX10_coins 21 = .ok (.iload_n 3, 1) := by decide +kernel
theorem dX10_coins_22 : decode cX10_coins 22 = .ok (.iconst 0, 1) := by decide +kernel
theorem dX10_coins_23 : decode cX10_coins 23 = .ok (.iconst 2, 1) := by decide +kernel
theorem dX10_coins_24 : decode cX10_coins 24 = .ok (.invokestatic 134, 3) := by decide +kernel
theorem dX10_coins_27 : decode cX10_coins 27 = .ok (.ifCond .eq 11, 3) := by decide +kernel
theorem dX10_coins_30 : decode cX10_coins 30 = .ok (.iload_n 1, 1) := by decide +kernel
theorem dX10_coins_31 : decode cX10_coins 31 = .ok (.aload_n 0, 1) := by decide +kernel
theorem dX10_coins_32 : decode cX10_coins 32 = .ok (.getfield 150, 3) := by decide +kernel
theorem dX10_coins_35 : decode cX10_coins 35 = .ok (.if_icmp .le 5, 3) := by decide +kernel
theorem dX10_coins_38 : decode cX10_coins 38 = .ok (.iconst (-1), 1) := by decide +kernel
theorem dX10_coins_39 : decode cX10_coins 39 = .ok (.ireturn, 1) := by decide +kernel
theorem dX10_coins_40 : decode cX10_coins 40 = .ok (.aload_n 0, 1) := by decide +kernel
theorem dX10_coins_41 : decode cX10_coins 41 = .ok (.iconst 0, 1) := by decide +kernel
theorem dX10_coins_42 : decode cX10_coins 42 = .ok (.putfield 150, 3) := by decide +kernel
theorem dX10_coins_45 : decode cX10_coins 45 = .ok (.iconst 0, 1) := by decide +kernel
theorem dX10_coins_46 : decode cX10_coins 46 = .ok (.istore 4, 2) := by decide +kernel
theorem dX10_coins_48 : decode cX10_coins 48 = .ok (.iload 4, 2) := by decide +kernel
theorem dX10_coins_50 : decode cX10_coins 50 = .ok (.iload_n 1, 1) := by decide +kernel
theorem dX10_coins_51 : decode cX10_coins 51 = .ok (.if_icmp .ge 21, 3) := by decide +kernel
theorem dX10_coins_54 : decode cX10_coins 54 = .ok (.aload_n 0, 1) := by decide +kernel
theorem dX10_coins_55 : decode cX10_coins 55 = .ok (.iload 4, 2) := by decide +kernel
theorem dX10_coins_57 : decode cX10_coins 57 = .ok (.invokevirtual 388, 3) := by decide +kernel
theorem dX10_coins_60 : decode cX10_coins 60 = .ok (.ifCond .ne 6, 3) := by decide +kernel
theorem dX10_coins_63 : decode cX10_coins 63 = .ok (.bipush (-3), 2) := by decide +kernel
theorem dX10_coins_65 : decode cX10_coins 65 = .ok (.ireturn, 1) := by decide +kernel
theorem dX10_coins_66 : decode cX10_coins 66 = .ok (.iinc 4 1, 3) := by decide +kernel
theorem dX10_coins_69 : decode cX10_coins 69 = .ok (.goto (-21), 3) := by decide +kernel
theorem dX10_coins_72 : decode cX10_coins 72 = .ok (.iload_n 3, 1) := by decide +kernel
theorem dX10_coins_73 : decode cX10_coins 73 = .ok (.iconst 2, 1) := by decide +kernel
theorem dX10_coins_74 : decode cX10_coins 74 = .ok (.if_icmp .ne 10, 3) := by decide +kernel
theorem dX10_coins_77 : decode cX10_coins 77 = .ok (.aload_n 0, 1) := by decide +kernel
theorem dX10_coins_78 : decode cX10_coins 78 = .ok (.iload_n 1, 1) := by decide +kernel
theorem dX10_coins_79 : decode cX10_coins 79 = .ok (.iload_n 2, 1) := by decide +kernel
theorem dX10_coins_80 : decode cX10_coins 80 = .ok (.invokevirtual 410, 3) := by decide +kernel
theorem dX10_coins_83 : decode cX10_coins 83 = .ok (.ireturn, 1) := by decide +kernel
theorem dX10_coins_84 : decode cX10_coins 84 = .ok (.aload_n 0, 1) := by decide +kernel
theorem dX10_coins_85 : decode cX10_coins 85 = .ok (.iload_n 1, 1) := by decide +kernel
theorem dX10_coins_86 : decode cX10_coins 86 = .ok (.iload_n 2, 1) := by decide +kernel
theorem dX10_coins_87 : decode cX10_coins 87 = .ok (.invokevirtual 413, 3) := by decide +kernel
theorem dX10_coins_90 : decode cX10_coins 90 = .ok (.iload_n 3, 1) := by decide +kernel
theorem dX10_coins_91 : decode cX10_coins 91 = .ok (.iconst 1, 1) := by decide +kernel
theorem dX10_coins_92 : decode cX10_coins 92 = .ok (.if_icmp .ne 10, 3) := by decide +kernel
theorem dX10_coins_95 : decode cX10_coins 95 = .ok (.aload_n 0, 1) := by decide +kernel
theorem dX10_coins_96 : decode cX10_coins 96 = .ok (.getfield 131, 3) := by decide +kernel
theorem dX10_coins_99 : decode cX10_coins 99 = .ok (.iload_n 2, 1) := by decide +kernel
theorem dX10_coins_100 : decode cX10_coins 100 = .ok (.iaload, 1) := by decide +kernel
theorem dX10_coins_101 : decode cX10_coins 101 = .ok (.ireturn, 1) := by decide +kernel
theorem dX10_coins_102 : decode cX10_coins 102 = .ok (.aload_n 0, 1) := by decide +kernel
theorem dX10_coins_103 : decode cX10_coins 103 = .ok (.getfield 128, 3) := by decide +kernel
theorem dX10_coins_106 : decode cX10_coins 106 = .ok (.iload_n 2, 1) := by decide +kernel
theorem dX10_coins_107 : decode cX10_coins 107 = .ok (.iaload, 1) := by decide +kernel
theorem dX10_coins_108 : decode cX10_coins 108 = .ok (.ldc_w 339, 3) := by decide +kernel
theorem dX10_coins_111 : decode cX10_coins 111 = .ok (.if_icmp .lt 8, 3) := by decide +kernel
theorem dX10_coins_114 : decode cX10_coins 114 = .ok (.bipush (-2), 2) := by decide +kernel
theorem dX10_coins_116 : decode cX10_coins 116 = .ok (.goto 9, 3) := by decide +kernel
theorem dX10_coins_119 : decode cX10_coins 119 = .ok (.aload_n 0, 1) := by decide +kernel
theorem dX10_coins_120 : decode cX10_coins 120 = .ok (.getfield 128, 3) := by decide +kernel
theorem dX10_coins_123 : decode cX10_coins 123 = .ok (.iload_n 2, 1) := by decide +kernel
theorem dX10_coins_124 : decode cX10_coins 124 = .ok (.iaload, 1) := by decide +kernel
theorem dX10_coins_125 : decode cX10_coins 125 = .ok (.ireturn, 1) := by decide +kernel
theorem dX10_lent_0 : decode cX10_lent 0 = .ok (.aload_n 0, 1) := by decide +kernel
theorem dX10_lent_1 : decode cX10_lent 1 = .ok (.iload_n 1, 1) := by decide +kernel
theorem dX10_lent_2 : decode cX10_lent 2 = .ok (.invokevirtual 264, 3) := by decide +kernel
theorem dX10_lent_5 : decode cX10_lent 5 = .ok (.ifCond .eq 23, 3) := by decide +kernel
theorem dX10_lent_8 : decode cX10_lent 8 = .ok (.iload_n 2, 1) := by decide +kernel
theorem dX10_lent_9 : decode cX10_lent 9 = .ok (.iconst 1, 1) := by decide +kernel
theorem dX10_lent_10 : decode cX10_lent 10 = .ok (.bipush 60, 2) := by decide +kernel
theorem dX10_lent_12 : decode cX10_lent 12 = .ok (.invokestatic 134, 3) := by decide +kernel
theorem dX10_lent_15 : decode cX10_lent 15 = .ok (.ifCond .eq 13, 3) := by decide +kernel
theorem dX10_lent_18 : decode cX10_lent 18 = .ok (.iload_n 3, 1) := by decide +kernel
theorem dX10_lent_19 : decode cX10_lent 19 = .ok (.iconst 0, 1) := by decide +kernel
theorem dX10_lent_20 : decode cX10_lent 20 = .ok (.bipush 10, 2) := by decide +kernel
theorem dX10_lent_22 : decode cX10_lent 22 = .ok (.invokestatic 134, 3) := by decide +kernel
theorem dX10_lent_25 : decode cX10_lent 25 = .ok (.ifCond .ne 5, 3) := by decide +kernel
theorem dX10_lent_28 : decode cX10_lent 28 = .ok (.iconst (-1), 1) := by decide +kernel
theorem dX10_lent_29 : decode cX10_lent 29 = .ok (.ireturn, 1) := by decide +kernel
theorem dX10_lent_30 : decode cX10_lent 30 = .ok (.aload_n 0, 1) := by decide +kernel
theorem dX10_lent_31 : decode cX10_lent 31 = .ok (.iload_n 2, 1) := by decide +kernel
theorem dX10_lent_32 : decode cX10_lent 32 = .ok (.bipush 10, 2) := by decide +kernel
theorem dX10_lent_34 : decode cX10_lent 34 = .ok (.iload_n 1, 1) := by decide +kernel
theorem dX10_lent_35 : decode cX10_lent 35 = .ok (.iadd, 1) := by decide +kernel
theorem dX10_lent_36 : decode cX10_lent 36 = .ok (.invokevirtual 416, 3) := by decide +kernel
theorem dX10_lent_39 : decode cX10_lent 39 = .ok (.iconst 2, 1) := by decide +kernel
theorem dX10_lent_40 : decode cX10_lent 40 = .ok (.imul, 1) := by decide +kernel
theorem dX10_lent_41 : decode cX10_lent 41 = .ok (.iconst 3, 1) := by decide +kernel
theorem dX10_lent_42 : decode cX10_lent 42 = .ok (.idiv, 1) := by decide +kernel
theorem dX10_lent_43 : decode cX10_lent 43 = .ok (.istore 4, 2) := by decide +kernel
theorem dX10_lent_45 : decode cX10_lent 45 = .ok (.iload 4, 2) := by decide +kernel
theorem dX10_lent_47 : decode cX10_lent 47 = .ok (.i2l, 1) := by decide +kernel
theorem dX10_lent_48 : decode cX10_lent 48 = .ok (.iload_n 3, 1) := by decide +kernel
theorem dX10_lent_49 : decode cX10_lent 49 = .ok (.i2l, 1) := by decide +kernel
theorem dX10_lent_50 : decode cX10_lent 50 = .ok (.lmul, 1) := by decide +kernel
theorem dX10_lent_51 : decode cX10_lent 51 = .ok (.iload_n 2, 1) := by decide +kernel
theorem dX10_lent_52 : decode cX10_lent 52 = .ok (.i2l, 1) := by decide +kernel
theorem dX10_lent_53 : decode cX10_lent 53 = .ok (.lmul, 1) := by decide +kernel
theorem dX10_lent_54 : decode cX10_lent 54 = .ok (.ldc2_w 419, 3) := by decide +kernel
theorem dX10_lent_57 : decode cX10_lent 57 = .ok (.ladd, 1) := by decide +kernel
theorem dX10_lent_58 : decode cX10_lent 58 = .ok (.ldc2_w 421, 3) := by decide +kernel
theorem dX10_lent_61 : decode cX10_lent 61 = .ok (.ldiv, 1) := by decide +kernel
theorem dX10_lent_62 : decode cX10_lent 62 = .ok (.lstore 5, 2) := by decide +kernel
theorem dX10_lent_64 : decode cX10_lent 64 = .ok (.lload 5, 2) := by decide +kernel
theorem dX10_lent_66 : decode cX10_lent 66 = .ok (.iload 4, 2) := by decide +kernel
theorem dX10_lent_68 : decode cX10_lent 68 = .ok (.i2l, 1) := by decide +kernel
theorem dX10_lent_69 : decode cX10_lent 69 = .ok (.lcmp, 1) := by decide +kernel
theorem dX10_lent_70 : decode cX10_lent 70 = .ok (.ifCond .le 7, 3) := by decide +kernel
theorem dX10_lent_73 : decode cX10_lent 73 = .ok (.iconst 0, 1) := by decide +kernel
theorem dX10_lent_74 : decode cX10_lent 74 = .ok (.goto 9, 3) := by decide +kernel
theorem dX10_lent_77 : decode cX10_lent 77 = .ok (.iload 4, 2) := by decide +kernel
theorem dX10_lent_79 : decode cX10_lent 79 = .ok (.lload 5, 2) := by decide +kernel
theorem dX10_lent_81 : decode cX10_lent 81 = .ok (.l2i, 1) := by decide +kernel
theorem dX10_lent_82 : decode cX10_lent 82 = .ok (.isub, 1) := by decide +kernel
theorem dX10_lent_83 : decode cX10_lent 83 = .ok (.ireturn, 1) := by decide +kernel
theorem dX10_seed_0 : decode cX10_seed 0 = .ok (.iload_n 1, 1) := by decide +kernel
theorem dX10_seed_1 : decode cX10_seed 1 = .ok (.iconst 0, 1) := by decide +kernel
theorem dX10_seed_2 : decode cX10_seed 2 = .ok (.ldc_w 423, 3) := by decide +kernel
theorem dX10_seed_5 : decode cX10_seed 5 = .ok (.invokestatic 134, 3) := by decide +kernel
theorem dX10_seed_8 : decode cX10_seed 8 = .ok (.ifCond .ne 5, 3) := by decide +kernel
theorem dX10_seed_11 : decode cX10_seed 11 = .ok (.iconst 0, 1) := by decide +kernel
theorem dX10_seed_12 : decode cX10_seed 12 = .ok (.ireturn, 1) := by decide +kernel
theorem dX10_seed_13 : decode cX10_seed 13 = .ok (.aload_n 0, 1) := by decide +kernel
theorem dX10_seed_14 : decode cX10_seed 14 = .ok (.getfield 7, 3) := by decide +kernel
theorem dX10_seed_17 : decode cX10_seed 17 = .ok (.sipush 150, 3) := by decide +kernel
theorem dX10_seed_20 : decode cX10_seed 20 = .ok (.iload_n 1, 1) := by decide +kernel
theorem dX10_seed_21 : decode cX10_seed 21 = .ok (.iastore, 1) := by decide +kernel
theorem dX10_seed_22 : decode cX10_seed 22 = .ok (.iconst 1, 1) := by decide +kernel
theorem dX10_seed_23 : decode cX10_seed 23 = .ok (.ireturn, 1) := by decide +kernel
theorem dX10_keep_0 : decode cX10_keep 0 = .ok (.aload_n 0, 1) := by decide +kernel
theorem dX10_keep_1 : decode cX10_keep 1 = .ok (.iconst 1, 1) := by decide +kernel
theorem dX10_keep_2 : decode cX10_keep 2 = .ok (.putfield 424, 3) := by decide +kernel
theorem dX10_keep_5 : decode cX10_keep 5 = .ok (.aload_n 0, 1) := by decide +kernel
theorem dX10_keep_6 : decode cX10_keep 6 = .ok (.getfield 7, 3) := by decide +kernel
theorem dX10_keep_9 : decode cX10_keep 9 = .ok (.aload_n 0, 1) := by decide +kernel
theorem dX10_keep_10 : decode cX10_keep 10 = .ok (.getfield 16, 3) := by decide +kernel
theorem dX10_keep_13 : decode cX10_keep 13 = .ok (.invokestatic 332, 3) := by decide +kernel
theorem dX10_keep_16 : decode cX10_keep 16 = .ok (.aload_n 0, 1) := by decide +kernel
theorem dX10_keep_17 : decode cX10_keep 17 = .ok (.getfield 7, 3) := by decide +kernel
theorem dX10_keep_20 : decode cX10_keep 20 = .ok (.sipush 147, 3) := by decide +kernel
theorem dX10_keep_23 : decode cX10_keep 23 = .ok (.iaload, 1) := by decide +kernel
theorem dX10_keep_24 : decode cX10_keep 24 = .ok (.ireturn, 1) := by decide +kernel
theorem dX10_undo_0 : decode cX10_undo 0 = .ok (.aload_n 0, 1) := by decide +kernel
theorem dX10_undo_1 : decode cX10_undo 1 = .ok (.getfield 424, 3) := by decide +kernel
theorem dX10_undo_4 : decode cX10_undo 4 = .ok (.ifCond .ne 5, 3) := by decide +kernel
theorem dX10_undo_7 : decode cX10_undo 7 = .ok (.iconst 0, 1) := by decide +kernel
theorem dX10_undo_8 : decode cX10_undo 8 = .ok (.ireturn, 1) := by decide +kernel
theorem dX10_undo_9 : decode cX10_undo 9 = .ok (.aload_n 0, 1) := by decide +kernel
theorem dX10_undo_10 : decode cX10_undo 10 = .ok (.getfield 7, 3) := by decide +kernel
theorem dX10_undo_13 : decode cX10_undo 13 = .ok (.sipush 145, 3) := by decide +kernel
theorem dX10_undo_16 : decode cX10_undo 16 = .ok (.iaload, 1) := by decide +kernel
theorem dX10_undo_17 : decode cX10_undo 17 = .ok (.istore_n 1, 1) := by decide +kernel
theorem dX10_undo_18 : decode cX10_undo 18 = .ok (.aload_n 0, 1) := by decide +kernel
theorem dX10_undo_19 : decode cX10_undo 19 = .ok (.getfield 16, 3) := by decide +kernel
theorem dX10_undo_22 : decode cX10_undo 22 = .ok (.aload_n 0, 1) := by decide +kernel
theorem dX10_undo_23 : decode cX10_undo 23 = .ok (.getfield 7, 3) := by decide +kernel
theorem dX10_undo_26 : decode cX10_undo 26 = .ok (.invokestatic 332, 3) := by decide +kernel
theorem dX10_undo_29 : decode cX10_undo 29 = .ok (.aload_n 0, 1) := by decide +kernel
theorem dX10_undo_30 : decode cX10_undo 30 = .ok (.getfield 7, 3) := by decide +kernel
theorem dX10_undo_33 : decode cX10_undo 33 = .ok (.sipush 145, 3) := by decide +kernel
theorem dX10_undo_36 : decode cX10_undo 36 = .ok (.iload_n 1, 1) := by decide +kernel
theorem dX10_undo_37 : decode cX10_undo 37 = .ok (.iastore, 1) := by decide +kernel
theorem dX10_undo_38 : decode cX10_undo 38 = .ok (.iconst 1, 1) := by decide +kernel
theorem dX10_undo_39 : decode cX10_undo 39 = .ok (.ireturn, 1) := by decide +kernel
theorem dX10_check_0 : decode cX10_check 0 = .ok (.iload_n 1, 1) := by decide +kernel
theorem dX10_check_1 : decode cX10_check 1 = .ok (.iconst 0, 1) := by decide +kernel
theorem dX10_check_2 : decode cX10_check 2 = .ok (.bipush 12, 2) := by decide +kernel
theorem dX10_check_4 : decode cX10_check 4 = .ok (.invokestatic 134, 3) := by decide +kernel
theorem dX10_check_7 : decode cX10_check 7 = .ok (.ifCond .eq 11, 3) := by decide +kernel
theorem dX10_check_10 : decode cX10_check 10 = .ok (.iload_n 1, 1) := by decide +kernel
theorem dX10_check_11 : decode cX10_check 11 = .ok (.aload_n 0, 1) := by decide +kernel
theorem dX10_check_12 : decode cX10_check 12 = .ok (.getfield 150, 3) := by decide +kernel
theorem dX10_check_15 : decode cX10_check 15 = .ok (.if_icmp .le 6, 3) := by decide +kernel
theorem dX10_check_18 : decode cX10_check 18 = .ok (.bipush (-2), 2) := by decide +kernel
theorem dX10_check_20 : decode cX10_check 20 = .ok (.ireturn, 1) := by decide +kernel
theorem dX10_check_21 : decode cX10_check 21 = .ok (.aload_n 0, 1) := by decide +kernel
theorem dX10_check_22 : decode cX10_check 22 = .ok (.iconst 0, 1) := by decide +kernel
theorem dX10_check_23 : decode cX10_check 23 = .ok (.putfield 150, 3) := by decide +kernel
theorem dX10_check_26 : decode cX10_check 26 = .ok (.iconst 0, 1) := by decide +kernel
theorem dX10_check_27 : decode cX10_check 27 = .ok (.istore_n 2, 1) := by decide +kernel
theorem dX10_check_28 : decode cX10_check 28 = .ok (.iload_n 2, 1) := by decide +kernel
theorem dX10_check_29 : decode cX10_check 29 = .ok (.iload_n 1, 1) := by decide +kernel
theorem dX10_check_30 : decode cX10_check 30 = .ok (.if_icmp .ge 39, 3) := by decide +kernel
theorem dX10_check_33 : decode cX10_check 33 = .ok (.aload_n 0, 1) := by decide +kernel
theorem dX10_check_34 : decode cX10_check 34 = .ok (.iload_n 2, 1) := by decide +kernel
theorem dX10_check_35 : decode cX10_check 35 = .ok (.invokevirtual 388, 3) := by decide +kernel
theorem dX10_check_38 : decode cX10_check 38 = .ok (.aload_n 0, 1) := by decide +kernel
theorem dX10_check_39 : decode cX10_check 39 = .ok (.iload_n 2, 1) := by decide +kernel
theorem dX10_check_40 : decode cX10_check 40 = .ok (.invokevirtual 146, 3) := by decide +kernel
theorem dX10_check_43 : decode cX10_check 43 = .ok (.ifCond .eq 14, 3) := by decide +kernel
theorem dX10_check_46 : decode cX10_check 46 = .ok (.aload_n 0, 1) := by decide +kernel
theorem dX10_check_47 : decode cX10_check 47 = .ok (.getfield 7, 3) := by decide +kernel
theorem dX10_check_50 : decode cX10_check 50 = .ok (.iconst 0, 1) := by decide +kernel
theorem dX10_check_51 : decode cX10_check 51 = .ok (.iload_n 2, 1) := by decide +kernel
theorem dX10_check_52 : decode cX10_check 52 = .ok (.iadd, 1) := by decide +kernel
theorem dX10_check_53 : decode cX10_check 53 = .ok (.iaload, 1) := by decide +kernel
theorem dX10_check_54 : decode cX10_check 54 = .ok (.goto 4, 3) := by decide +kernel
theorem dX10_check_57 : decode cX10_check 57 = .ok (.iconst 0, 1) := by decide +kernel
theorem dX10_check_58 : decode cX10_check 58 = .ok (.if_icmp .eq 5, 3) := by decide +kernel
theorem dX10_check_61 : decode cX10_check 61 = .ok (.iload_n 2, 1) := by decide +kernel
theorem dX10_check_62 : decode cX10_check 62 = .ok (.ireturn, 1) := by decide +kernel
theorem dX10_check_63 : decode cX10_check 63 = .ok (.iinc 2 1, 3) := by decide +kernel
theorem dX10_check_66 : decode cX10_check 66 = .ok (.goto (-38), 3) := by decide +kernel
theorem dX10_check_69 : decode cX10_check 69 = .ok (.iconst (-1), 1) := by decide +kernel
theorem dX10_check_70 : decode cX10_check 70 = .ok (.ireturn, 1) := by decide +kernel
theorem dX10_count_0 : decode cX10_count 0 = .ok (.iconst 0, 1) := by decide +kernel
theorem dX10_count_1 : decode cX10_count 1 = .ok (.istore_n 2, 1) := by decide +kernel
theorem dX10_count_2 : decode cX10_count 2 = .ok (.iload_n 1, 1) := by decide +kernel
theorem dX10_count_3 : decode cX10_count 3 = .ok (.tableswitch 161 0 9 #[53, 62, 71, 80, 89, 98, 107, 112, 117, 126], 53) := by decide +kernel
theorem dX10_count_56 : decode cX10_count 56 = .ok (.aload_n 0, 1) := by decide +kernel
theorem dX10_count_57 : decode cX10_count 57 = .ok (.getfield 7, 3) := by decide +kernel
theorem dX10_count_60 : decode cX10_count 60 = .ok (.sipush 147, 3) := by decide +kernel
theorem dX10_count_63 : decode cX10_count 63 = .ok (.iaload, 1) := by decide +kernel
theorem dX10_count_64 : decode cX10_count 64 = .ok (.ireturn, 1) := by decide +kernel
theorem dX10_count_65 : decode cX10_count 65 = .ok (.aload_n 0, 1) := by decide +kernel
theorem dX10_count_66 : decode cX10_count 66 = .ok (.getfield 7, 3) := by decide +kernel
theorem dX10_count_69 : decode cX10_count 69 = .ok (.sipush 148, 3) := by decide +kernel
theorem dX10_count_72 : decode cX10_count 72 = .ok (.iaload, 1) := by decide +kernel
theorem dX10_count_73 : decode cX10_count 73 = .ok (.ireturn, 1) := by decide +kernel
theorem dX10_count_74 : decode cX10_count 74 = .ok (.aload_n 0, 1) := by decide +kernel
theorem dX10_count_75 : decode cX10_count 75 = .ok (.getfield 7, 3) := by decide +kernel
theorem dX10_count_78 : decode cX10_count 78 = .ok (.sipush 149, 3) := by decide +kernel
theorem dX10_count_81 : decode cX10_count 81 = .ok (.iaload, 1) := by decide +kernel
theorem dX10_count_82 : decode cX10_count 82 = .ok (.ireturn, 1) := by decide +kernel
theorem dX10_count_83 : decode cX10_count 83 = .ok (.aload_n 0, 1) := by decide +kernel
theorem dX10_count_84 : decode cX10_count 84 = .ok (.getfield 7, 3) := by decide +kernel
theorem dX10_count_87 : decode cX10_count 87 = .ok (.sipush 145, 3) := by decide +kernel
theorem dX10_count_90 : decode cX10_count 90 = .ok (.iaload, 1) := by decide +kernel
theorem dX10_count_91 : decode cX10_count 91 = .ok (.ireturn, 1) := by decide +kernel
theorem dX10_count_92 : decode cX10_count 92 = .ok (.aload_n 0, 1) := by decide +kernel
theorem dX10_count_93 : decode cX10_count 93 = .ok (.getfield 7, 3) := by decide +kernel
theorem dX10_count_96 : decode cX10_count 96 = .ok (.sipush 146, 3) := by decide +kernel
theorem dX10_count_99 : decode cX10_count 99 = .ok (.iaload, 1) := by decide +kernel
theorem dX10_count_100 : decode cX10_count 100 = .ok (.ireturn, 1) := by decide +kernel
theorem dX10_count_101 : decode cX10_count 101 = .ok (.aload_n 0, 1) := by decide +kernel
theorem dX10_count_102 : decode cX10_count 102 = .ok (.getfield 7, 3) := by decide +kernel
theorem dX10_count_105 : decode cX10_count 105 = .ok (.sipush 144, 3) := by decide +kernel
theorem dX10_count_108 : decode cX10_count 108 = .ok (.iaload, 1) := by decide +kernel
theorem dX10_count_109 : decode cX10_count 109 = .ok (.ireturn, 1) := by decide +kernel
theorem dX10_count_110 : decode cX10_count 110 = .ok (.aload_n 0, 1) := by decide +kernel
theorem dX10_count_111 : decode cX10_count 111 = .ok (.getfield 251, 3) := by decide +kernel
theorem dX10_count_114 : decode cX10_count 114 = .ok (.ireturn, 1) := by decide +kernel
theorem dX10_count_115 : decode cX10_count 115 = .ok (.aload_n 0, 1) := by decide +kernel
theorem dX10_count_116 : decode cX10_count 116 = .ok (.getfield 150, 3) := by decide +kernel
theorem dX10_count_119 : decode cX10_count 119 = .ok (.ireturn, 1) := by decide +kernel
theorem dX10_count_120 : decode cX10_count 120 = .ok (.aload_n 0, 1) := by decide +kernel
theorem dX10_count_121 : decode cX10_count 121 = .ok (.getfield 7, 3) := by decide +kernel
theorem dX10_count_124 : decode cX10_count 124 = .ok (.sipush 150, 3) := by decide +kernel
theorem dX10_count_127 : decode cX10_count 127 = .ok (.iaload, 1) := by decide +kernel
theorem dX10_count_128 : decode cX10_count 128 = .ok (.ireturn, 1) := by decide +kernel
theorem dX10_count_129 : decode cX10_count 129 = .ok (.iconst 0, 1) := by decide +kernel
theorem dX10_count_130 : decode cX10_count 130 = .ok (.istore_n 3, 1) := by decide +kernel
theorem dX10_count_131 : decode cX10_count 131 = .ok (.iload_n 3, 1) := by decide +kernel
theorem dX10_count_132 : decode cX10_count 132 = .ok (.bipush 6, 2) := by decide +kernel
theorem dX10_count_134 : decode cX10_count 134 = .ok (.if_icmp .ge 28, 3) := by decide +kernel
theorem dX10_count_137 : decode cX10_count 137 = .ok (.iload_n 2, 1) := by decide +kernel
theorem dX10_count_138 : decode cX10_count 138 = .ok (.aload_n 0, 1) := by decide +kernel
theorem dX10_count_139 : decode cX10_count 139 = .ok (.getfield 110, 3) := by decide +kernel
theorem dX10_count_142 : decode cX10_count 142 = .ok (.iload_n 3, 1) := by decide +kernel
theorem dX10_count_143 : decode cX10_count 143 = .ok (.iaload, 1) := by decide +kernel
theorem dX10_count_144 : decode cX10_count 144 = .ok (.ifCond .le 9, 3) := by decide +kernel
theorem dX10_count_147 : decode cX10_count 147 = .ok (.iconst 1, 1) := by decide +kernel
theorem dX10_count_148 : decode cX10_count 148 = .ok (.iload_n 3, 1) := by decide +kernel
theorem dX10_count_149 : decode cX10_count 149 = .ok (.ishl, 1) := by decide +kernel
theorem dX10_count_150 : decode cX10_count 150 = .ok (.goto 4, 3) := by decide +kernel
theorem dX10_count_153 : decode cX10_count 153 = .ok (.iconst 0, 1) := by decide +kernel
theorem dX10_count_154 : decode cX10_count 154 = .ok (.ior, 1) := by decide +kernel
theorem dX10_count_155 : decode cX10_count 155 = .ok (.istore_n 2, 1) := by decide +kernel
theorem dX10_count_156 : decode cX10_count 156 = .ok (.iinc 3 1, 3) := by decide +kernel
theorem dX10_count_159 : decode cX10_count 159 = .ok (.goto (-28), 3) := by decide +kernel
theorem dX10_count_162 : decode cX10_count 162 = .ok (.iload_n 2, 1) := by decide +kernel
theorem dX10_count_163 : decode cX10_count 163 = .ok (.ireturn, 1) := by decide +kernel
theorem dX10_count_164 : decode cX10_count 164 = .ok (.iload_n 1, 1) := by decide +kernel
theorem dX10_count_165 : decode cX10_count 165 = .ok (.bipush 10, 2) := by decide +kernel
theorem dX10_count_167 : decode cX10_count 167 = .ok (.bipush 15, 2) := by decide +kernel
theorem dX10_count_169 : decode cX10_count 169 = .ok (.invokestatic 134, 3) := by decide +kernel
theorem dX10_count_172 : decode cX10_count 172 = .ok (.ifCond .eq 27, 3) := by decide +kernel
theorem dX10_count_175 : decode cX10_count 175 = .ok (.aload_n 0, 1) := by decide +kernel
theorem dX10_count_176 : decode cX10_count 176 = .ok (.getfield 110, 3) := by decide +kernel
theorem dX10_count_179 : decode cX10_count 179 = .ok (.iload_n 1, 1) := by decide +kernel
