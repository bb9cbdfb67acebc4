theorem dX6_readSum_59 : decode cX6_readSum 59 = .ok (.invokevirtual 48, 3) := by decide +kernel
theorem dX6_readSum_62 : decode cX6_readSum 62 = .ok (.invokestatic 54, 3) := by decide +kernel
theorem dX6_readSum_65 : decode cX6_readSum 65 = .ok (.ifCond .eq 43, 3) := by decide +kernel
theorem dX6_readSum_68 : decode cX6_readSum 68 = .ok (.aload_n 0, 1) := by decide +kernel
theorem dX6_readSum_69 : decode cX6_readSum 69 = .ok (.invokevirtual 48, 3) := by decide +kernel
theorem dX6_readSum_72 : decode cX6_readSum 72 = .ok (.istore 5, 2) := by decide +kernel
theorem dX6_readSum_74 : decode cX6_readSum 74 = .ok (.aload_n 0, 1) := by decide +kernel
theorem dX6_readSum_75 : decode cX6_readSum 75 = .ok (.dup, 1) := by decide +kernel
theorem dX6_readSum_76 : decode cX6_readSum 76 = .ok (.getfield 32, 3) := by decide +kernel
theorem dX6_readSum_79 : decode cX6_readSum 79 = .ok (.iconst 1, 1) := by decide +kernel
theorem dX6_readSum_80 : decode cX6_readSum 80 = .ok (.iadd, 1) := by decide +kernel
theorem dX6_readSum_81 : decode cX6_readSum 81 = .ok (.putfield 32, 3) := by decide +kernel
theorem dX6_readSum_84 : decode cX6_readSum 84 = .ok (.aload_n 0, 1) := by decide +kernel
theorem dX6_readSum_85 : decode cX6_readSum 85 = .ok (.iload_n 1, 1) := by decide +kernel
theorem dX6_readSum_86 : decode cX6_readSum 86 = .ok (.iconst 1, 1) := by decide +kernel
theorem dX6_readSum_87 : decode cX6_readSum 87 = .ok (.iadd, 1) := by decide +kernel
theorem dX6_readSum_88 : decode cX6_readSum 88 = .ok (.iload_n 2, 1) := by decide +kernel
theorem dX6_readSum_89 : decode cX6_readSum 89 = .ok (.invokevirtual 73, 3) := by decide +kernel
theorem dX6_readSum_92 : decode cX6_readSum 92 = .ok (.aload_n 0, 1) := by decide +kernel
theorem dX6_readSum_93 : decode cX6_readSum 93 = .ok (.getfield 18, 3) := by decide +kernel
theorem dX6_readSum_96 : decode cX6_readSum 96 = .ok (.iload 5, 2) := by decide +kernel
theorem dX6_readSum_98 : decode cX6_readSum 98 = .ok (.ineg, 1) := by decide +kernel
theorem dX6_readSum_99 : decode cX6_readSum 99 = .ok (.invokevirtual 89, 3) := by decide +kernel
theorem dX6_readSum_102 : decode cX6_readSum 102 = .ok (.iinc 4 1, 3) := by decide +kernel
theorem dX6_readSum_105 : decode cX6_readSum 105 = .ok (.goto (-63), 3) := by decide +kernel
theorem dX6_readSum_108 : decode cX6_readSum 108 = .ok (.return_, 1) := by decide +kernel
theorem dX6_readFactor_0 : decode cX6_readFactor 0 = .ok (.aload_n 0, 1) := by decide +kernel
theorem dX6_readFactor_1 : decode cX6_readFactor 1 = .ok (.invokevirtual 48, 3) := by decide +kernel
theorem dX6_readFactor_4 : decode cX6_readFactor 4 = .ok (.istore_n 2, 1) := by decide +kernel
theorem dX6_readFactor_5 : decode cX6_readFactor 5 = .ok (.ldc 101, 2) := by decide +kernel
theorem dX6_readFactor_7 : decode cX6_readFactor 7 = .ok (.iload_n 2, 1) := by decide +kernel
theorem dX6_readFactor_8 : decode cX6_readFactor 8 = .ok (.invokestatic 54, 3) := by decide +kernel
theorem dX6_readFactor_11 : decode cX6_readFactor 11 = .ok (.ifCond .eq 25, 3) := by decide +kernel
theorem dX6_readFactor_14 : decode cX6_readFactor 14 = .ok (.aload_n 0, 1) := by decide +kernel
theorem dX6_readFactor_15 : decode cX6_readFactor 15 = .ok (.dup, 1) := by decide +kernel
theorem dX6_readFactor_16 : decode cX6_readFactor 16 = .ok (.getfield 32, 3) := by decide +kernel
theorem dX6_readFactor_19 : decode cX6_readFactor 19 = .ok (.iconst 1, 1) := by decide +kernel
theorem dX6_readFactor_20 : decode cX6_readFactor 20 = .ok (.iadd, 1) := by decide +kernel
theorem dX6_readFactor_21 : decode cX6_readFactor 21 = .ok (.putfield 32, 3) := by decide +kernel
theorem dX6_readFactor_24 : decode cX6_readFactor 24 = .ok (.aload_n 0, 1) := by decide +kernel
theorem dX6_readFactor_25 : decode cX6_readFactor 25 = .ok (.getfield 18, 3) := by decide +kernel
theorem dX6_readFactor_28 : decode cX6_readFactor 28 = .ok (.iload_n 2, 1) := by decide +kernel
theorem dX6_readFactor_29 : decode cX6_readFactor 29 = .ok (.ineg, 1) := by decide +kernel
theorem dX6_readFactor_30 : decode cX6_readFactor 30 = .ok (.invokevirtual 89, 3) := by decide +kernel
theorem dX6_readFactor_33 : decode cX6_readFactor 33 = .ok (.goto 144, 3) := by decide +kernel
theorem dX6_readFactor_36 : decode cX6_readFactor 36 = .ok (.iload_n 2, 1) := by decide +kernel
theorem dX6_readFactor_37 : decode cX6_readFactor 37 = .ok (.bipush 91, 2) := by decide +kernel
theorem dX6_readFactor_39 : decode cX6_readFactor 39 = .ok (.if_icmp .ne 17, 3) := by decide +kernel
theorem dX6_readFactor_42 : decode cX6_readFactor 42 = .ok (.iload_n 1, 1) := by decide +kernel
theorem dX6_readFactor_43 : decode cX6_readFactor 43 = .ok (.bipush 6, 2) := by decide +kernel
theorem dX6_readFactor_45 : decode cX6_readFactor 45 = .ok (.if_icmp .lt 11, 3) := by decide +kernel
theorem dX6_readFactor_48 : decode cX6_readFactor 48 = .ok (.aload_n 0, 1) := by decide +kernel
theorem dX6_readFactor_49 : decode cX6_readFactor 49 = .ok (.iconst 5, 1) := by decide +kernel
theorem dX6_readFactor_50 : decode cX6_readFactor 50 = .ok (.invokevirtual 58, 3) := by decide +kernel
theorem dX6_readFactor_53 : decode cX6_readFactor 53 = .ok (.goto 124, 3) := by decide +kernel
theorem dX6_readFactor_56 : decode cX6_readFactor 56 = .ok (.iload_n 2, 1) := by decide +kernel
theorem dX6_readFactor_57 : decode cX6_readFactor 57 = .ok (.bipush 91, 2) := by decide +kernel
theorem dX6_readFactor_59 : decode cX6_readFactor 59 = .ok (.if_icmp .ne 30, 3) := by decide +kernel
theorem dX6_readFactor_62 : decode cX6_readFactor 62 = .ok (.aload_n 0, 1) := by decide +kernel
theorem dX6_readFactor_63 : decode cX6_readFactor 63 = .ok (.dup, 1) := by decide +kernel
theorem dX6_readFactor_64 : decode cX6_readFactor 64 = .ok (.getfield 32, 3) := by decide +kernel
theorem dX6_readFactor_67 : decode cX6_readFactor 67 = .ok (.iconst 1, 1) := by decide +kernel
theorem dX6_readFactor_68 : decode cX6_readFactor 68 = .ok (.iadd, 1) := by decide +kernel
theorem dX6_readFactor_69 : decode cX6_readFactor 69 = .ok (.putfield 32, 3) := by decide +kernel
theorem dX6_readFactor_72 : decode cX6_readFactor 72 = .ok (.aload_n 0, 1) := by decide +kernel
theorem dX6_readFactor_73 : decode cX6_readFactor 73 = .ok (.iconst 0, 1) := by decide +kernel
theorem dX6_readFactor_74 : decode cX6_readFactor 74 = .ok (.iload_n 1, 1) := by decide +kernel
theorem dX6_readFactor_75 : decode cX6_readFactor 75 = .ok (.iconst 1, 1) := by decide +kernel
theorem dX6_readFactor_76 : decode cX6_readFactor 76 = .ok (.iadd, 1) := by decide +kernel
theorem dX6_readFactor_77 : decode cX6_readFactor 77 = .ok (.invokevirtual 73, 3) := by decide +kernel
theorem dX6_readFactor_80 : decode cX6_readFactor 80 = .ok (.aload_n 0, 1) := by decide +kernel
theorem dX6_readFactor_81 : decode cX6_readFactor 81 = .ok (.bipush 93, 2) := by decide +kernel
theorem dX6_readFactor_83 : decode cX6_readFactor 83 = .ok (.invokevirtual 45, 3) := by decide +kernel
theorem dX6_readFactor_86 : decode cX6_readFactor 86 = .ok (.goto 91, 3) := by decide +kernel
theorem dX6_readFactor_89 : decode cX6_readFactor 89 = .ok (.iload_n 2, 1) := by decide +kernel
theorem dX6_readFactor_90 : decode cX6_readFactor 90 = .ok (.invokestatic 103, 3) := by decide +kernel
theorem dX6_readFactor_93 : decode cX6_readFactor 93 = .ok (.ifCond .eq 79, 3) := by decide +kernel
theorem dX6_readFactor_96 : decode cX6_readFactor 96 = .ok (.iconst 0, 1) := by decide +kernel
theorem dX6_readFactor_97 : decode cX6_readFactor 97 = .ok (.istore_n 3, 1) := by decide +kernel
theorem dX6_readFactor_98 : decode cX6_readFactor 98 = .ok (.iconst 0, 1) := by decide +kernel
theorem dX6_readFactor_99 : decode cX6_readFactor 99 = .ok (.istore 4, 2) := by decide +kernel
theorem dX6_readFactor_101 : decode cX6_readFactor 101 = .ok (.iload 4, 2) := by decide +kernel
theorem dX6_readFactor_103 : decode cX6_readFactor 103 = .ok (.iconst 5, 1) := by decide +kernel
theorem dX6_readFactor_104 : decode cX6_readFactor 104 = .ok (.if_icmp .ge 42, 3) := by decide +kernel
theorem dX6_readFactor_107 : decode cX6_readFactor 107 = .ok (.aload_n 0, 1) := by decide +kernel
theorem dX6_readFactor_108 : decode cX6_readFactor 108 = .ok (.invokevirtual 48, 3) := by decide +kernel
theorem dX6_readFactor_111 : decode cX6_readFactor 111 = .ok (.invokestatic 103, 3) := by decide +kernel
theorem dX6_readFactor_114 : decode cX6_readFactor 114 = .ok (.ifCond .eq 32, 3) := by decide +kernel
theorem dX6_readFactor_117 : decode cX6_readFactor 117 = .ok (.iload_n 3, 1) := by decide +kernel
theorem dX6_readFactor_118 : decode cX6_readFactor 118 = .ok (.bipush 10, 2) := by decide +kernel
theorem dX6_readFactor_120 : decode cX6_readFactor 120 = .ok (.imul, 1) := by decide +kernel
theorem dX6_readFactor_121 : decode cX6_readFactor 121 = .ok (.aload_n 0, 1) := by decide +kernel
theorem dX6_readFactor_122 : decode cX6_readFactor 122 = .ok (.invokevirtual 48, 3) := by decide +kernel
theorem dX6_readFactor_125 : decode cX6_readFactor 125 = .ok (.iadd, 1) := by decide +kernel
theorem dX6_readFactor_126 : decode cX6_readFactor 126 = .ok (.bipush 48, 2) := by decide +kernel
theorem dX6_readFactor_128 : decode cX6_readFactor 128 = .ok (.isub, 1) := by decide +kernel
theorem dX6_readFactor_129 : decode cX6_readFactor 129 = .ok (.istore_n 3, 1) := by decide +kernel
theorem dX6_readFactor_130 : decode cX6_readFactor 130 = .ok (.aload_n 0, 1) := by decide +kernel
theorem dX6_readFactor_131 : decode cX6_readFactor 131 = .ok (.dup, 1) := by decide +kernel
theorem dX6_readFactor_132 : decode cX6_readFactor 132 = .ok (.getfield 32, 3) := by decide +kernel
theorem dX6_readFactor_135 : decode cX6_readFactor 135 = .ok (.iconst 1, 1) := by decide +kernel
theorem dX6_readFactor_136 : decode cX6_readFactor 136 = .ok (.iadd, 1) := by decide +kernel
theorem dX6_readFactor_137 : decode cX6_readFactor 137 = .ok (.putfield 32, 3) := by decide +kernel
theorem dX6_readFactor_140 : decode cX6_readFactor 140 = .ok (.iinc 4 1, 3) := by decide +kernel
theorem dX6_readFactor_143 : decode cX6_readFactor 143 = .ok (.goto (-42), 3) := by decide +kernel
theorem dX6_readFactor_146 : decode cX6_readFactor 146 = .ok (.aload_n 0, 1) := by decide +kernel
theorem dX6_readFactor_147 : decode cX6_readFactor 147 = .ok (.getfield 18, 3) := by decide +kernel
theorem dX6_readFactor_150 : decode cX6_readFactor 150 = .ok (.iload_n 3, 1) := by decide +kernel
theorem dX6_readFactor_151 : decode cX6_readFactor 151 = .ok (.invokevirtual 89, 3) := by decide +kernel
theorem dX6_readFactor_154 : decode cX6_readFactor 154 = .ok (.aload_n 0, 1) := by decide +kernel
theorem dX6_readFactor_155 : decode cX6_readFactor 155 = .ok (.invokevirtual 48, 3) := by decide +kernel
theorem dX6_readFactor_158 : decode cX6_readFactor 158 = .ok (.invokestatic 103, 3) := by decide +kernel
theorem dX6_readFactor_161 : decode cX6_readFactor 161 = .ok (.ifCond .eq 8, 3) := by decide +kernel
theorem dX6_readFactor_164 : decode cX6_readFactor 164 = .ok (.aload_n 0, 1) := by decide +kernel
theorem dX6_readFactor_165 : decode cX6_readFactor 165 = .ok (.iconst 2, 1) := by decide +kernel
theorem dX6_readFactor_166 : decode cX6_readFactor 166 = .ok (.invokevirtual 58, 3) := by decide +kernel
theorem dX6_readFactor_169 : decode cX6_readFactor 169 = .ok (.goto 8, 3) := by decide +kernel
theorem dX6_readFactor_172 : decode cX6_readFactor 172 = .ok (.aload_n 0, 1) := by decide +kernel
theorem dX6_readFactor_173 : decode cX6_readFactor 173 = .ok (.iconst 1, 1) := by decide +kernel
theorem dX6_readFactor_174 : decode cX6_readFactor 174 = .ok (.invokevirtual 58, 3) := by decide +kernel
theorem dX6_readFactor_177 : decode cX6_readFactor 177 = .ok (.return_, 1) := by decide +kernel
theorem dX6_pass_0 : decode cX6_pass 0 = .ok (.aload_n 0, 1) := by decide +kernel
theorem dX6_pass_1 : decode cX6_pass 1 = .ok (.getfield 35, 3) := by decide +kernel
theorem dX6_pass_4 : decode cX6_pass 4 = .ok (.ifCond .ne 24, 3) := by decide +kernel
theorem dX6_pass_7 : decode cX6_pass 7 = .ok (.aload_n 0, 1) := by decide +kernel
theorem dX6_pass_8 : decode cX6_pass 8 = .ok (.invokevirtual 48, 3) := by decide +kernel
theorem dX6_pass_11 : decode cX6_pass 11 = .ok (.iload_n 1, 1) := by decide +kernel
theorem dX6_pass_12 : decode cX6_pass 12 = .ok (.if_icmp .ne 16, 3) := by decide +kernel
theorem dX6_pass_15 : decode cX6_pass 15 = .ok (.aload_n 0, 1) := by decide +kernel
theorem dX6_pass_16 : decode cX6_pass 16 = .ok (.dup, 1) := by decide +kernel
theorem dX6_pass_17 : decode cX6_pass 17 = .ok (.getfield 32, 3) := by decide +kernel
theorem dX6_pass_20 : decode cX6_pass 20 = .ok (.iconst 1, 1) := by decide +kernel
theorem dX6_pass_21 : decode cX6_pass 21 = .ok (.iadd, 1) := by decide +kernel
theorem dX6_pass_22 : decode cX6_pass 22 = .ok (.putfield 32, 3) := by decide +kernel
theorem dX6_pass_25 : decode cX6_pass 25 = .ok (.goto 8, 3) := by decide +kernel
theorem dX6_pass_28 : decode cX6_pass 28 = .ok (.aload_n 0, 1) := by decide +kernel
theorem dX6_pass_29 : decode cX6_pass 29 = .ok (.iconst 1, 1) := by decide +kernel
theorem dX6_pass_30 : decode cX6_pass 30 = .ok (.invokevirtual 58, 3) := by decide +kernel
theorem dX6_pass_33 : decode cX6_pass 33 = .ok (.return_, 1) := by decide +kernel
theorem dX6_fail_0 : decode cX6_fail 0 = .ok (.aload_n 0, 1) := by decide +kernel
theorem dX6_fail_1 : decode cX6_fail 1 = .ok (.getfield 35, 3) := by decide +kernel
theorem dX6_fail_4 : decode cX6_fail 4 = .ok (.ifCond .ne 17, 3) := by decide +kernel
theorem dX6_fail_7 : decode cX6_fail 7 = .ok (.aload_n 0, 1) := by decide +kernel
theorem dX6_fail_8 : decode cX6_fail 8 = .ok (.sipush (-1000), 3) := by decide +kernel
theorem dX6_fail_11 : decode cX6_fail 11 = .ok (.iload_n 1, 1) := by decide +kernel
theorem dX6_fail_12 : decode cX6_fail 12 = .ok (.imul, 1) := by decide +kernel
theorem dX6_fail_13 : decode cX6_fail 13 = .ok (.aload_n 0, 1) := by decide +kernel
theorem dX6_fail_14 : decode cX6_fail 14 = .ok (.getfield 32, 3) := by decide +kernel
theorem dX6_fail_17 : decode cX6_fail 17 = .ok (.isub, 1) := by decide +kernel
theorem dX6_fail_18 : decode cX6_fail 18 = .ok (.putfield 35, 3) := by decide +kernel
theorem dX6_fail_21 : decode cX6_fail 21 = .ok (.return_, 1) := by decide +kernel
theorem dX6_here_0 : decode cX6_here 0 = .ok (.aload_n 0, 1) := by decide +kernel
theorem dX6_here_1 : decode cX6_here 1 = .ok (.getfield 32, 3) := by decide +kernel
theorem dX6_here_4 : decode cX6_here 4 = .ok (.ifCond .lt 38, 3) := by decide +kernel
theorem dX6_here_7 : decode cX6_here 7 = .ok (.aload_n 0, 1) := by decide +kernel
theorem dX6_here_8 : decode cX6_here 8 = .ok (.getfield 32, 3) := by decide +kernel
theorem dX6_here_11 : decode cX6_here 11 = .ok (.aload_n 0, 1) := by decide +kernel
theorem dX6_here_12 : decode cX6_here 12 = .ok (.getfield 28, 3) := by decide +kernel
theorem dX6_here_15 : decode cX6_here 15 = .ok (.if_icmp .ge 27, 3) := by decide +kernel
theorem dX6_here_18 : decode cX6_here 18 = .ok (.aload_n 0, 1) := by decide +kernel
theorem dX6_here_19 : decode cX6_here 19 = .ok (.getfield 32, 3) := by decide +kernel
theorem dX6_here_22 : decode cX6_here 22 = .ok (.aload_n 0, 1) := by decide +kernel
theorem dX6_here_23 : decode cX6_here 23 = .ok (.getfield 9, 3) := by decide +kernel
theorem dX6_here_26 : decode cX6_here 26 = .ok (.arraylength, 1) := by decide +kernel
theorem dX6_here_27 : decode cX6_here 27 = .ok (.if_icmp .ge 15, 3) := by decide +kernel
theorem dX6_here_30 : decode cX6_here 30 = .ok (.aload_n 0, 1) := by decide +kernel
theorem dX6_here_31 : decode cX6_here 31 = .ok (.getfield 9, 3) := by decide +kernel
theorem dX6_here_34 : decode cX6_here 34 = .ok (.aload_n 0, 1) := by decide +kernel
theorem dX6_here_35 : decode cX6_here 35 = .ok (.getfield 32, 3) := by decide +kernel
theorem dX6_here_38 : decode cX6_here 38 = .ok (.iaload, 1) := by decide +kernel
theorem dX6_here_39 : decode cX6_here 39 = .ok (.goto 4, 3) := by decide +kernel
theorem dX6_here_42 : decode cX6_here 42 = .ok (.iconst (-1), 1) := by decide +kernel
theorem dX6_here_43 : decode cX6_here 43 = .ok (.ireturn, 1) := by decide +kernel
theorem dX6_isOf_0 : decode cX6_isOf 0 = .ok (.iload_n 1, 1) := by decide +kernel
theorem dX6_isOf_1 : decode cX6_isOf 1 = .ok (.ifCond .le 16, 3) := by decide +kernel
theorem dX6_isOf_4 : decode cX6_isOf 4 = .ok (.aload_n 0, 1) := by decide +kernel
theorem dX6_isOf_5 : decode cX6_isOf 5 = .ok (.iload_n 1, 1) := by decide +kernel
theorem dX6_isOf_6 : decode cX6_isOf 6 = .ok (.i2c, 1) := by decide +kernel
theorem dX6_isOf_7 : decode cX6_isOf 7 = .ok (.invokevirtual 107, 3) := by decide +kernel
theorem dX6_isOf_10 : decode cX6_isOf 10 = .ok (.ifCond .lt 7, 3) := by decide +kernel
theorem dX6_isOf_13 : decode cX6_isOf 13 = .ok (.iconst 1, 1) := by decide +kernel
theorem dX6_isOf_14 : decode cX6_isOf 14 = .ok (.goto 4, 3) := by decide +kernel
theorem dX6_isOf_17 : decode cX6_isOf 17 = .ok (.iconst 0, 1) := by decide +kernel
theorem dX6_isOf_18 : decode cX6_isOf 18 = .ok (.ireturn, 1) := by decide +kernel
theorem dX7_init_0 : decode cX7_init 0 = .ok (.aload_n 0, 1) := by decide +kernel
theorem dX7_init_1 : decode cX7_init 1 = .ok (.invokespecial 3, 3) := by decide +kernel
theorem dX7_init_4 : decode cX7_init 4 = .ok (.aload_n 0, 1) := by decide +kernel
theorem dX7_init_5 : decode cX7_init 5 = .ok (.bipush 20, 2) := by decide +kernel
theorem dX7_init_7 : decode cX7_init 7 = .ok (.newarray .int, 2) := by decide +kernel
theorem dX7_init_9 : decode cX7_init 9 = .ok (.putfield 11, 3) := by decide +kernel
theorem dX7_init_12 : decode cX7_init 12 = .ok (.aload_n 0, 1) := by decide +kernel
theorem dX7_init_13 : decode cX7_init 13 = .ok (.bipush 20, 2) := by decide +kernel
theorem dX7_init_15 : decode cX7_init 15 = .ok (.newarray .int, 2) := by decide +kernel
theorem dX7_init_17 : decode cX7_init 17 = .ok (.putfield 15, 3) := by decide +kernel
theorem dX7_init_20 : decode cX7_init 20 = .ok (.aload_n 0, 1) := by decide +kernel
theorem dX7_init_21 : decode cX7_init 21 = .ok (.bipush 20, 2) := by decide +kernel
theorem dX7_init_23 : decode cX7_init 23 = .ok (.newarray .int, 2) := by decide +kernel
theorem dX7_init_25 : decode cX7_init 25 = .ok (.putfield 18, 3) := by decide +kernel
theorem dX7_init_28 : decode cX7_init 28 = .ok (.aload_n 0, 1) := by decide +kernel
theorem dX7_init_29 : decode cX7_init 29 = .ok (.bipush 20, 2) := by decide +kernel
theorem dX7_init_31 : decode cX7_init 31 = .ok (.newarray .int, 2) := by decide +kernel
theorem dX7_init_33 : decode cX7_init 33 = .ok (.putfield 21, 3) := by decide +kernel
theorem dX7_init_36 : decode cX7_init 36 = .ok (.aload_n 0, 1) := by decide +kernel
theorem dX7_init_37 : decode cX7_init 37 = .ok (.iconst 0, 1) := by decide +kernel
theorem dX7_init_38 : decode cX7_init 38 = .ok (.newarray .int, 2) := by decide +kernel
theorem dX7_init_40 : decode cX7_init 40 = .ok (.putfield 24, 3) := by decide +kernel
theorem dX7_init_43 : decode cX7_init 43 = .ok (.return_, 1) := by decide +kernel
theorem dX7_read_0 : decode cX7_read 0 = .ok (.aload_n 0, 1) := by decide +kernel
theorem dX7_read_1 : decode cX7_read 1 = .ok (.aload_n 1, 1) := by decide +kernel
theorem dX7_read_2 : decode cX7_read 2 = .ok (.putfield 24, 3) := by decide +kernel
theorem dX7_read_5 : decode cX7_read 5 = .ok (.aload_n 0, 1) := by decide +kernel
theorem dX7_read_6 : decode cX7_read 6 = .ok (.iload_n 2, 1) := by decide +kernel
theorem dX7_read_7 : decode cX7_read 7 = .ok (.aload_n 1, 1) := by decide +kernel
theorem dX7_read_8 : decode cX7_read 8 = .ok (.arraylength, 1) := by decide +kernel
theorem dX7_read_9 : decode cX7_read 9 = .ok (.invokestatic 27, 3) := by decide +kernel
theorem dX7_read_12 : decode cX7_read 12 = .ok (.putfield 33, 3) := by decide +kernel
theorem dX7_read_15 : decode cX7_read 15 = .ok (.aload_n 0, 1) := by decide +kernel
theorem dX7_read_16 : decode cX7_read 16 = .ok (.iconst 0, 1) := by decide +kernel
theorem dX7_read_17 : decode cX7_read 17 = .ok (.putfield 37, 3) := by decide +kernel
theorem dX7_read_20 : decode cX7_read 20 = .ok (.aload_n 0, 1) := by decide +kernel
theorem dX7_read_21 : decode cX7_read 21 = .ok (.iconst 0, 1) := by decide +kernel
theorem dX7_read_22 : decode cX7_read 22 = .ok (.putfield 40, 3) := by decide +kernel
theorem dX7_read_25 : decode cX7_read 25 = .ok (.iconst 0, 1) := by decide +kernel
theorem dX7_read_26 : decode cX7_read 26 = .ok (.istore 5, 2) := by decide +kernel
theorem dX7_read_28 : decode cX7_read 28 = .ok (.iload 5, 2) := by decide +kernel
theorem dX7_read_30 : decode cX7_read 30 = .ok (.bipush 20, 2) := by decide +kernel
theorem dX7_read_32 : decode cX7_read 32 = .ok (.if_icmp .gt 89, 3) := by decide +kernel
theorem dX7_read_35 : decode cX7_read 35 = .ok (.aload_n 0, 1) := by decide +kernel
theorem dX7_read_36 : decode cX7_read 36 = .ok (.iload 5, 2) := by decide +kernel
theorem dX7_read_38 : decode cX7_read 38 = .ok (.iload_n 3, 1) := by decide +kernel
theorem dX7_read_39 : decode cX7_read 39 = .ok (.invokevirtual 43, 3) := by decide +kernel
theorem dX7_read_42 : decode cX7_read 42 = .ok (.aload_n 0, 1) := by decide +kernel
theorem dX7_read_43 : decode cX7_read 43 = .ok (.iload 5, 2) := by decide +kernel
theorem dX7_read_45 : decode cX7_read 45 = .ok (.iload 4, 2) := by decide +kernel
theorem dX7_read_47 : decode cX7_read 47 = .ok (.invokevirtual 47, 3) := by decide +kernel
theorem dX7_read_50 : decode cX7_read 50 = .ok (.aload_n 0, 1) := by decide +kernel
theorem dX7_read_51 : decode cX7_read 51 = .ok (.iload 5, 2) := by decide +kernel
theorem dX7_read_53 : decode cX7_read 53 = .ok (.invokevirtual 50, 3) := by decide +kernel
theorem dX7_read_56 : decode cX7_read 56 = .ok (.aload_n 0, 1) := by decide +kernel
theorem dX7_read_57 : decode cX7_read 57 = .ok (.getfield 40, 3) := by decide +kernel
theorem dX7_read_60 : decode cX7_read 60 = .ok (.ifCond .ne 19, 3) := by decide +kernel
theorem dX7_read_63 : decode cX7_read 63 = .ok (.aload_n 0, 1) := by decide +kernel
theorem dX7_read_64 : decode cX7_read 64 = .ok (.getfield 37, 3) := by decide +kernel
theorem dX7_read_67 : decode cX7_read 67 = .ok (.aload_n 0, 1) := by decide +kernel
theorem dX7_read_68 : decode cX7_read 68 = .ok (.getfield 33, 3) := by decide +kernel
theorem dX7_read_71 : decode cX7_read 71 = .ok (.if_icmp .ne 8, 3) := by decide +kernel
theorem dX7_read_74 : decode cX7_read 74 = .ok (.iload 5, 2) := by decide +kernel
theorem dX7_read_76 : decode cX7_read 76 = .ok (.iconst 1, 1) := by decide +kernel
theorem dX7_read_77 : decode cX7_read 77 = .ok (.iadd, 1) := by decide +kernel
theorem dX7_read_78 : decode cX7_read 78 = .ok (.ireturn, 1) := by decide +kernel
theorem dX7_read_79 : decode cX7_read 79 = .ok (.aload_n 0, 1) := by decide +kernel
theorem dX7_read_80 : decode cX7_read 80 = .ok (.invokevirtual 54, 3) := by decide +kernel
theorem dX7_read_83 : decode cX7_read 83 = .ok (.bipush 59, 2) := by decide +kernel
theorem dX7_read_85 : decode cX7_read 85 = .ok (.if_icmp .eq 8, 3) := by decide +kernel
theorem dX7_read_88 : decode cX7_read 88 = .ok (.aload_n 0, 1) := by decide +kernel
theorem dX7_read_89 : decode cX7_read 89 = .ok (.iconst 1, 1) := by decide +kernel
theorem dX7_read_90 : decode cX7_read 90 = .ok (.invokevirtual 58, 3) := by decide +kernel
theorem dX7_read_93 : decode cX7_read 93 = .ok (.aload_n 0, 1) := by decide +kernel
theorem dX7_read_94 : decode cX7_read 94 = .ok (.getfield 40, 3) := by decide +kernel
theorem dX7_read_97 : decode cX7_read 97 = .ok (.ifCond .eq 8, 3) := by decide +kernel
theorem dX7_read_100 : decode cX7_read 100 = .ok (.aload_n 0, 1) := by decide +kernel
theorem dX7_read_101 : decode cX7_read 101 = .ok (.getfield 40, 3) := by decide +kernel
theorem dX7_read_104 : decode cX7_read 104 = .ok (.ireturn, 1) := by decide +kernel
theorem dX7_read_105 : decode cX7_read 105 = .ok (.aload_n 0, 1) := by decide +kernel
theorem dX7_read_106 : decode cX7_read 106 = .ok (.dup, 1) := by decide +kernel
theorem dX7_read_107 : decode cX7_read 107 = .ok (.getfield 37, 3) := by decide +kernel
theorem dX7_read_110 : decode cX7_read 110 = .ok (.iconst 1, 1) := by decide +kernel
theorem dX7_read_111 : decode cX7_read 111 = .ok (.iadd, 1) := by decide +kernel
theorem dX7_read_112 : decode cX7_read 112 = .ok (.putfield 37, 3) := by decide +kernel
theorem dX7_read_115 : decode cX7_read 115 = .ok (.iinc 5 1, 3) := by decide +kernel
theorem dX7_read_118 : decode cX7_read 118 = .ok (.goto (-90), 3) := by decide +kernel
theorem dX7_read_121 : decode cX7_read 121 = .ok (.aload_n 0, 1) := by decide +kernel
theorem dX7_read_122 : decode cX7_read 122 = .ok (.getfield 40, 3) := by decide +kernel
theorem dX7_read_125 : decode cX7_read 125 = .ok (.ireturn, 1) := by decide +kernel
theorem dX7_readLetter_0 : decode cX7_readLetter 0 = .ok (.aload_n 0, 1) := by decide +kernel
theorem dX7_readLetter_1 : decode cX7_readLetter 1 = .ok (.invokevirtual 54, 3) := by decide +kernel
theorem dX7_readLetter_4 : decode cX7_readLetter 4 = .ok (.bipush 65, 2) := by decide +kernel
theorem dX7_readLetter_6 : decode cX7_readLetter 6 = .ok (.isub, 1) := by decide +kernel
theorem dX7_readLetter_7 : decode cX7_readLetter 7 = .ok (.istore_n 3, 1) := by decide +kernel
theorem dX7_readLetter_8 : decode cX7_readLetter 8 = .ok (.iload_n 3, 1) := by decide +kernel
theorem dX7_readLetter_9 : decode cX7_readLetter 9 = .ok (.invokestatic 61, 3) := by decide +kernel
theorem dX7_readLetter_12 : decode cX7_readLetter 12 = .ok (.ifCond .ne 11, 3) := by decide +kernel
theorem dX7_readLetter_15 : decode cX7_readLetter 15 = .ok (.aload_n 0, 1) := by decide +kernel
theorem dX7_readLetter_16 : decode cX7_readLetter 16 = .ok (.iconst 1, 1) := by decide +kernel
theorem dX7_readLetter_17 : decode cX7_readLetter 17 = .ok (.invokevirtual 58, 3) := by decide +kernel
theorem dX7_readLetter_20 : decode cX7_readLetter 20 = .ok (.goto 51, 3) := by decide +kernel
theorem dX7_readLetter_23 : decode cX7_readLetter 23 = .ok (.iload_n 1, 1) := by decide +kernel
theorem dX7_readLetter_24 : decode cX7_readLetter 24 = .ok (.bipush 20, 2) := by decide +kernel
theorem dX7_readLetter_26 : decode cX7_readLetter 26 = .ok (.if_icmp .lt 11, 3) := by decide +kernel
theorem dX7_readLetter_29 : decode cX7_readLetter 29 = .ok (.aload_n 0, 1) := by decide +kernel
theorem dX7_readLetter_30 : decode cX7_readLetter 30 = .ok (.iconst 4, 1) := by decide +kernel
theorem dX7_readLetter_31 : decode cX7_readLetter 31 = .ok (.invokevirtual 58, 3) := by decide +kernel
theorem dX7_readLetter_34 : decode cX7_readLetter 34 = .ok (.goto 37, 3) := by decide +kernel
theorem dX7_readLetter_37 : decode cX7_readLetter 37 = .ok (.iload_n 2, 1) := by decide +kernel
theorem dX7_readLetter_38 : decode cX7_readLetter 38 = .ok (.iload_n 3, 1) := by decide +kernel
theorem dX7_readLetter_39 : decode cX7_readLetter 39 = .ok (.invokestatic 65, 3) := by decide +kernel
theorem dX7_readLetter_42 : decode cX7_readLetter 42 = .ok (.ifCond .ne 12, 3) := by decide +kernel
theorem dX7_readLetter_45 : decode cX7_readLetter 45 = .ok (.aload_n 0, 1) := by decide +kernel
theorem dX7_readLetter_46 : decode cX7_readLetter 46 = .ok (.bipush 7, 2) := by decide +kernel
theorem dX7_readLetter_48 : decode cX7_readLetter 48 = .ok (.invokevirtual 58, 3) := by decide +kernel
theorem dX7_readLetter_51 : decode cX7_readLetter 51 = .ok (.goto 20, 3) := by decide +kernel
theorem dX7_readLetter_54 : decode cX7_readLetter 54 = .ok (.aload_n 0, 1) := by decide +kernel
theorem dX7_readLetter_55 : decode cX7_readLetter 55 = .ok (.getfield 11, 3) := by decide +kernel
theorem dX7_readLetter_58 : decode cX7_readLetter 58 = .ok (.iload_n 1, 1) := by decide +kernel
theorem dX7_readLetter_59 : decode cX7_readLetter 59 = .ok (.iload_n 3, 1) := by decide +kernel
theorem dX7_readLetter_60 : decode cX7_readLetter 60 = .ok (.iastore, 1) := by decide +kernel
theorem dX7_readLetter_61 : decode cX7_readLetter 61 = .ok (.aload_n 0, 1) := by decide +kernel
theorem dX7_readLetter_62 : decode cX7_readLetter 62 = .ok (.dup, 1) := by decide +kernel
theorem dX7_readLetter_63 : decode cX7_readLetter 63 = .ok (.getfield 37, 3) := by decide +kernel
theorem dX7_readLetter_66 : decode cX7_readLetter 66 = .ok (.iconst 1, 1) := by decide +kernel
theorem dX7_readLetter_67 : decode cX7_readLetter 67 = .ok (.iadd, 1) := by decide +kernel
theorem dX7_readLetter_68 : decode cX7_readLetter 68 = .ok (.putfield 37, 3) := by decide +kernel
theorem dX7_readLetter_71 : decode cX7_readLetter 71 = .ok (.return_, 1) := by decide +kernel
theorem dX7_readParish_0 : decode cX7_readParish 0 = .ok (.aload_n 0, 1) := by decide +kernel
theorem dX7_readParish_1 : decode cX7_readParish 1 = .ok (.getfield 40, 3) := by decide +kernel
theorem dX7_readParish_4 : decode cX7_readParish 4 = .ok (.ifCond .ne 9, 3) := by decide +kernel
theorem dX7_readParish_7 : decode cX7_readParish 7 = .ok (.iload_n 1, 1) := by decide +kernel
theorem dX7_readParish_8 : decode cX7_readParish 8 = .ok (.bipush 20, 2) := by decide +kernel
theorem dX7_readParish_10 : decode cX7_readParish 10 = .ok (.if_icmp .lt 4, 3) := by decide +kernel
theorem dX7_readParish_13 : decode cX7_readParish 13 = .ok (.return_, 1) := by decide +kernel
theorem dX7_readParish_14 : decode cX7_readParish 14 = .ok (.aload_n 0, 1) := by decide +kernel
theorem dX7_readParish_15 : decode cX7_readParish 15 = .ok (.invokevirtual 54, 3) := by decide +kernel
theorem dX7_readParish_18 : decode cX7_readParish 18 = .ok (.bipush 97, 2) := by decide +kernel
theorem dX7_readParish_20 : decode cX7_readParish 20 = .ok (.isub, 1) := by decide +kernel
theorem dX7_readParish_21 : decode cX7_readParish 21 = .ok (.istore_n 3, 1) := by decide +kernel
theorem dX7_readParish_22 : decode cX7_readParish 22 = .ok (.iload_n 3, 1) := by decide +kernel
theorem dX7_readParish_23 : decode cX7_readParish 23 = .ok (.iconst 0, 1) := by decide +kernel
theorem dX7_readParish_24 : decode cX7_readParish 24 = .ok (.bipush 11, 2) := by decide +kernel
theorem dX7_readParish_26 : decode cX7_readParish 26 = .ok (.invokestatic 69, 3) := by decide +kernel
theorem dX7_readParish_29 : decode cX7_readParish 29 = .ok (.ifCond .ne 11, 3) := by decide +kernel
theorem dX7_readParish_32 : decode cX7_readParish 32 = .ok (.aload_n 0, 1) := by decide +kernel
theorem dX7_readParish_33 : decode cX7_readParish 33 = .ok (.iconst 1, 1) := by decide +kernel
theorem dX7_readParish_34 : decode cX7_readParish 34 = .ok (.invokevirtual 58, 3) := by decide +kernel
theorem dX7_readParish_37 : decode cX7_readParish 37 = .ok (.goto 37, 3) := by decide +kernel
theorem dX7_readParish_40 : decode cX7_readParish 40 = .ok (.iload_n 2, 1) := by decide +kernel
theorem dX7_readParish_41 : decode cX7_readParish 41 = .ok (.iload_n 3, 1) := by decide +kernel
theorem dX7_readParish_42 : decode cX7_readParish 42 = .ok (.invokestatic 65, 3) := by decide +kernel
theorem dX7_readParish_45 : decode cX7_readParish 45 = .ok (.ifCond .ne 12, 3) := by decide +kernel
theorem dX7_readParish_48 : decode cX7_readParish 48 = .ok (.aload_n 0, 1) := by decide +kernel
theorem dX7_readParish_49 : decode cX7_readParish 49 = .ok (.bipush 7, 2) := by decide +kernel
theorem dX7_readParish_51 : decode cX7_readParish 51 = .ok (.invokevirtual 58, 3) := by decide +kernel
theorem dX7_readParish_54 : decode cX7_readParish 54 = .ok (.goto 20, 3) := by decide +kernel
theorem dX7_readParish_57 : decode cX7_readParish 57 = .ok (.aload_n 0, 1) := by decide +kernel
theorem dX7_readParish_58 : decode cX7_readParish 58 = .ok (.getfield 15, 3) := by decide +kernel
theorem dX7_readParish_61 : decode cX7_readParish 61 = .ok (.iload_n 1, 1) := by decide +kernel
theorem dX7_readParish_62 : decode cX7_readParish 62 = .ok (.iload_n 3, 1) := by decide +kernel
theorem dX7_readParish_63 : decode cX7_readParish 63 = .ok (.iastore, 1) := by decide +kernel
theorem dX7_readParish_64 : decode cX7_readParish 64 = .ok (.aload_n 0, 1) := by decide +kernel
theorem dX7_readParish_65 : decode cX7_readParish 65 = .ok (.dup, 1) := by decide +kernel
theorem dX7_readParish_66 : decode cX7_readParish 66 = .ok (.getfield 37, 3) := by decide +kernel
theorem dX7_readParish_69 : decode cX7_readParish 69 = .ok (.iconst 1, 1) := by decide +kernel
theorem dX7_readParish_70 : decode cX7_readParish 70 = .ok (.iadd, 1) := by decide +kernel
theorem dX7_readParish_71 : decode cX7_readParish 71 = .ok (.putfield 37, 3) := by decide +kernel
theorem dX7_readParish_74 : decode cX7_readParish 74 = .ok (.return_, 1) := by decide +kernel
theorem dX7_readSaid_0 : decode cX7_readSaid 0 = .ok (.aload_n 0, 1) := by decide +kernel
theorem dX7_readSaid_1 : decode cX7_readSaid 1 = .ok (.getfield 40, 3) := by decide +kernel
theorem dX7_readSaid_4 : decode cX7_readSaid 4 = .ok (.ifCond .ne 9, 3) := by decide +kernel
theorem dX7_readSaid_7 : decode cX7_readSaid 7 = .ok (.iload_n 1, 1) := by decide +kernel
theorem dX7_readSaid_8 : decode cX7_readSaid 8 = .ok (.bipush 20, 2) := by decide +kernel
theorem dX7_readSaid_10 : decode cX7_readSaid 10 = .ok (.if_icmp .lt 4, 3) := by decide +kernel
theorem dX7_readSaid_13 : decode cX7_readSaid 13 = .ok (.return_, 1) := by decide +kernel
theorem dX7_readSaid_14 : decode cX7_readSaid 14 = .ok (.aload_n 0, 1) := by decide +kernel
theorem dX7_readSaid_15 : decode cX7_readSaid 15 = .ok (.invokevirtual 54, 3) := by decide +kernel
theorem dX7_readSaid_18 : decode cX7_readSaid 18 = .ok (.istore_n 2, 1) := by decide +kernel
theorem dX7_readSaid_19 : decode cX7_readSaid 19 = .ok (.iload_n 2, 1) := by decide +kernel
theorem dX7_readSaid_20 : decode cX7_readSaid 20 = .ok (.bipush 58, 2) := by decide +kernel
theorem dX7_readSaid_22 : decode cX7_readSaid 22 = .ok (.if_icmp .eq 21, 3) := by decide +kernel
theorem dX7_readSaid_25 : decode cX7_readSaid 25 = .ok (.iload_n 2, 1) := by decide +kernel
theorem dX7_readSaid_26 : decode cX7_readSaid 26 = .ok (.bipush 43, 2) := by decide +kernel
theorem dX7_readSaid_28 : decode cX7_readSaid 28 = .ok (.if_icmp .eq 15, 3) := by decide +kernel
theorem dX7_readSaid_31 : decode cX7_readSaid 31 = .ok (.iload_n 2, 1) := by decide +kernel
theorem dX7_readSaid_32 : decode cX7_readSaid 32 = .ok (.bipush 33, 2) := by decide +kernel
theorem dX7_readSaid_34 : decode cX7_readSaid 34 = .ok (.if_icmp .eq 9, 3) := by decide +kernel
theorem dX7_readSaid_37 : decode cX7_readSaid 37 = .ok (.aload_n 0, 1) := by decide +kernel
theorem dX7_readSaid_38 : decode cX7_readSaid 38 = .ok (.iconst 1, 1) := by decide +kernel
theorem dX7_readSaid_39 : decode cX7_readSaid 39 = .ok (.invokevirtual 58, 3) := by decide +kernel
theorem dX7_readSaid_42 : decode cX7_readSaid 42 = .ok (.return_, 1) := by decide +kernel
theorem dX7_readSaid_43 : decode cX7_readSaid 43 = .ok (.aload_n 0, 1) := by decide +kernel
theorem dX7_readSaid_44 : decode cX7_readSaid 44 = .ok (.dup, 1) := by decide +kernel
theorem dX7_readSaid_45 : decode cX7_readSaid 45 = .ok (.getfield 37, 3) := by decide +kernel
theorem dX7_readSaid_48 : decode cX7_readSaid 48 = .ok (.iconst 1, 1) := by decide +kernel
theorem dX7_readSaid_49 : decode cX7_readSaid 49 = .ok (.iadd, 1) := by decide +kernel
theorem dX7_readSaid_50 : decode cX7_readSaid 50 = .ok (.putfield 37, 3) := by decide +kernel
theorem dX7_readSaid_53 : decode cX7_readSaid 53 = .ok (.aload_n 0, 1) := by decide +kernel
theorem dX7_readSaid_54 : decode cX7_readSaid 54 = .ok (.getfield 18, 3) := by decide +kernel
theorem dX7_readSaid_57 : decode cX7_readSaid 57 = .ok (.iload_n 1, 1) := by decide +kernel
theorem dX7_readSaid_58 : decode cX7_readSaid 58 = .ok (.iload_n 2, 1) := by decide +kernel
theorem dX7_readSaid_59 : decode cX7_readSaid 59 = .ok (.iastore, 1) := by decide +kernel
theorem dX7_readSaid_60 : decode cX7_readSaid 60 = .ok (.aload_n 0, 1) := by decide +kernel
theorem dX7_readSaid_61 : decode cX7_readSaid 61 = .ok (.getfield 21, 3) := by decide +kernel
theorem dX7_readSaid_64 : decode cX7_readSaid 64 = .ok (.iload_n 1, 1) := by decide +kernel
theorem dX7_readSaid_65 : decode cX7_readSaid 65 = .ok (.iload_n 2, 1) := by decide +kernel
theorem dX7_readSaid_66 : decode cX7_readSaid 66 = .ok (.bipush 33, 2) := by decide +kernel
theorem dX7_readSaid_68 : decode cX7_readSaid 68 = .ok (.if_icmp .ne 7, 3) := by decide +kernel
theorem dX7_readSaid_71 : decode cX7_readSaid 71 = .ok (.iconst 0, 1) := by decide +kernel
theorem dX7_readSaid_72 : decode cX7_readSaid 72 = .ok (.goto 7, 3) := by decide +kernel
theorem dX7_readSaid_75 : decode cX7_readSaid 75 = .ok (.aload_n 0, 1) := by decide +kernel
theorem dX7_readSaid_76 : decode cX7_readSaid 76 = .ok (.invokevirtual 73, 3) := by decide +kernel
theorem dX7_readSaid_79 : decode cX7_readSaid 79 = .ok (.iastore, 1) := by decide +kernel
theorem dX7_readSaid_80 : decode cX7_readSaid 80 = .ok (.return_, 1) := by decide +kernel
theorem dX7_readNumber_0 : decode cX7_readNumber 0 = .ok (.iconst 0, 1) := by decide +kernel
theorem dX7_readNumber_1 : decode cX7_readNumber 1 = .ok (.istore_n 1, 1) := by decide +kernel
theorem dX7_readNumber_2 : decode cX7_readNumber 2 = .ok (.aload_n 0, 1) := by decide +kernel
theorem dX7_readNumber_3 : decode cX7_readNumber 3 = .ok (.invokevirtual 54, 3) := by decide +kernel
theorem dX7_readNumber_6 : decode cX7_readNumber 6 = .ok (.invokestatic 76, 3) := by decide +kernel
theorem dX7_readNumber_9 : decode cX7_readNumber 9 = .ok (.ifCond .ne 8, 3) := by decide +kernel
theorem dX7_readNumber_12 : decode cX7_readNumber 12 = .ok (.aload_n 0, 1) := by decide +kernel
theorem dX7_readNumber_13 : decode cX7_readNumber 13 = .ok (.iconst 1, 1) := by decide +kernel
theorem dX7_readNumber_14 : decode cX7_readNumber 14 = .ok (.invokevirtual 58, 3) := by decide +kernel
theorem dX7_readNumber_17 : decode cX7_readNumber 17 = .ok (.iconst 0, 1) := by decide +kernel
theorem dX7_readNumber_18 : decode cX7_readNumber 18 = .ok (.istore_n 2, 1) := by decide +kernel
theorem dX7_readNumber_19 : decode cX7_readNumber 19 = .ok (.iload_n 2, 1) := by decide +kernel
theorem dX7_readNumber_20 : decode cX7_readNumber 20 = .ok (.iconst 4, 1) := by decide +kernel
theorem dX7_readNumber_21 : decode cX7_readNumber 21 = .ok (.if_icmp .ge 42, 3) := by decide +kernel
theorem dX7_readNumber_24 : decode cX7_readNumber 24 = .ok (.aload_n 0, 1) := by decide +kernel
theorem dX7_readNumber_25 : decode cX7_readNumber 25 = .ok (.invokevirtual 54, 3) := by decide +kernel
theorem dX7_readNumber_28 : decode cX7_readNumber 28 = .ok (.invokestatic 76, 3) := by decide +kernel
theorem dX7_readNumber_31 : decode cX7_readNumber 31 = .ok (.ifCond .eq 32, 3) := by decide +kernel
theorem dX7_readNumber_34 : decode cX7_readNumber 34 = .ok (.iload_n 1, 1) := by decide +kernel
theorem dX7_readNumber_35 : decode cX7_readNumber 35 = .ok (.bipush 10, 2) := by decide +kernel
theorem dX7_readNumber_37 : decode cX7_readNumber 37 = .ok (.imul, 1) := by decide +kernel
theorem dX7_readNumber_38 : decode cX7_readNumber 38 = .ok (.aload_n 0, 1) := by decide +kernel
theorem dX7_readNumber_39 : decode cX7_readNumber 39 = .ok (.invokevirtual 54, 3) := by decide +kernel
theorem dX7_readNumber_42 : decode cX7_readNumber 42 = .ok (.iadd, 1) := by decide +kernel
theorem dX7_readNumber_43 : decode cX7_readNumber 43 = .ok (.bipush 48, 2) := by decide +kernel
theorem dX7_readNumber_45 : decode cX7_readNumber 45 = .ok (.isub, 1) := by decide +kernel
theorem dX7_readNumber_46 : decode cX7_readNumber 46 = .ok (.istore_n 1, 1) := by decide +kernel
theorem dX7_readNumber_47 : decode cX7_readNumber 47 = .ok (.aload_n 0, 1) := by decide +kernel
theorem dX7_readNumber_48 : decode cX7_readNumber 48 = .ok (.dup, 1) := by decide +kernel
theorem dX7_readNumber_49 : decode cX7_readNumber 49 = .ok (.getfield 37, 3) := by decide +kernel
theorem dX7_readNumber_52 : decode cX7_readNumber 52 = .ok (.iconst 1, 1) := by decide +kernel
theorem dX7_readNumber_53 : decode cX7_readNumber 53 = .ok (.iadd, 1) := by decide +kernel
theorem dX7_readNumber_54 : decode cX7_readNumber 54 = .ok (.putfield 37, 3) := by decide +kernel
theorem dX7_readNumber_57 : decode cX7_readNumber 57 = .ok (.iinc 2 1, 3) := by decide +kernel
theorem dX7_readNumber_60 : decode cX7_readNumber 60 = .ok (.goto (-41), 3) := by decide +kernel
theorem dX7_readNumber_63 : decode cX7_readNumber 63 = .ok (.aload_n 0, 1) := by decide +kernel
theorem dX7_readNumber_64 : decode cX7_readNumber 64 = .ok (.invokevirtual 54, 3) := by decide +kernel
theorem dX7_readNumber_67 : decode cX7_readNumber 67 = .ok (.invokestatic 76, 3) := by decide +kernel
theorem dX7_readNumber_70 : decode cX7_readNumber 70 = .ok (.ifCond .eq 8, 3) := by decide +kernel
theorem dX7_readNumber_73 : decode cX7_readNumber 73 = .ok (.aload_n 0, 1) := by decide +kernel
theorem dX7_readNumber_74 : decode cX7_readNumber 74 = .ok (.iconst 2, 1) := by decide +kernel
theorem dX7_readNumber_75 : decode cX7_readNumber 75 = .ok (.invokevirtual 58, 3) := by decide +kernel
theorem dX7_readNumber_78 : decode cX7_readNumber 78 = .ok (.iload_n 1, 1) := by decide +kernel
theorem dX7_readNumber_79 : decode cX7_readNumber 79 = .ok (.ireturn, 1) := by decide +kernel
theorem dX7_fail_0 : decode cX7_fail 0 = .ok (.aload_n 0, 1) := by decide +kernel
theorem dX7_fail_1 : decode cX7_fail 1 = .ok (.getfield 40, 3) := by decide +kernel
theorem dX7_fail_4 : decode cX7_fail 4 = .ok (.ifCond .ne 17, 3) := by decide +kernel
theorem dX7_fail_7 : decode cX7_fail 7 = .ok (.aload_n 0, 1) := by decide +kernel
theorem dX7_fail_8 : decode cX7_fail 8 = .ok (.sipush (-1000), 3) := by decide +kernel
theorem dX7_fail_11 : decode cX7_fail 11 = .ok (.iload_n 1, 1) := by decide +kernel
theorem dX7_fail_12 : decode cX7_fail 12 = .ok (.imul, 1) := by decide +kernel
theorem dX7_fail_13 : decode cX7_fail 13 = .ok (.aload_n 0, 1) := by decide +kernel
theorem dX7_fail_14 : decode cX7_fail 14 = .ok (.getfield 37, 3) := by decide +kernel
theorem dX7_fail_17 : decode cX7_fail 17 = .ok (.isub, 1) := by decide +kernel
theorem dX7_fail_18 : decode cX7_fail 18 = .ok (.putfield 40, 3) := by decide +kernel
theorem dX7_fail_21 : decode cX7_fail 21 = .ok (.return_, 1) := by decide +kernel
theorem dX7_here_0 : decode cX7_here 0 = .ok (.aload_n 0, 1) := by decide +kernel
theorem dX7_here_1 : decode cX7_here 1 = .ok (.getfield 37, 3) := by decide +kernel
theorem dX7_here_4 : decode cX7_here 4 = .ok (.ifCond .lt 38, 3) := by decide +kernel
theorem dX7_here_7 : decode cX7_here 7 = .ok (.aload_n 0, 1) := by decide +kernel
theorem dX7_here_8 : decode cX7_here 8 = .ok (.getfield 37, 3) := by decide +kernel
theorem dX7_here_11 : decode cX7_here 11 = .ok (.aload_n 0, 1) := by decide +kernel
theorem dX7_here_12 : decode cX7_here 12 = .ok (.getfield 33, 3) := by decide +kernel
theorem dX7_here_15 : decode cX7_here 15 = .ok (.if_icmp .ge 27, 3) := by decide +kernel
theorem dX7_here_18 : decode cX7_here 18 = .ok (.aload_n 0, 1) := by decide +kernel
theorem dX7_here_19 : decode cX7_here 19 = .ok (.getfield 37, 3) := by decide +kernel
theorem dX7_here_22 : decode cX7_here 22 = .ok (.aload_n 0, 1) := by decide +kernel
theorem dX7_here_23 : decode cX7_here 23 = .ok (.getfield 24, 3) := by decide +kernel
theorem dX7_here_26 : decode cX7_here 26 = .ok (.arraylength, 1) := by decide +kernel
theorem dX7_here_27 : decode cX7_here 27 = .ok (.if_icmp .ge 15, 3) := by decide +kernel
theorem dX7_here_30 : decode cX7_here 30 = .ok (.aload_n 0, 1) := by decide +kernel
theorem dX7_here_31 : decode cX7_here 31 = .ok (.getfield 24, 3) := by decide +kernel
theorem dX7_here_34 : decode cX7_here 34 = .ok (.aload_n 0, 1) := by decide +kernel
theorem dX7_here_35 : decode cX7_here 35 = .ok (.getfield 37, 3) := by decide +kernel
theorem dX7_here_38 : decode cX7_here 38 = .ok (.iaload, 1) := by decide +kernel
theorem dX7_here_39 : decode cX7_here 39 = .ok (.goto 4, 3) := by decide +kernel
theorem dX7_here_42 : decode cX7_here 42 = .ok (.iconst (-1), 1) := by decide +kernel
theorem dX7_here_43 : decode cX7_here 43 = .ok (.ireturn, 1) := by decide +kernel
theorem dX8_init_0 : decode cX8_init 0 = .ok (.aload_n 0, 1) := by decide +kernel
theorem dX8_init_1 : decode cX8_init 1 = .ok (.invokespecial 1, 3) := by decide +kernel
theorem dX8_init_4 : decode cX8_init 4 = .ok (.aload_n 0, 1) := by decide +kernel
theorem dX8_init_5 : decode cX8_init 5 = .ok (.sipush 260, 3) := by decide +kernel
theorem dX8_init_8 : decode cX8_init 8 = .ok (.newarray .int, 2) := by decide +kernel
theorem dX8_init_10 : decode cX8_init 10 = .ok (.putfield 9, 3) := by decide +kernel
theorem dX8_init_13 : decode cX8_init 13 = .ok (.return_, 1) := by decide +kernel
theorem dX8_hasRoom_0 : decode cX8_hasRoom 0 = .ok (.aload_n 0, 1) := by decide +kernel
theorem dX8_hasRoom_1 : decode cX8_hasRoom 1 = .ok (.getfield 13, 3) := by decide +kernel
theorem dX8_hasRoom_4 : decode cX8_hasRoom 4 = .ok (.bipush 20, 2) := by decide +kernel
theorem dX8_hasRoom_6 : decode cX8_hasRoom 6 = .ok (.iadd, 1) := by decide +kernel
theorem dX8_hasRoom_7 : decode cX8_hasRoom 7 = .ok (.sipush 260, 3) := by decide +kernel
theorem dX8_hasRoom_10 : decode cX8_hasRoom 10 = .ok (.if_icmp .gt 7, 3) := by decide +kernel
theorem dX8_hasRoom_13 : decode cX8_hasRoom 13 = .ok (.iconst 1, 1) := by decide +kernel
theorem dX8_hasRoom_14 : decode cX8_hasRoom 14 = .ok (.goto 4, 3) := by decide +kernel
theorem dX8_hasRoom_17 : decode cX8_hasRoom 17 = .ok (.iconst 0, 1) := by decide +kernel
theorem dX8_hasRoom_18 : decode cX8_hasRoom 18 = .ok (.ireturn, 1) := by decide +kernel
theorem dX8_put_0 : decode cX8_put 0 = .ok (.bipush 24, 2) := by decide +kernel
theorem dX8_put_2 : decode cX8_put 2 = .ok (.istore_n 2, 1) := by decide +kernel
theorem dX8_put_3 : decode cX8_put 3 = .ok (.iload_n 2, 1) := by decide +kernel
theorem dX8_put_4 : decode cX8_put 4 = .ok (.ifCond .lt 45, 3) := by decide +kernel
theorem dX8_put_7 : decode cX8_put 7 = .ok (.aload_n 0, 1) := by decide +kernel
theorem dX8_put_8 : decode cX8_put 8 = .ok (.getfield 13, 3) := by decide +kernel
theorem dX8_put_11 : decode cX8_put 11 = .ok (.sipush 260, 3) := by decide +kernel
theorem dX8_put_14 : decode cX8_put 14 = .ok (.if_icmp .ge 35, 3) := by decide +kernel
theorem dX8_put_17 : decode cX8_put 17 = .ok (.aload_n 0, 1) := by decide +kernel
theorem dX8_put_18 : decode cX8_put 18 = .ok (.getfield 9, 3) := by decide +kernel
theorem dX8_put_21 : decode cX8_put 21 = .ok (.aload_n 0, 1) := by decide +kernel
theorem dX8_put_22 : decode cX8_put 22 = .ok (.getfield 13, 3) := by decide +kernel
theorem dX8_put_25 : decode cX8_put 25 = .ok (.iload_n 1, 1) := by decide +kernel
theorem dX8_put_26 : decode cX8_put 26 = .ok (.iload_n 2, 1) := by decide +kernel
theorem dX8_put_27 : decode cX8_put 27 = .ok (.iushr, 1) := by decide +kernel
theorem dX8_put_28 : decode cX8_put 28 = .ok (.sipush 255, 3) := by decide +kernel
theorem dX8_put_31 : decode cX8_put 31 = .ok (.iand, 1) := by decide +kernel
theorem dX8_put_32 : decode cX8_put 32 = .ok (.iastore, 1) := by decide +kernel
theorem dX8_put_33 : decode cX8_put 33 = .ok (.aload_n 0, 1) := by decide +kernel
theorem dX8_put_34 : decode cX8_put 34 = .ok (.dup, 1) := by decide +kernel
theorem dX8_put_35 : decode cX8_put 35 = .ok (.getfield 13, 3) := by decide +kernel
theorem dX8_put_38 : decode cX8_put 38 = .ok (.iconst 1, 1) := by decide +kernel
theorem dX8_put_39 : decode cX8_put 39 = .ok (.iadd, 1) := by decide +kernel
theorem dX8_put_40 : decode cX8_put 40 = .ok (.putfield 13, 3) := by decide +kernel
theorem dX8_put_43 : decode cX8_put 43 = .ok (.iinc 2 (-8), 3) := by decide +kernel
theorem dX8_put_46 : decode cX8_put 46 = .ok (.goto (-43), 3) := by decide +kernel
theorem dX8_put_49 : decode cX8_put 49 = .ok (.return_, 1) := by decide +kernel
theorem dX8_has_0 : decode cX8_has 0 = .ok (.iload_n 1, 1) := by decide +kernel
theorem dX8_has_1 : decode cX8_has 1 = .ok (.iload_n 2, 1) := by decide +kernel
theorem dX8_has_2 : decode cX8_has 2 = .ok (.iload_n 3, 1) := by decide +kernel
theorem dX8_has_3 : decode cX8_has 3 = .ok (.invokestatic 17, 3) := by decide +kernel
theorem dX8_has_6 : decode cX8_has 6 = .ok (.ifCond .eq 15, 3) := by decide +kernel
theorem dX8_has_9 : decode cX8_has 9 = .ok (.iload_n 1, 1) := by decide +kernel
theorem dX8_has_10 : decode cX8_has 10 = .ok (.aload_n 0, 1) := by decide +kernel
theorem dX8_has_11 : decode cX8_has 11 = .ok (.getfield 13, 3) := by decide +kernel
theorem dX8_has_14 : decode cX8_has 14 = .ok (.if_icmp .gt 7, 3) := by decide +kernel
theorem dX8_has_17 : decode cX8_has 17 = .ok (.iconst 1, 1) := by decide +kernel
theorem dX8_has_18 : decode cX8_has 18 = .ok (.goto 4, 3) := by decide +kernel
theorem dX8_has_21 : decode cX8_has 21 = .ok (.iconst 0, 1) := by decide +kernel
theorem dX8_has_22 : decode cX8_has 22 = .ok (.ireturn, 1) := by decide +kernel
theorem dX8_take_0 : decode cX8_take 0 = .ok (.aload_n 0, 1) := by decide +kernel
theorem dX8_take_1 : decode cX8_take 1 = .ok (.iconst 0, 1) := by decide +kernel
theorem dX8_take_2 : decode cX8_take 2 = .ok (.putfield 13, 3) := by decide +kernel
theorem dX8_take_5 : decode cX8_take 5 = .ok (.aload_n 0, 1) := by decide +kernel
theorem dX8_take_6 : decode cX8_take 6 = .ok (.getfield 9, 3) := by decide +kernel
theorem dX8_take_9 : decode cX8_take 9 = .ok (.areturn, 1) := by decide +kernel
theorem dX9_init_0 : decode cX9_init 0 = .ok (.aload_n 0, 1) := by decide +kernel
theorem dX9_init_1 : decode cX9_init 1 = .ok (.invokespecial 1, 3) := by decide +kernel
theorem dX9_init_4 : decode cX9_init 4 = .ok (.aload_n 0, 1) := by decide +kernel
theorem dX9_init_5 : decode cX9_init 5 = .ok (.new 7, 3) := by decide +kernel
theorem dX9_init_8 : decode cX9_init 8 = .ok (.dup, 1) := by decide +kernel
theorem dX9_init_9 : decode cX9_init 9 = .ok (.invokespecial 9, 3) := by decide +kernel
theorem dX9_init_12 : decode cX9_init 12 = .ok (.putfield 10, 3) := by decide +kernel
theorem dX9_init_15 : decode cX9_init 15 = .ok (.aload_n 0, 1) := by decide +kernel
theorem dX9_init_16 : decode cX9_init 16 = .ok (.new 16, 3) := by decide +kernel
theorem dX9_init_19 : decode cX9_init 19 = .ok (.dup, 1) := by decide +kernel
theorem dX9_init_20 : decode cX9_init 20 = .ok (.invokespecial 18, 3) := by decide +kernel
theorem dX9_init_23 : decode cX9_init 23 = .ok (.putfield 19, 3) := by decide +kernel
theorem dX9_init_26 : decode cX9_init 26 = .ok (.aload_n 0, 1) := by decide +kernel
theorem dX9_init_27 : decode cX9_init 27 = .ok (.new 23, 3) := by decide +kernel
theorem dX9_init_30 : decode cX9_init 30 = .ok (.dup, 1) := by decide +kernel
theorem dX9_init_31 : decode cX9_init 31 = .ok (.invokespecial 25, 3) := by decide +kernel
theorem dX9_init_34 : decode cX9_init 34 = .ok (.putfield 26, 3) := by decide +kernel
theorem dX9_init_37 : decode cX9_init 37 = .ok (.aload_n 0, 1) := by decide +kernel
theorem dX9_init_38 : decode cX9_init 38 = .ok (.new 23, 3) := by decide +kernel
theorem dX9_init_41 : decode cX9_init 41 = .ok (.dup, 1) := by decide +kernel
theorem dX9_init_42 : decode cX9_init 42 = .ok (.invokespecial 25, 3) := by decide +kernel
theorem dX9_init_45 : decode cX9_init 45 = .ok (.putfield 30, 3) := by decide +kernel
theorem dX9_init_48 : decode cX9_init 48 = .ok (.aload_n 0, 1) := by decide +kernel
theorem dX9_init_49 : decode cX9_init 49 = .ok (.new 23, 3) := by decide +kernel
theorem dX9_init_52 : decode cX9_init 52 = .ok (.dup, 1) := by decide +kernel
theorem dX9_init_53 : decode cX9_init 53 = .ok (.invokespecial 25, 3) := by decide +kernel
theorem dX9_init_56 : decode cX9_init 56 = .ok (.putfield 33, 3) := by decide +kernel
theorem dX9_init_59 : decode cX9_init 59 = .ok (.aload_n 0, 1) := by decide +kernel
theorem dX9_init_60 : decode cX9_init 60 = .ok (.new 36, 3) := by decide +kernel
theorem dX9_init_63 : decode cX9_init 63 = .ok (.dup, 1) := by decide +kernel
theorem dX9_init_64 : decode cX9_init 64 = .ok (.invokespecial 38, 3) := by decide +kernel
theorem dX9_init_67 : decode cX9_init 67 = .ok (.putfield 39, 3) := by decide +kernel
theorem dX9_init_70 : decode cX9_init 70 = .ok (.aload_n 0, 1) := by decide +kernel
theorem dX9_init_71 : decode cX9_init 71 = .ok (.new 43, 3) := by decide +kernel
theorem dX9_init_74 : decode cX9_init 74 = .ok (.dup, 1) := by decide +kernel
theorem dX9_init_75 : decode cX9_init 75 = .ok (.invokespecial 45, 3) := by decide +kernel
theorem dX9_init_78 : decode cX9_init 78 = .ok (.putfield 46, 3) := by decide +kernel
theorem dX9_init_81 : decode cX9_init 81 = .ok (.aload_n 0, 1) := by decide +kernel
theorem dX9_init_82 : decode cX9_init 82 = .ok (.new 50, 3) := by decide +kernel
theorem dX9_init_85 : decode cX9_init 85 = .ok (.dup, 1) := by decide +kernel
theorem dX9_init_86 : decode cX9_init 86 = .ok (.invokespecial 52, 3) := by decide +kernel
theorem dX9_init_89 : decode cX9_init 89 = .ok (.putfield 53, 3) := by decide +kernel
theorem dX9_init_92 : decode cX9_init 92 = .ok (.aload_n 0, 1) := by decide +kernel
theorem dX9_init_93 : decode cX9_init 93 = .ok (.new 57, 3) := by decide +kernel
theorem dX9_init_96 : decode cX9_init 96 = .ok (.dup, 1) := by decide +kernel
theorem dX9_init_97 : decode cX9_init 97 = .ok (.invokespecial 59, 3) := by decide +kernel
theorem dX9_init_100 : decode cX9_init 100 = .ok (.putfield 60, 3) := by decide +kernel
theorem dX9_init_103 : decode cX9_init 103 = .ok (.aload_n 0, 1) := by decide +kernel
theorem dX9_init_104 : decode cX9_init 104 = .ok (.new 64, 3) := by decide +kernel
theorem dX9_init_107 : decode cX9_init 107 = .ok (.dup, 1) := by decide +kernel
theorem dX9_init_108 : decode cX9_init 108 = .ok (.invokespecial 66, 3) := by decide +kernel
theorem dX9_init_111 : decode cX9_init 111 = .ok (.putfield 67, 3) := by decide +kernel
theorem dX9_init_114 : decode cX9_init 114 = .ok (.aload_n 0, 1) := by decide +kernel
theorem dX9_init_115 : decode cX9_init 115 = .ok (.new 71, 3) := by decide +kernel
theorem dX9_init_118 : decode cX9_init 118 = .ok (.dup, 1) := by decide +kernel
theorem dX9_init_119 : decode cX9_init 119 = .ok (.invokespecial 73, 3) := by decide +kernel
theorem dX9_init_122 : decode cX9_init 122 = .ok (.putfield 74, 3) := by decide +kernel
theorem dX9_init_125 : decode cX9_init 125 = .ok (.return_, 1) := by decide +kernel
theorem dX9_parish_0 : decode cX9_parish 0 = .ok (.iload_n 1, 1) := by decide +kernel
theorem dX9_parish_1 : decode cX9_parish 1 = .ok (.iconst 0, 1) := by decide +kernel
theorem dX9_parish_2 : decode cX9_parish 2 = .ok (.bipush 11, 2) := by decide +kernel
theorem dX9_parish_4 : decode cX9_parish 4 = .ok (.invokestatic 78, 3) := by decide +kernel
theorem dX9_parish_7 : decode cX9_parish 7 = .ok (.ifCond .eq 13, 3) := by decide +kernel
theorem dX9_parish_10 : decode cX9_parish 10 = .ok (.iload_n 2, 1) := by decide +kernel
theorem dX9_parish_11 : decode cX9_parish 11 = .ok (.iconst 0, 1) := by decide +kernel
theorem dX9_parish_12 : decode cX9_parish 12 = .ok (.bipush 99, 2) := by decide +kernel
theorem dX9_parish_14 : decode cX9_parish 14 = .ok (.invokestatic 78, 3) := by decide +kernel
theorem dX9_parish_17 : decode cX9_parish 17 = .ok (.ifCond .ne 5, 3) := by decide +kernel
theorem dX9_parish_20 : decode cX9_parish 20 = .ok (.iconst 0, 1) := by decide +kernel
theorem dX9_parish_21 : decode cX9_parish 21 = .ok (.ireturn, 1) := by decide +kernel
theorem dX9_parish_22 : decode cX9_parish 22 = .ok (.aload_n 0, 1) := by decide +kernel
theorem dX9_parish_23 : decode cX9_parish 23 = .ok (.getfield 19, 3) := by decide +kernel
theorem dX9_parish_26 : decode cX9_parish 26 = .ok (.iload_n 1, 1) := by decide +kernel
theorem dX9_parish_27 : decode cX9_parish 27 = .ok (.invokevirtual 82, 3) := by decide +kernel
theorem dX9_parish_30 : decode cX9_parish 30 = .ok (.aload_n 0, 1) := by decide +kernel
theorem dX9_parish_31 : decode cX9_parish 31 = .ok (.getfield 26, 3) := by decide +kernel
theorem dX9_parish_34 : decode cX9_parish 34 = .ok (.getfield 86, 3) := by decide +kernel
theorem dX9_parish_37 : decode cX9_parish 37 = .ok (.iload_n 1, 1) := by decide +kernel
theorem dX9_parish_38 : decode cX9_parish 38 = .ok (.iload_n 2, 1) := by decide +kernel
theorem dX9_parish_39 : decode cX9_parish 39 = .ok (.iastore, 1) := by decide +kernel
theorem dX9_parish_40 : decode cX9_parish 40 = .ok (.iconst 1, 1) := by decide +kernel
theorem dX9_parish_41 : decode cX9_parish 41 = .ok (.ireturn, 1) := by decide +kernel
theorem dX9_road_0 : decode cX9_road 0 = .ok (.aload_n 0, 1) := by decide +kernel
theorem dX9_road_1 : decode cX9_road 1 = .ok (.getfield 19, 3) := by decide +kernel
theorem dX9_road_4 : decode cX9_road 4 = .ok (.iload_n 1, 1) := by decide +kernel
theorem dX9_road_5 : decode cX9_road 5 = .ok (.invokevirtual 90, 3) := by decide +kernel
theorem dX9_road_8 : decode cX9_road 8 = .ok (.ifCond .eq 29, 3) := by decide +kernel
theorem dX9_road_11 : decode cX9_road 11 = .ok (.aload_n 0, 1) := by decide +kernel
theorem dX9_road_12 : decode cX9_road 12 = .ok (.getfield 19, 3) := by decide +kernel
theorem dX9_road_15 : decode cX9_road 15 = .ok (.iload_n 2, 1) := by decide +kernel
theorem dX9_road_16 : decode cX9_road 16 = .ok (.invokevirtual 90, 3) := by decide +kernel
theorem dX9_road_19 : decode cX9_road 19 = .ok (.ifCond .eq 18, 3) := by decide +kernel
theorem dX9_road_22 : decode cX9_road 22 = .ok (.iload_n 1, 1) := by decide +kernel
theorem dX9_road_23 : decode cX9_road 23 = .ok (.iload_n 2, 1) := by decide +kernel
theorem dX9_road_24 : decode cX9_road 24 = .ok (.if_icmp .eq 13, 3) := by decide +kernel
theorem dX9_road_27 : decode cX9_road 27 = .ok (.iload_n 3, 1) := by decide +kernel
theorem dX9_road_28 : decode cX9_road 28 = .ok (.iconst 0, 1) := by decide +kernel
theorem dX9_road_29 : decode cX9_road 29 = .ok (.bipush 99, 2) := by decide +kernel
theorem dX9_road_31 : decode cX9_road 31 = .ok (.invokestatic 78, 3) := by decide +kernel
theorem dX9_road_34 : decode cX9_road 34 = .ok (.ifCond .ne 5, 3) := by decide +kernel
theorem dX9_road_37 : decode cX9_road 37 = .ok (.iconst 0, 1) := by decide +kernel
theorem dX9_road_38 : decode cX9_road 38 = .ok (.ireturn, 1) := by decide +kernel
theorem dX9_road_39 : decode cX9_road 39 = .ok (.aload_n 0, 1) := by decide +kernel
theorem dX9_road_40 : decode cX9_road 40 = .ok (.getfield 19, 3) := by decide +kernel
theorem dX9_road_43 : decode cX9_road 43 = .ok (.iload_n 1, 1) := by decide +kernel
theorem dX9_road_44 : decode cX9_road 44 = .ok (.iload_n 2, 1) := by decide +kernel
theorem dX9_road_45 : decode cX9_road 45 = .ok (.iload_n 3, 1) := by decide +kernel
theorem dX9_road_46 : decode cX9_road 46 = .ok (.invokevirtual 94, 3) := by decide +kernel
theorem dX9_road_49 : decode cX9_road 49 = .ok (.iconst 1, 1) := by decide +kernel
theorem dX9_road_50 : decode cX9_road 50 = .ok (.ireturn, 1) := by decide +kernel
theorem dX9_letter_0 : decode cX9_letter 0 = .ok (.iload_n 1, 1) := by decide +kernel
theorem dX9_letter_1 : decode cX9_letter 1 = .ok (.invokestatic 98, 3) := by decide +kernel
theorem dX9_letter_4 : decode cX9_letter 4 = .ok (.ifCond .eq 25, 3) := by decide +kernel
theorem dX9_letter_7 : decode cX9_letter 7 = .ok (.aload_n 0, 1) := by decide +kernel
theorem dX9_letter_8 : decode cX9_letter 8 = .ok (.getfield 19, 3) := by decide +kernel
theorem dX9_letter_11 : decode cX9_letter 11 = .ok (.iload_n 2, 1) := by decide +kernel
theorem dX9_letter_12 : decode cX9_letter 12 = .ok (.invokevirtual 90, 3) := by decide +kernel
theorem dX9_letter_15 : decode cX9_letter 15 = .ok (.ifCond .eq 14, 3) := by decide +kernel
theorem dX9_letter_18 : decode cX9_letter 18 = .ok (.iload_n 3, 1) := by decide +kernel
theorem dX9_letter_19 : decode cX9_letter 19 = .ok (.iconst 1, 1) := by decide +kernel
theorem dX9_letter_20 : decode cX9_letter 20 = .ok (.sipush 9999, 3) := by decide +kernel
theorem dX9_letter_23 : decode cX9_letter 23 = .ok (.invokestatic 78, 3) := by decide +kernel
theorem dX9_letter_26 : decode cX9_letter 26 = .ok (.ifCond .ne 5, 3) := by decide +kernel
theorem dX9_letter_29 : decode cX9_letter 29 = .ok (.iconst 0, 1) := by decide +kernel
theorem dX9_letter_30 : decode cX9_letter 30 = .ok (.ireturn, 1) := by decide +kernel
theorem dX9_letter_31 : decode cX9_letter 31 = .ok (.aload_n 0, 1) := by decide +kernel
theorem dX9_letter_32 : decode cX9_letter 32 = .ok (.getfield 26, 3) := by decide +kernel
theorem dX9_letter_35 : decode cX9_letter 35 = .ok (.iload_n 1, 1) := by decide +kernel
theorem dX9_letter_36 : decode cX9_letter 36 = .ok (.iload_n 2, 1) := by decide +kernel
theorem dX9_letter_37 : decode cX9_letter 37 = .ok (.iload_n 3, 1) := by decide +kernel
theorem dX9_letter_38 : decode cX9_letter 38 = .ok (.invokevirtual 101, 3) := by decide +kernel
theorem dX9_letter_41 : decode cX9_letter 41 = .ok (.iconst 1, 1) := by decide +kernel
theorem dX9_letter_42 : decode cX9_letter 42 = .ok (.ireturn, 1) := by decide +kernel
theorem dX9_feed_0 : decode cX9_feed 0 = .ok (.aload_n 0, 1) := by decide +kernel
theorem dX9_feed_1 : decode cX9_feed 1 = .ok (.getfield 10, 3) := by decide +kernel
theorem dX9_feed_4 : decode cX9_feed 4 = .ok (.invokevirtual 104, 3) := by decide +kernel
theorem dX9_feed_7 : decode cX9_feed 7 = .ok (.ifCond .ne 5, 3) := by decide +kernel
theorem dX9_feed_10 : decode cX9_feed 10 = .ok (.iconst (-1), 1) := by decide +kernel
theorem dX9_feed_11 : decode cX9_feed 11 = .ok (.ireturn, 1) := by decide +kernel
theorem dX9_feed_12 : decode cX9_feed 12 = .ok (.aload_n 0, 1) := by decide +kernel
theorem dX9_feed_13 : decode cX9_feed 13 = .ok (.getfield 10, 3) := by decide +kernel
theorem dX9_feed_16 : decode cX9_feed 16 = .ok (.iload_n 1, 1) := by decide +kernel
theorem dX9_feed_17 : decode cX9_feed 17 = .ok (.invokevirtual 108, 3) := by decide +kernel
theorem dX9_feed_20 : decode cX9_feed 20 = .ok (.aload_n 0, 1) := by decide +kernel
theorem dX9_feed_21 : decode cX9_feed 21 = .ok (.getfield 10, 3) := by decide +kernel
theorem dX9_feed_24 : decode cX9_feed 24 = .ok (.iload_n 2, 1) := by decide +kernel
theorem dX9_feed_25 : decode cX9_feed 25 = .ok (.invokevirtual 108, 3) := by decide +kernel
theorem dX9_feed_28 : decode cX9_feed 28 = .ok (.aload_n 0, 1) := by decide +kernel
theorem dX9_feed_29 : decode cX9_feed 29 = .ok (.getfield 10, 3) := by decide +kernel
theorem dX9_feed_32 : decode cX9_feed 32 = .ok (.iload_n 3, 1) := by decide +kernel
theorem dX9_feed_33 : decode cX9_feed 33 = .ok (.invokevirtual 108, 3) := by decide +kernel
theorem dX9_feed_36 : decode cX9_feed 36 = .ok (.aload_n 0, 1) := by decide +kernel
theorem dX9_feed_37 : decode cX9_feed 37 = .ok (.getfield 10, 3) := by decide +kernel
theorem dX9_feed_40 : decode cX9_feed 40 = .ok (.iload 4, 2) := by decide +kernel
theorem dX9_feed_42 : decode cX9_feed 42 = .ok (.invokevirtual 108, 3) := by decide +kernel
theorem dX9_feed_45 : decode cX9_feed 45 = .ok (.aload_n 0, 1) := by decide +kernel
theorem dX9_feed_46 : decode cX9_feed 46 = .ok (.getfield 10, 3) := by decide +kernel
theorem dX9_feed_49 : decode cX9_feed 49 = .ok (.iload 5, 2) := by decide +kernel
theorem dX9_feed_51 : decode cX9_feed 51 = .ok (.invokevirtual 108, 3) := by decide +kernel
theorem dX9_feed_54 : decode cX9_feed 54 = .ok (.aload_n 0, 1) := by decide +kernel
theorem dX9_feed_55 : decode cX9_feed 55 = .ok (.getfield 10, 3) := by decide +kernel
theorem dX9_feed_58 : decode cX9_feed 58 = .ok (.getfield 111, 3) := by decide +kernel
theorem dX9_feed_61 : decode cX9_feed 61 = .ok (.ireturn, 1) := by decide +kernel
theorem dX9_law_0 : decode cX9_law 0 = .ok (.aload_n 0, 1) := by decide +kernel
theorem dX9_law_1 : decode cX9_law 1 = .ok (.getfield 10, 3) := by decide +kernel
theorem dX9_law_4 : decode cX9_law 4 = .ok (.iload_n 1, 1) := by decide +kernel
theorem dX9_law_5 : decode cX9_law 5 = .ok (.iconst 1, 1) := by decide +kernel
theorem dX9_law_6 : decode cX9_law 6 = .ok (.sipush 240, 3) := by decide +kernel
theorem dX9_law_9 : decode cX9_law 9 = .ok (.invokevirtual 115, 3) := by decide +kernel
theorem dX9_law_12 : decode cX9_law 12 = .ok (.ifCond .ne 5, 3) := by decide +kernel
theorem dX9_law_15 : decode cX9_law 15 = .ok (.iconst (-1), 1) := by decide +kernel
theorem dX9_law_16 : decode cX9_law 16 = .ok (.ireturn, 1) := by decide +kernel
theorem dX9_law_17 : decode cX9_law 17 = .ok (.aload_n 0, 1) := by decide +kernel
theorem dX9_law_18 : decode cX9_law 18 = .ok (.getfield 39, 3) := by decide +kernel
theorem dX9_law_21 : decode cX9_law 21 = .ok (.aload_n 0, 1) := by decide +kernel
theorem dX9_law_22 : decode cX9_law 22 = .ok (.getfield 10, 3) := by decide +kernel
theorem dX9_law_25 : decode cX9_law 25 = .ok (.invokevirtual 118, 3) := by decide +kernel
theorem dX9_law_28 : decode cX9_law 28 = .ok (.iload_n 1, 1) := by decide +kernel
theorem dX9_law_29 : decode cX9_law 29 = .ok (.invokevirtual 122, 3) := by decide +kernel
theorem dX9_law_32 : decode cX9_law 32 = .ok (.istore_n 2, 1) := by decide +kernel
theorem dX9_law_33 : decode cX9_law 33 = .ok (.iload_n 2, 1) := by decide +kernel
theorem dX9_law_34 : decode cX9_law 34 = .ok (.ifCond .le 18, 3) := by decide +kernel
theorem dX9_law_37 : decode cX9_law 37 = .ok (.aload_n 0, 1) := by decide +kernel
theorem dX9_law_38 : decode cX9_law 38 = .ok (.aload_n 0, 1) := by decide +kernel
theorem dX9_law_39 : decode cX9_law 39 = .ok (.getfield 39, 3) := by decide +kernel
theorem dX9_law_42 : decode cX9_law 42 = .ok (.aload_n 0, 1) := by decide +kernel
theorem dX9_law_43 : decode cX9_law 43 = .ok (.getfield 74, 3) := by decide +kernel
theorem dX9_law_46 : decode cX9_law 46 = .ok (.invokevirtual 126, 3) := by decide +kernel
theorem dX9_law_49 : decode cX9_law 49 = .ok (.putfield 74, 3) := by decide +kernel
theorem dX9_law_52 : decode cX9_law 52 = .ok (.iload_n 2, 1) := by decide +kernel
theorem dX9_law_53 : decode cX9_law 53 = .ok (.ireturn, 1) := by decide +kernel
theorem dX9_report_0 : decode cX9_report 0 = .ok (.aload_n 0, 1) := by decide +kernel
theorem dX9_report_1 : decode cX9_report 1 = .ok (.getfield 10, 3) := by decide +kernel
theorem dX9_report_4 : decode cX9_report 4 = .ok (.iload_n 1, 1) := by decide +kernel
theorem dX9_report_5 : decode cX9_report 5 = .ok (.iconst 1, 1) := by decide +kernel
theorem dX9_report_6 : decode cX9_report 6 = .ok (.bipush 120, 2) := by decide +kernel
theorem dX9_report_8 : decode cX9_report 8 = .ok (.invokevirtual 115, 3) := by decide +kernel
theorem dX9_report_11 : decode cX9_report 11 = .ok (.ifCond .ne 5, 3) := by decide +kernel
theorem dX9_report_14 : decode cX9_report 14 = .ok (.iconst (-1), 1) := by decide +kernel
theorem dX9_report_15 : decode cX9_report 15 = .ok (.ireturn, 1) := by decide +kernel
theorem dX9_report_16 : decode cX9_report 16 = .ok (.aload_n 0, 1) := by decide +kernel
theorem dX9_report_17 : decode cX9_report 17 = .ok (.getfield 46, 3) := by decide +kernel
theorem dX9_report_20 : decode cX9_report 20 = .ok (.aload_n 0, 1) := by decide +kernel
theorem dX9_report_21 : decode cX9_report 21 = .ok (.getfield 10, 3) := by decide +kernel
theorem dX9_report_24 : decode cX9_report 24 = .ok (.invokevirtual 118, 3) := by decide +kernel
theorem dX9_report_27 : decode cX9_report 27 = .ok (.iload_n 1, 1) := by decide +kernel
theorem dX9_report_28 : decode cX9_report 28 = .ok (.aload_n 0, 1) := by decide +kernel
theorem dX9_report_29 : decode cX9_report 29 = .ok (.getfield 26, 3) := by decide +kernel
theorem dX9_report_32 : decode cX9_report 32 = .ok (.getfield 130, 3) := by decide +kernel
theorem dX9_report_35 : decode cX9_report 35 = .ok (.aload_n 0, 1) := by decide +kernel
theorem dX9_report_36 : decode cX9_report 36 = .ok (.getfield 19, 3) := by decide +kernel
theorem dX9_report_39 : decode cX9_report 39 = .ok (.getfield 133, 3) := by decide +kernel
theorem dX9_report_42 : decode cX9_report 42 = .ok (.invokevirtual 134, 3) := by decide +kernel
theorem dX9_report_45 : decode cX9_report 45 = .ok (.istore_n 2, 1) := by decide +kernel
theorem dX9_report_46 : decode cX9_report 46 = .ok (.iconst 0, 1) := by decide +kernel
theorem dX9_report_47 : decode cX9_report 47 = .ok (.istore_n 3, 1) := by decide +kernel
theorem dX9_report_48 : decode cX9_report 48 = .ok (.iload_n 3, 1) := by decide +kernel
theorem dX9_report_49 : decode cX9_report 49 = .ok (.iload_n 2, 1) := by decide +kernel
theorem dX9_report_50 : decode cX9_report 50 = .ok (.if_icmp .ge 58, 3) := by decide +kernel
theorem dX9_report_53 : decode cX9_report 53 = .ok (.iload_n 3, 1) := by decide +kernel
theorem dX9_report_54 : decode cX9_report 54 = .ok (.bipush 20, 2) := by decide +kernel
theorem dX9_report_56 : decode cX9_report 56 = .ok (.if_icmp .ge 52, 3) := by decide +kernel
theorem dX9_report_59 : decode cX9_report 59 = .ok (.aload_n 0, 1) := by decide +kernel
theorem dX9_report_60 : decode cX9_report 60 = .ok (.getfield 26, 3) := by decide +kernel
theorem dX9_report_63 : decode cX9_report 63 = .ok (.aload_n 0, 1) := by decide +kernel
theorem dX9_report_64 : decode cX9_report 64 = .ok (.getfield 46, 3) := by decide +kernel
theorem dX9_report_67 : decode cX9_report 67 = .ok (.getfield 137, 3) := by decide +kernel
theorem dX9_report_70 : decode cX9_report 70 = .ok (.iload_n 3, 1) := by decide +kernel
theorem dX9_report_71 : decode cX9_report 71 = .ok (.iaload, 1) := by decide +kernel
theorem dX9_report_72 : decode cX9_report 72 = .ok (.aload_n 0, 1) := by decide +kernel
theorem dX9_report_73 : decode cX9_report 73 = .ok (.getfield 46, 3) := by decide +kernel
theorem dX9_report_76 : decode cX9_report 76 = .ok (.getfield 140, 3) := by decide +kernel
theorem dX9_report_79 : decode cX9_report 79 = .ok (.iload_n 3, 1) := by decide +kernel
theorem dX9_report_80 : decode cX9_report 80 = .ok (.iaload, 1) := by decide +kernel
theorem dX9_report_81 : decode cX9_report 81 = .ok (.aload_n 0, 1) := by decide +kernel
theorem dX9_report_82 : decode cX9_report 82 = .ok (.getfield 46, 3) := by decide +kernel
theorem dX9_report_85 : decode cX9_report 85 = .ok (.getfield 143, 3) := by decide +kernel
theorem dX9_report_88 : decode cX9_report 88 = .ok (.iload_n 3, 1) := by decide +kernel
theorem dX9_report_89 : decode cX9_report 89 = .ok (.iaload, 1) := by decide +kernel
theorem dX9_report_90 : decode cX9_report 90 = .ok (.aload_n 0, 1) := by decide +kernel
theorem dX9_report_91 : decode cX9_report 91 = .ok (.getfield 46, 3) := by decide +kernel
theorem dX9_report_94 : decode cX9_report 94 = .ok (.getfield 146, 3) := by decide +kernel
theorem dX9_report_97 : decode cX9_report 97 = .ok (.iload_n 3, 1) := by decide +kernel
theorem dX9_report_98 : decode cX9_report 98 = .ok (.iaload, 1) := by decide +kernel
theorem dX9_report_99 : decode cX9_report 99 = .ok (.invokevirtual 149, 3) := by decide +kernel
theorem dX9_report_102 : decode cX9_report 102 = .ok (.iinc 3 1, 3) := by decide +kernel
theorem dX9_report_105 : decode cX9_report 105 = .ok (.goto (-57), 3) := by decide +kernel
theorem dX9_report_108 : decode cX9_report 108 = .ok (.iload_n 2, 1) := by decide +kernel
theorem dX9_report_109 : decode cX9_report 109 = .ok (.ireturn, 1) := by decide +kernel
theorem dX9_text_0 : decode cX9_text 0 = .ok (.iload_n 1, 1) := by decide +kernel
theorem dX9_text_1 : decode cX9_text 1 = .ok (.invokestatic 98, 3) := by decide +kernel
theorem dX9_text_4 : decode cX9_text 4 = .ok (.ifCond .eq 17, 3) := by decide +kernel
theorem dX9_text_7 : decode cX9_text 7 = .ok (.aload_n 0, 1) := by decide +kernel
theorem dX9_text_8 : decode cX9_text 8 = .ok (.getfield 10, 3) := by decide +kernel
theorem dX9_text_11 : decode cX9_text 11 = .ok (.iload_n 2, 1) := by decide +kernel
theorem dX9_text_12 : decode cX9_text 12 = .ok (.iconst 1, 1) := by decide +kernel
theorem dX9_text_13 : decode cX9_text 13 = .ok (.bipush 40, 2) := by decide +kernel
theorem dX9_text_15 : decode cX9_text 15 = .ok (.invokevirtual 115, 3) := by decide +kernel
theorem dX9_text_18 : decode cX9_text 18 = .ok (.ifCond .ne 5, 3) := by decide +kernel
theorem dX9_text_21 : decode cX9_text 21 = .ok (.iconst 0, 1) := by decide +kernel
theorem dX9_text_22 : decode cX9_text 22 = .ok (.ireturn, 1) := by decide +kernel
theorem dX9_text_23 : decode cX9_text 23 = .ok (.aload_n 0, 1) := by decide +kernel
theorem dX9_text_24 : decode cX9_text 24 = .ok (.getfield 60, 3) := by decide +kernel
theorem dX9_text_27 : decode cX9_text 27 = .ok (.iload_n 1, 1) := by decide +kernel
theorem dX9_text_28 : decode cX9_text 28 = .ok (.aload_n 0, 1) := by decide +kernel
theorem dX9_text_29 : decode cX9_text 29 = .ok (.getfield 10, 3) := by decide +kernel
theorem dX9_text_32 : decode cX9_text 32 = .ok (.invokevirtual 118, 3) := by decide +kernel
theorem dX9_text_35 : decode cX9_text 35 = .ok (.iload_n 2, 1) := by decide +kernel
theorem dX9_text_36 : decode cX9_text 36 = .ok (.invokevirtual 153, 3) := by decide +kernel
theorem dX9_text_39 : decode cX9_text 39 = .ok (.iconst 1, 1) := by decide +kernel
theorem dX9_text_40 : decode cX9_text 40 = .ok (.ireturn, 1) := by decide +kernel
theorem dX9_months_0 : decode cX9_months 0 = .ok (.iload_n 1, 1) := by decide +kernel
theorem dX9_months_1 : decode cX9_months 1 = .ok (.iconst 1, 1) := by decide +kernel
theorem dX9_months_2 : decode cX9_months 2 = .ok (.bipush 60, 2) := by decide +kernel
theorem dX9_months_4 : decode cX9_months 4 = .ok (.invokestatic 78, 3) := by decide +kernel
theorem dX9_months_7 : decode cX9_months 7 = .ok (.ifCond .ne 5, 3) := by decide +kernel
theorem dX9_months_10 : decode cX9_months 10 = .ok (.iconst (-1), 1) := by decide +kernel
theorem dX9_months_11 : decode cX9_months 11 = .ok (.ireturn, 1) := by decide +kernel
theorem dX9_months_12 : decode cX9_months 12 = .ok (.aload_n 0, 1) := by decide +kernel
theorem dX9_months_13 : decode cX9_months 13 = .ok (.getfield 26, 3) := by decide +kernel
theorem dX9_months_16 : decode cX9_months 16 = .ok (.iload_n 1, 1) := by decide +kernel
theorem dX9_months_17 : decode cX9_months 17 = .ok (.aload_n 0, 1) := by decide +kernel
theorem dX9_months_18 : decode cX9_months 18 = .ok (.getfield 19, 3) := by decide +kernel
theorem dX9_months_21 : decode cX9_months 21 = .ok (.aload_n 0, 1) := by decide +kernel
theorem dX9_months_22 : decode cX9_months 22 = .ok (.getfield 74, 3) := by decide +kernel
theorem dX9_months_25 : decode cX9_months 25 = .ok (.invokevirtual 157, 3) := by decide +kernel
theorem dX9_months_28 : decode cX9_months 28 = .ok (.aload_n 0, 1) := by decide +kernel
theorem dX9_months_29 : decode cX9_months 29 = .ok (.getfield 26, 3) := by decide +kernel
theorem dX9_months_32 : decode cX9_months 32 = .ok (.getfield 161, 3) := by decide +kernel
theorem dX9_months_35 : decode cX9_months 35 = .ok (.ireturn, 1) := by decide +kernel
theorem dX9_tried_0 : decode cX9_tried 0 = .ok (.iload_n 1, 1) := by decide +kernel
theorem dX9_tried_1 : decode cX9_tried 1 = .ok (.iconst 1, 1) := by decide +kernel
theorem dX9_tried_2 : decode cX9_tried 2 = .ok (.bipush 60, 2) := by decide +kernel
theorem dX9_tried_4 : decode cX9_tried 4 = .ok (.invokestatic 78, 3) := by decide +kernel
theorem dX9_tried_7 : decode cX9_tried 7 = .ok (.ifCond .eq 26, 3) := by decide +kernel
theorem dX9_tried_10 : decode cX9_tried 10 = .ok (.iload_n 2, 1) := by decide +kernel
theorem dX9_tried_11 : decode cX9_tried 11 = .ok (.iconst 0, 1) := by decide +kernel
theorem dX9_tried_12 : decode cX9_tried 12 = .ok (.iconst 3, 1) := by decide +kernel
theorem dX9_tried_13 : decode cX9_tried 13 = .ok (.invokestatic 78, 3) := by decide +kernel
theorem dX9_tried_16 : decode cX9_tried 16 = .ok (.ifCond .ne 19, 3) := by decide +kernel
theorem dX9_tried_19 : decode cX9_tried 19 = .ok (.aload_n 0, 1) := by decide +kernel
theorem dX9_tried_20 : decode cX9_tried 20 = .ok (.getfield 26, 3) := by decide +kernel
theorem dX9_tried_23 : decode cX9_tried 23 = .ok (.iload_n 2, 1) := by decide +kernel
theorem dX9_tried_24 : decode cX9_tried 24 = .ok (.bipush 10, 2) := by decide +kernel
theorem dX9_tried_26 : decode cX9_tried 26 = .ok (.isub, 1) := by decide +kernel
theorem dX9_tried_27 : decode cX9_tried 27 = .ok (.invokevirtual 164, 3) := by decide +kernel
theorem dX9_tried_30 : decode cX9_tried 30 = .ok (.ifCond .ne 5, 3) := by decide +kernel
theorem dX9_tried_33 : decode cX9_tried 33 = .ok (.iconst (-1), 1) := by decide +kernel
theorem dX9_tried_34 : decode cX9_tried 34 = .ok (.ireturn, 1) := by decide +kernel
theorem dX9_tried_35 : decode cX9_tried 35 = .ok (.aload_n 0, 1) := by decide +kernel
theorem dX9_tried_36 : decode cX9_tried 36 = .ok (.getfield 33, 3) := by decide +kernel
theorem dX9_tried_39 : decode cX9_tried 39 = .ok (.aload_n 0, 1) := by decide +kernel
theorem dX9_tried_40 : decode cX9_tried 40 = .ok (.getfield 26, 3) := by decide +kernel
theorem dX9_tried_43 : decode cX9_tried 43 = .ok (.invokevirtual 165, 3) := by decide +kernel
theorem dX9_tried_46 : decode cX9_tried 46 = .ok (.aload_n 0, 1) := by decide +kernel
theorem dX9_tried_47 : decode cX9_tried 47 = .ok (.getfield 33, 3) := by decide +kernel
theorem dX9_tried_50 : decode cX9_tried 50 = .ok (.iload_n 1, 1) := by decide +kernel
theorem dX9_tried_51 : decode cX9_tried 51 = .ok (.aload_n 0, 1) := by decide +kernel
theorem dX9_tried_52 : decode cX9_tried 52 = .ok (.getfield 19, 3) := by decide +kernel
theorem dX9_tried_55 : decode cX9_tried 55 = .ok (.aload_n 0, 1) := by decide +kernel
theorem dX9_tried_56 : decode cX9_tried 56 = .ok (.getfield 74, 3) := by decide +kernel
theorem dX9_tried_59 : decode cX9_tried 59 = .ok (.invokevirtual 157, 3) := by decide +kernel
theorem dX9_tried_62 : decode cX9_tried 62 = .ok (.iload_n 2, 1) := by decide +kernel
theorem dX9_tried_63 : decode cX9_tried 63 = .ok (.tableswitch 77 0 3 #[29, 37, 45, 61], 29) := by decide +kernel
theorem dX9_tried_92 : decode cX9_tried 92 = .ok (.aload_n 0, 1) := by decide +kernel
theorem dX9_tried_93 : decode cX9_tried 93 = .ok (.getfield 33, 3) := by decide +kernel
theorem dX9_tried_96 : decode cX9_tried 96 = .ok (.getfield 161, 3) := by decide +kernel
theorem dX9_tried_99 : decode cX9_tried 99 = .ok (.ireturn, 1) := by decide +kernel
theorem dX9_tried_100 : decode cX9_tried 100 = .ok (.aload_n 0, 1) := by decide +kernel
theorem dX9_tried_101 : decode cX9_tried 101 = .ok (.getfield 33, 3) := by decide +kernel
theorem dX9_tried_104 : decode cX9_tried 104 = .ok (.getfield 169, 3) := by decide +kernel
theorem dX9_tried_107 : decode cX9_tried 107 = .ok (.ireturn, 1) := by decide +kernel
theorem dX9_tried_108 : decode cX9_tried 108 = .ok (.aload_n 0, 1) := by decide +kernel
theorem dX9_tried_109 : decode cX9_tried 109 = .ok (.getfield 33, 3) := by decide +kernel
theorem dX9_tried_112 : decode cX9_tried 112 = .ok (.getfield 172, 3) := by decide +kernel
theorem dX9_tried_115 : decode cX9_tried 115 = .ok (.aload_n 0, 1) := by decide +kernel
theorem dX9_tried_116 : decode cX9_tried 116 = .ok (.getfield 26, 3) := by decide +kernel
theorem dX9_tried_119 : decode cX9_tried 119 = .ok (.getfield 172, 3) := by decide +kernel
theorem dX9_tried_122 : decode cX9_tried 122 = .ok (.isub, 1) := by decide +kernel
theorem dX9_tried_123 : decode cX9_tried 123 = .ok (.ireturn, 1) := by decide +kernel
theorem dX9_tried_124 : decode cX9_tried 124 = .ok (.aload_n 0, 1) := by decide +kernel
theorem dX9_tried_125 : decode cX9_tried 125 = .ok (.getfield 33, 3) := by decide +kernel
theorem dX9_tried_128 : decode cX9_tried 128 = .ok (.getfield 175, 3) := by decide +kernel
theorem dX9_tried_131 : decode cX9_tried 131 = .ok (.aload_n 0, 1) := by decide +kernel
theorem dX9_tried_132 : decode cX9_tried 132 = .ok (.getfield 26, 3) := by decide +kernel
theorem dX9_tried_135 : decode cX9_tried 135 = .ok (.getfield 175, 3) := by decide +kernel
theorem dX9_tried_138 : decode cX9_tried 138 = .ok (.isub, 1) := by decide +kernel
theorem dX9_tried_139 : decode cX9_tried 139 = .ok (.ireturn, 1) := by decide +kernel
theorem dX9_tried_140 : decode cX9_tried 140 = .ok (.aload_n 0, 1) := by decide +kernel
theorem dX9_tried_141 : decode cX9_tried 141 = .ok (.getfield 33, 3) := by decide +kernel
theorem dX9_tried_144 : decode cX9_tried 144 = .ok (.iload_n 2, 1) := by decide +kernel
theorem dX9_tried_145 : decode cX9_tried 145 = .ok (.bipush 10, 2) := by decide +kernel
theorem dX9_tried_147 : decode cX9_tried 147 = .ok (.isub, 1) := by decide +kernel
theorem dX9_tried_148 : decode cX9_tried 148 = .ok (.invokevirtual 178, 3) := by decide +kernel
theorem dX9_tried_151 : decode cX9_tried 151 = .ok (.ireturn, 1) := by decide +kernel
theorem dX9_parishIs_0 : decode cX9_parishIs 0 = .ok (.aload_n 0, 1) := by decide +kernel
theorem dX9_parishIs_1 : decode cX9_parishIs 1 = .ok (.getfield 19, 3) := by decide +kernel
theorem dX9_parishIs_4 : decode cX9_parishIs 4 = .ok (.iload_n 1, 1) := by decide +kernel
theorem dX9_parishIs_5 : decode cX9_parishIs 5 = .ok (.invokevirtual 90, 3) := by decide +kernel
theorem dX9_parishIs_8 : decode cX9_parishIs 8 = .ok (.ifCond .ne 5, 3) := by decide +kernel
theorem dX9_parishIs_11 : decode cX9_parishIs 11 = .ok (.iconst (-1), 1) := by decide +kernel
theorem dX9_parishIs_12 : decode cX9_parishIs 12 = .ok (.ireturn, 1) := by decide +kernel
theorem dX9_parishIs_13 : decode cX9_parishIs 13 = .ok (.iload_n 2, 1) := by decide +kernel
theorem dX9_parishIs_14 : decode cX9_parishIs 14 = .ok (.tableswitch 73 0 3 #[30, 40, 49, 61], 30) := by decide +kernel
theorem dX9_parishIs_44 : decode cX9_parishIs 44 = .ok (.aload_n 0, 1) := by decide +kernel
theorem dX9_parishIs_45 : decode cX9_parishIs 45 = .ok (.getfield 26, 3) := by decide +kernel
theorem dX9_parishIs_48 : decode cX9_parishIs 48 = .ok (.getfield 86, 3) := by decide +kernel
theorem dX9_parishIs_51 : decode cX9_parishIs 51 = .ok (.iload_n 1, 1) := by decide +kernel
theorem dX9_parishIs_52 : decode cX9_parishIs 52 = .ok (.iaload, 1) := by decide +kernel
theorem dX9_parishIs_53 : decode cX9_parishIs 53 = .ok (.ireturn, 1) := by decide +kernel
theorem dX9_parishIs_54 : decode cX9_parishIs 54 = .ok (.aload_n 0, 1) := by decide +kernel
theorem dX9_parishIs_55 : decode cX9_parishIs 55 = .ok (.getfield 26, 3) := by decide +kernel
theorem dX9_parishIs_58 : decode cX9_parishIs 58 = .ok (.iload_n 1, 1) := by decide +kernel
theorem dX9_parishIs_59 : decode cX9_parishIs 59 = .ok (.invokevirtual 182, 3) := by decide +kernel
theorem dX9_parishIs_62 : decode cX9_parishIs 62 = .ok (.ireturn, 1) := by decide +kernel
theorem dX9_parishIs_63 : decode cX9_parishIs 63 = .ok (.aload_n 0, 1) := by decide +kernel
theorem dX9_parishIs_64 : decode cX9_parishIs 64 = .ok (.getfield 26, 3) := by decide +kernel
theorem dX9_parishIs_67 : decode cX9_parishIs 67 = .ok (.getfield 185, 3) := by decide +kernel
theorem dX9_parishIs_70 : decode cX9_parishIs 70 = .ok (.iload_n 1, 1) := by decide +kernel
theorem dX9_parishIs_71 : decode cX9_parishIs 71 = .ok (.invokestatic 188, 3) := by decide +kernel
theorem dX9_parishIs_74 : decode cX9_parishIs 74 = .ok (.ireturn, 1) := by decide +kernel
theorem dX9_parishIs_75 : decode cX9_parishIs 75 = .ok (.aload_n 0, 1) := by decide +kernel
theorem dX9_parishIs_76 : decode cX9_parishIs 76 = .ok (.getfield 26, 3) := by decide +kernel
theorem dX9_parishIs_79 : decode cX9_parishIs 79 = .ok (.getfield 191, 3) := by decide +kernel
theorem dX9_parishIs_82 : decode cX9_parishIs 82 = .ok (.iload_n 1, 1) := by decide +kernel
theorem dX9_parishIs_83 : decode cX9_parishIs 83 = .ok (.invokestatic 188, 3) := by decide +kernel
theorem dX9_parishIs_86 : decode cX9_parishIs 86 = .ok (.ireturn, 1) := by decide +kernel
theorem dX9_parishIs_87 : decode cX9_parishIs 87 = .ok (.iconst (-1), 1) := by decide +kernel
theorem dX9_parishIs_88 : decode cX9_parishIs 88 = .ok (.ireturn, 1) := by decide +kernel
theorem dX9_letterIs_0 : decode cX9_letterIs 0 = .ok (.aload_n 0, 1) := by decide +kernel
theorem dX9_letterIs_1 : decode cX9_letterIs 1 = .ok (.getfield 26, 3) := by decide +kernel
theorem dX9_letterIs_4 : decode cX9_letterIs 4 = .ok (.iload_n 1, 1) := by decide +kernel
theorem dX9_letterIs_5 : decode cX9_letterIs 5 = .ok (.invokevirtual 164, 3) := by decide +kernel
theorem dX9_letterIs_8 : decode cX9_letterIs 8 = .ok (.ifCond .ne 5, 3) := by decide +kernel
theorem dX9_letterIs_11 : decode cX9_letterIs 11 = .ok (.iconst (-1), 1) := by decide +kernel
theorem dX9_letterIs_12 : decode cX9_letterIs 12 = .ok (.ireturn, 1) := by decide +kernel
theorem dX9_letterIs_13 : decode cX9_letterIs 13 = .ok (.iload_n 2, 1) := by decide +kernel
theorem dX9_letterIs_14 : decode cX9_letterIs 14 = .ok (.tableswitch 105 0 5 #[38, 48, 58, 68, 85, 95], 38) := by decide +kernel
theorem dX9_letterIs_52 : decode cX9_letterIs 52 = .ok (.aload_n 0, 1) := by decide +kernel
theorem dX9_letterIs_53 : decode cX9_letterIs 53 = .ok (.getfield 26, 3) := by decide +kernel
theorem dX9_letterIs_56 : decode cX9_letterIs 56 = .ok (.getfield 193, 3) := by decide +kernel
theorem dX9_letterIs_59 : decode cX9_letterIs 59 = .ok (.iload_n 1, 1) := by decide +kernel
theorem dX9_letterIs_60 : decode cX9_letterIs 60 = .ok (.iaload, 1) := by decide +kernel
theorem dX9_letterIs_61 : decode cX9_letterIs 61 = .ok (.ireturn, 1) := by decide +kernel
theorem dX9_letterIs_62 : decode cX9_letterIs 62 = .ok (.aload_n 0, 1) := by decide +kernel
theorem dX9_letterIs_63 : decode cX9_letterIs 63 = .ok (.getfield 26, 3) := by decide +kernel
theorem dX9_letterIs_66 : decode cX9_letterIs 66 = .ok (.getfield 196, 3) := by decide +kernel
theorem dX9_letterIs_69 : decode cX9_letterIs 69 = .ok (.iload_n 1, 1) := by decide +kernel
theorem dX9_letterIs_70 : decode cX9_letterIs 70 = .ok (.iaload, 1) := by decide +kernel
theorem dX9_letterIs_71 : decode cX9_letterIs 71 = .ok (.ireturn, 1) := by decide +kernel
theorem dX9_letterIs_72 : decode cX9_letterIs 72 = .ok (.aload_n 0, 1) := by decide +kernel
theorem dX9_letterIs_73 : decode cX9_letterIs 73 = .ok (.getfield 26, 3) := by decide +kernel
theorem dX9_letterIs_76 : decode cX9_letterIs 76 = .ok (.getfield 199, 3) := by decide +kernel
theorem dX9_letterIs_79 : decode cX9_letterIs 79 = .ok (.iload_n 1, 1) := by decide +kernel
theorem dX9_letterIs_80 : decode cX9_letterIs 80 = .ok (.iaload, 1) := by decide +kernel
theorem dX9_letterIs_81 : decode cX9_letterIs 81 = .ok (.ireturn, 1) := by decide +kernel
theorem dX9_letterIs_82 : decode cX9_letterIs 82 = .ok (.aload_n 0, 1) := by decide +kernel
theorem dX9_letterIs_83 : decode cX9_letterIs 83 = .ok (.getfield 26, 3) := by decide +kernel
theorem dX9_letterIs_86 : decode cX9_letterIs 86 = .ok (.iload_n 1, 1) := by decide +kernel
theorem dX9_letterIs_87 : decode cX9_letterIs 87 = .ok (.invokevirtual 202, 3) := by decide +kernel
theorem dX9_letterIs_90 : decode cX9_letterIs 90 = .ok (.ifCond .eq 7, 3) := by decide +kernel
theorem dX9_letterIs_93 : decode cX9_letterIs 93 = .ok (.iconst 1, 1) := by decide +kernel
theorem dX9_letterIs_94 : decode cX9_letterIs 94 = .ok (.goto 4, 3) := by decide +kernel
theorem dX9_letterIs_97 : decode cX9_letterIs 97 = .ok (.iconst 0, 1) := by decide +kernel
theorem dX9_letterIs_98 : decode cX9_letterIs 98 = .ok (.ireturn, 1) := by decide +kernel
theorem dX9_letterIs_99 : decode cX9_letterIs 99 = .ok (.aload_n 0, 1) := by decide +kernel
theorem dX9_letterIs_100 : decode cX9_letterIs 100 = .ok (.getfield 26, 3) := by decide +kernel
theorem dX9_letterIs_103 : decode cX9_letterIs 103 = .ok (.getfield 185, 3) := by decide +kernel
theorem dX9_letterIs_106 : decode cX9_letterIs 106 = .ok (.iload_n 1, 1) := by decide +kernel
theorem dX9_letterIs_107 : decode cX9_letterIs 107 = .ok (.iaload, 1) := by decide +kernel
theorem dX9_letterIs_108 : decode cX9_letterIs 108 = .ok (.ireturn, 1) := by decide +kernel
theorem dX9_letterIs_109 : decode cX9_letterIs 109 = .ok (.aload_n 0, 1) := by decide +kernel
theorem dX9_letterIs_110 : decode cX9_letterIs 110 = .ok (.getfield 26, 3) := by decide +kernel
theorem dX9_letterIs_113 : decode cX9_letterIs 113 = .ok (.getfield 191, 3) := by decide +kernel
theorem dX9_letterIs_116 : decode cX9_letterIs 116 = .ok (.iload_n 1, 1) := by decide +kernel
theorem dX9_letterIs_117 : decode cX9_letterIs 117 = .ok (.iaload, 1) := by decide +kernel
theorem dX9_letterIs_118 : decode cX9_letterIs 118 = .ok (.ireturn, 1) := by decide +kernel
theorem dX9_letterIs_119 : decode cX9_letterIs 119 = .ok (.iconst (-1), 1) := by decide +kernel
theorem dX9_letterIs_120 : decode cX9_letterIs 120 = .ok (.ireturn, 1) := by decide +kernel
theorem dX9_toldAt_0 : decode cX9_toldAt 0 = .ok (.aload_n 0, 1) := by decide +kernel
theorem dX9_toldAt_1 : decode cX9_toldAt 1 = .ok (.getfield 26, 3) := by decide +kernel
theorem dX9_toldAt_4 : decode cX9_toldAt 4 = .ok (.iload_n 1, 1) := by decide +kernel
theorem dX9_toldAt_5 : decode cX9_toldAt 5 = .ok (.invokevirtual 164, 3) := by decide +kernel
theorem dX9_toldAt_8 : decode cX9_toldAt 8 = .ok (.ifCond .eq 14, 3) := by decide +kernel
theorem dX9_toldAt_11 : decode cX9_toldAt 11 = .ok (.aload_n 0, 1) := by decide +kernel
theorem dX9_toldAt_12 : decode cX9_toldAt 12 = .ok (.getfield 19, 3) := by decide +kernel
theorem dX9_toldAt_15 : decode cX9_toldAt 15 = .ok (.iload_n 2, 1) := by decide +kernel
theorem dX9_toldAt_16 : decode cX9_toldAt 16 = .ok (.invokevirtual 90, 3) := by decide +kernel
theorem dX9_toldAt_19 : decode cX9_toldAt 19 = .ok (.ifCond .ne 5, 3) := by decide +kernel
theorem dX9_toldAt_22 : decode cX9_toldAt 22 = .ok (.iconst (-1), 1) := by decide +kernel
theorem dX9_toldAt_23 : decode cX9_toldAt 23 = .ok (.ireturn, 1) := by decide +kernel
theorem dX9_toldAt_24 : decode cX9_toldAt 24 = .ok (.aload_n 0, 1) := by decide +kernel
theorem dX9_toldAt_25 : decode cX9_toldAt 25 = .ok (.getfield 26, 3) := by decide +kernel
theorem dX9_toldAt_28 : decode cX9_toldAt 28 = .ok (.getfield 185, 3) := by decide +kernel
theorem dX9_toldAt_31 : decode cX9_toldAt 31 = .ok (.iload_n 1, 1) := by decide +kernel
theorem dX9_toldAt_32 : decode cX9_toldAt 32 = .ok (.iaload, 1) := by decide +kernel
theorem dX9_toldAt_33 : decode cX9_toldAt 33 = .ok (.iload_n 2, 1) := by decide +kernel
theorem dX9_toldAt_34 : decode cX9_toldAt 34 = .ok (.invokestatic 205, 3) := by decide +kernel
theorem dX9_toldAt_37 : decode cX9_toldAt 37 = .ok (.ifCond .eq 17, 3) := by decide +kernel
theorem dX9_toldAt_40 : decode cX9_toldAt 40 = .ok (.aload_n 0, 1) := by decide +kernel
theorem dX9_toldAt_41 : decode cX9_toldAt 41 = .ok (.getfield 26, 3) := by decide +kernel
theorem dX9_toldAt_44 : decode cX9_toldAt 44 = .ok (.getfield 209, 3) := by decide +kernel
theorem dX9_toldAt_47 : decode cX9_toldAt 47 = .ok (.iload_n 1, 1) := by decide +kernel
theorem dX9_toldAt_48 : decode cX9_toldAt 48 = .ok (.aaload, 1) := by decide +kernel
theorem dX9_toldAt_49 : decode cX9_toldAt 49 = .ok (.iload_n 2, 1) := by decide +kernel
theorem dX9_toldAt_50 : decode cX9_toldAt 50 = .ok (.iaload, 1) := by decide +kernel
theorem dX9_toldAt_51 : decode cX9_toldAt 51 = .ok (.goto 5, 3) := by decide +kernel
theorem dX9_toldAt_54 : decode cX9_toldAt 54 = .ok (.bipush (-2), 2) := by decide +kernel
theorem dX9_toldAt_56 : decode cX9_toldAt 56 = .ok (.ireturn, 1) := by decide +kernel
theorem dX9_spreads_0 : decode cX9_spreads 0 = .ok (.aload_n 0, 1) := by decide +kernel
theorem dX9_spreads_1 : decode cX9_spreads 1 = .ok (.getfield 26, 3) := by decide +kernel
theorem dX9_spreads_4 : decode cX9_spreads 4 = .ok (.iload_n 1, 1) := by decide +kernel
theorem dX9_spreads_5 : decode cX9_spreads 5 = .ok (.invokevirtual 164, 3) := by decide +kernel
theorem dX9_spreads_8 : decode cX9_spreads 8 = .ok (.ifCond .eq 25, 3) := by decide +kernel
theorem dX9_spreads_11 : decode cX9_spreads 11 = .ok (.iload_n 2, 1) := by decide +kernel
theorem dX9_spreads_12 : decode cX9_spreads 12 = .ok (.bipush 100, 2) := by decide +kernel
theorem dX9_spreads_14 : decode cX9_spreads 14 = .ok (.bipush 102, 2) := by decide +kernel
theorem dX9_spreads_16 : decode cX9_spreads 16 = .ok (.invokestatic 78, 3) := by decide +kernel
theorem dX9_spreads_19 : decode cX9_spreads 19 = .ok (.ifCond .ne 16, 3) := by decide +kernel
theorem dX9_spreads_22 : decode cX9_spreads 22 = .ok (.aload_n 0, 1) := by decide +kernel
theorem dX9_spreads_23 : decode cX9_spreads 23 = .ok (.getfield 19, 3) := by decide +kernel
theorem dX9_spreads_26 : decode cX9_spreads 26 = .ok (.iload_n 2, 1) := by decide +kernel
theorem dX9_spreads_27 : decode cX9_spreads 27 = .ok (.invokevirtual 90, 3) := by decide +kernel
theorem dX9_spreads_30 : decode cX9_spreads 30 = .ok (.ifCond .ne 5, 3) := by decide +kernel
theorem dX9_spreads_33 : decode cX9_spreads 33 = .ok (.iconst (-1), 1) := by decide +kernel
theorem dX9_spreads_34 : decode cX9_spreads 34 = .ok (.ireturn, 1) := by decide +kernel
theorem dX9_spreads_35 : decode cX9_spreads 35 = .ok (.aload_n 0, 1) := by decide +kernel
theorem dX9_spreads_36 : decode cX9_spreads 36 = .ok (.getfield 26, 3) := by decide +kernel
theorem dX9_spreads_39 : decode cX9_spreads 39 = .ok (.iload_n 1, 1) := by decide +kernel
theorem dX9_spreads_40 : decode cX9_spreads 40 = .ok (.invokevirtual 202, 3) := by decide +kernel
theorem dX9_spreads_43 : decode cX9_spreads 43 = .ok (.ifCond .ne 6, 3) := by decide +kernel
theorem dX9_spreads_46 : decode cX9_spreads 46 = .ok (.bipush (-3), 2) := by decide +kernel
theorem dX9_spreads_48 : decode cX9_spreads 48 = .ok (.ireturn, 1) := by decide +kernel
theorem dX9_spreads_49 : decode cX9_spreads 49 = .ok (.aload_n 0, 1) := by decide +kernel
theorem dX9_spreads_50 : decode cX9_spreads 50 = .ok (.getfield 33, 3) := by decide +kernel
theorem dX9_spreads_53 : decode cX9_spreads 53 = .ok (.aload_n 0, 1) := by decide +kernel
theorem dX9_spreads_54 : decode cX9_spreads 54 = .ok (.getfield 26, 3) := by decide +kernel
theorem dX9_spreads_57 : decode cX9_spreads 57 = .ok (.invokevirtual 165, 3) := by decide +kernel
theorem dX9_spreads_60 : decode cX9_spreads 60 = .ok (.aload_n 0, 1) := by decide +kernel
theorem dX9_spreads_61 : decode cX9_spreads 61 = .ok (.getfield 53, 3) := by decide +kernel
theorem dX9_spreads_64 : decode cX9_spreads 64 = .ok (.iload_n 1, 1) := by decide +kernel
theorem dX9_spreads_65 : decode cX9_spreads 65 = .ok (.aload_n 0, 1) := by decide +kernel
theorem dX9_spreads_66 : decode cX9_spreads 66 = .ok (.getfield 33, 3) := by decide +kernel
theorem dX9_spreads_69 : decode cX9_spreads 69 = .ok (.aload_n 0, 1) := by decide +kernel
theorem dX9_spreads_70 : decode cX9_spreads 70 = .ok (.getfield 19, 3) := by decide +kernel
theorem dX9_spreads_73 : decode cX9_spreads 73 = .ok (.aload_n 0, 1) := by decide +kernel
theorem dX9_spreads_74 : decode cX9_spreads 74 = .ok (.getfield 74, 3) := by decide +kernel
theorem dX9_spreads_77 : decode cX9_spreads 77 = .ok (.invokevirtual 213, 3) := by decide +kernel
theorem dX9_spreads_80 : decode cX9_spreads 80 = .ok (.iload_n 2, 1) := by decide +kernel
theorem dX9_spreads_81 : decode cX9_spreads 81 = .ok (.tableswitch 58 100 102 #[27, 35, 50], 27) := by decide +kernel
theorem dX9_spreads_108 : decode cX9_spreads 108 = .ok (.aload_n 0, 1) := by decide +kernel
theorem dX9_spreads_109 : decode cX9_spreads 109 = .ok (.getfield 53, 3) := by decide +kernel
theorem dX9_spreads_112 : decode cX9_spreads 112 = .ok (.invokevirtual 217, 3) := by decide +kernel
theorem dX9_spreads_115 : decode cX9_spreads 115 = .ok (.ireturn, 1) := by decide +kernel
theorem dX9_spreads_116 : decode cX9_spreads 116 = .ok (.aload_n 0, 1) := by decide +kernel
theorem dX9_spreads_117 : decode cX9_spreads 117 = .ok (.getfield 53, 3) := by decide +kernel
theorem dX9_spreads_120 : decode cX9_spreads 120 = .ok (.aload_n 0, 1) := by decide +kernel
theorem dX9_spreads_121 : decode cX9_spreads 121 = .ok (.getfield 53, 3) := by decide +kernel
theorem dX9_spreads_124 : decode cX9_spreads 124 = .ok (.invokevirtual 221, 3) := by decide +kernel
theorem dX9_spreads_127 : decode cX9_spreads 127 = .ok (.invokevirtual 224, 3) := by decide +kernel
theorem dX9_spreads_130 : decode cX9_spreads 130 = .ok (.ireturn, 1) := by decide +kernel
theorem dX9_spreads_131 : decode cX9_spreads 131 = .ok (.aload_n 0, 1) := by decide +kernel
theorem dX9_spreads_132 : decode cX9_spreads 132 = .ok (.getfield 53, 3) := by decide +kernel
theorem dX9_spreads_135 : decode cX9_spreads 135 = .ok (.invokevirtual 221, 3) := by decide +kernel
theorem dX9_spreads_138 : decode cX9_spreads 138 = .ok (.ireturn, 1) := by decide +kernel
theorem dX9_spreads_139 : decode cX9_spreads 139 = .ok (.aload_n 0, 1) := by decide +kernel
theorem dX9_spreads_140 : decode cX9_spreads 140 = .ok (.getfield 53, 3) := by decide +kernel
theorem dX9_spreads_143 : decode cX9_spreads 143 = .ok (.iload_n 2, 1) := by decide +kernel
theorem dX9_spreads_144 : decode cX9_spreads 144 = .ok (.invokevirtual 224, 3) := by decide +kernel
theorem dX9_spreads_147 : decode cX9_spreads 147 = .ok (.ireturn, 1) := by decide +kernel
theorem dX9_miles_0 : decode cX9_miles 0 = .ok (.aload_n 0, 1) := by decide +kernel
theorem dX9_miles_1 : decode cX9_miles 1 = .ok (.getfield 19, 3) := by decide +kernel
theorem dX9_miles_4 : decode cX9_miles 4 = .ok (.iload_n 1, 1) := by decide +kernel
theorem dX9_miles_5 : decode cX9_miles 5 = .ok (.invokevirtual 90, 3) := by decide +kernel
theorem dX9_miles_8 : decode cX9_miles 8 = .ok (.ifCond .eq 14, 3) := by decide +kernel
theorem dX9_miles_11 : decode cX9_miles 11 = .ok (.aload_n 0, 1) := by decide +kernel
theorem dX9_miles_12 : decode cX9_miles 12 = .ok (.getfield 19, 3) := by decide +kernel
theorem dX9_miles_15 : decode cX9_miles 15 = .ok (.iload_n 2, 1) := by decide +kernel
theorem dX9_miles_16 : decode cX9_miles 16 = .ok (.invokevirtual 90, 3) := by decide +kernel
theorem dX9_miles_19 : decode cX9_miles 19 = .ok (.ifCond .ne 5, 3) := by decide +kernel
theorem dX9_miles_22 : decode cX9_miles 22 = .ok (.iconst (-1), 1) := by decide +kernel
theorem dX9_miles_23 : decode cX9_miles 23 = .ok (.ireturn, 1) := by decide +kernel
theorem dX9_miles_24 : decode cX9_miles 24 = .ok (.aload_n 0, 1) := by decide +kernel
theorem dX9_miles_25 : decode cX9_miles 25 = .ok (.getfield 19, 3) := by decide +kernel
theorem dX9_miles_28 : decode cX9_miles 28 = .ok (.iload_n 1, 1) := by decide +kernel
theorem dX9_miles_29 : decode cX9_miles 29 = .ok (.iload_n 2, 1) := by decide +kernel
theorem dX9_miles_30 : decode cX9_miles 30 = .ok (.invokevirtual 227, 3) := by decide +kernel
theorem dX9_miles_33 : decode cX9_miles 33 = .ok (.istore_n 3, 1) := by decide +kernel
theorem dX9_miles_34 : decode cX9_miles 34 = .ok (.iload_n 3, 1) := by decide +kernel
theorem dX9_miles_35 : decode cX9_miles 35 = .ok (.ldc 231, 2) := by decide +kernel
theorem dX9_miles_37 : decode cX9_miles 37 = .ok (.if_icmp .ge 7, 3) := by decide +kernel
theorem dX9_miles_40 : decode cX9_miles 40 = .ok (.iload_n 3, 1) := by decide +kernel
theorem dX9_miles_41 : decode cX9_miles 41 = .ok (.goto 5, 3) := by decide +kernel
theorem dX9_miles_44 : decode cX9_miles 44 = .ok (.bipush (-2), 2) := by decide +kernel
theorem dX9_miles_46 : decode cX9_miles 46 = .ok (.ireturn, 1) := by decide +kernel
theorem dX9_round_0 : decode cX9_round 0 = .ok (.aload_n 0, 1) := by decide +kernel
theorem dX9_round_1 : decode cX9_round 1 = .ok (.getfield 19, 3) := by decide +kernel
theorem dX9_round_4 : decode cX9_round 4 = .ok (.iload_n 1, 1) := by decide +kernel
theorem dX9_round_5 : decode cX9_round 5 = .ok (.invokevirtual 90, 3) := by decide +kernel
theorem dX9_round_8 : decode cX9_round 8 = .ok (.ifCond .eq 27, 3) := by decide +kernel
theorem dX9_round_11 : decode cX9_round 11 = .ok (.iload_n 2, 1) := by decide +kernel
theorem dX9_round_12 : decode cX9_round 12 = .ok (.aload_n 0, 1) := by decide +kernel
theorem dX9_round_13 : decode cX9_round 13 = .ok (.getfield 19, 3) := by decide +kernel
theorem dX9_round_16 : decode cX9_round 16 = .ok (.getfield 133, 3) := by decide +kernel
theorem dX9_round_19 : decode cX9_round 19 = .ok (.bipush 7, 2) := by decide +kernel
theorem dX9_round_21 : decode cX9_round 21 = .ok (.invokestatic 232, 3) := by decide +kernel
theorem dX9_round_24 : decode cX9_round 24 = .ok (.ifCond .eq 11, 3) := by decide +kernel
theorem dX9_round_27 : decode cX9_round 27 = .ok (.iload_n 2, 1) := by decide +kernel
theorem dX9_round_28 : decode cX9_round 28 = .ok (.iload_n 1, 1) := by decide +kernel
theorem dX9_round_29 : decode cX9_round 29 = .ok (.invokestatic 205, 3) := by decide +kernel
theorem dX9_round_32 : decode cX9_round 32 = .ok (.ifCond .eq 5, 3) := by decide +kernel
theorem dX9_round_35 : decode cX9_round 35 = .ok (.iconst (-1), 1) := by decide +kernel
theorem dX9_round_36 : decode cX9_round 36 = .ok (.ireturn, 1) := by decide +kernel
theorem dX9_round_37 : decode cX9_round 37 = .ok (.iload_n 3, 1) := by decide +kernel
theorem dX9_round_38 : decode cX9_round 38 = .ok (.bipush 100, 2) := by decide +kernel
theorem dX9_round_40 : decode cX9_round 40 = .ok (.if_icmp .eq 19, 3) := by decide +kernel
theorem dX9_round_43 : decode cX9_round 43 = .ok (.iload_n 3, 1) := by decide +kernel
theorem dX9_round_44 : decode cX9_round 44 = .ok (.iconst 0, 1) := by decide +kernel
theorem dX9_round_45 : decode cX9_round 45 = .ok (.iload_n 2, 1) := by decide +kernel
theorem dX9_round_46 : decode cX9_round 46 = .ok (.invokestatic 235, 3) := by decide +kernel
theorem dX9_round_49 : decode cX9_round 49 = .ok (.iconst 1, 1) := by decide +kernel
theorem dX9_round_50 : decode cX9_round 50 = .ok (.isub, 1) := by decide +kernel
theorem dX9_round_51 : decode cX9_round 51 = .ok (.invokestatic 78, 3) := by decide +kernel
theorem dX9_round_54 : decode cX9_round 54 = .ok (.ifCond .ne 5, 3) := by decide +kernel
theorem dX9_round_57 : decode cX9_round 57 = .ok (.iconst (-1), 1) := by decide +kernel
theorem dX9_round_58 : decode cX9_round 58 = .ok (.ireturn, 1) := by decide +kernel
theorem dX9_round_59 : decode cX9_round 59 = .ok (.aload_n 0, 1) := by decide +kernel
theorem dX9_round_60 : decode cX9_round 60 = .ok (.getfield 19, 3) := by decide +kernel
theorem dX9_round_63 : decode cX9_round 63 = .ok (.iload_n 1, 1) := by decide +kernel
theorem dX9_round_64 : decode cX9_round 64 = .ok (.iload_n 2, 1) := by decide +kernel
theorem dX9_round_65 : decode cX9_round 65 = .ok (.invokevirtual 240, 3) := by decide +kernel
theorem dX9_round_68 : decode cX9_round 68 = .ok (.istore 4, 2) := by decide +kernel
theorem dX9_round_70 : decode cX9_round 70 = .ok (.iload 4, 2) := by decide +kernel
theorem dX9_round_72 : decode cX9_round 72 = .ok (.ldc 231, 2) := by decide +kernel
theorem dX9_round_74 : decode cX9_round 74 = .ok (.if_icmp .lt 6, 3) := by decide +kernel
theorem dX9_round_77 : decode cX9_round 77 = .ok (.bipush (-2), 2) := by decide +kernel
theorem dX9_round_79 : decode cX9_round 79 = .ok (.ireturn, 1) := by decide +kernel
theorem dX9_round_80 : decode cX9_round 80 = .ok (.iload_n 3, 1) := by decide +kernel
theorem dX9_round_81 : decode cX9_round 81 = .ok (.bipush 100, 2) := by decide +kernel
theorem dX9_round_83 : decode cX9_round 83 = .ok (.if_icmp .ne 8, 3) := by decide +kernel
theorem dX9_round_86 : decode cX9_round 86 = .ok (.iload 4, 2) := by decide +kernel
theorem dX9_round_88 : decode cX9_round 88 = .ok (.goto 11, 3) := by decide +kernel
theorem dX9_round_91 : decode cX9_round 91 = .ok (.aload_n 0, 1) := by decide +kernel
theorem dX9_round_92 : decode cX9_round 92 = .ok (.getfield 19, 3) := by decide +kernel
theorem dX9_round_95 : decode cX9_round 95 = .ok (.iload_n 3, 1) := by decide +kernel
theorem dX9_round_96 : decode cX9_round 96 = .ok (.invokevirtual 243, 3) := by decide +kernel
theorem dX9_round_99 : decode cX9_round 99 = .ok (.ireturn, 1) := by decide +kernel
theorem dX9_readsMost_0 : decode cX9_readsMost 0 = .ok (.aload_n 0, 1) := by decide +kernel
theorem dX9_readsMost_1 : decode cX9_readsMost 1 = .ok (.getfield 19, 3) := by decide +kernel
theorem dX9_readsMost_4 : decode cX9_readsMost 4 = .ok (.iload_n 1, 1) := by decide +kernel
theorem dX9_readsMost_5 : decode cX9_readsMost 5 = .ok (.invokevirtual 90, 3) := by decide +kernel
theorem dX9_readsMost_8 : decode cX9_readsMost 8 = .ok (.ifCond .eq 18, 3) := by decide +kernel
theorem dX9_readsMost_11 : decode cX9_readsMost 11 = .ok (.iload_n 2, 1) := by decide +kernel
theorem dX9_readsMost_12 : decode cX9_readsMost 12 = .ok (.aload_n 0, 1) := by decide +kernel
theorem dX9_readsMost_13 : decode cX9_readsMost 13 = .ok (.getfield 26, 3) := by decide +kernel
theorem dX9_readsMost_16 : decode cX9_readsMost 16 = .ok (.getfield 130, 3) := by decide +kernel
theorem dX9_readsMost_19 : decode cX9_readsMost 19 = .ok (.iconst 5, 1) := by decide +kernel
theorem dX9_readsMost_20 : decode cX9_readsMost 20 = .ok (.invokestatic 232, 3) := by decide +kernel
theorem dX9_readsMost_23 : decode cX9_readsMost 23 = .ok (.ifCond .ne 5, 3) := by decide +kernel
theorem dX9_readsMost_26 : decode cX9_readsMost 26 = .ok (.iconst (-1), 1) := by decide +kernel
theorem dX9_readsMost_27 : decode cX9_readsMost 27 = .ok (.ireturn, 1) := by decide +kernel
theorem dX9_readsMost_28 : decode cX9_readsMost 28 = .ok (.iload_n 3, 1) := by decide +kernel
theorem dX9_readsMost_29 : decode cX9_readsMost 29 = .ok (.bipush 100, 2) := by decide +kernel
theorem dX9_readsMost_31 : decode cX9_readsMost 31 = .ok (.if_icmp .eq 19, 3) := by decide +kernel
theorem dX9_readsMost_34 : decode cX9_readsMost 34 = .ok (.iload_n 3, 1) := by decide +kernel
theorem dX9_readsMost_35 : decode cX9_readsMost 35 = .ok (.iconst 0, 1) := by decide +kernel
theorem dX9_readsMost_36 : decode cX9_readsMost 36 = .ok (.iload_n 2, 1) := by decide +kernel
theorem dX9_readsMost_37 : decode cX9_readsMost 37 = .ok (.invokestatic 235, 3) := by decide +kernel
theorem dX9_readsMost_40 : decode cX9_readsMost 40 = .ok (.iconst 1, 1) := by decide +kernel
theorem dX9_readsMost_41 : decode cX9_readsMost 41 = .ok (.isub, 1) := by decide +kernel
theorem dX9_readsMost_42 : decode cX9_readsMost 42 = .ok (.invokestatic 78, 3) := by decide +kernel
theorem dX9_readsMost_45 : decode cX9_readsMost 45 = .ok (.ifCond .ne 5, 3) := by decide +kernel
theorem dX9_readsMost_48 : decode cX9_readsMost 48 = .ok (.iconst (-1), 1) := by decide +kernel
theorem dX9_readsMost_49 : decode cX9_readsMost 49 = .ok (.ireturn, 1) := by decide +kernel
theorem dX9_readsMost_50 : decode cX9_readsMost 50 = .ok (.aload_n 0, 1) := by decide +kernel
theorem dX9_readsMost_51 : decode cX9_readsMost 51 = .ok (.getfield 53, 3) := by decide +kernel
theorem dX9_readsMost_54 : decode cX9_readsMost 54 = .ok (.iload_n 1, 1) := by decide +kernel
theorem dX9_readsMost_55 : decode cX9_readsMost 55 = .ok (.iload_n 2, 1) := by decide +kernel
theorem dX9_readsMost_56 : decode cX9_readsMost 56 = .ok (.aload_n 0, 1) := by decide +kernel
theorem dX9_readsMost_57 : decode cX9_readsMost 57 = .ok (.getfield 26, 3) := by decide +kernel
theorem dX9_readsMost_60 : decode cX9_readsMost 60 = .ok (.aload_n 0, 1) := by decide +kernel
theorem dX9_readsMost_61 : decode cX9_readsMost 61 = .ok (.getfield 74, 3) := by decide +kernel
theorem dX9_readsMost_64 : decode cX9_readsMost 64 = .ok (.invokevirtual 246, 3) := by decide +kernel
theorem dX9_readsMost_67 : decode cX9_readsMost 67 = .ok (.istore 4, 2) := by decide +kernel
theorem dX9_readsMost_69 : decode cX9_readsMost 69 = .ok (.iload_n 3, 1) := by decide +kernel
theorem dX9_readsMost_70 : decode cX9_readsMost 70 = .ok (.bipush 100, 2) := by decide +kernel
theorem dX9_readsMost_72 : decode cX9_readsMost 72 = .ok (.if_icmp .ne 8, 3) := by decide +kernel
theorem dX9_readsMost_75 : decode cX9_readsMost 75 = .ok (.iload 4, 2) := by decide +kernel
theorem dX9_readsMost_77 : decode cX9_readsMost 77 = .ok (.goto 12, 3) := by decide +kernel
theorem dX9_readsMost_80 : decode cX9_readsMost 80 = .ok (.aload_n 0, 1) := by decide +kernel
theorem dX9_readsMost_81 : decode cX9_readsMost 81 = .ok (.getfield 53, 3) := by decide +kernel
theorem dX9_readsMost_84 : decode cX9_readsMost 84 = .ok (.iload_n 2, 1) := by decide +kernel
theorem dX9_readsMost_85 : decode cX9_readsMost 85 = .ok (.iload_n 3, 1) := by decide +kernel
theorem dX9_readsMost_86 : decode cX9_readsMost 86 = .ok (.invokevirtual 250, 3) := by decide +kernel
theorem dX9_readsMost_89 : decode cX9_readsMost 89 = .ok (.ireturn, 1) := by decide +kernel
theorem dX9_bestMonth_0 : decode cX9_bestMonth 0 = .ok (.aload_n 0, 1) := by decide +kernel
theorem dX9_bestMonth_1 : decode cX9_bestMonth 1 = .ok (.getfield 19, 3) := by decide +kernel
theorem dX9_bestMonth_4 : decode cX9_bestMonth 4 = .ok (.iload_n 1, 1) := by decide +kernel
theorem dX9_bestMonth_5 : decode cX9_bestMonth 5 = .ok (.invokevirtual 90, 3) := by decide +kernel
theorem dX9_bestMonth_8 : decode cX9_bestMonth 8 = .ok (.ifCond .eq 23, 3) := by decide +kernel
theorem dX9_bestMonth_11 : decode cX9_bestMonth 11 = .ok (.aload_n 0, 1) := by decide +kernel
theorem dX9_bestMonth_12 : decode cX9_bestMonth 12 = .ok (.getfield 26, 3) := by decide +kernel
theorem dX9_bestMonth_15 : decode cX9_bestMonth 15 = .ok (.iload_n 2, 1) := by decide +kernel
theorem dX9_bestMonth_16 : decode cX9_bestMonth 16 = .ok (.invokevirtual 164, 3) := by decide +kernel
theorem dX9_bestMonth_19 : decode cX9_bestMonth 19 = .ok (.ifCond .eq 12, 3) := by decide +kernel
theorem dX9_bestMonth_22 : decode cX9_bestMonth 22 = .ok (.iload_n 3, 1) := by decide +kernel
theorem dX9_bestMonth_23 : decode cX9_bestMonth 23 = .ok (.iconst 0, 1) := by decide +kernel
theorem dX9_bestMonth_24 : decode cX9_bestMonth 24 = .ok (.iconst 1, 1) := by decide +kernel
theorem dX9_bestMonth_25 : decode cX9_bestMonth 25 = .ok (.invokestatic 78, 3) := by decide +kernel
theorem dX9_bestMonth_28 : decode cX9_bestMonth 28 = .ok (.ifCond .ne 5, 3) := by decide +kernel
theorem dX9_bestMonth_31 : decode cX9_bestMonth 31 = .ok (.iconst (-1), 1) := by decide +kernel
theorem dX9_bestMonth_32 : decode cX9_bestMonth 32 = .ok (.ireturn, 1) := by decide +kernel
theorem dX9_bestMonth_33 : decode cX9_bestMonth 33 = .ok (.aload_n 0, 1) := by decide +kernel
theorem dX9_bestMonth_34 : decode cX9_bestMonth 34 = .ok (.getfield 53, 3) := by decide +kernel
theorem dX9_bestMonth_37 : decode cX9_bestMonth 37 = .ok (.iload_n 1, 1) := by decide +kernel
theorem dX9_bestMonth_38 : decode cX9_bestMonth 38 = .ok (.iload_n 2, 1) := by decide +kernel
theorem dX9_bestMonth_39 : decode cX9_bestMonth 39 = .ok (.aload_n 0, 1) := by decide +kernel
theorem dX9_bestMonth_40 : decode cX9_bestMonth 40 = .ok (.getfield 26, 3) := by decide +kernel
theorem dX9_bestMonth_43 : decode cX9_bestMonth 43 = .ok (.aload_n 0, 1) := by decide +kernel
theorem dX9_bestMonth_44 : decode cX9_bestMonth 44 = .ok (.getfield 74, 3) := by decide +kernel
theorem dX9_bestMonth_47 : decode cX9_bestMonth 47 = .ok (.invokevirtual 253, 3) := by decide +kernel
theorem dX9_bestMonth_50 : decode cX9_bestMonth 50 = .ok (.istore 4, 2) := by decide +kernel
theorem dX9_bestMonth_52 : decode cX9_bestMonth 52 = .ok (.iload_n 3, 1) := by decide +kernel
theorem dX9_bestMonth_53 : decode cX9_bestMonth 53 = .ok (.ifCond .ne 8, 3) := by decide +kernel
theorem dX9_bestMonth_56 : decode cX9_bestMonth 56 = .ok (.iload 4, 2) := by decide +kernel
theorem dX9_bestMonth_58 : decode cX9_bestMonth 58 = .ok (.goto 10, 3) := by decide +kernel
theorem dX9_bestMonth_61 : decode cX9_bestMonth 61 = .ok (.aload_n 0, 1) := by decide +kernel
theorem dX9_bestMonth_62 : decode cX9_bestMonth 62 = .ok (.getfield 53, 3) := by decide +kernel
theorem dX9_bestMonth_65 : decode cX9_bestMonth 65 = .ok (.getfield 256, 3) := by decide +kernel
theorem dX9_bestMonth_68 : decode cX9_bestMonth 68 = .ok (.ireturn, 1) := by decide +kernel
theorem dX9_tales_0 : decode cX9_tales 0 = .ok (.aload_n 0, 1) := by decide +kernel
theorem dX9_tales_1 : decode cX9_tales 1 = .ok (.getfield 26, 3) := by decide +kernel
theorem dX9_tales_4 : decode cX9_tales 4 = .ok (.iload_n 1, 1) := by decide +kernel
theorem dX9_tales_5 : decode cX9_tales 5 = .ok (.invokevirtual 164, 3) := by decide +kernel
theorem dX9_tales_8 : decode cX9_tales 8 = .ok (.ifCond .eq 12, 3) := by decide +kernel
theorem dX9_tales_11 : decode cX9_tales 11 = .ok (.iload_n 2, 1) := by decide +kernel
theorem dX9_tales_12 : decode cX9_tales 12 = .ok (.iconst 0, 1) := by decide +kernel
theorem dX9_tales_13 : decode cX9_tales 13 = .ok (.iconst 2, 1) := by decide +kernel
theorem dX9_tales_14 : decode cX9_tales 14 = .ok (.invokestatic 78, 3) := by decide +kernel
theorem dX9_tales_17 : decode cX9_tales 17 = .ok (.ifCond .ne 5, 3) := by decide +kernel
theorem dX9_tales_20 : decode cX9_tales 20 = .ok (.iconst (-1), 1) := by decide +kernel
theorem dX9_tales_21 : decode cX9_tales 21 = .ok (.ireturn, 1) := by decide +kernel
theorem dX9_tales_22 : decode cX9_tales 22 = .ok (.iload_n 2, 1) := by decide +kernel
theorem dX9_tales_23 : decode cX9_tales 23 = .ok (.ifCond .ne 24, 3) := by decide +kernel
theorem dX9_tales_26 : decode cX9_tales 26 = .ok (.aload_n 0, 1) := by decide +kernel
theorem dX9_tales_27 : decode cX9_tales 27 = .ok (.getfield 53, 3) := by decide +kernel
theorem dX9_tales_30 : decode cX9_tales 30 = .ok (.iload_n 1, 1) := by decide +kernel
theorem dX9_tales_31 : decode cX9_tales 31 = .ok (.aload_n 0, 1) := by decide +kernel
theorem dX9_tales_32 : decode cX9_tales 32 = .ok (.getfield 26, 3) := by decide +kernel
theorem dX9_tales_35 : decode cX9_tales 35 = .ok (.aload_n 0, 1) := by decide +kernel
theorem dX9_tales_36 : decode cX9_tales 36 = .ok (.getfield 19, 3) := by decide +kernel
theorem dX9_tales_39 : decode cX9_tales 39 = .ok (.aload_n 0, 1) := by decide +kernel
theorem dX9_tales_40 : decode cX9_tales 40 = .ok (.getfield 74, 3) := by decide +kernel
theorem dX9_tales_43 : decode cX9_tales 43 = .ok (.invokevirtual 259, 3) := by decide +kernel
theorem dX9_tales_46 : decode cX9_tales 46 = .ok (.ireturn, 1) := by decide +kernel
theorem dX9_tales_47 : decode cX9_tales 47 = .ok (.aload_n 0, 1) := by decide +kernel
theorem dX9_tales_48 : decode cX9_tales 48 = .ok (.getfield 26, 3) := by decide +kernel
theorem dX9_tales_51 : decode cX9_tales 51 = .ok (.iload_n 1, 1) := by decide +kernel
theorem dX9_tales_52 : decode cX9_tales 52 = .ok (.invokevirtual 263, 3) := by decide +kernel
theorem dX9_tales_55 : decode cX9_tales 55 = .ok (.istore_n 3, 1) := by decide +kernel
theorem dX9_tales_56 : decode cX9_tales 56 = .ok (.iload_n 2, 1) := by decide +kernel
theorem dX9_tales_57 : decode cX9_tales 57 = .ok (.iconst 2, 1) := by decide +kernel
theorem dX9_tales_58 : decode cX9_tales 58 = .ok (.if_icmp .ne 5, 3) := by decide +kernel
theorem dX9_tales_61 : decode cX9_tales 61 = .ok (.iload_n 3, 1) := by decide +kernel
theorem dX9_tales_62 : decode cX9_tales 62 = .ok (.ireturn, 1) := by decide +kernel
theorem dX9_tales_63 : decode cX9_tales 63 = .ok (.iload_n 3, 1) := by decide +kernel
theorem dX9_tales_64 : decode cX9_tales 64 = .ok (.iconst 0, 1) := by decide +kernel
theorem dX9_tales_65 : decode cX9_tales 65 = .ok (.bipush 11, 2) := by decide +kernel
theorem dX9_tales_67 : decode cX9_tales 67 = .ok (.invokestatic 78, 3) := by decide +kernel
theorem dX9_tales_70 : decode cX9_tales 70 = .ok (.ifCond .eq 27, 3) := by decide +kernel
theorem dX9_tales_73 : decode cX9_tales 73 = .ok (.aload_n 0, 1) := by decide +kernel
theorem dX9_tales_74 : decode cX9_tales 74 = .ok (.getfield 26, 3) := by decide +kernel
theorem dX9_tales_77 : decode cX9_tales 77 = .ok (.getfield 209, 3) := by decide +kernel
theorem dX9_tales_80 : decode cX9_tales 80 = .ok (.iload_n 1, 1) := by decide +kernel
theorem dX9_tales_81 : decode cX9_tales 81 = .ok (.aaload, 1) := by decide +kernel
theorem dX9_tales_82 : decode cX9_tales 82 = .ok (.iload_n 3, 1) := by decide +kernel
theorem dX9_tales_83 : decode cX9_tales 83 = .ok (.iaload, 1) := by decide +kernel
theorem dX9_tales_84 : decode cX9_tales 84 = .ok (.aload_n 0, 1) := by decide +kernel
theorem dX9_tales_85 : decode cX9_tales 85 = .ok (.getfield 26, 3) := by decide +kernel
theorem dX9_tales_88 : decode cX9_tales 88 = .ok (.getfield 196, 3) := by decide +kernel
theorem dX9_tales_91 : decode cX9_tales 91 = .ok (.iload_n 1, 1) := by decide +kernel
theorem dX9_tales_92 : decode cX9_tales 92 = .ok (.iaload, 1) := by decide +kernel
theorem dX9_tales_93 : decode cX9_tales 93 = .ok (.isub, 1) := by decide +kernel
theorem dX9_tales_94 : decode cX9_tales 94 = .ok (.goto 4, 3) := by decide +kernel
theorem dX9_tales_97 : decode cX9_tales 97 = .ok (.iconst 0, 1) := by decide +kernel
theorem dX9_tales_98 : decode cX9_tales 98 = .ok (.ireturn, 1) := by decide +kernel
theorem dX9_far_0 : decode cX9_far 0 = .ok (.iload_n 1, 1) := by decide +kernel
theorem dX9_far_1 : decode cX9_far 1 = .ok (.invokestatic 98, 3) := by decide +kernel
theorem dX9_far_4 : decode cX9_far 4 = .ok (.ifCond .eq 10, 3) := by decide +kernel
theorem dX9_far_7 : decode cX9_far 7 = .ok (.iload_n 2, 1) := by decide +kernel
theorem dX9_far_8 : decode cX9_far 8 = .ok (.invokestatic 98, 3) := by decide +kernel
theorem dX9_far_11 : decode cX9_far 11 = .ok (.ifCond .ne 5, 3) := by decide +kernel
theorem dX9_far_14 : decode cX9_far 14 = .ok (.iconst (-1), 1) := by decide +kernel
theorem dX9_far_15 : decode cX9_far 15 = .ok (.ireturn, 1) := by decide +kernel
theorem dX9_far_16 : decode cX9_far 16 = .ok (.aload_n 0, 1) := by decide +kernel
theorem dX9_far_17 : decode cX9_far 17 = .ok (.getfield 60, 3) := by decide +kernel
theorem dX9_far_20 : decode cX9_far 20 = .ok (.iload_n 1, 1) := by decide +kernel
theorem dX9_far_21 : decode cX9_far 21 = .ok (.invokevirtual 266, 3) := by decide +kernel
theorem dX9_far_24 : decode cX9_far 24 = .ok (.ifCond .eq 26, 3) := by decide +kernel
theorem dX9_far_27 : decode cX9_far 27 = .ok (.aload_n 0, 1) := by decide +kernel
theorem dX9_far_28 : decode cX9_far 28 = .ok (.getfield 60, 3) := by decide +kernel
theorem dX9_far_31 : decode cX9_far 31 = .ok (.iload_n 2, 1) := by decide +kernel
theorem dX9_far_32 : decode cX9_far 32 = .ok (.invokevirtual 266, 3) := by decide +kernel
theorem dX9_far_35 : decode cX9_far 35 = .ok (.ifCond .eq 15, 3) := by decide +kernel
theorem dX9_far_38 : decode cX9_far 38 = .ok (.aload_n 0, 1) := by decide +kernel
theorem dX9_far_39 : decode cX9_far 39 = .ok (.getfield 60, 3) := by decide +kernel
theorem dX9_far_42 : decode cX9_far 42 = .ok (.iload_n 1, 1) := by decide +kernel
theorem dX9_far_43 : decode cX9_far 43 = .ok (.iload_n 2, 1) := by decide +kernel
theorem dX9_far_44 : decode cX9_far 44 = .ok (.invokevirtual 269, 3) := by decide +kernel
theorem dX9_far_47 : decode cX9_far 47 = .ok (.goto 5, 3) := by decide +kernel
theorem dX9_far_50 : decode cX9_far 50 = .ok (.bipush (-2), 2) := by decide +kernel
theorem dX9_far_52 : decode cX9_far 52 = .ok (.ireturn, 1) := by decide +kernel
theorem dX9_nearest_0 : decode cX9_nearest 0 = .ok (.iload_n 2, 1) := by decide +kernel
theorem dX9_nearest_1 : decode cX9_nearest 1 = .ok (.iconst 0, 1) := by decide +kernel
theorem dX9_nearest_2 : decode cX9_nearest 2 = .ok (.iconst 1, 1) := by decide +kernel
theorem dX9_nearest_3 : decode cX9_nearest 3 = .ok (.invokestatic 78, 3) := by decide +kernel
theorem dX9_nearest_6 : decode cX9_nearest 6 = .ok (.ifCond .eq 17, 3) := by decide +kernel
theorem dX9_nearest_9 : decode cX9_nearest 9 = .ok (.aload_n 0, 1) := by decide +kernel
theorem dX9_nearest_10 : decode cX9_nearest 10 = .ok (.getfield 10, 3) := by decide +kernel
theorem dX9_nearest_13 : decode cX9_nearest 13 = .ok (.iload_n 1, 1) := by decide +kernel
theorem dX9_nearest_14 : decode cX9_nearest 14 = .ok (.iconst 1, 1) := by decide +kernel
theorem dX9_nearest_15 : decode cX9_nearest 15 = .ok (.bipush 40, 2) := by decide +kernel
theorem dX9_nearest_17 : decode cX9_nearest 17 = .ok (.invokevirtual 115, 3) := by decide +kernel
theorem dX9_nearest_20 : decode cX9_nearest 20 = .ok (.ifCond .ne 5, 3) := by decide +kernel
theorem dX9_nearest_23 : decode cX9_nearest 23 = .ok (.iconst (-1), 1) := by decide +kernel
theorem dX9_nearest_24 : decode cX9_nearest 24 = .ok (.ireturn, 1) := by decide +kernel
theorem dX9_nearest_25 : decode cX9_nearest 25 = .ok (.aload_n 0, 1) := by decide +kernel
theorem dX9_nearest_26 : decode cX9_nearest 26 = .ok (.getfield 60, 3) := by decide +kernel
theorem dX9_nearest_29 : decode cX9_nearest 29 = .ok (.aload_n 0, 1) := by decide +kernel
theorem dX9_nearest_30 : decode cX9_nearest 30 = .ok (.getfield 10, 3) := by decide +kernel
theorem dX9_nearest_33 : decode cX9_nearest 33 = .ok (.invokevirtual 118, 3) := by decide +kernel
theorem dX9_nearest_36 : decode cX9_nearest 36 = .ok (.iload_n 1, 1) := by decide +kernel
theorem dX9_nearest_37 : decode cX9_nearest 37 = .ok (.invokevirtual 272, 3) := by decide +kernel
theorem dX9_nearest_40 : decode cX9_nearest 40 = .ok (.istore_n 3, 1) := by decide +kernel
theorem dX9_nearest_41 : decode cX9_nearest 41 = .ok (.iload_n 2, 1) := by decide +kernel
theorem dX9_nearest_42 : decode cX9_nearest 42 = .ok (.ifCond .eq 7, 3) := by decide +kernel
theorem dX9_nearest_45 : decode cX9_nearest 45 = .ok (.iload_n 3, 1) := by decide +kernel
theorem dX9_nearest_46 : decode cX9_nearest 46 = .ok (.ifCond .ge 7, 3) := by decide +kernel
theorem dX9_nearest_49 : decode cX9_nearest 49 = .ok (.iload_n 3, 1) := by decide +kernel
theorem dX9_nearest_50 : decode cX9_nearest 50 = .ok (.goto 10, 3) := by decide +kernel
theorem dX9_nearest_53 : decode cX9_nearest 53 = .ok (.aload_n 0, 1) := by decide +kernel
theorem dX9_nearest_54 : decode cX9_nearest 54 = .ok (.getfield 60, 3) := by decide +kernel
theorem dX9_nearest_57 : decode cX9_nearest 57 = .ok (.getfield 275, 3) := by decide +kernel
theorem dX9_nearest_60 : decode cX9_nearest 60 = .ok (.ireturn, 1) := by decide +kernel
theorem dX9_fromWhom_0 : decode cX9_fromWhom 0 = .ok (.aload_n 0, 1) := by decide +kernel
theorem dX9_fromWhom_1 : decode cX9_fromWhom 1 = .ok (.getfield 60, 3) := by decide +kernel
theorem dX9_fromWhom_4 : decode cX9_fromWhom 4 = .ok (.invokevirtual 278, 3) := by decide +kernel
theorem dX9_fromWhom_7 : decode cX9_fromWhom 7 = .ok (.ireturn, 1) := by decide +kernel
theorem dX9_misspelt_0 : decode cX9_misspelt 0 = .ok (.iload_n 1, 1) := by decide +kernel
theorem dX9_misspelt_1 : decode cX9_misspelt 1 = .ok (.invokestatic 98, 3) := by decide +kernel
theorem dX9_misspelt_4 : decode cX9_misspelt 4 = .ok (.ifCond .eq 10, 3) := by decide +kernel
theorem dX9_misspelt_7 : decode cX9_misspelt 7 = .ok (.iload_n 2, 1) := by decide +kernel
theorem dX9_misspelt_8 : decode cX9_misspelt 8 = .ok (.invokestatic 98, 3) := by decide +kernel
theorem dX9_misspelt_11 : decode cX9_misspelt 11 = .ok (.ifCond .ne 5, 3) := by decide +kernel
theorem dX9_misspelt_14 : decode cX9_misspelt 14 = .ok (.iconst (-1), 1) := by decide +kernel
theorem dX9_misspelt_15 : decode cX9_misspelt 15 = .ok (.ireturn, 1) := by decide +kernel
theorem dX9_misspelt_16 : decode cX9_misspelt 16 = .ok (.aload_n 0, 1) := by decide +kernel
theorem dX9_misspelt_17 : decode cX9_misspelt 17 = .ok (.getfield 60, 3) := by decide +kernel
theorem dX9_misspelt_20 : decode cX9_misspelt 20 = .ok (.iload_n 1, 1) := by decide +kernel
theorem dX9_misspelt_21 : decode cX9_misspelt 21 = .ok (.invokevirtual 266, 3) := by decide +kernel
theorem dX9_misspelt_24 : decode cX9_misspelt 24 = .ok (.ifCond .eq 26, 3) := by decide +kernel
theorem dX9_misspelt_27 : decode cX9_misspelt 27 = .ok (.aload_n 0, 1) := by decide +kernel
theorem dX9_misspelt_28 : decode cX9_misspelt 28 = .ok (.getfield 60, 3) := by decide +kernel
theorem dX9_misspelt_31 : decode cX9_misspelt 31 = .ok (.iload_n 2, 1) := by decide +kernel
theorem dX9_misspelt_32 : decode cX9_misspelt 32 = .ok (.invokevirtual 266, 3) := by decide +kernel
theorem dX9_misspelt_35 : decode cX9_misspelt 35 = .ok (.ifCond .eq 15, 3) := by decide +kernel
theorem dX9_misspelt_38 : decode cX9_misspelt 38 = .ok (.aload_n 0, 1) := by decide +kernel
theorem dX9_misspelt_39 : decode cX9_misspelt 39 = .ok (.getfield 60, 3) := by decide +kernel
theorem dX9_misspelt_42 : decode cX9_misspelt 42 = .ok (.iload_n 1, 1) := by decide +kernel
theorem dX9_misspelt_43 : decode cX9_misspelt 43 = .ok (.iload_n 2, 1) := by decide +kernel
theorem dX9_misspelt_44 : decode cX9_misspelt 44 = .ok (.invokevirtual 281, 3) := by decide +kernel
theorem dX9_misspelt_47 : decode cX9_misspelt 47 = .ok (.goto 5, 3) := by decide +kernel
theorem dX9_misspelt_50 : decode cX9_misspelt 50 = .ok (.bipush (-2), 2) := by decide +kernel
theorem dX9_misspelt_52 : decode cX9_misspelt 52 = .ok (.ireturn, 1) := by decide +kernel
theorem dX9_bids_0 : decode cX9_bids 0 = .ok (.iload_n 2, 1) := by decide +kernel
theorem dX9_bids_1 : decode cX9_bids 1 = .ok (.iconst 0, 1) := by decide +kernel
theorem dX9_bids_2 : decode cX9_bids 2 = .ok (.sipush 255, 3) := by decide +kernel
theorem dX9_bids_5 : decode cX9_bids 5 = .ok (.invokestatic 78, 3) := by decide +kernel
theorem dX9_bids_8 : decode cX9_bids 8 = .ok (.ifCond .eq 26, 3) := by decide +kernel
theorem dX9_bids_11 : decode cX9_bids 11 = .ok (.iload_n 3, 1) := by decide +kernel
theorem dX9_bids_12 : decode cX9_bids 12 = .ok (.iconst 0, 1) := by decide +kernel
theorem dX9_bids_13 : decode cX9_bids 13 = .ok (.iconst 1, 1) := by decide +kernel
theorem dX9_bids_14 : decode cX9_bids 14 = .ok (.invokestatic 78, 3) := by decide +kernel
theorem dX9_bids_17 : decode cX9_bids 17 = .ok (.ifCond .eq 17, 3) := by decide +kernel
theorem dX9_bids_20 : decode cX9_bids 20 = .ok (.aload_n 0, 1) := by decide +kernel
theorem dX9_bids_21 : decode cX9_bids 21 = .ok (.getfield 10, 3) := by decide +kernel
theorem dX9_bids_24 : decode cX9_bids 24 = .ok (.iload_n 1, 1) := by decide +kernel
theorem dX9_bids_25 : decode cX9_bids 25 = .ok (.iconst 1, 1) := by decide +kernel
theorem dX9_bids_26 : decode cX9_bids 26 = .ok (.bipush 12, 2) := by decide +kernel
theorem dX9_bids_28 : decode cX9_bids 28 = .ok (.invokevirtual 115, 3) := by decide +kernel
theorem dX9_bids_31 : decode cX9_bids 31 = .ok (.ifCond .ne 5, 3) := by decide +kernel
theorem dX9_bids_34 : decode cX9_bids 34 = .ok (.iconst (-1), 1) := by decide +kernel
theorem dX9_bids_35 : decode cX9_bids 35 = .ok (.ireturn, 1) := by decide +kernel
theorem dX9_bids_36 : decode cX9_bids 36 = .ok (.aload_n 0, 1) := by decide +kernel
theorem dX9_bids_37 : decode cX9_bids 37 = .ok (.getfield 10, 3) := by decide +kernel
theorem dX9_bids_40 : decode cX9_bids 40 = .ok (.invokevirtual 118, 3) := by decide +kernel
theorem dX9_bids_43 : decode cX9_bids 43 = .ok (.astore 4, 2) := by decide +kernel
theorem dX9_bids_45 : decode cX9_bids 45 = .ok (.aload_n 0, 1) := by decide +kernel
theorem dX9_bids_46 : decode cX9_bids 46 = .ok (.getfield 67, 3) := by decide +kernel
theorem dX9_bids_49 : decode cX9_bids 49 = .ok (.aload 4, 2) := by decide +kernel
theorem dX9_bids_51 : decode cX9_bids 51 = .ok (.iload_n 1, 1) := by decide +kernel
theorem dX9_bids_52 : decode cX9_bids 52 = .ok (.invokevirtual 284, 3) := by decide +kernel
theorem dX9_bids_55 : decode cX9_bids 55 = .ok (.istore 5, 2) := by decide +kernel
theorem dX9_bids_57 : decode cX9_bids 57 = .ok (.iload 5, 2) := by decide +kernel
theorem dX9_bids_59 : decode cX9_bids 59 = .ok (.ifCond .lt 12, 3) := by decide +kernel
theorem dX9_bids_62 : decode cX9_bids 62 = .ok (.aload 4, 2) := by decide +kernel
theorem dX9_bids_64 : decode cX9_bids 64 = .ok (.iload 5, 2) := by decide +kernel
theorem dX9_bids_66 : decode cX9_bids 66 = .ok (.iaload, 1) := by decide +kernel
theorem dX9_bids_67 : decode cX9_bids 67 = .ok (.iload_n 2, 1) := by decide +kernel
theorem dX9_bids_68 : decode cX9_bids 68 = .ok (.if_icmp .ge 6, 3) := by decide +kernel
theorem dX9_bids_71 : decode cX9_bids 71 = .ok (.bipush (-2), 2) := by decide +kernel
theorem dX9_bids_73 : decode cX9_bids 73 = .ok (.ireturn, 1) := by decide +kernel
theorem dX9_bids_74 : decode cX9_bids 74 = .ok (.iload_n 3, 1) := by decide +kernel
theorem dX9_bids_75 : decode cX9_bids 75 = .ok (.ifCond .ne 8, 3) := by decide +kernel
theorem dX9_bids_78 : decode cX9_bids 78 = .ok (.iload 5, 2) := by decide +kernel
theorem dX9_bids_80 : decode cX9_bids 80 = .ok (.goto 16, 3) := by decide +kernel
theorem dX9_bids_83 : decode cX9_bids 83 = .ok (.aload_n 0, 1) := by decide +kernel
theorem dX9_bids_84 : decode cX9_bids 84 = .ok (.getfield 67, 3) := by decide +kernel
theorem dX9_bids_87 : decode cX9_bids 87 = .ok (.aload 4, 2) := by decide +kernel
theorem dX9_bids_89 : decode cX9_bids 89 = .ok (.iload_n 1, 1) := by decide +kernel
theorem dX9_bids_90 : decode cX9_bids 90 = .ok (.iload 5, 2) := by decide +kernel
theorem dX9_bids_92 : decode cX9_bids 92 = .ok (.iload_n 2, 1) := by decide +kernel
theorem dX9_bids_93 : decode cX9_bids 93 = .ok (.invokevirtual 287, 3) := by decide +kernel
theorem dX9_bids_96 : decode cX9_bids 96 = .ok (.ireturn, 1) := by decide +kernel
theorem dX9_divided_0 : decode cX9_divided 0 = .ok (.iload_n 1, 1) := by decide +kernel
theorem dX9_divided_1 : decode cX9_divided 1 = .ok (.iconst 1, 1) := by decide +kernel
theorem dX9_divided_2 : decode cX9_divided 2 = .ok (.bipush 8, 2) := by decide +kernel
theorem dX9_divided_4 : decode cX9_divided 4 = .ok (.invokestatic 78, 3) := by decide +kernel
theorem dX9_divided_7 : decode cX9_divided 7 = .ok (.ifCond .eq 14, 3) := by decide +kernel
theorem dX9_divided_10 : decode cX9_divided 10 = .ok (.iload_n 2, 1) := by decide +kernel
theorem dX9_divided_11 : decode cX9_divided 11 = .ok (.iconst 0, 1) := by decide +kernel
theorem dX9_divided_12 : decode cX9_divided 12 = .ok (.sipush 9999, 3) := by decide +kernel
theorem dX9_divided_15 : decode cX9_divided 15 = .ok (.invokestatic 78, 3) := by decide +kernel
theorem dX9_divided_18 : decode cX9_divided 18 = .ok (.ifCond .ne 5, 3) := by decide +kernel
theorem dX9_divided_21 : decode cX9_divided 21 = .ok (.iconst (-1), 1) := by decide +kernel
theorem dX9_divided_22 : decode cX9_divided 22 = .ok (.ireturn, 1) := by decide +kernel
theorem dX9_divided_23 : decode cX9_divided 23 = .ok (.iload_n 3, 1) := by decide +kernel
theorem dX9_divided_24 : decode cX9_divided 24 = .ok (.iconst 0, 1) := by decide +kernel
theorem dX9_divided_25 : decode cX9_divided 25 = .ok (.iconst 2, 1) := by decide +kernel
theorem dX9_divided_26 : decode cX9_divided 26 = .ok (.invokestatic 78, 3) := by decide +kernel
theorem dX9_divided_29 : decode cX9_divided 29 = .ok (.ifCond .eq 32, 3) := by decide +kernel
theorem dX9_divided_32 : decode cX9_divided 32 = .ok (.iload 4, 2) := by decide +kernel
theorem dX9_divided_34 : decode cX9_divided 34 = .ok (.iconst 0, 1) := by decide +kernel
theorem dX9_divided_35 : decode cX9_divided 35 = .ok (.iload_n 1, 1) := by decide +kernel
theorem dX9_divided_36 : decode cX9_divided 36 = .ok (.iconst 1, 1) := by decide +kernel
theorem dX9_divided_37 : decode cX9_divided 37 = .ok (.isub, 1) := by decide +kernel
theorem dX9_divided_38 : decode cX9_divided 38 = .ok (.invokestatic 78, 3) := by decide +kernel
theorem dX9_divided_41 : decode cX9_divided 41 = .ok (.ifCond .eq 20, 3) := by decide +kernel
theorem dX9_divided_44 : decode cX9_divided 44 = .ok (.aload_n 0, 1) := by decide +kernel
theorem dX9_divided_45 : decode cX9_divided 45 = .ok (.getfield 10, 3) := by decide +kernel
theorem dX9_divided_48 : decode cX9_divided 48 = .ok (.iconst 2, 1) := by decide +kernel
theorem dX9_divided_49 : decode cX9_divided 49 = .ok (.iload_n 1, 1) := by decide +kernel
theorem dX9_divided_50 : decode cX9_divided 50 = .ok (.imul, 1) := by decide +kernel
theorem dX9_divided_51 : decode cX9_divided 51 = .ok (.iconst 2, 1) := by decide +kernel
theorem dX9_divided_52 : decode cX9_divided 52 = .ok (.iconst 2, 1) := by decide +kernel
theorem dX9_divided_53 : decode cX9_divided 53 = .ok (.iload_n 1, 1) := by decide +kernel
theorem dX9_divided_54 : decode cX9_divided 54 = .ok (.imul, 1) := by decide +kernel
theorem dX9_divided_55 : decode cX9_divided 55 = .ok (.invokevirtual 115, 3) := by decide +kernel
theorem dX9_divided_58 : decode cX9_divided 58 = .ok (.ifCond .ne 5, 3) := by decide +kernel
theorem dX9_divided_61 : decode cX9_divided 61 = .ok (.iconst (-1), 1) := by decide +kernel
theorem dX9_divided_62 : decode cX9_divided 62 = .ok (.ireturn, 1) := by decide +kernel
theorem dX9_divided_63 : decode cX9_divided 63 = .ok (.aload_n 0, 1) := by decide +kernel
theorem dX9_divided_64 : decode cX9_divided 64 = .ok (.getfield 67, 3) := by decide +kernel
theorem dX9_divided_67 : decode cX9_divided 67 = .ok (.aload_n 0, 1) := by decide +kernel
theorem dX9_divided_68 : decode cX9_divided 68 = .ok (.getfield 10, 3) := by decide +kernel
theorem dX9_divided_71 : decode cX9_divided 71 = .ok (.invokevirtual 118, 3) := by decide +kernel
theorem dX9_divided_74 : decode cX9_divided 74 = .ok (.iload_n 1, 1) := by decide +kernel
theorem dX9_divided_75 : decode cX9_divided 75 = .ok (.invokevirtual 290, 3) := by decide +kernel
theorem dX9_divided_78 : decode cX9_divided 78 = .ok (.ifCond .ne 6, 3) := by decide +kernel
theorem dX9_divided_81 : decode cX9_divided 81 = .ok (.bipush (-2), 2) := by decide +kernel
theorem dX9_divided_83 : decode cX9_divided 83 = .ok (.ireturn, 1) := by decide +kernel
theorem dX9_divided_84 : decode cX9_divided 84 = .ok (.aload_n 0, 1) := by decide +kernel
theorem dX9_divided_85 : decode cX9_divided 85 = .ok (.getfield 67, 3) := by decide +kernel
theorem dX9_divided_88 : decode cX9_divided 88 = .ok (.iload_n 1, 1) := by decide +kernel
theorem dX9_divided_89 : decode cX9_divided 89 = .ok (.iload_n 2, 1) := by decide +kernel
theorem dX9_divided_90 : decode cX9_divided 90 = .ok (.iload_n 3, 1) := by decide +kernel
theorem dX9_divided_91 : decode cX9_divided 91 = .ok (.invokevirtual 294, 3) := by decide +kernel
theorem dX9_divided_94 : decode cX9_divided 94 = .ok (.aload_n 0, 1) := by decide +kernel
theorem dX9_divided_95 : decode cX9_divided 95 = .ok (.getfield 67, 3) := by decide +kernel
theorem dX9_divided_98 : decode cX9_divided 98 = .ok (.getfield 297, 3) := by decide +kernel
theorem dX9_divided_101 : decode cX9_divided 101 = .ok (.iload 4, 2) := by decide +kernel
theorem dX9_divided_103 : decode cX9_divided 103 = .ok (.iaload, 1) := by decide +kernel
theorem dX9_divided_104 : decode cX9_divided 104 = .ok (.ireturn, 1) := by decide +kernel
theorem dX9_coins_0 : decode cX9_coins 0 = .ok (.iload_n 2, 1) := by decide +kernel
theorem dX9_coins_1 : decode cX9_coins 1 = .ok (.iconst 0, 1) := by decide +kernel
theorem dX9_coins_2 : decode cX9_coins 2 = .ok (.sipush 999, 3) := by decide +kernel
theorem dX9_coins_5 : decode cX9_coins 5 = .ok (.invokestatic 78, 3) := by decide +kernel
theorem dX9_coins_8 : decode cX9_coins 8 = .ok (.ifCond .eq 12, 3) := by decide +kernel
theorem dX9_coins_11 : decode cX9_coins 11 = .ok (.iload_n 3, 1) := by decide +kernel
theorem dX9_coins_12 : decode cX9_coins 12 = .ok (.iconst 0, 1) := by decide +kernel
theorem dX9_coins_13 : decode cX9_coins 13 = .ok (.iconst 2, 1) := by decide +kernel
theorem dX9_coins_14 : decode cX9_coins 14 = .ok (.invokestatic 78, 3) := by decide +kernel
theorem dX9_coins_17 : decode cX9_coins 17 = .ok (.ifCond .ne 5, 3) := by decide +kernel
theorem dX9_coins_20 : decode cX9_coins 20 = .ok (.iconst (-1), 1) := by decide +kernel
theorem dX9_coins_21 : decode cX9_coins 21 = .ok (.ireturn, 1) := by decide +kernel
theorem dX9_coins_22 : decode cX9_coins 22 = .ok (.aload_n 0, 1) := by decide +kernel
theorem dX9_coins_23 : decode cX9_coins 23 = .ok (.getfield 10, 3) := by decide +kernel
theorem dX9_coins_26 : decode cX9_coins 26 = .ok (.iload_n 1, 1) := by decide +kernel
theorem dX9_coins_27 : decode cX9_coins 27 = .ok (.iconst 1, 1) := by decide +kernel
theorem dX9_coins_28 : decode cX9_coins 28 = .ok (.bipush 6, 2) := by decide +kernel
theorem dX9_coins_30 : decode cX9_coins 30 = .ok (.invokevirtual 115, 3) := by decide +kernel
theorem dX9_coins_33 : decode cX9_coins 33 = .ok (.ifCond .ne 5, 3) := by decide +kernel
theorem dX9_coins_36 : decode cX9_coins 36 = .ok (.iconst (-1), 1) := by decide +kernel
theorem dX9_coins_37 : decode cX9_coins 37 = .ok (.ireturn, 1) := by decide +kernel
theorem dX9_coins_38 : decode cX9_coins 38 = .ok (.aload_n 0, 1) := by decide +kernel
theorem dX9_coins_39 : decode cX9_coins 39 = .ok (.getfield 67, 3) := by decide +kernel
theorem dX9_coins_42 : decode cX9_coins 42 = .ok (.aload_n 0, 1) := by decide +kernel
theorem dX9_coins_43 : decode cX9_coins 43 = .ok (.getfield 10, 3) := by decide +kernel
theorem dX9_coins_46 : decode cX9_coins 46 = .ok (.invokevirtual 118, 3) := by decide +kernel
theorem dX9_coins_49 : decode cX9_coins 49 = .ok (.iload_n 1, 1) := by decide +kernel
theorem dX9_coins_50 : decode cX9_coins 50 = .ok (.invokevirtual 300, 3) := by decide +kernel
theorem dX9_coins_53 : decode cX9_coins 53 = .ok (.ifCond .ne 6, 3) := by decide +kernel
theorem dX9_coins_56 : decode cX9_coins 56 = .ok (.bipush (-3), 2) := by decide +kernel
theorem dX9_coins_58 : decode cX9_coins 58 = .ok (.ireturn, 1) := by decide +kernel
theorem dX9_coins_59 : decode cX9_coins 59 = .ok (.iload_n 3, 1) := by decide +kernel
theorem dX9_coins_60 : decode cX9_coins 60 = .ok (.lookupswitch 46 #[(0, 28), (1, 37)], 28) := by decide +kernel
theorem dX9_coins_88 : decode cX9_coins 88 = .ok (.aload_n 0, 1) := by decide +kernel
theorem dX9_coins_89 : decode cX9_coins 89 = .ok (.getfield 67, 3) := by decide +kernel
theorem dX9_coins_92 : decode cX9_coins 92 = .ok (.iload_n 2, 1) := by decide +kernel
theorem dX9_coins_93 : decode cX9_coins 93 = .ok (.invokevirtual 303, 3) := by decide +kernel
theorem dX9_coins_96 : decode cX9_coins 96 = .ok (.ireturn, 1) := by decide +kernel
theorem dX9_coins_97 : decode cX9_coins 97 = .ok (.aload_n 0, 1) := by decide +kernel
theorem dX9_coins_98 : decode cX9_coins 98 = .ok (.getfield 67, 3) := by decide +kernel
theorem dX9_coins_101 : decode cX9_coins 101 = .ok (.iload_n 2, 1) := by decide +kernel
theorem dX9_coins_102 : decode cX9_coins 102 = .ok (.invokevirtual 306, 3) := by decide +kernel
theorem dX9_coins_105 : decode cX9_coins 105 = .ok (.ireturn, 1) := by decide +kernel
theorem dX9_coins_106 : decode cX9_coins 106 = .ok (.aload_n 0, 1) := by decide +kernel
theorem dX9_coins_107 : decode cX9_coins 107 = .ok (.getfield 67, 3) := by decide +kernel
theorem dX9_coins_110 : decode cX9_coins 110 = .ok (.iload_n 2, 1) := by decide +kernel
theorem dX9_coins_111 : decode cX9_coins 111 = .ok (.invokevirtual 309, 3) := by decide +kernel
theorem dX9_coins_114 : decode cX9_coins 114 = .ok (.ireturn, 1) := by decide +kernel
theorem dX9_lent_0 : decode cX9_lent 0 = .ok (.aload_n 0, 1) := by decide +kernel
theorem dX9_lent_1 : decode cX9_lent 1 = .ok (.getfield 26, 3) := by decide +kernel
theorem dX9_lent_4 : decode cX9_lent 4 = .ok (.iload_n 1, 1) := by decide +kernel
theorem dX9_lent_5 : decode cX9_lent 5 = .ok (.invokevirtual 164, 3) := by decide +kernel
theorem dX9_lent_8 : decode cX9_lent 8 = .ok (.ifCond .eq 23, 3) := by decide +kernel
theorem dX9_lent_11 : decode cX9_lent 11 = .ok (.iload_n 2, 1) := by decide +kernel
theorem dX9_lent_12 : decode cX9_lent 12 = .ok (.iconst 1, 1) := by decide +kernel
theorem dX9_lent_13 : decode cX9_lent 13 = .ok (.bipush 60, 2) := by decide +kernel
theorem dX9_lent_15 : decode cX9_lent 15 = .ok (.invokestatic 78, 3) := by decide +kernel
theorem dX9_lent_18 : decode cX9_lent 18 = .ok (.ifCond .eq 13, 3) := by decide +kernel
theorem dX9_lent_21 : decode cX9_lent 21 = .ok (.iload_n 3, 1) := by decide +kernel
theorem dX9_lent_22 : decode cX9_lent 22 = .ok (.iconst 0, 1) := by decide +kernel
theorem dX9_lent_23 : decode cX9_lent 23 = .ok (.bipush 10, 2) := by decide +kernel
theorem dX9_lent_25 : decode cX9_lent 25 = .ok (.invokestatic 78, 3) := by decide +kernel
theorem dX9_lent_28 : decode cX9_lent 28 = .ok (.ifCond .ne 5, 3) := by decide +kernel
theorem dX9_lent_31 : decode cX9_lent 31 = .ok (.iconst (-1), 1) := by decide +kernel
theorem dX9_lent_32 : decode cX9_lent 32 = .ok (.ireturn, 1) := by decide +kernel
theorem dX9_lent_33 : decode cX9_lent 33 = .ok (.aload_n 0, 1) := by decide +kernel
theorem dX9_lent_34 : decode cX9_lent 34 = .ok (.getfield 33, 3) := by decide +kernel
theorem dX9_lent_37 : decode cX9_lent 37 = .ok (.aload_n 0, 1) := by decide +kernel
theorem dX9_lent_38 : decode cX9_lent 38 = .ok (.getfield 26, 3) := by decide +kernel
theorem dX9_lent_41 : decode cX9_lent 41 = .ok (.invokevirtual 165, 3) := by decide +kernel
theorem dX9_lent_44 : decode cX9_lent 44 = .ok (.aload_n 0, 1) := by decide +kernel
theorem dX9_lent_45 : decode cX9_lent 45 = .ok (.getfield 33, 3) := by decide +kernel
theorem dX9_lent_48 : decode cX9_lent 48 = .ok (.iload_n 2, 1) := by decide +kernel
theorem dX9_lent_49 : decode cX9_lent 49 = .ok (.aload_n 0, 1) := by decide +kernel
theorem dX9_lent_50 : decode cX9_lent 50 = .ok (.getfield 19, 3) := by decide +kernel
theorem dX9_lent_53 : decode cX9_lent 53 = .ok (.aload_n 0, 1) := by decide +kernel
theorem dX9_lent_54 : decode cX9_lent 54 = .ok (.getfield 74, 3) := by decide +kernel
theorem dX9_lent_57 : decode cX9_lent 57 = .ok (.invokevirtual 157, 3) := by decide +kernel
theorem dX9_lent_60 : decode cX9_lent 60 = .ok (.aload_n 0, 1) := by decide +kernel
theorem dX9_lent_61 : decode cX9_lent 61 = .ok (.getfield 33, 3) := by decide +kernel
theorem dX9_lent_64 : decode cX9_lent 64 = .ok (.getfield 199, 3) := by decide +kernel
theorem dX9_lent_67 : decode cX9_lent 67 = .ok (.iload_n 1, 1) := by decide +kernel
theorem dX9_lent_68 : decode cX9_lent 68 = .ok (.iaload, 1) := by decide +kernel
theorem dX9_lent_69 : decode cX9_lent 69 = .ok (.iconst 2, 1) := by decide +kernel
theorem dX9_lent_70 : decode cX9_lent 70 = .ok (.imul, 1) := by decide +kernel
theorem dX9_lent_71 : decode cX9_lent 71 = .ok (.iconst 3, 1) := by decide +kernel
theorem dX9_lent_72 : decode cX9_lent 72 = .ok (.idiv, 1) := by decide +kernel
theorem dX9_lent_73 : decode cX9_lent 73 = .ok (.istore 4, 2) := by decide +kernel
theorem dX9_lent_75 : decode cX9_lent 75 = .ok (.iload 4, 2) := by decide +kernel
theorem dX9_lent_77 : decode cX9_lent 77 = .ok (.iload_n 3, 1) := by decide +kernel
theorem dX9_lent_78 : decode cX9_lent 78 = .ok (.imul, 1) := by decide +kernel
theorem dX9_lent_79 : decode cX9_lent 79 = .ok (.iload_n 2, 1) := by decide +kernel
theorem dX9_lent_80 : decode cX9_lent 80 = .ok (.imul, 1) := by decide +kernel
theorem dX9_lent_81 : decode cX9_lent 81 = .ok (.bipush 99, 2) := by decide +kernel
theorem dX9_lent_83 : decode cX9_lent 83 = .ok (.iadd, 1) := by decide +kernel
theorem dX9_lent_84 : decode cX9_lent 84 = .ok (.bipush 100, 2) := by decide +kernel
theorem dX9_lent_86 : decode cX9_lent 86 = .ok (.idiv, 1) := by decide +kernel
theorem dX9_lent_87 : decode cX9_lent 87 = .ok (.istore 5, 2) := by decide +kernel
theorem dX9_lent_89 : decode cX9_lent 89 = .ok (.iconst 0, 1) := by decide +kernel
theorem dX9_lent_90 : decode cX9_lent 90 = .ok (.iload 4, 2) := by decide +kernel
theorem dX9_lent_92 : decode cX9_lent 92 = .ok (.iload 5, 2) := by decide +kernel
theorem dX9_lent_94 : decode cX9_lent 94 = .ok (.isub, 1) := by decide +kernel
theorem dX9_lent_95 : decode cX9_lent 95 = .ok (.invokestatic 312, 3) := by decide +kernel
theorem dX9_lent_98 : decode cX9_lent 98 = .ok (.ireturn, 1) := by decide +kernel
theorem dX9_seed_0 : decode cX9_seed 0 = .ok (.iload_n 1, 1) := by decide +kernel
theorem dX9_seed_1 : decode cX9_seed 1 = .ok (.iconst 0, 1) := by decide +kernel
theorem dX9_seed_2 : decode cX9_seed 2 = .ok (.ldc_w 317, 3) := by decide +kernel
theorem dX9_seed_5 : decode cX9_seed 5 = .ok (.invokestatic 78, 3) := by decide +kernel
theorem dX9_seed_8 : decode cX9_seed 8 = .ok (.ifCond .ne 5, 3) := by decide +kernel
theorem dX9_seed_11 : decode cX9_seed 11 = .ok (.iconst 0, 1) := by decide +kernel
theorem dX9_seed_12 : decode cX9_seed 12 = .ok (.ireturn, 1) := by decide +kernel
theorem dX9_seed_13 : decode cX9_seed 13 = .ok (.aload_n 0, 1) := by decide +kernel
theorem dX9_seed_14 : decode cX9_seed 14 = .ok (.getfield 26, 3) := by decide +kernel
theorem dX9_seed_17 : decode cX9_seed 17 = .ok (.iload_n 1, 1) := by decide +kernel
theorem dX9_seed_18 : decode cX9_seed 18 = .ok (.putfield 318, 3) := by decide +kernel
theorem dX9_seed_21 : decode cX9_seed 21 = .ok (.iconst 1, 1) := by decide +kernel
theorem dX9_seed_22 : decode cX9_seed 22 = .ok (.ireturn, 1) := by decide +kernel
theorem dX9_keep_0 : decode cX9_keep 0 = .ok (.aload_n 0, 1) := by decide +kernel
theorem dX9_keep_1 : decode cX9_keep 1 = .ok (.getfield 30, 3) := by decide +kernel
theorem dX9_keep_4 : decode cX9_keep 4 = .ok (.aload_n 0, 1) := by decide +kernel
theorem dX9_keep_5 : decode cX9_keep 5 = .ok (.getfield 26, 3) := by decide +kernel
theorem dX9_keep_8 : decode cX9_keep 8 = .ok (.invokevirtual 165, 3) := by decide +kernel
theorem dX9_keep_11 : decode cX9_keep 11 = .ok (.aload_n 0, 1) := by decide +kernel
theorem dX9_keep_12 : decode cX9_keep 12 = .ok (.iconst 1, 1) := by decide +kernel
theorem dX9_keep_13 : decode cX9_keep 13 = .ok (.putfield 321, 3) := by decide +kernel
theorem dX9_keep_16 : decode cX9_keep 16 = .ok (.aload_n 0, 1) := by decide +kernel
theorem dX9_keep_17 : decode cX9_keep 17 = .ok (.getfield 26, 3) := by decide +kernel
theorem dX9_keep_20 : decode cX9_keep 20 = .ok (.getfield 325, 3) := by decide +kernel
theorem dX9_keep_23 : decode cX9_keep 23 = .ok (.ireturn, 1) := by decide +kernel
theorem dX9_undo_0 : decode cX9_undo 0 = .ok (.aload_n 0, 1) := by decide +kernel
theorem dX9_undo_1 : decode cX9_undo 1 = .ok (.getfield 321, 3) := by decide +kernel
theorem dX9_undo_4 : decode cX9_undo 4 = .ok (.ifCond .ne 5, 3) := by decide +kernel
theorem dX9_undo_7 : decode cX9_undo 7 = .ok (.iconst 0, 1) := by decide +kernel
theorem dX9_undo_8 : decode cX9_undo 8 = .ok (.ireturn, 1) := by decide +kernel
theorem dX9_undo_9 : decode cX9_undo 9 = .ok (.aload_n 0, 1) := by decide +kernel
theorem dX9_undo_10 : decode cX9_undo 10 = .ok (.getfield 26, 3) := by decide +kernel
theorem dX9_undo_13 : decode cX9_undo 13 = .ok (.aload_n 0, 1) := by decide +kernel
theorem dX9_undo_14 : decode cX9_undo 14 = .ok (.getfield 30, 3) := by decide +kernel
theorem dX9_undo_17 : decode cX9_undo 17 = .ok (.invokevirtual 165, 3) := by decide +kernel
theorem dX9_undo_20 : decode cX9_undo 20 = .ok (.iconst 1, 1) := by decide +kernel
theorem dX9_undo_21 : decode cX9_undo 21 = .ok (.ireturn, 1) := by decide +kernel
theorem dX9_check_0 : decode cX9_check 0 = .ok (.aload_n 0, 1) := by decide +kernel
theorem dX9_check_1 : decode cX9_check 1 = .ok (.getfield 10, 3) := by decide +kernel
theorem dX9_check_4 : decode cX9_check 4 = .ok (.iload_n 1, 1) := by decide +kernel
theorem dX9_check_5 : decode cX9_check 5 = .ok (.iconst 0, 1) := by decide +kernel
theorem dX9_check_6 : decode cX9_check 6 = .ok (.bipush 12, 2) := by decide +kernel
theorem dX9_check_8 : decode cX9_check 8 = .ok (.invokevirtual 115, 3) := by decide +kernel
theorem dX9_check_11 : decode cX9_check 11 = .ok (.ifCond .ne 6, 3) := by decide +kernel
theorem dX9_check_14 : decode cX9_check 14 = .ok (.bipush (-2), 2) := by decide +kernel
theorem dX9_check_16 : decode cX9_check 16 = .ok (.ireturn, 1) := by decide +kernel
theorem dX9_check_17 : decode cX9_check 17 = .ok (.aload_n 0, 1) := by decide +kernel
theorem dX9_check_18 : decode cX9_check 18 = .ok (.getfield 10, 3) := by decide +kernel
theorem dX9_check_21 : decode cX9_check 21 = .ok (.invokevirtual 118, 3) := by decide +kernel
theorem dX9_check_24 : decode cX9_check 24 = .ok (.astore_n 2, 1) := by decide +kernel
theorem dX9_check_25 : decode cX9_check 25 = .ok (.iconst 0, 1) := by decide +kernel
theorem dX9_check_26 : decode cX9_check 26 = .ok (.istore_n 3, 1) := by decide +kernel
theorem dX9_check_27 : decode cX9_check 27 = .ok (.iload_n 3, 1) := by decide +kernel
theorem dX9_check_28 : decode cX9_check 28 = .ok (.iload_n 1, 1) := by decide +kernel
theorem dX9_check_29 : decode cX9_check 29 = .ok (.if_icmp .ge 32, 3) := by decide +kernel
theorem dX9_check_32 : decode cX9_check 32 = .ok (.iload_n 3, 1) := by decide +kernel
theorem dX9_check_33 : decode cX9_check 33 = .ok (.bipush 12, 2) := by decide +kernel
theorem dX9_check_35 : decode cX9_check 35 = .ok (.if_icmp .ge 26, 3) := by decide +kernel
theorem dX9_check_38 : decode cX9_check 38 = .ok (.aload_n 2, 1) := by decide +kernel
theorem dX9_check_39 : decode cX9_check 39 = .ok (.iload_n 3, 1) := by decide +kernel
theorem dX9_check_40 : decode cX9_check 40 = .ok (.iaload, 1) := by decide +kernel
theorem dX9_check_41 : decode cX9_check 41 = .ok (.aload_n 0, 1) := by decide +kernel
theorem dX9_check_42 : decode cX9_check 42 = .ok (.getfield 26, 3) := by decide +kernel
theorem dX9_check_45 : decode cX9_check 45 = .ok (.getfield 86, 3) := by decide +kernel
theorem dX9_check_48 : decode cX9_check 48 = .ok (.iload_n 3, 1) := by decide +kernel
theorem dX9_check_49 : decode cX9_check 49 = .ok (.iaload, 1) := by decide +kernel
theorem dX9_check_50 : decode cX9_check 50 = .ok (.if_icmp .eq 5, 3) := by decide +kernel
theorem dX9_check_53 : decode cX9_check 53 = .ok (.iload_n 3, 1) := by decide +kernel
theorem dX9_check_54 : decode cX9_check 54 = .ok (.ireturn, 1) := by decide +kernel
theorem dX9_check_55 : decode cX9_check 55 = .ok (.iinc 3 1, 3) := by decide +kernel
theorem dX9_check_58 : decode cX9_check 58 = .ok (.goto (-31), 3) := by decide +kernel
theorem dX9_check_61 : decode cX9_check 61 = .ok (.iconst (-1), 1) := by decide +kernel
theorem dX9_check_62 : decode cX9_check 62 = .ok (.ireturn, 1) := by decide +kernel
theorem dX9_count_0 : decode cX9_count 0 = .ok (.iload_n 1, 1) := by decide +kernel
theorem dX9_count_1 : decode cX9_count 1 = .ok (.tableswitch 135 0 9 #[55, 63, 71, 79, 87, 95, 103, 111, 119, 127], 55) := by decide +kernel
theorem dX9_count_56 : decode cX9_count 56 = .ok (.aload_n 0, 1) := by decide +kernel
theorem dX9_count_57 : decode cX9_count 57 = .ok (.getfield 26, 3) := by decide +kernel
theorem dX9_count_60 : decode cX9_count 60 = .ok (.getfield 325, 3) := by decide +kernel
theorem dX9_count_63 : decode cX9_count 63 = .ok (.ireturn, 1) := by decide +kernel
theorem dX9_count_64 : decode cX9_count 64 = .ok (.aload_n 0, 1) := by decide +kernel
theorem dX9_count_65 : decode cX9_count 65 = .ok (.getfield 26, 3) := by decide +kernel
theorem dX9_count_68 : decode cX9_count 68 = .ok (.getfield 175, 3) := by decide +kernel
theorem dX9_count_71 : decode cX9_count 71 = .ok (.ireturn, 1) := by decide +kernel
theorem dX9_count_72 : decode cX9_count 72 = .ok (.aload_n 0, 1) := by decide +kernel
theorem dX9_count_73 : decode cX9_count 73 = .ok (.getfield 26, 3) := by decide +kernel
theorem dX9_count_76 : decode cX9_count 76 = .ok (.getfield 172, 3) := by decide +kernel
theorem dX9_count_79 : decode cX9_count 79 = .ok (.ireturn, 1) := by decide +kernel
theorem dX9_count_80 : decode cX9_count 80 = .ok (.aload_n 0, 1) := by decide +kernel
theorem dX9_count_81 : decode cX9_count 81 = .ok (.getfield 19, 3) := by decide +kernel
theorem dX9_count_84 : decode cX9_count 84 = .ok (.getfield 133, 3) := by decide +kernel
theorem dX9_count_87 : decode cX9_count 87 = .ok (.ireturn, 1) := by decide +kernel
theorem dX9_count_88 : decode cX9_count 88 = .ok (.aload_n 0, 1) := by decide +kernel
theorem dX9_count_89 : decode cX9_count 89 = .ok (.getfield 26, 3) := by decide +kernel
theorem dX9_count_92 : decode cX9_count 92 = .ok (.getfield 130, 3) := by decide +kernel
theorem dX9_count_95 : decode cX9_count 95 = .ok (.ireturn, 1) := by decide +kernel
theorem dX9_count_96 : decode cX9_count 96 = .ok (.aload_n 0, 1) := by decide +kernel
theorem dX9_count_97 : decode cX9_count 97 = .ok (.getfield 26, 3) := by decide +kernel
theorem dX9_count_100 : decode cX9_count 100 = .ok (.getfield 328, 3) := by decide +kernel
theorem dX9_count_103 : decode cX9_count 103 = .ok (.ireturn, 1) := by decide +kernel
theorem dX9_count_104 : decode cX9_count 104 = .ok (.aload_n 0, 1) := by decide +kernel
theorem dX9_count_105 : decode cX9_count 105 = .ok (.getfield 74, 3) := by decide +kernel
theorem dX9_count_108 : decode cX9_count 108 = .ok (.getfield 331, 3) := by decide +kernel
theorem dX9_count_111 : decode cX9_count 111 = .ok (.ireturn, 1) := by decide +kernel
theorem dX9_count_112 : decode cX9_count 112 = .ok (.aload_n 0, 1) := by decide +kernel
theorem dX9_count_113 : decode cX9_count 113 = .ok (.getfield 10, 3) := by decide +kernel
theorem dX9_count_116 : decode cX9_count 116 = .ok (.getfield 111, 3) := by decide +kernel
theorem dX9_count_119 : decode cX9_count 119 = .ok (.ireturn, 1) := by decide +kernel
theorem dX9_count_120 : decode cX9_count 120 = .ok (.aload_n 0, 1) := by decide +kernel
theorem dX9_count_121 : decode cX9_count 121 = .ok (.getfield 26, 3) := by decide +kernel
theorem dX9_count_124 : decode cX9_count 124 = .ok (.getfield 318, 3) := by decide +kernel
theorem dX9_count_127 : decode cX9_count 127 = .ok (.ireturn, 1) := by decide +kernel
theorem dX9_count_128 : decode cX9_count 128 = .ok (.aload_n 0, 1) := by decide +kernel
theorem dX9_count_129 : decode cX9_count 129 = .ok (.getfield 60, 3) := by decide +kernel
theorem dX9_count_132 : decode cX9_count 132 = .ok (.invokevirtual 334, 3) := by decide +kernel
theorem dX9_count_135 : decode cX9_count 135 = .ok (.ireturn, 1) := by decide +kernel
theorem dX9_count_136 : decode cX9_count 136 = .ok (.aload_n 0, 1) := by decide +kernel
theorem dX9_count_137 : decode cX9_count 137 = .ok (.getfield 60, 3) := by decide +kernel
theorem dX9_count_140 : decode cX9_count 140 = .ok (.iload_n 1, 1) := by decide +kernel
theorem dX9_count_141 : decode cX9_count 141 = .ok (.bipush 10, 2) := by decide +kernel
theorem dX9_count_143 : decode cX9_count 143 = .ok (.isub, 1) := by decide +kernel
theorem dX9_count_144 : decode cX9_count 144 = .ok (.invokevirtual 266, 3) := by decide +kernel
theorem dX9_count_147 : decode cX9_count 147 = .ok (.ifCond .eq 18, 3) := by decide +kernel
theorem dX9_count_150 : decode cX9_count 150 = .ok (.aload_n 0, 1) := by decide +kernel
theorem dX9_count_151 : decode cX9_count 151 = .ok (.getfield 60, 3) := by decide +kernel
theorem dX9_count_154 : decode cX9_count 154 = .ok (.getfield 337, 3) := by decide +kernel
theorem dX9_count_157 : decode cX9_count 157 = .ok (.iload_n 1, 1) := by decide +kernel
theorem dX9_count_158 : decode cX9_count 158 = .ok (.bipush 10, 2) := by decide +kernel
theorem dX9_count_160 : decode cX9_count 160 = .ok (.isub, 1) := by decide +kernel
theorem dX9_count_161 : decode cX9_count 161 = .ok (.iaload, 1) := by decide +kernel
theorem dX9_count_162 : decode cX9_count 162 = .ok (.goto 4, 3) := by decide +kernel
theorem dX9_count_165 : decode cX9_count 165 = .ok (.iconst (-1), 1) := by decide +kernel
theorem dX9_count_166 : decode cX9_count 166 = .ok (.ireturn, 1) := by decide +kernel
theorem dX9_isWithin_0 : decode cX9_isWithin 0 = .ok (.iload_n 0, 1) := by decide +kernel
theorem dX9_isWithin_1 : decode cX9_isWithin 1 = .ok (.iload_n 1, 1) := by decide +kernel
theorem dX9_isWithin_2 : decode cX9_isWithin 2 = .ok (.if_icmp .lt 12, 3) := by decide +kernel
theorem dX9_isWithin_5 : decode cX9_isWithin 5 = .ok (.iload_n 0, 1) := by decide +kernel
theorem dX9_isWithin_6 : decode cX9_isWithin 6 = .ok (.iload_n 2, 1) := by decide +kernel
theorem dX9_isWithin_7 : decode cX9_isWithin 7 = .ok (.if_icmp .gt 7, 3) := by decide +kernel
theorem dX9_isWithin_10 : decode cX9_isWithin 10 = .ok (.iconst 1, 1) := by decide +kernel
theorem dX9_isWithin_11 : decode cX9_isWithin 11 = .ok (.goto 4, 3) := by decide +kernel
theorem dX9_isWithin_14 : decode cX9_isWithin 14 = .ok (.iconst 0, 1) := by decide +kernel
theorem dX9_isWithin_15 : decode cX9_isWithin 15 = .ok (.ireturn, 1) := by decide +kernel
theorem dX9_isLetter_0 : decode cX9_isLetter 0 = .ok (.iload_n 0, 1) := by decide +kernel
theorem dX9_isLetter_1 : decode cX9_isLetter 1 = .ok (.iconst 0, 1) := by decide +kernel
theorem dX9_isLetter_2 : decode cX9_isLetter 2 = .ok (.iconst 5, 1) := by decide +kernel
theorem dX9_isLetter_3 : decode cX9_isLetter 3 = .ok (.invokestatic 78, 3) := by decide +kernel
theorem dX9_isLetter_6 : decode cX9_isLetter 6 = .ok (.ireturn, 1) := by decide +kernel
theorem dX9_isDigit_0 : decode cX9_isDigit 0 = .ok (.iload_n 0, 1) := by decide +kernel
theorem dX9_isDigit_1 : decode cX9_isDigit 1 = .ok (.bipush 48, 2) := by decide +kernel
theorem dX9_isDigit_3 : decode cX9_isDigit 3 = .ok (.if_icmp .lt 13, 3) := by decide +kernel
theorem dX9_isDigit_6 : decode cX9_isDigit 6 = .ok (.iload_n 0, 1) := by decide +kernel
theorem dX9_isDigit_7 : decode cX9_isDigit 7 = .ok (.bipush 57, 2) := by decide +kernel
theorem dX9_isDigit_9 : decode cX9_isDigit 9 = .ok (.if_icmp .gt 7, 3) := by decide +kernel
theorem dX9_isDigit_12 : decode cX9_isDigit 12 = .ok (.iconst 1, 1) := by decide +kernel
theorem dX9_isDigit_13 : decode cX9_isDigit 13 = .ok (.goto 4, 3) := by decide +kernel
theorem dX9_isDigit_16 : decode cX9_isDigit 16 = .ok (.iconst 0, 1) := by decide +kernel
theorem dX9_isDigit_17 : decode cX9_isDigit 17 = .ok (.ireturn, 1) := by decide +kernel
theorem dX9_hasBit_0 : decode cX9_hasBit 0 = .ok (.iload_n 0, 1) := by decide +kernel
theorem dX9_hasBit_1 : decode cX9_hasBit 1 = .ok (.iload_n 1, 1) := by decide +kernel
theorem dX9_hasBit_2 : decode cX9_hasBit 2 = .ok (.ishr, 1) := by decide +kernel
theorem dX9_hasBit_3 : decode cX9_hasBit 3 = .ok (.iconst 1, 1) := by decide +kernel
theorem dX9_hasBit_4 : decode cX9_hasBit 4 = .ok (.iand, 1) := by decide +kernel
theorem dX9_hasBit_5 : decode cX9_hasBit 5 = .ok (.iconst 1, 1) := by decide +kernel
theorem dX9_hasBit_6 : decode cX9_hasBit 6 = .ok (.if_icmp .ne 7, 3) := by decide +kernel
theorem dX9_hasBit_9 : decode cX9_hasBit 9 = .ok (.iconst 1, 1) := by decide +kernel
theorem dX9_hasBit_10 : decode cX9_hasBit 10 = .ok (.goto 4, 3) := by decide +kernel
theorem dX9_hasBit_13 : decode cX9_hasBit 13 = .ok (.iconst 0, 1) := by decide +kernel
theorem dX9_hasBit_14 : decode cX9_hasBit 14 = .ok (.ireturn, 1) := by decide +kernel
theorem dX9_isSome_0 : decode cX9_isSome 0 = .ok (.iload_n 0, 1) := by decide +kernel
theorem dX9_isSome_1 : decode cX9_isSome 1 = .ok (.ifCond .eq 23, 3) := by decide +kernel
theorem dX9_isSome_4 : decode cX9_isSome 4 = .ok (.iload_n 0, 1) := by decide +kernel
theorem dX9_isSome_5 : decode cX9_isSome 5 = .ok (.iload_n 1, 1) := by decide +kernel
theorem dX9_isSome_6 : decode cX9_isSome 6 = .ok (.iconst (-1), 1) := by decide +kernel
theorem dX9_isSome_7 : decode cX9_isSome 7 = .ok (.ixor, 1) := by decide +kernel
theorem dX9_isSome_8 : decode cX9_isSome 8 = .ok (.iand, 1) := by decide +kernel
theorem dX9_isSome_9 : decode cX9_isSome 9 = .ok (.ifCond .ne 15, 3) := by decide +kernel
theorem dX9_isSome_12 : decode cX9_isSome 12 = .ok (.iload_n 0, 1) := by decide +kernel
theorem dX9_isSome_13 : decode cX9_isSome 13 = .ok (.invokestatic 235, 3) := by decide +kernel
theorem dX9_isSome_16 : decode cX9_isSome 16 = .ok (.iload_n 2, 1) := by decide +kernel
theorem dX9_isSome_17 : decode cX9_isSome 17 = .ok (.if_icmp .gt 7, 3) := by decide +kernel
theorem dX9_isSome_20 : decode cX9_isSome 20 = .ok (.iconst 1, 1) := by decide +kernel
theorem dX9_isSome_21 : decode cX9_isSome 21 = .ok (.goto 4, 3) := by decide +kernel
theorem dX9_isSome_24 : decode cX9_isSome 24 = .ok (.iconst 0, 1) := by decide +kernel
theorem dX9_isSome_25 : decode cX9_isSome 25 = .ok (.ireturn, 1) := by decide +kernel
theorem dX9_lettersAt_0 : decode cX9_lettersAt 0 = .ok (.iconst 0, 1) := by decide +kernel
theorem dX9_lettersAt_1 : decode cX9_lettersAt 1 = .ok (.istore_n 2, 1) := by decide +kernel
theorem dX9_lettersAt_2 : decode cX9_lettersAt 2 = .ok (.iconst 0, 1) := by decide +kernel
theorem dX9_lettersAt_3 : decode cX9_lettersAt 3 = .ok (.istore_n 3, 1) := by decide +kernel
theorem dX9_lettersAt_4 : decode cX9_lettersAt 4 = .ok (.iload_n 3, 1) := by decide +kernel
theorem dX9_lettersAt_5 : decode cX9_lettersAt 5 = .ok (.bipush 6, 2) := by decide +kernel
theorem dX9_lettersAt_7 : decode cX9_lettersAt 7 = .ok (.if_icmp .ge 31, 3) := by decide +kernel
theorem dX9_lettersAt_10 : decode cX9_lettersAt 10 = .ok (.iload_n 3, 1) := by decide +kernel
theorem dX9_lettersAt_11 : decode cX9_lettersAt 11 = .ok (.aload_n 0, 1) := by decide +kernel
theorem dX9_lettersAt_12 : decode cX9_lettersAt 12 = .ok (.arraylength, 1) := by decide +kernel
theorem dX9_lettersAt_13 : decode cX9_lettersAt 13 = .ok (.if_icmp .ge 25, 3) := by decide +kernel
theorem dX9_lettersAt_16 : decode cX9_lettersAt 16 = .ok (.aload_n 0, 1) := by decide +kernel
theorem dX9_lettersAt_17 : decode cX9_lettersAt 17 = .ok (.iload_n 3, 1) := by decide +kernel
theorem dX9_lettersAt_18 : decode cX9_lettersAt 18 = .ok (.iaload, 1) := by decide +kernel
theorem dX9_lettersAt_19 : decode cX9_lettersAt 19 = .ok (.iload_n 1, 1) := by decide +kernel
theorem dX9_lettersAt_20 : decode cX9_lettersAt 20 = .ok (.invokestatic 205, 3) := by decide +kernel
theorem dX9_lettersAt_23 : decode cX9_lettersAt 23 = .ok (.ifCond .eq 9, 3) := by decide +kernel
theorem dX9_lettersAt_26 : decode cX9_lettersAt 26 = .ok (.iload_n 2, 1) := by decide +kernel
theorem dX9_lettersAt_27 : decode cX9_lettersAt 27 = .ok (.iconst 1, 1) := by decide +kernel
theorem dX9_lettersAt_28 : decode cX9_lettersAt 28 = .ok (.iload_n 3, 1) := by decide +kernel
theorem dX9_lettersAt_29 : decode cX9_lettersAt 29 = .ok (.ishl, 1) := by decide +kernel
theorem dX9_lettersAt_30 : decode cX9_lettersAt 30 = .ok (.ior, 1) := by decide +kernel
theorem dX9_lettersAt_31 : decode cX9_lettersAt 31 = .ok (.istore_n 2, 1) := by decide +kernel
theorem dX9_lettersAt_32 : decode cX9_lettersAt 32 = .ok (.iinc 3 1, 3) := by decide +kernel
theorem dX9_lettersAt_35 : decode cX9_lettersAt 35 = .ok (.goto (-31), 3) := by decide +kernel
theorem dX9_lettersAt_38 : decode cX9_lettersAt 38 = .ok (.iload_n 2, 1) := by decide +kernel
theorem dX9_lettersAt_39 : decode cX9_lettersAt 39 = .ok (.ireturn, 1) := by decide +kernel
theorem dX10_init_0 : decode cX10_init 0 = .ok (.aload_n 0, 1) := by decide +kernel
theorem dX10_init_1 : decode cX10_init 1 = .ok (.invokespecial 1, 3) := by decide +kernel
theorem dX10_init_4 : decode cX10_init 4 = .ok (.aload_n 0, 1) := by decide +kernel
theorem dX10_init_5 : decode cX10_init 5 = .ok (.sipush 151, 3) := by decide +kernel
theorem dX10_init_8 : decode cX10_init 8 = .ok (.newarray .int, 2) := by decide +kernel
theorem dX10_init_10 : decode cX10_init 10 = .ok (.putfield 7, 3) := by decide +kernel
theorem dX10_init_13 : decode cX10_init 13 = .ok (.aload_n 0, 1) := by decide +kernel
theorem dX10_init_14 : decode cX10_init 14 = .ok (.sipush 151, 3) := by decide +kernel
theorem dX10_init_17 : decode cX10_init 17 = .ok (.newarray .int, 2) := by decide +kernel
theorem dX10_init_19 : decode cX10_init 19 = .ok (.putfield 13, 3) := by decide +kernel
theorem dX10_init_22 : decode cX10_init 22 = .ok (.aload_n 0, 1) := by decide +kernel
theorem dX10_init_23 : decode cX10_init 23 = .ok (.sipush 151, 3) := by decide +kernel
theorem dX10_init_26 : decode cX10_init 26 = .ok (.newarray .int, 2) := by decide +kernel
theorem dX10_init_28 : decode cX10_init 28 = .ok (.putfield 16, 3) := by decide +kernel
theorem dX10_init_31 : decode cX10_init 31 = .ok (.aload_n 0, 1) := by decide +kernel
theorem dX10_init_32 : decode cX10_init 32 = .ok (.sipush 144, 3) := by decide +kernel
theorem dX10_init_35 : decode cX10_init 35 = .ok (.newarray .int, 2) := by decide +kernel
theorem dX10_init_37 : decode cX10_init 37 = .ok (.putfield 19, 3) := by decide +kernel
theorem dX10_init_40 : decode cX10_init 40 = .ok (.aload_n 0, 1) := by decide +kernel
theorem dX10_init_41 : decode cX10_init 41 = .ok (.sipush 260, 3) := by decide +kernel
theorem dX10_init_44 : decode cX10_init 44 = .ok (.newarray .byte, 2) := by decide +kernel
theorem dX10_init_46 : decode cX10_init 46 = .ok (.putfield 22, 3) := by decide +kernel
theorem dX10_init_49 : decode cX10_init 49 = .ok (.aload_n 0, 1) := by decide +kernel
theorem dX10_init_50 : decode cX10_init 50 = .ok (.sipush 260, 3) := by decide +kernel
theorem dX10_init_53 : decode cX10_init 53 = .ok (.newarray .int, 2) := by decide +kernel
theorem dX10_init_55 : decode cX10_init 55 = .ok (.putfield 26, 3) := by decide +kernel
theorem dX10_init_58 : decode cX10_init 58 = .ok (.aload_n 0, 1) := by decide +kernel
theorem dX10_init_59 : decode cX10_init 59 = .ok (.sipush 260, 3) := by decide +kernel
theorem dX10_init_62 : decode cX10_init 62 = .ok (.newarray .int, 2) := by decide +kernel
theorem dX10_init_64 : decode cX10_init 64 = .ok (.putfield 29, 3) := by decide +kernel
theorem dX10_init_67 : decode cX10_init 67 = .ok (.aload_n 0, 1) := by decide +kernel
theorem dX10_init_68 : decode cX10_init 68 = .ok (.bipush 16, 2) := by decide +kernel
theorem dX10_init_70 : decode cX10_init 70 = .ok (.newarray .int, 2) := by decide +kernel
theorem dX10_init_72 : decode cX10_init 72 = .ok (.putfield 32, 3) := by decide +kernel
theorem dX10_init_75 : decode cX10_init 75 = .ok (.aload_n 0, 1) := by decide +kernel
theorem dX10_init_76 : decode cX10_init 76 = .ok (.bipush 16, 2) := by decide +kernel
theorem dX10_init_78 : decode cX10_init 78 = .ok (.newarray .int, 2) := by decide +kernel
theorem dX10_init_80 : decode cX10_init 80 = .ok (.putfield 35, 3) := by decide +kernel
theorem dX10_init_83 : decode cX10_init 83 = .ok (.aload_n 0, 1) := by decide +kernel
theorem dX10_init_84 : decode cX10_init 84 = .ok (.bipush 16, 2) := by decide +kernel
theorem dX10_init_86 : decode cX10_init 86 = .ok (.newarray .int, 2) := by decide +kernel
theorem dX10_init_88 : decode cX10_init 88 = .ok (.putfield 38, 3) := by decide +kernel
theorem dX10_init_91 : decode cX10_init 91 = .ok (.aload_n 0, 1) := by decide +kernel
theorem dX10_init_92 : decode cX10_init 92 = .ok (.bipush 16, 2) := by decide +kernel
theorem dX10_init_94 : decode cX10_init 94 = .ok (.newarray .int, 2) := by decide +kernel
theorem dX10_init_96 : decode cX10_init 96 = .ok (.putfield 41, 3) := by decide +kernel
theorem dX10_init_99 : decode cX10_init 99 = .ok (.aload_n 0, 1) := by decide +kernel
theorem dX10_init_100 : decode cX10_init 100 = .ok (.sipush 260, 3) := by decide +kernel
theorem dX10_init_103 : decode cX10_init 103 = .ok (.newarray .int, 2) := by decide +kernel
theorem dX10_init_105 : decode cX10_init 105 = .ok (.putfield 44, 3) := by decide +kernel
theorem dX10_init_108 : decode cX10_init 108 = .ok (.aload_n 0, 1) := by decide +kernel
theorem dX10_init_109 : decode cX10_init 109 = .ok (.bipush 16, 2) := by decide +kernel
theorem dX10_init_111 : decode cX10_init 111 = .ok (.newarray .int, 2) := by decide +kernel
theorem dX10_init_113 : decode cX10_init 113 = .ok (.putfield 47, 3) := by decide +kernel
theorem dX10_init_116 : decode cX10_init 116 = .ok (.aload_n 0, 1) := by decide +kernel
theorem dX10_init_117 : decode cX10_init 117 = .ok (.bipush 16, 2) := by decide +kernel
theorem dX10_init_119 : decode cX10_init 119 = .ok (.newarray .int, 2) := by decide +kernel
theorem dX10_init_121 : decode cX10_init 121 = .ok (.putfield 50, 3) := by decide +kernel
theorem dX10_init_124 : decode cX10_init 124 = .ok (.aload_n 0, 1) := by decide +kernel
theorem dX10_init_125 : decode cX10_init 125 = .ok (.bipush 16, 2) := by decide +kernel
theorem dX10_init_127 : decode cX10_init 127 = .ok (.newarray .int, 2) := by decide +kernel
theorem dX10_init_129 : decode cX10_init 129 = .ok (.putfield 53, 3) := by decide +kernel
theorem dX10_init_132 : decode cX10_init 132 = .ok (.aload_n 0, 1) := by decide +kernel
theorem dX10_init_133 : decode cX10_init 133 = .ok (.bipush 16, 2) := by decide +kernel
theorem dX10_init_135 : decode cX10_init 135 = .ok (.newarray .int, 2) := by decide +kernel
theorem dX10_init_137 : decode cX10_init 137 = .ok (.putfield 56, 3) := by decide +kernel
theorem dX10_init_140 : decode cX10_init 140 = .ok (.aload_n 0, 1) := by decide +kernel
theorem dX10_init_141 : decode cX10_init 141 = .ok (.sipush 260, 3) := by decide +kernel
theorem dX10_init_144 : decode cX10_init 144 = .ok (.newarray .int, 2) := by decide +kernel
theorem dX10_init_146 : decode cX10_init 146 = .ok (.putfield 59, 3) := by decide +kernel
theorem dX10_init_149 : decode cX10_init 149 = .ok (.aload_n 0, 1) := by decide +kernel
theorem dX10_init_150 : decode cX10_init 150 = .ok (.bipush 7, 2) := by decide +kernel
theorem dX10_init_152 : decode cX10_init 152 = .ok (.newarray .int, 2) := by decide +kernel
theorem dX10_init_154 : decode cX10_init 154 = .ok (.putfield 62, 3) := by decide +kernel
theorem dX10_init_157 : decode cX10_init 157 = .ok (.aload_n 0, 1) := by decide +kernel
theorem dX10_init_158 : decode cX10_init 158 = .ok (.bipush 20, 2) := by decide +kernel
theorem dX10_init_160 : decode cX10_init 160 = .ok (.newarray .int, 2) := by decide +kernel
theorem dX10_init_162 : decode cX10_init 162 = .ok (.putfield 65, 3) := by decide +kernel
theorem dX10_init_165 : decode cX10_init 165 = .ok (.aload_n 0, 1) := by decide +kernel
theorem dX10_init_166 : decode cX10_init 166 = .ok (.bipush 20, 2) := by decide +kernel
theorem dX10_init_168 : decode cX10_init 168 = .ok (.newarray .int, 2) := by decide +kernel
theorem dX10_init_170 : decode cX10_init 170 = .ok (.putfield 68, 3) := by decide +kernel
theorem dX10_init_173 : decode cX10_init 173 = .ok (.aload_n 0, 1) := by decide +kernel
theorem dX10_init_174 : decode cX10_init 174 = .ok (.bipush 20, 2) := by decide +kernel
theorem dX10_init_176 : decode cX10_init 176 = .ok (.newarray .int, 2) := by decide +kernel
theorem dX10_init_178 : decode cX10_init 178 = .ok (.putfield 71, 3) := by decide +kernel
theorem dX10_init_181 : decode cX10_init 181 = .ok (.aload_n 0, 1) := by decide +kernel
theorem dX10_init_182 : decode cX10_init 182 = .ok (.bipush 20, 2) := by decide +kernel
theorem dX10_init_184 : decode cX10_init 184 = .ok (.newarray .int, 2) := by decide +kernel
theorem dX10_init_186 : decode cX10_init 186 = .ok (.putfield 74, 3) := by decide +kernel
theorem dX10_init_189 : decode cX10_init 189 = .ok (.aload_n 0, 1) := by decide +kernel
theorem dX10_init_190 : decode cX10_init 190 = .ok (.bipush 12, 2) := by decide +kernel
theorem dX10_init_192 : decode cX10_init 192 = .ok (.newarray .int, 2) := by decide +kernel
theorem dX10_init_194 : decode cX10_init 194 = .ok (.putfield 77, 3) := by decide +kernel
theorem dX10_init_197 : decode cX10_init 197 = .ok (.aload_n 0, 1) := by decide +kernel
theorem dX10_init_198 : decode cX10_init 198 = .ok (.bipush 12, 2) := by decide +kernel
theorem dX10_init_200 : decode cX10_init 200 = .ok (.newarray .int, 2) := by decide +kernel
theorem dX10_init_202 : decode cX10_init 202 = .ok (.putfield 80, 3) := by decide +kernel
theorem dX10_init_205 : decode cX10_init 205 = .ok (.aload_n 0, 1) := by decide +kernel
theorem dX10_init_206 : decode cX10_init 206 = .ok (.sipush 144, 3) := by decide +kernel
theorem dX10_init_209 : decode cX10_init 209 = .ok (.newarray .int, 2) := by decide +kernel
theorem dX10_init_211 : decode cX10_init 211 = .ok (.putfield 83, 3) := by decide +kernel
theorem dX10_init_214 : decode cX10_init 214 = .ok (.aload_n 0, 1) := by decide +kernel
theorem dX10_init_215 : decode cX10_init 215 = .ok (.bipush 7, 2) := by decide +kernel
theorem dX10_init_217 : decode cX10_init 217 = .ok (.newarray .int, 2) := by decide +kernel
theorem dX10_init_219 : decode cX10_init 219 = .ok (.putfield 86, 3) := by decide +kernel
theorem dX10_init_222 : decode cX10_init 222 = .ok (.aload_n 0, 1) := by decide +kernel
theorem dX10_init_223 : decode cX10_init 223 = .ok (.bipush 7, 2) := by decide +kernel
theorem dX10_init_225 : decode cX10_init 225 = .ok (.newarray .int, 2) := by decide +kernel
theorem dX10_init_227 : decode cX10_init 227 = .ok (.putfield 89, 3) := by decide +kernel
theorem dX10_init_230 : decode cX10_init 230 = .ok (.aload_n 0, 1) := by decide +kernel
theorem dX10_init_231 : decode cX10_init 231 = .ok (.bipush 7, 2) := by decide +kernel
theorem dX10_init_233 : decode cX10_init 233 = .ok (.newarray .int, 2) := by decide +kernel
theorem dX10_init_235 : decode cX10_init 235 = .ok (.putfield 92, 3) := by decide +kernel
theorem dX10_init_238 : decode cX10_init 238 = .ok (.aload_n 0, 1) := by decide +kernel
theorem dX10_init_239 : decode cX10_init 239 = .ok (.iconst 3, 1) := by decide +kernel
theorem dX10_init_240 : decode cX10_init 240 = .ok (.newarray .int, 2) := by decide +kernel
theorem dX10_init_242 : decode cX10_init 242 = .ok (.putfield 95, 3) := by decide +kernel
theorem dX10_init_245 : decode cX10_init 245 = .ok (.aload_n 0, 1) := by decide +kernel
theorem dX10_init_246 : decode cX10_init 246 = .ok (.bipush 12, 2) := by decide +kernel
theorem dX10_init_248 : decode cX10_init 248 = .ok (.newarray .int, 2) := by decide +kernel
theorem dX10_init_250 : decode cX10_init 250 = .ok (.putfield 98, 3) := by decide +kernel
theorem dX10_init_253 : decode cX10_init 253 = .ok (.aload_n 0, 1) := by decide +kernel
theorem dX10_init_254 : decode cX10_init 254 = .ok (.iconst 5, 1) := by decide +kernel
theorem dX10_init_255 : decode cX10_init 255 = .ok (.newarray .int, 2) := by decide +kernel
theorem dX10_init_257 : decode cX10_init 257 = .ok (.putfield 101, 3) := by decide +kernel
theorem dX10_init_260 : decode cX10_init 260 = .ok (.aload_n 0, 1) := by decide +kernel
theorem dX10_init_261 : decode cX10_init 261 = .ok (.iconst 5, 1) := by decide +kernel
theorem dX10_init_262 : decode cX10_init 262 = .ok (.newarray .int, 2) := by decide +kernel
theorem dX10_init_264 : decode cX10_init 264 = .ok (.putfield 104, 3) := by decide +kernel
theorem dX10_init_267 : decode cX10_init 267 = .ok (.aload_n 0, 1) := by decide +kernel
theorem dX10_init_268 : decode cX10_init 268 = .ok (.sipush 280, 3) := by decide +kernel
theorem dX10_init_271 : decode cX10_init 271 = .ok (.newarray .byte, 2) := by decide +kernel
theorem dX10_init_273 : decode cX10_init 273 = .ok (.putfield 107, 3) := by decide +kernel
theorem dX10_init_276 : decode cX10_init 276 = .ok (.aload_n 0, 1) := by decide +kernel
theorem dX10_init_277 : decode cX10_init 277 = .ok (.bipush 7, 2) := by decide +kernel
theorem dX10_init_279 : decode cX10_init 279 = .ok (.newarray .int, 2) := by decide +kernel
theorem dX10_init_281 : decode cX10_init 281 = .ok (.putfield 110, 3) := by decide +kernel
theorem dX10_init_284 : decode cX10_init 284 = .ok (.aload_n 0, 1) := by decide +kernel
theorem dX10_init_285 : decode cX10_init 285 = .ok (.bipush 41, 2) := by decide +kernel
theorem dX10_init_287 : decode cX10_init 287 = .ok (.newarray .int, 2) := by decide +kernel
theorem dX10_init_289 : decode cX10_init 289 = .ok (.putfield 113, 3) := by decide +kernel
theorem dX10_init_292 : decode cX10_init 292 = .ok (.aload_n 0, 1) := by decide +kernel
theorem dX10_init_293 : decode cX10_init 293 = .ok (.bipush 41, 2) := by decide +kernel
theorem dX10_init_295 : decode cX10_init 295 = .ok (.newarray .int, 2) := by decide +kernel
theorem dX10_init_297 : decode cX10_init 297 = .ok (.putfield 116, 3) := by decide +kernel
theorem dX10_init_300 : decode cX10_init 300 = .ok (.aload_n 0, 1) := by decide +kernel
theorem dX10_init_301 : decode cX10_init 301 = .ok (.bipush 6, 2) := by decide +kernel
theorem dX10_init_303 : decode cX10_init 303 = .ok (.newarray .int, 2) := by decide +kernel
theorem dX10_init_305 : decode cX10_init 305 = .ok (.putfield 119, 3) := by decide +kernel
theorem dX10_init_308 : decode cX10_init 308 = .ok (.aload_n 0, 1) := by decide +kernel
theorem dX10_init_309 : decode cX10_init 309 = .ok (.bipush 8, 2) := by decide +kernel
theorem dX10_init_311 : decode cX10_init 311 = .ok (.newarray .int, 2) := by decide +kernel
theorem dX10_init_313 : decode cX10_init 313 = .ok (.putfield 122, 3) := by decide +kernel
theorem dX10_init_316 : decode cX10_init 316 = .ok (.aload_n 0, 1) := by decide +kernel
theorem dX10_init_317 : decode cX10_init 317 = .ok (.bipush 8, 2) := by decide +kernel
theorem dX10_init_319 : decode cX10_init 319 = .ok (.newarray .int, 2) := by decide +kernel
theorem dX10_init_321 : decode cX10_init 321 = .ok (.putfield 125, 3) := by decide +kernel
theorem dX10_init_324 : decode cX10_init 324 = .ok (.aload_n 0, 1) := by decide +kernel
theorem dX10_init_325 : decode cX10_init 325 = .ok (.sipush 1000, 3) := by decide +kernel
theorem dX10_init_328 : decode cX10_init 328 = .ok (.newarray .int, 2) := by decide +kernel
theorem dX10_init_330 : decode cX10_init 330 = .ok (.putfield 128, 3) := by decide +kernel
theorem dX10_init_333 : decode cX10_init 333 = .ok (.aload_n 0, 1) := by decide +kernel
theorem dX10_init_334 : decode cX10_init 334 = .ok (.sipush 1000, 3) := by decide +kernel
theorem dX10_init_337 : decode cX10_init 337 = .ok (.newarray .int, 2) := by decide +kernel
theorem dX10_init_339 : decode cX10_init 339 = .ok (.putfield 131, 3) := by decide +kernel
theorem dX10_init_342 : decode cX10_init 342 = .ok (.aload_n 0, 1) := by decide +kernel
theorem dX10_init_343 : decode cX10_init 343 = .ok (.getfield 7, 3) := by decide +kernel
theorem dX10_init_346 : decode cX10_init 346 = .ok (.sipush 150, 3) := by decide +kernel
theorem dX10_init_349 : decode cX10_init 349 = .ok (.iconst 1, 1) := by decide +kernel
theorem dX10_init_350 : decode cX10_init 350 = .ok (.iastore, 1) := by decide +kernel
theorem dX10_init_351 : decode cX10_init 351 = .ok (.bipush 12, 2) := by decide +kernel
theorem dX10_init_353 : decode cX10_init 353 = .ok (.istore_n 1, 1) := by decide +kernel
theorem dX10_init_354 : decode cX10_init 354 = .ok (.iload_n 1, 1) := by decide +kernel
theorem dX10_init_355 : decode cX10_init 355 = .ok (.bipush 84, 2) := by decide +kernel
theorem dX10_init_357 : decode cX10_init 357 = .ok (.if_icmp .ge 16, 3) := by decide +kernel
theorem dX10_init_360 : decode cX10_init 360 = .ok (.aload_n 0, 1) := by decide +kernel
theorem dX10_init_361 : decode cX10_init 361 = .ok (.getfield 7, 3) := by decide +kernel
theorem dX10_init_364 : decode cX10_init 364 = .ok (.iload_n 1, 1) := by decide +kernel
theorem dX10_init_365 : decode cX10_init 365 = .ok (.iconst (-1), 1) := by decide +kernel
theorem dX10_init_366 : decode cX10_init 366 = .ok (.iastore, 1) := by decide +kernel
theorem dX10_init_367 : decode cX10_init 367 = .ok (.iinc 1 1, 3) := by decide +kernel
theorem dX10_init_370 : decode cX10_init 370 = .ok (.goto (-16), 3) := by decide +kernel
theorem dX10_init_373 : decode cX10_init 373 = .ok (.return_, 1) := by decide +kernel
theorem dX10_in_0 : decode cX10_in 0 = .ok (.iload_n 0, 1) := by decide +kernel
theorem dX10_in_1 : decode cX10_in 1 = .ok (.iload_n 1, 1) := by decide +kernel
theorem dX10_in_2 : decode cX10_in 2 = .ok (.if_icmp .lt 12, 3) := by decide +kernel
theorem dX10_in_5 : decode cX10_in 5 = .ok (.iload_n 0, 1) := by decide +kernel
theorem dX10_in_6 : decode cX10_in 6 = .ok (.iload_n 2, 1) := by decide +kernel
theorem dX10_in_7 : decode cX10_in 7 = .ok (.if_icmp .gt 7, 3) := by decide +kernel
theorem dX10_in_10 : decode cX10_in 10 = .ok (.iconst 1, 1) := by decide +kernel
theorem dX10_in_11 : decode cX10_in 11 = .ok (.goto 4, 3) := by decide +kernel
theorem dX10_in_14 : decode cX10_in 14 = .ok (.iconst 0, 1) := by decide +kernel
theorem dX10_in_15 : decode cX10_in 15 = .ok (.ireturn, 1) := by decide +kernel
theorem dX10_min_0 : decode cX10_min 0 = .ok (.iload_n 0, 1) := by decide +kernel
theorem dX10_min_1 : decode cX10_min 1 = .ok (.iload_n 1, 1) := by decide +kernel
theorem dX10_min_2 : decode cX10_min 2 = .ok (.if_icmp .ge 7, 3) := by decide +kernel
theorem dX10_min_5 : decode cX10_min 5 = .ok (.iload_n 0, 1) := by decide +kernel
theorem dX10_min_6 : decode cX10_min 6 = .ok (.goto 4, 3) := by decide +kernel
theorem dX10_min_9 : decode cX10_min 9 = .ok (.iload_n 1, 1) := by decide +kernel
theorem dX10_min_10 : decode cX10_min 10 = .ok (.ireturn, 1) := by decide +kernel
theorem dX10_max_0 : decode cX10_max 0 = .ok (.iload_n 0, 1) := by decide +kernel
theorem dX10_max_1 : decode cX10_max 1 = .ok (.iload_n 1, 1) := by decide +kernel
theorem dX10_max_2 : decode cX10_max 2 = .ok (.if_icmp .le 7, 3) := by decide +kernel
theorem dX10_max_5 : decode cX10_max 5 = .ok (.iload_n 0, 1) := by decide +kernel
theorem dX10_max_6 : decode cX10_max 6 = .ok (.goto 4, 3) := by decide +kernel
theorem dX10_max_9 : decode cX10_max 9 = .ok (.iload_n 1, 1) := by decide +kernel
theorem dX10_max_10 : decode cX10_max 10 = .ok (.ireturn, 1) := by decide +kernel
theorem dX10_has_0 : decode cX10_has 0 = .ok (.iload_n 0, 1) := by decide +kernel
theorem dX10_has_1 : decode cX10_has 1 = .ok (.iload_n 1, 1) := by decide +kernel
theorem dX10_has_2 : decode cX10_has 2 = .ok (.ishr, 1) := by decide +kernel
theorem dX10_has_3 : decode cX10_has 3 = .ok (.iconst 1, 1) := by decide +kernel
theorem dX10_has_4 : decode cX10_has 4 = .ok (.iand, 1) := by decide +kernel
theorem dX10_has_5 : decode cX10_has 5 = .ok (.iconst 1, 1) := by decide +kernel
theorem dX10_has_6 : decode cX10_has 6 = .ok (.if_icmp .ne 7, 3) := by decide +kernel
theorem dX10_has_9 : decode cX10_has 9 = .ok (.iconst 1, 1) := by decide +kernel
theorem dX10_has_10 : decode cX10_has 10 = .ok (.goto 4, 3) := by decide +kernel
theorem dX10_has_13 : decode cX10_has 13 = .ok (.iconst 0, 1) := by decide +kernel
theorem dX10_has_14 : decode cX10_has 14 = .ok (.ireturn, 1) := by decide +kernel
theorem dX10_bits_0 : decode cX10_bits 0 = .ok (.iconst 0, 1) := by decide +kernel
theorem dX10_bits_1 : decode cX10_bits 1 = .ok (.istore_n 1, 1) := by decide +kernel
theorem dX10_bits_2 : decode cX10_bits 2 = .ok (.iconst 0, 1) := by decide +kernel
theorem dX10_bits_3 : decode cX10_bits 3 = .ok (.istore_n 2, 1) := by decide +kernel
theorem dX10_bits_4 : decode cX10_bits 4 = .ok (.iload_n 2, 1) := by decide +kernel
theorem dX10_bits_5 : decode cX10_bits 5 = .ok (.bipush 12, 2) := by decide +kernel
theorem dX10_bits_7 : decode cX10_bits 7 = .ok (.if_icmp .ge 17, 3) := by decide +kernel
theorem dX10_bits_10 : decode cX10_bits 10 = .ok (.iload_n 1, 1) := by decide +kernel
theorem dX10_bits_11 : decode cX10_bits 11 = .ok (.iload_n 0, 1) := by decide +kernel
theorem dX10_bits_12 : decode cX10_bits 12 = .ok (.iload_n 2, 1) := by decide +kernel
theorem dX10_bits_13 : decode cX10_bits 13 = .ok (.ishr, 1) := by decide +kernel
theorem dX10_bits_14 : decode cX10_bits 14 = .ok (.iconst 1, 1) := by decide +kernel
theorem dX10_bits_15 : decode cX10_bits 15 = .ok (.iand, 1) := by decide +kernel
theorem dX10_bits_16 : decode cX10_bits 16 = .ok (.iadd, 1) := by decide +kernel
theorem dX10_bits_17 : decode cX10_bits 17 = .ok (.istore_n 1, 1) := by decide +kernel
theorem dX10_bits_18 : decode cX10_bits 18 = .ok (.iinc 2 1, 3) := by decide +kernel
theorem dX10_bits_21 : decode cX10_bits 21 = .ok (.goto (-17), 3) := by decide +kernel
theorem dX10_bits_24 : decode cX10_bits 24 = .ok (.iload_n 1, 1) := by decide +kernel
theorem dX10_bits_25 : decode cX10_bits 25 = .ok (.ireturn, 1) := by decide +kernel
theorem dX10_copies_0 : decode cX10_copies 0 = .ok (.iconst 0, 1) := by decide +kernel
theorem dX10_copies_1 : decode cX10_copies 1 = .ok (.istore_n 2, 1) := by decide +kernel
theorem dX10_copies_2 : decode cX10_copies 2 = .ok (.iload_n 2, 1) := by decide +kernel
theorem dX10_copies_3 : decode cX10_copies 3 = .ok (.sipush 151, 3) := by decide +kernel
theorem dX10_copies_6 : decode cX10_copies 6 = .ok (.if_icmp .ge 15, 3) := by decide +kernel
theorem dX10_copies_9 : decode cX10_copies 9 = .ok (.aload_n 1, 1) := by decide +kernel
theorem dX10_copies_10 : decode cX10_copies 10 = .ok (.iload_n 2, 1) := by decide +kernel
theorem dX10_copies_11 : decode cX10_copies 11 = .ok (.aload_n 0, 1) := by decide +kernel
theorem dX10_copies_12 : decode cX10_copies 12 = .ok (.iload_n 2, 1) := by decide +kernel
theorem dX10_copies_13 : decode cX10_copies 13 = .ok (.iaload, 1) := by decide +kernel
theorem dX10_copies_14 : decode cX10_copies 14 = .ok (.iastore, 1) := by decide +kernel
theorem dX10_copies_15 : decode cX10_copies 15 = .ok (.iinc 2 1, 3) := by decide +kernel
theorem dX10_copies_18 : decode cX10_copies 18 = .ok (.goto (-16), 3) := by decide +kernel
theorem dX10_copies_21 : decode cX10_copies 21 = .ok (.return_, 1) := by decide +kernel
theorem dX10_isParish_0 : decode cX10_isParish 0 = .ok (.iload_n 1, 1) := by decide +kernel
theorem dX10_isParish_1 : decode cX10_isParish 1 = .ok (.iconst 0, 1) := by decide +kernel
theorem dX10_isParish_2 : decode cX10_isParish 2 = .ok (.bipush 11, 2) := by decide +kernel
theorem dX10_isParish_4 : decode cX10_isParish 4 = .ok (.invokestatic 134, 3) := by decide +kernel
theorem dX10_isParish_7 : decode cX10_isParish 7 = .ok (.ifCond .eq 22, 3) := by decide +kernel
theorem dX10_isParish_10 : decode cX10_isParish 10 = .ok (.aload_n 0, 1) := by decide +kernel
theorem dX10_isParish_11 : decode cX10_isParish 11 = .ok (.getfield 7, 3) := by decide +kernel
theorem dX10_isParish_14 : decode cX10_isParish 14 = .ok (.sipush 145, 3) := by decide +kernel
theorem dX10_isParish_17 : decode cX10_isParish 17 = .ok (.iaload, 1) := by decide +kernel
theorem dX10_isParish_18 : decode cX10_isParish 18 = .ok (.iload_n 1, 1) := by decide +kernel
theorem dX10_isParish_19 : decode cX10_isParish 19 = .ok (.invokestatic 138, 3) := by decide +kernel
theorem dX10_isParish_22 : decode cX10_isParish 22 = .ok (.ifCond .eq 7, 3) := by decide +kernel
theorem dX10_isParish_25 : decode cX10_isParish 25 = .ok (.iconst 1, 1) := by decide +kernel
theorem dX10_isParish_26 : decode cX10_isParish 26 = .ok (.goto 4, 3) := by decide +kernel
theorem dX10_isParish_29 : decode cX10_isParish 29 = .ok (.iconst 0, 1) := by decide +kernel
theorem dX10_isParish_30 : decode cX10_isParish 30 = .ok (.ireturn, 1) := by decide +kernel
theorem dX10_isLetter_0 : decode cX10_isLetter 0 = .ok (.iload_n 1, 1) := by decide +kernel
theorem dX10_isLetter_1 : decode cX10_isLetter 1 = .ok (.iconst 0, 1) := by decide +kernel
theorem dX10_isLetter_2 : decode cX10_isLetter 2 = .ok (.iconst 5, 1) := by decide +kernel
theorem dX10_isLetter_3 : decode cX10_isLetter 3 = .ok (.invokestatic 134, 3) := by decide +kernel
theorem dX10_isLetter_6 : decode cX10_isLetter 6 = .ok (.ifCond .eq 22, 3) := by decide +kernel
theorem dX10_isLetter_9 : decode cX10_isLetter 9 = .ok (.aload_n 0, 1) := by decide +kernel
theorem dX10_isLetter_10 : decode cX10_isLetter 10 = .ok (.getfield 7, 3) := by decide +kernel
theorem dX10_isLetter_13 : decode cX10_isLetter 13 = .ok (.sipush 146, 3) := by decide +kernel
theorem dX10_isLetter_16 : decode cX10_isLetter 16 = .ok (.iaload, 1) := by decide +kernel
theorem dX10_isLetter_17 : decode cX10_isLetter 17 = .ok (.iload_n 1, 1) := by decide +kernel
theorem dX10_isLetter_18 : decode cX10_isLetter 18 = .ok (.invokestatic 138, 3) := by decide +kernel
theorem dX10_isLetter_21 : decode cX10_isLetter 21 = .ok (.ifCond .eq 7, 3) := by decide +kernel
theorem dX10_isLetter_24 : decode cX10_isLetter 24 = .ok (.iconst 1, 1) := by decide +kernel
theorem dX10_isLetter_25 : decode cX10_isLetter 25 = .ok (.goto 4, 3) := by decide +kernel
theorem dX10_isLetter_28 : decode cX10_isLetter 28 = .ok (.iconst 0, 1) := by decide +kernel
theorem dX10_isLetter_29 : decode cX10_isLetter 29 = .ok (.ireturn, 1) := by decide +kernel
theorem dX10_known_0 : decode cX10_known 0 = .ok (.bipush 12, 2) := by decide +kernel
theorem dX10_known_2 : decode cX10_known 2 = .ok (.bipush 12, 2) := by decide +kernel
theorem dX10_known_4 : decode cX10_known 4 = .ok (.iload_n 0, 1) := by decide +kernel
theorem dX10_known_5 : decode cX10_known 5 = .ok (.imul, 1) := by decide +kernel
theorem dX10_known_6 : decode cX10_known 6 = .ok (.iadd, 1) := by decide +kernel
theorem dX10_known_7 : decode cX10_known 7 = .ok (.iload_n 1, 1) := by decide +kernel
theorem dX10_known_8 : decode cX10_known 8 = .ok (.iadd, 1) := by decide +kernel
theorem dX10_known_9 : decode cX10_known 9 = .ok (.ireturn, 1) := by decide +kernel
theorem dX10_isKnown_0 : decode cX10_isKnown 0 = .ok (.aload_n 0, 1) := by decide +kernel
theorem dX10_isKnown_1 : decode cX10_isKnown 1 = .ok (.getfield 7, 3) := by decide +kernel
theorem dX10_isKnown_4 : decode cX10_isKnown 4 = .ok (.iload_n 1, 1) := by decide +kernel
theorem dX10_isKnown_5 : decode cX10_isKnown 5 = .ok (.iload_n 2, 1) := by decide +kernel
theorem dX10_isKnown_6 : decode cX10_isKnown 6 = .ok (.invokestatic 142, 3) := by decide +kernel
theorem dX10_isKnown_9 : decode cX10_isKnown 9 = .ok (.iaload, 1) := by decide +kernel
theorem dX10_isKnown_10 : decode cX10_isKnown 10 = .ok (.iconst (-1), 1) := by decide +kernel
theorem dX10_isKnown_11 : decode cX10_isKnown 11 = .ok (.if_icmp .eq 7, 3) := by decide +kernel
theorem dX10_isKnown_14 : decode cX10_isKnown 14 = .ok (.iconst 1, 1) := by decide +kernel
theorem dX10_isKnown_15 : decode cX10_isKnown 15 = .ok (.goto 4, 3) := by decide +kernel
theorem dX10_isKnown_18 : decode cX10_isKnown 18 = .ok (.iconst 0, 1) := by decide +kernel
theorem dX10_isKnown_19 : decode cX10_isKnown 19 = .ok (.ireturn, 1) := by decide +kernel
theorem dX10_tired_0 : decode cX10_tired 0 = .ok (.aload_n 0, 1) := by decide +kernel
theorem dX10_tired_1 : decode cX10_tired 1 = .ok (.getfield 7, 3) := by decide +kernel
theorem dX10_tired_4 : decode cX10_tired 4 = .ok (.bipush 90, 2) := by decide +kernel
theorem dX10_tired_6 : decode cX10_tired 6 = .ok (.iconst 3, 1) := by decide +kernel
theorem dX10_tired_7 : decode cX10_tired 7 = .ok (.iload_n 1, 1) := by decide +kernel
theorem dX10_tired_8 : decode cX10_tired 8 = .ok (.imul, 1) := by decide +kernel
theorem dX10_tired_9 : decode cX10_tired 9 = .ok (.iadd, 1) := by decide +kernel
theorem dX10_tired_10 : decode cX10_tired 10 = .ok (.iaload, 1) := by decide +kernel
theorem dX10_tired_11 : decode cX10_tired 11 = .ok (.aload_n 0, 1) := by decide +kernel
theorem dX10_tired_12 : decode cX10_tired 12 = .ok (.getfield 7, 3) := by decide +kernel
theorem dX10_tired_15 : decode cX10_tired 15 = .ok (.bipush 90, 2) := by decide +kernel
theorem dX10_tired_17 : decode cX10_tired 17 = .ok (.iconst 3, 1) := by decide +kernel
theorem dX10_tired_18 : decode cX10_tired 18 = .ok (.iload_n 1, 1) := by decide +kernel
theorem dX10_tired_19 : decode cX10_tired 19 = .ok (.imul, 1) := by decide +kernel
theorem dX10_tired_20 : decode cX10_tired 20 = .ok (.iadd, 1) := by decide +kernel
theorem dX10_tired_21 : decode cX10_tired 21 = .ok (.iconst 1, 1) := by decide +kernel
theorem dX10_tired_22 : decode cX10_tired 22 = .ok (.iadd, 1) := by decide +kernel
theorem dX10_tired_23 : decode cX10_tired 23 = .ok (.iaload, 1) := by decide +kernel
theorem dX10_tired_24 : decode cX10_tired 24 = .ok (.iadd, 1) := by decide +kernel
theorem dX10_tired_25 : decode cX10_tired 25 = .ok (.aload_n 0, 1) := by decide +kernel
theorem dX10_tired_26 : decode cX10_tired 26 = .ok (.getfield 7, 3) := by decide +kernel
theorem dX10_tired_29 : decode cX10_tired 29 = .ok (.bipush 90, 2) := by decide +kernel
theorem dX10_tired_31 : decode cX10_tired 31 = .ok (.iconst 3, 1) := by decide +kernel
theorem dX10_tired_32 : decode cX10_tired 32 = .ok (.iload_n 1, 1) := by decide +kernel
theorem dX10_tired_33 : decode cX10_tired 33 = .ok (.imul, 1) := by decide +kernel
theorem dX10_tired_34 : decode cX10_tired 34 = .ok (.iadd, 1) := by decide +kernel
theorem dX10_tired_35 : decode cX10_tired 35 = .ok (.iconst 2, 1) := by decide +kernel
theorem dX10_tired_36 : decode cX10_tired 36 = .ok (.iadd, 1) := by decide +kernel
theorem dX10_tired_37 : decode cX10_tired 37 = .ok (.iaload, 1) := by decide +kernel
theorem dX10_tired_38 : decode cX10_tired 38 = .ok (.iadd, 1) := by decide +kernel
theorem dX10_tired_39 : decode cX10_tired 39 = .ok (.ireturn, 1) := by decide +kernel
theorem dX10_parish_0 : decode cX10_parish 0 = .ok (.iload_n 1, 1) := by decide +kernel
theorem dX10_parish_1 : decode cX10_parish 1 = .ok (.iconst 0, 1) := by decide +kernel
theorem dX10_parish_2 : decode cX10_parish 2 = .ok (.bipush 11, 2) := by decide +kernel
theorem dX10_parish_4 : decode cX10_parish 4 = .ok (.invokestatic 134, 3) := by decide +kernel
theorem dX10_parish_7 : decode cX10_parish 7 = .ok (.ifCond .eq 13, 3) := by decide +kernel
theorem dX10_parish_10 : decode cX10_parish 10 = .ok (.iload_n 2, 1) := by decide +kernel
theorem dX10_parish_11 : decode cX10_parish 11 = .ok (.iconst 0, 1) := by decide +kernel
theorem dX10_parish_12 : decode cX10_parish 12 = .ok (.bipush 99, 2) := by decide +kernel
theorem dX10_parish_14 : decode cX10_parish 14 = .ok (.invokestatic 134, 3) := by decide +kernel
theorem dX10_parish_17 : decode cX10_parish 17 = .ok (.ifCond .ne 5, 3) := by decide +kernel
theorem dX10_parish_20 : decode cX10_parish 20 = .ok (.iconst 0, 1) := by decide +kernel
theorem dX10_parish_21 : decode cX10_parish 21 = .ok (.ireturn, 1) := by decide +kernel
theorem dX10_parish_22 : decode cX10_parish 22 = .ok (.aload_n 0, 1) := by decide +kernel
theorem dX10_parish_23 : decode cX10_parish 23 = .ok (.getfield 7, 3) := by decide +kernel
theorem dX10_parish_26 : decode cX10_parish 26 = .ok (.sipush 145, 3) := by decide +kernel
theorem dX10_parish_29 : decode cX10_parish 29 = .ok (.aload_n 0, 1) := by decide +kernel
theorem dX10_parish_30 : decode cX10_parish 30 = .ok (.getfield 7, 3) := by decide +kernel
theorem dX10_parish_33 : decode cX10_parish 33 = .ok (.sipush 145, 3) := by decide +kernel
theorem dX10_parish_36 : decode cX10_parish 36 = .ok (.iaload, 1) := by decide +kernel
theorem dX10_parish_37 : decode cX10_parish 37 = .ok (.iconst 1, 1) := by decide +kernel
theorem dX10_parish_38 : decode cX10_parish 38 = .ok (.iload_n 1, 1) := by decide +kernel
theorem dX10_parish_39 : decode cX10_parish 39 = .ok (.ishl, 1) := by decide +kernel
theorem dX10_parish_40 : decode cX10_parish 40 = .ok (.ior, 1) := by decide +kernel
theorem dX10_parish_41 : decode cX10_parish 41 = .ok (.iastore, 1) := by decide +kernel
theorem dX10_parish_42 : decode cX10_parish 42 = .ok (.aload_n 0, 1) := by decide +kernel
theorem dX10_parish_43 : decode cX10_parish 43 = .ok (.getfield 7, 3) := by decide +kernel
theorem dX10_parish_46 : decode cX10_parish 46 = .ok (.iconst 0, 1) := by decide +kernel
theorem dX10_parish_47 : decode cX10_parish 47 = .ok (.iload_n 1, 1) := by decide +kernel
theorem dX10_parish_48 : decode cX10_parish 48 = .ok (.iadd, 1) := by decide +kernel
theorem dX10_parish_49 : decode cX10_parish 49 = .ok (.iload_n 2, 1) := by decide +kernel
theorem dX10_parish_50 : decode cX10_parish 50 = .ok (.iastore, 1) := by decide +kernel
theorem dX10_parish_51 : decode cX10_parish 51 = .ok (.iconst 1, 1) := by decide +kernel
theorem dX10_parish_52 : decode cX10_parish 52 = .ok (.ireturn, 1) := by decide +kernel
theorem dX10_road_0 : decode cX10_road 0 = .ok (.aload_n 0, 1) := by decide +kernel
theorem dX10_road_1 : decode cX10_road 1 = .ok (.iload_n 1, 1) := by decide +kernel
theorem dX10_road_2 : decode cX10_road 2 = .ok (.invokevirtual 146, 3) := by decide +kernel
theorem dX10_road_5 : decode cX10_road 5 = .ok (.ifCond .eq 26, 3) := by decide +kernel
theorem dX10_road_8 : decode cX10_road 8 = .ok (.aload_n 0, 1) := by decide +kernel
theorem dX10_road_9 : decode cX10_road 9 = .ok (.iload_n 2, 1) := by decide +kernel
theorem dX10_road_10 : decode cX10_road 10 = .ok (.invokevirtual 146, 3) := by decide +kernel
theorem dX10_road_13 : decode cX10_road 13 = .ok (.ifCond .eq 18, 3) := by decide +kernel
theorem dX10_road_16 : decode cX10_road 16 = .ok (.iload_n 1, 1) := by decide +kernel
theorem dX10_road_17 : decode cX10_road 17 = .ok (.iload_n 2, 1) := by decide +kernel
theorem dX10_road_18 : decode cX10_road 18 = .ok (.if_icmp .eq 13, 3) := by decide +kernel
theorem dX10_road_21 : decode cX10_road 21 = .ok (.iload_n 3, 1) := by decide +kernel
theorem dX10_road_22 : decode cX10_road 22 = .ok (.iconst 0, 1) := by decide +kernel
theorem dX10_road_23 : decode cX10_road 23 = .ok (.bipush 99, 2) := by decide +kernel
theorem dX10_road_25 : decode cX10_road 25 = .ok (.invokestatic 134, 3) := by decide +kernel
theorem dX10_road_28 : decode cX10_road 28 = .ok (.ifCond .ne 5, 3) := by decide +kernel
theorem dX10_road_31 : decode cX10_road 31 = .ok (.iconst 0, 1) := by decide +kernel
theorem dX10_road_32 : decode cX10_road 32 = .ok (.ireturn, 1) := by decide +kernel
theorem dX10_road_33 : decode cX10_road 33 = .ok (.aload_n 0, 1) := by decide +kernel
theorem dX10_road_34 : decode cX10_road 34 = .ok (.getfield 19, 3) := by decide +kernel
theorem dX10_road_37 : decode cX10_road 37 = .ok (.bipush 12, 2) := by decide +kernel
theorem dX10_road_39 : decode cX10_road 39 = .ok (.iload_n 1, 1) := by decide +kernel
theorem dX10_road_40 : decode cX10_road 40 = .ok (.imul, 1) := by decide +kernel
theorem dX10_road_41 : decode cX10_road 41 = .ok (.iload_n 2, 1) := by decide +kernel
theorem dX10_road_42 : decode cX10_road 42 = .ok (.iadd, 1) := by decide +kernel
theorem dX10_road_43 : decode cX10_road 43 = .ok (.iload_n 3, 1) := by decide +kernel
theorem dX10_road_44 : decode cX10_road 44 = .ok (.iastore, 1) := by decide +kernel
theorem dX10_road_45 : decode cX10_road 45 = .ok (.aload_n 0, 1) := by decide +kernel
theorem dX10_road_46 : decode cX10_road 46 = .ok (.getfield 19, 3) := by decide +kernel
theorem dX10_road_49 : decode cX10_road 49 = .ok (.bipush 12, 2) := by decide +kernel
theorem dX10_road_51 : decode cX10_road 51 = .ok (.iload_n 2, 1) := by decide +kernel
theorem dX10_road_52 : decode cX10_road 52 = .ok (.imul, 1) := by decide +kernel
theorem dX10_road_53 : decode cX10_road 53 = .ok (.iload_n 1, 1) := by decide +kernel
theorem dX10_road_54 : decode cX10_road 54 = .ok (.iadd, 1) := by decide +kernel
theorem dX10_road_55 : decode cX10_road 55 = .ok (.iload_n 3, 1) := by decide +kernel
theorem dX10_road_56 : decode cX10_road 56 = .ok (.iastore, 1) := by decide +kernel
theorem dX10_road_57 : decode cX10_road 57 = .ok (.iconst 1, 1) := by decide +kernel
theorem dX10_road_58 : decode cX10_road 58 = .ok (.ireturn, 1) := by decide +kernel
theorem dX10_letter_0 : decode cX10_letter 0 = .ok (.iload_n 1, 1) := by decide +kernel
theorem dX10_letter_1 : decode cX10_letter 1 = .ok (.iconst 0, 1) := by decide +kernel
theorem dX10_letter_2 : decode cX10_letter 2 = .ok (.iconst 5, 1) := by decide +kernel
theorem dX10_letter_3 : decode cX10_letter 3 = .ok (.invokestatic 134, 3) := by decide +kernel
theorem dX10_letter_6 : decode cX10_letter 6 = .ok (.ifCond .eq 22, 3) := by decide +kernel
theorem dX10_letter_9 : decode cX10_letter 9 = .ok (.aload_n 0, 1) := by decide +kernel
theorem dX10_letter_10 : decode cX10_letter 10 = .ok (.iload_n 2, 1) := by decide +kernel
theorem dX10_letter_11 : decode cX10_letter 11 = .ok (.invokevirtual 146, 3) := by decide +kernel
theorem dX10_letter_14 : decode cX10_letter 14 = .ok (.ifCond .eq 14, 3) := by decide +kernel
theorem dX10_letter_17 : decode cX10_letter 17 = .ok (.iload_n 3, 1) := by decide +kernel
theorem dX10_letter_18 : decode cX10_letter 18 = .ok (.iconst 1, 1) := by decide +kernel
theorem dX10_letter_19 : decode cX10_letter 19 = .ok (.sipush 9999, 3) := by decide +kernel
theorem dX10_letter_22 : decode cX10_letter 22 = .ok (.invokestatic 134, 3) := by decide +kernel
theorem dX10_letter_25 : decode cX10_letter 25 = .ok (.ifCond .ne 5, 3) := by decide +kernel
theorem dX10_letter_28 : decode cX10_letter 28 = .ok (.iconst 0, 1) := by decide +kernel
theorem dX10_letter_29 : decode cX10_letter 29 = .ok (.ireturn, 1) := by decide +kernel
theorem dX10_letter_30 : decode cX10_letter 30 = .ok (.aload_n 0, 1) := by decide +kernel
theorem dX10_letter_31 : decode cX10_letter 31 = .ok (.getfield 7, 3) := by decide +kernel
theorem dX10_letter_34 : decode cX10_letter 34 = .ok (.sipush 146, 3) := by decide +kernel
theorem dX10_letter_37 : decode cX10_letter 37 = .ok (.aload_n 0, 1) := by decide +kernel
theorem dX10_letter_38 : decode cX10_letter 38 = .ok (.getfield 7, 3) := by decide +kernel
theorem dX10_letter_41 : decode cX10_letter 41 = .ok (.sipush 146, 3) := by decide +kernel
theorem dX10_letter_44 : decode cX10_letter 44 = .ok (.iaload, 1) := by decide +kernel
theorem dX10_letter_45 : decode cX10_letter 45 = .ok (.iconst 1, 1) := by decide +kernel
theorem dX10_letter_46 : decode cX10_letter 46 = .ok (.iload_n 1, 1) := by decide +kernel
theorem dX10_letter_47 : decode cX10_letter 47 = .ok (.ishl, 1) := by decide +kernel
theorem dX10_letter_48 : decode cX10_letter 48 = .ok (.ior, 1) := by decide +kernel
theorem dX10_letter_49 : decode cX10_letter 49 = .ok (.iastore, 1) := by decide +kernel
theorem dX10_letter_50 : decode cX10_letter 50 = .ok (.aload_n 0, 1) := by decide +kernel
theorem dX10_letter_51 : decode cX10_letter 51 = .ok (.getfield 7, 3) := by decide +kernel
theorem dX10_letter_54 : decode cX10_letter 54 = .ok (.sipush 144, 3) := by decide +kernel
theorem dX10_letter_57 : decode cX10_letter 57 = .ok (.aload_n 0, 1) := by decide +kernel
theorem dX10_letter_58 : decode cX10_letter 58 = .ok (.getfield 7, 3) := by decide +kernel
theorem dX10_letter_61 : decode cX10_letter 61 = .ok (.sipush 144, 3) := by decide +kernel
theorem dX10_letter_64 : decode cX10_letter 64 = .ok (.iaload, 1) := by decide +kernel
theorem dX10_letter_65 : decode cX10_letter 65 = .ok (.iconst 1, 1) := by decide +kernel
theorem dX10_letter_66 : decode cX10_letter 66 = .ok (.iload_n 1, 1) := by decide +kernel
theorem dX10_letter_67 : decode cX10_letter 67 = .ok (.ishl, 1) := by decide +kernel
theorem dX10_letter_68 : decode cX10_letter 68 = .ok (.ior, 1) := by decide +kernel
theorem dX10_letter_69 : decode cX10_letter 69 = .ok (.iastore, 1) := by decide +kernel
theorem dX10_letter_70 : decode cX10_letter 70 = .ok (.aload_n 0, 1) := by decide +kernel
theorem dX10_letter_71 : decode cX10_letter 71 = .ok (.getfield 7, 3) := by decide +kernel
theorem dX10_letter_74 : decode cX10_letter 74 = .ok (.bipush 126, 2) := by decide +kernel
theorem dX10_letter_76 : decode cX10_letter 76 = .ok (.iload_n 1, 1) := by decide +kernel
theorem dX10_letter_77 : decode cX10_letter 77 = .ok (.iadd, 1) := by decide +kernel
theorem dX10_letter_78 : decode cX10_letter 78 = .ok (.iload_n 2, 1) := by decide +kernel
theorem dX10_letter_79 : decode cX10_letter 79 = .ok (.iastore, 1) := by decide +kernel
theorem dX10_letter_80 : decode cX10_letter 80 = .ok (.aload_n 0, 1) := by decide +kernel
theorem dX10_letter_81 : decode cX10_letter 81 = .ok (.getfield 7, 3) := by decide +kernel
theorem dX10_letter_84 : decode cX10_letter 84 = .ok (.sipush 132, 3) := by decide +kernel
theorem dX10_letter_87 : decode cX10_letter 87 = .ok (.iload_n 1, 1) := by decide +kernel
theorem dX10_letter_88 : decode cX10_letter 88 = .ok (.iadd, 1) := by decide +kernel
theorem dX10_letter_89 : decode cX10_letter 89 = .ok (.iload_n 3, 1) := by decide +kernel
theorem dX10_letter_90 : decode cX10_letter 90 = .ok (.iastore, 1) := by decide +kernel
theorem dX10_letter_91 : decode cX10_letter 91 = .ok (.aload_n 0, 1) := by decide +kernel
theorem dX10_letter_92 : decode cX10_letter 92 = .ok (.getfield 7, 3) := by decide +kernel
theorem dX10_letter_95 : decode cX10_letter 95 = .ok (.sipush 138, 3) := by decide +kernel
theorem dX10_letter_98 : decode cX10_letter 98 = .ok (.iload_n 1, 1) := by decide +kernel
theorem dX10_letter_99 : decode cX10_letter 99 = .ok (.iadd, 1) := by decide +kernel
theorem dX10_letter_100 : decode cX10_letter 100 = .ok (.iconst 0, 1) := by decide +kernel
theorem dX10_letter_101 : decode cX10_letter 101 = .ok (.iastore, 1) := by decide +kernel
theorem dX10_letter_102 : decode cX10_letter 102 = .ok (.aload_n 0, 1) := by decide +kernel
theorem dX10_letter_103 : decode cX10_letter 103 = .ok (.getfield 7, 3) := by decide +kernel
theorem dX10_letter_106 : decode cX10_letter 106 = .ok (.bipush 84, 2) := by decide +kernel
theorem dX10_letter_108 : decode cX10_letter 108 = .ok (.iload_n 1, 1) := by decide +kernel
theorem dX10_letter_109 : decode cX10_letter 109 = .ok (.iadd, 1) := by decide +kernel
theorem dX10_letter_110 : decode cX10_letter 110 = .ok (.iconst 0, 1) := by decide +kernel
theorem dX10_letter_111 : decode cX10_letter 111 = .ok (.iastore, 1) := by decide +kernel
theorem dX10_letter_112 : decode cX10_letter 112 = .ok (.iconst 0, 1) := by decide +kernel
theorem dX10_letter_113 : decode cX10_letter 113 = .ok (.istore 4, 2) := by decide +kernel
theorem dX10_letter_115 : decode cX10_letter 115 = .ok (.iload 4, 2) := by decide +kernel
theorem dX10_letter_117 : decode cX10_letter 117 = .ok (.bipush 12, 2) := by decide +kernel
theorem dX10_letter_119 : decode cX10_letter 119 = .ok (.if_icmp .ge 31, 3) := by decide +kernel
theorem dX10_letter_122 : decode cX10_letter 122 = .ok (.aload_n 0, 1) := by decide +kernel
theorem dX10_letter_123 : decode cX10_letter 123 = .ok (.getfield 7, 3) := by decide +kernel
theorem dX10_letter_126 : decode cX10_letter 126 = .ok (.iload_n 1, 1) := by decide +kernel
theorem dX10_letter_127 : decode cX10_letter 127 = .ok (.iload 4, 2) := by decide +kernel
theorem dX10_letter_129 : decode cX10_letter 129 = .ok (.invokestatic 142, 3) := by decide +kernel
theorem dX10_letter_132 : decode cX10_letter 132 = .ok (.iload 4, 2) := by decide +kernel
theorem dX10_letter_134 : decode cX10_letter 134 = .ok (.iload_n 2, 1) := by decide +kernel
theorem dX10_letter_135 : decode cX10_letter 135 = .ok (.if_icmp .ne 7, 3) := by decide +kernel
theorem dX10_letter_138 : decode cX10_letter 138 = .ok (.iload_n 3, 1) := by decide +kernel
theorem dX10_letter_139 : decode cX10_letter 139 = .ok (.goto 4, 3) := by decide +kernel
theorem dX10_letter_142 : decode cX10_letter 142 = .ok (.iconst (-1), 1) := by decide +kernel
theorem dX10_letter_143 : decode cX10_letter 143 = .ok (.iastore, 1) := by decide +kernel
theorem dX10_letter_144 : decode cX10_letter 144 = .ok (.iinc 4 1, 3) := by decide +kernel
theorem dX10_letter_147 : decode cX10_letter 147 = .ok (.goto (-32), 3) := by decide +kernel
theorem dX10_letter_150 : decode cX10_letter 150 = .ok (.iconst 1, 1) := by decide +kernel
theorem dX10_letter_151 : decode cX10_letter 151 = .ok (.ireturn, 1) := by decide +kernel
theorem dX10_types_0 : decode cX10_types 0 = .ok (.iconst 3, 1) := by decide +kernel
theorem dX10_types_1 : decode cX10_types 1 = .ok (.istore_n 2, 1) := by decide +kernel
theorem dX10_types_2 : decode cX10_types 2 = .ok (.iload_n 2, 1) := by decide +kernel
theorem dX10_types_3 : decode cX10_types 3 = .ok (.ifCond .lt 35, 3) := by decide +kernel
theorem dX10_types_6 : decode cX10_types 6 = .ok (.aload_n 0, 1) := by decide +kernel
theorem dX10_types_7 : decode cX10_types 7 = .ok (.getfield 22, 3) := by decide +kernel
theorem dX10_types_10 : decode cX10_types 10 = .ok (.aload_n 0, 1) := by decide +kernel
theorem dX10_types_11 : decode cX10_types 11 = .ok (.getfield 150, 3) := by decide +kernel
theorem dX10_types_14 : decode cX10_types 14 = .ok (.iload_n 1, 1) := by decide +kernel
theorem dX10_types_15 : decode cX10_types 15 = .ok (.bipush 8, 2) := by decide +kernel
theorem dX10_types_17 : decode cX10_types 17 = .ok (.iload_n 2, 1) := by decide +kernel
theorem dX10_types_18 : decode cX10_types 18 = .ok (.imul, 1) := by decide +kernel
theorem dX10_types_19 : decode cX10_types 19 = .ok (.ishr, 1) := by decide +kernel
theorem dX10_types_20 : decode cX10_types 20 = .ok (.i2b, 1) := by decide +kernel
theorem dX10_types_21 : decode cX10_types 21 = .ok (.bastore, 1) := by decide +kernel
theorem dX10_types_22 : decode cX10_types 22 = .ok (.aload_n 0, 1) := by decide +kernel
theorem dX10_types_23 : decode cX10_types 23 = .ok (.aload_n 0, 1) := by decide +kernel
theorem dX10_types_24 : decode cX10_types 24 = .ok (.getfield 150, 3) := by decide +kernel
theorem dX10_types_27 : decode cX10_types 27 = .ok (.iconst 1, 1) := by decide +kernel
theorem dX10_types_28 : decode cX10_types 28 = .ok (.iadd, 1) := by decide +kernel
theorem dX10_types_29 : decode cX10_types 29 = .ok (.putfield 150, 3) := by decide +kernel
theorem dX10_types_32 : decode cX10_types 32 = .ok (.iinc 2 (-1), 3) := by decide +kernel
theorem dX10_types_35 : decode cX10_types 35 = .ok (.goto (-33), 3) := by decide +kernel
theorem dX10_types_38 : decode cX10_types 38 = .ok (.return_, 1) := by decide +kernel
theorem dX10_feed_0 : decode cX10_feed 0 = .ok (.aload_n 0, 1) := by decide +kernel
theorem dX10_feed_1 : decode cX10_feed 1 = .ok (.getfield 150, 3) := by decide +kernel
theorem dX10_feed_4 : decode cX10_feed 4 = .ok (.bipush 20, 2) := by decide +kernel
theorem dX10_feed_6 : decode cX10_feed 6 = .ok (.iadd, 1) := by decide +kernel
theorem dX10_feed_7 : decode cX10_feed 7 = .ok (.sipush 260, 3) := by decide +kernel
theorem dX10_feed_10 : decode cX10_feed 10 = .ok (.if_icmp .le 5, 3) := by decide +kernel
theorem dX10_feed_13 : decode cX10_feed 13 = .ok (.iconst (-1), 1) := by decide +kernel
theorem dX10_feed_14 : decode cX10_feed 14 = .ok (.ireturn, 1) := by decide +kernel
theorem dX10_feed_15 : decode cX10_feed 15 = .ok (.aload_n 0, 1) := by decide +kernel
theorem dX10_feed_16 : decode cX10_feed 16 = .ok (.iload_n 1, 1) := by decide +kernel
theorem dX10_feed_17 : decode cX10_feed 17 = .ok (.invokevirtual 154, 3) := by decide +kernel
theorem dX10_feed_20 : decode cX10_feed 20 = .ok (.aload_n 0, 1) := by decide +kernel
theorem dX10_feed_21 : decode cX10_feed 21 = .ok (.iload_n 2, 1) := by decide +kernel
theorem dX10_feed_22 : decode cX10_feed 22 = .ok (.invokevirtual 154, 3) := by decide +kernel
theorem dX10_feed_25 : decode cX10_feed 25 = .ok (.aload_n 0, 1) := by decide +kernel
theorem dX10_feed_26 : decode cX10_feed 26 = .ok (.iload_n 3, 1) := by decide +kernel
theorem dX10_feed_27 : decode cX10_feed 27 = .ok (.invokevirtual 154, 3) := by decide +kernel
theorem dX10_feed_30 : decode cX10_feed 30 = .ok (.aload_n 0, 1) := by decide +kernel
theorem dX10_feed_31 : decode cX10_feed 31 = .ok (.iload 4, 2) := by decide +kernel
theorem dX10_feed_33 : decode cX10_feed 33 = .ok (.invokevirtual 154, 3) := by decide +kernel
theorem dX10_feed_36 : decode cX10_feed 36 = .ok (.aload_n 0, 1) := by decide +kernel
theorem dX10_feed_37 : decode cX10_feed 37 = .ok (.iload 5, 2) := by decide +kernel
theorem dX10_feed_39 : decode cX10_feed 39 = .ok (.invokevirtual 154, 3) := by decide +kernel
theorem dX10_feed_42 : decode cX10_feed 42 = .ok (.aload_n 0, 1) := by decide +kernel
theorem dX10_feed_43 : decode cX10_feed 43 = .ok (.getfield 150, 3) := by decide +kernel
theorem dX10_feed_46 : decode cX10_feed 46 = .ok (.ireturn, 1) := by decide +kernel
theorem dX10_octet_0 : decode cX10_octet 0 = .ok (.aload_n 0, 1) := by decide +kernel
theorem dX10_octet_1 : decode cX10_octet 1 = .ok (.getfield 22, 3) := by decide +kernel
theorem dX10_octet_4 : decode cX10_octet 4 = .ok (.iload_n 1, 1) := by decide +kernel
theorem dX10_octet_5 : decode cX10_octet 5 = .ok (.baload, 1) := by decide +kernel
theorem dX10_octet_6 : decode cX10_octet 6 = .ok (.sipush 255, 3) := by decide +kernel
theorem dX10_octet_9 : decode cX10_octet 9 = .ok (.iand, 1) := by decide +kernel
theorem dX10_octet_10 : decode cX10_octet 10 = .ok (.ireturn, 1) := by decide +kernel
theorem dX10_here_0 : decode cX10_here 0 = .ok (.aload_n 0, 1) := by decide +kernel
theorem dX10_here_1 : decode cX10_here 1 = .ok (.getfield 158, 3) := by decide +kernel
theorem dX10_here_4 : decode cX10_here 4 = .ok (.aload_n 0, 1) := by decide +kernel
theorem dX10_here_5 : decode cX10_here 5 = .ok (.getfield 161, 3) := by decide +kernel
theorem dX10_here_8 : decode cX10_here 8 = .ok (.if_icmp .ge 19, 3) := by decide +kernel
theorem dX10_here_11 : decode cX10_here 11 = .ok (.aload_n 0, 1) := by decide +kernel
theorem dX10_here_12 : decode cX10_here 12 = .ok (.getfield 22, 3) := by decide +kernel
theorem dX10_here_15 : decode cX10_here 15 = .ok (.aload_n 0, 1) := by decide +kernel
theorem dX10_here_16 : decode cX10_here 16 = .ok (.getfield 158, 3) := by decide +kernel
theorem dX10_here_19 : decode cX10_here 19 = .ok (.baload, 1) := by decide +kernel
theorem dX10_here_20 : decode cX10_here 20 = .ok (.sipush 255, 3) := by decide +kernel
theorem dX10_here_23 : decode cX10_here 23 = .ok (.iand, 1) := by decide +kernel
theorem dX10_here_24 : decode cX10_here 24 = .ok (.goto 4, 3) := by decide +kernel
theorem dX10_here_27 : decode cX10_here 27 = .ok (.iconst (-1), 1) := by decide +kernel
theorem dX10_here_28 : decode cX10_here 28 = .ok (.ireturn, 1) := by decide +kernel
theorem dX10_isDigit_0 : decode cX10_isDigit 0 = .ok (.aload_n 0, 1) := by decide +kernel
theorem dX10_isDigit_1 : decode cX10_isDigit 1 = .ok (.invokevirtual 164, 3) := by decide +kernel
theorem dX10_isDigit_4 : decode cX10_isDigit 4 = .ok (.bipush 48, 2) := by decide +kernel
theorem dX10_isDigit_6 : decode cX10_isDigit 6 = .ok (.if_icmp .lt 16, 3) := by decide +kernel
theorem dX10_isDigit_9 : decode cX10_isDigit 9 = .ok (.aload_n 0, 1) := by decide +kernel
theorem dX10_isDigit_10 : decode cX10_isDigit 10 = .ok (.invokevirtual 164, 3) := by decide +kernel
theorem dX10_isDigit_13 : decode cX10_isDigit 13 = .ok (.bipush 57, 2) := by decide +kernel
theorem dX10_isDigit_15 : decode cX10_isDigit 15 = .ok (.if_icmp .gt 7, 3) := by decide +kernel
theorem dX10_isDigit_18 : decode cX10_isDigit 18 = .ok (.iconst 1, 1) := by decide +kernel
theorem dX10_isDigit_19 : decode cX10_isDigit 19 = .ok (.goto 4, 3) := by decide +kernel
theorem dX10_isDigit_22 : decode cX10_isDigit 22 = .ok (.iconst 0, 1) := by decide +kernel
theorem dX10_isDigit_23 : decode cX10_isDigit 23 = .ok (.ireturn, 1) := by decide +kernel
theorem dX10_wrongAt_0 : decode cX10_wrongAt 0 = .ok (.aload_n 0, 1) := by decide +kernel
theorem dX10_wrongAt_1 : decode cX10_wrongAt 1 = .ok (.sipush (-1000), 3) := by decide +kernel
theorem dX10_wrongAt_4 : decode cX10_wrongAt 4 = .ok (.iload_n 1, 1) := by decide +kernel
theorem dX10_wrongAt_5 : decode cX10_wrongAt 5 = .ok (.imul, 1) := by decide +kernel
theorem dX10_wrongAt_6 : decode cX10_wrongAt 6 = .ok (.iload_n 2, 1) := by decide +kernel
theorem dX10_wrongAt_7 : decode cX10_wrongAt 7 = .ok (.isub, 1) := by decide +kernel
theorem dX10_wrongAt_8 : decode cX10_wrongAt 8 = .ok (.putfield 168, 3) := by decide +kernel
theorem dX10_wrongAt_11 : decode cX10_wrongAt 11 = .ok (.iconst 0, 1) := by decide +kernel
theorem dX10_wrongAt_12 : decode cX10_wrongAt 12 = .ok (.ireturn, 1) := by decide +kernel
theorem dX10_takes_0 : decode cX10_takes 0 = .ok (.aload_n 0, 1) := by decide +kernel
theorem dX10_takes_1 : decode cX10_takes 1 = .ok (.invokevirtual 164, 3) := by decide +kernel
theorem dX10_takes_4 : decode cX10_takes 4 = .ok (.iload_n 1, 1) := by decide +kernel
theorem dX10_takes_5 : decode cX10_takes 5 = .ok (.if_icmp .eq 13, 3) := by decide +kernel
theorem dX10_takes_8 : decode cX10_takes 8 = .ok (.aload_n 0, 1) := by decide +kernel
theorem dX10_takes_9 : decode cX10_takes 9 = .ok (.iconst 1, 1) := by decide +kernel
theorem dX10_takes_10 : decode cX10_takes 10 = .ok (.aload_n 0, 1) := by decide +kernel
theorem dX10_takes_11 : decode cX10_takes 11 = .ok (.getfield 158, 3) := by decide +kernel
theorem dX10_takes_14 : decode cX10_takes 14 = .ok (.invokevirtual 171, 3) := by decide +kernel
theorem dX10_takes_17 : decode cX10_takes 17 = .ok (.ireturn, 1) := by decide +kernel
theorem dX10_takes_18 : decode cX10_takes 18 = .ok (.aload_n 0, 1) := by decide +kernel
theorem dX10_takes_19 : decode cX10_takes 19 = .ok (.aload_n 0, 1) := by decide +kernel
theorem dX10_takes_20 : decode cX10_takes 20 = .ok (.getfield 158, 3) := by decide +kernel
theorem dX10_takes_23 : decode cX10_takes 23 = .ok (.iconst 1, 1) := by decide +kernel
theorem dX10_takes_24 : decode cX10_takes 24 = .ok (.iadd, 1) := by decide +kernel
theorem dX10_takes_25 : decode cX10_takes 25 = .ok (.putfield 158, 3) := by decide +kernel
theorem dX10_takes_28 : decode cX10_takes 28 = .ok (.iconst 1, 1) := by decide +kernel
theorem dX10_takes_29 : decode cX10_takes 29 = .ok (.ireturn, 1) := by decide +kernel
theorem dX10_readsNumber_0 : decode cX10_readsNumber 0 = .ok (.aload_n 0, 1) := by decide +kernel
theorem dX10_readsNumber_1 : decode cX10_readsNumber 1 = .ok (.getfield 158, 3) := by decide +kernel
theorem dX10_readsNumber_4 : decode cX10_readsNumber 4 = .ok (.istore_n 1, 1) := by decide +kernel
theorem dX10_readsNumber_5 : decode cX10_readsNumber 5 = .ok (.aload_n 0, 1) := by decide +kernel
theorem dX10_readsNumber_6 : decode cX10_readsNumber 6 = .ok (.iconst 0, 1) := by decide +kernel
theorem dX10_readsNumber_7 : decode cX10_readsNumber 7 = .ok (.putfield 174, 3) := by decide +kernel
theorem dX10_readsNumber_10 : decode cX10_readsNumber 10 = .ok (.aload_n 0, 1) := by decide +kernel
theorem dX10_readsNumber_11 : decode cX10_readsNumber 11 = .ok (.invokevirtual 177, 3) := by decide +kernel
theorem dX10_readsNumber_14 : decode cX10_readsNumber 14 = .ok (.ifCond .eq 55, 3) := by decide +kernel
theorem dX10_readsNumber_17 : decode cX10_readsNumber 17 = .ok (.aload_n 0, 1) := by decide +kernel
theorem dX10_readsNumber_18 : decode cX10_readsNumber 18 = .ok (.getfield 158, 3) := by decide +kernel
theorem dX10_readsNumber_21 : decode cX10_readsNumber 21 = .ok (.iload_n 1, 1) := by decide +kernel
theorem dX10_readsNumber_22 : decode cX10_readsNumber 22 = .ok (.iconst 5, 1) := by decide +kernel
theorem dX10_readsNumber_23 : decode cX10_readsNumber 23 = .ok (.iadd, 1) := by decide +kernel
theorem dX10_readsNumber_24 : decode cX10_readsNumber 24 = .ok (.if_icmp .ne 13, 3) := by decide +kernel
theorem dX10_readsNumber_27 : decode cX10_readsNumber 27 = .ok (.aload_n 0, 1) := by decide +kernel
theorem dX10_readsNumber_28 : decode cX10_readsNumber 28 = .ok (.iconst 2, 1) := by decide +kernel
theorem dX10_readsNumber_29 : decode cX10_readsNumber 29 = .ok (.aload_n 0, 1) := by decide +kernel
theorem dX10_readsNumber_30 : decode cX10_readsNumber 30 = .ok (.getfield 158, 3) := by decide +kernel
theorem dX10_readsNumber_33 : decode cX10_readsNumber 33 = .ok (.invokevirtual 171, 3) := by decide +kernel
theorem dX10_readsNumber_36 : decode cX10_readsNumber 36 = .ok (.ireturn, 1) := by decide +kernel
theorem dX10_readsNumber_37 : decode cX10_readsNumber 37 = .ok (.aload_n 0, 1) := by decide +kernel
theorem dX10_readsNumber_38 : decode cX10_readsNumber 38 = .ok (.bipush 10, 2) := by decide +kernel
theorem dX10_readsNumber_40 : decode cX10_readsNumber 40 = .ok (.aload_n 0, 1) := by decide +kernel
theorem dX10_readsNumber_41 : decode cX10_readsNumber 41 = .ok (.getfield 174, 3) := by decide +kernel
theorem dX10_readsNumber_44 : decode cX10_readsNumber 44 = .ok (.imul, 1) := by decide +kernel
theorem dX10_readsNumber_45 : decode cX10_readsNumber 45 = .ok (.aload_n 0, 1) := by decide +kernel
theorem dX10_readsNumber_46 : decode cX10_readsNumber 46 = .ok (.invokevirtual 164, 3) := by decide +kernel
theorem dX10_readsNumber_49 : decode cX10_readsNumber 49 = .ok (.iadd, 1) := by decide +kernel
theorem dX10_readsNumber_50 : decode cX10_readsNumber 50 = .ok (.bipush 48, 2) := by decide +kernel
theorem dX10_readsNumber_52 : decode cX10_readsNumber 52 = .ok (.isub, 1) := by decide +kernel
theorem dX10_readsNumber_53 : decode cX10_readsNumber 53 = .ok (.putfield 174, 3) := by decide +kernel
theorem dX10_readsNumber_56 : decode cX10_readsNumber 56 = .ok (.aload_n 0, 1) := by decide +kernel
theorem dX10_readsNumber_57 : decode cX10_readsNumber 57 = .ok (.aload_n 0, 1) := by decide +kernel
theorem dX10_readsNumber_58 : decode cX10_readsNumber 58 = .ok (.getfield 158, 3) := by decide +kernel
theorem dX10_readsNumber_61 : decode cX10_readsNumber 61 = .ok (.iconst 1, 1) := by decide +kernel
theorem dX10_readsNumber_62 : decode cX10_readsNumber 62 = .ok (.iadd, 1) := by decide +kernel
theorem dX10_readsNumber_63 : decode cX10_readsNumber 63 = .ok (.putfield 158, 3) := by decide +kernel
theorem dX10_readsNumber_66 : decode cX10_readsNumber 66 = .ok (.goto (-56), 3) := by decide +kernel
theorem dX10_readsNumber_69 : decode cX10_readsNumber 69 = .ok (.iconst 1, 1) := by decide +kernel
theorem dX10_readsNumber_70 : decode cX10_readsNumber 70 = .ok (.ireturn, 1) := by decide +kernel
theorem dX10_notes_0 : decode cX10_notes 0 = .ok (.aload_n 0, 1) := by decide +kernel
theorem dX10_notes_1 : decode cX10_notes 1 = .ok (.getfield 26, 3) := by decide +kernel
theorem dX10_notes_4 : decode cX10_notes 4 = .ok (.aload_n 0, 1) := by decide +kernel
theorem dX10_notes_5 : decode cX10_notes 5 = .ok (.getfield 181, 3) := by decide +kernel
theorem dX10_notes_8 : decode cX10_notes 8 = .ok (.ldc 184, 2) := by decide +kernel
theorem dX10_notes_10 : decode cX10_notes 10 = .ok (.iload_n 1, 1) := by decide +kernel
theorem dX10_notes_11 : decode cX10_notes 11 = .ok (.imul, 1) := by decide +kernel
theorem dX10_notes_12 : decode cX10_notes 12 = .ok (.iload_n 2, 1) := by decide +kernel
theorem dX10_notes_13 : decode cX10_notes 13 = .ok (.iadd, 1) := by decide +kernel
theorem dX10_notes_14 : decode cX10_notes 14 = .ok (.iastore, 1) := by decide +kernel
theorem dX10_notes_15 : decode cX10_notes 15 = .ok (.aload_n 0, 1) := by decide +kernel
theorem dX10_notes_16 : decode cX10_notes 16 = .ok (.aload_n 0, 1) := by decide +kernel
theorem dX10_notes_17 : decode cX10_notes 17 = .ok (.getfield 181, 3) := by decide +kernel
theorem dX10_notes_20 : decode cX10_notes 20 = .ok (.iconst 1, 1) := by decide +kernel
theorem dX10_notes_21 : decode cX10_notes 21 = .ok (.iadd, 1) := by decide +kernel
theorem dX10_notes_22 : decode cX10_notes 22 = .ok (.putfield 181, 3) := by decide +kernel
theorem dX10_notes_25 : decode cX10_notes 25 = .ok (.return_, 1) := by decide +kernel
theorem dX10_opens_0 : decode cX10_opens 0 = .ok (.aload_n 0, 1) := by decide +kernel
theorem dX10_opens_1 : decode cX10_opens 1 = .ok (.getfield 185, 3) := by decide +kernel
theorem dX10_opens_4 : decode cX10_opens 4 = .ok (.bipush 6, 2) := by decide +kernel
theorem dX10_opens_6 : decode cX10_opens 6 = .ok (.if_icmp .ne 13, 3) := by decide +kernel
theorem dX10_opens_9 : decode cX10_opens 9 = .ok (.aload_n 0, 1) := by decide +kernel
theorem dX10_opens_10 : decode cX10_opens 10 = .ok (.iconst 5, 1) := by decide +kernel
theorem dX10_opens_11 : decode cX10_opens 11 = .ok (.aload_n 0, 1) := by decide +kernel
theorem dX10_opens_12 : decode cX10_opens 12 = .ok (.getfield 158, 3) := by decide +kernel
theorem dX10_opens_15 : decode cX10_opens 15 = .ok (.invokevirtual 171, 3) := by decide +kernel
theorem dX10_opens_18 : decode cX10_opens 18 = .ok (.ireturn, 1) := by decide +kernel
theorem dX10_opens_19 : decode cX10_opens 19 = .ok (.aload_n 0, 1) := by decide +kernel
theorem dX10_opens_20 : decode cX10_opens 20 = .ok (.aload_n 0, 1) := by decide +kernel
theorem dX10_opens_21 : decode cX10_opens 21 = .ok (.getfield 185, 3) := by decide +kernel
theorem dX10_opens_24 : decode cX10_opens 24 = .ok (.iconst 1, 1) := by decide +kernel
theorem dX10_opens_25 : decode cX10_opens 25 = .ok (.iadd, 1) := by decide +kernel
theorem dX10_opens_26 : decode cX10_opens 26 = .ok (.putfield 185, 3) := by decide +kernel
theorem dX10_opens_29 : decode cX10_opens 29 = .ok (.aload_n 0, 1) := by decide +kernel
theorem dX10_opens_30 : decode cX10_opens 30 = .ok (.getfield 29, 3) := by decide +kernel
theorem dX10_opens_33 : decode cX10_opens 33 = .ok (.aload_n 0, 1) := by decide +kernel
theorem dX10_opens_34 : decode cX10_opens 34 = .ok (.getfield 188, 3) := by decide +kernel
theorem dX10_opens_37 : decode cX10_opens 37 = .ok (.ldc 184, 2) := by decide +kernel
theorem dX10_opens_39 : decode cX10_opens 39 = .ok (.iload_n 1, 1) := by decide +kernel
theorem dX10_opens_40 : decode cX10_opens 40 = .ok (.imul, 1) := by decide +kernel
theorem dX10_opens_41 : decode cX10_opens 41 = .ok (.iastore, 1) := by decide +kernel
theorem dX10_opens_42 : decode cX10_opens 42 = .ok (.aload_n 0, 1) := by decide +kernel
theorem dX10_opens_43 : decode cX10_opens 43 = .ok (.aload_n 0, 1) := by decide +kernel
theorem dX10_opens_44 : decode cX10_opens 44 = .ok (.getfield 188, 3) := by decide +kernel
theorem dX10_opens_47 : decode cX10_opens 47 = .ok (.iconst 1, 1) := by decide +kernel
theorem dX10_opens_48 : decode cX10_opens 48 = .ok (.iadd, 1) := by decide +kernel
theorem dX10_opens_49 : decode cX10_opens 49 = .ok (.putfield 188, 3) := by decide +kernel
theorem dX10_opens_52 : decode cX10_opens 52 = .ok (.aload_n 0, 1) := by decide +kernel
theorem dX10_opens_53 : decode cX10_opens 53 = .ok (.aload_n 0, 1) := by decide +kernel
theorem dX10_opens_54 : decode cX10_opens 54 = .ok (.getfield 158, 3) := by decide +kernel
theorem dX10_opens_57 : decode cX10_opens 57 = .ok (.iconst 1, 1) := by decide +kernel
theorem dX10_opens_58 : decode cX10_opens 58 = .ok (.iadd, 1) := by decide +kernel
theorem dX10_opens_59 : decode cX10_opens 59 = .ok (.putfield 158, 3) := by decide +kernel
theorem dX10_opens_62 : decode cX10_opens 62 = .ok (.iconst 1, 1) := by decide +kernel
theorem dX10_opens_63 : decode cX10_opens 63 = .ok (.ireturn, 1) := by decide +kernel
theorem dX10_waitTop_0 : decode cX10_waitTop 0 = .ok (.aload_n 0, 1) := by decide +kernel
theorem dX10_waitTop_1 : decode cX10_waitTop 1 = .ok (.getfield 188, 3) := by decide +kernel
theorem dX10_waitTop_4 : decode cX10_waitTop 4 = .ok (.ifCond .ne 7, 3) := by decide +kernel
theorem dX10_waitTop_7 : decode cX10_waitTop 7 = .ok (.iconst (-1), 1) := by decide +kernel
theorem dX10_waitTop_8 : decode cX10_waitTop 8 = .ok (.goto 17, 3) := by decide +kernel
theorem dX10_waitTop_11 : decode cX10_waitTop 11 = .ok (.aload_n 0, 1) := by decide +kernel
theorem dX10_waitTop_12 : decode cX10_waitTop 12 = .ok (.getfield 29, 3) := by decide +kernel
theorem dX10_waitTop_15 : decode cX10_waitTop 15 = .ok (.aload_n 0, 1) := by decide +kernel
theorem dX10_waitTop_16 : decode cX10_waitTop 16 = .ok (.getfield 188, 3) := by decide +kernel
theorem dX10_waitTop_19 : decode cX10_waitTop 19 = .ok (.iconst 1, 1) := by decide +kernel
theorem dX10_waitTop_20 : decode cX10_waitTop 20 = .ok (.isub, 1) := by decide +kernel
theorem dX10_waitTop_21 : decode cX10_waitTop 21 = .ok (.iaload, 1) := by decide +kernel
theorem dX10_waitTop_22 : decode cX10_waitTop 22 = .ok (.ldc 184, 2) := by decide +kernel
theorem dX10_waitTop_24 : decode cX10_waitTop 24 = .ok (.idiv, 1) := by decide +kernel
theorem dX10_waitTop_25 : decode cX10_waitTop 25 = .ok (.ireturn, 1) := by decide +kernel
theorem dX10_factOf_0 : decode cX10_factOf 0 = .ok (.iload_n 0, 1) := by decide +kernel
theorem dX10_factOf_1 : decode cX10_factOf 1 = .ok (.tableswitch 110 100 119 #[105, 110, 110, 110, 110, 110, 110, 101, 103, 107, 110, 110, 95, 110, 99, 110, 110, 110, 110, 97], 95) := by decide +kernel
theorem dX10_factOf_96 : decode cX10_factOf 96 = .ok (.iconst 0, 1) := by decide +kernel
theorem dX10_factOf_97 : decode cX10_factOf 97 = .ok (.ireturn, 1) := by decide +kernel
theorem dX10_factOf_98 : decode cX10_factOf 98 = .ok (.iconst 1, 1) := by decide +kernel
theorem dX10_factOf_99 : decode cX10_factOf 99 = .ok (.ireturn, 1) := by decide +kernel
theorem dX10_factOf_100 : decode cX10_factOf 100 = .ok (.iconst 2, 1) := by decide +kernel
theorem dX10_factOf_101 : decode cX10_factOf 101 = .ok (.ireturn, 1) := by decide +kernel
theorem dX10_factOf_102 : decode cX10_factOf 102 = .ok (.iconst 3, 1) := by decide +kernel
theorem dX10_factOf_103 : decode cX10_factOf 103 = .ok (.ireturn, 1) := by decide +kernel
theorem dX10_factOf_104 : decode cX10_factOf 104 = .ok (.iconst 4, 1) := by decide +kernel
theorem dX10_factOf_105 : decode cX10_factOf 105 = .ok (.ireturn, 1) := by decide +kernel
theorem dX10_factOf_106 : decode cX10_factOf 106 = .ok (.iconst 5, 1) := by decide +kernel
theorem dX10_factOf_107 : decode cX10_factOf 107 = .ok (.ireturn, 1) := by decide +kernel
theorem dX10_factOf_108 : decode cX10_factOf 108 = .ok (.bipush 6, 2) := by decide +kernel
theorem dX10_factOf_110 : decode cX10_factOf 110 = .ok (.ireturn, 1) := by decide +kernel
theorem dX10_factOf_111 : decode cX10_factOf 111 = .ok (.iconst (-1), 1) := by decide +kernel
theorem dX10_factOf_112 : decode cX10_factOf 112 = .ok (.ireturn, 1) := by decide +kernel
theorem dX10_sumSign_0 : decode cX10_sumSign 0 = .ok (.iload_n 0, 1) := by decide +kernel
theorem dX10_sumSign_1 : decode cX10_sumSign 1 = .ok (.bipush 43, 2) := by decide +kernel
theorem dX10_sumSign_3 : decode cX10_sumSign 3 = .ok (.if_icmp .ne 7, 3) := by decide +kernel
theorem dX10_sumSign_6 : decode cX10_sumSign 6 = .ok (.iconst 2, 1) := by decide +kernel
theorem dX10_sumSign_7 : decode cX10_sumSign 7 = .ok (.goto 45, 3) := by decide +kernel
theorem dX10_sumSign_10 : decode cX10_sumSign 10 = .ok (.iload_n 0, 1) := by decide +kernel
theorem dX10_sumSign_11 : decode cX10_sumSign 11 = .ok (.bipush 45, 2) := by decide +kernel
theorem dX10_sumSign_13 : decode cX10_sumSign 13 = .ok (.if_icmp .ne 7, 3) := by decide +kernel
theorem dX10_sumSign_16 : decode cX10_sumSign 16 = .ok (.iconst 3, 1) := by decide +kernel
theorem dX10_sumSign_17 : decode cX10_sumSign 17 = .ok (.goto 35, 3) := by decide +kernel
theorem dX10_sumSign_20 : decode cX10_sumSign 20 = .ok (.iload_n 0, 1) := by decide +kernel
theorem dX10_sumSign_21 : decode cX10_sumSign 21 = .ok (.bipush 42, 2) := by decide +kernel
theorem dX10_sumSign_23 : decode cX10_sumSign 23 = .ok (.if_icmp .ne 7, 3) := by decide +kernel
theorem dX10_sumSign_26 : decode cX10_sumSign 26 = .ok (.iconst 4, 1) := by decide +kernel
theorem dX10_sumSign_27 : decode cX10_sumSign 27 = .ok (.goto 25, 3) := by decide +kernel
theorem dX10_sumSign_30 : decode cX10_sumSign 30 = .ok (.iload_n 0, 1) := by decide +kernel
theorem dX10_sumSign_31 : decode cX10_sumSign 31 = .ok (.bipush 47, 2) := by decide +kernel
theorem dX10_sumSign_33 : decode cX10_sumSign 33 = .ok (.if_icmp .ne 7, 3) := by decide +kernel
theorem dX10_sumSign_36 : decode cX10_sumSign 36 = .ok (.iconst 5, 1) := by decide +kernel
theorem dX10_sumSign_37 : decode cX10_sumSign 37 = .ok (.goto 15, 3) := by decide +kernel
theorem dX10_sumSign_40 : decode cX10_sumSign 40 = .ok (.iload_n 0, 1) := by decide +kernel
theorem dX10_sumSign_41 : decode cX10_sumSign 41 = .ok (.bipush 37, 2) := by decide +kernel
theorem dX10_sumSign_43 : decode cX10_sumSign 43 = .ok (.if_icmp .ne 8, 3) := by decide +kernel
theorem dX10_sumSign_46 : decode cX10_sumSign 46 = .ok (.bipush 6, 2) := by decide +kernel
theorem dX10_sumSign_48 : decode cX10_sumSign 48 = .ok (.goto 4, 3) := by decide +kernel
theorem dX10_sumSign_51 : decode cX10_sumSign 51 = .ok (.iconst (-1), 1) := by decide +kernel
theorem dX10_sumSign_52 : decode cX10_sumSign 52 = .ok (.ireturn, 1) := by decide +kernel
theorem dX10_closesSums_0 : decode cX10_closesSums 0 = .ok (.aload_n 0, 1) := by decide +kernel
theorem dX10_closesSums_1 : decode cX10_closesSums 1 = .ok (.invokevirtual 191, 3) := by decide +kernel
theorem dX10_closesSums_4 : decode cX10_closesSums 4 = .ok (.iconst 4, 1) := by decide +kernel
theorem dX10_closesSums_5 : decode cX10_closesSums 5 = .ok (.if_icmp .lt 12, 3) := by decide +kernel
theorem dX10_closesSums_8 : decode cX10_closesSums 8 = .ok (.aload_n 0, 1) := by decide +kernel
theorem dX10_closesSums_9 : decode cX10_closesSums 9 = .ok (.invokevirtual 191, 3) := by decide +kernel
theorem dX10_closesSums_12 : decode cX10_closesSums 12 = .ok (.bipush 6, 2) := by decide +kernel
theorem dX10_closesSums_14 : decode cX10_closesSums 14 = .ok (.if_icmp .le 23, 3) := by decide +kernel
theorem dX10_closesSums_17 : decode cX10_closesSums 17 = .ok (.iload_n 1, 1) := by decide +kernel
theorem dX10_closesSums_18 : decode cX10_closesSums 18 = .ok (.ifCond .eq 41, 3) := by decide +kernel
theorem dX10_closesSums_21 : decode cX10_closesSums 21 = .ok (.aload_n 0, 1) := by decide +kernel
theorem dX10_closesSums_22 : decode cX10_closesSums 22 = .ok (.invokevirtual 191, 3) := by decide +kernel
theorem dX10_closesSums_25 : decode cX10_closesSums 25 = .ok (.iconst 2, 1) := by decide +kernel
theorem dX10_closesSums_26 : decode cX10_closesSums 26 = .ok (.if_icmp .eq 11, 3) := by decide +kernel
theorem dX10_closesSums_29 : decode cX10_closesSums 29 = .ok (.aload_n 0, 1) := by decide +kernel
theorem dX10_closesSums_30 : decode cX10_closesSums 30 = .ok (.invokevirtual 191, 3) := by decide +kernel
theorem dX10_closesSums_33 : decode cX10_closesSums 33 = .ok (.iconst 3, 1) := by decide +kernel
theorem dX10_closesSums_34 : decode cX10_closesSums 34 = .ok (.if_icmp .ne 25, 3) := by decide +kernel
theorem dX10_closesSums_37 : decode cX10_closesSums 37 = .ok (.aload_n 0, 1) := by decide +kernel
theorem dX10_closesSums_38 : decode cX10_closesSums 38 = .ok (.aload_n 0, 1) := by decide +kernel
theorem dX10_closesSums_39 : decode cX10_closesSums 39 = .ok (.invokevirtual 191, 3) := by decide +kernel
theorem dX10_closesSums_42 : decode cX10_closesSums 42 = .ok (.iconst 0, 1) := by decide +kernel
theorem dX10_closesSums_43 : decode cX10_closesSums 43 = .ok (.invokevirtual 194, 3) := by decide +kernel
theorem dX10_closesSums_46 : decode cX10_closesSums 46 = .ok (.aload_n 0, 1) := by decide +kernel
theorem dX10_closesSums_47 : decode cX10_closesSums 47 = .ok (.aload_n 0, 1) := by decide +kernel
theorem dX10_closesSums_48 : decode cX10_closesSums 48 = .ok (.getfield 188, 3) := by decide +kernel
theorem dX10_closesSums_51 : decode cX10_closesSums 51 = .ok (.iconst 1, 1) := by decide +kernel
theorem dX10_closesSums_52 : decode cX10_closesSums 52 = .ok (.isub, 1) := by decide +kernel
theorem dX10_closesSums_53 : decode cX10_closesSums 53 = .ok (.putfield 188, 3) := by decide +kernel
theorem dX10_closesSums_56 : decode cX10_closesSums 56 = .ok (.goto (-56), 3) := by decide +kernel
theorem dX10_closesSums_59 : decode cX10_closesSums 59 = .ok (.return_, 1) := by decide +kernel
theorem dX10_readsFactor_0 : decode cX10_readsFactor 0 = .ok (.aload_n 0, 1) := by decide +kernel
theorem dX10_readsFactor_1 : decode cX10_readsFactor 1 = .ok (.invokevirtual 164, 3) := by decide +kernel
theorem dX10_readsFactor_4 : decode cX10_readsFactor 4 = .ok (.bipush 91, 2) := by decide +kernel
theorem dX10_readsFactor_6 : decode cX10_readsFactor 6 = .ok (.if_icmp .ne 14, 3) := by decide +kernel
theorem dX10_readsFactor_9 : decode cX10_readsFactor 9 = .ok (.aload_n 0, 1) := by decide +kernel
theorem dX10_readsFactor_10 : decode cX10_readsFactor 10 = .ok (.bipush 14, 2) := by decide +kernel
theorem dX10_readsFactor_12 : decode cX10_readsFactor 12 = .ok (.invokevirtual 198, 3) := by decide +kernel
theorem dX10_readsFactor_15 : decode cX10_readsFactor 15 = .ok (.ifCond .ne (-15), 3) := by decide +kernel
theorem dX10_readsFactor_18 : decode cX10_readsFactor 18 = .ok (.iconst 0, 1) := by decide +kernel
theorem dX10_readsFactor_19 : decode cX10_readsFactor 19 = .ok (.ireturn, 1) := by decide +kernel
theorem dX10_readsFactor_20 : decode cX10_readsFactor 20 = .ok (.aload_n 0, 1) := by decide +kernel
theorem dX10_readsFactor_21 : decode cX10_readsFactor 21 = .ok (.invokevirtual 177, 3) := by decide +kernel
theorem dX10_readsFactor_24 : decode cX10_readsFactor 24 = .ok (.ifCond .eq 23, 3) := by decide +kernel
theorem dX10_readsFactor_27 : decode cX10_readsFactor 27 = .ok (.aload_n 0, 1) := by decide +kernel
theorem dX10_readsFactor_28 : decode cX10_readsFactor 28 = .ok (.invokevirtual 201, 3) := by decide +kernel
theorem dX10_readsFactor_31 : decode cX10_readsFactor 31 = .ok (.ifCond .ne 5, 3) := by decide +kernel
theorem dX10_readsFactor_34 : decode cX10_readsFactor 34 = .ok (.iconst 0, 1) := by decide +kernel
theorem dX10_readsFactor_35 : decode cX10_readsFactor 35 = .ok (.ireturn, 1) := by decide +kernel
theorem dX10_readsFactor_36 : decode cX10_readsFactor 36 = .ok (.aload_n 0, 1) := by decide +kernel
theorem dX10_readsFactor_37 : decode cX10_readsFactor 37 = .ok (.iconst 0, 1) := by decide +kernel
theorem dX10_readsFactor_38 : decode cX10_readsFactor 38 = .ok (.aload_n 0, 1) := by decide +kernel
theorem dX10_readsFactor_39 : decode cX10_readsFactor 39 = .ok (.getfield 174, 3) := by decide +kernel
theorem dX10_readsFactor_42 : decode cX10_readsFactor 42 = .ok (.invokevirtual 194, 3) := by decide +kernel
theorem dX10_readsFactor_45 : decode cX10_readsFactor 45 = .ok (.iconst 1, 1) := by decide +kernel
theorem dX10_readsFactor_46 : decode cX10_readsFactor 46 = .ok (.ireturn, 1) := by decide +kernel
theorem dX10_readsFactor_47 : decode cX10_readsFactor 47 = .ok (.aload_n 0, 1) := by decide +kernel
theorem dX10_readsFactor_48 : decode cX10_readsFactor 48 = .ok (.invokevirtual 164, 3) := by decide +kernel
theorem dX10_readsFactor_51 : decode cX10_readsFactor 51 = .ok (.invokestatic 204, 3) := by decide +kernel
theorem dX10_readsFactor_54 : decode cX10_readsFactor 54 = .ok (.istore_n 1, 1) := by decide +kernel
theorem dX10_readsFactor_55 : decode cX10_readsFactor 55 = .ok (.iload_n 1, 1) := by decide +kernel
theorem dX10_readsFactor_56 : decode cX10_readsFactor 56 = .ok (.iconst (-1), 1) := by decide +kernel
theorem dX10_readsFactor_57 : decode cX10_readsFactor 57 = .ok (.if_icmp .ne 13, 3) := by decide +kernel
theorem dX10_readsFactor_60 : decode cX10_readsFactor 60 = .ok (.aload_n 0, 1) := by decide +kernel
theorem dX10_readsFactor_61 : decode cX10_readsFactor 61 = .ok (.iconst 1, 1) := by decide +kernel
theorem dX10_readsFactor_62 : decode cX10_readsFactor 62 = .ok (.aload_n 0, 1) := by decide +kernel
theorem dX10_readsFactor_63 : decode cX10_readsFactor 63 = .ok (.getfield 158, 3) := by decide +kernel
theorem dX10_readsFactor_66 : decode cX10_readsFactor 66 = .ok (.invokevirtual 171, 3) := by decide +kernel
theorem dX10_readsFactor_69 : decode cX10_readsFactor 69 = .ok (.ireturn, 1) := by decide +kernel
theorem dX10_readsFactor_70 : decode cX10_readsFactor 70 = .ok (.aload_n 0, 1) := by decide +kernel
theorem dX10_readsFactor_71 : decode cX10_readsFactor 71 = .ok (.iconst 1, 1) := by decide +kernel
theorem dX10_readsFactor_72 : decode cX10_readsFactor 72 = .ok (.iload_n 1, 1) := by decide +kernel
theorem dX10_readsFactor_73 : decode cX10_readsFactor 73 = .ok (.invokevirtual 194, 3) := by decide +kernel
theorem dX10_readsFactor_76 : decode cX10_readsFactor 76 = .ok (.aload_n 0, 1) := by decide +kernel
theorem dX10_readsFactor_77 : decode cX10_readsFactor 77 = .ok (.aload_n 0, 1) := by decide +kernel
theorem dX10_readsFactor_78 : decode cX10_readsFactor 78 = .ok (.getfield 158, 3) := by decide +kernel
theorem dX10_readsFactor_81 : decode cX10_readsFactor 81 = .ok (.iconst 1, 1) := by decide +kernel
theorem dX10_readsFactor_82 : decode cX10_readsFactor 82 = .ok (.iadd, 1) := by decide +kernel
theorem dX10_readsFactor_83 : decode cX10_readsFactor 83 = .ok (.putfield 158, 3) := by decide +kernel
theorem dX10_readsFactor_86 : decode cX10_readsFactor 86 = .ok (.iconst 1, 1) := by decide +kernel
theorem dX10_readsFactor_87 : decode cX10_readsFactor 87 = .ok (.ireturn, 1) := by decide +kernel
theorem dX10_hasOpenSum_0 : decode cX10_hasOpenSum 0 = .ok (.iload_n 1, 1) := by decide +kernel
theorem dX10_hasOpenSum_1 : decode cX10_hasOpenSum 1 = .ok (.istore_n 2, 1) := by decide +kernel
theorem dX10_hasOpenSum_2 : decode cX10_hasOpenSum 2 = .ok (.iload_n 2, 1) := by decide +kernel
theorem dX10_hasOpenSum_3 : decode cX10_hasOpenSum 3 = .ok (.aload_n 0, 1) := by decide +kernel
theorem dX10_hasOpenSum_4 : decode cX10_hasOpenSum 4 = .ok (.getfield 188, 3) := by decide +kernel
theorem dX10_hasOpenSum_7 : decode cX10_hasOpenSum 7 = .ok (.if_icmp .ge 25, 3) := by decide +kernel
theorem dX10_hasOpenSum_10 : decode cX10_hasOpenSum 10 = .ok (.aload_n 0, 1) := by decide +kernel
theorem dX10_hasOpenSum_11 : decode cX10_hasOpenSum 11 = .ok (.getfield 29, 3) := by decide +kernel
theorem dX10_hasOpenSum_14 : decode cX10_hasOpenSum 14 = .ok (.iload_n 2, 1) := by decide +kernel
theorem dX10_hasOpenSum_15 : decode cX10_hasOpenSum 15 = .ok (.iaload, 1) := by decide +kernel
theorem dX10_hasOpenSum_16 : decode cX10_hasOpenSum 16 = .ok (.ldc 184, 2) := by decide +kernel
theorem dX10_hasOpenSum_18 : decode cX10_hasOpenSum 18 = .ok (.idiv, 1) := by decide +kernel
theorem dX10_hasOpenSum_19 : decode cX10_hasOpenSum 19 = .ok (.bipush 14, 2) := by decide +kernel
theorem dX10_hasOpenSum_21 : decode cX10_hasOpenSum 21 = .ok (.if_icmp .ne 5, 3) := by decide +kernel
theorem dX10_hasOpenSum_24 : decode cX10_hasOpenSum 24 = .ok (.iconst 1, 1) := by decide +kernel
theorem dX10_hasOpenSum_25 : decode cX10_hasOpenSum 25 = .ok (.ireturn, 1) := by decide +kernel
theorem dX10_hasOpenSum_26 : decode cX10_hasOpenSum 26 = .ok (.iinc 2 1, 3) := by decide +kernel
theorem dX10_hasOpenSum_29 : decode cX10_hasOpenSum 29 = .ok (.goto (-27), 3) := by decide +kernel
theorem dX10_hasOpenSum_32 : decode cX10_hasOpenSum 32 = .ok (.iconst 0, 1) := by decide +kernel
theorem dX10_hasOpenSum_33 : decode cX10_hasOpenSum 33 = .ok (.ireturn, 1) := by decide +kernel
theorem dX10_readsSum_0 : decode cX10_readsSum 0 = .ok (.aload_n 0, 1) := by decide +kernel
theorem dX10_readsSum_1 : decode cX10_readsSum 1 = .ok (.getfield 188, 3) := by decide +kernel
theorem dX10_readsSum_4 : decode cX10_readsSum 4 = .ok (.istore_n 1, 1) := by decide +kernel
theorem dX10_readsSum_5 : decode cX10_readsSum 5 = .ok (.aload_n 0, 1) := by decide +kernel
theorem dX10_readsSum_6 : decode cX10_readsSum 6 = .ok (.invokevirtual 208, 3) := by decide +kernel
theorem dX10_readsSum_9 : decode cX10_readsSum 9 = .ok (.ifCond .ne 5, 3) := by decide +kernel
theorem dX10_readsSum_12 : decode cX10_readsSum 12 = .ok (.iconst 0, 1) := by decide +kernel
theorem dX10_readsSum_13 : decode cX10_readsSum 13 = .ok (.ireturn, 1) := by decide +kernel
theorem dX10_readsSum_14 : decode cX10_readsSum 14 = .ok (.aload_n 0, 1) := by decide +kernel
theorem dX10_readsSum_15 : decode cX10_readsSum 15 = .ok (.invokevirtual 164, 3) := by decide +kernel
theorem dX10_readsSum_18 : decode cX10_readsSum 18 = .ok (.invokestatic 211, 3) := by decide +kernel
theorem dX10_readsSum_21 : decode cX10_readsSum 21 = .ok (.istore_n 2, 1) := by decide +kernel
theorem dX10_readsSum_22 : decode cX10_readsSum 22 = .ok (.iload_n 2, 1) := by decide +kernel
theorem dX10_readsSum_23 : decode cX10_readsSum 23 = .ok (.iconst (-1), 1) := by decide +kernel
theorem dX10_readsSum_24 : decode cX10_readsSum 24 = .ok (.if_icmp .eq 59, 3) := by decide +kernel
theorem dX10_readsSum_27 : decode cX10_readsSum 27 = .ok (.aload_n 0, 1) := by decide +kernel
theorem dX10_readsSum_28 : decode cX10_readsSum 28 = .ok (.iload_n 2, 1) := by decide +kernel
theorem dX10_readsSum_29 : decode cX10_readsSum 29 = .ok (.iconst 4, 1) := by decide +kernel
theorem dX10_readsSum_30 : decode cX10_readsSum 30 = .ok (.if_icmp .ge 7, 3) := by decide +kernel
theorem dX10_readsSum_33 : decode cX10_readsSum 33 = .ok (.iconst 1, 1) := by decide +kernel
theorem dX10_readsSum_34 : decode cX10_readsSum 34 = .ok (.goto 4, 3) := by decide +kernel
theorem dX10_readsSum_37 : decode cX10_readsSum 37 = .ok (.iconst 0, 1) := by decide +kernel
theorem dX10_readsSum_38 : decode cX10_readsSum 38 = .ok (.invokevirtual 214, 3) := by decide +kernel
theorem dX10_readsSum_41 : decode cX10_readsSum 41 = .ok (.aload_n 0, 1) := by decide +kernel
theorem dX10_readsSum_42 : decode cX10_readsSum 42 = .ok (.getfield 29, 3) := by decide +kernel
theorem dX10_readsSum_45 : decode cX10_readsSum 45 = .ok (.aload_n 0, 1) := by decide +kernel
theorem dX10_readsSum_46 : decode cX10_readsSum 46 = .ok (.getfield 188, 3) := by decide +kernel
theorem dX10_readsSum_49 : decode cX10_readsSum 49 = .ok (.ldc 184, 2) := by decide +kernel
theorem dX10_readsSum_51 : decode cX10_readsSum 51 = .ok (.iload_n 2, 1) := by decide +kernel
theorem dX10_readsSum_52 : decode cX10_readsSum 52 = .ok (.imul, 1) := by decide +kernel
theorem dX10_readsSum_53 : decode cX10_readsSum 53 = .ok (.iastore, 1) := by decide +kernel
theorem dX10_readsSum_54 : decode cX10_readsSum 54 = .ok (.aload_n 0, 1) := by decide +kernel
theorem dX10_readsSum_55 : decode cX10_readsSum 55 = .ok (.aload_n 0, 1) := by decide +kernel
theorem dX10_readsSum_56 : decode cX10_readsSum 56 = .ok (.getfield 188, 3) := by decide +kernel
theorem dX10_readsSum_59 : decode cX10_readsSum 59 = .ok (.iconst 1, 1) := by decide +kernel
theorem dX10_readsSum_60 : decode cX10_readsSum 60 = .ok (.iadd, 1) := by decide +kernel
theorem dX10_readsSum_61 : decode cX10_readsSum 61 = .ok (.putfield 188, 3) := by decide +kernel
theorem dX10_readsSum_64 : decode cX10_readsSum 64 = .ok (.aload_n 0, 1) := by decide +kernel
theorem dX10_readsSum_65 : decode cX10_readsSum 65 = .ok (.aload_n 0, 1) := by decide +kernel
theorem dX10_readsSum_66 : decode cX10_readsSum 66 = .ok (.getfield 158, 3) := by decide +kernel
theorem dX10_readsSum_69 : decode cX10_readsSum 69 = .ok (.iconst 1, 1) := by decide +kernel
theorem dX10_readsSum_70 : decode cX10_readsSum 70 = .ok (.iadd, 1) := by decide +kernel
theorem dX10_readsSum_71 : decode cX10_readsSum 71 = .ok (.putfield 158, 3) := by decide +kernel
theorem dX10_readsSum_74 : decode cX10_readsSum 74 = .ok (.aload_n 0, 1) := by decide +kernel
theorem dX10_readsSum_75 : decode cX10_readsSum 75 = .ok (.invokevirtual 208, 3) := by decide +kernel
theorem dX10_readsSum_78 : decode cX10_readsSum 78 = .ok (.ifCond .ne 85, 3) := by decide +kernel
theorem dX10_readsSum_81 : decode cX10_readsSum 81 = .ok (.iconst 0, 1) := by decide +kernel
theorem dX10_readsSum_82 : decode cX10_readsSum 82 = .ok (.ireturn, 1) := by decide +kernel
theorem dX10_readsSum_83 : decode cX10_readsSum 83 = .ok (.aload_n 0, 1) := by decide +kernel
theorem dX10_readsSum_84 : decode cX10_readsSum 84 = .ok (.invokevirtual 164, 3) := by decide +kernel
theorem dX10_readsSum_87 : decode cX10_readsSum 87 = .ok (.bipush 93, 2) := by decide +kernel
theorem dX10_readsSum_89 : decode cX10_readsSum 89 = .ok (.if_icmp .ne 49, 3) := by decide +kernel
theorem dX10_readsSum_92 : decode cX10_readsSum 92 = .ok (.aload_n 0, 1) := by decide +kernel
theorem dX10_readsSum_93 : decode cX10_readsSum 93 = .ok (.iload_n 1, 1) := by decide +kernel
theorem dX10_readsSum_94 : decode cX10_readsSum 94 = .ok (.invokevirtual 218, 3) := by decide +kernel
theorem dX10_readsSum_97 : decode cX10_readsSum 97 = .ok (.ifCond .eq 41, 3) := by decide +kernel
theorem dX10_readsSum_100 : decode cX10_readsSum 100 = .ok (.aload_n 0, 1) := by decide +kernel
theorem dX10_readsSum_101 : decode cX10_readsSum 101 = .ok (.iconst 1, 1) := by decide +kernel
theorem dX10_readsSum_102 : decode cX10_readsSum 102 = .ok (.invokevirtual 214, 3) := by decide +kernel
theorem dX10_readsSum_105 : decode cX10_readsSum 105 = .ok (.aload_n 0, 1) := by decide +kernel
theorem dX10_readsSum_106 : decode cX10_readsSum 106 = .ok (.aload_n 0, 1) := by decide +kernel
theorem dX10_readsSum_107 : decode cX10_readsSum 107 = .ok (.getfield 188, 3) := by decide +kernel
theorem dX10_readsSum_110 : decode cX10_readsSum 110 = .ok (.iconst 1, 1) := by decide +kernel
theorem dX10_readsSum_111 : decode cX10_readsSum 111 = .ok (.isub, 1) := by decide +kernel
theorem dX10_readsSum_112 : decode cX10_readsSum 112 = .ok (.putfield 188, 3) := by decide +kernel
theorem dX10_readsSum_115 : decode cX10_readsSum 115 = .ok (.aload_n 0, 1) := by decide +kernel
theorem dX10_readsSum_116 : decode cX10_readsSum 116 = .ok (.aload_n 0, 1) := by decide +kernel
theorem dX10_readsSum_117 : decode cX10_readsSum 117 = .ok (.getfield 185, 3) := by decide +kernel
theorem dX10_readsSum_120 : decode cX10_readsSum 120 = .ok (.iconst 1, 1) := by decide +kernel
theorem dX10_readsSum_121 : decode cX10_readsSum 121 = .ok (.isub, 1) := by decide +kernel
theorem dX10_readsSum_122 : decode cX10_readsSum 122 = .ok (.putfield 185, 3) := by decide +kernel
theorem dX10_readsSum_125 : decode cX10_readsSum 125 = .ok (.aload_n 0, 1) := by decide +kernel
theorem dX10_readsSum_126 : decode cX10_readsSum 126 = .ok (.aload_n 0, 1) := by decide +kernel
theorem dX10_readsSum_127 : decode cX10_readsSum 127 = .ok (.getfield 158, 3) := by decide +kernel
theorem dX10_readsSum_130 : decode cX10_readsSum 130 = .ok (.iconst 1, 1) := by decide +kernel
theorem dX10_readsSum_131 : decode cX10_readsSum 131 = .ok (.iadd, 1) := by decide +kernel
theorem dX10_readsSum_132 : decode cX10_readsSum 132 = .ok (.putfield 158, 3) := by decide +kernel
theorem dX10_readsSum_135 : decode cX10_readsSum 135 = .ok (.goto 28, 3) := by decide +kernel
theorem dX10_readsSum_138 : decode cX10_readsSum 138 = .ok (.aload_n 0, 1) := by decide +kernel
theorem dX10_readsSum_139 : decode cX10_readsSum 139 = .ok (.iload_n 1, 1) := by decide +kernel
theorem dX10_readsSum_140 : decode cX10_readsSum 140 = .ok (.invokevirtual 218, 3) := by decide +kernel
theorem dX10_readsSum_143 : decode cX10_readsSum 143 = .ok (.ifCond .eq 13, 3) := by decide +kernel
theorem dX10_readsSum_146 : decode cX10_readsSum 146 = .ok (.aload_n 0, 1) := by decide +kernel
theorem dX10_readsSum_147 : decode cX10_readsSum 147 = .ok (.iconst 1, 1) := by decide +kernel
theorem dX10_readsSum_148 : decode cX10_readsSum 148 = .ok (.aload_n 0, 1) := by decide +kernel
theorem dX10_readsSum_149 : decode cX10_readsSum 149 = .ok (.getfield 158, 3) := by decide +kernel
theorem dX10_readsSum_152 : decode cX10_readsSum 152 = .ok (.invokevirtual 171, 3) := by decide +kernel
theorem dX10_readsSum_155 : decode cX10_readsSum 155 = .ok (.ireturn, 1) := by decide +kernel
theorem dX10_readsSum_156 : decode cX10_readsSum 156 = .ok (.aload_n 0, 1) := by decide +kernel
theorem dX10_readsSum_157 : decode cX10_readsSum 157 = .ok (.iconst 1, 1) := by decide +kernel
theorem dX10_readsSum_158 : decode cX10_readsSum 158 = .ok (.invokevirtual 214, 3) := by decide +kernel
theorem dX10_readsSum_161 : decode cX10_readsSum 161 = .ok (.iconst 1, 1) := by decide +kernel
theorem dX10_readsSum_162 : decode cX10_readsSum 162 = .ok (.ireturn, 1) := by decide +kernel
theorem dX10_readsSum_163 : decode cX10_readsSum 163 = .ok (.goto (-149), 3) := by decide +kernel
theorem dX10_endsPiece_0 : decode cX10_endsPiece 0 = .ok (.aload_n 0, 1) := by decide +kernel
theorem dX10_endsPiece_1 : decode cX10_endsPiece 1 = .ok (.invokevirtual 191, 3) := by decide +kernel
theorem dX10_endsPiece_4 : decode cX10_endsPiece 4 = .ok (.bipush 10, 2) := by decide +kernel
theorem dX10_endsPiece_6 : decode cX10_endsPiece 6 = .ok (.if_icmp .ne 33, 3) := by decide +kernel
theorem dX10_endsPiece_9 : decode cX10_endsPiece 9 = .ok (.aload_n 0, 1) := by decide +kernel
theorem dX10_endsPiece_10 : decode cX10_endsPiece 10 = .ok (.bipush 10, 2) := by decide +kernel
theorem dX10_endsPiece_12 : decode cX10_endsPiece 12 = .ok (.iconst 0, 1) := by decide +kernel
theorem dX10_endsPiece_13 : decode cX10_endsPiece 13 = .ok (.invokevirtual 194, 3) := by decide +kernel
theorem dX10_endsPiece_16 : decode cX10_endsPiece 16 = .ok (.aload_n 0, 1) := by decide +kernel
theorem dX10_endsPiece_17 : decode cX10_endsPiece 17 = .ok (.aload_n 0, 1) := by decide +kernel
theorem dX10_endsPiece_18 : decode cX10_endsPiece 18 = .ok (.getfield 188, 3) := by decide +kernel
theorem dX10_endsPiece_21 : decode cX10_endsPiece 21 = .ok (.iconst 1, 1) := by decide +kernel
theorem dX10_endsPiece_22 : decode cX10_endsPiece 22 = .ok (.isub, 1) := by decide +kernel
theorem dX10_endsPiece_23 : decode cX10_endsPiece 23 = .ok (.putfield 188, 3) := by decide +kernel
theorem dX10_endsPiece_26 : decode cX10_endsPiece 26 = .ok (.aload_n 0, 1) := by decide +kernel
theorem dX10_endsPiece_27 : decode cX10_endsPiece 27 = .ok (.aload_n 0, 1) := by decide +kernel
theorem dX10_endsPiece_28 : decode cX10_endsPiece 28 = .ok (.getfield 185, 3) := by decide +kernel
theorem dX10_endsPiece_31 : decode cX10_endsPiece 31 = .ok (.iconst 1, 1) := by decide +kernel
theorem dX10_endsPiece_32 : decode cX10_endsPiece 32 = .ok (.isub, 1) := by decide +kernel
theorem dX10_endsPiece_33 : decode cX10_endsPiece 33 = .ok (.putfield 185, 3) := by decide +kernel
theorem dX10_endsPiece_36 : decode cX10_endsPiece 36 = .ok (.goto (-36), 3) := by decide +kernel
theorem dX10_endsPiece_39 : decode cX10_endsPiece 39 = .ok (.return_, 1) := by decide +kernel
theorem dX10_lands_0 : decode cX10_lands 0 = .ok (.aload_n 0, 1) := by decide +kernel
theorem dX10_lands_1 : decode cX10_lands 1 = .ok (.invokevirtual 191, 3) := by decide +kernel
theorem dX10_lands_4 : decode cX10_lands 4 = .ok (.bipush 11, 2) := by decide +kernel
theorem dX10_lands_6 : decode cX10_lands 6 = .ok (.if_icmp .eq 16, 3) := by decide +kernel
theorem dX10_lands_9 : decode cX10_lands 9 = .ok (.iload_n 1, 1) := by decide +kernel
theorem dX10_lands_10 : decode cX10_lands 10 = .ok (.ifCond .eq 63, 3) := by decide +kernel
theorem dX10_lands_13 : decode cX10_lands 13 = .ok (.aload_n 0, 1) := by decide +kernel
theorem dX10_lands_14 : decode cX10_lands 14 = .ok (.invokevirtual 191, 3) := by decide +kernel
theorem dX10_lands_17 : decode cX10_lands 17 = .ok (.bipush 12, 2) := by decide +kernel
theorem dX10_lands_19 : decode cX10_lands 19 = .ok (.if_icmp .ne 54, 3) := by decide +kernel
theorem dX10_lands_22 : decode cX10_lands 22 = .ok (.aload_n 0, 1) := by decide +kernel
theorem dX10_lands_23 : decode cX10_lands 23 = .ok (.getfield 29, 3) := by decide +kernel
theorem dX10_lands_26 : decode cX10_lands 26 = .ok (.aload_n 0, 1) := by decide +kernel
theorem dX10_lands_27 : decode cX10_lands 27 = .ok (.getfield 188, 3) := by decide +kernel
theorem dX10_lands_30 : decode cX10_lands 30 = .ok (.iconst 1, 1) := by decide +kernel
theorem dX10_lands_31 : decode cX10_lands 31 = .ok (.isub, 1) := by decide +kernel
theorem dX10_lands_32 : decode cX10_lands 32 = .ok (.iaload, 1) := by decide +kernel
theorem dX10_lands_33 : decode cX10_lands 33 = .ok (.ldc 184, 2) := by decide +kernel
theorem dX10_lands_35 : decode cX10_lands 35 = .ok (.irem, 1) := by decide +kernel
theorem dX10_lands_36 : decode cX10_lands 36 = .ok (.istore_n 2, 1) := by decide +kernel
theorem dX10_lands_37 : decode cX10_lands 37 = .ok (.aload_n 0, 1) := by decide +kernel
theorem dX10_lands_38 : decode cX10_lands 38 = .ok (.getfield 26, 3) := by decide +kernel
theorem dX10_lands_41 : decode cX10_lands 41 = .ok (.iload_n 2, 1) := by decide +kernel
theorem dX10_lands_42 : decode cX10_lands 42 = .ok (.ldc 184, 2) := by decide +kernel
theorem dX10_lands_44 : decode cX10_lands 44 = .ok (.aload_n 0, 1) := by decide +kernel
theorem dX10_lands_45 : decode cX10_lands 45 = .ok (.getfield 26, 3) := by decide +kernel
theorem dX10_lands_48 : decode cX10_lands 48 = .ok (.iload_n 2, 1) := by decide +kernel
theorem dX10_lands_49 : decode cX10_lands 49 = .ok (.iaload, 1) := by decide +kernel
theorem dX10_lands_50 : decode cX10_lands 50 = .ok (.ldc 184, 2) := by decide +kernel
theorem dX10_lands_52 : decode cX10_lands 52 = .ok (.idiv, 1) := by decide +kernel
theorem dX10_lands_53 : decode cX10_lands 53 = .ok (.imul, 1) := by decide +kernel
theorem dX10_lands_54 : decode cX10_lands 54 = .ok (.aload_n 0, 1) := by decide +kernel
theorem dX10_lands_55 : decode cX10_lands 55 = .ok (.getfield 181, 3) := by decide +kernel
theorem dX10_lands_58 : decode cX10_lands 58 = .ok (.iadd, 1) := by decide +kernel
theorem dX10_lands_59 : decode cX10_lands 59 = .ok (.iastore, 1) := by decide +kernel
theorem dX10_lands_60 : decode cX10_lands 60 = .ok (.aload_n 0, 1) := by decide +kernel
theorem dX10_lands_61 : decode cX10_lands 61 = .ok (.aload_n 0, 1) := by decide +kernel
theorem dX10_lands_62 : decode cX10_lands 62 = .ok (.getfield 188, 3) := by decide +kernel
theorem dX10_lands_65 : decode cX10_lands 65 = .ok (.iconst 1, 1) := by decide +kernel
theorem dX10_lands_66 : decode cX10_lands 66 = .ok (.isub, 1) := by decide +kernel
theorem dX10_lands_67 : decode cX10_lands 67 = .ok (.putfield 188, 3) := by decide +kernel
theorem dX10_lands_70 : decode cX10_lands 70 = .ok (.goto (-70), 3) := by decide +kernel
theorem dX10_lands_73 : decode cX10_lands 73 = .ok (.return_, 1) := by decide +kernel
theorem dX10_jumps_0 : decode cX10_jumps 0 = .ok (.aload_n 0, 1) := by decide +kernel
theorem dX10_jumps_1 : decode cX10_jumps 1 = .ok (.getfield 29, 3) := by decide +kernel
theorem dX10_jumps_4 : decode cX10_jumps 4 = .ok (.aload_n 0, 1) := by decide +kernel
theorem dX10_jumps_5 : decode cX10_jumps 5 = .ok (.getfield 188, 3) := by decide +kernel
theorem dX10_jumps_8 : decode cX10_jumps 8 = .ok (.ldc 184, 2) := by decide +kernel
theorem dX10_jumps_10 : decode cX10_jumps 10 = .ok (.iload_n 1, 1) := by decide +kernel
theorem dX10_jumps_11 : decode cX10_jumps 11 = .ok (.imul, 1) := by decide +kernel
theorem dX10_jumps_12 : decode cX10_jumps 12 = .ok (.aload_n 0, 1) := by decide +kernel
theorem dX10_jumps_13 : decode cX10_jumps 13 = .ok (.getfield 181, 3) := by decide +kernel
theorem dX10_jumps_16 : decode cX10_jumps 16 = .ok (.iadd, 1) := by decide +kernel
theorem dX10_jumps_17 : decode cX10_jumps 17 = .ok (.iastore, 1) := by decide +kernel
theorem dX10_jumps_18 : decode cX10_jumps 18 = .ok (.aload_n 0, 1) := by decide +kernel
theorem dX10_jumps_19 : decode cX10_jumps 19 = .ok (.aload_n 0, 1) := by decide +kernel
theorem dX10_jumps_20 : decode cX10_jumps 20 = .ok (.getfield 188, 3) := by decide +kernel
theorem dX10_jumps_23 : decode cX10_jumps 23 = .ok (.iconst 1, 1) := by decide +kernel
theorem dX10_jumps_24 : decode cX10_jumps 24 = .ok (.iadd, 1) := by decide +kernel
theorem dX10_jumps_25 : decode cX10_jumps 25 = .ok (.putfield 188, 3) := by decide +kernel
theorem dX10_jumps_28 : decode cX10_jumps 28 = .ok (.aload_n 0, 1) := by decide +kernel
theorem dX10_jumps_29 : decode cX10_jumps 29 = .ok (.iload_n 1, 1) := by decide +kernel
theorem dX10_jumps_30 : decode cX10_jumps 30 = .ok (.iconst 0, 1) := by decide +kernel
theorem dX10_jumps_31 : decode cX10_jumps 31 = .ok (.invokevirtual 194, 3) := by decide +kernel
theorem dX10_jumps_34 : decode cX10_jumps 34 = .ok (.aload_n 0, 1) := by decide +kernel
theorem dX10_jumps_35 : decode cX10_jumps 35 = .ok (.aload_n 0, 1) := by decide +kernel
theorem dX10_jumps_36 : decode cX10_jumps 36 = .ok (.getfield 158, 3) := by decide +kernel
theorem dX10_jumps_39 : decode cX10_jumps 39 = .ok (.iconst 1, 1) := by decide +kernel
theorem dX10_jumps_40 : decode cX10_jumps 40 = .ok (.iadd, 1) := by decide +kernel
theorem dX10_jumps_41 : decode cX10_jumps 41 = .ok (.putfield 158, 3) := by decide +kernel
theorem dX10_jumps_44 : decode cX10_jumps 44 = .ok (.return_, 1) := by decide +kernel
theorem dX10_readsCompared_0 : decode cX10_readsCompared 0 = .ok (.aload_n 0, 1) := by decide +kernel
theorem dX10_readsCompared_1 : decode cX10_readsCompared 1 = .ok (.invokevirtual 221, 3) := by decide +kernel
theorem dX10_readsCompared_4 : decode cX10_readsCompared 4 = .ok (.ifCond .ne 5, 3) := by decide +kernel
theorem dX10_readsCompared_7 : decode cX10_readsCompared 7 = .ok (.iconst 0, 1) := by decide +kernel
theorem dX10_readsCompared_8 : decode cX10_readsCompared 8 = .ok (.ireturn, 1) := by decide +kernel
theorem dX10_readsCompared_9 : decode cX10_readsCompared 9 = .ok (.aload_n 0, 1) := by decide +kernel
theorem dX10_readsCompared_10 : decode cX10_readsCompared 10 = .ok (.invokevirtual 164, 3) := by decide +kernel
theorem dX10_readsCompared_13 : decode cX10_readsCompared 13 = .ok (.bipush 60, 2) := by decide +kernel
theorem dX10_readsCompared_15 : decode cX10_readsCompared 15 = .ok (.if_icmp .ne 8, 3) := by decide +kernel
theorem dX10_readsCompared_18 : decode cX10_readsCompared 18 = .ok (.bipush 7, 2) := by decide +kernel
theorem dX10_readsCompared_20 : decode cX10_readsCompared 20 = .ok (.goto 32, 3) := by decide +kernel
theorem dX10_readsCompared_23 : decode cX10_readsCompared 23 = .ok (.aload_n 0, 1) := by decide +kernel
theorem dX10_readsCompared_24 : decode cX10_readsCompared 24 = .ok (.invokevirtual 164, 3) := by decide +kernel
theorem dX10_readsCompared_27 : decode cX10_readsCompared 27 = .ok (.bipush 62, 2) := by decide +kernel
theorem dX10_readsCompared_29 : decode cX10_readsCompared 29 = .ok (.if_icmp .ne 8, 3) := by decide +kernel
theorem dX10_readsCompared_32 : decode cX10_readsCompared 32 = .ok (.bipush 8, 2) := by decide +kernel
theorem dX10_readsCompared_34 : decode cX10_readsCompared 34 = .ok (.goto 18, 3) := by decide +kernel
theorem dX10_readsCompared_37 : decode cX10_readsCompared 37 = .ok (.aload_n 0, 1) := by decide +kernel
theorem dX10_readsCompared_38 : decode cX10_readsCompared 38 = .ok (.invokevirtual 164, 3) := by decide +kernel
theorem dX10_readsCompared_41 : decode cX10_readsCompared 41 = .ok (.bipush 61, 2) := by decide +kernel
theorem dX10_readsCompared_43 : decode cX10_readsCompared 43 = .ok (.if_icmp .ne 8, 3) := by decide +kernel
theorem dX10_readsCompared_46 : decode cX10_readsCompared 46 = .ok (.bipush 9, 2) := by decide +kernel
theorem dX10_readsCompared_48 : decode cX10_readsCompared 48 = .ok (.goto 4, 3) := by decide +kernel
theorem dX10_readsCompared_51 : decode cX10_readsCompared 51 = .ok (.iconst (-1), 1) := by decide +kernel
theorem dX10_readsCompared_52 : decode cX10_readsCompared 52 = .ok (.istore_n 1, 1) := by decide +kernel
theorem dX10_readsCompared_53 : decode cX10_readsCompared 53 = .ok (.iload_n 1, 1) := by decide +kernel
theorem dX10_readsCompared_54 : decode cX10_readsCompared 54 = .ok (.iconst (-1), 1) := by decide +kernel
theorem dX10_readsCompared_55 : decode cX10_readsCompared 55 = .ok (.if_icmp .ne 13, 3) := by decide +kernel
theorem dX10_readsCompared_58 : decode cX10_readsCompared 58 = .ok (.aload_n 0, 1) := by decide +kernel
theorem dX10_readsCompared_59 : decode cX10_readsCompared 59 = .ok (.iconst 1, 1) := by decide +kernel
theorem dX10_readsCompared_60 : decode cX10_readsCompared 60 = .ok (.aload_n 0, 1) := by decide +kernel
theorem dX10_readsCompared_61 : decode cX10_readsCompared 61 = .ok (.getfield 158, 3) := by decide +kernel
theorem dX10_readsCompared_64 : decode cX10_readsCompared 64 = .ok (.invokevirtual 171, 3) := by decide +kernel
theorem dX10_readsCompared_67 : decode cX10_readsCompared 67 = .ok (.ireturn, 1) := by decide +kernel
theorem dX10_readsCompared_68 : decode cX10_readsCompared 68 = .ok (.aload_n 0, 1) := by decide +kernel
theorem dX10_readsCompared_69 : decode cX10_readsCompared 69 = .ok (.aload_n 0, 1) := by decide +kernel
theorem dX10_readsCompared_70 : decode cX10_readsCompared 70 = .ok (.getfield 158, 3) := by decide +kernel
theorem dX10_readsCompared_73 : decode cX10_readsCompared 73 = .ok (.iconst 1, 1) := by decide +kernel
theorem dX10_readsCompared_74 : decode cX10_readsCompared 74 = .ok (.iadd, 1) := by decide +kernel
theorem dX10_readsCompared_75 : decode cX10_readsCompared 75 = .ok (.putfield 158, 3) := by decide +kernel
theorem dX10_readsCompared_78 : decode cX10_readsCompared 78 = .ok (.aload_n 0, 1) := by decide +kernel
theorem dX10_readsCompared_79 : decode cX10_readsCompared 79 = .ok (.invokevirtual 221, 3) := by decide +kernel
theorem dX10_readsCompared_82 : decode cX10_readsCompared 82 = .ok (.ifCond .ne 5, 3) := by decide +kernel
theorem dX10_readsCompared_85 : decode cX10_readsCompared 85 = .ok (.iconst 0, 1) := by decide +kernel
theorem dX10_readsCompared_86 : decode cX10_readsCompared 86 = .ok (.ireturn, 1) := by decide +kernel
theorem dX10_readsCompared_87 : decode cX10_readsCompared 87 = .ok (.aload_n 0, 1) := by decide +kernel
theorem dX10_readsCompared_88 : decode cX10_readsCompared 88 = .ok (.iload_n 1, 1) := by decide +kernel
theorem dX10_readsCompared_89 : decode cX10_readsCompared 89 = .ok (.iconst 0, 1) := by decide +kernel
theorem dX10_readsCompared_90 : decode cX10_readsCompared 90 = .ok (.invokevirtual 194, 3) := by decide +kernel
theorem dX10_readsCompared_93 : decode cX10_readsCompared 93 = .ok (.aload_n 0, 1) := by decide +kernel
theorem dX10_readsCompared_94 : decode cX10_readsCompared 94 = .ok (.invokevirtual 224, 3) := by decide +kernel
theorem dX10_readsCompared_97 : decode cX10_readsCompared 97 = .ok (.iconst 1, 1) := by decide +kernel
theorem dX10_readsCompared_98 : decode cX10_readsCompared 98 = .ok (.ireturn, 1) := by decide +kernel
theorem dX10_readsCondition_0 : decode cX10_readsCondition 0 = .ok (.aload_n 0, 1) := by decide +kernel
theorem dX10_readsCondition_1 : decode cX10_readsCondition 1 = .ok (.invokevirtual 164, 3) := by decide +kernel
theorem dX10_readsCondition_4 : decode cX10_readsCondition 4 = .ok (.bipush 40, 2) := by decide +kernel
theorem dX10_readsCondition_6 : decode cX10_readsCondition 6 = .ok (.if_icmp .eq 13, 3) := by decide +kernel
theorem dX10_readsCondition_9 : decode cX10_readsCondition 9 = .ok (.aload_n 0, 1) := by decide +kernel
theorem dX10_readsCondition_10 : decode cX10_readsCondition 10 = .ok (.iconst 1, 1) := by decide +kernel
theorem dX10_readsCondition_11 : decode cX10_readsCondition 11 = .ok (.aload_n 0, 1) := by decide +kernel
theorem dX10_readsCondition_12 : decode cX10_readsCondition 12 = .ok (.getfield 158, 3) := by decide +kernel
theorem dX10_readsCondition_15 : decode cX10_readsCondition 15 = .ok (.invokevirtual 171, 3) := by decide +kernel
theorem dX10_readsCondition_18 : decode cX10_readsCondition 18 = .ok (.ireturn, 1) := by decide +kernel
theorem dX10_readsCondition_19 : decode cX10_readsCondition 19 = .ok (.aload_n 0, 1) := by decide +kernel
theorem dX10_readsCondition_20 : decode cX10_readsCondition 20 = .ok (.iconst 0, 1) := by decide +kernel
theorem dX10_readsCondition_21 : decode cX10_readsCondition 21 = .ok (.putfield 185, 3) := by decide +kernel
theorem dX10_readsCondition_24 : decode cX10_readsCondition 24 = .ok (.aload_n 0, 1) := by decide +kernel
theorem dX10_readsCondition_25 : decode cX10_readsCondition 25 = .ok (.iconst 0, 1) := by decide +kernel
theorem dX10_readsCondition_26 : decode cX10_readsCondition 26 = .ok (.putfield 188, 3) := by decide +kernel
theorem dX10_readsCondition_29 : decode cX10_readsCondition 29 = .ok (.aload_n 0, 1) := by decide +kernel
theorem dX10_readsCondition_30 : decode cX10_readsCondition 30 = .ok (.bipush 13, 2) := by decide +kernel
theorem dX10_readsCondition_32 : decode cX10_readsCondition 32 = .ok (.invokevirtual 198, 3) := by decide +kernel
theorem dX10_readsCondition_35 : decode cX10_readsCondition 35 = .ok (.ifCond .ne 5, 3) := by decide +kernel
theorem dX10_readsCondition_38 : decode cX10_readsCondition 38 = .ok (.iconst 0, 1) := by decide +kernel
theorem dX10_readsCondition_39 : decode cX10_readsCondition 39 = .ok (.ireturn, 1) := by decide +kernel
theorem dX10_readsCondition_40 : decode cX10_readsCondition 40 = .ok (.aload_n 0, 1) := by decide +kernel
theorem dX10_readsCondition_41 : decode cX10_readsCondition 41 = .ok (.invokevirtual 164, 3) := by decide +kernel
theorem dX10_readsCondition_44 : decode cX10_readsCondition 44 = .ok (.bipush 33, 2) := by decide +kernel
theorem dX10_readsCondition_46 : decode cX10_readsCondition 46 = .ok (.if_icmp .eq 12, 3) := by decide +kernel
theorem dX10_readsCondition_49 : decode cX10_readsCondition 49 = .ok (.aload_n 0, 1) := by decide +kernel
theorem dX10_readsCondition_50 : decode cX10_readsCondition 50 = .ok (.invokevirtual 164, 3) := by decide +kernel
theorem dX10_readsCondition_53 : decode cX10_readsCondition 53 = .ok (.bipush 40, 2) := by decide +kernel
theorem dX10_readsCondition_55 : decode cX10_readsCondition 55 = .ok (.if_icmp .ne 28, 3) := by decide +kernel
theorem dX10_readsCondition_58 : decode cX10_readsCondition 58 = .ok (.aload_n 0, 1) := by decide +kernel
theorem dX10_readsCondition_59 : decode cX10_readsCondition 59 = .ok (.aload_n 0, 1) := by decide +kernel
theorem dX10_readsCondition_60 : decode cX10_readsCondition 60 = .ok (.invokevirtual 164, 3) := by decide +kernel
theorem dX10_readsCondition_63 : decode cX10_readsCondition 63 = .ok (.bipush 33, 2) := by decide +kernel
theorem dX10_readsCondition_65 : decode cX10_readsCondition 65 = .ok (.if_icmp .ne 8, 3) := by decide +kernel
theorem dX10_readsCondition_68 : decode cX10_readsCondition 68 = .ok (.bipush 10, 2) := by decide +kernel
theorem dX10_readsCondition_70 : decode cX10_readsCondition 70 = .ok (.goto 5, 3) := by decide +kernel
theorem dX10_readsCondition_73 : decode cX10_readsCondition 73 = .ok (.bipush 13, 2) := by decide +kernel
theorem dX10_readsCondition_75 : decode cX10_readsCondition 75 = .ok (.invokevirtual 198, 3) := by decide +kernel
theorem dX10_readsCondition_78 : decode cX10_readsCondition 78 = .ok (.ifCond .ne (-38), 3) := by decide +kernel
theorem dX10_readsCondition_81 : decode cX10_readsCondition 81 = .ok (.iconst 0, 1) := by decide +kernel
theorem dX10_readsCondition_82 : decode cX10_readsCondition 82 = .ok (.ireturn, 1) := by decide +kernel
theorem dX10_readsCondition_83 : decode cX10_readsCondition 83 = .ok (.aload_n 0, 1) := by decide +kernel
theorem dX10_readsCondition_84 : decode cX10_readsCondition 84 = .ok (.invokevirtual 227, 3) := by decide +kernel
theorem dX10_readsCondition_87 : decode cX10_readsCondition 87 = .ok (.ifCond .ne 5, 3) := by decide +kernel
theorem dX10_readsCondition_90 : decode cX10_readsCondition 90 = .ok (.iconst 0, 1) := by decide +kernel
theorem dX10_readsCondition_91 : decode cX10_readsCondition 91 = .ok (.ireturn, 1) := by decide +kernel
theorem dX10_readsCondition_92 : decode cX10_readsCondition 92 = .ok (.aload_n 0, 1) := by decide +kernel
theorem dX10_readsCondition_93 : decode cX10_readsCondition 93 = .ok (.invokevirtual 164, 3) := by decide +kernel
theorem dX10_readsCondition_96 : decode cX10_readsCondition 96 = .ok (.bipush 41, 2) := by decide +kernel
theorem dX10_readsCondition_98 : decode cX10_readsCondition 98 = .ok (.if_icmp .ne 54, 3) := by decide +kernel
theorem dX10_readsCondition_101 : decode cX10_readsCondition 101 = .ok (.aload_n 0, 1) := by decide +kernel
theorem dX10_readsCondition_102 : decode cX10_readsCondition 102 = .ok (.iconst 1, 1) := by decide +kernel
theorem dX10_readsCondition_103 : decode cX10_readsCondition 103 = .ok (.invokevirtual 230, 3) := by decide +kernel
theorem dX10_readsCondition_106 : decode cX10_readsCondition 106 = .ok (.aload_n 0, 1) := by decide +kernel
theorem dX10_readsCondition_107 : decode cX10_readsCondition 107 = .ok (.aload_n 0, 1) := by decide +kernel
theorem dX10_readsCondition_108 : decode cX10_readsCondition 108 = .ok (.getfield 188, 3) := by decide +kernel
theorem dX10_readsCondition_111 : decode cX10_readsCondition 111 = .ok (.iconst 1, 1) := by decide +kernel
theorem dX10_readsCondition_112 : decode cX10_readsCondition 112 = .ok (.isub, 1) := by decide +kernel
theorem dX10_readsCondition_113 : decode cX10_readsCondition 113 = .ok (.putfield 188, 3) := by decide +kernel
theorem dX10_readsCondition_116 : decode cX10_readsCondition 116 = .ok (.aload_n 0, 1) := by decide +kernel
theorem dX10_readsCondition_117 : decode cX10_readsCondition 117 = .ok (.aload_n 0, 1) := by decide +kernel
theorem dX10_readsCondition_118 : decode cX10_readsCondition 118 = .ok (.getfield 185, 3) := by decide +kernel
theorem dX10_readsCondition_121 : decode cX10_readsCondition 121 = .ok (.iconst 1, 1) := by decide +kernel
theorem dX10_readsCondition_122 : decode cX10_readsCondition 122 = .ok (.isub, 1) := by decide +kernel
theorem dX10_readsCondition_123 : decode cX10_readsCondition 123 = .ok (.putfield 185, 3) := by decide +kernel
theorem dX10_readsCondition_126 : decode cX10_readsCondition 126 = .ok (.aload_n 0, 1) := by decide +kernel
theorem dX10_readsCondition_127 : decode cX10_readsCondition 127 = .ok (.aload_n 0, 1) := by decide +kernel
theorem dX10_readsCondition_128 : decode cX10_readsCondition 128 = .ok (.getfield 158, 3) := by decide +kernel
theorem dX10_readsCondition_131 : decode cX10_readsCondition 131 = .ok (.iconst 1, 1) := by decide +kernel
theorem dX10_readsCondition_132 : decode cX10_readsCondition 132 = .ok (.iadd, 1) := by decide +kernel
theorem dX10_readsCondition_133 : decode cX10_readsCondition 133 = .ok (.putfield 158, 3) := by decide +kernel
theorem dX10_readsCondition_136 : decode cX10_readsCondition 136 = .ok (.aload_n 0, 1) := by decide +kernel
theorem dX10_readsCondition_137 : decode cX10_readsCondition 137 = .ok (.getfield 188, 3) := by decide +kernel
theorem dX10_readsCondition_140 : decode cX10_readsCondition 140 = .ok (.ifCond .ne 5, 3) := by decide +kernel
theorem dX10_readsCondition_143 : decode cX10_readsCondition 143 = .ok (.iconst 1, 1) := by decide +kernel
theorem dX10_readsCondition_144 : decode cX10_readsCondition 144 = .ok (.ireturn, 1) := by decide +kernel
theorem dX10_readsCondition_145 : decode cX10_readsCondition 145 = .ok (.aload_n 0, 1) := by decide +kernel
theorem dX10_readsCondition_146 : decode cX10_readsCondition 146 = .ok (.invokevirtual 224, 3) := by decide +kernel
theorem dX10_readsCondition_149 : decode cX10_readsCondition 149 = .ok (.goto (-57), 3) := by decide +kernel
theorem dX10_readsCondition_152 : decode cX10_readsCondition 152 = .ok (.aload_n 0, 1) := by decide +kernel
theorem dX10_readsCondition_153 : decode cX10_readsCondition 153 = .ok (.invokevirtual 164, 3) := by decide +kernel
theorem dX10_readsCondition_156 : decode cX10_readsCondition 156 = .ok (.bipush 38, 2) := by decide +kernel
theorem dX10_readsCondition_158 : decode cX10_readsCondition 158 = .ok (.if_icmp .eq 22, 3) := by decide +kernel
theorem dX10_readsCondition_161 : decode cX10_readsCondition 161 = .ok (.aload_n 0, 1) := by decide +kernel
theorem dX10_readsCondition_162 : decode cX10_readsCondition 162 = .ok (.invokevirtual 164, 3) := by decide +kernel
theorem dX10_readsCondition_165 : decode cX10_readsCondition 165 = .ok (.bipush 124, 2) := by decide +kernel
theorem dX10_readsCondition_167 : decode cX10_readsCondition 167 = .ok (.if_icmp .eq 13, 3) := by decide +kernel
theorem dX10_readsCondition_170 : decode cX10_readsCondition 170 = .ok (.aload_n 0, 1) := by decide +kernel
theorem dX10_readsCondition_171 : decode cX10_readsCondition 171 = .ok (.iconst 1, 1) := by decide +kernel
theorem dX10_readsCondition_172 : decode cX10_readsCondition 172 = .ok (.aload_n 0, 1) := by decide +kernel
theorem dX10_readsCondition_173 : decode cX10_readsCondition 173 = .ok (.getfield 158, 3) := by decide +kernel
theorem dX10_readsCondition_176 : decode cX10_readsCondition 176 = .ok (.invokevirtual 171, 3) := by decide +kernel
theorem dX10_readsCondition_179 : decode cX10_readsCondition 179 = .ok (.ireturn, 1) := by decide +kernel
theorem dX10_readsCondition_180 : decode cX10_readsCondition 180 = .ok (.aload_n 0, 1) := by decide +kernel
theorem dX10_readsCondition_181 : decode cX10_readsCondition 181 = .ok (.aload_n 0, 1) := by decide +kernel
theorem dX10_readsCondition_182 : decode cX10_readsCondition 182 = .ok (.invokevirtual 164, 3) := by decide +kernel
theorem dX10_readsCondition_185 : decode cX10_readsCondition 185 = .ok (.bipush 124, 2) := by decide +kernel
theorem dX10_readsCondition_187 : decode cX10_readsCondition 187 = .ok (.if_icmp .ne 7, 3) := by decide +kernel
theorem dX10_readsCondition_190 : decode cX10_readsCondition 190 = .ok (.iconst 1, 1) := by decide +kernel
theorem dX10_readsCondition_191 : decode cX10_readsCondition 191 = .ok (.goto 4, 3) := by decide +kernel
theorem dX10_readsCondition_194 : decode cX10_readsCondition 194 = .ok (.iconst 0, 1) := by decide +kernel
theorem dX10_readsCondition_195 : decode cX10_readsCondition 195 = .ok (.invokevirtual 230, 3) := by decide +kernel
theorem dX10_readsCondition_198 : decode cX10_readsCondition 198 = .ok (.aload_n 0, 1) := by decide +kernel
theorem dX10_readsCondition_199 : decode cX10_readsCondition 199 = .ok (.aload_n 0, 1) := by decide +kernel
theorem dX10_readsCondition_200 : decode cX10_readsCondition 200 = .ok (.invokevirtual 164, 3) := by decide +kernel
theorem dX10_readsCondition_203 : decode cX10_readsCondition 203 = .ok (.bipush 38, 2) := by decide +kernel
theorem dX10_readsCondition_205 : decode cX10_readsCondition 205 = .ok (.if_icmp .ne 8, 3) := by decide +kernel
theorem dX10_readsCondition_208 : decode cX10_readsCondition 208 = .ok (.bipush 11, 2) := by decide +kernel
theorem dX10_readsCondition_210 : decode cX10_readsCondition 210 = .ok (.goto 5, 3) := by decide +kernel
theorem dX10_readsCondition_213 : decode cX10_readsCondition 213 = .ok (.bipush 12, 2) := by decide +kernel
theorem dX10_readsCondition_215 : decode cX10_readsCondition 215 = .ok (.invokevirtual 233, 3) := by decide +kernel
theorem dX10_readsCondition_218 : decode cX10_readsCondition 218 = .ok (.goto (-178), 3) := by decide +kernel
theorem dX10_readsRule_0 : decode cX10_readsRule 0 = .ok (.aload_n 0, 1) := by decide +kernel
theorem dX10_readsRule_1 : decode cX10_readsRule 1 = .ok (.invokevirtual 164, 3) := by decide +kernel
theorem dX10_readsRule_4 : decode cX10_readsRule 4 = .ok (.istore_n 1, 1) := by decide +kernel
theorem dX10_readsRule_5 : decode cX10_readsRule 5 = .ok (.iload_n 1, 1) := by decide +kernel
theorem dX10_readsRule_6 : decode cX10_readsRule 6 = .ok (.bipush 103, 2) := by decide +kernel
theorem dX10_readsRule_8 : decode cX10_readsRule 8 = .ok (.if_icmp .eq 31, 3) := by decide +kernel
theorem dX10_readsRule_11 : decode cX10_readsRule 11 = .ok (.iload_n 1, 1) := by decide +kernel
theorem dX10_readsRule_12 : decode cX10_readsRule 12 = .ok (.bipush 116, 2) := by decide +kernel
theorem dX10_readsRule_14 : decode cX10_readsRule 14 = .ok (.if_icmp .eq 25, 3) := by decide +kernel
theorem dX10_readsRule_17 : decode cX10_readsRule 17 = .ok (.iload_n 1, 1) := by decide +kernel
theorem dX10_readsRule_18 : decode cX10_readsRule 18 = .ok (.bipush 104, 2) := by decide +kernel
theorem dX10_readsRule_20 : decode cX10_readsRule 20 = .ok (.if_icmp .eq 19, 3) := by decide +kernel
theorem dX10_readsRule_23 : decode cX10_readsRule 23 = .ok (.iload_n 1, 1) := by decide +kernel
theorem dX10_readsRule_24 : decode cX10_readsRule 24 = .ok (.bipush 120, 2) := by decide +kernel
theorem dX10_readsRule_26 : decode cX10_readsRule 26 = .ok (.if_icmp .eq 13, 3) := by decide +kernel
theorem dX10_readsRule_29 : decode cX10_readsRule 29 = .ok (.aload_n 0, 1) := by decide +kernel
theorem dX10_readsRule_30 : decode cX10_readsRule 30 = .ok (.iconst 1, 1) := by decide +kernel
theorem dX10_readsRule_31 : decode cX10_readsRule 31 = .ok (.aload_n 0, 1) := by decide +kernel
theorem dX10_readsRule_32 : decode cX10_readsRule 32 = .ok (.getfield 158, 3) := by decide +kernel
theorem dX10_readsRule_35 : decode cX10_readsRule 35 = .ok (.invokevirtual 171, 3) := by decide +kernel
theorem dX10_readsRule_38 : decode cX10_readsRule 38 = .ok (.ireturn, 1) := by decide +kernel
theorem dX10_readsRule_39 : decode cX10_readsRule 39 = .ok (.aload_n 0, 1) := by decide +kernel
theorem dX10_readsRule_40 : decode cX10_readsRule 40 = .ok (.getfield 236, 3) := by decide +kernel
theorem dX10_readsRule_43 : decode cX10_readsRule 43 = .ok (.bipush 16, 2) := by decide +kernel
theorem dX10_readsRule_45 : decode cX10_readsRule 45 = .ok (.if_icmp .ne 13, 3) := by decide +kernel
theorem dX10_readsRule_48 : decode cX10_readsRule 48 = .ok (.aload_n 0, 1) := by decide +kernel
theorem dX10_readsRule_49 : decode cX10_readsRule 49 = .ok (.iconst 4, 1) := by decide +kernel
theorem dX10_readsRule_50 : decode cX10_readsRule 50 = .ok (.aload_n 0, 1) := by decide +kernel
theorem dX10_readsRule_51 : decode cX10_readsRule 51 = .ok (.getfield 158, 3) := by decide +kernel
theorem dX10_readsRule_54 : decode cX10_readsRule 54 = .ok (.invokevirtual 171, 3) := by decide +kernel
theorem dX10_readsRule_57 : decode cX10_readsRule 57 = .ok (.ireturn, 1) := by decide +kernel
theorem dX10_readsRule_58 : decode cX10_readsRule 58 = .ok (.aload_n 0, 1) := by decide +kernel
theorem dX10_readsRule_59 : decode cX10_readsRule 59 = .ok (.getfield 32, 3) := by decide +kernel
theorem dX10_readsRule_62 : decode cX10_readsRule 62 = .ok (.aload_n 0, 1) := by decide +kernel
theorem dX10_readsRule_63 : decode cX10_readsRule 63 = .ok (.getfield 236, 3) := by decide +kernel
theorem dX10_readsRule_66 : decode cX10_readsRule 66 = .ok (.iload_n 1, 1) := by decide +kernel
theorem dX10_readsRule_67 : decode cX10_readsRule 67 = .ok (.iastore, 1) := by decide +kernel
theorem dX10_readsRule_68 : decode cX10_readsRule 68 = .ok (.aload_n 0, 1) := by decide +kernel
theorem dX10_readsRule_69 : decode cX10_readsRule 69 = .ok (.aload_n 0, 1) := by decide +kernel
theorem dX10_readsRule_70 : decode cX10_readsRule 70 = .ok (.getfield 158, 3) := by decide +kernel
theorem dX10_readsRule_73 : decode cX10_readsRule 73 = .ok (.iconst 1, 1) := by decide +kernel
theorem dX10_readsRule_74 : decode cX10_readsRule 74 = .ok (.iadd, 1) := by decide +kernel
theorem dX10_readsRule_75 : decode cX10_readsRule 75 = .ok (.putfield 158, 3) := by decide +kernel
theorem dX10_readsRule_78 : decode cX10_readsRule 78 = .ok (.aload_n 0, 1) := by decide +kernel
theorem dX10_readsRule_79 : decode cX10_readsRule 79 = .ok (.getfield 35, 3) := by decide +kernel
theorem dX10_readsRule_82 : decode cX10_readsRule 82 = .ok (.aload_n 0, 1) := by decide +kernel
theorem dX10_readsRule_83 : decode cX10_readsRule 83 = .ok (.getfield 236, 3) := by decide +kernel
theorem dX10_readsRule_86 : decode cX10_readsRule 86 = .ok (.aload_n 0, 1) := by decide +kernel
theorem dX10_readsRule_87 : decode cX10_readsRule 87 = .ok (.getfield 181, 3) := by decide +kernel
theorem dX10_readsRule_90 : decode cX10_readsRule 90 = .ok (.iastore, 1) := by decide +kernel
theorem dX10_readsRule_91 : decode cX10_readsRule 91 = .ok (.aload_n 0, 1) := by decide +kernel
theorem dX10_readsRule_92 : decode cX10_readsRule 92 = .ok (.iconst 0, 1) := by decide +kernel
theorem dX10_readsRule_93 : decode cX10_readsRule 93 = .ok (.putfield 185, 3) := by decide +kernel
theorem dX10_readsRule_96 : decode cX10_readsRule 96 = .ok (.aload_n 0, 1) := by decide +kernel
theorem dX10_readsRule_97 : decode cX10_readsRule 97 = .ok (.iconst 0, 1) := by decide +kernel
theorem dX10_readsRule_98 : decode cX10_readsRule 98 = .ok (.putfield 188, 3) := by decide +kernel
theorem dX10_readsRule_101 : decode cX10_readsRule 101 = .ok (.iload_n 1, 1) := by decide +kernel
theorem dX10_readsRule_102 : decode cX10_readsRule 102 = .ok (.bipush 120, 2) := by decide +kernel
theorem dX10_readsRule_104 : decode cX10_readsRule 104 = .ok (.if_icmp .eq 12, 3) := by decide +kernel
theorem dX10_readsRule_107 : decode cX10_readsRule 107 = .ok (.aload_n 0, 1) := by decide +kernel
theorem dX10_readsRule_108 : decode cX10_readsRule 108 = .ok (.invokevirtual 221, 3) := by decide +kernel
theorem dX10_readsRule_111 : decode cX10_readsRule 111 = .ok (.ifCond .ne 5, 3) := by decide +kernel
theorem dX10_readsRule_114 : decode cX10_readsRule 114 = .ok (.iconst 0, 1) := by decide +kernel
theorem dX10_readsRule_115 : decode cX10_readsRule 115 = .ok (.ireturn, 1) := by decide +kernel
theorem dX10_readsRule_116 : decode cX10_readsRule 116 = .ok (.aload_n 0, 1) := by decide +kernel
theorem dX10_readsRule_117 : decode cX10_readsRule 117 = .ok (.getfield 38, 3) := by decide +kernel
theorem dX10_readsRule_120 : decode cX10_readsRule 120 = .ok (.aload_n 0, 1) := by decide +kernel
theorem dX10_readsRule_121 : decode cX10_readsRule 121 = .ok (.getfield 236, 3) := by decide +kernel
theorem dX10_readsRule_124 : decode cX10_readsRule 124 = .ok (.aload_n 0, 1) := by decide +kernel
theorem dX10_readsRule_125 : decode cX10_readsRule 125 = .ok (.getfield 181, 3) := by decide +kernel
theorem dX10_readsRule_128 : decode cX10_readsRule 128 = .ok (.iastore, 1) := by decide +kernel
theorem dX10_readsRule_129 : decode cX10_readsRule 129 = .ok (.aload_n 0, 1) := by decide +kernel
theorem dX10_readsRule_130 : decode cX10_readsRule 130 = .ok (.invokevirtual 239, 3) := by decide +kernel
theorem dX10_readsRule_133 : decode cX10_readsRule 133 = .ok (.ifCond .ne 5, 3) := by decide +kernel
theorem dX10_readsRule_136 : decode cX10_readsRule 136 = .ok (.iconst 0, 1) := by decide +kernel
theorem dX10_readsRule_137 : decode cX10_readsRule 137 = .ok (.ireturn, 1) := by decide +kernel
theorem dX10_readsRule_138 : decode cX10_readsRule 138 = .ok (.aload_n 0, 1) := by decide +kernel
theorem dX10_readsRule_139 : decode cX10_readsRule 139 = .ok (.getfield 41, 3) := by decide +kernel
theorem dX10_readsRule_142 : decode cX10_readsRule 142 = .ok (.aload_n 0, 1) := by decide +kernel
theorem dX10_readsRule_143 : decode cX10_readsRule 143 = .ok (.getfield 236, 3) := by decide +kernel
theorem dX10_readsRule_146 : decode cX10_readsRule 146 = .ok (.aload_n 0, 1) := by decide +kernel
theorem dX10_readsRule_147 : decode cX10_readsRule 147 = .ok (.getfield 181, 3) := by decide +kernel
theorem dX10_readsRule_150 : decode cX10_readsRule 150 = .ok (.iastore, 1) := by decide +kernel
theorem dX10_readsRule_151 : decode cX10_readsRule 151 = .ok (.aload_n 0, 1) := by decide +kernel
theorem dX10_readsRule_152 : decode cX10_readsRule 152 = .ok (.aload_n 0, 1) := by decide +kernel
theorem dX10_readsRule_153 : decode cX10_readsRule 153 = .ok (.getfield 236, 3) := by decide +kernel
theorem dX10_readsRule_156 : decode cX10_readsRule 156 = .ok (.iconst 1, 1) := by decide +kernel
theorem dX10_readsRule_157 : decode cX10_readsRule 157 = .ok (.iadd, 1) := by decide +kernel
theorem dX10_readsRule_158 : decode cX10_readsRule 158 = .ok (.putfield 236, 3) := by decide +kernel
theorem dX10_readsRule_161 : decode cX10_readsRule 161 = .ok (.iconst 1, 1) := by decide +kernel
theorem dX10_readsRule_162 : decode cX10_readsRule 162 = .ok (.ireturn, 1) := by decide +kernel
theorem dX10_beginsText_0 : decode cX10_beginsText 0 = .ok (.aload_n 0, 1) := by decide +kernel
theorem dX10_beginsText_1 : decode cX10_beginsText 1 = .ok (.iconst 0, 1) := by decide +kernel
theorem dX10_beginsText_2 : decode cX10_beginsText 2 = .ok (.putfield 158, 3) := by decide +kernel
theorem dX10_beginsText_5 : decode cX10_beginsText 5 = .ok (.aload_n 0, 1) := by decide +kernel
theorem dX10_beginsText_6 : decode cX10_beginsText 6 = .ok (.iload_n 1, 1) := by decide +kernel
theorem dX10_beginsText_7 : decode cX10_beginsText 7 = .ok (.putfield 161, 3) := by decide +kernel
theorem dX10_beginsText_10 : decode cX10_beginsText 10 = .ok (.aload_n 0, 1) := by decide +kernel
theorem dX10_beginsText_11 : decode cX10_beginsText 11 = .ok (.iconst 0, 1) := by decide +kernel
theorem dX10_beginsText_12 : decode cX10_beginsText 12 = .ok (.putfield 181, 3) := by decide +kernel
theorem dX10_beginsText_15 : decode cX10_beginsText 15 = .ok (.aload_n 0, 1) := by decide +kernel
theorem dX10_beginsText_16 : decode cX10_beginsText 16 = .ok (.iconst 0, 1) := by decide +kernel
theorem dX10_beginsText_17 : decode cX10_beginsText 17 = .ok (.putfield 236, 3) := by decide +kernel
theorem dX10_beginsText_20 : decode cX10_beginsText 20 = .ok (.return_, 1) := by decide +kernel
theorem dX10_law_0 : decode cX10_law 0 = .ok (.iload_n 1, 1) := by decide +kernel
theorem dX10_law_1 : decode cX10_law 1 = .ok (.iconst 1, 1) := by decide +kernel
theorem dX10_law_2 : decode cX10_law 2 = .ok (.sipush 240, 3) := by decide +kernel
theorem dX10_law_5 : decode cX10_law 5 = .ok (.invokestatic 134, 3) := by decide +kernel
theorem dX10_law_8 : decode cX10_law 8 = .ok (.ifCond .eq 11, 3) := by decide +kernel
theorem dX10_law_11 : decode cX10_law 11 = .ok (.iload_n 1, 1) := by decide +kernel
theorem dX10_law_12 : decode cX10_law 12 = .ok (.aload_n 0, 1) := by decide +kernel
theorem dX10_law_13 : decode cX10_law 13 = .ok (.getfield 150, 3) := by decide +kernel
theorem dX10_law_16 : decode cX10_law 16 = .ok (.if_icmp .le 5, 3) := by decide +kernel
theorem dX10_law_19 : decode cX10_law 19 = .ok (.iconst (-1), 1) := by decide +kernel
theorem dX10_law_20 : decode cX10_law 20 = .ok (.ireturn, 1) := by decide +kernel
theorem dX10_law_21 : decode cX10_law 21 = .ok (.aload_n 0, 1) := by decide +kernel
theorem dX10_law_22 : decode cX10_law 22 = .ok (.iload_n 1, 1) := by decide +kernel
theorem dX10_law_23 : decode cX10_law 23 = .ok (.invokevirtual 242, 3) := by decide +kernel
theorem dX10_law_26 : decode cX10_law 26 = .ok (.aload_n 0, 1) := by decide +kernel
theorem dX10_law_27 : decode cX10_law 27 = .ok (.invokevirtual 245, 3) := by decide +kernel
theorem dX10_law_30 : decode cX10_law 30 = .ok (.istore_n 2, 1) := by decide +kernel
theorem dX10_law_31 : decode cX10_law 31 = .ok (.iload_n 2, 1) := by decide +kernel
theorem dX10_law_32 : decode cX10_law 32 = .ok (.ifCond .eq 39, 3) := by decide +kernel
theorem dX10_law_35 : decode cX10_law 35 = .ok (.aload_n 0, 1) := by decide +kernel
theorem dX10_law_36 : decode cX10_law 36 = .ok (.getfield 158, 3) := by decide +kernel
theorem dX10_law_39 : decode cX10_law 39 = .ok (.aload_n 0, 1) := by decide +kernel
theorem dX10_law_40 : decode cX10_law 40 = .ok (.getfield 161, 3) := by decide +kernel
theorem dX10_law_43 : decode cX10_law 43 = .ok (.if_icmp .ge 28, 3) := by decide +kernel
theorem dX10_law_46 : decode cX10_law 46 = .ok (.aload_n 0, 1) := by decide +kernel
theorem dX10_law_47 : decode cX10_law 47 = .ok (.bipush 59, 2) := by decide +kernel
theorem dX10_law_49 : decode cX10_law 49 = .ok (.invokevirtual 248, 3) := by decide +kernel
theorem dX10_law_52 : decode cX10_law 52 = .ok (.ifCond .eq 14, 3) := by decide +kernel
theorem dX10_law_55 : decode cX10_law 55 = .ok (.aload_n 0, 1) := by decide +kernel
theorem dX10_law_56 : decode cX10_law 56 = .ok (.invokevirtual 245, 3) := by decide +kernel
theorem dX10_law_59 : decode cX10_law 59 = .ok (.ifCond .eq 7, 3) := by decide +kernel
theorem dX10_law_62 : decode cX10_law 62 = .ok (.iconst 1, 1) := by decide +kernel
theorem dX10_law_63 : decode cX10_law 63 = .ok (.goto 4, 3) := by decide +kernel
theorem dX10_law_66 : decode cX10_law 66 = .ok (.iconst 0, 1) := by decide +kernel
theorem dX10_law_67 : decode cX10_law 67 = .ok (.istore_n 2, 1) := by decide +kernel
theorem dX10_law_68 : decode cX10_law 68 = .ok (.goto (-37), 3) := by decide +kernel
theorem dX10_law_71 : decode cX10_law 71 = .ok (.aload_n 0, 1) := by decide +kernel
theorem dX10_law_72 : decode cX10_law 72 = .ok (.iconst 0, 1) := by decide +kernel
theorem dX10_law_73 : decode cX10_law 73 = .ok (.putfield 150, 3) := by decide +kernel
theorem dX10_law_76 : decode cX10_law 76 = .ok (.iload_n 2, 1) := by decide +kernel
theorem dX10_law_77 : decode cX10_law 77 = .ok (.ifCond .ne 8, 3) := by decide +kernel
theorem dX10_law_80 : decode cX10_law 80 = .ok (.aload_n 0, 1) := by decide +kernel
theorem dX10_law_81 : decode cX10_law 81 = .ok (.getfield 168, 3) := by decide +kernel
theorem dX10_law_84 : decode cX10_law 84 = .ok (.ireturn, 1) := by decide +kernel
theorem dX10_law_85 : decode cX10_law 85 = .ok (.aload_n 0, 1) := by decide +kernel
theorem dX10_law_86 : decode cX10_law 86 = .ok (.aload_n 0, 1) := by decide +kernel
theorem dX10_law_87 : decode cX10_law 87 = .ok (.getfield 236, 3) := by decide +kernel
theorem dX10_law_90 : decode cX10_law 90 = .ok (.putfield 251, 3) := by decide +kernel
theorem dX10_law_93 : decode cX10_law 93 = .ok (.iconst 0, 1) := by decide +kernel
theorem dX10_law_94 : decode cX10_law 94 = .ok (.istore_n 3, 1) := by decide +kernel
theorem dX10_law_95 : decode cX10_law 95 = .ok (.iload_n 3, 1) := by decide +kernel
theorem dX10_law_96 : decode cX10_law 96 = .ok (.aload_n 0, 1) := by decide +kernel
theorem dX10_law_97 : decode cX10_law 97 = .ok (.getfield 181, 3) := by decide +kernel
theorem dX10_law_100 : decode cX10_law 100 = .ok (.if_icmp .ge 21, 3) := by decide +kernel
theorem dX10_law_103 : decode cX10_law 103 = .ok (.aload_n 0, 1) := by decide +kernel
theorem dX10_law_104 : decode cX10_law 104 = .ok (.getfield 44, 3) := by decide +kernel
theorem dX10_law_107 : decode cX10_law 107 = .ok (.iload_n 3, 1) := by decide +kernel
theorem dX10_law_108 : decode cX10_law 108 = .ok (.aload_n 0, 1) := by decide +kernel
theorem dX10_law_109 : decode cX10_law 109 = .ok (.getfield 26, 3) := by decide +kernel
theorem dX10_law_112 : decode cX10_law 112 = .ok (.iload_n 3, 1) := by decide +kernel
theorem dX10_law_113 : decode cX10_law 113 = .ok (.iaload, 1) := by decide +kernel
theorem dX10_law_114 : decode cX10_law 114 = .ok (.iastore, 1) := by decide +kernel
theorem dX10_law_115 : decode cX10_law 115 = .ok (.iinc 3 1, 3) := by decide +kernel
theorem dX10_law_118 : decode cX10_law 118 = .ok (.goto (-23), 3) := by decide +kernel
theorem dX10_law_121 : decode cX10_law 121 = .ok (.iconst 0, 1) := by decide +kernel
theorem dX10_law_122 : decode cX10_law 122 = .ok (.istore_n 3, 1) := by decide +kernel
theorem dX10_law_123 : decode cX10_law 123 = .ok (.iload_n 3, 1) := by decide +kernel
theorem dX10_law_124 : decode cX10_law 124 = .ok (.aload_n 0, 1) := by decide +kernel
theorem dX10_law_125 : decode cX10_law 125 = .ok (.getfield 236, 3) := by decide +kernel
theorem dX10_law_128 : decode cX10_law 128 = .ok (.if_icmp .ge 57, 3) := by decide +kernel
theorem dX10_law_131 : decode cX10_law 131 = .ok (.aload_n 0, 1) := by decide +kernel
theorem dX10_law_132 : decode cX10_law 132 = .ok (.getfield 47, 3) := by decide +kernel
theorem dX10_law_135 : decode cX10_law 135 = .ok (.iload_n 3, 1) := by decide +kernel
theorem dX10_law_136 : decode cX10_law 136 = .ok (.aload_n 0, 1) := by decide +kernel
theorem dX10_law_137 : decode cX10_law 137 = .ok (.getfield 32, 3) := by decide +kernel
theorem dX10_law_140 : decode cX10_law 140 = .ok (.iload_n 3, 1) := by decide +kernel
theorem dX10_law_141 : decode cX10_law 141 = .ok (.iaload, 1) := by decide +kernel
theorem dX10_law_142 : decode cX10_law 142 = .ok (.iastore, 1) := by decide +kernel
theorem dX10_law_143 : decode cX10_law 143 = .ok (.aload_n 0, 1) := by decide +kernel
theorem dX10_law_144 : decode cX10_law 144 = .ok (.getfield 50, 3) := by decide +kernel
theorem dX10_law_147 : decode cX10_law 147 = .ok (.iload_n 3, 1) := by decide +kernel
theorem dX10_law_148 : decode cX10_law 148 = .ok (.aload_n 0, 1) := by decide +kernel
theorem dX10_law_149 : decode cX10_law 149 = .ok (.getfield 35, 3) := by decide +kernel
theorem dX10_law_152 : decode cX10_law 152 = .ok (.iload_n 3, 1) := by decide +kernel
theorem dX10_law_153 : decode cX10_law 153 = .ok (.iaload, 1) := by decide +kernel
theorem dX10_law_154 : decode cX10_law 154 = .ok (.iastore, 1) := by decide +kernel
theorem dX10_law_155 : decode cX10_law 155 = .ok (.aload_n 0, 1) := by decide +kernel
theorem dX10_law_156 : decode cX10_law 156 = .ok (.getfield 53, 3) := by decide +kernel
theorem dX10_law_159 : decode cX10_law 159 = .ok (.iload_n 3, 1) := by decide +kernel
theorem dX10_law_160 : decode cX10_law 160 = .ok (.aload_n 0, 1) := by decide +kernel
theorem dX10_law_161 : decode cX10_law 161 = .ok (.getfield 38, 3) := by decide +kernel
theorem dX10_law_164 : decode cX10_law 164 = .ok (.iload_n 3, 1) := by decide +kernel
theorem dX10_law_165 : decode cX10_law 165 = .ok (.iaload, 1) := by decide +kernel
theorem dX10_law_166 : decode cX10_law 166 = .ok (.iastore, 1) := by decide +kernel
theorem dX10_law_167 : decode cX10_law 167 = .ok (.aload_n 0, 1) := by decide +kernel
theorem dX10_law_168 : decode cX10_law 168 = .ok (.getfield 56, 3) := by decide +kernel
theorem dX10_law_171 : decode cX10_law 171 = .ok (.iload_n 3, 1) := by decide +kernel
theorem dX10_law_172 : decode cX10_law 172 = .ok (.aload_n 0, 1) := by decide +kernel
theorem dX10_law_173 : decode cX10_law 173 = .ok (.getfield 41, 3) := by decide +kernel
theorem dX10_law_176 : decode cX10_law 176 = .ok (.iload_n 3, 1) := by decide +kernel
theorem dX10_law_177 : decode cX10_law 177 = .ok (.iaload, 1) := by decide +kernel
theorem dX10_law_178 : decode cX10_law 178 = .ok (.iastore, 1) := by decide +kernel
theorem dX10_law_179 : decode cX10_law 179 = .ok (.iinc 3 1, 3) := by decide +kernel
theorem dX10_law_182 : decode cX10_law 182 = .ok (.goto (-59), 3) := by decide +kernel
theorem dX10_law_185 : decode cX10_law 185 = .ok (.aload_n 0, 1) := by decide +kernel
theorem dX10_law_186 : decode cX10_law 186 = .ok (.getfield 236, 3) := by decide +kernel
theorem dX10_law_189 : decode cX10_law 189 = .ok (.ireturn, 1) := by decide +kernel
theorem dX10_reckon_0 : decode cX10_reckon 0 = .ok (.iload_n 0, 1) := by decide +kernel
theorem dX10_reckon_1 : decode cX10_reckon 1 = .ok (.tableswitch 85 2 8 #[43, 47, 51, 55, 59, 63, 74], 43) := by decide +kernel
theorem dX10_reckon_44 : decode cX10_reckon 44 = .ok (.iload_n 1, 1) := by decide +kernel
theorem dX10_reckon_45 : decode cX10_reckon 45 = .ok (.iload_n 2, 1) := by decide +kernel
theorem dX10_reckon_46 : decode cX10_reckon 46 = .ok (.iadd, 1) := by decide +kernel
theorem dX10_reckon_47 : decode cX10_reckon 47 = .ok (.ireturn, 1) := by decide +kernel
theorem dX10_reckon_48 : decode cX10_reckon 48 = .ok (.iload_n 1, 1) := by decide +kernel
theorem dX10_reckon_49 : decode cX10_reckon 49 = .ok (.iload_n 2, 1) := by decide +kernel
theorem dX10_reckon_50 : decode cX10_reckon 50 = .ok (.isub, 1) := by decide +kernel
theorem dX10_reckon_51 : decode cX10_reckon 51 = .ok (.ireturn, 1) := by decide +kernel
theorem dX10_reckon_52 : decode cX10_reckon 52 = .ok (.iload_n 1, 1) := by decide +kernel
theorem dX10_reckon_53 : decode cX10_reckon 53 = .ok (.iload_n 2, 1) := by decide +kernel
theorem dX10_reckon_54 : decode cX10_reckon 54 = .ok (.imul, 1) := by decide +kernel
theorem dX10_reckon_55 : decode cX10_reckon 55 = .ok (.ireturn, 1) := by decide +kernel
theorem dX10_reckon_56 : decode cX10_reckon 56 = .ok (.iload_n 1, 1) := by decide +kernel
theorem dX10_reckon_57 : decode cX10_reckon 57 = .ok (.iload_n 2, 1) := by decide +kernel
theorem dX10_reckon_58 : decode cX10_reckon 58 = .ok (.idiv, 1) := by decide +kernel
theorem dX10_reckon_59 : decode cX10_reckon 59 = .ok (.ireturn, 1) := by decide +kernel
theorem dX10_reckon_60 : decode cX10_reckon 60 = .ok (.iload_n 1, 1) := by decide +kernel
theorem dX10_reckon_61 : decode cX10_reckon 61 = .ok (.iload_n 2, 1) := by decide +kernel
theorem dX10_reckon_62 : decode cX10_reckon 62 = .ok (.irem, 1) := by decide +kernel
theorem dX10_reckon_63 : decode cX10_reckon 63 = .ok (.ireturn, 1) := by decide +kernel
theorem dX10_reckon_64 : decode cX10_reckon 64 = .ok (.iload_n 1, 1) := by decide +kernel
theorem dX10_reckon_65 : decode cX10_reckon 65 = .ok (.iload_n 2, 1) := by decide +kernel
theorem dX10_reckon_66 : decode cX10_reckon 66 = .ok (.if_icmp .ge 7, 3) := by decide +kernel
theorem dX10_reckon_69 : decode cX10_reckon 69 = .ok (.iconst 1, 1) := by decide +kernel
theorem dX10_reckon_70 : decode cX10_reckon 70 = .ok (.goto 4, 3) := by decide +kernel
theorem dX10_reckon_73 : decode cX10_reckon 73 = .ok (.iconst 0, 1) := by decide +kernel
theorem dX10_reckon_74 : decode cX10_reckon 74 = .ok (.ireturn, 1) := by decide +kernel
theorem dX10_reckon_75 : decode cX10_reckon 75 = .ok (.iload_n 1, 1) := by decide +kernel
theorem dX10_reckon_76 : decode cX10_reckon 76 = .ok (.iload_n 2, 1) := by decide +kernel
theorem dX10_reckon_77 : decode cX10_reckon 77 = .ok (.if_icmp .le 7, 3) := by decide +kernel
theorem dX10_reckon_80 : decode cX10_reckon 80 = .ok (.iconst 1, 1) := by decide +kernel
theorem dX10_reckon_81 : decode cX10_reckon 81 = .ok (.goto 4, 3) := by decide +kernel
theorem dX10_reckon_84 : decode cX10_reckon 84 = .ok (.iconst 0, 1) := by decide +kernel
theorem dX10_reckon_85 : decode cX10_reckon 85 = .ok (.ireturn, 1) := by decide +kernel
theorem dX10_reckon_86 : decode cX10_reckon 86 = .ok (.iload_n 1, 1) := by decide +kernel
theorem dX10_reckon_87 : decode cX10_reckon 87 = .ok (.iload_n 2, 1) := by decide +kernel
theorem dX10_reckon_88 : decode cX10_reckon 88 = .ok (.if_icmp .ne 7, 3) := by decide +kernel
theorem dX10_reckon_91 : decode cX10_reckon 91 = .ok (.iconst 1, 1) := by decide +kernel
theorem dX10_reckon_92 : decode cX10_reckon 92 = .ok (.goto 4, 3) := by decide +kernel
theorem dX10_reckon_95 : decode cX10_reckon 95 = .ok (.iconst 0, 1) := by decide +kernel
theorem dX10_reckon_96 : decode cX10_reckon 96 = .ok (.ireturn, 1) := by decide +kernel
theorem dX10_comesTo_0 : decode cX10_comesTo 0 = .ok (.iconst 0, 1) := by decide +kernel
theorem dX10_comesTo_1 : decode cX10_comesTo 1 = .ok (.istore_n 3, 1) := by decide +kernel
theorem dX10_comesTo_2 : decode cX10_comesTo 2 = .ok (.sipush 260, 3) := by decide +kernel
theorem dX10_comesTo_5 : decode cX10_comesTo 5 = .ok (.iload_n 1, 1) := by decide +kernel
theorem dX10_comesTo_6 : decode cX10_comesTo 6 = .ok (.sipush 260, 3) := by decide +kernel
theorem dX10_comesTo_9 : decode cX10_comesTo 9 = .ok (.idiv, 1) := by decide +kernel
theorem dX10_comesTo_10 : decode cX10_comesTo 10 = .ok (.imul, 1) := by decide +kernel
theorem dX10_comesTo_11 : decode cX10_comesTo 11 = .ok (.istore 4, 2) := by decide +kernel
theorem dX10_comesTo_13 : decode cX10_comesTo 13 = .ok (.iload_n 1, 1) := by decide +kernel
theorem dX10_comesTo_14 : decode cX10_comesTo 14 = .ok (.istore 5, 2) := by decide +kernel
theorem dX10_comesTo_16 : decode cX10_comesTo 16 = .ok (.iload 5, 2) := by decide +kernel
theorem dX10_comesTo_18 : decode cX10_comesTo 18 = .ok (.iload_n 2, 1) := by decide +kernel
theorem dX10_comesTo_19 : decode cX10_comesTo 19 = .ok (.if_icmp .ge 214, 3) := by decide +kernel
theorem dX10_comesTo_22 : decode cX10_comesTo 22 = .ok (.aload_n 0, 1) := by decide +kernel
theorem dX10_comesTo_23 : decode cX10_comesTo 23 = .ok (.getfield 44, 3) := by decide +kernel
theorem dX10_comesTo_26 : decode cX10_comesTo 26 = .ok (.iload 5, 2) := by decide +kernel
theorem dX10_comesTo_28 : decode cX10_comesTo 28 = .ok (.iaload, 1) := by decide +kernel
theorem dX10_comesTo_29 : decode cX10_comesTo 29 = .ok (.ldc 184, 2) := by decide +kernel
theorem dX10_comesTo_31 : decode cX10_comesTo 31 = .ok (.idiv, 1) := by decide +kernel
theorem dX10_comesTo_32 : decode cX10_comesTo 32 = .ok (.istore 6, 2) := by decide +kernel
theorem dX10_comesTo_34 : decode cX10_comesTo 34 = .ok (.aload_n 0, 1) := by decide +kernel
theorem dX10_comesTo_35 : decode cX10_comesTo 35 = .ok (.getfield 44, 3) := by decide +kernel
theorem dX10_comesTo_38 : decode cX10_comesTo 38 = .ok (.iload 5, 2) := by decide +kernel
theorem dX10_comesTo_40 : decode cX10_comesTo 40 = .ok (.iaload, 1) := by decide +kernel
theorem dX10_comesTo_41 : decode cX10_comesTo 41 = .ok (.ldc 184, 2) := by decide +kernel
theorem dX10_comesTo_43 : decode cX10_comesTo 43 = .ok (.irem, 1) := by decide +kernel
theorem dX10_comesTo_44 : decode cX10_comesTo 44 = .ok (.istore 7, 2) := by decide +kernel
theorem dX10_comesTo_46 : decode cX10_comesTo 46 = .ok (.iload 5, 2) := by decide +kernel
theorem dX10_comesTo_48 : decode cX10_comesTo 48 = .ok (.iconst 1, 1) := by decide +kernel
theorem dX10_comesTo_49 : decode cX10_comesTo 49 = .ok (.iadd, 1) := by decide +kernel
theorem dX10_comesTo_50 : decode cX10_comesTo 50 = .ok (.istore 5, 2) := by decide +kernel
theorem dX10_comesTo_52 : decode cX10_comesTo 52 = .ok (.iload 6, 2) := by decide +kernel
theorem dX10_comesTo_54 : decode cX10_comesTo 54 = .ok (.ifCond .eq 9, 3) := by decide +kernel
theorem dX10_comesTo_57 : decode cX10_comesTo 57 = .ok (.iload 6, 2) := by decide +kernel
theorem dX10_comesTo_59 : decode cX10_comesTo 59 = .ok (.iconst 1, 1) := by decide +kernel
theorem dX10_comesTo_60 : decode cX10_comesTo 60 = .ok (.if_icmp .ne 33, 3) := by decide +kernel
theorem dX10_comesTo_63 : decode cX10_comesTo 63 = .ok (.aload_n 0, 1) := by decide +kernel
theorem dX10_comesTo_64 : decode cX10_comesTo 64 = .ok (.getfield 59, 3) := by decide +kernel
theorem dX10_comesTo_67 : decode cX10_comesTo 67 = .ok (.iload_n 3, 1) := by decide +kernel
theorem dX10_comesTo_68 : decode cX10_comesTo 68 = .ok (.iload 6, 2) := by decide +kernel
theorem dX10_comesTo_70 : decode cX10_comesTo 70 = .ok (.ifCond .ne 8, 3) := by decide +kernel
theorem dX10_comesTo_73 : decode cX10_comesTo 73 = .ok (.iload 7, 2) := by decide +kernel
theorem dX10_comesTo_75 : decode cX10_comesTo 75 = .ok (.goto 10, 3) := by decide +kernel
theorem dX10_comesTo_78 : decode cX10_comesTo 78 = .ok (.aload_n 0, 1) := by decide +kernel
theorem dX10_comesTo_79 : decode cX10_comesTo 79 = .ok (.getfield 62, 3) := by decide +kernel
theorem dX10_comesTo_82 : decode cX10_comesTo 82 = .ok (.iload 7, 2) := by decide +kernel
theorem dX10_comesTo_84 : decode cX10_comesTo 84 = .ok (.iaload, 1) := by decide +kernel
theorem dX10_comesTo_85 : decode cX10_comesTo 85 = .ok (.iastore, 1) := by decide +kernel
theorem dX10_comesTo_86 : decode cX10_comesTo 86 = .ok (.iload_n 3, 1) := by decide +kernel
theorem dX10_comesTo_87 : decode cX10_comesTo 87 = .ok (.iconst 1, 1) := by decide +kernel
theorem dX10_comesTo_88 : decode cX10_comesTo 88 = .ok (.iadd, 1) := by decide +kernel
theorem dX10_comesTo_89 : decode cX10_comesTo 89 = .ok (.istore_n 3, 1) := by decide +kernel
theorem dX10_comesTo_90 : decode cX10_comesTo 90 = .ok (.goto 140, 3) := by decide +kernel
theorem dX10_comesTo_93 : decode cX10_comesTo 93 = .ok (.iload 6, 2) := by decide +kernel
theorem dX10_comesTo_95 : decode cX10_comesTo 95 = .ok (.bipush 10, 2) := by decide +kernel
theorem dX10_comesTo_97 : decode cX10_comesTo 97 = .ok (.if_icmp .ne 24, 3) := by decide +kernel
theorem dX10_comesTo_100 : decode cX10_comesTo 100 = .ok (.aload_n 0, 1) := by decide +kernel
theorem dX10_comesTo_101 : decode cX10_comesTo 101 = .ok (.getfield 59, 3) := by decide +kernel
theorem dX10_comesTo_104 : decode cX10_comesTo 104 = .ok (.iload_n 3, 1) := by decide +kernel
theorem dX10_comesTo_105 : decode cX10_comesTo 105 = .ok (.iconst 1, 1) := by decide +kernel
theorem dX10_comesTo_106 : decode cX10_comesTo 106 = .ok (.isub, 1) := by decide +kernel
theorem dX10_comesTo_107 : decode cX10_comesTo 107 = .ok (.iconst 1, 1) := by decide +kernel
theorem dX10_comesTo_108 : decode cX10_comesTo 108 = .ok (.aload_n 0, 1) := by decide +kernel
theorem dX10_comesTo_109 : decode cX10_comesTo 109 = .ok (.getfield 59, 3) := by decide +kernel
theorem dX10_comesTo_112 : decode cX10_comesTo 112 = .ok (.iload_n 3, 1) := by decide +kernel
theorem dX10_comesTo_113 : decode cX10_comesTo 113 = .ok (.iconst 1, 1) := by decide +kernel
theorem dX10_comesTo_114 : decode cX10_comesTo 114 = .ok (.isub, 1) := by decide +kernel
theorem dX10_comesTo_115 : decode cX10_comesTo 115 = .ok (.iaload, 1) := by decide +kernel
theorem dX10_comesTo_116 : decode cX10_comesTo 116 = .ok (.isub, 1) := by decide +kernel
theorem dX10_comesTo_117 : decode cX10_comesTo 117 = .ok (.iastore, 1) := by decide +kernel
theorem dX10_comesTo_118 : decode cX10_comesTo 118 = .ok (.goto 112, 3) := by decide +kernel
theorem dX10_comesTo_121 : decode cX10_comesTo 121 = .ok (.iload 6, 2) := by decide +kernel
theorem dX10_comesTo_123 : decode cX10_comesTo 123 = .ok (.bipush 11, 2) := by decide +kernel
theorem dX10_comesTo_125 : decode cX10_comesTo 125 = .ok (.if_icmp .eq 10, 3) := by decide +kernel
theorem dX10_comesTo_128 : decode cX10_comesTo 128 = .ok (.iload 6, 2) := by decide +kernel
theorem dX10_comesTo_130 : decode cX10_comesTo 130 = .ok (.bipush 12, 2) := by decide +kernel
theorem dX10_comesTo_132 : decode cX10_comesTo 132 = .ok (.if_icmp .ne 43, 3) := by decide +kernel
theorem dX10_comesTo_135 : decode cX10_comesTo 135 = .ok (.aload_n 0, 1) := by decide +kernel
theorem dX10_comesTo_136 : decode cX10_comesTo 136 = .ok (.getfield 59, 3) := by decide +kernel
theorem dX10_comesTo_139 : decode cX10_comesTo 139 = .ok (.iload_n 3, 1) := by decide +kernel
theorem dX10_comesTo_140 : decode cX10_comesTo 140 = .ok (.iconst 1, 1) := by decide +kernel
theorem dX10_comesTo_141 : decode cX10_comesTo 141 = .ok (.isub, 1) := by decide +kernel
theorem dX10_comesTo_142 : decode cX10_comesTo 142 = .ok (.iaload, 1) := by decide +kernel
theorem dX10_comesTo_143 : decode cX10_comesTo 143 = .ok (.iload 6, 2) := by decide +kernel
theorem dX10_comesTo_145 : decode cX10_comesTo 145 = .ok (.bipush 12, 2) := by decide +kernel
theorem dX10_comesTo_147 : decode cX10_comesTo 147 = .ok (.if_icmp .ne 7, 3) := by decide +kernel
theorem dX10_comesTo_150 : decode cX10_comesTo 150 = .ok (.iconst 1, 1) := by decide +kernel
theorem dX10_comesTo_151 : decode cX10_comesTo 151 = .ok (.goto 4, 3) := by decide +kernel
theorem dX10_comesTo_154 : decode cX10_comesTo 154 = .ok (.iconst 0, 1) := by decide +kernel
theorem dX10_comesTo_155 : decode cX10_comesTo 155 = .ok (.if_icmp .ne 13, 3) := by decide +kernel
theorem dX10_comesTo_158 : decode cX10_comesTo 158 = .ok (.iload 4, 2) := by decide +kernel
theorem dX10_comesTo_160 : decode cX10_comesTo 160 = .ok (.iload 7, 2) := by decide +kernel
theorem dX10_comesTo_162 : decode cX10_comesTo 162 = .ok (.iadd, 1) := by decide +kernel
theorem dX10_comesTo_163 : decode cX10_comesTo 163 = .ok (.istore 5, 2) := by decide +kernel
theorem dX10_comesTo_165 : decode cX10_comesTo 165 = .ok (.goto 65, 3) := by decide +kernel
theorem dX10_comesTo_168 : decode cX10_comesTo 168 = .ok (.iload_n 3, 1) := by decide +kernel
theorem dX10_comesTo_169 : decode cX10_comesTo 169 = .ok (.iconst 1, 1) := by decide +kernel
theorem dX10_comesTo_170 : decode cX10_comesTo 170 = .ok (.isub, 1) := by decide +kernel
theorem dX10_comesTo_171 : decode cX10_comesTo 171 = .ok (.istore_n 3, 1) := by decide +kernel
theorem dX10_comesTo_172 : decode cX10_comesTo 172 = .ok (.goto 58, 3) := by decide +kernel
theorem dX10_comesTo_175 : decode cX10_comesTo 175 = .ok (.iload_n 3, 1) := by decide +kernel
theorem dX10_comesTo_176 : decode cX10_comesTo 176 = .ok (.iconst 1, 1) := by decide +kernel
theorem dX10_comesTo_177 : decode cX10_comesTo 177 = .ok (.isub, 1) := by decide +kernel
theorem dX10_comesTo_178 : decode cX10_comesTo 178 = .ok (.istore_n 3, 1) := by decide +kernel
theorem dX10_comesTo_179 : decode cX10_comesTo 179 = .ok (.iload 6, 2) := by decide +kernel
theorem dX10_comesTo_181 : decode cX10_comesTo 181 = .ok (.iconst 5, 1) := by decide +kernel
theorem dX10_comesTo_182 : decode cX10_comesTo 182 = .ok (.if_icmp .eq 10, 3) := by decide +kernel
theorem dX10_comesTo_185 : decode cX10_comesTo 185 = .ok (.iload 6, 2) := by decide +kernel
theorem dX10_comesTo_187 : decode cX10_comesTo 187 = .ok (.bipush 6, 2) := by decide +kernel
theorem dX10_comesTo_189 : decode cX10_comesTo 189 = .ok (.if_icmp .ne 14, 3) := by decide +kernel
theorem dX10_comesTo_192 : decode cX10_comesTo 192 = .ok (.aload_n 0, 1) := by decide +kernel
theorem dX10_comesTo_193 : decode cX10_comesTo 193 = .ok (.getfield 59, 3) := by decide +kernel
theorem dX10_comesTo_196 : decode cX10_comesTo 196 = .ok (.iload_n 3, 1) := by decide +kernel
theorem dX10_comesTo_197 : decode cX10_comesTo 197 = .ok (.iaload, 1) := by decide +kernel
theorem dX10_comesTo_198 : decode cX10_comesTo 198 = .ok (.ifCond .ne 5, 3) := by decide +kernel
theorem dX10_comesTo_201 : decode cX10_comesTo 201 = .ok (.iconst 0, 1) := by decide +kernel
theorem dX10_comesTo_202 : decode cX10_comesTo 202 = .ok (.ireturn, 1) := by decide +kernel
theorem dX10_comesTo_203 : decode cX10_comesTo 203 = .ok (.aload_n 0, 1) := by decide +kernel
theorem dX10_comesTo_204 : decode cX10_comesTo 204 = .ok (.getfield 59, 3) := by decide +kernel
theorem dX10_comesTo_207 : decode cX10_comesTo 207 = .ok (.iload_n 3, 1) := by decide +kernel
theorem dX10_comesTo_208 : decode cX10_comesTo 208 = .ok (.iconst 1, 1) := by decide +kernel
theorem dX10_comesTo_209 : decode cX10_comesTo 209 = .ok (.isub, 1) := by decide +kernel
theorem dX10_comesTo_210 : decode cX10_comesTo 210 = .ok (.iload 6, 2) := by decide +kernel
theorem dX10_comesTo_212 : decode cX10_comesTo 212 = .ok (.aload_n 0, 1) := by decide +kernel
theorem dX10_comesTo_213 : decode cX10_comesTo 213 = .ok (.getfield 59, 3) := by decide +kernel
theorem dX10_comesTo_216 : decode cX10_comesTo 216 = .ok (.iload_n 3, 1) := by decide +kernel
theorem dX10_comesTo_217 : decode cX10_comesTo 217 = .ok (.iconst 1, 1) := by decide +kernel
theorem dX10_comesTo_218 : decode cX10_comesTo 218 = .ok (.isub, 1) := by decide +kernel
theorem dX10_comesTo_219 : decode cX10_comesTo 219 = .ok (.iaload, 1) := by decide +kernel
theorem dX10_comesTo_220 : decode cX10_comesTo 220 = .ok (.aload_n 0, 1) := by decide +kernel
theorem dX10_comesTo_221 : decode cX10_comesTo 221 = .ok (.getfield 59, 3) := by decide +kernel
theorem dX10_comesTo_224 : decode cX10_comesTo 224 = .ok (.iload_n 3, 1) := by decide +kernel
theorem dX10_comesTo_225 : decode cX10_comesTo 225 = .ok (.iaload, 1) := by decide +kernel
theorem dX10_comesTo_226 : decode cX10_comesTo 226 = .ok (.invokestatic 254, 3) := by decide +kernel
theorem dX10_comesTo_229 : decode cX10_comesTo 229 = .ok (.iastore, 1) := by decide +kernel
theorem dX10_comesTo_230 : decode cX10_comesTo 230 = .ok (.goto (-214), 3) := by decide +kernel
theorem dX10_comesTo_233 : decode cX10_comesTo 233 = .ok (.aload_n 0, 1) := by decide +kernel
theorem dX10_comesTo_234 : decode cX10_comesTo 234 = .ok (.getfield 59, 3) := by decide +kernel
theorem dX10_comesTo_237 : decode cX10_comesTo 237 = .ok (.iconst 0, 1) := by decide +kernel
theorem dX10_comesTo_238 : decode cX10_comesTo 238 = .ok (.iaload, 1) := by decide +kernel
theorem dX10_comesTo_239 : decode cX10_comesTo 239 = .ok (.ireturn, 1) := by decide +kernel
theorem dX10_byLaw_0 : decode cX10_byLaw 0 = .ok (.iconst 0, 1) := by decide +kernel
theorem dX10_byLaw_1 : decode cX10_byLaw 1 = .ok (.istore_n 3, 1) := by decide +kernel
theorem dX10_byLaw_2 : decode cX10_byLaw 2 = .ok (.iload_n 3, 1) := by decide +kernel
theorem dX10_byLaw_3 : decode cX10_byLaw 3 = .ok (.aload_n 0, 1) := by decide +kernel
theorem dX10_byLaw_4 : decode cX10_byLaw 4 = .ok (.getfield 251, 3) := by decide +kernel
theorem dX10_byLaw_7 : decode cX10_byLaw 7 = .ok (.if_icmp .ge 82, 3) := by decide +kernel
theorem dX10_byLaw_10 : decode cX10_byLaw 10 = .ok (.aload_n 0, 1) := by decide +kernel
theorem dX10_byLaw_11 : decode cX10_byLaw 11 = .ok (.getfield 47, 3) := by decide +kernel
theorem dX10_byLaw_14 : decode cX10_byLaw 14 = .ok (.iload_n 3, 1) := by decide +kernel
theorem dX10_byLaw_15 : decode cX10_byLaw 15 = .ok (.iaload, 1) := by decide +kernel
theorem dX10_byLaw_16 : decode cX10_byLaw 16 = .ok (.iload_n 1, 1) := by decide +kernel
theorem dX10_byLaw_17 : decode cX10_byLaw 17 = .ok (.if_icmp .ne 66, 3) := by decide +kernel
theorem dX10_byLaw_20 : decode cX10_byLaw 20 = .ok (.aload_n 0, 1) := by decide +kernel
theorem dX10_byLaw_21 : decode cX10_byLaw 21 = .ok (.aload_n 0, 1) := by decide +kernel
theorem dX10_byLaw_22 : decode cX10_byLaw 22 = .ok (.getfield 53, 3) := by decide +kernel
theorem dX10_byLaw_25 : decode cX10_byLaw 25 = .ok (.iload_n 3, 1) := by decide +kernel
theorem dX10_byLaw_26 : decode cX10_byLaw 26 = .ok (.iaload, 1) := by decide +kernel
theorem dX10_byLaw_27 : decode cX10_byLaw 27 = .ok (.aload_n 0, 1) := by decide +kernel
theorem dX10_byLaw_28 : decode cX10_byLaw 28 = .ok (.getfield 56, 3) := by decide +kernel
theorem dX10_byLaw_31 : decode cX10_byLaw 31 = .ok (.iload_n 3, 1) := by decide +kernel
theorem dX10_byLaw_32 : decode cX10_byLaw 32 = .ok (.iaload, 1) := by decide +kernel
theorem dX10_byLaw_33 : decode cX10_byLaw 33 = .ok (.invokevirtual 258, 3) := by decide +kernel
theorem dX10_byLaw_36 : decode cX10_byLaw 36 = .ok (.iconst 1, 1) := by decide +kernel
theorem dX10_byLaw_37 : decode cX10_byLaw 37 = .ok (.if_icmp .eq 6, 3) := by decide +kernel
theorem dX10_byLaw_40 : decode cX10_byLaw 40 = .ok (.goto 43, 3) := by decide +kernel
theorem dX10_byLaw_43 : decode cX10_byLaw 43 = .ok (.aload_n 0, 1) := by decide +kernel
theorem dX10_byLaw_44 : decode cX10_byLaw 44 = .ok (.aload_n 0, 1) := by decide +kernel
theorem dX10_byLaw_45 : decode cX10_byLaw 45 = .ok (.getfield 50, 3) := by decide +kernel
theorem dX10_byLaw_48 : decode cX10_byLaw 48 = .ok (.iload_n 3, 1) := by decide +kernel
theorem dX10_byLaw_49 : decode cX10_byLaw 49 = .ok (.iaload, 1) := by decide +kernel
theorem dX10_byLaw_50 : decode cX10_byLaw 50 = .ok (.aload_n 0, 1) := by decide +kernel
theorem dX10_byLaw_51 : decode cX10_byLaw 51 = .ok (.getfield 53, 3) := by decide +kernel
theorem dX10_byLaw_54 : decode cX10_byLaw 54 = .ok (.iload_n 3, 1) := by decide +kernel
theorem dX10_byLaw_55 : decode cX10_byLaw 55 = .ok (.iaload, 1) := by decide +kernel
theorem dX10_byLaw_56 : decode cX10_byLaw 56 = .ok (.invokevirtual 258, 3) := by decide +kernel
theorem dX10_byLaw_59 : decode cX10_byLaw 59 = .ok (.istore 4, 2) := by decide +kernel
theorem dX10_byLaw_61 : decode cX10_byLaw 61 = .ok (.iload 4, 2) := by decide +kernel
theorem dX10_byLaw_63 : decode cX10_byLaw 63 = .ok (.ifCond .ge 7, 3) := by decide +kernel
theorem dX10_byLaw_66 : decode cX10_byLaw 66 = .ok (.iconst 0, 1) := by decide +kernel
theorem dX10_byLaw_67 : decode cX10_byLaw 67 = .ok (.goto 15, 3) := by decide +kernel
theorem dX10_byLaw_70 : decode cX10_byLaw 70 = .ok (.iload 4, 2) := by decide +kernel
theorem dX10_byLaw_72 : decode cX10_byLaw 72 = .ok (.iload_n 2, 1) := by decide +kernel
theorem dX10_byLaw_73 : decode cX10_byLaw 73 = .ok (.if_icmp .le 7, 3) := by decide +kernel
theorem dX10_byLaw_76 : decode cX10_byLaw 76 = .ok (.iload_n 2, 1) := by decide +kernel
theorem dX10_byLaw_77 : decode cX10_byLaw 77 = .ok (.goto 5, 3) := by decide +kernel
theorem dX10_byLaw_80 : decode cX10_byLaw 80 = .ok (.iload 4, 2) := by decide +kernel
theorem dX10_byLaw_82 : decode cX10_byLaw 82 = .ok (.ireturn, 1) := by decide +kernel
theorem dX10_byLaw_83 : decode cX10_byLaw 83 = .ok (.iinc 3 1, 3) := by decide +kernel
theorem dX10_byLaw_86 : decode cX10_byLaw 86 = .ok (.goto (-84), 3) := by decide +kernel
theorem dX10_byLaw_89 : decode cX10_byLaw 89 = .ok (.iconst 0, 1) := by decide +kernel
theorem dX10_byLaw_90 : decode cX10_byLaw 90 = .ok (.ireturn, 1) := by decide +kernel
theorem dX10_holdsAny_0 : decode cX10_holdsAny 0 = .ok (.iconst 0, 1) := by decide +kernel
theorem dX10_holdsAny_1 : decode cX10_holdsAny 1 = .ok (.istore_n 2, 1) := by decide +kernel
theorem dX10_holdsAny_2 : decode cX10_holdsAny 2 = .ok (.iload_n 2, 1) := by decide +kernel
theorem dX10_holdsAny_3 : decode cX10_holdsAny 3 = .ok (.aload_n 0, 1) := by decide +kernel
theorem dX10_holdsAny_4 : decode cX10_holdsAny 4 = .ok (.getfield 251, 3) := by decide +kernel
theorem dX10_holdsAny_7 : decode cX10_holdsAny 7 = .ok (.if_icmp .ge 41, 3) := by decide +kernel
theorem dX10_holdsAny_10 : decode cX10_holdsAny 10 = .ok (.aload_n 0, 1) := by decide +kernel
theorem dX10_holdsAny_11 : decode cX10_holdsAny 11 = .ok (.getfield 47, 3) := by decide +kernel
theorem dX10_holdsAny_14 : decode cX10_holdsAny 14 = .ok (.iload_n 2, 1) := by decide +kernel
theorem dX10_holdsAny_15 : decode cX10_holdsAny 15 = .ok (.iaload, 1) := by decide +kernel
theorem dX10_holdsAny_16 : decode cX10_holdsAny 16 = .ok (.iload_n 1, 1) := by decide +kernel
theorem dX10_holdsAny_17 : decode cX10_holdsAny 17 = .ok (.if_icmp .ne 25, 3) := by decide +kernel
theorem dX10_holdsAny_20 : decode cX10_holdsAny 20 = .ok (.aload_n 0, 1) := by decide +kernel
theorem dX10_holdsAny_21 : decode cX10_holdsAny 21 = .ok (.aload_n 0, 1) := by decide +kernel
theorem dX10_holdsAny_22 : decode cX10_holdsAny 22 = .ok (.getfield 53, 3) := by decide +kernel
theorem dX10_holdsAny_25 : decode cX10_holdsAny 25 = .ok (.iload_n 2, 1) := by decide +kernel
theorem dX10_holdsAny_26 : decode cX10_holdsAny 26 = .ok (.iaload, 1) := by decide +kernel
theorem dX10_holdsAny_27 : decode cX10_holdsAny 27 = .ok (.aload_n 0, 1) := by decide +kernel
theorem dX10_holdsAny_28 : decode cX10_holdsAny 28 = .ok (.getfield 56, 3) := by decide +kernel
theorem dX10_holdsAny_31 : decode cX10_holdsAny 31 = .ok (.iload_n 2, 1) := by decide +kernel
theorem dX10_holdsAny_32 : decode cX10_holdsAny 32 = .ok (.iaload, 1) := by decide +kernel
theorem dX10_holdsAny_33 : decode cX10_holdsAny 33 = .ok (.invokevirtual 258, 3) := by decide +kernel
theorem dX10_holdsAny_36 : decode cX10_holdsAny 36 = .ok (.iconst 1, 1) := by decide +kernel
theorem dX10_holdsAny_37 : decode cX10_holdsAny 37 = .ok (.if_icmp .ne 5, 3) := by decide +kernel
theorem dX10_holdsAny_40 : decode cX10_holdsAny 40 = .ok (.iconst 1, 1) := by decide +kernel
theorem dX10_holdsAny_41 : decode cX10_holdsAny 41 = .ok (.ireturn, 1) := by decide +kernel
theorem dX10_holdsAny_42 : decode cX10_holdsAny 42 = .ok (.iinc 2 1, 3) := by decide +kernel
theorem dX10_holdsAny_45 : decode cX10_holdsAny 45 = .ok (.goto (-43), 3) := by decide +kernel
theorem dX10_holdsAny_48 : decode cX10_holdsAny 48 = .ok (.iconst 0, 1) := by decide +kernel
theorem dX10_holdsAny_49 : decode cX10_holdsAny 49 = .ok (.ireturn, 1) := by decide +kernel
theorem dX10_feels_0 : decode cX10_feels 0 = .ok (.aload_n 0, 1) := by decide +kernel
theorem dX10_feels_1 : decode cX10_feels 1 = .ok (.getfield 62, 3) := by decide +kernel
theorem dX10_feels_4 : decode cX10_feels 4 = .ok (.iconst 0, 1) := by decide +kernel
theorem dX10_feels_5 : decode cX10_feels 5 = .ok (.iload_n 1, 1) := by decide +kernel
theorem dX10_feels_6 : decode cX10_feels 6 = .ok (.iastore, 1) := by decide +kernel
theorem dX10_feels_7 : decode cX10_feels 7 = .ok (.aload_n 0, 1) := by decide +kernel
theorem dX10_feels_8 : decode cX10_feels 8 = .ok (.getfield 62, 3) := by decide +kernel
theorem dX10_feels_11 : decode cX10_feels 11 = .ok (.iconst 1, 1) := by decide +kernel
theorem dX10_feels_12 : decode cX10_feels 12 = .ok (.aload_n 0, 1) := by decide +kernel
