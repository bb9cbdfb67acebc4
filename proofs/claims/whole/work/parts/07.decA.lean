theorem dX0_init_0 : decode cX0_init 0 = .ok (.aload_n 0, 1) := by decide +kernel
theorem dX0_init_1 : decode cX0_init 1 = .ok (.invokespecial 3, 3) := by decide +kernel
theorem dX0_init_4 : decode cX0_init 4 = .ok (.aload_n 0, 1) := by decide +kernel
theorem dX0_init_5 : decode cX0_init 5 = .ok (.bipush 12, 2) := by decide +kernel
theorem dX0_init_7 : decode cX0_init 7 = .ok (.newarray .int, 2) := by decide +kernel
theorem dX0_init_9 : decode cX0_init 9 = .ok (.putfield 9, 3) := by decide +kernel
theorem dX0_init_12 : decode cX0_init 12 = .ok (.aload_n 0, 1) := by decide +kernel
theorem dX0_init_13 : decode cX0_init 13 = .ok (.bipush 6, 2) := by decide +kernel
theorem dX0_init_15 : decode cX0_init 15 = .ok (.newarray .int, 2) := by decide +kernel
theorem dX0_init_17 : decode cX0_init 17 = .ok (.putfield 15, 3) := by decide +kernel
theorem dX0_init_20 : decode cX0_init 20 = .ok (.aload_n 0, 1) := by decide +kernel
theorem dX0_init_21 : decode cX0_init 21 = .ok (.bipush 6, 2) := by decide +kernel
theorem dX0_init_23 : decode cX0_init 23 = .ok (.newarray .int, 2) := by decide +kernel
theorem dX0_init_25 : decode cX0_init 25 = .ok (.putfield 18, 3) := by decide +kernel
theorem dX0_init_28 : decode cX0_init 28 = .ok (.aload_n 0, 1) := by decide +kernel
theorem dX0_init_29 : decode cX0_init 29 = .ok (.bipush 6, 2) := by decide +kernel
theorem dX0_init_31 : decode cX0_init 31 = .ok (.newarray .int, 2) := by decide +kernel
theorem dX0_init_33 : decode cX0_init 33 = .ok (.putfield 21, 3) := by decide +kernel
theorem dX0_init_36 : decode cX0_init 36 = .ok (.aload_n 0, 1) := by decide +kernel
theorem dX0_init_37 : decode cX0_init 37 = .ok (.bipush 6, 2) := by decide +kernel
theorem dX0_init_39 : decode cX0_init 39 = .ok (.newarray .int, 2) := by decide +kernel
theorem dX0_init_41 : decode cX0_init 41 = .ok (.putfield 24, 3) := by decide +kernel
theorem dX0_init_44 : decode cX0_init 44 = .ok (.aload_n 0, 1) := by decide +kernel
theorem dX0_init_45 : decode cX0_init 45 = .ok (.bipush 6, 2) := by decide +kernel
theorem dX0_init_47 : decode cX0_init 47 = .ok (.newarray .int, 2) := by decide +kernel
theorem dX0_init_49 : decode cX0_init 49 = .ok (.putfield 27, 3) := by decide +kernel
theorem dX0_init_52 : decode cX0_init 52 = .ok (.aload_n 0, 1) := by decide +kernel
theorem dX0_init_53 : decode cX0_init 53 = .ok (.bipush 6, 2) := by decide +kernel
theorem dX0_init_55 : decode cX0_init 55 = .ok (.bipush 12, 2) := by decide +kernel
theorem dX0_init_57 : decode cX0_init 57 = .ok (.multianewarray 30 2, 4) := by decide +kernel
theorem dX0_init_61 : decode cX0_init 61 = .ok (.putfield 32, 3) := by decide +kernel
theorem dX0_init_64 : decode cX0_init 64 = .ok (.aload_n 0, 1) := by decide +kernel
theorem dX0_init_65 : decode cX0_init 65 = .ok (.iconst 3, 1) := by decide +kernel
theorem dX0_init_66 : decode cX0_init 66 = .ok (.newarray .int, 2) := by decide +kernel
theorem dX0_init_68 : decode cX0_init 68 = .ok (.putfield 35, 3) := by decide +kernel
theorem dX0_init_71 : decode cX0_init 71 = .ok (.aload_n 0, 1) := by decide +kernel
theorem dX0_init_72 : decode cX0_init 72 = .ok (.iconst 1, 1) := by decide +kernel
theorem dX0_init_73 : decode cX0_init 73 = .ok (.putfield 38, 3) := by decide +kernel
theorem dX0_init_76 : decode cX0_init 76 = .ok (.return_, 1) := by decide +kernel
theorem dX0_copy_0 : decode cX0_copy 0 = .ok (.aload_n 1, 1) := by decide +kernel
theorem dX0_copy_1 : decode cX0_copy 1 = .ok (.getfield 9, 3) := by decide +kernel
theorem dX0_copy_4 : decode cX0_copy 4 = .ok (.iconst 0, 1) := by decide +kernel
theorem dX0_copy_5 : decode cX0_copy 5 = .ok (.aload_n 0, 1) := by decide +kernel
theorem dX0_copy_6 : decode cX0_copy 6 = .ok (.getfield 9, 3) := by decide +kernel
theorem dX0_copy_9 : decode cX0_copy 9 = .ok (.iconst 0, 1) := by decide +kernel
theorem dX0_copy_10 : decode cX0_copy 10 = .ok (.bipush 12, 2) := by decide +kernel
theorem dX0_copy_12 : decode cX0_copy 12 = .ok (.invokestatic 42, 3) := by decide +kernel
theorem dX0_copy_15 : decode cX0_copy 15 = .ok (.aload_n 1, 1) := by decide +kernel
theorem dX0_copy_16 : decode cX0_copy 16 = .ok (.getfield 15, 3) := by decide +kernel
theorem dX0_copy_19 : decode cX0_copy 19 = .ok (.iconst 0, 1) := by decide +kernel
theorem dX0_copy_20 : decode cX0_copy 20 = .ok (.aload_n 0, 1) := by decide +kernel
theorem dX0_copy_21 : decode cX0_copy 21 = .ok (.getfield 15, 3) := by decide +kernel
theorem dX0_copy_24 : decode cX0_copy 24 = .ok (.iconst 0, 1) := by decide +kernel
theorem dX0_copy_25 : decode cX0_copy 25 = .ok (.bipush 6, 2) := by decide +kernel
theorem dX0_copy_27 : decode cX0_copy 27 = .ok (.invokestatic 42, 3) := by decide +kernel
theorem dX0_copy_30 : decode cX0_copy 30 = .ok (.aload_n 1, 1) := by decide +kernel
theorem dX0_copy_31 : decode cX0_copy 31 = .ok (.getfield 18, 3) := by decide +kernel
theorem dX0_copy_34 : decode cX0_copy 34 = .ok (.iconst 0, 1) := by decide +kernel
theorem dX0_copy_35 : decode cX0_copy 35 = .ok (.aload_n 0, 1) := by decide +kernel
theorem dX0_copy_36 : decode cX0_copy 36 = .ok (.getfield 18, 3) := by decide +kernel
theorem dX0_copy_39 : decode cX0_copy 39 = .ok (.iconst 0, 1) := by decide +kernel
theorem dX0_copy_40 : decode cX0_copy 40 = .ok (.bipush 6, 2) := by decide +kernel
theorem dX0_copy_42 : decode cX0_copy 42 = .ok (.invokestatic 42, 3) := by decide +kernel
theorem dX0_copy_45 : decode cX0_copy 45 = .ok (.aload_n 1, 1) := by decide +kernel
theorem dX0_copy_46 : decode cX0_copy 46 = .ok (.getfield 21, 3) := by decide +kernel
theorem dX0_copy_49 : decode cX0_copy 49 = .ok (.iconst 0, 1) := by decide +kernel
theorem dX0_copy_50 : decode cX0_copy 50 = .ok (.aload_n 0, 1) := by decide +kernel
theorem dX0_copy_51 : decode cX0_copy 51 = .ok (.getfield 21, 3) := by decide +kernel
theorem dX0_copy_54 : decode cX0_copy 54 = .ok (.iconst 0, 1) := by decide +kernel
theorem dX0_copy_55 : decode cX0_copy 55 = .ok (.bipush 6, 2) := by decide +kernel
theorem dX0_copy_57 : decode cX0_copy 57 = .ok (.invokestatic 42, 3) := by decide +kernel
theorem dX0_copy_60 : decode cX0_copy 60 = .ok (.aload_n 1, 1) := by decide +kernel
theorem dX0_copy_61 : decode cX0_copy 61 = .ok (.getfield 24, 3) := by decide +kernel
theorem dX0_copy_64 : decode cX0_copy 64 = .ok (.iconst 0, 1) := by decide +kernel
theorem dX0_copy_65 : decode cX0_copy 65 = .ok (.aload_n 0, 1) := by decide +kernel
theorem dX0_copy_66 : decode cX0_copy 66 = .ok (.getfield 24, 3) := by decide +kernel
theorem dX0_copy_69 : decode cX0_copy 69 = .ok (.iconst 0, 1) := by decide +kernel
theorem dX0_copy_70 : decode cX0_copy 70 = .ok (.bipush 6, 2) := by decide +kernel
theorem dX0_copy_72 : decode cX0_copy 72 = .ok (.invokestatic 42, 3) := by decide +kernel
theorem dX0_copy_75 : decode cX0_copy 75 = .ok (.aload_n 1, 1) := by decide +kernel
theorem dX0_copy_76 : decode cX0_copy 76 = .ok (.getfield 27, 3) := by decide +kernel
theorem dX0_copy_79 : decode cX0_copy 79 = .ok (.iconst 0, 1) := by decide +kernel
theorem dX0_copy_80 : decode cX0_copy 80 = .ok (.aload_n 0, 1) := by decide +kernel
theorem dX0_copy_81 : decode cX0_copy 81 = .ok (.getfield 27, 3) := by decide +kernel
theorem dX0_copy_84 : decode cX0_copy 84 = .ok (.iconst 0, 1) := by decide +kernel
theorem dX0_copy_85 : decode cX0_copy 85 = .ok (.bipush 6, 2) := by decide +kernel
theorem dX0_copy_87 : decode cX0_copy 87 = .ok (.invokestatic 42, 3) := by decide +kernel
theorem dX0_copy_90 : decode cX0_copy 90 = .ok (.aload_n 1, 1) := by decide +kernel
theorem dX0_copy_91 : decode cX0_copy 91 = .ok (.getfield 35, 3) := by decide +kernel
theorem dX0_copy_94 : decode cX0_copy 94 = .ok (.iconst 0, 1) := by decide +kernel
theorem dX0_copy_95 : decode cX0_copy 95 = .ok (.aload_n 0, 1) := by decide +kernel
theorem dX0_copy_96 : decode cX0_copy 96 = .ok (.getfield 35, 3) := by decide +kernel
theorem dX0_copy_99 : decode cX0_copy 99 = .ok (.iconst 0, 1) := by decide +kernel
theorem dX0_copy_100 : decode cX0_copy 100 = .ok (.iconst 3, 1) := by decide +kernel
theorem dX0_copy_101 : decode cX0_copy 101 = .ok (.invokestatic 42, 3) := by decide +kernel
theorem dX0_copy_104 : decode cX0_copy 104 = .ok (.iconst 0, 1) := by decide +kernel
theorem dX0_copy_105 : decode cX0_copy 105 = .ok (.istore_n 2, 1) := by decide +kernel
theorem dX0_copy_106 : decode cX0_copy 106 = .ok (.iload_n 2, 1) := by decide +kernel
theorem dX0_copy_107 : decode cX0_copy 107 = .ok (.bipush 6, 2) := by decide +kernel
theorem dX0_copy_109 : decode cX0_copy 109 = .ok (.if_icmp .ge 28, 3) := by decide +kernel
theorem dX0_copy_112 : decode cX0_copy 112 = .ok (.aload_n 1, 1) := by decide +kernel
theorem dX0_copy_113 : decode cX0_copy 113 = .ok (.getfield 32, 3) := by decide +kernel
theorem dX0_copy_116 : decode cX0_copy 116 = .ok (.iload_n 2, 1) := by decide +kernel
theorem dX0_copy_117 : decode cX0_copy 117 = .ok (.aaload, 1) := by decide +kernel
theorem dX0_copy_118 : decode cX0_copy 118 = .ok (.iconst 0, 1) := by decide +kernel
theorem dX0_copy_119 : decode cX0_copy 119 = .ok (.aload_n 0, 1) := by decide +kernel
theorem dX0_copy_120 : decode cX0_copy 120 = .ok (.getfield 32, 3) := by decide +kernel
theorem dX0_copy_123 : decode cX0_copy 123 = .ok (.iload_n 2, 1) := by decide +kernel
theorem dX0_copy_124 : decode cX0_copy 124 = .ok (.aaload, 1) := by decide +kernel
theorem dX0_copy_125 : decode cX0_copy 125 = .ok (.iconst 0, 1) := by decide +kernel
theorem dX0_copy_126 : decode cX0_copy 126 = .ok (.bipush 12, 2) := by decide +kernel
theorem dX0_copy_128 : decode cX0_copy 128 = .ok (.invokestatic 42, 3) := by decide +kernel
theorem dX0_copy_131 : decode cX0_copy 131 = .ok (.iinc 2 1, 3) := by decide +kernel
theorem dX0_copy_134 : decode cX0_copy 134 = .ok (.goto (-28), 3) := by decide +kernel
theorem dX0_copy_137 : decode cX0_copy 137 = .ok (.aload_n 0, 1) := by decide +kernel
theorem dX0_copy_138 : decode cX0_copy 138 = .ok (.aload_n 1, 1) := by decide +kernel
theorem dX0_copy_139 : decode cX0_copy 139 = .ok (.getfield 48, 3) := by decide +kernel
theorem dX0_copy_142 : decode cX0_copy 142 = .ok (.putfield 48, 3) := by decide +kernel
theorem dX0_copy_145 : decode cX0_copy 145 = .ok (.aload_n 0, 1) := by decide +kernel
theorem dX0_copy_146 : decode cX0_copy 146 = .ok (.aload_n 1, 1) := by decide +kernel
theorem dX0_copy_147 : decode cX0_copy 147 = .ok (.getfield 51, 3) := by decide +kernel
theorem dX0_copy_150 : decode cX0_copy 150 = .ok (.putfield 51, 3) := by decide +kernel
theorem dX0_copy_153 : decode cX0_copy 153 = .ok (.aload_n 0, 1) := by decide +kernel
theorem dX0_copy_154 : decode cX0_copy 154 = .ok (.aload_n 1, 1) := by decide +kernel
theorem dX0_copy_155 : decode cX0_copy 155 = .ok (.getfield 54, 3) := by decide +kernel
theorem dX0_copy_158 : decode cX0_copy 158 = .ok (.putfield 54, 3) := by decide +kernel
theorem dX0_copy_161 : decode cX0_copy 161 = .ok (.aload_n 0, 1) := by decide +kernel
theorem dX0_copy_162 : decode cX0_copy 162 = .ok (.aload_n 1, 1) := by decide +kernel
theorem dX0_copy_163 : decode cX0_copy 163 = .ok (.getfield 57, 3) := by decide +kernel
theorem dX0_copy_166 : decode cX0_copy 166 = .ok (.putfield 57, 3) := by decide +kernel
theorem dX0_copy_169 : decode cX0_copy 169 = .ok (.aload_n 0, 1) := by decide +kernel
theorem dX0_copy_170 : decode cX0_copy 170 = .ok (.aload_n 1, 1) := by decide +kernel
theorem dX0_copy_171 : decode cX0_copy 171 = .ok (.getfield 60, 3) := by decide +kernel
theorem dX0_copy_174 : decode cX0_copy 174 = .ok (.putfield 60, 3) := by decide +kernel
theorem dX0_copy_177 : decode cX0_copy 177 = .ok (.aload_n 0, 1) := by decide +kernel
theorem dX0_copy_178 : decode cX0_copy 178 = .ok (.aload_n 1, 1) := by decide +kernel
theorem dX0_copy_179 : decode cX0_copy 179 = .ok (.getfield 38, 3) := by decide +kernel
theorem dX0_copy_182 : decode cX0_copy 182 = .ok (.putfield 38, 3) := by decide +kernel
theorem dX0_copy_185 : decode cX0_copy 185 = .ok (.return_, 1) := by decide +kernel
theorem dX0_isTold_0 : decode cX0_isTold 0 = .ok (.iload_n 1, 1) := by decide +kernel
theorem dX0_isTold_1 : decode cX0_isTold 1 = .ok (.invokestatic 63, 3) := by decide +kernel
theorem dX0_isTold_4 : decode cX0_isTold 4 = .ok (.ifCond .eq 18, 3) := by decide +kernel
theorem dX0_isTold_7 : decode cX0_isTold 7 = .ok (.aload_n 0, 1) := by decide +kernel
theorem dX0_isTold_8 : decode cX0_isTold 8 = .ok (.getfield 48, 3) := by decide +kernel
theorem dX0_isTold_11 : decode cX0_isTold 11 = .ok (.iload_n 1, 1) := by decide +kernel
theorem dX0_isTold_12 : decode cX0_isTold 12 = .ok (.invokestatic 67, 3) := by decide +kernel
theorem dX0_isTold_15 : decode cX0_isTold 15 = .ok (.ifCond .eq 7, 3) := by decide +kernel
theorem dX0_isTold_18 : decode cX0_isTold 18 = .ok (.iconst 1, 1) := by decide +kernel
theorem dX0_isTold_19 : decode cX0_isTold 19 = .ok (.goto 4, 3) := by decide +kernel
theorem dX0_isTold_22 : decode cX0_isTold 22 = .ok (.iconst 0, 1) := by decide +kernel
theorem dX0_isTold_23 : decode cX0_isTold 23 = .ok (.ireturn, 1) := by decide +kernel
theorem dX0_isInForce_0 : decode cX0_isInForce 0 = .ok (.iload_n 1, 1) := by decide +kernel
theorem dX0_isInForce_1 : decode cX0_isInForce 1 = .ok (.invokestatic 63, 3) := by decide +kernel
theorem dX0_isInForce_4 : decode cX0_isInForce 4 = .ok (.ifCond .eq 18, 3) := by decide +kernel
theorem dX0_isInForce_7 : decode cX0_isInForce 7 = .ok (.aload_n 0, 1) := by decide +kernel
theorem dX0_isInForce_8 : decode cX0_isInForce 8 = .ok (.getfield 51, 3) := by decide +kernel
theorem dX0_isInForce_11 : decode cX0_isInForce 11 = .ok (.iload_n 1, 1) := by decide +kernel
theorem dX0_isInForce_12 : decode cX0_isInForce 12 = .ok (.invokestatic 67, 3) := by decide +kernel
theorem dX0_isInForce_15 : decode cX0_isInForce 15 = .ok (.ifCond .eq 7, 3) := by decide +kernel
theorem dX0_isInForce_18 : decode cX0_isInForce 18 = .ok (.iconst 1, 1) := by decide +kernel
theorem dX0_isInForce_19 : decode cX0_isInForce 19 = .ok (.goto 4, 3) := by decide +kernel
theorem dX0_isInForce_22 : decode cX0_isInForce 22 = .ok (.iconst 0, 1) := by decide +kernel
theorem dX0_isInForce_23 : decode cX0_isInForce 23 = .ok (.ireturn, 1) := by decide +kernel
theorem dX0_fundOf_0 : decode cX0_fundOf 0 = .ok (.iload_n 1, 1) := by decide +kernel
theorem dX0_fundOf_1 : decode cX0_fundOf 1 = .ok (.invokestatic 63, 3) := by decide +kernel
theorem dX0_fundOf_4 : decode cX0_fundOf 4 = .ok (.ifCond .eq 12, 3) := by decide +kernel
theorem dX0_fundOf_7 : decode cX0_fundOf 7 = .ok (.aload_n 0, 1) := by decide +kernel
theorem dX0_fundOf_8 : decode cX0_fundOf 8 = .ok (.getfield 21, 3) := by decide +kernel
theorem dX0_fundOf_11 : decode cX0_fundOf 11 = .ok (.iload_n 1, 1) := by decide +kernel
theorem dX0_fundOf_12 : decode cX0_fundOf 12 = .ok (.iaload, 1) := by decide +kernel
theorem dX0_fundOf_13 : decode cX0_fundOf 13 = .ok (.goto 4, 3) := by decide +kernel
theorem dX0_fundOf_16 : decode cX0_fundOf 16 = .ok (.iconst (-1), 1) := by decide +kernel
theorem dX0_fundOf_17 : decode cX0_fundOf 17 = .ok (.ireturn, 1) := by decide +kernel
theorem dX0_begin_0 : decode cX0_begin 0 = .ok (.aload_n 0, 1) := by decide +kernel
theorem dX0_begin_1 : decode cX0_begin 1 = .ok (.dup, 1) := by decide +kernel
theorem dX0_begin_2 : decode cX0_begin 2 = .ok (.getfield 48, 3) := by decide +kernel
theorem dX0_begin_5 : decode cX0_begin 5 = .ok (.iconst 1, 1) := by decide +kernel
theorem dX0_begin_6 : decode cX0_begin 6 = .ok (.iload_n 1, 1) := by decide +kernel
theorem dX0_begin_7 : decode cX0_begin 7 = .ok (.ishl, 1) := by decide +kernel
theorem dX0_begin_8 : decode cX0_begin 8 = .ok (.ior, 1) := by decide +kernel
theorem dX0_begin_9 : decode cX0_begin 9 = .ok (.putfield 48, 3) := by decide +kernel
theorem dX0_begin_12 : decode cX0_begin 12 = .ok (.aload_n 0, 1) := by decide +kernel
theorem dX0_begin_13 : decode cX0_begin 13 = .ok (.dup, 1) := by decide +kernel
theorem dX0_begin_14 : decode cX0_begin 14 = .ok (.getfield 51, 3) := by decide +kernel
theorem dX0_begin_17 : decode cX0_begin 17 = .ok (.iconst 1, 1) := by decide +kernel
theorem dX0_begin_18 : decode cX0_begin 18 = .ok (.iload_n 1, 1) := by decide +kernel
theorem dX0_begin_19 : decode cX0_begin 19 = .ok (.ishl, 1) := by decide +kernel
theorem dX0_begin_20 : decode cX0_begin 20 = .ok (.ior, 1) := by decide +kernel
theorem dX0_begin_21 : decode cX0_begin 21 = .ok (.putfield 51, 3) := by decide +kernel
theorem dX0_begin_24 : decode cX0_begin 24 = .ok (.aload_n 0, 1) := by decide +kernel
theorem dX0_begin_25 : decode cX0_begin 25 = .ok (.getfield 15, 3) := by decide +kernel
theorem dX0_begin_28 : decode cX0_begin 28 = .ok (.iload_n 1, 1) := by decide +kernel
theorem dX0_begin_29 : decode cX0_begin 29 = .ok (.iload_n 2, 1) := by decide +kernel
theorem dX0_begin_30 : decode cX0_begin 30 = .ok (.iastore, 1) := by decide +kernel
theorem dX0_begin_31 : decode cX0_begin 31 = .ok (.aload_n 0, 1) := by decide +kernel
theorem dX0_begin_32 : decode cX0_begin 32 = .ok (.getfield 18, 3) := by decide +kernel
theorem dX0_begin_35 : decode cX0_begin 35 = .ok (.iload_n 1, 1) := by decide +kernel
theorem dX0_begin_36 : decode cX0_begin 36 = .ok (.iload_n 3, 1) := by decide +kernel
theorem dX0_begin_37 : decode cX0_begin 37 = .ok (.iastore, 1) := by decide +kernel
theorem dX0_begin_38 : decode cX0_begin 38 = .ok (.aload_n 0, 1) := by decide +kernel
theorem dX0_begin_39 : decode cX0_begin 39 = .ok (.getfield 21, 3) := by decide +kernel
theorem dX0_begin_42 : decode cX0_begin 42 = .ok (.iload_n 1, 1) := by decide +kernel
theorem dX0_begin_43 : decode cX0_begin 43 = .ok (.iconst 0, 1) := by decide +kernel
theorem dX0_begin_44 : decode cX0_begin 44 = .ok (.iastore, 1) := by decide +kernel
theorem dX0_begin_45 : decode cX0_begin 45 = .ok (.aload_n 0, 1) := by decide +kernel
theorem dX0_begin_46 : decode cX0_begin 46 = .ok (.getfield 24, 3) := by decide +kernel
theorem dX0_begin_49 : decode cX0_begin 49 = .ok (.iload_n 1, 1) := by decide +kernel
theorem dX0_begin_50 : decode cX0_begin 50 = .ok (.iconst 1, 1) := by decide +kernel
theorem dX0_begin_51 : decode cX0_begin 51 = .ok (.iload_n 2, 1) := by decide +kernel
theorem dX0_begin_52 : decode cX0_begin 52 = .ok (.ishl, 1) := by decide +kernel
theorem dX0_begin_53 : decode cX0_begin 53 = .ok (.iastore, 1) := by decide +kernel
theorem dX0_begin_54 : decode cX0_begin 54 = .ok (.aload_n 0, 1) := by decide +kernel
theorem dX0_begin_55 : decode cX0_begin 55 = .ok (.getfield 27, 3) := by decide +kernel
theorem dX0_begin_58 : decode cX0_begin 58 = .ok (.iload_n 1, 1) := by decide +kernel
theorem dX0_begin_59 : decode cX0_begin 59 = .ok (.iconst 0, 1) := by decide +kernel
theorem dX0_begin_60 : decode cX0_begin 60 = .ok (.iastore, 1) := by decide +kernel
theorem dX0_begin_61 : decode cX0_begin 61 = .ok (.aload_n 0, 1) := by decide +kernel
theorem dX0_begin_62 : decode cX0_begin 62 = .ok (.getfield 32, 3) := by decide +kernel
theorem dX0_begin_65 : decode cX0_begin 65 = .ok (.iload_n 1, 1) := by decide +kernel
theorem dX0_begin_66 : decode cX0_begin 66 = .ok (.aaload, 1) := by decide +kernel
theorem dX0_begin_67 : decode cX0_begin 67 = .ok (.iload_n 2, 1) := by decide +kernel
theorem dX0_begin_68 : decode cX0_begin 68 = .ok (.iload_n 3, 1) := by decide +kernel
theorem dX0_begin_69 : decode cX0_begin 69 = .ok (.iastore, 1) := by decide +kernel
theorem dX0_begin_70 : decode cX0_begin 70 = .ok (.return_, 1) := by decide +kernel
theorem dX0_note_0 : decode cX0_note 0 = .ok (.iconst 1, 1) := by decide +kernel
theorem dX0_note_1 : decode cX0_note 1 = .ok (.iload_n 2, 1) := by decide +kernel
theorem dX0_note_2 : decode cX0_note 2 = .ok (.ishl, 1) := by decide +kernel
theorem dX0_note_3 : decode cX0_note 3 = .ok (.istore 5, 2) := by decide +kernel
theorem dX0_note_5 : decode cX0_note 5 = .ok (.iload_n 3, 1) := by decide +kernel
theorem dX0_note_6 : decode cX0_note 6 = .ok (.bipush 58, 2) := by decide +kernel
theorem dX0_note_8 : decode cX0_note 8 = .ok (.if_icmp .ne 27, 3) := by decide +kernel
theorem dX0_note_11 : decode cX0_note 11 = .ok (.aload_n 0, 1) := by decide +kernel
theorem dX0_note_12 : decode cX0_note 12 = .ok (.getfield 24, 3) := by decide +kernel
theorem dX0_note_15 : decode cX0_note 15 = .ok (.iload_n 1, 1) := by decide +kernel
theorem dX0_note_16 : decode cX0_note 16 = .ok (.dup2, 1) := by decide +kernel
theorem dX0_note_17 : decode cX0_note 17 = .ok (.iaload, 1) := by decide +kernel
theorem dX0_note_18 : decode cX0_note 18 = .ok (.iload 5, 2) := by decide +kernel
theorem dX0_note_20 : decode cX0_note 20 = .ok (.ior, 1) := by decide +kernel
theorem dX0_note_21 : decode cX0_note 21 = .ok (.iastore, 1) := by decide +kernel
theorem dX0_note_22 : decode cX0_note 22 = .ok (.aload_n 0, 1) := by decide +kernel
theorem dX0_note_23 : decode cX0_note 23 = .ok (.getfield 32, 3) := by decide +kernel
theorem dX0_note_26 : decode cX0_note 26 = .ok (.iload_n 1, 1) := by decide +kernel
theorem dX0_note_27 : decode cX0_note 27 = .ok (.aaload, 1) := by decide +kernel
theorem dX0_note_28 : decode cX0_note 28 = .ok (.iload_n 2, 1) := by decide +kernel
theorem dX0_note_29 : decode cX0_note 29 = .ok (.iload 4, 2) := by decide +kernel
theorem dX0_note_31 : decode cX0_note 31 = .ok (.iastore, 1) := by decide +kernel
theorem dX0_note_32 : decode cX0_note 32 = .ok (.goto 46, 3) := by decide +kernel
theorem dX0_note_35 : decode cX0_note 35 = .ok (.iload_n 3, 1) := by decide +kernel
theorem dX0_note_36 : decode cX0_note 36 = .ok (.bipush 43, 2) := by decide +kernel
theorem dX0_note_38 : decode cX0_note 38 = .ok (.if_icmp .ne 14, 3) := by decide +kernel
theorem dX0_note_41 : decode cX0_note 41 = .ok (.aload_n 0, 1) := by decide +kernel
theorem dX0_note_42 : decode cX0_note 42 = .ok (.iload_n 1, 1) := by decide +kernel
theorem dX0_note_43 : decode cX0_note 43 = .ok (.iload_n 2, 1) := by decide +kernel
theorem dX0_note_44 : decode cX0_note 44 = .ok (.iload 4, 2) := by decide +kernel
theorem dX0_note_46 : decode cX0_note 46 = .ok (.invokevirtual 71, 3) := by decide +kernel
theorem dX0_note_49 : decode cX0_note 49 = .ok (.goto 29, 3) := by decide +kernel
theorem dX0_note_52 : decode cX0_note 52 = .ok (.aload_n 0, 1) := by decide +kernel
theorem dX0_note_53 : decode cX0_note 53 = .ok (.getfield 24, 3) := by decide +kernel
theorem dX0_note_56 : decode cX0_note 56 = .ok (.iload_n 1, 1) := by decide +kernel
theorem dX0_note_57 : decode cX0_note 57 = .ok (.dup2, 1) := by decide +kernel
theorem dX0_note_58 : decode cX0_note 58 = .ok (.iaload, 1) := by decide +kernel
theorem dX0_note_59 : decode cX0_note 59 = .ok (.iload 5, 2) := by decide +kernel
theorem dX0_note_61 : decode cX0_note 61 = .ok (.iconst (-1), 1) := by decide +kernel
theorem dX0_note_62 : decode cX0_note 62 = .ok (.ixor, 1) := by decide +kernel
theorem dX0_note_63 : decode cX0_note 63 = .ok (.iand, 1) := by decide +kernel
theorem dX0_note_64 : decode cX0_note 64 = .ok (.iastore, 1) := by decide +kernel
theorem dX0_note_65 : decode cX0_note 65 = .ok (.aload_n 0, 1) := by decide +kernel
theorem dX0_note_66 : decode cX0_note 66 = .ok (.getfield 27, 3) := by decide +kernel
theorem dX0_note_69 : decode cX0_note 69 = .ok (.iload_n 1, 1) := by decide +kernel
theorem dX0_note_70 : decode cX0_note 70 = .ok (.dup2, 1) := by decide +kernel
theorem dX0_note_71 : decode cX0_note 71 = .ok (.iaload, 1) := by decide +kernel
theorem dX0_note_72 : decode cX0_note 72 = .ok (.iload 5, 2) := by decide +kernel
theorem dX0_note_74 : decode cX0_note 74 = .ok (.iconst (-1), 1) := by decide +kernel
theorem dX0_note_75 : decode cX0_note 75 = .ok (.ixor, 1) := by decide +kernel
theorem dX0_note_76 : decode cX0_note 76 = .ok (.iand, 1) := by decide +kernel
theorem dX0_note_77 : decode cX0_note 77 = .ok (.iastore, 1) := by decide +kernel
theorem dX0_note_78 : decode cX0_note 78 = .ok (.return_, 1) := by decide +kernel
theorem dX0_give_0 : decode cX0_give 0 = .ok (.iload_n 3, 1) := by decide +kernel
theorem dX0_give_1 : decode cX0_give 1 = .ok (.iconst 2, 1) := by decide +kernel
theorem dX0_give_2 : decode cX0_give 2 = .ok (.imul, 1) := by decide +kernel
theorem dX0_give_3 : decode cX0_give 3 = .ok (.iconst 2, 1) := by decide +kernel
theorem dX0_give_4 : decode cX0_give 4 = .ok (.iadd, 1) := by decide +kernel
theorem dX0_give_5 : decode cX0_give 5 = .ok (.iconst 3, 1) := by decide +kernel
theorem dX0_give_6 : decode cX0_give 6 = .ok (.idiv, 1) := by decide +kernel
theorem dX0_give_7 : decode cX0_give 7 = .ok (.istore 4, 2) := by decide +kernel
theorem dX0_give_9 : decode cX0_give 9 = .ok (.aload_n 0, 1) := by decide +kernel
theorem dX0_give_10 : decode cX0_give 10 = .ok (.getfield 21, 3) := by decide +kernel
theorem dX0_give_13 : decode cX0_give 13 = .ok (.iload_n 1, 1) := by decide +kernel
theorem dX0_give_14 : decode cX0_give 14 = .ok (.ldc 75, 2) := by decide +kernel
theorem dX0_give_16 : decode cX0_give 16 = .ok (.aload_n 0, 1) := by decide +kernel
theorem dX0_give_17 : decode cX0_give 17 = .ok (.getfield 21, 3) := by decide +kernel
theorem dX0_give_20 : decode cX0_give 20 = .ok (.iload_n 1, 1) := by decide +kernel
theorem dX0_give_21 : decode cX0_give 21 = .ok (.iaload, 1) := by decide +kernel
theorem dX0_give_22 : decode cX0_give 22 = .ok (.iload 4, 2) := by decide +kernel
theorem dX0_give_24 : decode cX0_give 24 = .ok (.iadd, 1) := by decide +kernel
theorem dX0_give_25 : decode cX0_give 25 = .ok (.invokestatic 76, 3) := by decide +kernel
theorem dX0_give_28 : decode cX0_give 28 = .ok (.iastore, 1) := by decide +kernel
theorem dX0_give_29 : decode cX0_give 29 = .ok (.aload_n 0, 1) := by decide +kernel
theorem dX0_give_30 : decode cX0_give 30 = .ok (.ldc 75, 2) := by decide +kernel
theorem dX0_give_32 : decode cX0_give 32 = .ok (.aload_n 0, 1) := by decide +kernel
theorem dX0_give_33 : decode cX0_give 33 = .ok (.getfield 54, 3) := by decide +kernel
theorem dX0_give_36 : decode cX0_give 36 = .ok (.iload_n 3, 1) := by decide +kernel
theorem dX0_give_37 : decode cX0_give 37 = .ok (.iadd, 1) := by decide +kernel
theorem dX0_give_38 : decode cX0_give 38 = .ok (.iload 4, 2) := by decide +kernel
theorem dX0_give_40 : decode cX0_give 40 = .ok (.isub, 1) := by decide +kernel
theorem dX0_give_41 : decode cX0_give 41 = .ok (.invokestatic 76, 3) := by decide +kernel
theorem dX0_give_44 : decode cX0_give 44 = .ok (.putfield 54, 3) := by decide +kernel
theorem dX0_give_47 : decode cX0_give 47 = .ok (.aload_n 0, 1) := by decide +kernel
theorem dX0_give_48 : decode cX0_give 48 = .ok (.getfield 27, 3) := by decide +kernel
theorem dX0_give_51 : decode cX0_give 51 = .ok (.iload_n 1, 1) := by decide +kernel
theorem dX0_give_52 : decode cX0_give 52 = .ok (.dup2, 1) := by decide +kernel
theorem dX0_give_53 : decode cX0_give 53 = .ok (.iaload, 1) := by decide +kernel
theorem dX0_give_54 : decode cX0_give 54 = .ok (.iconst 1, 1) := by decide +kernel
theorem dX0_give_55 : decode cX0_give 55 = .ok (.iload_n 2, 1) := by decide +kernel
theorem dX0_give_56 : decode cX0_give 56 = .ok (.ishl, 1) := by decide +kernel
theorem dX0_give_57 : decode cX0_give 57 = .ok (.ior, 1) := by decide +kernel
theorem dX0_give_58 : decode cX0_give 58 = .ok (.iastore, 1) := by decide +kernel
theorem dX0_give_59 : decode cX0_give 59 = .ok (.return_, 1) := by decide +kernel
theorem dX0_tired_0 : decode cX0_tired 0 = .ok (.aload_n 0, 1) := by decide +kernel
theorem dX0_tired_1 : decode cX0_tired 1 = .ok (.iload_n 1, 1) := by decide +kernel
theorem dX0_tired_2 : decode cX0_tired 2 = .ok (.iconst 0, 1) := by decide +kernel
theorem dX0_tired_3 : decode cX0_tired 3 = .ok (.iconst 0, 1) := by decide +kernel
theorem dX0_tired_4 : decode cX0_tired 4 = .ok (.invokevirtual 82, 3) := by decide +kernel
theorem dX0_tired_7 : decode cX0_tired 7 = .ok (.ireturn, 1) := by decide +kernel
theorem dX0_tiredBehind_0 : decode cX0_tiredBehind 0 = .ok (.iconst 0, 1) := by decide +kernel
theorem dX0_tiredBehind_1 : decode cX0_tiredBehind 1 = .ok (.istore 4, 2) := by decide +kernel
theorem dX0_tiredBehind_3 : decode cX0_tiredBehind 3 = .ok (.iconst 0, 1) := by decide +kernel
theorem dX0_tiredBehind_4 : decode cX0_tiredBehind 4 = .ok (.istore 5, 2) := by decide +kernel
theorem dX0_tiredBehind_6 : decode cX0_tiredBehind 6 = .ok (.iload 5, 2) := by decide +kernel
theorem dX0_tiredBehind_8 : decode cX0_tiredBehind 8 = .ok (.iconst 3, 1) := by decide +kernel
theorem dX0_tiredBehind_9 : decode cX0_tiredBehind 9 = .ok (.if_icmp .ge 42, 3) := by decide +kernel
theorem dX0_tiredBehind_12 : decode cX0_tiredBehind 12 = .ok (.iload 5, 2) := by decide +kernel
theorem dX0_tiredBehind_14 : decode cX0_tiredBehind 14 = .ok (.iload_n 2, 1) := by decide +kernel
theorem dX0_tiredBehind_15 : decode cX0_tiredBehind 15 = .ok (.if_icmp .ge 12, 3) := by decide +kernel
theorem dX0_tiredBehind_18 : decode cX0_tiredBehind 18 = .ok (.iload 4, 2) := by decide +kernel
theorem dX0_tiredBehind_20 : decode cX0_tiredBehind 20 = .ok (.iload_n 3, 1) := by decide +kernel
theorem dX0_tiredBehind_21 : decode cX0_tiredBehind 21 = .ok (.iadd, 1) := by decide +kernel
theorem dX0_tiredBehind_22 : decode cX0_tiredBehind 22 = .ok (.istore 4, 2) := by decide +kernel
theorem dX0_tiredBehind_24 : decode cX0_tiredBehind 24 = .ok (.goto 21, 3) := by decide +kernel
theorem dX0_tiredBehind_27 : decode cX0_tiredBehind 27 = .ok (.iload 4, 2) := by decide +kernel
theorem dX0_tiredBehind_29 : decode cX0_tiredBehind 29 = .ok (.aload_n 0, 1) := by decide +kernel
theorem dX0_tiredBehind_30 : decode cX0_tiredBehind 30 = .ok (.getfield 35, 3) := by decide +kernel
theorem dX0_tiredBehind_33 : decode cX0_tiredBehind 33 = .ok (.iload 5, 2) := by decide +kernel
theorem dX0_tiredBehind_35 : decode cX0_tiredBehind 35 = .ok (.iload_n 2, 1) := by decide +kernel
theorem dX0_tiredBehind_36 : decode cX0_tiredBehind 36 = .ok (.isub, 1) := by decide +kernel
theorem dX0_tiredBehind_37 : decode cX0_tiredBehind 37 = .ok (.iaload, 1) := by decide +kernel
theorem dX0_tiredBehind_38 : decode cX0_tiredBehind 38 = .ok (.iload_n 1, 1) := by decide +kernel
theorem dX0_tiredBehind_39 : decode cX0_tiredBehind 39 = .ok (.ishr, 1) := by decide +kernel
theorem dX0_tiredBehind_40 : decode cX0_tiredBehind 40 = .ok (.iconst 1, 1) := by decide +kernel
theorem dX0_tiredBehind_41 : decode cX0_tiredBehind 41 = .ok (.iand, 1) := by decide +kernel
theorem dX0_tiredBehind_42 : decode cX0_tiredBehind 42 = .ok (.iadd, 1) := by decide +kernel
theorem dX0_tiredBehind_43 : decode cX0_tiredBehind 43 = .ok (.istore 4, 2) := by decide +kernel
theorem dX0_tiredBehind_45 : decode cX0_tiredBehind 45 = .ok (.iinc 5 1, 3) := by decide +kernel
theorem dX0_tiredBehind_48 : decode cX0_tiredBehind 48 = .ok (.goto (-42), 3) := by decide +kernel
theorem dX0_tiredBehind_51 : decode cX0_tiredBehind 51 = .ok (.iload 4, 2) := by decide +kernel
theorem dX0_tiredBehind_53 : decode cX0_tiredBehind 53 = .ok (.ireturn, 1) := by decide +kernel
theorem dX0_taleOrLoss_0 : decode cX0_taleOrLoss 0 = .ok (.aload_n 0, 1) := by decide +kernel
theorem dX0_taleOrLoss_1 : decode cX0_taleOrLoss 1 = .ok (.getfield 24, 3) := by decide +kernel
theorem dX0_taleOrLoss_4 : decode cX0_taleOrLoss 4 = .ok (.iload_n 1, 1) := by decide +kernel
theorem dX0_taleOrLoss_5 : decode cX0_taleOrLoss 5 = .ok (.iaload, 1) := by decide +kernel
theorem dX0_taleOrLoss_6 : decode cX0_taleOrLoss 6 = .ok (.iload_n 2, 1) := by decide +kernel
theorem dX0_taleOrLoss_7 : decode cX0_taleOrLoss 7 = .ok (.invokestatic 67, 3) := by decide +kernel
theorem dX0_taleOrLoss_10 : decode cX0_taleOrLoss 10 = .ok (.ifCond .eq 14, 3) := by decide +kernel
theorem dX0_taleOrLoss_13 : decode cX0_taleOrLoss 13 = .ok (.aload_n 0, 1) := by decide +kernel
theorem dX0_taleOrLoss_14 : decode cX0_taleOrLoss 14 = .ok (.getfield 32, 3) := by decide +kernel
theorem dX0_taleOrLoss_17 : decode cX0_taleOrLoss 17 = .ok (.iload_n 1, 1) := by decide +kernel
theorem dX0_taleOrLoss_18 : decode cX0_taleOrLoss 18 = .ok (.aaload, 1) := by decide +kernel
theorem dX0_taleOrLoss_19 : decode cX0_taleOrLoss 19 = .ok (.iload_n 2, 1) := by decide +kernel
theorem dX0_taleOrLoss_20 : decode cX0_taleOrLoss 20 = .ok (.iaload, 1) := by decide +kernel
theorem dX0_taleOrLoss_21 : decode cX0_taleOrLoss 21 = .ok (.goto 9, 3) := by decide +kernel
theorem dX0_taleOrLoss_24 : decode cX0_taleOrLoss 24 = .ok (.aload_n 0, 1) := by decide +kernel
theorem dX0_taleOrLoss_25 : decode cX0_taleOrLoss 25 = .ok (.getfield 18, 3) := by decide +kernel
theorem dX0_taleOrLoss_28 : decode cX0_taleOrLoss 28 = .ok (.iload_n 1, 1) := by decide +kernel
theorem dX0_taleOrLoss_29 : decode cX0_taleOrLoss 29 = .ok (.iaload, 1) := by decide +kernel
theorem dX0_taleOrLoss_30 : decode cX0_taleOrLoss 30 = .ok (.ireturn, 1) := by decide +kernel
theorem dX0_giftBehind_0 : decode cX0_giftBehind 0 = .ok (.aload 5, 2) := by decide +kernel
theorem dX0_giftBehind_2 : decode cX0_giftBehind 2 = .ok (.iload_n 2, 1) := by decide +kernel
theorem dX0_giftBehind_3 : decode cX0_giftBehind 3 = .ok (.aload_n 0, 1) := by decide +kernel
theorem dX0_giftBehind_4 : decode cX0_giftBehind 4 = .ok (.getfield 9, 3) := by decide +kernel
theorem dX0_giftBehind_7 : decode cX0_giftBehind 7 = .ok (.iload_n 2, 1) := by decide +kernel
theorem dX0_giftBehind_8 : decode cX0_giftBehind 8 = .ok (.iaload, 1) := by decide +kernel
theorem dX0_giftBehind_9 : decode cX0_giftBehind 9 = .ok (.iload 4, 2) := by decide +kernel
theorem dX0_giftBehind_11 : decode cX0_giftBehind 11 = .ok (.iload_n 3, 1) := by decide +kernel
theorem dX0_giftBehind_12 : decode cX0_giftBehind 12 = .ok (.invokevirtual 86, 3) := by decide +kernel
theorem dX0_giftBehind_15 : decode cX0_giftBehind 15 = .ok (.aload 5, 2) := by decide +kernel
theorem dX0_giftBehind_17 : decode cX0_giftBehind 17 = .ok (.aload_n 0, 1) := by decide +kernel
theorem dX0_giftBehind_18 : decode cX0_giftBehind 18 = .ok (.iload_n 3, 1) := by decide +kernel
theorem dX0_giftBehind_19 : decode cX0_giftBehind 19 = .ok (.iload_n 2, 1) := by decide +kernel
theorem dX0_giftBehind_20 : decode cX0_giftBehind 20 = .ok (.invokevirtual 92, 3) := by decide +kernel
theorem dX0_giftBehind_23 : decode cX0_giftBehind 23 = .ok (.iconst 0, 1) := by decide +kernel
theorem dX0_giftBehind_24 : decode cX0_giftBehind 24 = .ok (.aload_n 0, 1) := by decide +kernel
theorem dX0_giftBehind_25 : decode cX0_giftBehind 25 = .ok (.getfield 57, 3) := by decide +kernel
theorem dX0_giftBehind_28 : decode cX0_giftBehind 28 = .ok (.iload_n 1, 1) := by decide +kernel
theorem dX0_giftBehind_29 : decode cX0_giftBehind 29 = .ok (.iadd, 1) := by decide +kernel
theorem dX0_giftBehind_30 : decode cX0_giftBehind 30 = .ok (.invokevirtual 95, 3) := by decide +kernel
theorem dX0_giftBehind_33 : decode cX0_giftBehind 33 = .ok (.aload 5, 2) := by decide +kernel
theorem dX0_giftBehind_35 : decode cX0_giftBehind 35 = .ok (.bipush 103, 2) := by decide +kernel
theorem dX0_giftBehind_37 : decode cX0_giftBehind 37 = .ok (.sipush 999, 3) := by decide +kernel
theorem dX0_giftBehind_40 : decode cX0_giftBehind 40 = .ok (.invokevirtual 98, 3) := by decide +kernel
theorem dX0_giftBehind_43 : decode cX0_giftBehind 43 = .ok (.ireturn, 1) := by decide +kernel
theorem dX0_tellOn_0 : decode cX0_tellOn 0 = .ok (.aload 5, 2) := by decide +kernel
theorem dX0_tellOn_2 : decode cX0_tellOn 2 = .ok (.iload_n 2, 1) := by decide +kernel
theorem dX0_tellOn_3 : decode cX0_tellOn 3 = .ok (.aload_n 0, 1) := by decide +kernel
theorem dX0_tellOn_4 : decode cX0_tellOn 4 = .ok (.getfield 9, 3) := by decide +kernel
theorem dX0_tellOn_7 : decode cX0_tellOn 7 = .ok (.iload_n 2, 1) := by decide +kernel
theorem dX0_tellOn_8 : decode cX0_tellOn 8 = .ok (.iaload, 1) := by decide +kernel
theorem dX0_tellOn_9 : decode cX0_tellOn 9 = .ok (.aload_n 0, 1) := by decide +kernel
theorem dX0_tellOn_10 : decode cX0_tellOn 10 = .ok (.iload_n 2, 1) := by decide +kernel
theorem dX0_tellOn_11 : decode cX0_tellOn 11 = .ok (.invokevirtual 101, 3) := by decide +kernel
theorem dX0_tellOn_14 : decode cX0_tellOn 14 = .ok (.iload_n 1, 1) := by decide +kernel
theorem dX0_tellOn_15 : decode cX0_tellOn 15 = .ok (.invokevirtual 86, 3) := by decide +kernel
theorem dX0_tellOn_18 : decode cX0_tellOn 18 = .ok (.aload 5, 2) := by decide +kernel
theorem dX0_tellOn_20 : decode cX0_tellOn 20 = .ok (.iload_n 3, 1) := by decide +kernel
theorem dX0_tellOn_21 : decode cX0_tellOn 21 = .ok (.iload 4, 2) := by decide +kernel
theorem dX0_tellOn_23 : decode cX0_tellOn 23 = .ok (.aload_n 0, 1) := by decide +kernel
theorem dX0_tellOn_24 : decode cX0_tellOn 24 = .ok (.getfield 57, 3) := by decide +kernel
theorem dX0_tellOn_27 : decode cX0_tellOn 27 = .ok (.invokevirtual 95, 3) := by decide +kernel
theorem dX0_tellOn_30 : decode cX0_tellOn 30 = .ok (.ldc 105, 2) := by decide +kernel
theorem dX0_tellOn_32 : decode cX0_tellOn 32 = .ok (.iload_n 3, 1) := by decide +kernel
theorem dX0_tellOn_33 : decode cX0_tellOn 33 = .ok (.aload 5, 2) := by decide +kernel
theorem dX0_tellOn_35 : decode cX0_tellOn 35 = .ok (.bipush 116, 2) := by decide +kernel
theorem dX0_tellOn_37 : decode cX0_tellOn 37 = .ok (.sipush 999, 3) := by decide +kernel
theorem dX0_tellOn_40 : decode cX0_tellOn 40 = .ok (.invokevirtual 98, 3) := by decide +kernel
theorem dX0_tellOn_43 : decode cX0_tellOn 43 = .ok (.iadd, 1) := by decide +kernel
theorem dX0_tellOn_44 : decode cX0_tellOn 44 = .ok (.invokestatic 76, 3) := by decide +kernel
theorem dX0_tellOn_47 : decode cX0_tellOn 47 = .ok (.ireturn, 1) := by decide +kernel
theorem dX0_pass_0 : decode cX0_pass 0 = .ok (.aload_n 0, 1) := by decide +kernel
theorem dX0_pass_1 : decode cX0_pass 1 = .ok (.iconst 0, 1) := by decide +kernel
theorem dX0_pass_2 : decode cX0_pass 2 = .ok (.putfield 106, 3) := by decide +kernel
theorem dX0_pass_5 : decode cX0_pass 5 = .ok (.aload_n 0, 1) := by decide +kernel
theorem dX0_pass_6 : decode cX0_pass 6 = .ok (.iconst 0, 1) := by decide +kernel
theorem dX0_pass_7 : decode cX0_pass 7 = .ok (.putfield 109, 3) := by decide +kernel
theorem dX0_pass_10 : decode cX0_pass 10 = .ok (.iconst 0, 1) := by decide +kernel
theorem dX0_pass_11 : decode cX0_pass 11 = .ok (.istore 4, 2) := by decide +kernel
theorem dX0_pass_13 : decode cX0_pass 13 = .ok (.iload 4, 2) := by decide +kernel
theorem dX0_pass_15 : decode cX0_pass 15 = .ok (.iload_n 1, 1) := by decide +kernel
theorem dX0_pass_16 : decode cX0_pass 16 = .ok (.if_icmp .ge 119, 3) := by decide +kernel
theorem dX0_pass_19 : decode cX0_pass 19 = .ok (.aload_n 0, 1) := by decide +kernel
theorem dX0_pass_20 : decode cX0_pass 20 = .ok (.getfield 57, 3) := by decide +kernel
theorem dX0_pass_23 : decode cX0_pass 23 = .ok (.sipush 9999, 3) := by decide +kernel
theorem dX0_pass_26 : decode cX0_pass 26 = .ok (.if_icmp .ge 109, 3) := by decide +kernel
theorem dX0_pass_29 : decode cX0_pass 29 = .ok (.iconst 0, 1) := by decide +kernel
theorem dX0_pass_30 : decode cX0_pass 30 = .ok (.istore 5, 2) := by decide +kernel
theorem dX0_pass_32 : decode cX0_pass 32 = .ok (.iload 5, 2) := by decide +kernel
theorem dX0_pass_34 : decode cX0_pass 34 = .ok (.bipush 6, 2) := by decide +kernel
theorem dX0_pass_36 : decode cX0_pass 36 = .ok (.if_icmp .ge 26, 3) := by decide +kernel
theorem dX0_pass_39 : decode cX0_pass 39 = .ok (.aload_n 0, 1) := by decide +kernel
theorem dX0_pass_40 : decode cX0_pass 40 = .ok (.iload 5, 2) := by decide +kernel
theorem dX0_pass_42 : decode cX0_pass 42 = .ok (.invokevirtual 112, 3) := by decide +kernel
theorem dX0_pass_45 : decode cX0_pass 45 = .ok (.ifCond .eq 11, 3) := by decide +kernel
theorem dX0_pass_48 : decode cX0_pass 48 = .ok (.aload_n 0, 1) := by decide +kernel
theorem dX0_pass_49 : decode cX0_pass 49 = .ok (.iload 5, 2) := by decide +kernel
theorem dX0_pass_51 : decode cX0_pass 51 = .ok (.aload_n 2, 1) := by decide +kernel
theorem dX0_pass_52 : decode cX0_pass 52 = .ok (.aload_n 3, 1) := by decide +kernel
theorem dX0_pass_53 : decode cX0_pass 53 = .ok (.invokevirtual 115, 3) := by decide +kernel
theorem dX0_pass_56 : decode cX0_pass 56 = .ok (.iinc 5 1, 3) := by decide +kernel
theorem dX0_pass_59 : decode cX0_pass 59 = .ok (.goto (-27), 3) := by decide +kernel
theorem dX0_pass_62 : decode cX0_pass 62 = .ok (.iconst 0, 1) := by decide +kernel
theorem dX0_pass_63 : decode cX0_pass 63 = .ok (.istore 5, 2) := by decide +kernel
theorem dX0_pass_65 : decode cX0_pass 65 = .ok (.iconst 0, 1) := by decide +kernel
theorem dX0_pass_66 : decode cX0_pass 66 = .ok (.istore 6, 2) := by decide +kernel
theorem dX0_pass_68 : decode cX0_pass 68 = .ok (.iload 6, 2) := by decide +kernel
theorem dX0_pass_70 : decode cX0_pass 70 = .ok (.bipush 12, 2) := by decide +kernel
theorem dX0_pass_72 : decode cX0_pass 72 = .ok (.if_icmp .ge 37, 3) := by decide +kernel
theorem dX0_pass_75 : decode cX0_pass 75 = .ok (.aload_n 2, 1) := by decide +kernel
theorem dX0_pass_76 : decode cX0_pass 76 = .ok (.iload 6, 2) := by decide +kernel
theorem dX0_pass_78 : decode cX0_pass 78 = .ok (.invokevirtual 119, 3) := by decide +kernel
theorem dX0_pass_81 : decode cX0_pass 81 = .ok (.ifCond .eq 22, 3) := by decide +kernel
theorem dX0_pass_84 : decode cX0_pass 84 = .ok (.aload_n 0, 1) := by decide +kernel
theorem dX0_pass_85 : decode cX0_pass 85 = .ok (.iload 6, 2) := by decide +kernel
theorem dX0_pass_87 : decode cX0_pass 87 = .ok (.aload_n 3, 1) := by decide +kernel
theorem dX0_pass_88 : decode cX0_pass 88 = .ok (.invokevirtual 124, 3) := by decide +kernel
theorem dX0_pass_91 : decode cX0_pass 91 = .ok (.ifCond .eq 12, 3) := by decide +kernel
theorem dX0_pass_94 : decode cX0_pass 94 = .ok (.iload 5, 2) := by decide +kernel
theorem dX0_pass_96 : decode cX0_pass 96 = .ok (.iconst 1, 1) := by decide +kernel
theorem dX0_pass_97 : decode cX0_pass 97 = .ok (.iload 6, 2) := by decide +kernel
theorem dX0_pass_99 : decode cX0_pass 99 = .ok (.ishl, 1) := by decide +kernel
theorem dX0_pass_100 : decode cX0_pass 100 = .ok (.ior, 1) := by decide +kernel
theorem dX0_pass_101 : decode cX0_pass 101 = .ok (.istore 5, 2) := by decide +kernel
theorem dX0_pass_103 : decode cX0_pass 103 = .ok (.iinc 6 1, 3) := by decide +kernel
theorem dX0_pass_106 : decode cX0_pass 106 = .ok (.goto (-38), 3) := by decide +kernel
theorem dX0_pass_109 : decode cX0_pass 109 = .ok (.aload_n 0, 1) := by decide +kernel
theorem dX0_pass_110 : decode cX0_pass 110 = .ok (.invokevirtual 128, 3) := by decide +kernel
theorem dX0_pass_113 : decode cX0_pass 113 = .ok (.aload_n 0, 1) := by decide +kernel
theorem dX0_pass_114 : decode cX0_pass 114 = .ok (.iload 5, 2) := by decide +kernel
theorem dX0_pass_116 : decode cX0_pass 116 = .ok (.invokevirtual 131, 3) := by decide +kernel
theorem dX0_pass_119 : decode cX0_pass 119 = .ok (.aload_n 0, 1) := by decide +kernel
theorem dX0_pass_120 : decode cX0_pass 120 = .ok (.dup, 1) := by decide +kernel
theorem dX0_pass_121 : decode cX0_pass 121 = .ok (.getfield 57, 3) := by decide +kernel
theorem dX0_pass_124 : decode cX0_pass 124 = .ok (.iconst 1, 1) := by decide +kernel
theorem dX0_pass_125 : decode cX0_pass 125 = .ok (.iadd, 1) := by decide +kernel
theorem dX0_pass_126 : decode cX0_pass 126 = .ok (.putfield 57, 3) := by decide +kernel
theorem dX0_pass_129 : decode cX0_pass 129 = .ok (.iinc 4 1, 3) := by decide +kernel
theorem dX0_pass_132 : decode cX0_pass 132 = .ok (.goto (-119), 3) := by decide +kernel
theorem dX0_pass_135 : decode cX0_pass 135 = .ok (.return_, 1) := by decide +kernel
theorem dX0_spread_0 : decode cX0_spread 0 = .ok (.aload_n 0, 1) := by decide +kernel
theorem dX0_spread_1 : decode cX0_spread 1 = .ok (.getfield 24, 3) := by decide +kernel
theorem dX0_spread_4 : decode cX0_spread 4 = .ok (.iload_n 1, 1) := by decide +kernel
theorem dX0_spread_5 : decode cX0_spread 5 = .ok (.iaload, 1) := by decide +kernel
theorem dX0_spread_6 : decode cX0_spread 6 = .ok (.istore 4, 2) := by decide +kernel
theorem dX0_spread_8 : decode cX0_spread 8 = .ok (.iconst 0, 1) := by decide +kernel
theorem dX0_spread_9 : decode cX0_spread 9 = .ok (.istore 5, 2) := by decide +kernel
theorem dX0_spread_11 : decode cX0_spread 11 = .ok (.iload 5, 2) := by decide +kernel
theorem dX0_spread_13 : decode cX0_spread 13 = .ok (.bipush 12, 2) := by decide +kernel
theorem dX0_spread_15 : decode cX0_spread 15 = .ok (.if_icmp .ge 95, 3) := by decide +kernel
theorem dX0_spread_18 : decode cX0_spread 18 = .ok (.aload_n 2, 1) := by decide +kernel
theorem dX0_spread_19 : decode cX0_spread 19 = .ok (.iload 5, 2) := by decide +kernel
theorem dX0_spread_21 : decode cX0_spread 21 = .ok (.invokevirtual 119, 3) := by decide +kernel
theorem dX0_spread_24 : decode cX0_spread 24 = .ok (.ifCond .eq 80, 3) := by decide +kernel
theorem dX0_spread_27 : decode cX0_spread 27 = .ok (.iload 4, 2) := by decide +kernel
theorem dX0_spread_29 : decode cX0_spread 29 = .ok (.iload 5, 2) := by decide +kernel
theorem dX0_spread_31 : decode cX0_spread 31 = .ok (.invokestatic 67, 3) := by decide +kernel
theorem dX0_spread_34 : decode cX0_spread 34 = .ok (.ifCond .ne 70, 3) := by decide +kernel
theorem dX0_spread_37 : decode cX0_spread 37 = .ok (.aload_n 0, 1) := by decide +kernel
theorem dX0_spread_38 : decode cX0_spread 38 = .ok (.iload_n 1, 1) := by decide +kernel
theorem dX0_spread_39 : decode cX0_spread 39 = .ok (.iload 5, 2) := by decide +kernel
theorem dX0_spread_41 : decode cX0_spread 41 = .ok (.iload 4, 2) := by decide +kernel
theorem dX0_spread_43 : decode cX0_spread 43 = .ok (.aload_n 2, 1) := by decide +kernel
theorem dX0_spread_44 : decode cX0_spread 44 = .ok (.aload_n 3, 1) := by decide +kernel
theorem dX0_spread_45 : decode cX0_spread 45 = .ok (.invokevirtual 135, 3) := by decide +kernel
theorem dX0_spread_48 : decode cX0_spread 48 = .ok (.istore 6, 2) := by decide +kernel
theorem dX0_spread_50 : decode cX0_spread 50 = .ok (.iload 6, 2) := by decide +kernel
theorem dX0_spread_52 : decode cX0_spread 52 = .ok (.ifCond .lt 52, 3) := by decide +kernel
theorem dX0_spread_55 : decode cX0_spread 55 = .ok (.aload_n 0, 1) := by decide +kernel
theorem dX0_spread_56 : decode cX0_spread 56 = .ok (.getfield 32, 3) := by decide +kernel
theorem dX0_spread_59 : decode cX0_spread 59 = .ok (.iload_n 1, 1) := by decide +kernel
theorem dX0_spread_60 : decode cX0_spread 60 = .ok (.aaload, 1) := by decide +kernel
theorem dX0_spread_61 : decode cX0_spread 61 = .ok (.iload 5, 2) := by decide +kernel
theorem dX0_spread_63 : decode cX0_spread 63 = .ok (.aload_n 0, 1) := by decide +kernel
theorem dX0_spread_64 : decode cX0_spread 64 = .ok (.iload_n 1, 1) := by decide +kernel
theorem dX0_spread_65 : decode cX0_spread 65 = .ok (.iload 5, 2) := by decide +kernel
theorem dX0_spread_67 : decode cX0_spread 67 = .ok (.aload_n 0, 1) := by decide +kernel
theorem dX0_spread_68 : decode cX0_spread 68 = .ok (.getfield 32, 3) := by decide +kernel
theorem dX0_spread_71 : decode cX0_spread 71 = .ok (.iload_n 1, 1) := by decide +kernel
theorem dX0_spread_72 : decode cX0_spread 72 = .ok (.aaload, 1) := by decide +kernel
theorem dX0_spread_73 : decode cX0_spread 73 = .ok (.iload 6, 2) := by decide +kernel
theorem dX0_spread_75 : decode cX0_spread 75 = .ok (.iaload, 1) := by decide +kernel
theorem dX0_spread_76 : decode cX0_spread 76 = .ok (.aload_n 2, 1) := by decide +kernel
theorem dX0_spread_77 : decode cX0_spread 77 = .ok (.getfield 139, 3) := by decide +kernel
theorem dX0_spread_80 : decode cX0_spread 80 = .ok (.iload 6, 2) := by decide +kernel
theorem dX0_spread_82 : decode cX0_spread 82 = .ok (.aaload, 1) := by decide +kernel
theorem dX0_spread_83 : decode cX0_spread 83 = .ok (.iload 5, 2) := by decide +kernel
theorem dX0_spread_85 : decode cX0_spread 85 = .ok (.iaload, 1) := by decide +kernel
theorem dX0_spread_86 : decode cX0_spread 86 = .ok (.aload_n 3, 1) := by decide +kernel
theorem dX0_spread_87 : decode cX0_spread 87 = .ok (.invokevirtual 142, 3) := by decide +kernel
theorem dX0_spread_90 : decode cX0_spread 90 = .ok (.iastore, 1) := by decide +kernel
theorem dX0_spread_91 : decode cX0_spread 91 = .ok (.aload_n 0, 1) := by decide +kernel
theorem dX0_spread_92 : decode cX0_spread 92 = .ok (.getfield 24, 3) := by decide +kernel
theorem dX0_spread_95 : decode cX0_spread 95 = .ok (.iload_n 1, 1) := by decide +kernel
theorem dX0_spread_96 : decode cX0_spread 96 = .ok (.dup2, 1) := by decide +kernel
theorem dX0_spread_97 : decode cX0_spread 97 = .ok (.iaload, 1) := by decide +kernel
theorem dX0_spread_98 : decode cX0_spread 98 = .ok (.iconst 1, 1) := by decide +kernel
theorem dX0_spread_99 : decode cX0_spread 99 = .ok (.iload 5, 2) := by decide +kernel
theorem dX0_spread_101 : decode cX0_spread 101 = .ok (.ishl, 1) := by decide +kernel
theorem dX0_spread_102 : decode cX0_spread 102 = .ok (.ior, 1) := by decide +kernel
theorem dX0_spread_103 : decode cX0_spread 103 = .ok (.iastore, 1) := by decide +kernel
theorem dX0_spread_104 : decode cX0_spread 104 = .ok (.iinc 5 1, 3) := by decide +kernel
theorem dX0_spread_107 : decode cX0_spread 107 = .ok (.goto (-96), 3) := by decide +kernel
theorem dX0_spread_110 : decode cX0_spread 110 = .ok (.return_, 1) := by decide +kernel
theorem dX0_sourceFor_0 : decode cX0_sourceFor 0 = .ok (.iconst (-1), 1) := by decide +kernel
theorem dX0_sourceFor_1 : decode cX0_sourceFor 1 = .ok (.istore 6, 2) := by decide +kernel
theorem dX0_sourceFor_3 : decode cX0_sourceFor 3 = .ok (.bipush 100, 2) := by decide +kernel
theorem dX0_sourceFor_5 : decode cX0_sourceFor 5 = .ok (.istore 7, 2) := by decide +kernel
theorem dX0_sourceFor_7 : decode cX0_sourceFor 7 = .ok (.aload 5, 2) := by decide +kernel
theorem dX0_sourceFor_9 : decode cX0_sourceFor 9 = .ok (.iload_n 2, 1) := by decide +kernel
theorem dX0_sourceFor_10 : decode cX0_sourceFor 10 = .ok (.aload_n 0, 1) := by decide +kernel
theorem dX0_sourceFor_11 : decode cX0_sourceFor 11 = .ok (.getfield 9, 3) := by decide +kernel
theorem dX0_sourceFor_14 : decode cX0_sourceFor 14 = .ok (.iload_n 2, 1) := by decide +kernel
theorem dX0_sourceFor_15 : decode cX0_sourceFor 15 = .ok (.iaload, 1) := by decide +kernel
theorem dX0_sourceFor_16 : decode cX0_sourceFor 16 = .ok (.aload_n 0, 1) := by decide +kernel
theorem dX0_sourceFor_17 : decode cX0_sourceFor 17 = .ok (.iload_n 2, 1) := by decide +kernel
theorem dX0_sourceFor_18 : decode cX0_sourceFor 18 = .ok (.invokevirtual 101, 3) := by decide +kernel
theorem dX0_sourceFor_21 : decode cX0_sourceFor 21 = .ok (.iload_n 1, 1) := by decide +kernel
theorem dX0_sourceFor_22 : decode cX0_sourceFor 22 = .ok (.invokevirtual 86, 3) := by decide +kernel
theorem dX0_sourceFor_25 : decode cX0_sourceFor 25 = .ok (.iconst 0, 1) := by decide +kernel
theorem dX0_sourceFor_26 : decode cX0_sourceFor 26 = .ok (.istore 8, 2) := by decide +kernel
theorem dX0_sourceFor_28 : decode cX0_sourceFor 28 = .ok (.iload 8, 2) := by decide +kernel
theorem dX0_sourceFor_30 : decode cX0_sourceFor 30 = .ok (.bipush 12, 2) := by decide +kernel
theorem dX0_sourceFor_32 : decode cX0_sourceFor 32 = .ok (.if_icmp .ge 78, 3) := by decide +kernel
theorem dX0_sourceFor_35 : decode cX0_sourceFor 35 = .ok (.aload 4, 2) := by decide +kernel
theorem dX0_sourceFor_37 : decode cX0_sourceFor 37 = .ok (.getfield 139, 3) := by decide +kernel
theorem dX0_sourceFor_40 : decode cX0_sourceFor 40 = .ok (.iload 8, 2) := by decide +kernel
theorem dX0_sourceFor_42 : decode cX0_sourceFor 42 = .ok (.aaload, 1) := by decide +kernel
theorem dX0_sourceFor_43 : decode cX0_sourceFor 43 = .ok (.iload_n 2, 1) := by decide +kernel
theorem dX0_sourceFor_44 : decode cX0_sourceFor 44 = .ok (.iaload, 1) := by decide +kernel
theorem dX0_sourceFor_45 : decode cX0_sourceFor 45 = .ok (.istore 9, 2) := by decide +kernel
theorem dX0_sourceFor_47 : decode cX0_sourceFor 47 = .ok (.iload_n 3, 1) := by decide +kernel
theorem dX0_sourceFor_48 : decode cX0_sourceFor 48 = .ok (.iload 8, 2) := by decide +kernel
theorem dX0_sourceFor_50 : decode cX0_sourceFor 50 = .ok (.invokestatic 67, 3) := by decide +kernel
theorem dX0_sourceFor_53 : decode cX0_sourceFor 53 = .ok (.ifCond .eq 51, 3) := by decide +kernel
theorem dX0_sourceFor_56 : decode cX0_sourceFor 56 = .ok (.iload 9, 2) := by decide +kernel
theorem dX0_sourceFor_58 : decode cX0_sourceFor 58 = .ok (.ifCond .le 46, 3) := by decide +kernel
theorem dX0_sourceFor_61 : decode cX0_sourceFor 61 = .ok (.iload 9, 2) := by decide +kernel
theorem dX0_sourceFor_63 : decode cX0_sourceFor 63 = .ok (.iload 7, 2) := by decide +kernel
theorem dX0_sourceFor_65 : decode cX0_sourceFor 65 = .ok (.if_icmp .ge 39, 3) := by decide +kernel
theorem dX0_sourceFor_68 : decode cX0_sourceFor 68 = .ok (.aload 5, 2) := by decide +kernel
theorem dX0_sourceFor_70 : decode cX0_sourceFor 70 = .ok (.aload_n 0, 1) := by decide +kernel
theorem dX0_sourceFor_71 : decode cX0_sourceFor 71 = .ok (.getfield 32, 3) := by decide +kernel
theorem dX0_sourceFor_74 : decode cX0_sourceFor 74 = .ok (.iload_n 1, 1) := by decide +kernel
theorem dX0_sourceFor_75 : decode cX0_sourceFor 75 = .ok (.aaload, 1) := by decide +kernel
theorem dX0_sourceFor_76 : decode cX0_sourceFor 76 = .ok (.iload 8, 2) := by decide +kernel
theorem dX0_sourceFor_78 : decode cX0_sourceFor 78 = .ok (.iaload, 1) := by decide +kernel
theorem dX0_sourceFor_79 : decode cX0_sourceFor 79 = .ok (.iload 9, 2) := by decide +kernel
theorem dX0_sourceFor_81 : decode cX0_sourceFor 81 = .ok (.aload_n 0, 1) := by decide +kernel
theorem dX0_sourceFor_82 : decode cX0_sourceFor 82 = .ok (.getfield 57, 3) := by decide +kernel
theorem dX0_sourceFor_85 : decode cX0_sourceFor 85 = .ok (.invokevirtual 95, 3) := by decide +kernel
theorem dX0_sourceFor_88 : decode cX0_sourceFor 88 = .ok (.aload 5, 2) := by decide +kernel
theorem dX0_sourceFor_90 : decode cX0_sourceFor 90 = .ok (.invokevirtual 146, 3) := by decide +kernel
theorem dX0_sourceFor_93 : decode cX0_sourceFor 93 = .ok (.ifCond .ne 11, 3) := by decide +kernel
theorem dX0_sourceFor_96 : decode cX0_sourceFor 96 = .ok (.iload 8, 2) := by decide +kernel
theorem dX0_sourceFor_98 : decode cX0_sourceFor 98 = .ok (.istore 6, 2) := by decide +kernel
theorem dX0_sourceFor_100 : decode cX0_sourceFor 100 = .ok (.iload 9, 2) := by decide +kernel
theorem dX0_sourceFor_102 : decode cX0_sourceFor 102 = .ok (.istore 7, 2) := by decide +kernel
theorem dX0_sourceFor_104 : decode cX0_sourceFor 104 = .ok (.iinc 8 1, 3) := by decide +kernel
theorem dX0_sourceFor_107 : decode cX0_sourceFor 107 = .ok (.goto (-79), 3) := by decide +kernel
theorem dX0_sourceFor_110 : decode cX0_sourceFor 110 = .ok (.iload 6, 2) := by decide +kernel
theorem dX0_sourceFor_112 : decode cX0_sourceFor 112 = .ok (.ireturn, 1) := by decide +kernel
theorem dX0_readOne_0 : decode cX0_readOne 0 = .ok (.aload_n 0, 1) := by decide +kernel
theorem dX0_readOne_1 : decode cX0_readOne 1 = .ok (.iload_n 1, 1) := by decide +kernel
theorem dX0_readOne_2 : decode cX0_readOne 2 = .ok (.invokevirtual 150, 3) := by decide +kernel
theorem dX0_readOne_5 : decode cX0_readOne 5 = .ok (.istore_n 3, 1) := by decide +kernel
theorem dX0_readOne_6 : decode cX0_readOne 6 = .ok (.iload_n 3, 1) := by decide +kernel
theorem dX0_readOne_7 : decode cX0_readOne 7 = .ok (.ifCond .ge 5, 3) := by decide +kernel
theorem dX0_readOne_10 : decode cX0_readOne 10 = .ok (.iconst 0, 1) := by decide +kernel
theorem dX0_readOne_11 : decode cX0_readOne 11 = .ok (.ireturn, 1) := by decide +kernel
theorem dX0_readOne_12 : decode cX0_readOne 12 = .ok (.aload_n 2, 1) := by decide +kernel
theorem dX0_readOne_13 : decode cX0_readOne 13 = .ok (.iload_n 1, 1) := by decide +kernel
theorem dX0_readOne_14 : decode cX0_readOne 14 = .ok (.aload_n 0, 1) := by decide +kernel
theorem dX0_readOne_15 : decode cX0_readOne 15 = .ok (.getfield 9, 3) := by decide +kernel
theorem dX0_readOne_18 : decode cX0_readOne 18 = .ok (.iload_n 1, 1) := by decide +kernel
theorem dX0_readOne_19 : decode cX0_readOne 19 = .ok (.iaload, 1) := by decide +kernel
theorem dX0_readOne_20 : decode cX0_readOne 20 = .ok (.aload_n 0, 1) := by decide +kernel
theorem dX0_readOne_21 : decode cX0_readOne 21 = .ok (.iload_n 1, 1) := by decide +kernel
theorem dX0_readOne_22 : decode cX0_readOne 22 = .ok (.invokevirtual 101, 3) := by decide +kernel
theorem dX0_readOne_25 : decode cX0_readOne 25 = .ok (.iload_n 3, 1) := by decide +kernel
theorem dX0_readOne_26 : decode cX0_readOne 26 = .ok (.invokevirtual 86, 3) := by decide +kernel
theorem dX0_readOne_29 : decode cX0_readOne 29 = .ok (.aload_n 2, 1) := by decide +kernel
theorem dX0_readOne_30 : decode cX0_readOne 30 = .ok (.aload_n 0, 1) := by decide +kernel
theorem dX0_readOne_31 : decode cX0_readOne 31 = .ok (.getfield 32, 3) := by decide +kernel
theorem dX0_readOne_34 : decode cX0_readOne 34 = .ok (.iload_n 3, 1) := by decide +kernel
theorem dX0_readOne_35 : decode cX0_readOne 35 = .ok (.aaload, 1) := by decide +kernel
theorem dX0_readOne_36 : decode cX0_readOne 36 = .ok (.iload_n 1, 1) := by decide +kernel
theorem dX0_readOne_37 : decode cX0_readOne 37 = .ok (.iaload, 1) := by decide +kernel
theorem dX0_readOne_38 : decode cX0_readOne 38 = .ok (.iconst 0, 1) := by decide +kernel
theorem dX0_readOne_39 : decode cX0_readOne 39 = .ok (.aload_n 0, 1) := by decide +kernel
theorem dX0_readOne_40 : decode cX0_readOne 40 = .ok (.getfield 57, 3) := by decide +kernel
theorem dX0_readOne_43 : decode cX0_readOne 43 = .ok (.invokevirtual 95, 3) := by decide +kernel
theorem dX0_readOne_46 : decode cX0_readOne 46 = .ok (.aload_n 0, 1) := by decide +kernel
theorem dX0_readOne_47 : decode cX0_readOne 47 = .ok (.invokevirtual 153, 3) := by decide +kernel
theorem dX0_readOne_50 : decode cX0_readOne 50 = .ok (.aload_n 2, 1) := by decide +kernel
theorem dX0_readOne_51 : decode cX0_readOne 51 = .ok (.bipush 104, 2) := by decide +kernel
theorem dX0_readOne_53 : decode cX0_readOne 53 = .ok (.bipush 10, 2) := by decide +kernel
theorem dX0_readOne_55 : decode cX0_readOne 55 = .ok (.invokevirtual 98, 3) := by decide +kernel
theorem dX0_readOne_58 : decode cX0_readOne 58 = .ok (.if_icmp .ge 15, 3) := by decide +kernel
theorem dX0_readOne_61 : decode cX0_readOne 61 = .ok (.aload_n 0, 1) := by decide +kernel
theorem dX0_readOne_62 : decode cX0_readOne 62 = .ok (.dup, 1) := by decide +kernel
theorem dX0_readOne_63 : decode cX0_readOne 63 = .ok (.getfield 109, 3) := by decide +kernel
theorem dX0_readOne_66 : decode cX0_readOne 66 = .ok (.iconst 1, 1) := by decide +kernel
theorem dX0_readOne_67 : decode cX0_readOne 67 = .ok (.iadd, 1) := by decide +kernel
theorem dX0_readOne_68 : decode cX0_readOne 68 = .ok (.putfield 109, 3) := by decide +kernel
theorem dX0_readOne_71 : decode cX0_readOne 71 = .ok (.iconst 0, 1) := by decide +kernel
theorem dX0_readOne_72 : decode cX0_readOne 72 = .ok (.ireturn, 1) := by decide +kernel
theorem dX0_readOne_73 : decode cX0_readOne 73 = .ok (.aload_n 0, 1) := by decide +kernel
theorem dX0_readOne_74 : decode cX0_readOne 74 = .ok (.iload_n 3, 1) := by decide +kernel
theorem dX0_readOne_75 : decode cX0_readOne 75 = .ok (.iload_n 1, 1) := by decide +kernel
theorem dX0_readOne_76 : decode cX0_readOne 76 = .ok (.aload_n 2, 1) := by decide +kernel
theorem dX0_readOne_77 : decode cX0_readOne 77 = .ok (.bipush 103, 2) := by decide +kernel
theorem dX0_readOne_79 : decode cX0_readOne 79 = .ok (.sipush 999, 3) := by decide +kernel
theorem dX0_readOne_82 : decode cX0_readOne 82 = .ok (.invokevirtual 98, 3) := by decide +kernel
theorem dX0_readOne_85 : decode cX0_readOne 85 = .ok (.invokevirtual 71, 3) := by decide +kernel
theorem dX0_readOne_88 : decode cX0_readOne 88 = .ok (.aload_n 0, 1) := by decide +kernel
theorem dX0_readOne_89 : decode cX0_readOne 89 = .ok (.dup, 1) := by decide +kernel
theorem dX0_readOne_90 : decode cX0_readOne 90 = .ok (.getfield 106, 3) := by decide +kernel
theorem dX0_readOne_93 : decode cX0_readOne 93 = .ok (.iconst 1, 1) := by decide +kernel
theorem dX0_readOne_94 : decode cX0_readOne 94 = .ok (.iadd, 1) := by decide +kernel
theorem dX0_readOne_95 : decode cX0_readOne 95 = .ok (.putfield 106, 3) := by decide +kernel
theorem dX0_readOne_98 : decode cX0_readOne 98 = .ok (.iconst 1, 1) := by decide +kernel
theorem dX0_readOne_99 : decode cX0_readOne 99 = .ok (.ireturn, 1) := by decide +kernel
theorem dX0_lowestUnread_0 : decode cX0_lowestUnread 0 = .ok (.iconst 0, 1) := by decide +kernel
theorem dX0_lowestUnread_1 : decode cX0_lowestUnread 1 = .ok (.istore_n 2, 1) := by decide +kernel
theorem dX0_lowestUnread_2 : decode cX0_lowestUnread 2 = .ok (.iload_n 2, 1) := by decide +kernel
theorem dX0_lowestUnread_3 : decode cX0_lowestUnread 3 = .ok (.bipush 6, 2) := by decide +kernel
theorem dX0_lowestUnread_5 : decode cX0_lowestUnread 5 = .ok (.if_icmp .ge 41, 3) := by decide +kernel
theorem dX0_lowestUnread_8 : decode cX0_lowestUnread 8 = .ok (.aload_n 0, 1) := by decide +kernel
theorem dX0_lowestUnread_9 : decode cX0_lowestUnread 9 = .ok (.iload_n 2, 1) := by decide +kernel
theorem dX0_lowestUnread_10 : decode cX0_lowestUnread 10 = .ok (.invokevirtual 112, 3) := by decide +kernel
theorem dX0_lowestUnread_13 : decode cX0_lowestUnread 13 = .ok (.ifCond .eq 27, 3) := by decide +kernel
theorem dX0_lowestUnread_16 : decode cX0_lowestUnread 16 = .ok (.aload_n 0, 1) := by decide +kernel
theorem dX0_lowestUnread_17 : decode cX0_lowestUnread 17 = .ok (.getfield 24, 3) := by decide +kernel
theorem dX0_lowestUnread_20 : decode cX0_lowestUnread 20 = .ok (.iload_n 2, 1) := by decide +kernel
theorem dX0_lowestUnread_21 : decode cX0_lowestUnread 21 = .ok (.iaload, 1) := by decide +kernel
theorem dX0_lowestUnread_22 : decode cX0_lowestUnread 22 = .ok (.aload_n 0, 1) := by decide +kernel
theorem dX0_lowestUnread_23 : decode cX0_lowestUnread 23 = .ok (.getfield 27, 3) := by decide +kernel
theorem dX0_lowestUnread_26 : decode cX0_lowestUnread 26 = .ok (.iload_n 2, 1) := by decide +kernel
theorem dX0_lowestUnread_27 : decode cX0_lowestUnread 27 = .ok (.iaload, 1) := by decide +kernel
theorem dX0_lowestUnread_28 : decode cX0_lowestUnread 28 = .ok (.iconst (-1), 1) := by decide +kernel
theorem dX0_lowestUnread_29 : decode cX0_lowestUnread 29 = .ok (.ixor, 1) := by decide +kernel
theorem dX0_lowestUnread_30 : decode cX0_lowestUnread 30 = .ok (.iand, 1) := by decide +kernel
theorem dX0_lowestUnread_31 : decode cX0_lowestUnread 31 = .ok (.iload_n 1, 1) := by decide +kernel
theorem dX0_lowestUnread_32 : decode cX0_lowestUnread 32 = .ok (.invokestatic 67, 3) := by decide +kernel
theorem dX0_lowestUnread_35 : decode cX0_lowestUnread 35 = .ok (.ifCond .eq 5, 3) := by decide +kernel
theorem dX0_lowestUnread_38 : decode cX0_lowestUnread 38 = .ok (.iload_n 2, 1) := by decide +kernel
theorem dX0_lowestUnread_39 : decode cX0_lowestUnread 39 = .ok (.ireturn, 1) := by decide +kernel
theorem dX0_lowestUnread_40 : decode cX0_lowestUnread 40 = .ok (.iinc 2 1, 3) := by decide +kernel
theorem dX0_lowestUnread_43 : decode cX0_lowestUnread 43 = .ok (.goto (-41), 3) := by decide +kernel
theorem dX0_lowestUnread_46 : decode cX0_lowestUnread 46 = .ok (.iconst (-1), 1) := by decide +kernel
theorem dX0_lowestUnread_47 : decode cX0_lowestUnread 47 = .ok (.ireturn, 1) := by decide +kernel
theorem dX0_draw_0 : decode cX0_draw 0 = .ok (.aload_n 0, 1) := by decide +kernel
theorem dX0_draw_1 : decode cX0_draw 1 = .ok (.sipush 25173, 3) := by decide +kernel
theorem dX0_draw_4 : decode cX0_draw 4 = .ok (.aload_n 0, 1) := by decide +kernel
theorem dX0_draw_5 : decode cX0_draw 5 = .ok (.getfield 38, 3) := by decide +kernel
theorem dX0_draw_8 : decode cX0_draw 8 = .ok (.imul, 1) := by decide +kernel
theorem dX0_draw_9 : decode cX0_draw 9 = .ok (.sipush 13849, 3) := by decide +kernel
theorem dX0_draw_12 : decode cX0_draw 12 = .ok (.iadd, 1) := by decide +kernel
theorem dX0_draw_13 : decode cX0_draw 13 = .ok (.ldc 157, 2) := by decide +kernel
theorem dX0_draw_15 : decode cX0_draw 15 = .ok (.irem, 1) := by decide +kernel
theorem dX0_draw_16 : decode cX0_draw 16 = .ok (.putfield 38, 3) := by decide +kernel
theorem dX0_draw_19 : decode cX0_draw 19 = .ok (.aload_n 0, 1) := by decide +kernel
theorem dX0_draw_20 : decode cX0_draw 20 = .ok (.getfield 38, 3) := by decide +kernel
theorem dX0_draw_23 : decode cX0_draw 23 = .ok (.bipush 10, 2) := by decide +kernel
theorem dX0_draw_25 : decode cX0_draw 25 = .ok (.irem, 1) := by decide +kernel
theorem dX0_draw_26 : decode cX0_draw 26 = .ok (.ireturn, 1) := by decide +kernel
theorem dX0_rebuild_0 : decode cX0_rebuild 0 = .ok (.iconst 0, 1) := by decide +kernel
theorem dX0_rebuild_1 : decode cX0_rebuild 1 = .ok (.istore_n 1, 1) := by decide +kernel
theorem dX0_rebuild_2 : decode cX0_rebuild 2 = .ok (.iload_n 1, 1) := by decide +kernel
theorem dX0_rebuild_3 : decode cX0_rebuild 3 = .ok (.bipush 6, 2) := by decide +kernel
theorem dX0_rebuild_5 : decode cX0_rebuild 5 = .ok (.if_icmp .ge 54, 3) := by decide +kernel
theorem dX0_rebuild_8 : decode cX0_rebuild 8 = .ok (.aload_n 0, 1) := by decide +kernel
theorem dX0_rebuild_9 : decode cX0_rebuild 9 = .ok (.iload_n 1, 1) := by decide +kernel
theorem dX0_rebuild_10 : decode cX0_rebuild 10 = .ok (.invokevirtual 112, 3) := by decide +kernel
theorem dX0_rebuild_13 : decode cX0_rebuild 13 = .ok (.ifCond .eq 40, 3) := by decide +kernel
theorem dX0_rebuild_16 : decode cX0_rebuild 16 = .ok (.aload_n 0, 1) := by decide +kernel
theorem dX0_rebuild_17 : decode cX0_rebuild 17 = .ok (.getfield 21, 3) := by decide +kernel
theorem dX0_rebuild_20 : decode cX0_rebuild 20 = .ok (.iload_n 1, 1) := by decide +kernel
theorem dX0_rebuild_21 : decode cX0_rebuild 21 = .ok (.iaload, 1) := by decide +kernel
theorem dX0_rebuild_22 : decode cX0_rebuild 22 = .ok (.aload_n 0, 1) := by decide +kernel
theorem dX0_rebuild_23 : decode cX0_rebuild 23 = .ok (.getfield 18, 3) := by decide +kernel
theorem dX0_rebuild_26 : decode cX0_rebuild 26 = .ok (.iload_n 1, 1) := by decide +kernel
theorem dX0_rebuild_27 : decode cX0_rebuild 27 = .ok (.iaload, 1) := by decide +kernel
theorem dX0_rebuild_28 : decode cX0_rebuild 28 = .ok (.if_icmp .lt 25, 3) := by decide +kernel
theorem dX0_rebuild_31 : decode cX0_rebuild 31 = .ok (.aload_n 0, 1) := by decide +kernel
theorem dX0_rebuild_32 : decode cX0_rebuild 32 = .ok (.dup, 1) := by decide +kernel
theorem dX0_rebuild_33 : decode cX0_rebuild 33 = .ok (.getfield 51, 3) := by decide +kernel
theorem dX0_rebuild_36 : decode cX0_rebuild 36 = .ok (.iconst 1, 1) := by decide +kernel
theorem dX0_rebuild_37 : decode cX0_rebuild 37 = .ok (.iload_n 1, 1) := by decide +kernel
theorem dX0_rebuild_38 : decode cX0_rebuild 38 = .ok (.ishl, 1) := by decide +kernel
theorem dX0_rebuild_39 : decode cX0_rebuild 39 = .ok (.ixor, 1) := by decide +kernel
theorem dX0_rebuild_40 : decode cX0_rebuild 40 = .ok (.putfield 51, 3) := by decide +kernel
theorem dX0_rebuild_43 : decode cX0_rebuild 43 = .ok (.aload_n 0, 1) := by decide +kernel
theorem dX0_rebuild_44 : decode cX0_rebuild 44 = .ok (.dup, 1) := by decide +kernel
theorem dX0_rebuild_45 : decode cX0_rebuild 45 = .ok (.getfield 60, 3) := by decide +kernel
theorem dX0_rebuild_48 : decode cX0_rebuild 48 = .ok (.iconst 1, 1) := by decide +kernel
theorem dX0_rebuild_49 : decode cX0_rebuild 49 = .ok (.iadd, 1) := by decide +kernel
theorem dX0_rebuild_50 : decode cX0_rebuild 50 = .ok (.putfield 60, 3) := by decide +kernel
theorem dX0_rebuild_53 : decode cX0_rebuild 53 = .ok (.iinc 1 1, 3) := by decide +kernel
theorem dX0_rebuild_56 : decode cX0_rebuild 56 = .ok (.goto (-54), 3) := by decide +kernel
theorem dX0_rebuild_59 : decode cX0_rebuild 59 = .ok (.return_, 1) := by decide +kernel
theorem dX0_remember_0 : decode cX0_remember 0 = .ok (.iconst 2, 1) := by decide +kernel
theorem dX0_remember_1 : decode cX0_remember 1 = .ok (.istore_n 2, 1) := by decide +kernel
theorem dX0_remember_2 : decode cX0_remember 2 = .ok (.iload_n 2, 1) := by decide +kernel
theorem dX0_remember_3 : decode cX0_remember 3 = .ok (.ifCond .le 23, 3) := by decide +kernel
theorem dX0_remember_6 : decode cX0_remember 6 = .ok (.aload_n 0, 1) := by decide +kernel
theorem dX0_remember_7 : decode cX0_remember 7 = .ok (.getfield 35, 3) := by decide +kernel
theorem dX0_remember_10 : decode cX0_remember 10 = .ok (.iload_n 2, 1) := by decide +kernel
theorem dX0_remember_11 : decode cX0_remember 11 = .ok (.aload_n 0, 1) := by decide +kernel
theorem dX0_remember_12 : decode cX0_remember 12 = .ok (.getfield 35, 3) := by decide +kernel
theorem dX0_remember_15 : decode cX0_remember 15 = .ok (.iload_n 2, 1) := by decide +kernel
theorem dX0_remember_16 : decode cX0_remember 16 = .ok (.iconst 1, 1) := by decide +kernel
theorem dX0_remember_17 : decode cX0_remember 17 = .ok (.isub, 1) := by decide +kernel
theorem dX0_remember_18 : decode cX0_remember 18 = .ok (.iaload, 1) := by decide +kernel
theorem dX0_remember_19 : decode cX0_remember 19 = .ok (.iastore, 1) := by decide +kernel
theorem dX0_remember_20 : decode cX0_remember 20 = .ok (.iinc 2 (-1), 3) := by decide +kernel
theorem dX0_remember_23 : decode cX0_remember 23 = .ok (.goto (-21), 3) := by decide +kernel
theorem dX0_remember_26 : decode cX0_remember 26 = .ok (.aload_n 0, 1) := by decide +kernel
theorem dX0_remember_27 : decode cX0_remember 27 = .ok (.getfield 35, 3) := by decide +kernel
theorem dX0_remember_30 : decode cX0_remember 30 = .ok (.iconst 0, 1) := by decide +kernel
theorem dX0_remember_31 : decode cX0_remember 31 = .ok (.iload_n 1, 1) := by decide +kernel
theorem dX0_remember_32 : decode cX0_remember 32 = .ok (.iastore, 1) := by decide +kernel
theorem dX0_remember_33 : decode cX0_remember 33 = .ok (.return_, 1) := by decide +kernel
theorem dX0_largestTale_0 : decode cX0_largestTale 0 = .ok (.bipush (-2), 2) := by decide +kernel
theorem dX0_largestTale_2 : decode cX0_largestTale 2 = .ok (.istore_n 2, 1) := by decide +kernel
theorem dX0_largestTale_3 : decode cX0_largestTale 3 = .ok (.aload_n 0, 1) := by decide +kernel
theorem dX0_largestTale_4 : decode cX0_largestTale 4 = .ok (.getfield 18, 3) := by decide +kernel
theorem dX0_largestTale_7 : decode cX0_largestTale 7 = .ok (.iload_n 1, 1) := by decide +kernel
theorem dX0_largestTale_8 : decode cX0_largestTale 8 = .ok (.iaload, 1) := by decide +kernel
theorem dX0_largestTale_9 : decode cX0_largestTale 9 = .ok (.istore_n 3, 1) := by decide +kernel
theorem dX0_largestTale_10 : decode cX0_largestTale 10 = .ok (.iconst 0, 1) := by decide +kernel
theorem dX0_largestTale_11 : decode cX0_largestTale 11 = .ok (.istore 4, 2) := by decide +kernel
theorem dX0_largestTale_13 : decode cX0_largestTale 13 = .ok (.iload 4, 2) := by decide +kernel
theorem dX0_largestTale_15 : decode cX0_largestTale 15 = .ok (.bipush 12, 2) := by decide +kernel
theorem dX0_largestTale_17 : decode cX0_largestTale 17 = .ok (.if_icmp .ge 49, 3) := by decide +kernel
theorem dX0_largestTale_20 : decode cX0_largestTale 20 = .ok (.aload_n 0, 1) := by decide +kernel
theorem dX0_largestTale_21 : decode cX0_largestTale 21 = .ok (.getfield 24, 3) := by decide +kernel
theorem dX0_largestTale_24 : decode cX0_largestTale 24 = .ok (.iload_n 1, 1) := by decide +kernel
theorem dX0_largestTale_25 : decode cX0_largestTale 25 = .ok (.iaload, 1) := by decide +kernel
theorem dX0_largestTale_26 : decode cX0_largestTale 26 = .ok (.iload 4, 2) := by decide +kernel
theorem dX0_largestTale_28 : decode cX0_largestTale 28 = .ok (.invokestatic 67, 3) := by decide +kernel
theorem dX0_largestTale_31 : decode cX0_largestTale 31 = .ok (.ifCond .eq 29, 3) := by decide +kernel
theorem dX0_largestTale_34 : decode cX0_largestTale 34 = .ok (.aload_n 0, 1) := by decide +kernel
theorem dX0_largestTale_35 : decode cX0_largestTale 35 = .ok (.getfield 32, 3) := by decide +kernel
theorem dX0_largestTale_38 : decode cX0_largestTale 38 = .ok (.iload_n 1, 1) := by decide +kernel
theorem dX0_largestTale_39 : decode cX0_largestTale 39 = .ok (.aaload, 1) := by decide +kernel
theorem dX0_largestTale_40 : decode cX0_largestTale 40 = .ok (.iload 4, 2) := by decide +kernel
theorem dX0_largestTale_42 : decode cX0_largestTale 42 = .ok (.iaload, 1) := by decide +kernel
theorem dX0_largestTale_43 : decode cX0_largestTale 43 = .ok (.iload_n 3, 1) := by decide +kernel
theorem dX0_largestTale_44 : decode cX0_largestTale 44 = .ok (.if_icmp .le 16, 3) := by decide +kernel
theorem dX0_largestTale_47 : decode cX0_largestTale 47 = .ok (.iload 4, 2) := by decide +kernel
theorem dX0_largestTale_49 : decode cX0_largestTale 49 = .ok (.istore_n 2, 1) := by decide +kernel
theorem dX0_largestTale_50 : decode cX0_largestTale 50 = .ok (.aload_n 0, 1) := by decide +kernel
theorem dX0_largestTale_51 : decode cX0_largestTale 51 = .ok (.getfield 32, 3) := by decide +kernel
theorem dX0_largestTale_54 : decode cX0_largestTale 54 = .ok (.iload_n 1, 1) := by decide +kernel
theorem dX0_largestTale_55 : decode cX0_largestTale 55 = .ok (.aaload, 1) := by decide +kernel
theorem dX0_largestTale_56 : decode cX0_largestTale 56 = .ok (.iload 4, 2) := by decide +kernel
theorem dX0_largestTale_58 : decode cX0_largestTale 58 = .ok (.iaload, 1) := by decide +kernel
theorem dX0_largestTale_59 : decode cX0_largestTale 59 = .ok (.istore_n 3, 1) := by decide +kernel
theorem dX0_largestTale_60 : decode cX0_largestTale 60 = .ok (.iinc 4 1, 3) := by decide +kernel
theorem dX0_largestTale_63 : decode cX0_largestTale 63 = .ok (.goto (-50), 3) := by decide +kernel
theorem dX0_largestTale_66 : decode cX0_largestTale 66 = .ok (.iload_n 2, 1) := by decide +kernel
theorem dX0_largestTale_67 : decode cX0_largestTale 67 = .ok (.ireturn, 1) := by decide +kernel
theorem dX1_init_0 : decode cX1_init 0 = .ok (.aload_n 0, 1) := by decide +kernel
theorem dX1_init_1 : decode cX1_init 1 = .ok (.invokespecial 3, 3) := by decide +kernel
theorem dX1_init_4 : decode cX1_init 4 = .ok (.aload_n 0, 1) := by decide +kernel
theorem dX1_init_5 : decode cX1_init 5 = .ok (.bipush 6, 2) := by decide +kernel
theorem dX1_init_7 : decode cX1_init 7 = .ok (.bipush 40, 2) := by decide +kernel
theorem dX1_init_9 : decode cX1_init 9 = .ok (.multianewarray 11 2, 4) := by decide +kernel
theorem dX1_init_13 : decode cX1_init 13 = .ok (.putfield 13, 3) := by decide +kernel
theorem dX1_init_16 : decode cX1_init 16 = .ok (.aload_n 0, 1) := by decide +kernel
theorem dX1_init_17 : decode cX1_init 17 = .ok (.bipush 6, 2) := by decide +kernel
theorem dX1_init_19 : decode cX1_init 19 = .ok (.newarray .int, 2) := by decide +kernel
theorem dX1_init_21 : decode cX1_init 21 = .ok (.putfield 16, 3) := by decide +kernel
theorem dX1_init_24 : decode cX1_init 24 = .ok (.aload_n 0, 1) := by decide +kernel
theorem dX1_init_25 : decode cX1_init 25 = .ok (.bipush 41, 2) := by decide +kernel
theorem dX1_init_27 : decode cX1_init 27 = .ok (.newarray .int, 2) := by decide +kernel
theorem dX1_init_29 : decode cX1_init 29 = .ok (.putfield 20, 3) := by decide +kernel
theorem dX1_init_32 : decode cX1_init 32 = .ok (.aload_n 0, 1) := by decide +kernel
theorem dX1_init_33 : decode cX1_init 33 = .ok (.bipush 6, 2) := by decide +kernel
theorem dX1_init_35 : decode cX1_init 35 = .ok (.newarray .int, 2) := by decide +kernel
theorem dX1_init_37 : decode cX1_init 37 = .ok (.putfield 23, 3) := by decide +kernel
theorem dX1_init_40 : decode cX1_init 40 = .ok (.return_, 1) := by decide +kernel
theorem dX1_write_0 : decode cX1_write 0 = .ok (.aload_n 0, 1) := by decide +kernel
theorem dX1_write_1 : decode cX1_write 1 = .ok (.getfield 16, 3) := by decide +kernel
theorem dX1_write_4 : decode cX1_write 4 = .ok (.iload_n 1, 1) := by decide +kernel
theorem dX1_write_5 : decode cX1_write 5 = .ok (.iload_n 3, 1) := by decide +kernel
theorem dX1_write_6 : decode cX1_write 6 = .ok (.bipush 40, 2) := by decide +kernel
theorem dX1_write_8 : decode cX1_write 8 = .ok (.invokestatic 26, 3) := by decide +kernel
theorem dX1_write_11 : decode cX1_write 11 = .ok (.iastore, 1) := by decide +kernel
theorem dX1_write_12 : decode cX1_write 12 = .ok (.aload_n 2, 1) := by decide +kernel
theorem dX1_write_13 : decode cX1_write 13 = .ok (.iconst 0, 1) := by decide +kernel
theorem dX1_write_14 : decode cX1_write 14 = .ok (.aload_n 0, 1) := by decide +kernel
theorem dX1_write_15 : decode cX1_write 15 = .ok (.getfield 13, 3) := by decide +kernel
theorem dX1_write_18 : decode cX1_write 18 = .ok (.iload_n 1, 1) := by decide +kernel
theorem dX1_write_19 : decode cX1_write 19 = .ok (.aaload, 1) := by decide +kernel
theorem dX1_write_20 : decode cX1_write 20 = .ok (.iconst 0, 1) := by decide +kernel
theorem dX1_write_21 : decode cX1_write 21 = .ok (.aload_n 0, 1) := by decide +kernel
theorem dX1_write_22 : decode cX1_write 22 = .ok (.getfield 16, 3) := by decide +kernel
theorem dX1_write_25 : decode cX1_write 25 = .ok (.iload_n 1, 1) := by decide +kernel
theorem dX1_write_26 : decode cX1_write 26 = .ok (.iaload, 1) := by decide +kernel
theorem dX1_write_27 : decode cX1_write 27 = .ok (.invokestatic 32, 3) := by decide +kernel
theorem dX1_write_30 : decode cX1_write 30 = .ok (.return_, 1) := by decide +kernel
theorem dX1_isWritten_0 : decode cX1_isWritten 0 = .ok (.iload_n 1, 1) := by decide +kernel
theorem dX1_isWritten_1 : decode cX1_isWritten 1 = .ok (.invokestatic 38, 3) := by decide +kernel
theorem dX1_isWritten_4 : decode cX1_isWritten 4 = .ok (.ifCond .eq 16, 3) := by decide +kernel
theorem dX1_isWritten_7 : decode cX1_isWritten 7 = .ok (.aload_n 0, 1) := by decide +kernel
theorem dX1_isWritten_8 : decode cX1_isWritten 8 = .ok (.getfield 16, 3) := by decide +kernel
theorem dX1_isWritten_11 : decode cX1_isWritten 11 = .ok (.iload_n 1, 1) := by decide +kernel
theorem dX1_isWritten_12 : decode cX1_isWritten 12 = .ok (.iaload, 1) := by decide +kernel
theorem dX1_isWritten_13 : decode cX1_isWritten 13 = .ok (.ifCond .le 7, 3) := by decide +kernel
theorem dX1_isWritten_16 : decode cX1_isWritten 16 = .ok (.iconst 1, 1) := by decide +kernel
theorem dX1_isWritten_17 : decode cX1_isWritten 17 = .ok (.goto 4, 3) := by decide +kernel
theorem dX1_isWritten_20 : decode cX1_isWritten 20 = .ok (.iconst 0, 1) := by decide +kernel
theorem dX1_isWritten_21 : decode cX1_isWritten 21 = .ok (.ireturn, 1) := by decide +kernel
theorem dX1_written_0 : decode cX1_written 0 = .ok (.iconst 0, 1) := by decide +kernel
theorem dX1_written_1 : decode cX1_written 1 = .ok (.istore_n 1, 1) := by decide +kernel
theorem dX1_written_2 : decode cX1_written 2 = .ok (.iconst 0, 1) := by decide +kernel
theorem dX1_written_3 : decode cX1_written 3 = .ok (.istore_n 2, 1) := by decide +kernel
theorem dX1_written_4 : decode cX1_written 4 = .ok (.iload_n 2, 1) := by decide +kernel
theorem dX1_written_5 : decode cX1_written 5 = .ok (.bipush 6, 2) := by decide +kernel
theorem dX1_written_7 : decode cX1_written 7 = .ok (.if_icmp .ge 23, 3) := by decide +kernel
theorem dX1_written_10 : decode cX1_written 10 = .ok (.aload_n 0, 1) := by decide +kernel
theorem dX1_written_11 : decode cX1_written 11 = .ok (.iload_n 2, 1) := by decide +kernel
theorem dX1_written_12 : decode cX1_written 12 = .ok (.invokevirtual 42, 3) := by decide +kernel
theorem dX1_written_15 : decode cX1_written 15 = .ok (.ifCond .eq 9, 3) := by decide +kernel
theorem dX1_written_18 : decode cX1_written 18 = .ok (.iload_n 1, 1) := by decide +kernel
theorem dX1_written_19 : decode cX1_written 19 = .ok (.iconst 1, 1) := by decide +kernel
theorem dX1_written_20 : decode cX1_written 20 = .ok (.iload_n 2, 1) := by decide +kernel
theorem dX1_written_21 : decode cX1_written 21 = .ok (.ishl, 1) := by decide +kernel
theorem dX1_written_22 : decode cX1_written 22 = .ok (.ior, 1) := by decide +kernel
theorem dX1_written_23 : decode cX1_written 23 = .ok (.istore_n 1, 1) := by decide +kernel
theorem dX1_written_24 : decode cX1_written 24 = .ok (.iinc 2 1, 3) := by decide +kernel
theorem dX1_written_27 : decode cX1_written 27 = .ok (.goto (-23), 3) := by decide +kernel
theorem dX1_written_30 : decode cX1_written 30 = .ok (.iload_n 1, 1) := by decide +kernel
theorem dX1_written_31 : decode cX1_written 31 = .ok (.ireturn, 1) := by decide +kernel
theorem dX1_apart_0 : decode cX1_apart 0 = .ok (.aload_n 0, 1) := by decide +kernel
theorem dX1_apart_1 : decode cX1_apart 1 = .ok (.aload_n 0, 1) := by decide +kernel
theorem dX1_apart_2 : decode cX1_apart 2 = .ok (.getfield 13, 3) := by decide +kernel
theorem dX1_apart_5 : decode cX1_apart 5 = .ok (.iload_n 1, 1) := by decide +kernel
theorem dX1_apart_6 : decode cX1_apart 6 = .ok (.aaload, 1) := by decide +kernel
theorem dX1_apart_7 : decode cX1_apart 7 = .ok (.aload_n 0, 1) := by decide +kernel
theorem dX1_apart_8 : decode cX1_apart 8 = .ok (.getfield 16, 3) := by decide +kernel
theorem dX1_apart_11 : decode cX1_apart 11 = .ok (.iload_n 1, 1) := by decide +kernel
theorem dX1_apart_12 : decode cX1_apart 12 = .ok (.iaload, 1) := by decide +kernel
theorem dX1_apart_13 : decode cX1_apart 13 = .ok (.iload_n 2, 1) := by decide +kernel
theorem dX1_apart_14 : decode cX1_apart 14 = .ok (.invokevirtual 45, 3) := by decide +kernel
theorem dX1_apart_17 : decode cX1_apart 17 = .ok (.ireturn, 1) := by decide +kernel
theorem dX1_changes_0 : decode cX1_changes 0 = .ok (.aload_n 0, 1) := by decide +kernel
theorem dX1_changes_1 : decode cX1_changes 1 = .ok (.getfield 13, 3) := by decide +kernel
theorem dX1_changes_4 : decode cX1_changes 4 = .ok (.iload_n 3, 1) := by decide +kernel
theorem dX1_changes_5 : decode cX1_changes 5 = .ok (.aaload, 1) := by decide +kernel
theorem dX1_changes_6 : decode cX1_changes 6 = .ok (.astore 4, 2) := by decide +kernel
theorem dX1_changes_8 : decode cX1_changes 8 = .ok (.aload_n 0, 1) := by decide +kernel
theorem dX1_changes_9 : decode cX1_changes 9 = .ok (.getfield 16, 3) := by decide +kernel
theorem dX1_changes_12 : decode cX1_changes 12 = .ok (.iload_n 3, 1) := by decide +kernel
theorem dX1_changes_13 : decode cX1_changes 13 = .ok (.iaload, 1) := by decide +kernel
theorem dX1_changes_14 : decode cX1_changes 14 = .ok (.istore 5, 2) := by decide +kernel
theorem dX1_changes_16 : decode cX1_changes 16 = .ok (.iconst 0, 1) := by decide +kernel
theorem dX1_changes_17 : decode cX1_changes 17 = .ok (.istore 6, 2) := by decide +kernel
theorem dX1_changes_19 : decode cX1_changes 19 = .ok (.iload 6, 2) := by decide +kernel
theorem dX1_changes_21 : decode cX1_changes 21 = .ok (.iload 5, 2) := by decide +kernel
theorem dX1_changes_23 : decode cX1_changes 23 = .ok (.if_icmp .gt 18, 3) := by decide +kernel
theorem dX1_changes_26 : decode cX1_changes 26 = .ok (.aload_n 0, 1) := by decide +kernel
theorem dX1_changes_27 : decode cX1_changes 27 = .ok (.getfield 20, 3) := by decide +kernel
theorem dX1_changes_30 : decode cX1_changes 30 = .ok (.iload 6, 2) := by decide +kernel
theorem dX1_changes_32 : decode cX1_changes 32 = .ok (.iload 6, 2) := by decide +kernel
theorem dX1_changes_34 : decode cX1_changes 34 = .ok (.iastore, 1) := by decide +kernel
theorem dX1_changes_35 : decode cX1_changes 35 = .ok (.iinc 6 1, 3) := by decide +kernel
theorem dX1_changes_38 : decode cX1_changes 38 = .ok (.goto (-19), 3) := by decide +kernel
theorem dX1_changes_41 : decode cX1_changes 41 = .ok (.iconst 0, 1) := by decide +kernel
theorem dX1_changes_42 : decode cX1_changes 42 = .ok (.istore 6, 2) := by decide +kernel
theorem dX1_changes_44 : decode cX1_changes 44 = .ok (.iload 6, 2) := by decide +kernel
theorem dX1_changes_46 : decode cX1_changes 46 = .ok (.iload_n 2, 1) := by decide +kernel
theorem dX1_changes_47 : decode cX1_changes 47 = .ok (.if_icmp .ge 111, 3) := by decide +kernel
theorem dX1_changes_50 : decode cX1_changes 50 = .ok (.iload 6, 2) := by decide +kernel
theorem dX1_changes_52 : decode cX1_changes 52 = .ok (.bipush 40, 2) := by decide +kernel
theorem dX1_changes_54 : decode cX1_changes 54 = .ok (.if_icmp .ge 104, 3) := by decide +kernel
theorem dX1_changes_57 : decode cX1_changes 57 = .ok (.aload_n 0, 1) := by decide +kernel
theorem dX1_changes_58 : decode cX1_changes 58 = .ok (.getfield 20, 3) := by decide +kernel
theorem dX1_changes_61 : decode cX1_changes 61 = .ok (.iconst 0, 1) := by decide +kernel
theorem dX1_changes_62 : decode cX1_changes 62 = .ok (.iaload, 1) := by decide +kernel
theorem dX1_changes_63 : decode cX1_changes 63 = .ok (.istore 7, 2) := by decide +kernel
theorem dX1_changes_65 : decode cX1_changes 65 = .ok (.aload_n 0, 1) := by decide +kernel
theorem dX1_changes_66 : decode cX1_changes 66 = .ok (.getfield 20, 3) := by decide +kernel
theorem dX1_changes_69 : decode cX1_changes 69 = .ok (.iconst 0, 1) := by decide +kernel
theorem dX1_changes_70 : decode cX1_changes 70 = .ok (.iload 6, 2) := by decide +kernel
theorem dX1_changes_72 : decode cX1_changes 72 = .ok (.iconst 1, 1) := by decide +kernel
theorem dX1_changes_73 : decode cX1_changes 73 = .ok (.iadd, 1) := by decide +kernel
theorem dX1_changes_74 : decode cX1_changes 74 = .ok (.iastore, 1) := by decide +kernel
theorem dX1_changes_75 : decode cX1_changes 75 = .ok (.iconst 0, 1) := by decide +kernel
theorem dX1_changes_76 : decode cX1_changes 76 = .ok (.istore 8, 2) := by decide +kernel
theorem dX1_changes_78 : decode cX1_changes 78 = .ok (.iload 8, 2) := by decide +kernel
theorem dX1_changes_80 : decode cX1_changes 80 = .ok (.iload 5, 2) := by decide +kernel
theorem dX1_changes_82 : decode cX1_changes 82 = .ok (.if_icmp .ge 70, 3) := by decide +kernel
theorem dX1_changes_85 : decode cX1_changes 85 = .ok (.iload 7, 2) := by decide +kernel
theorem dX1_changes_87 : decode cX1_changes 87 = .ok (.aload_n 1, 1) := by decide +kernel
theorem dX1_changes_88 : decode cX1_changes 88 = .ok (.iload 6, 2) := by decide +kernel
theorem dX1_changes_90 : decode cX1_changes 90 = .ok (.iaload, 1) := by decide +kernel
theorem dX1_changes_91 : decode cX1_changes 91 = .ok (.aload 4, 2) := by decide +kernel
theorem dX1_changes_93 : decode cX1_changes 93 = .ok (.iload 8, 2) := by decide +kernel
theorem dX1_changes_95 : decode cX1_changes 95 = .ok (.iaload, 1) := by decide +kernel
theorem dX1_changes_96 : decode cX1_changes 96 = .ok (.if_icmp .ne 7, 3) := by decide +kernel
theorem dX1_changes_99 : decode cX1_changes 99 = .ok (.iconst 0, 1) := by decide +kernel
theorem dX1_changes_100 : decode cX1_changes 100 = .ok (.goto 4, 3) := by decide +kernel
theorem dX1_changes_103 : decode cX1_changes 103 = .ok (.iconst 1, 1) := by decide +kernel
theorem dX1_changes_104 : decode cX1_changes 104 = .ok (.iadd, 1) := by decide +kernel
theorem dX1_changes_105 : decode cX1_changes 105 = .ok (.istore 9, 2) := by decide +kernel
theorem dX1_changes_107 : decode cX1_changes 107 = .ok (.aload_n 0, 1) := by decide +kernel
theorem dX1_changes_108 : decode cX1_changes 108 = .ok (.getfield 20, 3) := by decide +kernel
theorem dX1_changes_111 : decode cX1_changes 111 = .ok (.iload 8, 2) := by decide +kernel
theorem dX1_changes_113 : decode cX1_changes 113 = .ok (.iconst 1, 1) := by decide +kernel
theorem dX1_changes_114 : decode cX1_changes 114 = .ok (.iadd, 1) := by decide +kernel
theorem dX1_changes_115 : decode cX1_changes 115 = .ok (.iaload, 1) := by decide +kernel
theorem dX1_changes_116 : decode cX1_changes 116 = .ok (.istore 7, 2) := by decide +kernel
theorem dX1_changes_118 : decode cX1_changes 118 = .ok (.aload_n 0, 1) := by decide +kernel
theorem dX1_changes_119 : decode cX1_changes 119 = .ok (.getfield 20, 3) := by decide +kernel
theorem dX1_changes_122 : decode cX1_changes 122 = .ok (.iload 8, 2) := by decide +kernel
theorem dX1_changes_124 : decode cX1_changes 124 = .ok (.iconst 1, 1) := by decide +kernel
theorem dX1_changes_125 : decode cX1_changes 125 = .ok (.iadd, 1) := by decide +kernel
theorem dX1_changes_126 : decode cX1_changes 126 = .ok (.iload 9, 2) := by decide +kernel
theorem dX1_changes_128 : decode cX1_changes 128 = .ok (.iload 7, 2) := by decide +kernel
theorem dX1_changes_130 : decode cX1_changes 130 = .ok (.aload_n 0, 1) := by decide +kernel
theorem dX1_changes_131 : decode cX1_changes 131 = .ok (.getfield 20, 3) := by decide +kernel
theorem dX1_changes_134 : decode cX1_changes 134 = .ok (.iload 8, 2) := by decide +kernel
theorem dX1_changes_136 : decode cX1_changes 136 = .ok (.iaload, 1) := by decide +kernel
theorem dX1_changes_137 : decode cX1_changes 137 = .ok (.invokestatic 26, 3) := by decide +kernel
theorem dX1_changes_140 : decode cX1_changes 140 = .ok (.iconst 1, 1) := by decide +kernel
theorem dX1_changes_141 : decode cX1_changes 141 = .ok (.iadd, 1) := by decide +kernel
theorem dX1_changes_142 : decode cX1_changes 142 = .ok (.invokestatic 26, 3) := by decide +kernel
theorem dX1_changes_145 : decode cX1_changes 145 = .ok (.iastore, 1) := by decide +kernel
theorem dX1_changes_146 : decode cX1_changes 146 = .ok (.iinc 8 1, 3) := by decide +kernel
theorem dX1_changes_149 : decode cX1_changes 149 = .ok (.goto (-71), 3) := by decide +kernel
theorem dX1_changes_152 : decode cX1_changes 152 = .ok (.iinc 6 1, 3) := by decide +kernel
theorem dX1_changes_155 : decode cX1_changes 155 = .ok (.goto (-111), 3) := by decide +kernel
theorem dX1_changes_158 : decode cX1_changes 158 = .ok (.aload_n 0, 1) := by decide +kernel
theorem dX1_changes_159 : decode cX1_changes 159 = .ok (.getfield 20, 3) := by decide +kernel
theorem dX1_changes_162 : decode cX1_changes 162 = .ok (.iload 5, 2) := by decide +kernel
theorem dX1_changes_164 : decode cX1_changes 164 = .ok (.iaload, 1) := by decide +kernel
theorem dX1_changes_165 : decode cX1_changes 165 = .ok (.ireturn, 1) := by decide +kernel
theorem dX1_nearestTo_0 : decode cX1_nearestTo 0 = .ok (.bipush (-2), 2) := by decide +kernel
theorem dX1_nearestTo_2 : decode cX1_nearestTo 2 = .ok (.istore_n 3, 1) := by decide +kernel
theorem dX1_nearestTo_3 : decode cX1_nearestTo 3 = .ok (.aload_n 0, 1) := by decide +kernel
theorem dX1_nearestTo_4 : decode cX1_nearestTo 4 = .ok (.bipush 80, 2) := by decide +kernel
theorem dX1_nearestTo_6 : decode cX1_nearestTo 6 = .ok (.putfield 49, 3) := by decide +kernel
theorem dX1_nearestTo_9 : decode cX1_nearestTo 9 = .ok (.iconst 0, 1) := by decide +kernel
theorem dX1_nearestTo_10 : decode cX1_nearestTo 10 = .ok (.istore 4, 2) := by decide +kernel
theorem dX1_nearestTo_12 : decode cX1_nearestTo 12 = .ok (.iload 4, 2) := by decide +kernel
theorem dX1_nearestTo_14 : decode cX1_nearestTo 14 = .ok (.bipush 6, 2) := by decide +kernel
theorem dX1_nearestTo_16 : decode cX1_nearestTo 16 = .ok (.if_icmp .ge 46, 3) := by decide +kernel
theorem dX1_nearestTo_19 : decode cX1_nearestTo 19 = .ok (.aload_n 0, 1) := by decide +kernel
theorem dX1_nearestTo_20 : decode cX1_nearestTo 20 = .ok (.iload 4, 2) := by decide +kernel
theorem dX1_nearestTo_22 : decode cX1_nearestTo 22 = .ok (.invokevirtual 42, 3) := by decide +kernel
theorem dX1_nearestTo_25 : decode cX1_nearestTo 25 = .ok (.ifCond .eq 31, 3) := by decide +kernel
theorem dX1_nearestTo_28 : decode cX1_nearestTo 28 = .ok (.aload_n 0, 1) := by decide +kernel
theorem dX1_nearestTo_29 : decode cX1_nearestTo 29 = .ok (.aload_n 1, 1) := by decide +kernel
theorem dX1_nearestTo_30 : decode cX1_nearestTo 30 = .ok (.iload_n 2, 1) := by decide +kernel
theorem dX1_nearestTo_31 : decode cX1_nearestTo 31 = .ok (.iload 4, 2) := by decide +kernel
theorem dX1_nearestTo_33 : decode cX1_nearestTo 33 = .ok (.invokevirtual 45, 3) := by decide +kernel
theorem dX1_nearestTo_36 : decode cX1_nearestTo 36 = .ok (.istore 5, 2) := by decide +kernel
theorem dX1_nearestTo_38 : decode cX1_nearestTo 38 = .ok (.iload 5, 2) := by decide +kernel
theorem dX1_nearestTo_40 : decode cX1_nearestTo 40 = .ok (.aload_n 0, 1) := by decide +kernel
theorem dX1_nearestTo_41 : decode cX1_nearestTo 41 = .ok (.getfield 49, 3) := by decide +kernel
theorem dX1_nearestTo_44 : decode cX1_nearestTo 44 = .ok (.if_icmp .ge 12, 3) := by decide +kernel
theorem dX1_nearestTo_47 : decode cX1_nearestTo 47 = .ok (.iload 4, 2) := by decide +kernel
theorem dX1_nearestTo_49 : decode cX1_nearestTo 49 = .ok (.istore_n 3, 1) := by decide +kernel
theorem dX1_nearestTo_50 : decode cX1_nearestTo 50 = .ok (.aload_n 0, 1) := by decide +kernel
theorem dX1_nearestTo_51 : decode cX1_nearestTo 51 = .ok (.iload 5, 2) := by decide +kernel
theorem dX1_nearestTo_53 : decode cX1_nearestTo 53 = .ok (.putfield 49, 3) := by decide +kernel
theorem dX1_nearestTo_56 : decode cX1_nearestTo 56 = .ok (.iinc 4 1, 3) := by decide +kernel
theorem dX1_nearestTo_59 : decode cX1_nearestTo 59 = .ok (.goto (-47), 3) := by decide +kernel
theorem dX1_nearestTo_62 : decode cX1_nearestTo 62 = .ok (.iload_n 3, 1) := by decide +kernel
theorem dX1_nearestTo_63 : decode cX1_nearestTo 63 = .ok (.ireturn, 1) := by decide +kernel
theorem dX1_tree_0 : decode cX1_tree 0 = .ok (.aload_n 0, 1) := by decide +kernel
theorem dX1_tree_1 : decode cX1_tree 1 = .ok (.invokevirtual 53, 3) := by decide +kernel
theorem dX1_tree_4 : decode cX1_tree 4 = .ok (.istore_n 1, 1) := by decide +kernel
theorem dX1_tree_5 : decode cX1_tree 5 = .ok (.iload_n 1, 1) := by decide +kernel
theorem dX1_tree_6 : decode cX1_tree 6 = .ok (.ifCond .ne 6, 3) := by decide +kernel
theorem dX1_tree_9 : decode cX1_tree 9 = .ok (.bipush (-2), 2) := by decide +kernel
theorem dX1_tree_11 : decode cX1_tree 11 = .ok (.ireturn, 1) := by decide +kernel
theorem dX1_tree_12 : decode cX1_tree 12 = .ok (.iload_n 1, 1) := by decide +kernel
theorem dX1_tree_13 : decode cX1_tree 13 = .ok (.invokestatic 57, 3) := by decide +kernel
theorem dX1_tree_16 : decode cX1_tree 16 = .ok (.istore_n 2, 1) := by decide +kernel
theorem dX1_tree_17 : decode cX1_tree 17 = .ok (.iconst 0, 1) := by decide +kernel
theorem dX1_tree_18 : decode cX1_tree 18 = .ok (.istore_n 3, 1) := by decide +kernel
theorem dX1_tree_19 : decode cX1_tree 19 = .ok (.iload_n 3, 1) := by decide +kernel
theorem dX1_tree_20 : decode cX1_tree 20 = .ok (.bipush 6, 2) := by decide +kernel
theorem dX1_tree_22 : decode cX1_tree 22 = .ok (.if_icmp .ge 17, 3) := by decide +kernel
theorem dX1_tree_25 : decode cX1_tree 25 = .ok (.aload_n 0, 1) := by decide +kernel
theorem dX1_tree_26 : decode cX1_tree 26 = .ok (.getfield 23, 3) := by decide +kernel
theorem dX1_tree_29 : decode cX1_tree 29 = .ok (.iload_n 3, 1) := by decide +kernel
theorem dX1_tree_30 : decode cX1_tree 30 = .ok (.bipush 40, 2) := by decide +kernel
theorem dX1_tree_32 : decode cX1_tree 32 = .ok (.iastore, 1) := by decide +kernel
theorem dX1_tree_33 : decode cX1_tree 33 = .ok (.iinc 3 1, 3) := by decide +kernel
theorem dX1_tree_36 : decode cX1_tree 36 = .ok (.goto (-17), 3) := by decide +kernel
theorem dX1_tree_39 : decode cX1_tree 39 = .ok (.iconst 0, 1) := by decide +kernel
theorem dX1_tree_40 : decode cX1_tree 40 = .ok (.istore_n 3, 1) := by decide +kernel
theorem dX1_tree_41 : decode cX1_tree 41 = .ok (.iload_n 1, 1) := by decide +kernel
theorem dX1_tree_42 : decode cX1_tree 42 = .ok (.iconst 1, 1) := by decide +kernel
theorem dX1_tree_43 : decode cX1_tree 43 = .ok (.iload_n 2, 1) := by decide +kernel
theorem dX1_tree_44 : decode cX1_tree 44 = .ok (.ishl, 1) := by decide +kernel
theorem dX1_tree_45 : decode cX1_tree 45 = .ok (.ixor, 1) := by decide +kernel
theorem dX1_tree_46 : decode cX1_tree 46 = .ok (.istore_n 1, 1) := by decide +kernel
theorem dX1_tree_47 : decode cX1_tree 47 = .ok (.iconst 0, 1) := by decide +kernel
theorem dX1_tree_48 : decode cX1_tree 48 = .ok (.istore 4, 2) := by decide +kernel
theorem dX1_tree_50 : decode cX1_tree 50 = .ok (.iload 4, 2) := by decide +kernel
theorem dX1_tree_52 : decode cX1_tree 52 = .ok (.bipush 6, 2) := by decide +kernel
theorem dX1_tree_54 : decode cX1_tree 54 = .ok (.if_icmp .ge 35, 3) := by decide +kernel
theorem dX1_tree_57 : decode cX1_tree 57 = .ok (.iload_n 1, 1) := by decide +kernel
theorem dX1_tree_58 : decode cX1_tree 58 = .ok (.ifCond .eq 31, 3) := by decide +kernel
theorem dX1_tree_61 : decode cX1_tree 61 = .ok (.aload_n 0, 1) := by decide +kernel
theorem dX1_tree_62 : decode cX1_tree 62 = .ok (.iload_n 1, 1) := by decide +kernel
theorem dX1_tree_63 : decode cX1_tree 63 = .ok (.iload_n 2, 1) := by decide +kernel
theorem dX1_tree_64 : decode cX1_tree 64 = .ok (.invokevirtual 61, 3) := by decide +kernel
theorem dX1_tree_67 : decode cX1_tree 67 = .ok (.istore_n 2, 1) := by decide +kernel
theorem dX1_tree_68 : decode cX1_tree 68 = .ok (.iload_n 1, 1) := by decide +kernel
theorem dX1_tree_69 : decode cX1_tree 69 = .ok (.iconst 1, 1) := by decide +kernel
theorem dX1_tree_70 : decode cX1_tree 70 = .ok (.iload_n 2, 1) := by decide +kernel
theorem dX1_tree_71 : decode cX1_tree 71 = .ok (.ishl, 1) := by decide +kernel
theorem dX1_tree_72 : decode cX1_tree 72 = .ok (.ixor, 1) := by decide +kernel
theorem dX1_tree_73 : decode cX1_tree 73 = .ok (.istore_n 1, 1) := by decide +kernel
theorem dX1_tree_74 : decode cX1_tree 74 = .ok (.iload_n 3, 1) := by decide +kernel
theorem dX1_tree_75 : decode cX1_tree 75 = .ok (.aload_n 0, 1) := by decide +kernel
theorem dX1_tree_76 : decode cX1_tree 76 = .ok (.getfield 23, 3) := by decide +kernel
theorem dX1_tree_79 : decode cX1_tree 79 = .ok (.iload_n 2, 1) := by decide +kernel
theorem dX1_tree_80 : decode cX1_tree 80 = .ok (.iaload, 1) := by decide +kernel
theorem dX1_tree_81 : decode cX1_tree 81 = .ok (.iadd, 1) := by decide +kernel
theorem dX1_tree_82 : decode cX1_tree 82 = .ok (.istore_n 3, 1) := by decide +kernel
theorem dX1_tree_83 : decode cX1_tree 83 = .ok (.iinc 4 1, 3) := by decide +kernel
theorem dX1_tree_86 : decode cX1_tree 86 = .ok (.goto (-36), 3) := by decide +kernel
theorem dX1_tree_89 : decode cX1_tree 89 = .ok (.iload_n 3, 1) := by decide +kernel
theorem dX1_tree_90 : decode cX1_tree 90 = .ok (.ireturn, 1) := by decide +kernel
theorem dX1_lowest_0 : decode cX1_lowest 0 = .ok (.iconst 0, 1) := by decide +kernel
theorem dX1_lowest_1 : decode cX1_lowest 1 = .ok (.istore_n 1, 1) := by decide +kernel
theorem dX1_lowest_2 : decode cX1_lowest 2 = .ok (.iload_n 1, 1) := by decide +kernel
theorem dX1_lowest_3 : decode cX1_lowest 3 = .ok (.iconst 5, 1) := by decide +kernel
theorem dX1_lowest_4 : decode cX1_lowest 4 = .ok (.if_icmp .ge 17, 3) := by decide +kernel
theorem dX1_lowest_7 : decode cX1_lowest 7 = .ok (.iload_n 0, 1) := by decide +kernel
theorem dX1_lowest_8 : decode cX1_lowest 8 = .ok (.iload_n 1, 1) := by decide +kernel
theorem dX1_lowest_9 : decode cX1_lowest 9 = .ok (.invokestatic 64, 3) := by decide +kernel
theorem dX1_lowest_12 : decode cX1_lowest 12 = .ok (.ifCond .ne 9, 3) := by decide +kernel
theorem dX1_lowest_15 : decode cX1_lowest 15 = .ok (.iinc 1 1, 3) := by decide +kernel
theorem dX1_lowest_18 : decode cX1_lowest 18 = .ok (.goto (-16), 3) := by decide +kernel
theorem dX1_lowest_21 : decode cX1_lowest 21 = .ok (.iload_n 1, 1) := by decide +kernel
theorem dX1_lowest_22 : decode cX1_lowest 22 = .ok (.ireturn, 1) := by decide +kernel
theorem dX1_nearestOf_0 : decode cX1_nearestOf 0 = .ok (.iload_n 1, 1) := by decide +kernel
theorem dX1_nearestOf_1 : decode cX1_nearestOf 1 = .ok (.invokestatic 57, 3) := by decide +kernel
theorem dX1_nearestOf_4 : decode cX1_nearestOf 4 = .ok (.istore_n 3, 1) := by decide +kernel
theorem dX1_nearestOf_5 : decode cX1_nearestOf 5 = .ok (.iconst 0, 1) := by decide +kernel
theorem dX1_nearestOf_6 : decode cX1_nearestOf 6 = .ok (.istore 4, 2) := by decide +kernel
theorem dX1_nearestOf_8 : decode cX1_nearestOf 8 = .ok (.iload 4, 2) := by decide +kernel
theorem dX1_nearestOf_10 : decode cX1_nearestOf 10 = .ok (.bipush 6, 2) := by decide +kernel
theorem dX1_nearestOf_12 : decode cX1_nearestOf 12 = .ok (.if_icmp .ge 61, 3) := by decide +kernel
theorem dX1_nearestOf_15 : decode cX1_nearestOf 15 = .ok (.iload_n 1, 1) := by decide +kernel
theorem dX1_nearestOf_16 : decode cX1_nearestOf 16 = .ok (.iload 4, 2) := by decide +kernel
theorem dX1_nearestOf_18 : decode cX1_nearestOf 18 = .ok (.invokestatic 64, 3) := by decide +kernel
theorem dX1_nearestOf_21 : decode cX1_nearestOf 21 = .ok (.ifCond .eq 46, 3) := by decide +kernel
theorem dX1_nearestOf_24 : decode cX1_nearestOf 24 = .ok (.aload_n 0, 1) := by decide +kernel
theorem dX1_nearestOf_25 : decode cX1_nearestOf 25 = .ok (.getfield 23, 3) := by decide +kernel
theorem dX1_nearestOf_28 : decode cX1_nearestOf 28 = .ok (.iload 4, 2) := by decide +kernel
theorem dX1_nearestOf_30 : decode cX1_nearestOf 30 = .ok (.aload_n 0, 1) := by decide +kernel
theorem dX1_nearestOf_31 : decode cX1_nearestOf 31 = .ok (.getfield 23, 3) := by decide +kernel
theorem dX1_nearestOf_34 : decode cX1_nearestOf 34 = .ok (.iload 4, 2) := by decide +kernel
theorem dX1_nearestOf_36 : decode cX1_nearestOf 36 = .ok (.iaload, 1) := by decide +kernel
theorem dX1_nearestOf_37 : decode cX1_nearestOf 37 = .ok (.aload_n 0, 1) := by decide +kernel
theorem dX1_nearestOf_38 : decode cX1_nearestOf 38 = .ok (.iload 4, 2) := by decide +kernel
theorem dX1_nearestOf_40 : decode cX1_nearestOf 40 = .ok (.iload_n 2, 1) := by decide +kernel
theorem dX1_nearestOf_41 : decode cX1_nearestOf 41 = .ok (.invokevirtual 68, 3) := by decide +kernel
theorem dX1_nearestOf_44 : decode cX1_nearestOf 44 = .ok (.invokestatic 26, 3) := by decide +kernel
theorem dX1_nearestOf_47 : decode cX1_nearestOf 47 = .ok (.iastore, 1) := by decide +kernel
theorem dX1_nearestOf_48 : decode cX1_nearestOf 48 = .ok (.aload_n 0, 1) := by decide +kernel
theorem dX1_nearestOf_49 : decode cX1_nearestOf 49 = .ok (.getfield 23, 3) := by decide +kernel
theorem dX1_nearestOf_52 : decode cX1_nearestOf 52 = .ok (.iload 4, 2) := by decide +kernel
theorem dX1_nearestOf_54 : decode cX1_nearestOf 54 = .ok (.iaload, 1) := by decide +kernel
theorem dX1_nearestOf_55 : decode cX1_nearestOf 55 = .ok (.aload_n 0, 1) := by decide +kernel
theorem dX1_nearestOf_56 : decode cX1_nearestOf 56 = .ok (.getfield 23, 3) := by decide +kernel
theorem dX1_nearestOf_59 : decode cX1_nearestOf 59 = .ok (.iload_n 3, 1) := by decide +kernel
theorem dX1_nearestOf_60 : decode cX1_nearestOf 60 = .ok (.iaload, 1) := by decide +kernel
theorem dX1_nearestOf_61 : decode cX1_nearestOf 61 = .ok (.if_icmp .ge 6, 3) := by decide +kernel
theorem dX1_nearestOf_64 : decode cX1_nearestOf 64 = .ok (.iload 4, 2) := by decide +kernel
theorem dX1_nearestOf_66 : decode cX1_nearestOf 66 = .ok (.istore_n 3, 1) := by decide +kernel
theorem dX1_nearestOf_67 : decode cX1_nearestOf 67 = .ok (.iinc 4 1, 3) := by decide +kernel
theorem dX1_nearestOf_70 : decode cX1_nearestOf 70 = .ok (.goto (-62), 3) := by decide +kernel
theorem dX1_nearestOf_73 : decode cX1_nearestOf 73 = .ok (.iload_n 3, 1) := by decide +kernel
theorem dX1_nearestOf_74 : decode cX1_nearestOf 74 = .ok (.ireturn, 1) := by decide +kernel
theorem dX1_partAt_0 : decode cX1_partAt 0 = .ok (.aload_n 0, 1) := by decide +kernel
theorem dX1_partAt_1 : decode cX1_partAt 1 = .ok (.getfield 16, 3) := by decide +kernel
theorem dX1_partAt_4 : decode cX1_partAt 4 = .ok (.iload_n 1, 1) := by decide +kernel
theorem dX1_partAt_5 : decode cX1_partAt 5 = .ok (.iaload, 1) := by decide +kernel
theorem dX1_partAt_6 : decode cX1_partAt 6 = .ok (.aload_n 0, 1) := by decide +kernel
theorem dX1_partAt_7 : decode cX1_partAt 7 = .ok (.getfield 16, 3) := by decide +kernel
theorem dX1_partAt_10 : decode cX1_partAt 10 = .ok (.iload_n 2, 1) := by decide +kernel
theorem dX1_partAt_11 : decode cX1_partAt 11 = .ok (.iaload, 1) := by decide +kernel
theorem dX1_partAt_12 : decode cX1_partAt 12 = .ok (.invokestatic 26, 3) := by decide +kernel
theorem dX1_partAt_15 : decode cX1_partAt 15 = .ok (.istore_n 3, 1) := by decide +kernel
theorem dX1_partAt_16 : decode cX1_partAt 16 = .ok (.iconst 0, 1) := by decide +kernel
theorem dX1_partAt_17 : decode cX1_partAt 17 = .ok (.istore 4, 2) := by decide +kernel
theorem dX1_partAt_19 : decode cX1_partAt 19 = .ok (.iload 4, 2) := by decide +kernel
theorem dX1_partAt_21 : decode cX1_partAt 21 = .ok (.iload_n 3, 1) := by decide +kernel
theorem dX1_partAt_22 : decode cX1_partAt 22 = .ok (.if_icmp .ge 40, 3) := by decide +kernel
theorem dX1_partAt_25 : decode cX1_partAt 25 = .ok (.iload 4, 2) := by decide +kernel
theorem dX1_partAt_27 : decode cX1_partAt 27 = .ok (.bipush 40, 2) := by decide +kernel
theorem dX1_partAt_29 : decode cX1_partAt 29 = .ok (.if_icmp .ge 33, 3) := by decide +kernel
theorem dX1_partAt_32 : decode cX1_partAt 32 = .ok (.aload_n 0, 1) := by decide +kernel
theorem dX1_partAt_33 : decode cX1_partAt 33 = .ok (.getfield 13, 3) := by decide +kernel
theorem dX1_partAt_36 : decode cX1_partAt 36 = .ok (.iload_n 1, 1) := by decide +kernel
theorem dX1_partAt_37 : decode cX1_partAt 37 = .ok (.aaload, 1) := by decide +kernel
theorem dX1_partAt_38 : decode cX1_partAt 38 = .ok (.iload 4, 2) := by decide +kernel
theorem dX1_partAt_40 : decode cX1_partAt 40 = .ok (.iaload, 1) := by decide +kernel
theorem dX1_partAt_41 : decode cX1_partAt 41 = .ok (.aload_n 0, 1) := by decide +kernel
theorem dX1_partAt_42 : decode cX1_partAt 42 = .ok (.getfield 13, 3) := by decide +kernel
theorem dX1_partAt_45 : decode cX1_partAt 45 = .ok (.iload_n 2, 1) := by decide +kernel
theorem dX1_partAt_46 : decode cX1_partAt 46 = .ok (.aaload, 1) := by decide +kernel
theorem dX1_partAt_47 : decode cX1_partAt 47 = .ok (.iload 4, 2) := by decide +kernel
theorem dX1_partAt_49 : decode cX1_partAt 49 = .ok (.iaload, 1) := by decide +kernel
theorem dX1_partAt_50 : decode cX1_partAt 50 = .ok (.if_icmp .eq 6, 3) := by decide +kernel
theorem dX1_partAt_53 : decode cX1_partAt 53 = .ok (.iload 4, 2) := by decide +kernel
theorem dX1_partAt_55 : decode cX1_partAt 55 = .ok (.ireturn, 1) := by decide +kernel
theorem dX1_partAt_56 : decode cX1_partAt 56 = .ok (.iinc 4 1, 3) := by decide +kernel
theorem dX1_partAt_59 : decode cX1_partAt 59 = .ok (.goto (-40), 3) := by decide +kernel
theorem dX1_partAt_62 : decode cX1_partAt 62 = .ok (.aload_n 0, 1) := by decide +kernel
theorem dX1_partAt_63 : decode cX1_partAt 63 = .ok (.getfield 16, 3) := by decide +kernel
theorem dX1_partAt_66 : decode cX1_partAt 66 = .ok (.iload_n 1, 1) := by decide +kernel
theorem dX1_partAt_67 : decode cX1_partAt 67 = .ok (.iaload, 1) := by decide +kernel
theorem dX1_partAt_68 : decode cX1_partAt 68 = .ok (.aload_n 0, 1) := by decide +kernel
theorem dX1_partAt_69 : decode cX1_partAt 69 = .ok (.getfield 16, 3) := by decide +kernel
theorem dX1_partAt_72 : decode cX1_partAt 72 = .ok (.iload_n 2, 1) := by decide +kernel
theorem dX1_partAt_73 : decode cX1_partAt 73 = .ok (.iaload, 1) := by decide +kernel
theorem dX1_partAt_74 : decode cX1_partAt 74 = .ok (.if_icmp .ne 8, 3) := by decide +kernel
theorem dX1_partAt_77 : decode cX1_partAt 77 = .ok (.bipush (-2), 2) := by decide +kernel
theorem dX1_partAt_79 : decode cX1_partAt 79 = .ok (.goto 4, 3) := by decide +kernel
theorem dX1_partAt_82 : decode cX1_partAt 82 = .ok (.iload_n 3, 1) := by decide +kernel
theorem dX1_partAt_83 : decode cX1_partAt 83 = .ok (.ireturn, 1) := by decide +kernel
theorem dX2_init_0 : decode cX2_init 0 = .ok (.aload_n 0, 1) := by decide +kernel
theorem dX2_init_1 : decode cX2_init 1 = .ok (.invokespecial 3, 3) := by decide +kernel
theorem dX2_init_4 : decode cX2_init 4 = .ok (.aload_n 0, 1) := by decide +kernel
theorem dX2_init_5 : decode cX2_init 5 = .ok (.bipush 12, 2) := by decide +kernel
theorem dX2_init_7 : decode cX2_init 7 = .ok (.newarray .int, 2) := by decide +kernel
theorem dX2_init_9 : decode cX2_init 9 = .ok (.putfield 9, 3) := by decide +kernel
theorem dX2_init_12 : decode cX2_init 12 = .ok (.aload_n 0, 1) := by decide +kernel
theorem dX2_init_13 : decode cX2_init 13 = .ok (.iconst 5, 1) := by decide +kernel
theorem dX2_init_14 : decode cX2_init 14 = .ok (.bipush 6, 2) := by decide +kernel
theorem dX2_init_16 : decode cX2_init 16 = .ok (.multianewarray 15 2, 4) := by decide +kernel
theorem dX2_init_20 : decode cX2_init 20 = .ok (.putfield 17, 3) := by decide +kernel
theorem dX2_init_23 : decode cX2_init 23 = .ok (.aload_n 0, 1) := by decide +kernel
theorem dX2_init_24 : decode cX2_init 24 = .ok (.bipush 64, 2) := by decide +kernel
theorem dX2_init_26 : decode cX2_init 26 = .ok (.newarray .int, 2) := by decide +kernel
theorem dX2_init_28 : decode cX2_init 28 = .ok (.putfield 20, 3) := by decide +kernel
theorem dX2_init_31 : decode cX2_init 31 = .ok (.return_, 1) := by decide +kernel
theorem dX2_spread_0 : decode cX2_spread 0 = .ok (.iconst 0, 1) := by decide +kernel
theorem dX2_spread_1 : decode cX2_spread 1 = .ok (.istore 5, 2) := by decide +kernel
theorem dX2_spread_3 : decode cX2_spread 3 = .ok (.iload 5, 2) := by decide +kernel
theorem dX2_spread_5 : decode cX2_spread 5 = .ok (.bipush 12, 2) := by decide +kernel
theorem dX2_spread_7 : decode cX2_spread 7 = .ok (.if_icmp .ge 36, 3) := by decide +kernel
theorem dX2_spread_10 : decode cX2_spread 10 = .ok (.aload_n 0, 1) := by decide +kernel
theorem dX2_spread_11 : decode cX2_spread 11 = .ok (.getfield 9, 3) := by decide +kernel
theorem dX2_spread_14 : decode cX2_spread 14 = .ok (.iload 5, 2) := by decide +kernel
theorem dX2_spread_16 : decode cX2_spread 16 = .ok (.aload_n 2, 1) := by decide +kernel
theorem dX2_spread_17 : decode cX2_spread 17 = .ok (.getfield 23, 3) := by decide +kernel
theorem dX2_spread_20 : decode cX2_spread 20 = .ok (.iload_n 1, 1) := by decide +kernel
theorem dX2_spread_21 : decode cX2_spread 21 = .ok (.iaload, 1) := by decide +kernel
theorem dX2_spread_22 : decode cX2_spread 22 = .ok (.iload 5, 2) := by decide +kernel
theorem dX2_spread_24 : decode cX2_spread 24 = .ok (.invokestatic 28, 3) := by decide +kernel
theorem dX2_spread_27 : decode cX2_spread 27 = .ok (.ifCond .eq 7, 3) := by decide +kernel
theorem dX2_spread_30 : decode cX2_spread 30 = .ok (.iconst 0, 1) := by decide +kernel
theorem dX2_spread_31 : decode cX2_spread 31 = .ok (.goto 5, 3) := by decide +kernel
theorem dX2_spread_34 : decode cX2_spread 34 = .ok (.bipush (-2), 2) := by decide +kernel
theorem dX2_spread_36 : decode cX2_spread 36 = .ok (.iastore, 1) := by decide +kernel
theorem dX2_spread_37 : decode cX2_spread 37 = .ok (.iinc 5 1, 3) := by decide +kernel
theorem dX2_spread_40 : decode cX2_spread 40 = .ok (.goto (-37), 3) := by decide +kernel
theorem dX2_spread_43 : decode cX2_spread 43 = .ok (.iconst 0, 1) := by decide +kernel
theorem dX2_spread_44 : decode cX2_spread 44 = .ok (.istore 5, 2) := by decide +kernel
theorem dX2_spread_46 : decode cX2_spread 46 = .ok (.iconst 1, 1) := by decide +kernel
theorem dX2_spread_47 : decode cX2_spread 47 = .ok (.istore 6, 2) := by decide +kernel
theorem dX2_spread_49 : decode cX2_spread 49 = .ok (.iload 6, 2) := by decide +kernel
theorem dX2_spread_51 : decode cX2_spread 51 = .ok (.bipush 100, 2) := by decide +kernel
theorem dX2_spread_53 : decode cX2_spread 53 = .ok (.if_icmp .gt 107, 3) := by decide +kernel
theorem dX2_spread_56 : decode cX2_spread 56 = .ok (.iload 5, 2) := by decide +kernel
theorem dX2_spread_58 : decode cX2_spread 58 = .ok (.bipush 12, 2) := by decide +kernel
theorem dX2_spread_60 : decode cX2_spread 60 = .ok (.if_icmp .ge 100, 3) := by decide +kernel
theorem dX2_spread_63 : decode cX2_spread 63 = .ok (.aload_n 2, 1) := by decide +kernel
theorem dX2_spread_64 : decode cX2_spread 64 = .ok (.getfield 23, 3) := by decide +kernel
theorem dX2_spread_67 : decode cX2_spread 67 = .ok (.iload_n 1, 1) := by decide +kernel
theorem dX2_spread_68 : decode cX2_spread 68 = .ok (.iaload, 1) := by decide +kernel
theorem dX2_spread_69 : decode cX2_spread 69 = .ok (.istore 7, 2) := by decide +kernel
theorem dX2_spread_71 : decode cX2_spread 71 = .ok (.aload_n 2, 1) := by decide +kernel
theorem dX2_spread_72 : decode cX2_spread 72 = .ok (.iload_n 1, 1) := by decide +kernel
theorem dX2_spread_73 : decode cX2_spread 73 = .ok (.aload_n 3, 1) := by decide +kernel
theorem dX2_spread_74 : decode cX2_spread 74 = .ok (.aload 4, 2) := by decide +kernel
theorem dX2_spread_76 : decode cX2_spread 76 = .ok (.invokevirtual 32, 3) := by decide +kernel
theorem dX2_spread_79 : decode cX2_spread 79 = .ok (.aload_n 2, 1) := by decide +kernel
theorem dX2_spread_80 : decode cX2_spread 80 = .ok (.dup, 1) := by decide +kernel
theorem dX2_spread_81 : decode cX2_spread 81 = .ok (.getfield 36, 3) := by decide +kernel
theorem dX2_spread_84 : decode cX2_spread 84 = .ok (.iconst 1, 1) := by decide +kernel
theorem dX2_spread_85 : decode cX2_spread 85 = .ok (.iadd, 1) := by decide +kernel
theorem dX2_spread_86 : decode cX2_spread 86 = .ok (.putfield 36, 3) := by decide +kernel
theorem dX2_spread_89 : decode cX2_spread 89 = .ok (.aload_n 2, 1) := by decide +kernel
theorem dX2_spread_90 : decode cX2_spread 90 = .ok (.getfield 23, 3) := by decide +kernel
theorem dX2_spread_93 : decode cX2_spread 93 = .ok (.iload_n 1, 1) := by decide +kernel
theorem dX2_spread_94 : decode cX2_spread 94 = .ok (.iaload, 1) := by decide +kernel
theorem dX2_spread_95 : decode cX2_spread 95 = .ok (.iload 7, 2) := by decide +kernel
theorem dX2_spread_97 : decode cX2_spread 97 = .ok (.if_icmp .ne 10, 3) := by decide +kernel
theorem dX2_spread_100 : decode cX2_spread 100 = .ok (.iload 5, 2) := by decide +kernel
theorem dX2_spread_102 : decode cX2_spread 102 = .ok (.iconst 1, 1) := by decide +kernel
theorem dX2_spread_103 : decode cX2_spread 103 = .ok (.iadd, 1) := by decide +kernel
theorem dX2_spread_104 : decode cX2_spread 104 = .ok (.goto 4, 3) := by decide +kernel
theorem dX2_spread_107 : decode cX2_spread 107 = .ok (.iconst 0, 1) := by decide +kernel
theorem dX2_spread_108 : decode cX2_spread 108 = .ok (.istore 5, 2) := by decide +kernel
theorem dX2_spread_110 : decode cX2_spread 110 = .ok (.iconst 0, 1) := by decide +kernel
theorem dX2_spread_111 : decode cX2_spread 111 = .ok (.istore 8, 2) := by decide +kernel
theorem dX2_spread_113 : decode cX2_spread 113 = .ok (.iload 8, 2) := by decide +kernel
theorem dX2_spread_115 : decode cX2_spread 115 = .ok (.bipush 12, 2) := by decide +kernel
theorem dX2_spread_117 : decode cX2_spread 117 = .ok (.if_icmp .ge 37, 3) := by decide +kernel
theorem dX2_spread_120 : decode cX2_spread 120 = .ok (.aload_n 2, 1) := by decide +kernel
theorem dX2_spread_121 : decode cX2_spread 121 = .ok (.getfield 23, 3) := by decide +kernel
theorem dX2_spread_124 : decode cX2_spread 124 = .ok (.iload_n 1, 1) := by decide +kernel
theorem dX2_spread_125 : decode cX2_spread 125 = .ok (.iaload, 1) := by decide +kernel
theorem dX2_spread_126 : decode cX2_spread 126 = .ok (.iload 7, 2) := by decide +kernel
theorem dX2_spread_128 : decode cX2_spread 128 = .ok (.iconst (-1), 1) := by decide +kernel
theorem dX2_spread_129 : decode cX2_spread 129 = .ok (.ixor, 1) := by decide +kernel
theorem dX2_spread_130 : decode cX2_spread 130 = .ok (.iand, 1) := by decide +kernel
theorem dX2_spread_131 : decode cX2_spread 131 = .ok (.iload 8, 2) := by decide +kernel
theorem dX2_spread_133 : decode cX2_spread 133 = .ok (.invokestatic 28, 3) := by decide +kernel
theorem dX2_spread_136 : decode cX2_spread 136 = .ok (.ifCond .eq 12, 3) := by decide +kernel
theorem dX2_spread_139 : decode cX2_spread 139 = .ok (.aload_n 0, 1) := by decide +kernel
theorem dX2_spread_140 : decode cX2_spread 140 = .ok (.getfield 9, 3) := by decide +kernel
theorem dX2_spread_143 : decode cX2_spread 143 = .ok (.iload 8, 2) := by decide +kernel
theorem dX2_spread_145 : decode cX2_spread 145 = .ok (.iload 6, 2) := by decide +kernel
theorem dX2_spread_147 : decode cX2_spread 147 = .ok (.iastore, 1) := by decide +kernel
theorem dX2_spread_148 : decode cX2_spread 148 = .ok (.iinc 8 1, 3) := by decide +kernel
theorem dX2_spread_151 : decode cX2_spread 151 = .ok (.goto (-38), 3) := by decide +kernel
theorem dX2_spread_154 : decode cX2_spread 154 = .ok (.iinc 6 1, 3) := by decide +kernel
theorem dX2_spread_157 : decode cX2_spread 157 = .ok (.goto (-108), 3) := by decide +kernel
theorem dX2_spread_160 : decode cX2_spread 160 = .ok (.return_, 1) := by decide +kernel
theorem dX2_howMany_0 : decode cX2_howMany 0 = .ok (.iconst 0, 1) := by decide +kernel
theorem dX2_howMany_1 : decode cX2_howMany 1 = .ok (.istore_n 1, 1) := by decide +kernel
theorem dX2_howMany_2 : decode cX2_howMany 2 = .ok (.iconst 0, 1) := by decide +kernel
theorem dX2_howMany_3 : decode cX2_howMany 3 = .ok (.istore_n 2, 1) := by decide +kernel
theorem dX2_howMany_4 : decode cX2_howMany 4 = .ok (.iload_n 2, 1) := by decide +kernel
theorem dX2_howMany_5 : decode cX2_howMany 5 = .ok (.bipush 12, 2) := by decide +kernel
theorem dX2_howMany_7 : decode cX2_howMany 7 = .ok (.if_icmp .ge 21, 3) := by decide +kernel
theorem dX2_howMany_10 : decode cX2_howMany 10 = .ok (.aload_n 0, 1) := by decide +kernel
theorem dX2_howMany_11 : decode cX2_howMany 11 = .ok (.getfield 9, 3) := by decide +kernel
theorem dX2_howMany_14 : decode cX2_howMany 14 = .ok (.iload_n 2, 1) := by decide +kernel
theorem dX2_howMany_15 : decode cX2_howMany 15 = .ok (.iaload, 1) := by decide +kernel
theorem dX2_howMany_16 : decode cX2_howMany 16 = .ok (.ifCond .lt 6, 3) := by decide +kernel
theorem dX2_howMany_19 : decode cX2_howMany 19 = .ok (.iinc 1 1, 3) := by decide +kernel
theorem dX2_howMany_22 : decode cX2_howMany 22 = .ok (.iinc 2 1, 3) := by decide +kernel
theorem dX2_howMany_25 : decode cX2_howMany 25 = .ok (.goto (-21), 3) := by decide +kernel
theorem dX2_howMany_28 : decode cX2_howMany 28 = .ok (.iload_n 1, 1) := by decide +kernel
theorem dX2_howMany_29 : decode cX2_howMany 29 = .ok (.ireturn, 1) := by decide +kernel
theorem dX2_last_0 : decode cX2_last 0 = .ok (.bipush (-2), 2) := by decide +kernel
theorem dX2_last_2 : decode cX2_last 2 = .ok (.istore_n 1, 1) := by decide +kernel
theorem dX2_last_3 : decode cX2_last 3 = .ok (.iconst 0, 1) := by decide +kernel
theorem dX2_last_4 : decode cX2_last 4 = .ok (.istore_n 2, 1) := by decide +kernel
theorem dX2_last_5 : decode cX2_last 5 = .ok (.iload_n 2, 1) := by decide +kernel
theorem dX2_last_6 : decode cX2_last 6 = .ok (.bipush 12, 2) := by decide +kernel
theorem dX2_last_8 : decode cX2_last 8 = .ok (.if_icmp .ge 25, 3) := by decide +kernel
theorem dX2_last_11 : decode cX2_last 11 = .ok (.aload_n 0, 1) := by decide +kernel
theorem dX2_last_12 : decode cX2_last 12 = .ok (.getfield 9, 3) := by decide +kernel
theorem dX2_last_15 : decode cX2_last 15 = .ok (.iload_n 2, 1) := by decide +kernel
theorem dX2_last_16 : decode cX2_last 16 = .ok (.iaload, 1) := by decide +kernel
theorem dX2_last_17 : decode cX2_last 17 = .ok (.aload_n 0, 1) := by decide +kernel
theorem dX2_last_18 : decode cX2_last 18 = .ok (.iload_n 1, 1) := by decide +kernel
theorem dX2_last_19 : decode cX2_last 19 = .ok (.invokevirtual 40, 3) := by decide +kernel
theorem dX2_last_22 : decode cX2_last 22 = .ok (.if_icmp .le 5, 3) := by decide +kernel
theorem dX2_last_25 : decode cX2_last 25 = .ok (.iload_n 2, 1) := by decide +kernel
theorem dX2_last_26 : decode cX2_last 26 = .ok (.istore_n 1, 1) := by decide +kernel
theorem dX2_last_27 : decode cX2_last 27 = .ok (.iinc 2 1, 3) := by decide +kernel
theorem dX2_last_30 : decode cX2_last 30 = .ok (.goto (-25), 3) := by decide +kernel
theorem dX2_last_33 : decode cX2_last 33 = .ok (.iload_n 1, 1) := by decide +kernel
theorem dX2_last_34 : decode cX2_last 34 = .ok (.ireturn, 1) := by decide +kernel
theorem dX2_behindIn_0 : decode cX2_behindIn 0 = .ok (.iload_n 1, 1) := by decide +kernel
theorem dX2_behindIn_1 : decode cX2_behindIn 1 = .ok (.iconst 0, 1) := by decide +kernel
theorem dX2_behindIn_2 : decode cX2_behindIn 2 = .ok (.bipush 11, 2) := by decide +kernel
theorem dX2_behindIn_4 : decode cX2_behindIn 4 = .ok (.invokestatic 44, 3) := by decide +kernel
theorem dX2_behindIn_7 : decode cX2_behindIn 7 = .ok (.ifCond .eq 12, 3) := by decide +kernel
theorem dX2_behindIn_10 : decode cX2_behindIn 10 = .ok (.aload_n 0, 1) := by decide +kernel
theorem dX2_behindIn_11 : decode cX2_behindIn 11 = .ok (.getfield 9, 3) := by decide +kernel
theorem dX2_behindIn_14 : decode cX2_behindIn 14 = .ok (.iload_n 1, 1) := by decide +kernel
theorem dX2_behindIn_15 : decode cX2_behindIn 15 = .ok (.iaload, 1) := by decide +kernel
theorem dX2_behindIn_16 : decode cX2_behindIn 16 = .ok (.goto 5, 3) := by decide +kernel
theorem dX2_behindIn_19 : decode cX2_behindIn 19 = .ok (.bipush (-2), 2) := by decide +kernel
theorem dX2_behindIn_21 : decode cX2_behindIn 21 = .ok (.ireturn, 1) := by decide +kernel
theorem dX2_readMost_0 : decode cX2_readMost 0 = .ok (.iload_n 2, 1) := by decide +kernel
theorem dX2_readMost_1 : decode cX2_readMost 1 = .ok (.invokestatic 48, 3) := by decide +kernel
theorem dX2_readMost_4 : decode cX2_readMost 4 = .ok (.istore 5, 2) := by decide +kernel
theorem dX2_readMost_6 : decode cX2_readMost 6 = .ok (.iconst 0, 1) := by decide +kernel
theorem dX2_readMost_7 : decode cX2_readMost 7 = .ok (.istore 6, 2) := by decide +kernel
theorem dX2_readMost_9 : decode cX2_readMost 9 = .ok (.iload 6, 2) := by decide +kernel
theorem dX2_readMost_11 : decode cX2_readMost 11 = .ok (.iload 5, 2) := by decide +kernel
theorem dX2_readMost_13 : decode cX2_readMost 13 = .ok (.if_icmp .ge 77, 3) := by decide +kernel
theorem dX2_readMost_16 : decode cX2_readMost 16 = .ok (.iload 6, 2) := by decide +kernel
theorem dX2_readMost_18 : decode cX2_readMost 18 = .ok (.iconst 5, 1) := by decide +kernel
theorem dX2_readMost_19 : decode cX2_readMost 19 = .ok (.if_icmp .ge 71, 3) := by decide +kernel
theorem dX2_readMost_22 : decode cX2_readMost 22 = .ok (.aload_n 3, 1) := by decide +kernel
theorem dX2_readMost_23 : decode cX2_readMost 23 = .ok (.iload_n 1, 1) := by decide +kernel
theorem dX2_readMost_24 : decode cX2_readMost 24 = .ok (.iload 6, 2) := by decide +kernel
theorem dX2_readMost_26 : decode cX2_readMost 26 = .ok (.iconst 1, 1) := by decide +kernel
theorem dX2_readMost_27 : decode cX2_readMost 27 = .ok (.invokevirtual 53, 3) := by decide +kernel
theorem dX2_readMost_30 : decode cX2_readMost 30 = .ok (.istore 7, 2) := by decide +kernel
theorem dX2_readMost_32 : decode cX2_readMost 32 = .ok (.iconst 0, 1) := by decide +kernel
theorem dX2_readMost_33 : decode cX2_readMost 33 = .ok (.istore 8, 2) := by decide +kernel
theorem dX2_readMost_35 : decode cX2_readMost 35 = .ok (.iload 8, 2) := by decide +kernel
theorem dX2_readMost_37 : decode cX2_readMost 37 = .ok (.bipush 6, 2) := by decide +kernel
theorem dX2_readMost_39 : decode cX2_readMost 39 = .ok (.if_icmp .ge 45, 3) := by decide +kernel
theorem dX2_readMost_42 : decode cX2_readMost 42 = .ok (.aload_n 0, 1) := by decide +kernel
theorem dX2_readMost_43 : decode cX2_readMost 43 = .ok (.getfield 17, 3) := by decide +kernel
theorem dX2_readMost_46 : decode cX2_readMost 46 = .ok (.iload 6, 2) := by decide +kernel
theorem dX2_readMost_48 : decode cX2_readMost 48 = .ok (.aaload, 1) := by decide +kernel
theorem dX2_readMost_49 : decode cX2_readMost 49 = .ok (.iload 8, 2) := by decide +kernel
theorem dX2_readMost_51 : decode cX2_readMost 51 = .ok (.iload_n 2, 1) := by decide +kernel
theorem dX2_readMost_52 : decode cX2_readMost 52 = .ok (.iload 8, 2) := by decide +kernel
theorem dX2_readMost_54 : decode cX2_readMost 54 = .ok (.invokestatic 28, 3) := by decide +kernel
theorem dX2_readMost_57 : decode cX2_readMost 57 = .ok (.ifCond .eq 19, 3) := by decide +kernel
theorem dX2_readMost_60 : decode cX2_readMost 60 = .ok (.aload_n 3, 1) := by decide +kernel
theorem dX2_readMost_61 : decode cX2_readMost 61 = .ok (.iload 6, 2) := by decide +kernel
theorem dX2_readMost_63 : decode cX2_readMost 63 = .ok (.iload_n 1, 1) := by decide +kernel
theorem dX2_readMost_64 : decode cX2_readMost 64 = .ok (.iload 8, 2) := by decide +kernel
theorem dX2_readMost_66 : decode cX2_readMost 66 = .ok (.iload 7, 2) := by decide +kernel
theorem dX2_readMost_68 : decode cX2_readMost 68 = .ok (.aload 4, 2) := by decide +kernel
theorem dX2_readMost_70 : decode cX2_readMost 70 = .ok (.invokevirtual 57, 3) := by decide +kernel
theorem dX2_readMost_73 : decode cX2_readMost 73 = .ok (.goto 4, 3) := by decide +kernel
theorem dX2_readMost_76 : decode cX2_readMost 76 = .ok (.iconst 0, 1) := by decide +kernel
theorem dX2_readMost_77 : decode cX2_readMost 77 = .ok (.iastore, 1) := by decide +kernel
theorem dX2_readMost_78 : decode cX2_readMost 78 = .ok (.iinc 8 1, 3) := by decide +kernel
theorem dX2_readMost_81 : decode cX2_readMost 81 = .ok (.goto (-46), 3) := by decide +kernel
theorem dX2_readMost_84 : decode cX2_readMost 84 = .ok (.iinc 6 1, 3) := by decide +kernel
theorem dX2_readMost_87 : decode cX2_readMost 87 = .ok (.goto (-78), 3) := by decide +kernel
theorem dX2_readMost_90 : decode cX2_readMost 90 = .ok (.aload_n 0, 1) := by decide +kernel
theorem dX2_readMost_91 : decode cX2_readMost 91 = .ok (.getfield 20, 3) := by decide +kernel
theorem dX2_readMost_94 : decode cX2_readMost 94 = .ok (.iconst 0, 1) := by decide +kernel
theorem dX2_readMost_95 : decode cX2_readMost 95 = .ok (.iconst 0, 1) := by decide +kernel
theorem dX2_readMost_96 : decode cX2_readMost 96 = .ok (.iastore, 1) := by decide +kernel
theorem dX2_readMost_97 : decode cX2_readMost 97 = .ok (.iconst 1, 1) := by decide +kernel
theorem dX2_readMost_98 : decode cX2_readMost 98 = .ok (.istore 6, 2) := by decide +kernel
theorem dX2_readMost_100 : decode cX2_readMost 100 = .ok (.iload 6, 2) := by decide +kernel
theorem dX2_readMost_102 : decode cX2_readMost 102 = .ok (.iload_n 2, 1) := by decide +kernel
theorem dX2_readMost_103 : decode cX2_readMost 103 = .ok (.if_icmp .gt 49, 3) := by decide +kernel
theorem dX2_readMost_106 : decode cX2_readMost 106 = .ok (.iload 6, 2) := by decide +kernel
theorem dX2_readMost_108 : decode cX2_readMost 108 = .ok (.aload_n 0, 1) := by decide +kernel
theorem dX2_readMost_109 : decode cX2_readMost 109 = .ok (.getfield 20, 3) := by decide +kernel
theorem dX2_readMost_112 : decode cX2_readMost 112 = .ok (.arraylength, 1) := by decide +kernel
theorem dX2_readMost_113 : decode cX2_readMost 113 = .ok (.if_icmp .ge 39, 3) := by decide +kernel
theorem dX2_readMost_116 : decode cX2_readMost 116 = .ok (.iload 6, 2) := by decide +kernel
theorem dX2_readMost_118 : decode cX2_readMost 118 = .ok (.iload_n 2, 1) := by decide +kernel
theorem dX2_readMost_119 : decode cX2_readMost 119 = .ok (.iconst (-1), 1) := by decide +kernel
theorem dX2_readMost_120 : decode cX2_readMost 120 = .ok (.ixor, 1) := by decide +kernel
theorem dX2_readMost_121 : decode cX2_readMost 121 = .ok (.iand, 1) := by decide +kernel
theorem dX2_readMost_122 : decode cX2_readMost 122 = .ok (.ifCond .ne 24, 3) := by decide +kernel
theorem dX2_readMost_125 : decode cX2_readMost 125 = .ok (.aload_n 0, 1) := by decide +kernel
theorem dX2_readMost_126 : decode cX2_readMost 126 = .ok (.getfield 20, 3) := by decide +kernel
theorem dX2_readMost_129 : decode cX2_readMost 129 = .ok (.iload 6, 2) := by decide +kernel
theorem dX2_readMost_131 : decode cX2_readMost 131 = .ok (.aload_n 0, 1) := by decide +kernel
theorem dX2_readMost_132 : decode cX2_readMost 132 = .ok (.iload 6, 2) := by decide +kernel
theorem dX2_readMost_134 : decode cX2_readMost 134 = .ok (.iload 5, 2) := by decide +kernel
theorem dX2_readMost_136 : decode cX2_readMost 136 = .ok (.iload 6, 2) := by decide +kernel
theorem dX2_readMost_138 : decode cX2_readMost 138 = .ok (.invokestatic 48, 3) := by decide +kernel
theorem dX2_readMost_141 : decode cX2_readMost 141 = .ok (.isub, 1) := by decide +kernel
theorem dX2_readMost_142 : decode cX2_readMost 142 = .ok (.invokevirtual 61, 3) := by decide +kernel
theorem dX2_readMost_145 : decode cX2_readMost 145 = .ok (.iastore, 1) := by decide +kernel
theorem dX2_readMost_146 : decode cX2_readMost 146 = .ok (.iinc 6 1, 3) := by decide +kernel
theorem dX2_readMost_149 : decode cX2_readMost 149 = .ok (.goto (-49), 3) := by decide +kernel
theorem dX2_readMost_152 : decode cX2_readMost 152 = .ok (.iload_n 2, 1) := by decide +kernel
theorem dX2_readMost_153 : decode cX2_readMost 153 = .ok (.iconst 0, 1) := by decide +kernel
theorem dX2_readMost_154 : decode cX2_readMost 154 = .ok (.aload_n 0, 1) := by decide +kernel
theorem dX2_readMost_155 : decode cX2_readMost 155 = .ok (.getfield 20, 3) := by decide +kernel
theorem dX2_readMost_158 : decode cX2_readMost 158 = .ok (.arraylength, 1) := by decide +kernel
theorem dX2_readMost_159 : decode cX2_readMost 159 = .ok (.iconst 1, 1) := by decide +kernel
theorem dX2_readMost_160 : decode cX2_readMost 160 = .ok (.isub, 1) := by decide +kernel
theorem dX2_readMost_161 : decode cX2_readMost 161 = .ok (.invokestatic 44, 3) := by decide +kernel
theorem dX2_readMost_164 : decode cX2_readMost 164 = .ok (.ifCond .eq 12, 3) := by decide +kernel
theorem dX2_readMost_167 : decode cX2_readMost 167 = .ok (.aload_n 0, 1) := by decide +kernel
theorem dX2_readMost_168 : decode cX2_readMost 168 = .ok (.getfield 20, 3) := by decide +kernel
theorem dX2_readMost_171 : decode cX2_readMost 171 = .ok (.iload_n 2, 1) := by decide +kernel
theorem dX2_readMost_172 : decode cX2_readMost 172 = .ok (.iaload, 1) := by decide +kernel
theorem dX2_readMost_173 : decode cX2_readMost 173 = .ok (.goto 4, 3) := by decide +kernel
theorem dX2_readMost_176 : decode cX2_readMost 176 = .ok (.iconst 0, 1) := by decide +kernel
theorem dX2_readMost_177 : decode cX2_readMost 177 = .ok (.ireturn, 1) := by decide +kernel
theorem dX2_mostOf_0 : decode cX2_mostOf 0 = .ok (.iconst 0, 1) := by decide +kernel
theorem dX2_mostOf_1 : decode cX2_mostOf 1 = .ok (.istore_n 3, 1) := by decide +kernel
theorem dX2_mostOf_2 : decode cX2_mostOf 2 = .ok (.iconst 0, 1) := by decide +kernel
theorem dX2_mostOf_3 : decode cX2_mostOf 3 = .ok (.istore 4, 2) := by decide +kernel
theorem dX2_mostOf_5 : decode cX2_mostOf 5 = .ok (.iload 4, 2) := by decide +kernel
theorem dX2_mostOf_7 : decode cX2_mostOf 7 = .ok (.bipush 6, 2) := by decide +kernel
theorem dX2_mostOf_9 : decode cX2_mostOf 9 = .ok (.if_icmp .ge 31, 3) := by decide +kernel
theorem dX2_mostOf_12 : decode cX2_mostOf 12 = .ok (.iload_n 1, 1) := by decide +kernel
theorem dX2_mostOf_13 : decode cX2_mostOf 13 = .ok (.iload 4, 2) := by decide +kernel
theorem dX2_mostOf_15 : decode cX2_mostOf 15 = .ok (.invokestatic 28, 3) := by decide +kernel
theorem dX2_mostOf_18 : decode cX2_mostOf 18 = .ok (.ifCond .eq 16, 3) := by decide +kernel
theorem dX2_mostOf_21 : decode cX2_mostOf 21 = .ok (.iload_n 3, 1) := by decide +kernel
theorem dX2_mostOf_22 : decode cX2_mostOf 22 = .ok (.aload_n 0, 1) := by decide +kernel
theorem dX2_mostOf_23 : decode cX2_mostOf 23 = .ok (.iload_n 1, 1) := by decide +kernel
theorem dX2_mostOf_24 : decode cX2_mostOf 24 = .ok (.iload_n 2, 1) := by decide +kernel
theorem dX2_mostOf_25 : decode cX2_mostOf 25 = .ok (.iload 4, 2) := by decide +kernel
theorem dX2_mostOf_27 : decode cX2_mostOf 27 = .ok (.invokevirtual 65, 3) := by decide +kernel
theorem dX2_mostOf_30 : decode cX2_mostOf 30 = .ok (.invokestatic 68, 3) := by decide +kernel
theorem dX2_mostOf_33 : decode cX2_mostOf 33 = .ok (.istore_n 3, 1) := by decide +kernel
theorem dX2_mostOf_34 : decode cX2_mostOf 34 = .ok (.iinc 4 1, 3) := by decide +kernel
theorem dX2_mostOf_37 : decode cX2_mostOf 37 = .ok (.goto (-32), 3) := by decide +kernel
theorem dX2_mostOf_40 : decode cX2_mostOf 40 = .ok (.iload_n 3, 1) := by decide +kernel
theorem dX2_mostOf_41 : decode cX2_mostOf 41 = .ok (.ireturn, 1) := by decide +kernel
theorem dX2_giftsFrom_0 : decode cX2_giftsFrom 0 = .ok (.iload_n 2, 1) := by decide +kernel
theorem dX2_giftsFrom_1 : decode cX2_giftsFrom 1 = .ok (.iconst 0, 1) := by decide +kernel
theorem dX2_giftsFrom_2 : decode cX2_giftsFrom 2 = .ok (.iconst 4, 1) := by decide +kernel
theorem dX2_giftsFrom_3 : decode cX2_giftsFrom 3 = .ok (.invokestatic 44, 3) := by decide +kernel
theorem dX2_giftsFrom_6 : decode cX2_giftsFrom 6 = .ok (.ifCond .eq 25, 3) := by decide +kernel
theorem dX2_giftsFrom_9 : decode cX2_giftsFrom 9 = .ok (.aload_n 0, 1) := by decide +kernel
theorem dX2_giftsFrom_10 : decode cX2_giftsFrom 10 = .ok (.getfield 17, 3) := by decide +kernel
theorem dX2_giftsFrom_13 : decode cX2_giftsFrom 13 = .ok (.iload_n 2, 1) := by decide +kernel
theorem dX2_giftsFrom_14 : decode cX2_giftsFrom 14 = .ok (.aaload, 1) := by decide +kernel
theorem dX2_giftsFrom_15 : decode cX2_giftsFrom 15 = .ok (.iload_n 3, 1) := by decide +kernel
theorem dX2_giftsFrom_16 : decode cX2_giftsFrom 16 = .ok (.iaload, 1) := by decide +kernel
theorem dX2_giftsFrom_17 : decode cX2_giftsFrom 17 = .ok (.aload_n 0, 1) := by decide +kernel
theorem dX2_giftsFrom_18 : decode cX2_giftsFrom 18 = .ok (.getfield 20, 3) := by decide +kernel
theorem dX2_giftsFrom_21 : decode cX2_giftsFrom 21 = .ok (.iload_n 1, 1) := by decide +kernel
theorem dX2_giftsFrom_22 : decode cX2_giftsFrom 22 = .ok (.iconst 1, 1) := by decide +kernel
theorem dX2_giftsFrom_23 : decode cX2_giftsFrom 23 = .ok (.iload_n 3, 1) := by decide +kernel
theorem dX2_giftsFrom_24 : decode cX2_giftsFrom 24 = .ok (.ishl, 1) := by decide +kernel
theorem dX2_giftsFrom_25 : decode cX2_giftsFrom 25 = .ok (.ixor, 1) := by decide +kernel
theorem dX2_giftsFrom_26 : decode cX2_giftsFrom 26 = .ok (.iaload, 1) := by decide +kernel
theorem dX2_giftsFrom_27 : decode cX2_giftsFrom 27 = .ok (.iadd, 1) := by decide +kernel
theorem dX2_giftsFrom_28 : decode cX2_giftsFrom 28 = .ok (.goto 4, 3) := by decide +kernel
theorem dX2_giftsFrom_31 : decode cX2_giftsFrom 31 = .ok (.iconst 0, 1) := by decide +kernel
theorem dX2_giftsFrom_32 : decode cX2_giftsFrom 32 = .ok (.ireturn, 1) := by decide +kernel
theorem dX2_readAt_0 : decode cX2_readAt 0 = .ok (.iload_n 1, 1) := by decide +kernel
theorem dX2_readAt_1 : decode cX2_readAt 1 = .ok (.istore_n 3, 1) := by decide +kernel
theorem dX2_readAt_2 : decode cX2_readAt 2 = .ok (.iconst (-1), 1) := by decide +kernel
theorem dX2_readAt_3 : decode cX2_readAt 3 = .ok (.istore 4, 2) := by decide +kernel
theorem dX2_readAt_5 : decode cX2_readAt 5 = .ok (.iconst 0, 1) := by decide +kernel
theorem dX2_readAt_6 : decode cX2_readAt 6 = .ok (.istore 5, 2) := by decide +kernel
theorem dX2_readAt_8 : decode cX2_readAt 8 = .ok (.iload 5, 2) := by decide +kernel
theorem dX2_readAt_10 : decode cX2_readAt 10 = .ok (.iload_n 2, 1) := by decide +kernel
theorem dX2_readAt_11 : decode cX2_readAt 11 = .ok (.if_icmp .gt 38, 3) := by decide +kernel
theorem dX2_readAt_14 : decode cX2_readAt 14 = .ok (.iload 5, 2) := by decide +kernel
theorem dX2_readAt_16 : decode cX2_readAt 16 = .ok (.iconst 5, 1) := by decide +kernel
theorem dX2_readAt_17 : decode cX2_readAt 17 = .ok (.if_icmp .ge 32, 3) := by decide +kernel
theorem dX2_readAt_20 : decode cX2_readAt 20 = .ok (.aload_n 0, 1) := by decide +kernel
theorem dX2_readAt_21 : decode cX2_readAt 21 = .ok (.iload_n 3, 1) := by decide +kernel
theorem dX2_readAt_22 : decode cX2_readAt 22 = .ok (.iload 5, 2) := by decide +kernel
theorem dX2_readAt_24 : decode cX2_readAt 24 = .ok (.invokevirtual 73, 3) := by decide +kernel
theorem dX2_readAt_27 : decode cX2_readAt 27 = .ok (.istore 4, 2) := by decide +kernel
theorem dX2_readAt_29 : decode cX2_readAt 29 = .ok (.iload 4, 2) := by decide +kernel
theorem dX2_readAt_31 : decode cX2_readAt 31 = .ok (.ifCond .ge 5, 3) := by decide +kernel
theorem dX2_readAt_34 : decode cX2_readAt 34 = .ok (.iconst (-1), 1) := by decide +kernel
theorem dX2_readAt_35 : decode cX2_readAt 35 = .ok (.ireturn, 1) := by decide +kernel
theorem dX2_readAt_36 : decode cX2_readAt 36 = .ok (.iload_n 3, 1) := by decide +kernel
theorem dX2_readAt_37 : decode cX2_readAt 37 = .ok (.iconst 1, 1) := by decide +kernel
theorem dX2_readAt_38 : decode cX2_readAt 38 = .ok (.iload 4, 2) := by decide +kernel
theorem dX2_readAt_40 : decode cX2_readAt 40 = .ok (.ishl, 1) := by decide +kernel
theorem dX2_readAt_41 : decode cX2_readAt 41 = .ok (.ixor, 1) := by decide +kernel
theorem dX2_readAt_42 : decode cX2_readAt 42 = .ok (.istore_n 3, 1) := by decide +kernel
theorem dX2_readAt_43 : decode cX2_readAt 43 = .ok (.iinc 5 1, 3) := by decide +kernel
theorem dX2_readAt_46 : decode cX2_readAt 46 = .ok (.goto (-38), 3) := by decide +kernel
theorem dX2_readAt_49 : decode cX2_readAt 49 = .ok (.iload 4, 2) := by decide +kernel
theorem dX2_readAt_51 : decode cX2_readAt 51 = .ok (.ireturn, 1) := by decide +kernel
theorem dX2_nextRead_0 : decode cX2_nextRead 0 = .ok (.iconst 0, 1) := by decide +kernel
theorem dX2_nextRead_1 : decode cX2_nextRead 1 = .ok (.istore_n 3, 1) := by decide +kernel
theorem dX2_nextRead_2 : decode cX2_nextRead 2 = .ok (.iload_n 3, 1) := by decide +kernel
theorem dX2_nextRead_3 : decode cX2_nextRead 3 = .ok (.bipush 6, 2) := by decide +kernel
theorem dX2_nextRead_5 : decode cX2_nextRead 5 = .ok (.if_icmp .ge 35, 3) := by decide +kernel
theorem dX2_nextRead_8 : decode cX2_nextRead 8 = .ok (.iload_n 1, 1) := by decide +kernel
theorem dX2_nextRead_9 : decode cX2_nextRead 9 = .ok (.iload_n 3, 1) := by decide +kernel
theorem dX2_nextRead_10 : decode cX2_nextRead 10 = .ok (.invokestatic 28, 3) := by decide +kernel
theorem dX2_nextRead_13 : decode cX2_nextRead 13 = .ok (.ifCond .eq 21, 3) := by decide +kernel
theorem dX2_nextRead_16 : decode cX2_nextRead 16 = .ok (.aload_n 0, 1) := by decide +kernel
theorem dX2_nextRead_17 : decode cX2_nextRead 17 = .ok (.iload_n 1, 1) := by decide +kernel
theorem dX2_nextRead_18 : decode cX2_nextRead 18 = .ok (.iload_n 2, 1) := by decide +kernel
theorem dX2_nextRead_19 : decode cX2_nextRead 19 = .ok (.iload_n 3, 1) := by decide +kernel
theorem dX2_nextRead_20 : decode cX2_nextRead 20 = .ok (.invokevirtual 65, 3) := by decide +kernel
theorem dX2_nextRead_23 : decode cX2_nextRead 23 = .ok (.aload_n 0, 1) := by decide +kernel
theorem dX2_nextRead_24 : decode cX2_nextRead 24 = .ok (.getfield 20, 3) := by decide +kernel
theorem dX2_nextRead_27 : decode cX2_nextRead 27 = .ok (.iload_n 1, 1) := by decide +kernel
theorem dX2_nextRead_28 : decode cX2_nextRead 28 = .ok (.iaload, 1) := by decide +kernel
theorem dX2_nextRead_29 : decode cX2_nextRead 29 = .ok (.if_icmp .ne 5, 3) := by decide +kernel
theorem dX2_nextRead_32 : decode cX2_nextRead 32 = .ok (.iload_n 3, 1) := by decide +kernel
theorem dX2_nextRead_33 : decode cX2_nextRead 33 = .ok (.ireturn, 1) := by decide +kernel
theorem dX2_nextRead_34 : decode cX2_nextRead 34 = .ok (.iinc 3 1, 3) := by decide +kernel
theorem dX2_nextRead_37 : decode cX2_nextRead 37 = .ok (.goto (-35), 3) := by decide +kernel
theorem dX2_nextRead_40 : decode cX2_nextRead 40 = .ok (.iconst (-1), 1) := by decide +kernel
theorem dX2_nextRead_41 : decode cX2_nextRead 41 = .ok (.ireturn, 1) := by decide +kernel
theorem dX2_bestOf_0 : decode cX2_bestOf 0 = .ok (.iconst 0, 1) := by decide +kernel
theorem dX2_bestOf_1 : decode cX2_bestOf 1 = .ok (.istore 5, 2) := by decide +kernel
theorem dX2_bestOf_3 : decode cX2_bestOf 3 = .ok (.aload_n 0, 1) := by decide +kernel
theorem dX2_bestOf_4 : decode cX2_bestOf 4 = .ok (.iconst (-1), 1) := by decide +kernel
theorem dX2_bestOf_5 : decode cX2_bestOf 5 = .ok (.putfield 76, 3) := by decide +kernel
theorem dX2_bestOf_8 : decode cX2_bestOf 8 = .ok (.iconst 0, 1) := by decide +kernel
theorem dX2_bestOf_9 : decode cX2_bestOf 9 = .ok (.istore 6, 2) := by decide +kernel
theorem dX2_bestOf_11 : decode cX2_bestOf 11 = .ok (.iload 6, 2) := by decide +kernel
theorem dX2_bestOf_13 : decode cX2_bestOf 13 = .ok (.bipush 12, 2) := by decide +kernel
theorem dX2_bestOf_15 : decode cX2_bestOf 15 = .ok (.if_icmp .ge 48, 3) := by decide +kernel
theorem dX2_bestOf_18 : decode cX2_bestOf 18 = .ok (.aload_n 3, 1) := by decide +kernel
theorem dX2_bestOf_19 : decode cX2_bestOf 19 = .ok (.iload 6, 2) := by decide +kernel
theorem dX2_bestOf_21 : decode cX2_bestOf 21 = .ok (.iload_n 1, 1) := by decide +kernel
theorem dX2_bestOf_22 : decode cX2_bestOf 22 = .ok (.iload_n 2, 1) := by decide +kernel
theorem dX2_bestOf_23 : decode cX2_bestOf 23 = .ok (.aload_n 3, 1) := by decide +kernel
theorem dX2_bestOf_24 : decode cX2_bestOf 24 = .ok (.iload_n 1, 1) := by decide +kernel
theorem dX2_bestOf_25 : decode cX2_bestOf 25 = .ok (.iload 6, 2) := by decide +kernel
theorem dX2_bestOf_27 : decode cX2_bestOf 27 = .ok (.iconst 0, 1) := by decide +kernel
theorem dX2_bestOf_28 : decode cX2_bestOf 28 = .ok (.invokevirtual 53, 3) := by decide +kernel
theorem dX2_bestOf_31 : decode cX2_bestOf 31 = .ok (.aload 4, 2) := by decide +kernel
theorem dX2_bestOf_33 : decode cX2_bestOf 33 = .ok (.invokevirtual 57, 3) := by decide +kernel
theorem dX2_bestOf_36 : decode cX2_bestOf 36 = .ok (.istore 7, 2) := by decide +kernel
theorem dX2_bestOf_38 : decode cX2_bestOf 38 = .ok (.iload 7, 2) := by decide +kernel
theorem dX2_bestOf_40 : decode cX2_bestOf 40 = .ok (.aload_n 0, 1) := by decide +kernel
theorem dX2_bestOf_41 : decode cX2_bestOf 41 = .ok (.getfield 76, 3) := by decide +kernel
theorem dX2_bestOf_44 : decode cX2_bestOf 44 = .ok (.if_icmp .le 13, 3) := by decide +kernel
theorem dX2_bestOf_47 : decode cX2_bestOf 47 = .ok (.aload_n 0, 1) := by decide +kernel
theorem dX2_bestOf_48 : decode cX2_bestOf 48 = .ok (.iload 7, 2) := by decide +kernel
theorem dX2_bestOf_50 : decode cX2_bestOf 50 = .ok (.putfield 76, 3) := by decide +kernel
theorem dX2_bestOf_53 : decode cX2_bestOf 53 = .ok (.iload 6, 2) := by decide +kernel
theorem dX2_bestOf_55 : decode cX2_bestOf 55 = .ok (.istore 5, 2) := by decide +kernel
theorem dX2_bestOf_57 : decode cX2_bestOf 57 = .ok (.iinc 6 1, 3) := by decide +kernel
theorem dX2_bestOf_60 : decode cX2_bestOf 60 = .ok (.goto (-49), 3) := by decide +kernel
theorem dX2_bestOf_63 : decode cX2_bestOf 63 = .ok (.iload 5, 2) := by decide +kernel
theorem dX2_bestOf_65 : decode cX2_bestOf 65 = .ok (.ireturn, 1) := by decide +kernel
theorem dX2_falseTales_0 : decode cX2_falseTales 0 = .ok (.iconst 0, 1) := by decide +kernel
theorem dX2_falseTales_1 : decode cX2_falseTales 1 = .ok (.istore 5, 2) := by decide +kernel
theorem dX2_falseTales_3 : decode cX2_falseTales 3 = .ok (.iconst 0, 1) := by decide +kernel
theorem dX2_falseTales_4 : decode cX2_falseTales 4 = .ok (.istore 6, 2) := by decide +kernel
theorem dX2_falseTales_6 : decode cX2_falseTales 6 = .ok (.iload 6, 2) := by decide +kernel
theorem dX2_falseTales_8 : decode cX2_falseTales 8 = .ok (.bipush 12, 2) := by decide +kernel
theorem dX2_falseTales_10 : decode cX2_falseTales 10 = .ok (.if_icmp .ge 50, 3) := by decide +kernel
theorem dX2_falseTales_13 : decode cX2_falseTales 13 = .ok (.aload_n 2, 1) := by decide +kernel
theorem dX2_falseTales_14 : decode cX2_falseTales 14 = .ok (.getfield 23, 3) := by decide +kernel
theorem dX2_falseTales_17 : decode cX2_falseTales 17 = .ok (.iload_n 1, 1) := by decide +kernel
theorem dX2_falseTales_18 : decode cX2_falseTales 18 = .ok (.iaload, 1) := by decide +kernel
theorem dX2_falseTales_19 : decode cX2_falseTales 19 = .ok (.iload 6, 2) := by decide +kernel
theorem dX2_falseTales_21 : decode cX2_falseTales 21 = .ok (.invokestatic 28, 3) := by decide +kernel
theorem dX2_falseTales_24 : decode cX2_falseTales 24 = .ok (.ifCond .eq 30, 3) := by decide +kernel
theorem dX2_falseTales_27 : decode cX2_falseTales 27 = .ok (.aload_n 2, 1) := by decide +kernel
theorem dX2_falseTales_28 : decode cX2_falseTales 28 = .ok (.getfield 79, 3) := by decide +kernel
theorem dX2_falseTales_31 : decode cX2_falseTales 31 = .ok (.iload_n 1, 1) := by decide +kernel
theorem dX2_falseTales_32 : decode cX2_falseTales 32 = .ok (.aaload, 1) := by decide +kernel
theorem dX2_falseTales_33 : decode cX2_falseTales 33 = .ok (.iload 6, 2) := by decide +kernel
theorem dX2_falseTales_35 : decode cX2_falseTales 35 = .ok (.iaload, 1) := by decide +kernel
theorem dX2_falseTales_36 : decode cX2_falseTales 36 = .ok (.aload_n 2, 1) := by decide +kernel
theorem dX2_falseTales_37 : decode cX2_falseTales 37 = .ok (.getfield 82, 3) := by decide +kernel
theorem dX2_falseTales_40 : decode cX2_falseTales 40 = .ok (.iload_n 1, 1) := by decide +kernel
theorem dX2_falseTales_41 : decode cX2_falseTales 41 = .ok (.iaload, 1) := by decide +kernel
theorem dX2_falseTales_42 : decode cX2_falseTales 42 = .ok (.if_icmp .ge 12, 3) := by decide +kernel
theorem dX2_falseTales_45 : decode cX2_falseTales 45 = .ok (.iload 5, 2) := by decide +kernel
theorem dX2_falseTales_47 : decode cX2_falseTales 47 = .ok (.iconst 1, 1) := by decide +kernel
theorem dX2_falseTales_48 : decode cX2_falseTales 48 = .ok (.iload 6, 2) := by decide +kernel
theorem dX2_falseTales_50 : decode cX2_falseTales 50 = .ok (.ishl, 1) := by decide +kernel
theorem dX2_falseTales_51 : decode cX2_falseTales 51 = .ok (.ior, 1) := by decide +kernel
theorem dX2_falseTales_52 : decode cX2_falseTales 52 = .ok (.istore 5, 2) := by decide +kernel
theorem dX2_falseTales_54 : decode cX2_falseTales 54 = .ok (.iinc 6 1, 3) := by decide +kernel
theorem dX2_falseTales_57 : decode cX2_falseTales 57 = .ok (.goto (-51), 3) := by decide +kernel
theorem dX2_falseTales_60 : decode cX2_falseTales 60 = .ok (.aload_n 0, 1) := by decide +kernel
theorem dX2_falseTales_61 : decode cX2_falseTales 61 = .ok (.aload_n 2, 1) := by decide +kernel
theorem dX2_falseTales_62 : decode cX2_falseTales 62 = .ok (.getfield 23, 3) := by decide +kernel
theorem dX2_falseTales_65 : decode cX2_falseTales 65 = .ok (.iload_n 1, 1) := by decide +kernel
theorem dX2_falseTales_66 : decode cX2_falseTales 66 = .ok (.iaload, 1) := by decide +kernel
theorem dX2_falseTales_67 : decode cX2_falseTales 67 = .ok (.iload 5, 2) := by decide +kernel
theorem dX2_falseTales_69 : decode cX2_falseTales 69 = .ok (.iconst (-1), 1) := by decide +kernel
theorem dX2_falseTales_70 : decode cX2_falseTales 70 = .ok (.ixor, 1) := by decide +kernel
theorem dX2_falseTales_71 : decode cX2_falseTales 71 = .ok (.iand, 1) := by decide +kernel
theorem dX2_falseTales_72 : decode cX2_falseTales 72 = .ok (.putfield 85, 3) := by decide +kernel
theorem dX2_falseTales_75 : decode cX2_falseTales 75 = .ok (.aload_n 0, 1) := by decide +kernel
theorem dX2_falseTales_76 : decode cX2_falseTales 76 = .ok (.iload_n 1, 1) := by decide +kernel
theorem dX2_falseTales_77 : decode cX2_falseTales 77 = .ok (.aload_n 2, 1) := by decide +kernel
theorem dX2_falseTales_78 : decode cX2_falseTales 78 = .ok (.getfield 88, 3) := by decide +kernel
theorem dX2_falseTales_81 : decode cX2_falseTales 81 = .ok (.iload_n 1, 1) := by decide +kernel
theorem dX2_falseTales_82 : decode cX2_falseTales 82 = .ok (.iaload, 1) := by decide +kernel
theorem dX2_falseTales_83 : decode cX2_falseTales 83 = .ok (.aload_n 2, 1) := by decide +kernel
theorem dX2_falseTales_84 : decode cX2_falseTales 84 = .ok (.getfield 82, 3) := by decide +kernel
theorem dX2_falseTales_87 : decode cX2_falseTales 87 = .ok (.iload_n 1, 1) := by decide +kernel
theorem dX2_falseTales_88 : decode cX2_falseTales 88 = .ok (.iaload, 1) := by decide +kernel
theorem dX2_falseTales_89 : decode cX2_falseTales 89 = .ok (.iconst 0, 1) := by decide +kernel
theorem dX2_falseTales_90 : decode cX2_falseTales 90 = .ok (.aload_n 2, 1) := by decide +kernel
theorem dX2_falseTales_91 : decode cX2_falseTales 91 = .ok (.aload_n 3, 1) := by decide +kernel
theorem dX2_falseTales_92 : decode cX2_falseTales 92 = .ok (.aload 4, 2) := by decide +kernel
theorem dX2_falseTales_94 : decode cX2_falseTales 94 = .ok (.invokevirtual 91, 3) := by decide +kernel
theorem dX2_falseTales_97 : decode cX2_falseTales 97 = .ok (.iload 5, 2) := by decide +kernel
theorem dX2_falseTales_99 : decode cX2_falseTales 99 = .ok (.aload_n 0, 1) := by decide +kernel
theorem dX2_falseTales_100 : decode cX2_falseTales 100 = .ok (.getfield 85, 3) := by decide +kernel
theorem dX2_falseTales_103 : decode cX2_falseTales 103 = .ok (.ior, 1) := by decide +kernel
theorem dX2_falseTales_104 : decode cX2_falseTales 104 = .ok (.ireturn, 1) := by decide +kernel
theorem dX2_follow_0 : decode cX2_follow 0 = .ok (.aload 5, 2) := by decide +kernel
theorem dX2_follow_2 : decode cX2_follow 2 = .ok (.getfield 79, 3) := by decide +kernel
theorem dX2_follow_5 : decode cX2_follow 5 = .ok (.iload_n 1, 1) := by decide +kernel
theorem dX2_follow_6 : decode cX2_follow 6 = .ok (.aaload, 1) := by decide +kernel
theorem dX2_follow_7 : decode cX2_follow 7 = .ok (.iload_n 2, 1) := by decide +kernel
theorem dX2_follow_8 : decode cX2_follow 8 = .ok (.iaload, 1) := by decide +kernel
theorem dX2_follow_9 : decode cX2_follow 9 = .ok (.iload_n 3, 1) := by decide +kernel
theorem dX2_follow_10 : decode cX2_follow 10 = .ok (.if_icmp .gt 17, 3) := by decide +kernel
theorem dX2_follow_13 : decode cX2_follow 13 = .ok (.aload_n 0, 1) := by decide +kernel
theorem dX2_follow_14 : decode cX2_follow 14 = .ok (.dup, 1) := by decide +kernel
theorem dX2_follow_15 : decode cX2_follow 15 = .ok (.getfield 85, 3) := by decide +kernel
theorem dX2_follow_18 : decode cX2_follow 18 = .ok (.iconst 1, 1) := by decide +kernel
theorem dX2_follow_19 : decode cX2_follow 19 = .ok (.iload_n 2, 1) := by decide +kernel
theorem dX2_follow_20 : decode cX2_follow 20 = .ok (.ishl, 1) := by decide +kernel
theorem dX2_follow_21 : decode cX2_follow 21 = .ok (.iconst (-1), 1) := by decide +kernel
theorem dX2_follow_22 : decode cX2_follow 22 = .ok (.ixor, 1) := by decide +kernel
theorem dX2_follow_23 : decode cX2_follow 23 = .ok (.iand, 1) := by decide +kernel
theorem dX2_follow_24 : decode cX2_follow 24 = .ok (.putfield 85, 3) := by decide +kernel
theorem dX2_follow_27 : decode cX2_follow 27 = .ok (.iload 4, 2) := by decide +kernel
theorem dX2_follow_29 : decode cX2_follow 29 = .ok (.iconst 1, 1) := by decide +kernel
theorem dX2_follow_30 : decode cX2_follow 30 = .ok (.iload_n 2, 1) := by decide +kernel
theorem dX2_follow_31 : decode cX2_follow 31 = .ok (.ishl, 1) := by decide +kernel
theorem dX2_follow_32 : decode cX2_follow 32 = .ok (.ior, 1) := by decide +kernel
theorem dX2_follow_33 : decode cX2_follow 33 = .ok (.istore 8, 2) := by decide +kernel
theorem dX2_follow_35 : decode cX2_follow 35 = .ok (.iload 8, 2) := by decide +kernel
theorem dX2_follow_37 : decode cX2_follow 37 = .ok (.invokestatic 48, 3) := by decide +kernel
theorem dX2_follow_40 : decode cX2_follow 40 = .ok (.istore 9, 2) := by decide +kernel
theorem dX2_follow_42 : decode cX2_follow 42 = .ok (.iconst 0, 1) := by decide +kernel
theorem dX2_follow_43 : decode cX2_follow 43 = .ok (.istore 10, 2) := by decide +kernel
theorem dX2_follow_45 : decode cX2_follow 45 = .ok (.iload 10, 2) := by decide +kernel
theorem dX2_follow_47 : decode cX2_follow 47 = .ok (.bipush 12, 2) := by decide +kernel
theorem dX2_follow_49 : decode cX2_follow 49 = .ok (.if_icmp .ge 95, 3) := by decide +kernel
theorem dX2_follow_52 : decode cX2_follow 52 = .ok (.iload 9, 2) := by decide +kernel
theorem dX2_follow_54 : decode cX2_follow 54 = .ok (.iconst 4, 1) := by decide +kernel
theorem dX2_follow_55 : decode cX2_follow 55 = .ok (.if_icmp .gt 89, 3) := by decide +kernel
theorem dX2_follow_58 : decode cX2_follow 58 = .ok (.aload_n 0, 1) := by decide +kernel
theorem dX2_follow_59 : decode cX2_follow 59 = .ok (.getfield 85, 3) := by decide +kernel
theorem dX2_follow_62 : decode cX2_follow 62 = .ok (.ifCond .eq 82, 3) := by decide +kernel
theorem dX2_follow_65 : decode cX2_follow 65 = .ok (.aload 6, 2) := by decide +kernel
theorem dX2_follow_67 : decode cX2_follow 67 = .ok (.getfield 95, 3) := by decide +kernel
theorem dX2_follow_70 : decode cX2_follow 70 = .ok (.iload_n 2, 1) := by decide +kernel
theorem dX2_follow_71 : decode cX2_follow 71 = .ok (.aaload, 1) := by decide +kernel
theorem dX2_follow_72 : decode cX2_follow 72 = .ok (.iload 10, 2) := by decide +kernel
theorem dX2_follow_74 : decode cX2_follow 74 = .ok (.iaload, 1) := by decide +kernel
theorem dX2_follow_75 : decode cX2_follow 75 = .ok (.istore 11, 2) := by decide +kernel
theorem dX2_follow_77 : decode cX2_follow 77 = .ok (.iload 11, 2) := by decide +kernel
theorem dX2_follow_79 : decode cX2_follow 79 = .ok (.ifCond .le 59, 3) := by decide +kernel
theorem dX2_follow_82 : decode cX2_follow 82 = .ok (.iload 8, 2) := by decide +kernel
theorem dX2_follow_84 : decode cX2_follow 84 = .ok (.iload 10, 2) := by decide +kernel
theorem dX2_follow_86 : decode cX2_follow 86 = .ok (.invokestatic 28, 3) := by decide +kernel
theorem dX2_follow_89 : decode cX2_follow 89 = .ok (.ifCond .ne 49, 3) := by decide +kernel
theorem dX2_follow_92 : decode cX2_follow 92 = .ok (.iload 9, 2) := by decide +kernel
theorem dX2_follow_94 : decode cX2_follow 94 = .ok (.iconst 4, 1) := by decide +kernel
theorem dX2_follow_95 : decode cX2_follow 95 = .ok (.if_icmp .lt 15, 3) := by decide +kernel
theorem dX2_follow_98 : decode cX2_follow 98 = .ok (.aload_n 0, 1) := by decide +kernel
theorem dX2_follow_99 : decode cX2_follow 99 = .ok (.getfield 85, 3) := by decide +kernel
theorem dX2_follow_102 : decode cX2_follow 102 = .ok (.iload 10, 2) := by decide +kernel
theorem dX2_follow_104 : decode cX2_follow 104 = .ok (.invokestatic 28, 3) := by decide +kernel
theorem dX2_follow_107 : decode cX2_follow 107 = .ok (.ifCond .eq 31, 3) := by decide +kernel
theorem dX2_follow_110 : decode cX2_follow 110 = .ok (.aload_n 0, 1) := by decide +kernel
theorem dX2_follow_111 : decode cX2_follow 111 = .ok (.iload_n 1, 1) := by decide +kernel
theorem dX2_follow_112 : decode cX2_follow 112 = .ok (.iload 10, 2) := by decide +kernel
theorem dX2_follow_114 : decode cX2_follow 114 = .ok (.aload 5, 2) := by decide +kernel
theorem dX2_follow_116 : decode cX2_follow 116 = .ok (.iload_n 1, 1) := by decide +kernel
theorem dX2_follow_117 : decode cX2_follow 117 = .ok (.iload 10, 2) := by decide +kernel
theorem dX2_follow_119 : decode cX2_follow 119 = .ok (.iload_n 3, 1) := by decide +kernel
theorem dX2_follow_120 : decode cX2_follow 120 = .ok (.iload 11, 2) := by decide +kernel
theorem dX2_follow_122 : decode cX2_follow 122 = .ok (.aload 7, 2) := by decide +kernel
theorem dX2_follow_124 : decode cX2_follow 124 = .ok (.invokevirtual 100, 3) := by decide +kernel
theorem dX2_follow_127 : decode cX2_follow 127 = .ok (.iload 8, 2) := by decide +kernel
theorem dX2_follow_129 : decode cX2_follow 129 = .ok (.aload 5, 2) := by decide +kernel
theorem dX2_follow_131 : decode cX2_follow 131 = .ok (.aload 6, 2) := by decide +kernel
theorem dX2_follow_133 : decode cX2_follow 133 = .ok (.aload 7, 2) := by decide +kernel
theorem dX2_follow_135 : decode cX2_follow 135 = .ok (.invokevirtual 91, 3) := by decide +kernel
theorem dX2_follow_138 : decode cX2_follow 138 = .ok (.iinc 10 1, 3) := by decide +kernel
theorem dX2_follow_141 : decode cX2_follow 141 = .ok (.goto (-96), 3) := by decide +kernel
theorem dX2_follow_144 : decode cX2_follow 144 = .ok (.return_, 1) := by decide +kernel
theorem dX3_init_0 : decode cX3_init 0 = .ok (.aload_n 0, 1) := by decide +kernel
theorem dX3_init_1 : decode cX3_init 1 = .ok (.invokespecial 3, 3) := by decide +kernel
theorem dX3_init_4 : decode cX3_init 4 = .ok (.aload_n 0, 1) := by decide +kernel
theorem dX3_init_5 : decode cX3_init 5 = .ok (.bipush 12, 2) := by decide +kernel
theorem dX3_init_7 : decode cX3_init 7 = .ok (.bipush 12, 2) := by decide +kernel
theorem dX3_init_9 : decode cX3_init 9 = .ok (.multianewarray 9 2, 4) := by decide +kernel
theorem dX3_init_13 : decode cX3_init 13 = .ok (.putfield 11, 3) := by decide +kernel
theorem dX3_init_16 : decode cX3_init 16 = .ok (.aload_n 0, 1) := by decide +kernel
theorem dX3_init_17 : decode cX3_init 17 = .ok (.bipush 12, 2) := by decide +kernel
theorem dX3_init_19 : decode cX3_init 19 = .ok (.bipush 12, 2) := by decide +kernel
theorem dX3_init_21 : decode cX3_init 21 = .ok (.multianewarray 9 2, 4) := by decide +kernel
theorem dX3_init_25 : decode cX3_init 25 = .ok (.putfield 16, 3) := by decide +kernel
theorem dX3_init_28 : decode cX3_init 28 = .ok (.aload_n 0, 1) := by decide +kernel
theorem dX3_init_29 : decode cX3_init 29 = .ok (.bipush 8, 2) := by decide +kernel
theorem dX3_init_31 : decode cX3_init 31 = .ok (.newarray .int, 2) := by decide +kernel
theorem dX3_init_33 : decode cX3_init 33 = .ok (.putfield 19, 3) := by decide +kernel
theorem dX3_init_36 : decode cX3_init 36 = .ok (.aload_n 0, 1) := by decide +kernel
theorem dX3_init_37 : decode cX3_init 37 = .ok (.sipush 1024, 3) := by decide +kernel
theorem dX3_init_40 : decode cX3_init 40 = .ok (.newarray .int, 2) := by decide +kernel
theorem dX3_init_42 : decode cX3_init 42 = .ok (.putfield 23, 3) := by decide +kernel
theorem dX3_init_45 : decode cX3_init 45 = .ok (.return_, 1) := by decide +kernel
theorem dX3_isTold_0 : decode cX3_isTold 0 = .ok (.iload_n 1, 1) := by decide +kernel
theorem dX3_isTold_1 : decode cX3_isTold 1 = .ok (.iconst 0, 1) := by decide +kernel
theorem dX3_isTold_2 : decode cX3_isTold 2 = .ok (.bipush 11, 2) := by decide +kernel
theorem dX3_isTold_4 : decode cX3_isTold 4 = .ok (.invokestatic 26, 3) := by decide +kernel
theorem dX3_isTold_7 : decode cX3_isTold 7 = .ok (.ifCond .eq 18, 3) := by decide +kernel
theorem dX3_isTold_10 : decode cX3_isTold 10 = .ok (.aload_n 0, 1) := by decide +kernel
theorem dX3_isTold_11 : decode cX3_isTold 11 = .ok (.getfield 30, 3) := by decide +kernel
theorem dX3_isTold_14 : decode cX3_isTold 14 = .ok (.iload_n 1, 1) := by decide +kernel
theorem dX3_isTold_15 : decode cX3_isTold 15 = .ok (.invokestatic 34, 3) := by decide +kernel
theorem dX3_isTold_18 : decode cX3_isTold 18 = .ok (.ifCond .eq 7, 3) := by decide +kernel
theorem dX3_isTold_21 : decode cX3_isTold 21 = .ok (.iconst 1, 1) := by decide +kernel
theorem dX3_isTold_22 : decode cX3_isTold 22 = .ok (.goto 4, 3) := by decide +kernel
theorem dX3_isTold_25 : decode cX3_isTold 25 = .ok (.iconst 0, 1) := by decide +kernel
theorem dX3_isTold_26 : decode cX3_isTold 26 = .ok (.ireturn, 1) := by decide +kernel
theorem dX3_tell_0 : decode cX3_tell 0 = .ok (.aload_n 0, 1) := by decide +kernel
theorem dX3_tell_1 : decode cX3_tell 1 = .ok (.dup, 1) := by decide +kernel
theorem dX3_tell_2 : decode cX3_tell 2 = .ok (.getfield 30, 3) := by decide +kernel
theorem dX3_tell_5 : decode cX3_tell 5 = .ok (.iconst 1, 1) := by decide +kernel
theorem dX3_tell_6 : decode cX3_tell 6 = .ok (.iload_n 1, 1) := by decide +kernel
theorem dX3_tell_7 : decode cX3_tell 7 = .ok (.ishl, 1) := by decide +kernel
theorem dX3_tell_8 : decode cX3_tell 8 = .ok (.ior, 1) := by decide +kernel
theorem dX3_tell_9 : decode cX3_tell 9 = .ok (.putfield 30, 3) := by decide +kernel
theorem dX3_tell_12 : decode cX3_tell 12 = .ok (.return_, 1) := by decide +kernel
theorem dX3_lay_0 : decode cX3_lay 0 = .ok (.aload_n 0, 1) := by decide +kernel
theorem dX3_lay_1 : decode cX3_lay 1 = .ok (.getfield 11, 3) := by decide +kernel
theorem dX3_lay_4 : decode cX3_lay 4 = .ok (.iload_n 1, 1) := by decide +kernel
theorem dX3_lay_5 : decode cX3_lay 5 = .ok (.aaload, 1) := by decide +kernel
theorem dX3_lay_6 : decode cX3_lay 6 = .ok (.iload_n 2, 1) := by decide +kernel
theorem dX3_lay_7 : decode cX3_lay 7 = .ok (.iload_n 3, 1) := by decide +kernel
theorem dX3_lay_8 : decode cX3_lay 8 = .ok (.iastore, 1) := by decide +kernel
theorem dX3_lay_9 : decode cX3_lay 9 = .ok (.aload_n 0, 1) := by decide +kernel
theorem dX3_lay_10 : decode cX3_lay 10 = .ok (.getfield 11, 3) := by decide +kernel
theorem dX3_lay_13 : decode cX3_lay 13 = .ok (.iload_n 2, 1) := by decide +kernel
theorem dX3_lay_14 : decode cX3_lay 14 = .ok (.aaload, 1) := by decide +kernel
theorem dX3_lay_15 : decode cX3_lay 15 = .ok (.iload_n 1, 1) := by decide +kernel
theorem dX3_lay_16 : decode cX3_lay 16 = .ok (.iload_n 3, 1) := by decide +kernel
theorem dX3_lay_17 : decode cX3_lay 17 = .ok (.iastore, 1) := by decide +kernel
theorem dX3_lay_18 : decode cX3_lay 18 = .ok (.aload_n 0, 1) := by decide +kernel
theorem dX3_lay_19 : decode cX3_lay 19 = .ok (.iconst 0, 1) := by decide +kernel
theorem dX3_lay_20 : decode cX3_lay 20 = .ok (.putfield 38, 3) := by decide +kernel
theorem dX3_lay_23 : decode cX3_lay 23 = .ok (.return_, 1) := by decide +kernel
theorem dX3_way_0 : decode cX3_way 0 = .ok (.aload_n 0, 1) := by decide +kernel
theorem dX3_way_1 : decode cX3_way 1 = .ok (.getfield 38, 3) := by decide +kernel
theorem dX3_way_4 : decode cX3_way 4 = .ok (.ifCond .ne 12, 3) := by decide +kernel
theorem dX3_way_7 : decode cX3_way 7 = .ok (.aload_n 0, 1) := by decide +kernel
theorem dX3_way_8 : decode cX3_way 8 = .ok (.invokevirtual 42, 3) := by decide +kernel
theorem dX3_way_11 : decode cX3_way 11 = .ok (.aload_n 0, 1) := by decide +kernel
theorem dX3_way_12 : decode cX3_way 12 = .ok (.iconst 1, 1) := by decide +kernel
theorem dX3_way_13 : decode cX3_way 13 = .ok (.putfield 38, 3) := by decide +kernel
theorem dX3_way_16 : decode cX3_way 16 = .ok (.aload_n 0, 1) := by decide +kernel
theorem dX3_way_17 : decode cX3_way 17 = .ok (.getfield 16, 3) := by decide +kernel
theorem dX3_way_20 : decode cX3_way 20 = .ok (.iload_n 1, 1) := by decide +kernel
theorem dX3_way_21 : decode cX3_way 21 = .ok (.aaload, 1) := by decide +kernel
theorem dX3_way_22 : decode cX3_way 22 = .ok (.iload_n 2, 1) := by decide +kernel
theorem dX3_way_23 : decode cX3_way 23 = .ok (.iaload, 1) := by decide +kernel
theorem dX3_way_24 : decode cX3_way 24 = .ok (.ireturn, 1) := by decide +kernel
theorem dX3_findWays_0 : decode cX3_findWays 0 = .ok (.iconst 0, 1) := by decide +kernel
theorem dX3_findWays_1 : decode cX3_findWays 1 = .ok (.istore_n 1, 1) := by decide +kernel
theorem dX3_findWays_2 : decode cX3_findWays 2 = .ok (.iload_n 1, 1) := by decide +kernel
theorem dX3_findWays_3 : decode cX3_findWays 3 = .ok (.bipush 12, 2) := by decide +kernel
theorem dX3_findWays_5 : decode cX3_findWays 5 = .ok (.if_icmp .ge 64, 3) := by decide +kernel
theorem dX3_findWays_8 : decode cX3_findWays 8 = .ok (.iconst 0, 1) := by decide +kernel
theorem dX3_findWays_9 : decode cX3_findWays 9 = .ok (.istore_n 2, 1) := by decide +kernel
theorem dX3_findWays_10 : decode cX3_findWays 10 = .ok (.iload_n 2, 1) := by decide +kernel
theorem dX3_findWays_11 : decode cX3_findWays 11 = .ok (.bipush 12, 2) := by decide +kernel
theorem dX3_findWays_13 : decode cX3_findWays 13 = .ok (.if_icmp .ge 41, 3) := by decide +kernel
theorem dX3_findWays_16 : decode cX3_findWays 16 = .ok (.aload_n 0, 1) := by decide +kernel
theorem dX3_findWays_17 : decode cX3_findWays 17 = .ok (.getfield 16, 3) := by decide +kernel
theorem dX3_findWays_20 : decode cX3_findWays 20 = .ok (.iload_n 1, 1) := by decide +kernel
theorem dX3_findWays_21 : decode cX3_findWays 21 = .ok (.aaload, 1) := by decide +kernel
theorem dX3_findWays_22 : decode cX3_findWays 22 = .ok (.iload_n 2, 1) := by decide +kernel
theorem dX3_findWays_23 : decode cX3_findWays 23 = .ok (.aload_n 0, 1) := by decide +kernel
theorem dX3_findWays_24 : decode cX3_findWays 24 = .ok (.getfield 11, 3) := by decide +kernel
theorem dX3_findWays_27 : decode cX3_findWays 27 = .ok (.iload_n 1, 1) := by decide +kernel
theorem dX3_findWays_28 : decode cX3_findWays 28 = .ok (.aaload, 1) := by decide +kernel
theorem dX3_findWays_29 : decode cX3_findWays 29 = .ok (.iload_n 2, 1) := by decide +kernel
theorem dX3_findWays_30 : decode cX3_findWays 30 = .ok (.iaload, 1) := by decide +kernel
theorem dX3_findWays_31 : decode cX3_findWays 31 = .ok (.ifCond .le 14, 3) := by decide +kernel
theorem dX3_findWays_34 : decode cX3_findWays 34 = .ok (.aload_n 0, 1) := by decide +kernel
theorem dX3_findWays_35 : decode cX3_findWays 35 = .ok (.getfield 11, 3) := by decide +kernel
theorem dX3_findWays_38 : decode cX3_findWays 38 = .ok (.iload_n 1, 1) := by decide +kernel
theorem dX3_findWays_39 : decode cX3_findWays 39 = .ok (.aaload, 1) := by decide +kernel
theorem dX3_findWays_40 : decode cX3_findWays 40 = .ok (.iload_n 2, 1) := by decide +kernel
theorem dX3_findWays_41 : decode cX3_findWays 41 = .ok (.iaload, 1) := by decide +kernel
theorem dX3_findWays_42 : decode cX3_findWays 42 = .ok (.goto 5, 3) := by decide +kernel
theorem dX3_findWays_45 : decode cX3_findWays 45 = .ok (.ldc 45, 2) := by decide +kernel
theorem dX3_findWays_47 : decode cX3_findWays 47 = .ok (.iastore, 1) := by decide +kernel
theorem dX3_findWays_48 : decode cX3_findWays 48 = .ok (.iinc 2 1, 3) := by decide +kernel
theorem dX3_findWays_51 : decode cX3_findWays 51 = .ok (.goto (-41), 3) := by decide +kernel
theorem dX3_findWays_54 : decode cX3_findWays 54 = .ok (.aload_n 0, 1) := by decide +kernel
theorem dX3_findWays_55 : decode cX3_findWays 55 = .ok (.getfield 16, 3) := by decide +kernel
theorem dX3_findWays_58 : decode cX3_findWays 58 = .ok (.iload_n 1, 1) := by decide +kernel
theorem dX3_findWays_59 : decode cX3_findWays 59 = .ok (.aaload, 1) := by decide +kernel
theorem dX3_findWays_60 : decode cX3_findWays 60 = .ok (.iload_n 1, 1) := by decide +kernel
theorem dX3_findWays_61 : decode cX3_findWays 61 = .ok (.iconst 0, 1) := by decide +kernel
theorem dX3_findWays_62 : decode cX3_findWays 62 = .ok (.iastore, 1) := by decide +kernel
theorem dX3_findWays_63 : decode cX3_findWays 63 = .ok (.iinc 1 1, 3) := by decide +kernel
theorem dX3_findWays_66 : decode cX3_findWays 66 = .ok (.goto (-64), 3) := by decide +kernel
theorem dX3_findWays_69 : decode cX3_findWays 69 = .ok (.iconst 0, 1) := by decide +kernel
theorem dX3_findWays_70 : decode cX3_findWays 70 = .ok (.istore_n 1, 1) := by decide +kernel
theorem dX3_findWays_71 : decode cX3_findWays 71 = .ok (.iload_n 1, 1) := by decide +kernel
theorem dX3_findWays_72 : decode cX3_findWays 72 = .ok (.bipush 12, 2) := by decide +kernel
theorem dX3_findWays_74 : decode cX3_findWays 74 = .ok (.if_icmp .ge 73, 3) := by decide +kernel
theorem dX3_findWays_77 : decode cX3_findWays 77 = .ok (.iconst 0, 1) := by decide +kernel
theorem dX3_findWays_78 : decode cX3_findWays 78 = .ok (.istore_n 2, 1) := by decide +kernel
theorem dX3_findWays_79 : decode cX3_findWays 79 = .ok (.iload_n 2, 1) := by decide +kernel
theorem dX3_findWays_80 : decode cX3_findWays 80 = .ok (.bipush 12, 2) := by decide +kernel
theorem dX3_findWays_82 : decode cX3_findWays 82 = .ok (.if_icmp .ge 59, 3) := by decide +kernel
theorem dX3_findWays_85 : decode cX3_findWays 85 = .ok (.iconst 0, 1) := by decide +kernel
theorem dX3_findWays_86 : decode cX3_findWays 86 = .ok (.istore_n 3, 1) := by decide +kernel
theorem dX3_findWays_87 : decode cX3_findWays 87 = .ok (.iload_n 3, 1) := by decide +kernel
theorem dX3_findWays_88 : decode cX3_findWays 88 = .ok (.bipush 12, 2) := by decide +kernel
theorem dX3_findWays_90 : decode cX3_findWays 90 = .ok (.if_icmp .ge 45, 3) := by decide +kernel
theorem dX3_findWays_93 : decode cX3_findWays 93 = .ok (.aload_n 0, 1) := by decide +kernel
theorem dX3_findWays_94 : decode cX3_findWays 94 = .ok (.getfield 16, 3) := by decide +kernel
theorem dX3_findWays_97 : decode cX3_findWays 97 = .ok (.iload_n 2, 1) := by decide +kernel
theorem dX3_findWays_98 : decode cX3_findWays 98 = .ok (.aaload, 1) := by decide +kernel
theorem dX3_findWays_99 : decode cX3_findWays 99 = .ok (.iload_n 3, 1) := by decide +kernel
theorem dX3_findWays_100 : decode cX3_findWays 100 = .ok (.aload_n 0, 1) := by decide +kernel
theorem dX3_findWays_101 : decode cX3_findWays 101 = .ok (.getfield 16, 3) := by decide +kernel
theorem dX3_findWays_104 : decode cX3_findWays 104 = .ok (.iload_n 2, 1) := by decide +kernel
theorem dX3_findWays_105 : decode cX3_findWays 105 = .ok (.aaload, 1) := by decide +kernel
theorem dX3_findWays_106 : decode cX3_findWays 106 = .ok (.iload_n 3, 1) := by decide +kernel
theorem dX3_findWays_107 : decode cX3_findWays 107 = .ok (.iaload, 1) := by decide +kernel
theorem dX3_findWays_108 : decode cX3_findWays 108 = .ok (.aload_n 0, 1) := by decide +kernel
theorem dX3_findWays_109 : decode cX3_findWays 109 = .ok (.getfield 16, 3) := by decide +kernel
theorem dX3_findWays_112 : decode cX3_findWays 112 = .ok (.iload_n 2, 1) := by decide +kernel
theorem dX3_findWays_113 : decode cX3_findWays 113 = .ok (.aaload, 1) := by decide +kernel
theorem dX3_findWays_114 : decode cX3_findWays 114 = .ok (.iload_n 1, 1) := by decide +kernel
theorem dX3_findWays_115 : decode cX3_findWays 115 = .ok (.iaload, 1) := by decide +kernel
theorem dX3_findWays_116 : decode cX3_findWays 116 = .ok (.aload_n 0, 1) := by decide +kernel
theorem dX3_findWays_117 : decode cX3_findWays 117 = .ok (.getfield 16, 3) := by decide +kernel
theorem dX3_findWays_120 : decode cX3_findWays 120 = .ok (.iload_n 1, 1) := by decide +kernel
theorem dX3_findWays_121 : decode cX3_findWays 121 = .ok (.aaload, 1) := by decide +kernel
theorem dX3_findWays_122 : decode cX3_findWays 122 = .ok (.iload_n 3, 1) := by decide +kernel
theorem dX3_findWays_123 : decode cX3_findWays 123 = .ok (.iaload, 1) := by decide +kernel
theorem dX3_findWays_124 : decode cX3_findWays 124 = .ok (.iadd, 1) := by decide +kernel
theorem dX3_findWays_125 : decode cX3_findWays 125 = .ok (.invokestatic 46, 3) := by decide +kernel
theorem dX3_findWays_128 : decode cX3_findWays 128 = .ok (.iastore, 1) := by decide +kernel
theorem dX3_findWays_129 : decode cX3_findWays 129 = .ok (.iinc 3 1, 3) := by decide +kernel
theorem dX3_findWays_132 : decode cX3_findWays 132 = .ok (.goto (-45), 3) := by decide +kernel
theorem dX3_findWays_135 : decode cX3_findWays 135 = .ok (.iinc 2 1, 3) := by decide +kernel
theorem dX3_findWays_138 : decode cX3_findWays 138 = .ok (.goto (-59), 3) := by decide +kernel
theorem dX3_findWays_141 : decode cX3_findWays 141 = .ok (.iinc 1 1, 3) := by decide +kernel
theorem dX3_findWays_144 : decode cX3_findWays 144 = .ok (.goto (-73), 3) := by decide +kernel
theorem dX3_findWays_147 : decode cX3_findWays 147 = .ok (.return_, 1) := by decide +kernel
theorem dX3_goRound_0 : decode cX3_goRound 0 = .ok (.aload_n 0, 1) := by decide +kernel
theorem dX3_goRound_1 : decode cX3_goRound 1 = .ok (.iconst 0, 1) := by decide +kernel
theorem dX3_goRound_2 : decode cX3_goRound 2 = .ok (.putfield 52, 3) := by decide +kernel
theorem dX3_goRound_5 : decode cX3_goRound 5 = .ok (.iconst 0, 1) := by decide +kernel
theorem dX3_goRound_6 : decode cX3_goRound 6 = .ok (.istore_n 3, 1) := by decide +kernel
theorem dX3_goRound_7 : decode cX3_goRound 7 = .ok (.iload_n 3, 1) := by decide +kernel
theorem dX3_goRound_8 : decode cX3_goRound 8 = .ok (.bipush 12, 2) := by decide +kernel
theorem dX3_goRound_10 : decode cX3_goRound 10 = .ok (.if_icmp .ge 46, 3) := by decide +kernel
theorem dX3_goRound_13 : decode cX3_goRound 13 = .ok (.iload_n 2, 1) := by decide +kernel
theorem dX3_goRound_14 : decode cX3_goRound 14 = .ok (.iload_n 3, 1) := by decide +kernel
theorem dX3_goRound_15 : decode cX3_goRound 15 = .ok (.invokestatic 34, 3) := by decide +kernel
theorem dX3_goRound_18 : decode cX3_goRound 18 = .ok (.ifCond .eq 32, 3) := by decide +kernel
theorem dX3_goRound_21 : decode cX3_goRound 21 = .ok (.aload_n 0, 1) := by decide +kernel
theorem dX3_goRound_22 : decode cX3_goRound 22 = .ok (.getfield 52, 3) := by decide +kernel
theorem dX3_goRound_25 : decode cX3_goRound 25 = .ok (.bipush 7, 2) := by decide +kernel
theorem dX3_goRound_27 : decode cX3_goRound 27 = .ok (.if_icmp .ge 23, 3) := by decide +kernel
theorem dX3_goRound_30 : decode cX3_goRound 30 = .ok (.aload_n 0, 1) := by decide +kernel
theorem dX3_goRound_31 : decode cX3_goRound 31 = .ok (.getfield 19, 3) := by decide +kernel
theorem dX3_goRound_34 : decode cX3_goRound 34 = .ok (.aload_n 0, 1) := by decide +kernel
theorem dX3_goRound_35 : decode cX3_goRound 35 = .ok (.getfield 52, 3) := by decide +kernel
theorem dX3_goRound_38 : decode cX3_goRound 38 = .ok (.iload_n 3, 1) := by decide +kernel
theorem dX3_goRound_39 : decode cX3_goRound 39 = .ok (.iastore, 1) := by decide +kernel
theorem dX3_goRound_40 : decode cX3_goRound 40 = .ok (.aload_n 0, 1) := by decide +kernel
theorem dX3_goRound_41 : decode cX3_goRound 41 = .ok (.dup, 1) := by decide +kernel
theorem dX3_goRound_42 : decode cX3_goRound 42 = .ok (.getfield 52, 3) := by decide +kernel
theorem dX3_goRound_45 : decode cX3_goRound 45 = .ok (.iconst 1, 1) := by decide +kernel
theorem dX3_goRound_46 : decode cX3_goRound 46 = .ok (.iadd, 1) := by decide +kernel
theorem dX3_goRound_47 : decode cX3_goRound 47 = .ok (.putfield 52, 3) := by decide +kernel
theorem dX3_goRound_50 : decode cX3_goRound 50 = .ok (.iinc 3 1, 3) := by decide +kernel
theorem dX3_goRound_53 : decode cX3_goRound 53 = .ok (.goto (-46), 3) := by decide +kernel
theorem dX3_goRound_56 : decode cX3_goRound 56 = .ok (.aload_n 0, 1) := by decide +kernel
theorem dX3_goRound_57 : decode cX3_goRound 57 = .ok (.getfield 19, 3) := by decide +kernel
theorem dX3_goRound_60 : decode cX3_goRound 60 = .ok (.aload_n 0, 1) := by decide +kernel
theorem dX3_goRound_61 : decode cX3_goRound 61 = .ok (.getfield 52, 3) := by decide +kernel
theorem dX3_goRound_64 : decode cX3_goRound 64 = .ok (.iload_n 1, 1) := by decide +kernel
theorem dX3_goRound_65 : decode cX3_goRound 65 = .ok (.iastore, 1) := by decide +kernel
theorem dX3_goRound_66 : decode cX3_goRound 66 = .ok (.iconst 1, 1) := by decide +kernel
theorem dX3_goRound_67 : decode cX3_goRound 67 = .ok (.aload_n 0, 1) := by decide +kernel
theorem dX3_goRound_68 : decode cX3_goRound 68 = .ok (.getfield 52, 3) := by decide +kernel
theorem dX3_goRound_71 : decode cX3_goRound 71 = .ok (.ishl, 1) := by decide +kernel
theorem dX3_goRound_72 : decode cX3_goRound 72 = .ok (.iconst 1, 1) := by decide +kernel
theorem dX3_goRound_73 : decode cX3_goRound 73 = .ok (.isub, 1) := by decide +kernel
theorem dX3_goRound_74 : decode cX3_goRound 74 = .ok (.istore_n 3, 1) := by decide +kernel
theorem dX3_goRound_75 : decode cX3_goRound 75 = .ok (.iconst 0, 1) := by decide +kernel
theorem dX3_goRound_76 : decode cX3_goRound 76 = .ok (.istore 4, 2) := by decide +kernel
theorem dX3_goRound_78 : decode cX3_goRound 78 = .ok (.iload 4, 2) := by decide +kernel
theorem dX3_goRound_80 : decode cX3_goRound 80 = .ok (.iload_n 3, 1) := by decide +kernel
theorem dX3_goRound_81 : decode cX3_goRound 81 = .ok (.if_icmp .gt 48, 3) := by decide +kernel
theorem dX3_goRound_84 : decode cX3_goRound 84 = .ok (.iconst 0, 1) := by decide +kernel
theorem dX3_goRound_85 : decode cX3_goRound 85 = .ok (.istore 5, 2) := by decide +kernel
theorem dX3_goRound_87 : decode cX3_goRound 87 = .ok (.iload 5, 2) := by decide +kernel
theorem dX3_goRound_89 : decode cX3_goRound 89 = .ok (.aload_n 0, 1) := by decide +kernel
theorem dX3_goRound_90 : decode cX3_goRound 90 = .ok (.getfield 52, 3) := by decide +kernel
theorem dX3_goRound_93 : decode cX3_goRound 93 = .ok (.if_icmp .gt 30, 3) := by decide +kernel
theorem dX3_goRound_96 : decode cX3_goRound 96 = .ok (.aload_n 0, 1) := by decide +kernel
theorem dX3_goRound_97 : decode cX3_goRound 97 = .ok (.getfield 23, 3) := by decide +kernel
theorem dX3_goRound_100 : decode cX3_goRound 100 = .ok (.iload 4, 2) := by decide +kernel
theorem dX3_goRound_102 : decode cX3_goRound 102 = .ok (.bipush 8, 2) := by decide +kernel
theorem dX3_goRound_104 : decode cX3_goRound 104 = .ok (.imul, 1) := by decide +kernel
theorem dX3_goRound_105 : decode cX3_goRound 105 = .ok (.iload 5, 2) := by decide +kernel
theorem dX3_goRound_107 : decode cX3_goRound 107 = .ok (.iadd, 1) := by decide +kernel
theorem dX3_goRound_108 : decode cX3_goRound 108 = .ok (.aload_n 0, 1) := by decide +kernel
theorem dX3_goRound_109 : decode cX3_goRound 109 = .ok (.iload 4, 2) := by decide +kernel
theorem dX3_goRound_111 : decode cX3_goRound 111 = .ok (.iload 5, 2) := by decide +kernel
theorem dX3_goRound_113 : decode cX3_goRound 113 = .ok (.invokevirtual 55, 3) := by decide +kernel
theorem dX3_goRound_116 : decode cX3_goRound 116 = .ok (.iastore, 1) := by decide +kernel
theorem dX3_goRound_117 : decode cX3_goRound 117 = .ok (.iinc 5 1, 3) := by decide +kernel
theorem dX3_goRound_120 : decode cX3_goRound 120 = .ok (.goto (-33), 3) := by decide +kernel
theorem dX3_goRound_123 : decode cX3_goRound 123 = .ok (.iinc 4 1, 3) := by decide +kernel
theorem dX3_goRound_126 : decode cX3_goRound 126 = .ok (.goto (-48), 3) := by decide +kernel
theorem dX3_goRound_129 : decode cX3_goRound 129 = .ok (.aload_n 0, 1) := by decide +kernel
theorem dX3_goRound_130 : decode cX3_goRound 130 = .ok (.getfield 23, 3) := by decide +kernel
theorem dX3_goRound_133 : decode cX3_goRound 133 = .ok (.iload_n 3, 1) := by decide +kernel
theorem dX3_goRound_134 : decode cX3_goRound 134 = .ok (.bipush 8, 2) := by decide +kernel
theorem dX3_goRound_136 : decode cX3_goRound 136 = .ok (.imul, 1) := by decide +kernel
theorem dX3_goRound_137 : decode cX3_goRound 137 = .ok (.aload_n 0, 1) := by decide +kernel
theorem dX3_goRound_138 : decode cX3_goRound 138 = .ok (.getfield 52, 3) := by decide +kernel
theorem dX3_goRound_141 : decode cX3_goRound 141 = .ok (.iadd, 1) := by decide +kernel
theorem dX3_goRound_142 : decode cX3_goRound 142 = .ok (.iaload, 1) := by decide +kernel
theorem dX3_goRound_143 : decode cX3_goRound 143 = .ok (.ireturn, 1) := by decide +kernel
theorem dX3_fewestAhead_0 : decode cX3_fewestAhead 0 = .ok (.iload_n 1, 1) := by decide +kernel
theorem dX3_fewestAhead_1 : decode cX3_fewestAhead 1 = .ok (.ifCond .ne 23, 3) := by decide +kernel
theorem dX3_fewestAhead_4 : decode cX3_fewestAhead 4 = .ok (.aload_n 0, 1) := by decide +kernel
theorem dX3_fewestAhead_5 : decode cX3_fewestAhead 5 = .ok (.aload_n 0, 1) := by decide +kernel
theorem dX3_fewestAhead_6 : decode cX3_fewestAhead 6 = .ok (.getfield 19, 3) := by decide +kernel
theorem dX3_fewestAhead_9 : decode cX3_fewestAhead 9 = .ok (.iload_n 2, 1) := by decide +kernel
theorem dX3_fewestAhead_10 : decode cX3_fewestAhead 10 = .ok (.iaload, 1) := by decide +kernel
theorem dX3_fewestAhead_11 : decode cX3_fewestAhead 11 = .ok (.aload_n 0, 1) := by decide +kernel
theorem dX3_fewestAhead_12 : decode cX3_fewestAhead 12 = .ok (.getfield 19, 3) := by decide +kernel
theorem dX3_fewestAhead_15 : decode cX3_fewestAhead 15 = .ok (.aload_n 0, 1) := by decide +kernel
theorem dX3_fewestAhead_16 : decode cX3_fewestAhead 16 = .ok (.getfield 52, 3) := by decide +kernel
theorem dX3_fewestAhead_19 : decode cX3_fewestAhead 19 = .ok (.iaload, 1) := by decide +kernel
theorem dX3_fewestAhead_20 : decode cX3_fewestAhead 20 = .ok (.invokevirtual 58, 3) := by decide +kernel
theorem dX3_fewestAhead_23 : decode cX3_fewestAhead 23 = .ok (.ireturn, 1) := by decide +kernel
theorem dX3_fewestAhead_24 : decode cX3_fewestAhead 24 = .ok (.ldc 45, 2) := by decide +kernel
theorem dX3_fewestAhead_26 : decode cX3_fewestAhead 26 = .ok (.istore_n 3, 1) := by decide +kernel
theorem dX3_fewestAhead_27 : decode cX3_fewestAhead 27 = .ok (.iconst 0, 1) := by decide +kernel
theorem dX3_fewestAhead_28 : decode cX3_fewestAhead 28 = .ok (.istore 4, 2) := by decide +kernel
theorem dX3_fewestAhead_30 : decode cX3_fewestAhead 30 = .ok (.iload 4, 2) := by decide +kernel
theorem dX3_fewestAhead_32 : decode cX3_fewestAhead 32 = .ok (.aload_n 0, 1) := by decide +kernel
theorem dX3_fewestAhead_33 : decode cX3_fewestAhead 33 = .ok (.getfield 52, 3) := by decide +kernel
theorem dX3_fewestAhead_36 : decode cX3_fewestAhead 36 = .ok (.if_icmp .ge 31, 3) := by decide +kernel
theorem dX3_fewestAhead_39 : decode cX3_fewestAhead 39 = .ok (.iload_n 1, 1) := by decide +kernel
theorem dX3_fewestAhead_40 : decode cX3_fewestAhead 40 = .ok (.iload 4, 2) := by decide +kernel
theorem dX3_fewestAhead_42 : decode cX3_fewestAhead 42 = .ok (.invokestatic 34, 3) := by decide +kernel
theorem dX3_fewestAhead_45 : decode cX3_fewestAhead 45 = .ok (.ifCond .eq 16, 3) := by decide +kernel
theorem dX3_fewestAhead_48 : decode cX3_fewestAhead 48 = .ok (.iload_n 3, 1) := by decide +kernel
theorem dX3_fewestAhead_49 : decode cX3_fewestAhead 49 = .ok (.aload_n 0, 1) := by decide +kernel
theorem dX3_fewestAhead_50 : decode cX3_fewestAhead 50 = .ok (.iload_n 1, 1) := by decide +kernel
theorem dX3_fewestAhead_51 : decode cX3_fewestAhead 51 = .ok (.iload_n 2, 1) := by decide +kernel
theorem dX3_fewestAhead_52 : decode cX3_fewestAhead 52 = .ok (.iload 4, 2) := by decide +kernel
theorem dX3_fewestAhead_54 : decode cX3_fewestAhead 54 = .ok (.invokevirtual 61, 3) := by decide +kernel
theorem dX3_fewestAhead_57 : decode cX3_fewestAhead 57 = .ok (.invokestatic 46, 3) := by decide +kernel
theorem dX3_fewestAhead_60 : decode cX3_fewestAhead 60 = .ok (.istore_n 3, 1) := by decide +kernel
theorem dX3_fewestAhead_61 : decode cX3_fewestAhead 61 = .ok (.iinc 4 1, 3) := by decide +kernel
theorem dX3_fewestAhead_64 : decode cX3_fewestAhead 64 = .ok (.goto (-34), 3) := by decide +kernel
theorem dX3_fewestAhead_67 : decode cX3_fewestAhead 67 = .ok (.iload_n 3, 1) := by decide +kernel
theorem dX3_fewestAhead_68 : decode cX3_fewestAhead 68 = .ok (.ireturn, 1) := by decide +kernel
theorem dX3_aheadBy_0 : decode cX3_aheadBy 0 = .ok (.aload_n 0, 1) := by decide +kernel
theorem dX3_aheadBy_1 : decode cX3_aheadBy 1 = .ok (.aload_n 0, 1) := by decide +kernel
theorem dX3_aheadBy_2 : decode cX3_aheadBy 2 = .ok (.getfield 19, 3) := by decide +kernel
theorem dX3_aheadBy_5 : decode cX3_aheadBy 5 = .ok (.iload_n 2, 1) := by decide +kernel
theorem dX3_aheadBy_6 : decode cX3_aheadBy 6 = .ok (.iaload, 1) := by decide +kernel
theorem dX3_aheadBy_7 : decode cX3_aheadBy 7 = .ok (.aload_n 0, 1) := by decide +kernel
theorem dX3_aheadBy_8 : decode cX3_aheadBy 8 = .ok (.getfield 19, 3) := by decide +kernel
theorem dX3_aheadBy_11 : decode cX3_aheadBy 11 = .ok (.iload_n 3, 1) := by decide +kernel
theorem dX3_aheadBy_12 : decode cX3_aheadBy 12 = .ok (.iaload, 1) := by decide +kernel
theorem dX3_aheadBy_13 : decode cX3_aheadBy 13 = .ok (.invokevirtual 58, 3) := by decide +kernel
theorem dX3_aheadBy_16 : decode cX3_aheadBy 16 = .ok (.aload_n 0, 1) := by decide +kernel
theorem dX3_aheadBy_17 : decode cX3_aheadBy 17 = .ok (.getfield 23, 3) := by decide +kernel
theorem dX3_aheadBy_20 : decode cX3_aheadBy 20 = .ok (.iload_n 1, 1) := by decide +kernel
theorem dX3_aheadBy_21 : decode cX3_aheadBy 21 = .ok (.iconst 1, 1) := by decide +kernel
theorem dX3_aheadBy_22 : decode cX3_aheadBy 22 = .ok (.iload_n 3, 1) := by decide +kernel
theorem dX3_aheadBy_23 : decode cX3_aheadBy 23 = .ok (.ishl, 1) := by decide +kernel
theorem dX3_aheadBy_24 : decode cX3_aheadBy 24 = .ok (.ixor, 1) := by decide +kernel
theorem dX3_aheadBy_25 : decode cX3_aheadBy 25 = .ok (.bipush 8, 2) := by decide +kernel
theorem dX3_aheadBy_27 : decode cX3_aheadBy 27 = .ok (.imul, 1) := by decide +kernel
theorem dX3_aheadBy_28 : decode cX3_aheadBy 28 = .ok (.iload_n 3, 1) := by decide +kernel
theorem dX3_aheadBy_29 : decode cX3_aheadBy 29 = .ok (.iadd, 1) := by decide +kernel
theorem dX3_aheadBy_30 : decode cX3_aheadBy 30 = .ok (.iaload, 1) := by decide +kernel
theorem dX3_aheadBy_31 : decode cX3_aheadBy 31 = .ok (.iadd, 1) := by decide +kernel
theorem dX3_aheadBy_32 : decode cX3_aheadBy 32 = .ok (.ireturn, 1) := by decide +kernel
theorem dX3_stopAt_0 : decode cX3_stopAt 0 = .ok (.aload_n 0, 1) := by decide +kernel
theorem dX3_stopAt_1 : decode cX3_stopAt 1 = .ok (.getfield 52, 3) := by decide +kernel
theorem dX3_stopAt_4 : decode cX3_stopAt 4 = .ok (.istore_n 2, 1) := by decide +kernel
theorem dX3_stopAt_5 : decode cX3_stopAt 5 = .ok (.iconst 1, 1) := by decide +kernel
theorem dX3_stopAt_6 : decode cX3_stopAt 6 = .ok (.aload_n 0, 1) := by decide +kernel
theorem dX3_stopAt_7 : decode cX3_stopAt 7 = .ok (.getfield 52, 3) := by decide +kernel
theorem dX3_stopAt_10 : decode cX3_stopAt 10 = .ok (.ishl, 1) := by decide +kernel
theorem dX3_stopAt_11 : decode cX3_stopAt 11 = .ok (.iconst 1, 1) := by decide +kernel
theorem dX3_stopAt_12 : decode cX3_stopAt 12 = .ok (.isub, 1) := by decide +kernel
theorem dX3_stopAt_13 : decode cX3_stopAt 13 = .ok (.istore_n 3, 1) := by decide +kernel
theorem dX3_stopAt_14 : decode cX3_stopAt 14 = .ok (.iconst 0, 1) := by decide +kernel
theorem dX3_stopAt_15 : decode cX3_stopAt 15 = .ok (.istore 4, 2) := by decide +kernel
theorem dX3_stopAt_17 : decode cX3_stopAt 17 = .ok (.iload 4, 2) := by decide +kernel
theorem dX3_stopAt_19 : decode cX3_stopAt 19 = .ok (.iload_n 1, 1) := by decide +kernel
theorem dX3_stopAt_20 : decode cX3_stopAt 20 = .ok (.if_icmp .gt 37, 3) := by decide +kernel
theorem dX3_stopAt_23 : decode cX3_stopAt 23 = .ok (.iload 4, 2) := by decide +kernel
theorem dX3_stopAt_25 : decode cX3_stopAt 25 = .ok (.aload_n 0, 1) := by decide +kernel
theorem dX3_stopAt_26 : decode cX3_stopAt 26 = .ok (.getfield 52, 3) := by decide +kernel
theorem dX3_stopAt_29 : decode cX3_stopAt 29 = .ok (.if_icmp .ge 28, 3) := by decide +kernel
theorem dX3_stopAt_32 : decode cX3_stopAt 32 = .ok (.aload_n 0, 1) := by decide +kernel
theorem dX3_stopAt_33 : decode cX3_stopAt 33 = .ok (.iload_n 3, 1) := by decide +kernel
theorem dX3_stopAt_34 : decode cX3_stopAt 34 = .ok (.iload_n 2, 1) := by decide +kernel
theorem dX3_stopAt_35 : decode cX3_stopAt 35 = .ok (.invokevirtual 65, 3) := by decide +kernel
theorem dX3_stopAt_38 : decode cX3_stopAt 38 = .ok (.istore_n 2, 1) := by decide +kernel
theorem dX3_stopAt_39 : decode cX3_stopAt 39 = .ok (.iload_n 2, 1) := by decide +kernel
theorem dX3_stopAt_40 : decode cX3_stopAt 40 = .ok (.ifCond .ge 5, 3) := by decide +kernel
theorem dX3_stopAt_43 : decode cX3_stopAt 43 = .ok (.iconst (-1), 1) := by decide +kernel
theorem dX3_stopAt_44 : decode cX3_stopAt 44 = .ok (.ireturn, 1) := by decide +kernel
theorem dX3_stopAt_45 : decode cX3_stopAt 45 = .ok (.iload_n 3, 1) := by decide +kernel
theorem dX3_stopAt_46 : decode cX3_stopAt 46 = .ok (.iconst 1, 1) := by decide +kernel
theorem dX3_stopAt_47 : decode cX3_stopAt 47 = .ok (.iload_n 2, 1) := by decide +kernel
theorem dX3_stopAt_48 : decode cX3_stopAt 48 = .ok (.ishl, 1) := by decide +kernel
theorem dX3_stopAt_49 : decode cX3_stopAt 49 = .ok (.ixor, 1) := by decide +kernel
theorem dX3_stopAt_50 : decode cX3_stopAt 50 = .ok (.istore_n 3, 1) := by decide +kernel
theorem dX3_stopAt_51 : decode cX3_stopAt 51 = .ok (.iinc 4 1, 3) := by decide +kernel
theorem dX3_stopAt_54 : decode cX3_stopAt 54 = .ok (.goto (-37), 3) := by decide +kernel
theorem dX3_stopAt_57 : decode cX3_stopAt 57 = .ok (.aload_n 0, 1) := by decide +kernel
theorem dX3_stopAt_58 : decode cX3_stopAt 58 = .ok (.getfield 19, 3) := by decide +kernel
theorem dX3_stopAt_61 : decode cX3_stopAt 61 = .ok (.iload_n 2, 1) := by decide +kernel
theorem dX3_stopAt_62 : decode cX3_stopAt 62 = .ok (.iaload, 1) := by decide +kernel
theorem dX3_stopAt_63 : decode cX3_stopAt 63 = .ok (.ireturn, 1) := by decide +kernel
theorem dX3_nextStop_0 : decode cX3_nextStop 0 = .ok (.aload_n 0, 1) := by decide +kernel
theorem dX3_nextStop_1 : decode cX3_nextStop 1 = .ok (.getfield 23, 3) := by decide +kernel
theorem dX3_nextStop_4 : decode cX3_nextStop 4 = .ok (.iload_n 1, 1) := by decide +kernel
theorem dX3_nextStop_5 : decode cX3_nextStop 5 = .ok (.bipush 8, 2) := by decide +kernel
theorem dX3_nextStop_7 : decode cX3_nextStop 7 = .ok (.imul, 1) := by decide +kernel
theorem dX3_nextStop_8 : decode cX3_nextStop 8 = .ok (.iload_n 2, 1) := by decide +kernel
theorem dX3_nextStop_9 : decode cX3_nextStop 9 = .ok (.iadd, 1) := by decide +kernel
theorem dX3_nextStop_10 : decode cX3_nextStop 10 = .ok (.iaload, 1) := by decide +kernel
theorem dX3_nextStop_11 : decode cX3_nextStop 11 = .ok (.istore_n 3, 1) := by decide +kernel
theorem dX3_nextStop_12 : decode cX3_nextStop 12 = .ok (.iconst 0, 1) := by decide +kernel
theorem dX3_nextStop_13 : decode cX3_nextStop 13 = .ok (.istore 4, 2) := by decide +kernel
theorem dX3_nextStop_15 : decode cX3_nextStop 15 = .ok (.iload 4, 2) := by decide +kernel
theorem dX3_nextStop_17 : decode cX3_nextStop 17 = .ok (.aload_n 0, 1) := by decide +kernel
theorem dX3_nextStop_18 : decode cX3_nextStop 18 = .ok (.getfield 52, 3) := by decide +kernel
theorem dX3_nextStop_21 : decode cX3_nextStop 21 = .ok (.if_icmp .ge 33, 3) := by decide +kernel
theorem dX3_nextStop_24 : decode cX3_nextStop 24 = .ok (.iload_n 1, 1) := by decide +kernel
theorem dX3_nextStop_25 : decode cX3_nextStop 25 = .ok (.iload 4, 2) := by decide +kernel
theorem dX3_nextStop_27 : decode cX3_nextStop 27 = .ok (.invokestatic 34, 3) := by decide +kernel
theorem dX3_nextStop_30 : decode cX3_nextStop 30 = .ok (.ifCond .eq 18, 3) := by decide +kernel
theorem dX3_nextStop_33 : decode cX3_nextStop 33 = .ok (.aload_n 0, 1) := by decide +kernel
theorem dX3_nextStop_34 : decode cX3_nextStop 34 = .ok (.iload_n 1, 1) := by decide +kernel
theorem dX3_nextStop_35 : decode cX3_nextStop 35 = .ok (.iload_n 2, 1) := by decide +kernel
theorem dX3_nextStop_36 : decode cX3_nextStop 36 = .ok (.iload 4, 2) := by decide +kernel
theorem dX3_nextStop_38 : decode cX3_nextStop 38 = .ok (.invokevirtual 61, 3) := by decide +kernel
theorem dX3_nextStop_41 : decode cX3_nextStop 41 = .ok (.iload_n 3, 1) := by decide +kernel
theorem dX3_nextStop_42 : decode cX3_nextStop 42 = .ok (.if_icmp .ne 6, 3) := by decide +kernel
theorem dX3_nextStop_45 : decode cX3_nextStop 45 = .ok (.iload 4, 2) := by decide +kernel
theorem dX3_nextStop_47 : decode cX3_nextStop 47 = .ok (.ireturn, 1) := by decide +kernel
theorem dX3_nextStop_48 : decode cX3_nextStop 48 = .ok (.iinc 4 1, 3) := by decide +kernel
theorem dX3_nextStop_51 : decode cX3_nextStop 51 = .ok (.goto (-36), 3) := by decide +kernel
theorem dX3_nextStop_54 : decode cX3_nextStop 54 = .ok (.iconst (-1), 1) := by decide +kernel
theorem dX3_nextStop_55 : decode cX3_nextStop 55 = .ok (.ireturn, 1) := by decide +kernel
theorem dX4_init_0 : decode cX4_init 0 = .ok (.aload_n 0, 1) := by decide +kernel
theorem dX4_init_1 : decode cX4_init 1 = .ok (.invokespecial 1, 3) := by decide +kernel
theorem dX4_init_4 : decode cX4_init 4 = .ok (.aload_n 0, 1) := by decide +kernel
theorem dX4_init_5 : decode cX4_init 5 = .ok (.bipush 16, 2) := by decide +kernel
theorem dX4_init_7 : decode cX4_init 7 = .ok (.newarray .int, 2) := by decide +kernel
theorem dX4_init_9 : decode cX4_init 9 = .ok (.putfield 9, 3) := by decide +kernel
theorem dX4_init_12 : decode cX4_init 12 = .ok (.aload_n 0, 1) := by decide +kernel
theorem dX4_init_13 : decode cX4_init 13 = .ok (.bipush 16, 2) := by decide +kernel
theorem dX4_init_15 : decode cX4_init 15 = .ok (.newarray .int, 2) := by decide +kernel
theorem dX4_init_17 : decode cX4_init 17 = .ok (.putfield 13, 3) := by decide +kernel
theorem dX4_init_20 : decode cX4_init 20 = .ok (.aload_n 0, 1) := by decide +kernel
theorem dX4_init_21 : decode cX4_init 21 = .ok (.bipush 16, 2) := by decide +kernel
theorem dX4_init_23 : decode cX4_init 23 = .ok (.newarray .int, 2) := by decide +kernel
theorem dX4_init_25 : decode cX4_init 25 = .ok (.putfield 16, 3) := by decide +kernel
theorem dX4_init_28 : decode cX4_init 28 = .ok (.aload_n 0, 1) := by decide +kernel
theorem dX4_init_29 : decode cX4_init 29 = .ok (.bipush 16, 2) := by decide +kernel
theorem dX4_init_31 : decode cX4_init 31 = .ok (.newarray .int, 2) := by decide +kernel
theorem dX4_init_33 : decode cX4_init 33 = .ok (.putfield 19, 3) := by decide +kernel
theorem dX4_init_36 : decode cX4_init 36 = .ok (.aload_n 0, 1) := by decide +kernel
theorem dX4_init_37 : decode cX4_init 37 = .ok (.sipush 240, 3) := by decide +kernel
theorem dX4_init_40 : decode cX4_init 40 = .ok (.newarray .int, 2) := by decide +kernel
theorem dX4_init_42 : decode cX4_init 42 = .ok (.putfield 22, 3) := by decide +kernel
theorem dX4_init_45 : decode cX4_init 45 = .ok (.aload_n 0, 1) := by decide +kernel
theorem dX4_init_46 : decode cX4_init 46 = .ok (.bipush 32, 2) := by decide +kernel
theorem dX4_init_48 : decode cX4_init 48 = .ok (.newarray .long, 2) := by decide +kernel
theorem dX4_init_50 : decode cX4_init 50 = .ok (.putfield 25, 3) := by decide +kernel
theorem dX4_init_53 : decode cX4_init 53 = .ok (.aload_n 0, 1) := by decide +kernel
theorem dX4_init_54 : decode cX4_init 54 = .ok (.bipush 26, 2) := by decide +kernel
theorem dX4_init_56 : decode cX4_init 56 = .ok (.newarray .int, 2) := by decide +kernel
theorem dX4_init_58 : decode cX4_init 58 = .ok (.putfield 29, 3) := by decide +kernel
theorem dX4_init_61 : decode cX4_init 61 = .ok (.return_, 1) := by decide +kernel
theorem dX4_clear_0 : decode cX4_clear 0 = .ok (.aload_n 0, 1) := by decide +kernel
theorem dX4_clear_1 : decode cX4_clear 1 = .ok (.iconst 0, 1) := by decide +kernel
theorem dX4_clear_2 : decode cX4_clear 2 = .ok (.putfield 32, 3) := by decide +kernel
theorem dX4_clear_5 : decode cX4_clear 5 = .ok (.aload_n 0, 1) := by decide +kernel
theorem dX4_clear_6 : decode cX4_clear 6 = .ok (.iconst 0, 1) := by decide +kernel
theorem dX4_clear_7 : decode cX4_clear 7 = .ok (.putfield 36, 3) := by decide +kernel
theorem dX4_clear_10 : decode cX4_clear 10 = .ok (.return_, 1) := by decide +kernel
theorem dX4_add_0 : decode cX4_add 0 = .ok (.aload_n 0, 1) := by decide +kernel
theorem dX4_add_1 : decode cX4_add 1 = .ok (.getfield 36, 3) := by decide +kernel
theorem dX4_add_4 : decode cX4_add 4 = .ok (.sipush 240, 3) := by decide +kernel
theorem dX4_add_7 : decode cX4_add 7 = .ok (.if_icmp .ge 23, 3) := by decide +kernel
theorem dX4_add_10 : decode cX4_add 10 = .ok (.aload_n 0, 1) := by decide +kernel
theorem dX4_add_11 : decode cX4_add 11 = .ok (.getfield 22, 3) := by decide +kernel
theorem dX4_add_14 : decode cX4_add 14 = .ok (.aload_n 0, 1) := by decide +kernel
theorem dX4_add_15 : decode cX4_add 15 = .ok (.getfield 36, 3) := by decide +kernel
theorem dX4_add_18 : decode cX4_add 18 = .ok (.iload_n 1, 1) := by decide +kernel
theorem dX4_add_19 : decode cX4_add 19 = .ok (.iastore, 1) := by decide +kernel
theorem dX4_add_20 : decode cX4_add 20 = .ok (.aload_n 0, 1) := by decide +kernel
theorem dX4_add_21 : decode cX4_add 21 = .ok (.dup, 1) := by decide +kernel
theorem dX4_add_22 : decode cX4_add 22 = .ok (.getfield 36, 3) := by decide +kernel
theorem dX4_add_25 : decode cX4_add 25 = .ok (.iconst 1, 1) := by decide +kernel
theorem dX4_add_26 : decode cX4_add 26 = .ok (.iadd, 1) := by decide +kernel
theorem dX4_add_27 : decode cX4_add 27 = .ok (.putfield 36, 3) := by decide +kernel
theorem dX4_add_30 : decode cX4_add 30 = .ok (.return_, 1) := by decide +kernel
theorem dX4_askOf_0 : decode cX4_askOf 0 = .ok (.aload_n 0, 1) := by decide +kernel
theorem dX4_askOf_1 : decode cX4_askOf 1 = .ok (.getfield 29, 3) := by decide +kernel
theorem dX4_askOf_4 : decode cX4_askOf 4 = .ok (.bipush 15, 2) := by decide +kernel
theorem dX4_askOf_6 : decode cX4_askOf 6 = .ok (.iload_n 1, 1) := by decide +kernel
theorem dX4_askOf_7 : decode cX4_askOf 7 = .ok (.iastore, 1) := by decide +kernel
theorem dX4_askOf_8 : decode cX4_askOf 8 = .ok (.aload_n 0, 1) := by decide +kernel
theorem dX4_askOf_9 : decode cX4_askOf 9 = .ok (.getfield 29, 3) := by decide +kernel
theorem dX4_askOf_12 : decode cX4_askOf 12 = .ok (.bipush 22, 2) := by decide +kernel
theorem dX4_askOf_14 : decode cX4_askOf 14 = .ok (.iload_n 2, 1) := by decide +kernel
theorem dX4_askOf_15 : decode cX4_askOf 15 = .ok (.iastore, 1) := by decide +kernel
theorem dX4_askOf_16 : decode cX4_askOf 16 = .ok (.aload_n 0, 1) := by decide +kernel
theorem dX4_askOf_17 : decode cX4_askOf 17 = .ok (.getfield 29, 3) := by decide +kernel
theorem dX4_askOf_20 : decode cX4_askOf 20 = .ok (.bipush 17, 2) := by decide +kernel
theorem dX4_askOf_22 : decode cX4_askOf 22 = .ok (.iload_n 3, 1) := by decide +kernel
theorem dX4_askOf_23 : decode cX4_askOf 23 = .ok (.iastore, 1) := by decide +kernel
theorem dX4_askOf_24 : decode cX4_askOf 24 = .ok (.aload_n 0, 1) := by decide +kernel
theorem dX4_askOf_25 : decode cX4_askOf 25 = .ok (.getfield 29, 3) := by decide +kernel
theorem dX4_askOf_28 : decode cX4_askOf 28 = .ok (.bipush 10, 2) := by decide +kernel
theorem dX4_askOf_30 : decode cX4_askOf 30 = .ok (.iload 4, 2) := by decide +kernel
theorem dX4_askOf_32 : decode cX4_askOf 32 = .ok (.iastore, 1) := by decide +kernel
theorem dX4_askOf_33 : decode cX4_askOf 33 = .ok (.return_, 1) := by decide +kernel
theorem dX4_askBy_0 : decode cX4_askBy 0 = .ok (.aload_n 0, 1) := by decide +kernel
theorem dX4_askBy_1 : decode cX4_askBy 1 = .ok (.getfield 29, 3) := by decide +kernel
theorem dX4_askBy_4 : decode cX4_askBy 4 = .ok (.bipush 11, 2) := by decide +kernel
theorem dX4_askBy_6 : decode cX4_askBy 6 = .ok (.iload_n 1, 1) := by decide +kernel
theorem dX4_askBy_7 : decode cX4_askBy 7 = .ok (.iastore, 1) := by decide +kernel
theorem dX4_askBy_8 : decode cX4_askBy 8 = .ok (.aload_n 0, 1) := by decide +kernel
theorem dX4_askBy_9 : decode cX4_askBy 9 = .ok (.getfield 29, 3) := by decide +kernel
theorem dX4_askBy_12 : decode cX4_askBy 12 = .ok (.iconst 3, 1) := by decide +kernel
theorem dX4_askBy_13 : decode cX4_askBy 13 = .ok (.iload_n 2, 1) := by decide +kernel
theorem dX4_askBy_14 : decode cX4_askBy 14 = .ok (.iastore, 1) := by decide +kernel
theorem dX4_askBy_15 : decode cX4_askBy 15 = .ok (.aload_n 0, 1) := by decide +kernel
theorem dX4_askBy_16 : decode cX4_askBy 16 = .ok (.getfield 29, 3) := by decide +kernel
theorem dX4_askBy_19 : decode cX4_askBy 19 = .ok (.bipush 12, 2) := by decide +kernel
theorem dX4_askBy_21 : decode cX4_askBy 21 = .ok (.iload_n 3, 1) := by decide +kernel
theorem dX4_askBy_22 : decode cX4_askBy 22 = .ok (.bipush 12, 2) := by decide +kernel
theorem dX4_askBy_24 : decode cX4_askBy 24 = .ok (.irem, 1) := by decide +kernel
theorem dX4_askBy_25 : decode cX4_askBy 25 = .ok (.iastore, 1) := by decide +kernel
theorem dX4_askBy_26 : decode cX4_askBy 26 = .ok (.return_, 1) := by decide +kernel
theorem dX4_number_0 : decode cX4_number 0 = .ok (.iconst 0, 1) := by decide +kernel
theorem dX4_number_1 : decode cX4_number 1 = .ok (.istore_n 3, 1) := by decide +kernel
theorem dX4_number_2 : decode cX4_number 2 = .ok (.iload_n 3, 1) := by decide +kernel
theorem dX4_number_3 : decode cX4_number 3 = .ok (.aload_n 0, 1) := by decide +kernel
theorem dX4_number_4 : decode cX4_number 4 = .ok (.getfield 32, 3) := by decide +kernel
theorem dX4_number_7 : decode cX4_number 7 = .ok (.if_icmp .ge 90, 3) := by decide +kernel
theorem dX4_number_10 : decode cX4_number 10 = .ok (.iload_n 3, 1) := by decide +kernel
theorem dX4_number_11 : decode cX4_number 11 = .ok (.bipush 16, 2) := by decide +kernel
theorem dX4_number_13 : decode cX4_number 13 = .ok (.if_icmp .ge 84, 3) := by decide +kernel
theorem dX4_number_16 : decode cX4_number 16 = .ok (.aload_n 0, 1) := by decide +kernel
theorem dX4_number_17 : decode cX4_number 17 = .ok (.getfield 9, 3) := by decide +kernel
theorem dX4_number_20 : decode cX4_number 20 = .ok (.iload_n 3, 1) := by decide +kernel
theorem dX4_number_21 : decode cX4_number 21 = .ok (.iaload, 1) := by decide +kernel
theorem dX4_number_22 : decode cX4_number 22 = .ok (.iload_n 1, 1) := by decide +kernel
theorem dX4_number_23 : decode cX4_number 23 = .ok (.if_icmp .ne 68, 3) := by decide +kernel
theorem dX4_number_26 : decode cX4_number 26 = .ok (.aload_n 0, 1) := by decide +kernel
theorem dX4_number_27 : decode cX4_number 27 = .ok (.aload_n 0, 1) := by decide +kernel
theorem dX4_number_28 : decode cX4_number 28 = .ok (.getfield 16, 3) := by decide +kernel
theorem dX4_number_31 : decode cX4_number 31 = .ok (.iload_n 3, 1) := by decide +kernel
theorem dX4_number_32 : decode cX4_number 32 = .ok (.iaload, 1) := by decide +kernel
theorem dX4_number_33 : decode cX4_number 33 = .ok (.aload_n 0, 1) := by decide +kernel
theorem dX4_number_34 : decode cX4_number 34 = .ok (.getfield 19, 3) := by decide +kernel
theorem dX4_number_37 : decode cX4_number 37 = .ok (.iload_n 3, 1) := by decide +kernel
theorem dX4_number_38 : decode cX4_number 38 = .ok (.iaload, 1) := by decide +kernel
theorem dX4_number_39 : decode cX4_number 39 = .ok (.invokevirtual 39, 3) := by decide +kernel
theorem dX4_number_42 : decode cX4_number 42 = .ok (.lconst 1, 1) := by decide +kernel
theorem dX4_number_43 : decode cX4_number 43 = .ok (.lcmp, 1) := by decide +kernel
theorem dX4_number_44 : decode cX4_number 44 = .ok (.ifCond .ne 47, 3) := by decide +kernel
theorem dX4_number_47 : decode cX4_number 47 = .ok (.aload_n 0, 1) := by decide +kernel
theorem dX4_number_48 : decode cX4_number 48 = .ok (.aload_n 0, 1) := by decide +kernel
theorem dX4_number_49 : decode cX4_number 49 = .ok (.getfield 13, 3) := by decide +kernel
theorem dX4_number_52 : decode cX4_number 52 = .ok (.iload_n 3, 1) := by decide +kernel
theorem dX4_number_53 : decode cX4_number 53 = .ok (.iaload, 1) := by decide +kernel
theorem dX4_number_54 : decode cX4_number 54 = .ok (.aload_n 0, 1) := by decide +kernel
theorem dX4_number_55 : decode cX4_number 55 = .ok (.getfield 16, 3) := by decide +kernel
theorem dX4_number_58 : decode cX4_number 58 = .ok (.iload_n 3, 1) := by decide +kernel
theorem dX4_number_59 : decode cX4_number 59 = .ok (.iaload, 1) := by decide +kernel
theorem dX4_number_60 : decode cX4_number 60 = .ok (.invokevirtual 39, 3) := by decide +kernel
theorem dX4_number_63 : decode cX4_number 63 = .ok (.lstore 4, 2) := by decide +kernel
theorem dX4_number_65 : decode cX4_number 65 = .ok (.lload 4, 2) := by decide +kernel
theorem dX4_number_67 : decode cX4_number 67 = .ok (.ldc2_w 43, 3) := by decide +kernel
theorem dX4_number_70 : decode cX4_number 70 = .ok (.lcmp, 1) := by decide +kernel
theorem dX4_number_71 : decode cX4_number 71 = .ok (.ifCond .ne 7, 3) := by decide +kernel
theorem dX4_number_74 : decode cX4_number 74 = .ok (.iconst 0, 1) := by decide +kernel
theorem dX4_number_75 : decode cX4_number 75 = .ok (.goto 15, 3) := by decide +kernel
theorem dX4_number_78 : decode cX4_number 78 = .ok (.lconst 0, 1) := by decide +kernel
theorem dX4_number_79 : decode cX4_number 79 = .ok (.iload_n 2, 1) := by decide +kernel
theorem dX4_number_80 : decode cX4_number 80 = .ok (.i2l, 1) := by decide +kernel
theorem dX4_number_81 : decode cX4_number 81 = .ok (.lload 4, 2) := by decide +kernel
theorem dX4_number_83 : decode cX4_number 83 = .ok (.invokestatic 45, 3) := by decide +kernel
theorem dX4_number_86 : decode cX4_number 86 = .ok (.invokestatic 51, 3) := by decide +kernel
theorem dX4_number_89 : decode cX4_number 89 = .ok (.l2i, 1) := by decide +kernel
theorem dX4_number_90 : decode cX4_number 90 = .ok (.ireturn, 1) := by decide +kernel
theorem dX4_number_91 : decode cX4_number 91 = .ok (.iinc 3 1, 3) := by decide +kernel
theorem dX4_number_94 : decode cX4_number 94 = .ok (.goto (-92), 3) := by decide +kernel
theorem dX4_number_97 : decode cX4_number 97 = .ok (.iconst 0, 1) := by decide +kernel
theorem dX4_number_98 : decode cX4_number 98 = .ok (.ireturn, 1) := by decide +kernel
theorem dX4_shuts_0 : decode cX4_shuts 0 = .ok (.iconst 0, 1) := by decide +kernel
theorem dX4_shuts_1 : decode cX4_shuts 1 = .ok (.istore_n 1, 1) := by decide +kernel
theorem dX4_shuts_2 : decode cX4_shuts 2 = .ok (.iload_n 1, 1) := by decide +kernel
theorem dX4_shuts_3 : decode cX4_shuts 3 = .ok (.aload_n 0, 1) := by decide +kernel
theorem dX4_shuts_4 : decode cX4_shuts 4 = .ok (.getfield 32, 3) := by decide +kernel
theorem dX4_shuts_7 : decode cX4_shuts 7 = .ok (.if_icmp .ge 49, 3) := by decide +kernel
theorem dX4_shuts_10 : decode cX4_shuts 10 = .ok (.iload_n 1, 1) := by decide +kernel
theorem dX4_shuts_11 : decode cX4_shuts 11 = .ok (.bipush 16, 2) := by decide +kernel
theorem dX4_shuts_13 : decode cX4_shuts 13 = .ok (.if_icmp .ge 43, 3) := by decide +kernel
theorem dX4_shuts_16 : decode cX4_shuts 16 = .ok (.aload_n 0, 1) := by decide +kernel
theorem dX4_shuts_17 : decode cX4_shuts 17 = .ok (.getfield 9, 3) := by decide +kernel
theorem dX4_shuts_20 : decode cX4_shuts 20 = .ok (.iload_n 1, 1) := by decide +kernel
theorem dX4_shuts_21 : decode cX4_shuts 21 = .ok (.iaload, 1) := by decide +kernel
theorem dX4_shuts_22 : decode cX4_shuts 22 = .ok (.bipush 120, 2) := by decide +kernel
theorem dX4_shuts_24 : decode cX4_shuts 24 = .ok (.if_icmp .ne 26, 3) := by decide +kernel
theorem dX4_shuts_27 : decode cX4_shuts 27 = .ok (.aload_n 0, 1) := by decide +kernel
theorem dX4_shuts_28 : decode cX4_shuts 28 = .ok (.aload_n 0, 1) := by decide +kernel
theorem dX4_shuts_29 : decode cX4_shuts 29 = .ok (.getfield 16, 3) := by decide +kernel
theorem dX4_shuts_32 : decode cX4_shuts 32 = .ok (.iload_n 1, 1) := by decide +kernel
theorem dX4_shuts_33 : decode cX4_shuts 33 = .ok (.iaload, 1) := by decide +kernel
theorem dX4_shuts_34 : decode cX4_shuts 34 = .ok (.aload_n 0, 1) := by decide +kernel
theorem dX4_shuts_35 : decode cX4_shuts 35 = .ok (.getfield 19, 3) := by decide +kernel
theorem dX4_shuts_38 : decode cX4_shuts 38 = .ok (.iload_n 1, 1) := by decide +kernel
theorem dX4_shuts_39 : decode cX4_shuts 39 = .ok (.iaload, 1) := by decide +kernel
theorem dX4_shuts_40 : decode cX4_shuts 40 = .ok (.invokevirtual 39, 3) := by decide +kernel
theorem dX4_shuts_43 : decode cX4_shuts 43 = .ok (.lconst 1, 1) := by decide +kernel
theorem dX4_shuts_44 : decode cX4_shuts 44 = .ok (.lcmp, 1) := by decide +kernel
theorem dX4_shuts_45 : decode cX4_shuts 45 = .ok (.ifCond .ne 5, 3) := by decide +kernel
theorem dX4_shuts_48 : decode cX4_shuts 48 = .ok (.iconst 1, 1) := by decide +kernel
theorem dX4_shuts_49 : decode cX4_shuts 49 = .ok (.ireturn, 1) := by decide +kernel
theorem dX4_shuts_50 : decode cX4_shuts 50 = .ok (.iinc 1 1, 3) := by decide +kernel
theorem dX4_shuts_53 : decode cX4_shuts 53 = .ok (.goto (-51), 3) := by decide +kernel
theorem dX4_shuts_56 : decode cX4_shuts 56 = .ok (.iconst 0, 1) := by decide +kernel
theorem dX4_shuts_57 : decode cX4_shuts 57 = .ok (.ireturn, 1) := by decide +kernel
theorem dX4_worth_0 : decode cX4_worth 0 = .ok (.iconst 0, 1) := by decide +kernel
theorem dX4_worth_1 : decode cX4_worth 1 = .ok (.istore_n 3, 1) := by decide +kernel
theorem dX4_worth_2 : decode cX4_worth 2 = .ok (.iload_n 1, 1) := by decide +kernel
theorem dX4_worth_3 : decode cX4_worth 3 = .ok (.istore 4, 2) := by decide +kernel
theorem dX4_worth_5 : decode cX4_worth 5 = .ok (.iload 4, 2) := by decide +kernel
theorem dX4_worth_7 : decode cX4_worth 7 = .ok (.iload_n 2, 1) := by decide +kernel
theorem dX4_worth_8 : decode cX4_worth 8 = .ok (.if_icmp .ge 164, 3) := by decide +kernel
theorem dX4_worth_11 : decode cX4_worth 11 = .ok (.iload 4, 2) := by decide +kernel
theorem dX4_worth_13 : decode cX4_worth 13 = .ok (.sipush 240, 3) := by decide +kernel
theorem dX4_worth_16 : decode cX4_worth 16 = .ok (.if_icmp .ge 156, 3) := by decide +kernel
theorem dX4_worth_19 : decode cX4_worth 19 = .ok (.aload_n 0, 1) := by decide +kernel
theorem dX4_worth_20 : decode cX4_worth 20 = .ok (.getfield 22, 3) := by decide +kernel
theorem dX4_worth_23 : decode cX4_worth 23 = .ok (.iload 4, 2) := by decide +kernel
theorem dX4_worth_25 : decode cX4_worth 25 = .ok (.iaload, 1) := by decide +kernel
theorem dX4_worth_26 : decode cX4_worth 26 = .ok (.istore 5, 2) := by decide +kernel
theorem dX4_worth_28 : decode cX4_worth 28 = .ok (.iload 5, 2) := by decide +kernel
theorem dX4_worth_30 : decode cX4_worth 30 = .ok (.ifCond .ge 12, 3) := by decide +kernel
theorem dX4_worth_33 : decode cX4_worth 33 = .ok (.iload 5, 2) := by decide +kernel
theorem dX4_worth_35 : decode cX4_worth 35 = .ok (.ineg, 1) := by decide +kernel
theorem dX4_worth_36 : decode cX4_worth 36 = .ok (.invokestatic 54, 3) := by decide +kernel
theorem dX4_worth_39 : decode cX4_worth 39 = .ok (.ifCond .eq 44, 3) := by decide +kernel
theorem dX4_worth_42 : decode cX4_worth 42 = .ok (.iload_n 3, 1) := by decide +kernel
theorem dX4_worth_43 : decode cX4_worth 43 = .ok (.bipush 32, 2) := by decide +kernel
theorem dX4_worth_45 : decode cX4_worth 45 = .ok (.if_icmp .ge 121, 3) := by decide +kernel
theorem dX4_worth_48 : decode cX4_worth 48 = .ok (.aload_n 0, 1) := by decide +kernel
theorem dX4_worth_49 : decode cX4_worth 49 = .ok (.getfield 25, 3) := by decide +kernel
theorem dX4_worth_52 : decode cX4_worth 52 = .ok (.iload_n 3, 1) := by decide +kernel
theorem dX4_worth_53 : decode cX4_worth 53 = .ok (.iload 5, 2) := by decide +kernel
theorem dX4_worth_55 : decode cX4_worth 55 = .ok (.ifCond .lt 9, 3) := by decide +kernel
theorem dX4_worth_58 : decode cX4_worth 58 = .ok (.iload 5, 2) := by decide +kernel
theorem dX4_worth_60 : decode cX4_worth 60 = .ok (.i2l, 1) := by decide +kernel
theorem dX4_worth_61 : decode cX4_worth 61 = .ok (.goto 15, 3) := by decide +kernel
theorem dX4_worth_64 : decode cX4_worth 64 = .ok (.aload_n 0, 1) := by decide +kernel
theorem dX4_worth_65 : decode cX4_worth 65 = .ok (.getfield 29, 3) := by decide +kernel
theorem dX4_worth_68 : decode cX4_worth 68 = .ok (.iload 5, 2) := by decide +kernel
theorem dX4_worth_70 : decode cX4_worth 70 = .ok (.ineg, 1) := by decide +kernel
theorem dX4_worth_71 : decode cX4_worth 71 = .ok (.bipush 97, 2) := by decide +kernel
theorem dX4_worth_73 : decode cX4_worth 73 = .ok (.isub, 1) := by decide +kernel
theorem dX4_worth_74 : decode cX4_worth 74 = .ok (.iaload, 1) := by decide +kernel
theorem dX4_worth_75 : decode cX4_worth 75 = .ok (.i2l, 1) := by decide +kernel
theorem dX4_worth_76 : decode cX4_worth 76 = .ok (.lastore, 1) := by decide +kernel
theorem dX4_worth_77 : decode cX4_worth 77 = .ok (.iinc 3 1, 3) := by decide +kernel
theorem dX4_worth_80 : decode cX4_worth 80 = .ok (.goto 86, 3) := by decide +kernel
theorem dX4_worth_83 : decode cX4_worth 83 = .ok (.iload 5, 2) := by decide +kernel
theorem dX4_worth_85 : decode cX4_worth 85 = .ok (.bipush (-33), 2) := by decide +kernel
theorem dX4_worth_87 : decode cX4_worth 87 = .ok (.if_icmp .ne 43, 3) := by decide +kernel
theorem dX4_worth_90 : decode cX4_worth 90 = .ok (.iload_n 3, 1) := by decide +kernel
theorem dX4_worth_91 : decode cX4_worth 91 = .ok (.ifCond .le 75, 3) := by decide +kernel
theorem dX4_worth_94 : decode cX4_worth 94 = .ok (.aload_n 0, 1) := by decide +kernel
theorem dX4_worth_95 : decode cX4_worth 95 = .ok (.getfield 25, 3) := by decide +kernel
theorem dX4_worth_98 : decode cX4_worth 98 = .ok (.iload_n 3, 1) := by decide +kernel
theorem dX4_worth_99 : decode cX4_worth 99 = .ok (.iconst 1, 1) := by decide +kernel
theorem dX4_worth_100 : decode cX4_worth 100 = .ok (.isub, 1) := by decide +kernel
theorem dX4_worth_101 : decode cX4_worth 101 = .ok (.laload, 1) := by decide +kernel
theorem dX4_worth_102 : decode cX4_worth 102 = .ok (.ldc2_w 43, 3) := by decide +kernel
theorem dX4_worth_105 : decode cX4_worth 105 = .ok (.lcmp, 1) := by decide +kernel
theorem dX4_worth_106 : decode cX4_worth 106 = .ok (.ifCond .eq 60, 3) := by decide +kernel
theorem dX4_worth_109 : decode cX4_worth 109 = .ok (.aload_n 0, 1) := by decide +kernel
theorem dX4_worth_110 : decode cX4_worth 110 = .ok (.getfield 25, 3) := by decide +kernel
theorem dX4_worth_113 : decode cX4_worth 113 = .ok (.iload_n 3, 1) := by decide +kernel
theorem dX4_worth_114 : decode cX4_worth 114 = .ok (.iconst 1, 1) := by decide +kernel
theorem dX4_worth_115 : decode cX4_worth 115 = .ok (.isub, 1) := by decide +kernel
theorem dX4_worth_116 : decode cX4_worth 116 = .ok (.lconst 1, 1) := by decide +kernel
theorem dX4_worth_117 : decode cX4_worth 117 = .ok (.aload_n 0, 1) := by decide +kernel
theorem dX4_worth_118 : decode cX4_worth 118 = .ok (.getfield 25, 3) := by decide +kernel
theorem dX4_worth_121 : decode cX4_worth 121 = .ok (.iload_n 3, 1) := by decide +kernel
theorem dX4_worth_122 : decode cX4_worth 122 = .ok (.iconst 1, 1) := by decide +kernel
theorem dX4_worth_123 : decode cX4_worth 123 = .ok (.isub, 1) := by decide +kernel
theorem dX4_worth_124 : decode cX4_worth 124 = .ok (.laload, 1) := by decide +kernel
theorem dX4_worth_125 : decode cX4_worth 125 = .ok (.lsub, 1) := by decide +kernel
theorem dX4_worth_126 : decode cX4_worth 126 = .ok (.lastore, 1) := by decide +kernel
theorem dX4_worth_127 : decode cX4_worth 127 = .ok (.goto 39, 3) := by decide +kernel
theorem dX4_worth_130 : decode cX4_worth 130 = .ok (.iload_n 3, 1) := by decide +kernel
theorem dX4_worth_131 : decode cX4_worth 131 = .ok (.iconst 1, 1) := by decide +kernel
theorem dX4_worth_132 : decode cX4_worth 132 = .ok (.if_icmp .le 34, 3) := by decide +kernel
theorem dX4_worth_135 : decode cX4_worth 135 = .ok (.iinc 3 (-1), 3) := by decide +kernel
theorem dX4_worth_138 : decode cX4_worth 138 = .ok (.aload_n 0, 1) := by decide +kernel
theorem dX4_worth_139 : decode cX4_worth 139 = .ok (.getfield 25, 3) := by decide +kernel
theorem dX4_worth_142 : decode cX4_worth 142 = .ok (.iload_n 3, 1) := by decide +kernel
theorem dX4_worth_143 : decode cX4_worth 143 = .ok (.iconst 1, 1) := by decide +kernel
theorem dX4_worth_144 : decode cX4_worth 144 = .ok (.isub, 1) := by decide +kernel
theorem dX4_worth_145 : decode cX4_worth 145 = .ok (.iload 5, 2) := by decide +kernel
theorem dX4_worth_147 : decode cX4_worth 147 = .ok (.ineg, 1) := by decide +kernel
theorem dX4_worth_148 : decode cX4_worth 148 = .ok (.aload_n 0, 1) := by decide +kernel
theorem dX4_worth_149 : decode cX4_worth 149 = .ok (.getfield 25, 3) := by decide +kernel
theorem dX4_worth_152 : decode cX4_worth 152 = .ok (.iload_n 3, 1) := by decide +kernel
theorem dX4_worth_153 : decode cX4_worth 153 = .ok (.iconst 1, 1) := by decide +kernel
theorem dX4_worth_154 : decode cX4_worth 154 = .ok (.isub, 1) := by decide +kernel
theorem dX4_worth_155 : decode cX4_worth 155 = .ok (.laload, 1) := by decide +kernel
theorem dX4_worth_156 : decode cX4_worth 156 = .ok (.aload_n 0, 1) := by decide +kernel
theorem dX4_worth_157 : decode cX4_worth 157 = .ok (.getfield 25, 3) := by decide +kernel
theorem dX4_worth_160 : decode cX4_worth 160 = .ok (.iload_n 3, 1) := by decide +kernel
theorem dX4_worth_161 : decode cX4_worth 161 = .ok (.laload, 1) := by decide +kernel
theorem dX4_worth_162 : decode cX4_worth 162 = .ok (.invokestatic 58, 3) := by decide +kernel
theorem dX4_worth_165 : decode cX4_worth 165 = .ok (.lastore, 1) := by decide +kernel
theorem dX4_worth_166 : decode cX4_worth 166 = .ok (.iinc 4 1, 3) := by decide +kernel
theorem dX4_worth_169 : decode cX4_worth 169 = .ok (.goto (-164), 3) := by decide +kernel
theorem dX4_worth_172 : decode cX4_worth 172 = .ok (.iload_n 3, 1) := by decide +kernel
theorem dX4_worth_173 : decode cX4_worth 173 = .ok (.ifCond .le 14, 3) := by decide +kernel
theorem dX4_worth_176 : decode cX4_worth 176 = .ok (.aload_n 0, 1) := by decide +kernel
theorem dX4_worth_177 : decode cX4_worth 177 = .ok (.getfield 25, 3) := by decide +kernel
theorem dX4_worth_180 : decode cX4_worth 180 = .ok (.iload_n 3, 1) := by decide +kernel
theorem dX4_worth_181 : decode cX4_worth 181 = .ok (.iconst 1, 1) := by decide +kernel
theorem dX4_worth_182 : decode cX4_worth 182 = .ok (.isub, 1) := by decide +kernel
theorem dX4_worth_183 : decode cX4_worth 183 = .ok (.laload, 1) := by decide +kernel
theorem dX4_worth_184 : decode cX4_worth 184 = .ok (.goto 6, 3) := by decide +kernel
theorem dX4_worth_187 : decode cX4_worth 187 = .ok (.ldc2_w 43, 3) := by decide +kernel
theorem dX4_worth_190 : decode cX4_worth 190 = .ok (.lreturn, 1) := by decide +kernel
theorem dX4_isFact_0 : decode cX4_isFact 0 = .ok (.iload_n 0, 1) := by decide +kernel
theorem dX4_isFact_1 : decode cX4_isFact 1 = .ok (.bipush 97, 2) := by decide +kernel
theorem dX4_isFact_3 : decode cX4_isFact 3 = .ok (.if_icmp .lt 13, 3) := by decide +kernel
theorem dX4_isFact_6 : decode cX4_isFact 6 = .ok (.iload_n 0, 1) := by decide +kernel
theorem dX4_isFact_7 : decode cX4_isFact 7 = .ok (.bipush 122, 2) := by decide +kernel
theorem dX4_isFact_9 : decode cX4_isFact 9 = .ok (.if_icmp .gt 7, 3) := by decide +kernel
theorem dX4_isFact_12 : decode cX4_isFact 12 = .ok (.iconst 1, 1) := by decide +kernel
theorem dX4_isFact_13 : decode cX4_isFact 13 = .ok (.goto 4, 3) := by decide +kernel
theorem dX4_isFact_16 : decode cX4_isFact 16 = .ok (.iconst 0, 1) := by decide +kernel
theorem dX4_isFact_17 : decode cX4_isFact 17 = .ok (.ireturn, 1) := by decide +kernel
theorem dX4_joined_0 : decode cX4_joined 0 = .ok (.iload_n 0, 1) := by decide +kernel
theorem dX4_joined_1 : decode cX4_joined 1 = .ok (.bipush 38, 2) := by decide +kernel
theorem dX4_joined_3 : decode cX4_joined 3 = .ok (.if_icmp .ne 15, 3) := by decide +kernel
theorem dX4_joined_6 : decode cX4_joined 6 = .ok (.lload_n 1, 1) := by decide +kernel
theorem dX4_joined_7 : decode cX4_joined 7 = .ok (.lconst 1, 1) := by decide +kernel
theorem dX4_joined_8 : decode cX4_joined 8 = .ok (.lcmp, 1) := by decide +kernel
theorem dX4_joined_9 : decode cX4_joined 9 = .ok (.ifCond .ne 7, 3) := by decide +kernel
theorem dX4_joined_12 : decode cX4_joined 12 = .ok (.lload_n 3, 1) := by decide +kernel
theorem dX4_joined_13 : decode cX4_joined 13 = .ok (.goto 4, 3) := by decide +kernel
theorem dX4_joined_16 : decode cX4_joined 16 = .ok (.lload_n 1, 1) := by decide +kernel
theorem dX4_joined_17 : decode cX4_joined 17 = .ok (.lreturn, 1) := by decide +kernel
theorem dX4_joined_18 : decode cX4_joined 18 = .ok (.iload_n 0, 1) := by decide +kernel
theorem dX4_joined_19 : decode cX4_joined 19 = .ok (.bipush 124, 2) := by decide +kernel
theorem dX4_joined_21 : decode cX4_joined 21 = .ok (.if_icmp .ne 15, 3) := by decide +kernel
theorem dX4_joined_24 : decode cX4_joined 24 = .ok (.lload_n 1, 1) := by decide +kernel
theorem dX4_joined_25 : decode cX4_joined 25 = .ok (.lconst 0, 1) := by decide +kernel
theorem dX4_joined_26 : decode cX4_joined 26 = .ok (.lcmp, 1) := by decide +kernel
theorem dX4_joined_27 : decode cX4_joined 27 = .ok (.ifCond .ne 7, 3) := by decide +kernel
theorem dX4_joined_30 : decode cX4_joined 30 = .ok (.lload_n 3, 1) := by decide +kernel
theorem dX4_joined_31 : decode cX4_joined 31 = .ok (.goto 4, 3) := by decide +kernel
theorem dX4_joined_34 : decode cX4_joined 34 = .ok (.lload_n 1, 1) := by decide +kernel
theorem dX4_joined_35 : decode cX4_joined 35 = .ok (.lreturn, 1) := by decide +kernel
theorem dX4_joined_36 : decode cX4_joined 36 = .ok (.lload_n 1, 1) := by decide +kernel
theorem dX4_joined_37 : decode cX4_joined 37 = .ok (.ldc2_w 43, 3) := by decide +kernel
theorem dX4_joined_40 : decode cX4_joined 40 = .ok (.lcmp, 1) := by decide +kernel
theorem dX4_joined_41 : decode cX4_joined 41 = .ok (.ifCond .eq 11, 3) := by decide +kernel
theorem dX4_joined_44 : decode cX4_joined 44 = .ok (.lload_n 3, 1) := by decide +kernel
theorem dX4_joined_45 : decode cX4_joined 45 = .ok (.ldc2_w 43, 3) := by decide +kernel
theorem dX4_joined_48 : decode cX4_joined 48 = .ok (.lcmp, 1) := by decide +kernel
theorem dX4_joined_49 : decode cX4_joined 49 = .ok (.ifCond .ne 7, 3) := by decide +kernel
theorem dX4_joined_52 : decode cX4_joined 52 = .ok (.ldc2_w 43, 3) := by decide +kernel
theorem dX4_joined_55 : decode cX4_joined 55 = .ok (.lreturn, 1) := by decide +kernel
theorem dX4_joined_56 : decode cX4_joined 56 = .ok (.iload_n 0, 1) := by decide +kernel
theorem dX4_joined_57 : decode cX4_joined 57 = .ok (.lookupswitch 145 #[(37, 103), (42, 79), (43, 67), (45, 73), (47, 85), (60, 121), (62, 133)], 67) := by decide +kernel
theorem dX4_joined_124 : decode cX4_joined 124 = .ok (.lload_n 1, 1) := by decide +kernel
theorem dX4_joined_125 : decode cX4_joined 125 = .ok (.lload_n 3, 1) := by decide +kernel
theorem dX4_joined_126 : decode cX4_joined 126 = .ok (.ladd, 1) := by decide +kernel
theorem dX4_joined_127 : decode cX4_joined 127 = .ok (.l2i, 1) := by decide +kernel
theorem dX4_joined_128 : decode cX4_joined 128 = .ok (.i2l, 1) := by decide +kernel
theorem dX4_joined_129 : decode cX4_joined 129 = .ok (.lreturn, 1) := by decide +kernel
theorem dX4_joined_130 : decode cX4_joined 130 = .ok (.lload_n 1, 1) := by decide +kernel
theorem dX4_joined_131 : decode cX4_joined 131 = .ok (.lload_n 3, 1) := by decide +kernel
theorem dX4_joined_132 : decode cX4_joined 132 = .ok (.lsub, 1) := by decide +kernel
theorem dX4_joined_133 : decode cX4_joined 133 = .ok (.l2i, 1) := by decide +kernel
theorem dX4_joined_134 : decode cX4_joined 134 = .ok (.i2l, 1) := by decide +kernel
theorem dX4_joined_135 : decode cX4_joined 135 = .ok (.lreturn, 1) := by decide +kernel
theorem dX4_joined_136 : decode cX4_joined 136 = .ok (.lload_n 1, 1) := by decide +kernel
theorem dX4_joined_137 : decode cX4_joined 137 = .ok (.lload_n 3, 1) := by decide +kernel
theorem dX4_joined_138 : decode cX4_joined 138 = .ok (.lmul, 1) := by decide +kernel
theorem dX4_joined_139 : decode cX4_joined 139 = .ok (.l2i, 1) := by decide +kernel
theorem dX4_joined_140 : decode cX4_joined 140 = .ok (.i2l, 1) := by decide +kernel
theorem dX4_joined_141 : decode cX4_joined 141 = .ok (.lreturn, 1) := by decide +kernel
theorem dX4_joined_142 : decode cX4_joined 142 = .ok (.lload_n 3, 1) := by decide +kernel
theorem dX4_joined_143 : decode cX4_joined 143 = .ok (.lconst 0, 1) := by decide +kernel
theorem dX4_joined_144 : decode cX4_joined 144 = .ok (.lcmp, 1) := by decide +kernel
theorem dX4_joined_145 : decode cX4_joined 145 = .ok (.ifCond .ne 9, 3) := by decide +kernel
theorem dX4_joined_148 : decode cX4_joined 148 = .ok (.ldc2_w 43, 3) := by decide +kernel
theorem dX4_joined_151 : decode cX4_joined 151 = .ok (.goto 8, 3) := by decide +kernel
theorem dX4_joined_154 : decode cX4_joined 154 = .ok (.lload_n 1, 1) := by decide +kernel
theorem dX4_joined_155 : decode cX4_joined 155 = .ok (.lload_n 3, 1) := by decide +kernel
theorem dX4_joined_156 : decode cX4_joined 156 = .ok (.ldiv, 1) := by decide +kernel
theorem dX4_joined_157 : decode cX4_joined 157 = .ok (.l2i, 1) := by decide +kernel
theorem dX4_joined_158 : decode cX4_joined 158 = .ok (.i2l, 1) := by decide +kernel
theorem dX4_joined_159 : decode cX4_joined 159 = .ok (.lreturn, 1) := by decide +kernel
theorem dX4_joined_160 : decode cX4_joined 160 = .ok (.lload_n 3, 1) := by decide +kernel
theorem dX4_joined_161 : decode cX4_joined 161 = .ok (.lconst 0, 1) := by decide +kernel
theorem dX4_joined_162 : decode cX4_joined 162 = .ok (.lcmp, 1) := by decide +kernel
theorem dX4_joined_163 : decode cX4_joined 163 = .ok (.ifCond .ne 9, 3) := by decide +kernel
theorem dX4_joined_166 : decode cX4_joined 166 = .ok (.ldc2_w 43, 3) := by decide +kernel
theorem dX4_joined_169 : decode cX4_joined 169 = .ok (.goto 8, 3) := by decide +kernel
theorem dX4_joined_172 : decode cX4_joined 172 = .ok (.lload_n 1, 1) := by decide +kernel
theorem dX4_joined_173 : decode cX4_joined 173 = .ok (.lload_n 3, 1) := by decide +kernel
theorem dX4_joined_174 : decode cX4_joined 174 = .ok (.lrem, 1) := by decide +kernel
theorem dX4_joined_175 : decode cX4_joined 175 = .ok (.l2i, 1) := by decide +kernel
theorem dX4_joined_176 : decode cX4_joined 176 = .ok (.i2l, 1) := by decide +kernel
theorem dX4_joined_177 : decode cX4_joined 177 = .ok (.lreturn, 1) := by decide +kernel
theorem dX4_joined_178 : decode cX4_joined 178 = .ok (.lload_n 1, 1) := by decide +kernel
theorem dX4_joined_179 : decode cX4_joined 179 = .ok (.lload_n 3, 1) := by decide +kernel
theorem dX4_joined_180 : decode cX4_joined 180 = .ok (.lcmp, 1) := by decide +kernel
theorem dX4_joined_181 : decode cX4_joined 181 = .ok (.ifCond .ge 7, 3) := by decide +kernel
theorem dX4_joined_184 : decode cX4_joined 184 = .ok (.lconst 1, 1) := by decide +kernel
theorem dX4_joined_185 : decode cX4_joined 185 = .ok (.goto 4, 3) := by decide +kernel
theorem dX4_joined_188 : decode cX4_joined 188 = .ok (.lconst 0, 1) := by decide +kernel
theorem dX4_joined_189 : decode cX4_joined 189 = .ok (.lreturn, 1) := by decide +kernel
theorem dX4_joined_190 : decode cX4_joined 190 = .ok (.lload_n 1, 1) := by decide +kernel
theorem dX4_joined_191 : decode cX4_joined 191 = .ok (.lload_n 3, 1) := by decide +kernel
theorem dX4_joined_192 : decode cX4_joined 192 = .ok (.lcmp, 1) := by decide +kernel
theorem dX4_joined_193 : decode cX4_joined 193 = .ok (.ifCond .le 7, 3) := by decide +kernel
theorem dX4_joined_196 : decode cX4_joined 196 = .ok (.lconst 1, 1) := by decide +kernel
theorem dX4_joined_197 : decode cX4_joined 197 = .ok (.goto 4, 3) := by decide +kernel
theorem dX4_joined_200 : decode cX4_joined 200 = .ok (.lconst 0, 1) := by decide +kernel
theorem dX4_joined_201 : decode cX4_joined 201 = .ok (.lreturn, 1) := by decide +kernel
theorem dX4_joined_202 : decode cX4_joined 202 = .ok (.lload_n 1, 1) := by decide +kernel
theorem dX4_joined_203 : decode cX4_joined 203 = .ok (.lload_n 3, 1) := by decide +kernel
theorem dX4_joined_204 : decode cX4_joined 204 = .ok (.lcmp, 1) := by decide +kernel
theorem dX4_joined_205 : decode cX4_joined 205 = .ok (.ifCond .ne 7, 3) := by decide +kernel
theorem dX4_joined_208 : decode cX4_joined 208 = .ok (.lconst 1, 1) := by decide +kernel
theorem dX4_joined_209 : decode cX4_joined 209 = .ok (.goto 4, 3) := by decide +kernel
theorem dX4_joined_212 : decode cX4_joined 212 = .ok (.lconst 0, 1) := by decide +kernel
theorem dX4_joined_213 : decode cX4_joined 213 = .ok (.lreturn, 1) := by decide +kernel
theorem dX5_init_0 : decode cX5_init 0 = .ok (.aload_n 0, 1) := by decide +kernel
theorem dX5_init_1 : decode cX5_init 1 = .ok (.invokespecial 3, 3) := by decide +kernel
theorem dX5_init_4 : decode cX5_init 4 = .ok (.aload_n 0, 1) := by decide +kernel
theorem dX5_init_5 : decode cX5_init 5 = .ok (.bipush 8, 2) := by decide +kernel
theorem dX5_init_7 : decode cX5_init 7 = .ok (.newarray .int, 2) := by decide +kernel
theorem dX5_init_9 : decode cX5_init 9 = .ok (.putfield 11, 3) := by decide +kernel
theorem dX5_init_12 : decode cX5_init 12 = .ok (.aload_n 0, 1) := by decide +kernel
theorem dX5_init_13 : decode cX5_init 13 = .ok (.bipush 8, 2) := by decide +kernel
theorem dX5_init_15 : decode cX5_init 15 = .ok (.newarray .int, 2) := by decide +kernel
theorem dX5_init_17 : decode cX5_init 17 = .ok (.putfield 15, 3) := by decide +kernel
theorem dX5_init_20 : decode cX5_init 20 = .ok (.aload_n 0, 1) := by decide +kernel
theorem dX5_init_21 : decode cX5_init 21 = .ok (.bipush 8, 2) := by decide +kernel
theorem dX5_init_23 : decode cX5_init 23 = .ok (.newarray .int, 2) := by decide +kernel
theorem dX5_init_25 : decode cX5_init 25 = .ok (.putfield 18, 3) := by decide +kernel
theorem dX5_init_28 : decode cX5_init 28 = .ok (.aload_n 0, 1) := by decide +kernel
theorem dX5_init_29 : decode cX5_init 29 = .ok (.bipush 6, 2) := by decide +kernel
theorem dX5_init_31 : decode cX5_init 31 = .ok (.newarray .int, 2) := by decide +kernel
theorem dX5_init_33 : decode cX5_init 33 = .ok (.putfield 21, 3) := by decide +kernel
theorem dX5_init_36 : decode cX5_init 36 = .ok (.aload_n 0, 1) := by decide +kernel
theorem dX5_init_37 : decode cX5_init 37 = .ok (.sipush 1000, 3) := by decide +kernel
theorem dX5_init_40 : decode cX5_init 40 = .ok (.newarray .int, 2) := by decide +kernel
theorem dX5_init_42 : decode cX5_init 42 = .ok (.putfield 24, 3) := by decide +kernel
theorem dX5_init_45 : decode cX5_init 45 = .ok (.return_, 1) := by decide +kernel
theorem dX5_winner_0 : decode cX5_winner 0 = .ok (.iconst (-1), 1) := by decide +kernel
theorem dX5_winner_1 : decode cX5_winner 1 = .ok (.istore_n 3, 1) := by decide +kernel
theorem dX5_winner_2 : decode cX5_winner 2 = .ok (.iconst 0, 1) := by decide +kernel
theorem dX5_winner_3 : decode cX5_winner 3 = .ok (.istore 4, 2) := by decide +kernel
theorem dX5_winner_5 : decode cX5_winner 5 = .ok (.iload 4, 2) := by decide +kernel
theorem dX5_winner_7 : decode cX5_winner 7 = .ok (.iload_n 2, 1) := by decide +kernel
theorem dX5_winner_8 : decode cX5_winner 8 = .ok (.if_icmp .ge 33, 3) := by decide +kernel
theorem dX5_winner_11 : decode cX5_winner 11 = .ok (.iload 4, 2) := by decide +kernel
theorem dX5_winner_13 : decode cX5_winner 13 = .ok (.bipush 12, 2) := by decide +kernel
theorem dX5_winner_15 : decode cX5_winner 15 = .ok (.if_icmp .ge 26, 3) := by decide +kernel
theorem dX5_winner_18 : decode cX5_winner 18 = .ok (.iload_n 3, 1) := by decide +kernel
theorem dX5_winner_19 : decode cX5_winner 19 = .ok (.ifCond .lt 13, 3) := by decide +kernel
theorem dX5_winner_22 : decode cX5_winner 22 = .ok (.aload_n 1, 1) := by decide +kernel
theorem dX5_winner_23 : decode cX5_winner 23 = .ok (.iload 4, 2) := by decide +kernel
theorem dX5_winner_25 : decode cX5_winner 25 = .ok (.iaload, 1) := by decide +kernel
theorem dX5_winner_26 : decode cX5_winner 26 = .ok (.aload_n 1, 1) := by decide +kernel
theorem dX5_winner_27 : decode cX5_winner 27 = .ok (.iload_n 3, 1) := by decide +kernel
theorem dX5_winner_28 : decode cX5_winner 28 = .ok (.iaload, 1) := by decide +kernel
theorem dX5_winner_29 : decode cX5_winner 29 = .ok (.if_icmp .le 6, 3) := by decide +kernel
theorem dX5_winner_32 : decode cX5_winner 32 = .ok (.iload 4, 2) := by decide +kernel
theorem dX5_winner_34 : decode cX5_winner 34 = .ok (.istore_n 3, 1) := by decide +kernel
theorem dX5_winner_35 : decode cX5_winner 35 = .ok (.iinc 4 1, 3) := by decide +kernel
theorem dX5_winner_38 : decode cX5_winner 38 = .ok (.goto (-33), 3) := by decide +kernel
theorem dX5_winner_41 : decode cX5_winner 41 = .ok (.iload_n 3, 1) := by decide +kernel
theorem dX5_winner_42 : decode cX5_winner 42 = .ok (.ireturn, 1) := by decide +kernel
theorem dX5_price_0 : decode cX5_price 0 = .ok (.iload 4, 2) := by decide +kernel
theorem dX5_price_2 : decode cX5_price 2 = .ok (.istore 5, 2) := by decide +kernel
theorem dX5_price_4 : decode cX5_price 4 = .ok (.iconst 0, 1) := by decide +kernel
theorem dX5_price_5 : decode cX5_price 5 = .ok (.istore 6, 2) := by decide +kernel
theorem dX5_price_7 : decode cX5_price 7 = .ok (.iload 6, 2) := by decide +kernel
theorem dX5_price_9 : decode cX5_price 9 = .ok (.iload_n 2, 1) := by decide +kernel
theorem dX5_price_10 : decode cX5_price 10 = .ok (.if_icmp .ge 33, 3) := by decide +kernel
theorem dX5_price_13 : decode cX5_price 13 = .ok (.iload 6, 2) := by decide +kernel
theorem dX5_price_15 : decode cX5_price 15 = .ok (.bipush 12, 2) := by decide +kernel
theorem dX5_price_17 : decode cX5_price 17 = .ok (.if_icmp .ge 26, 3) := by decide +kernel
theorem dX5_price_20 : decode cX5_price 20 = .ok (.iload 6, 2) := by decide +kernel
theorem dX5_price_22 : decode cX5_price 22 = .ok (.iload_n 3, 1) := by decide +kernel
theorem dX5_price_23 : decode cX5_price 23 = .ok (.if_icmp .eq 14, 3) := by decide +kernel
theorem dX5_price_26 : decode cX5_price 26 = .ok (.iload 5, 2) := by decide +kernel
theorem dX5_price_28 : decode cX5_price 28 = .ok (.aload_n 1, 1) := by decide +kernel
theorem dX5_price_29 : decode cX5_price 29 = .ok (.iload 6, 2) := by decide +kernel
theorem dX5_price_31 : decode cX5_price 31 = .ok (.iaload, 1) := by decide +kernel
theorem dX5_price_32 : decode cX5_price 32 = .ok (.invokestatic 27, 3) := by decide +kernel
theorem dX5_price_35 : decode cX5_price 35 = .ok (.istore 5, 2) := by decide +kernel
theorem dX5_price_37 : decode cX5_price 37 = .ok (.iinc 6 1, 3) := by decide +kernel
theorem dX5_price_40 : decode cX5_price 40 = .ok (.goto (-33), 3) := by decide +kernel
theorem dX5_price_43 : decode cX5_price 43 = .ok (.iload 5, 2) := by decide +kernel
theorem dX5_price_45 : decode cX5_price 45 = .ok (.ireturn, 1) := by decide +kernel
theorem dX5_takeLosses_0 : decode cX5_takeLosses 0 = .ok (.iconst 1, 1) := by decide +kernel
theorem dX5_takeLosses_1 : decode cX5_takeLosses 1 = .ok (.istore_n 3, 1) := by decide +kernel
theorem dX5_takeLosses_2 : decode cX5_takeLosses 2 = .ok (.iconst 0, 1) := by decide +kernel
theorem dX5_takeLosses_3 : decode cX5_takeLosses 3 = .ok (.istore 4, 2) := by decide +kernel
theorem dX5_takeLosses_5 : decode cX5_takeLosses 5 = .ok (.iload 4, 2) := by decide +kernel
theorem dX5_takeLosses_7 : decode cX5_takeLosses 7 = .ok (.iload_n 2, 1) := by decide +kernel
theorem dX5_takeLosses_8 : decode cX5_takeLosses 8 = .ok (.if_icmp .ge 65, 3) := by decide +kernel
theorem dX5_takeLosses_11 : decode cX5_takeLosses 11 = .ok (.iload 4, 2) := by decide +kernel
theorem dX5_takeLosses_13 : decode cX5_takeLosses 13 = .ok (.bipush 8, 2) := by decide +kernel
theorem dX5_takeLosses_15 : decode cX5_takeLosses 15 = .ok (.if_icmp .ge 58, 3) := by decide +kernel
theorem dX5_takeLosses_18 : decode cX5_takeLosses 18 = .ok (.aload_n 0, 1) := by decide +kernel
theorem dX5_takeLosses_19 : decode cX5_takeLosses 19 = .ok (.getfield 11, 3) := by decide +kernel
theorem dX5_takeLosses_22 : decode cX5_takeLosses 22 = .ok (.iload 4, 2) := by decide +kernel
theorem dX5_takeLosses_24 : decode cX5_takeLosses 24 = .ok (.aload_n 1, 1) := by decide +kernel
theorem dX5_takeLosses_25 : decode cX5_takeLosses 25 = .ok (.iconst 2, 1) := by decide +kernel
theorem dX5_takeLosses_26 : decode cX5_takeLosses 26 = .ok (.iload 4, 2) := by decide +kernel
theorem dX5_takeLosses_28 : decode cX5_takeLosses 28 = .ok (.imul, 1) := by decide +kernel
theorem dX5_takeLosses_29 : decode cX5_takeLosses 29 = .ok (.iaload, 1) := by decide +kernel
theorem dX5_takeLosses_30 : decode cX5_takeLosses 30 = .ok (.sipush 256, 3) := by decide +kernel
theorem dX5_takeLosses_33 : decode cX5_takeLosses 33 = .ok (.imul, 1) := by decide +kernel
theorem dX5_takeLosses_34 : decode cX5_takeLosses 34 = .ok (.aload_n 1, 1) := by decide +kernel
theorem dX5_takeLosses_35 : decode cX5_takeLosses 35 = .ok (.iconst 2, 1) := by decide +kernel
theorem dX5_takeLosses_36 : decode cX5_takeLosses 36 = .ok (.iload 4, 2) := by decide +kernel
theorem dX5_takeLosses_38 : decode cX5_takeLosses 38 = .ok (.imul, 1) := by decide +kernel
theorem dX5_takeLosses_39 : decode cX5_takeLosses 39 = .ok (.iconst 1, 1) := by decide +kernel
theorem dX5_takeLosses_40 : decode cX5_takeLosses 40 = .ok (.iadd, 1) := by decide +kernel
theorem dX5_takeLosses_41 : decode cX5_takeLosses 41 = .ok (.iaload, 1) := by decide +kernel
theorem dX5_takeLosses_42 : decode cX5_takeLosses 42 = .ok (.iadd, 1) := by decide +kernel
theorem dX5_takeLosses_43 : decode cX5_takeLosses 43 = .ok (.iastore, 1) := by decide +kernel
theorem dX5_takeLosses_44 : decode cX5_takeLosses 44 = .ok (.iload_n 3, 1) := by decide +kernel
theorem dX5_takeLosses_45 : decode cX5_takeLosses 45 = .ok (.ifCond .eq 20, 3) := by decide +kernel
theorem dX5_takeLosses_48 : decode cX5_takeLosses 48 = .ok (.aload_n 0, 1) := by decide +kernel
theorem dX5_takeLosses_49 : decode cX5_takeLosses 49 = .ok (.getfield 11, 3) := by decide +kernel
theorem dX5_takeLosses_52 : decode cX5_takeLosses 52 = .ok (.iload 4, 2) := by decide +kernel
theorem dX5_takeLosses_54 : decode cX5_takeLosses 54 = .ok (.iaload, 1) := by decide +kernel
theorem dX5_takeLosses_55 : decode cX5_takeLosses 55 = .ok (.sipush 9999, 3) := by decide +kernel
theorem dX5_takeLosses_58 : decode cX5_takeLosses 58 = .ok (.if_icmp .gt 7, 3) := by decide +kernel
theorem dX5_takeLosses_61 : decode cX5_takeLosses 61 = .ok (.iconst 1, 1) := by decide +kernel
theorem dX5_takeLosses_62 : decode cX5_takeLosses 62 = .ok (.goto 4, 3) := by decide +kernel
theorem dX5_takeLosses_65 : decode cX5_takeLosses 65 = .ok (.iconst 0, 1) := by decide +kernel
theorem dX5_takeLosses_66 : decode cX5_takeLosses 66 = .ok (.istore_n 3, 1) := by decide +kernel
theorem dX5_takeLosses_67 : decode cX5_takeLosses 67 = .ok (.iinc 4 1, 3) := by decide +kernel
theorem dX5_takeLosses_70 : decode cX5_takeLosses 70 = .ok (.goto (-65), 3) := by decide +kernel
theorem dX5_takeLosses_73 : decode cX5_takeLosses 73 = .ok (.iload_n 3, 1) := by decide +kernel
theorem dX5_takeLosses_74 : decode cX5_takeLosses 74 = .ok (.ireturn, 1) := by decide +kernel
theorem dX5_divide_0 : decode cX5_divide 0 = .ok (.iload_n 3, 1) := by decide +kernel
theorem dX5_divide_1 : decode cX5_divide 1 = .ok (.iconst 2, 1) := by decide +kernel
theorem dX5_divide_2 : decode cX5_divide 2 = .ok (.if_icmp .ne 7, 3) := by decide +kernel
theorem dX5_divide_5 : decode cX5_divide 5 = .ok (.iconst 1, 1) := by decide +kernel
theorem dX5_divide_6 : decode cX5_divide 6 = .ok (.goto 4, 3) := by decide +kernel
theorem dX5_divide_9 : decode cX5_divide 9 = .ok (.iconst 0, 1) := by decide +kernel
theorem dX5_divide_10 : decode cX5_divide 10 = .ok (.istore 4, 2) := by decide +kernel
theorem dX5_divide_12 : decode cX5_divide 12 = .ok (.iconst 0, 1) := by decide +kernel
theorem dX5_divide_13 : decode cX5_divide 13 = .ok (.istore 5, 2) := by decide +kernel
theorem dX5_divide_15 : decode cX5_divide 15 = .ok (.iload 5, 2) := by decide +kernel
theorem dX5_divide_17 : decode cX5_divide 17 = .ok (.bipush 8, 2) := by decide +kernel
theorem dX5_divide_19 : decode cX5_divide 19 = .ok (.if_icmp .ge 50, 3) := by decide +kernel
theorem dX5_divide_22 : decode cX5_divide 22 = .ok (.aload_n 0, 1) := by decide +kernel
theorem dX5_divide_23 : decode cX5_divide 23 = .ok (.getfield 15, 3) := by decide +kernel
theorem dX5_divide_26 : decode cX5_divide 26 = .ok (.iload 5, 2) := by decide +kernel
theorem dX5_divide_28 : decode cX5_divide 28 = .ok (.iload 5, 2) := by decide +kernel
theorem dX5_divide_30 : decode cX5_divide 30 = .ok (.iload_n 1, 1) := by decide +kernel
theorem dX5_divide_31 : decode cX5_divide 31 = .ok (.if_icmp .lt 7, 3) := by decide +kernel
theorem dX5_divide_34 : decode cX5_divide 34 = .ok (.iconst 0, 1) := by decide +kernel
theorem dX5_divide_35 : decode cX5_divide 35 = .ok (.goto 27, 3) := by decide +kernel
theorem dX5_divide_38 : decode cX5_divide 38 = .ok (.iload 4, 2) := by decide +kernel
theorem dX5_divide_40 : decode cX5_divide 40 = .ok (.ifCond .eq 15, 3) := by decide +kernel
theorem dX5_divide_43 : decode cX5_divide 43 = .ok (.aload_n 0, 1) := by decide +kernel
theorem dX5_divide_44 : decode cX5_divide 44 = .ok (.getfield 11, 3) := by decide +kernel
theorem dX5_divide_47 : decode cX5_divide 47 = .ok (.iload 5, 2) := by decide +kernel
theorem dX5_divide_49 : decode cX5_divide 49 = .ok (.iaload, 1) := by decide +kernel
theorem dX5_divide_50 : decode cX5_divide 50 = .ok (.iconst 2, 1) := by decide +kernel
theorem dX5_divide_51 : decode cX5_divide 51 = .ok (.idiv, 1) := by decide +kernel
theorem dX5_divide_52 : decode cX5_divide 52 = .ok (.goto 10, 3) := by decide +kernel
theorem dX5_divide_55 : decode cX5_divide 55 = .ok (.aload_n 0, 1) := by decide +kernel
theorem dX5_divide_56 : decode cX5_divide 56 = .ok (.getfield 11, 3) := by decide +kernel
theorem dX5_divide_59 : decode cX5_divide 59 = .ok (.iload 5, 2) := by decide +kernel
theorem dX5_divide_61 : decode cX5_divide 61 = .ok (.iaload, 1) := by decide +kernel
theorem dX5_divide_62 : decode cX5_divide 62 = .ok (.iastore, 1) := by decide +kernel
theorem dX5_divide_63 : decode cX5_divide 63 = .ok (.iinc 5 1, 3) := by decide +kernel
theorem dX5_divide_66 : decode cX5_divide 66 = .ok (.goto (-51), 3) := by decide +kernel
theorem dX5_divide_69 : decode cX5_divide 69 = .ok (.iload_n 3, 1) := by decide +kernel
theorem dX5_divide_70 : decode cX5_divide 70 = .ok (.ifCond .eq 22, 3) := by decide +kernel
theorem dX5_divide_73 : decode cX5_divide 73 = .ok (.iload 4, 2) := by decide +kernel
theorem dX5_divide_75 : decode cX5_divide 75 = .ok (.ifCond .eq 25, 3) := by decide +kernel
theorem dX5_divide_78 : decode cX5_divide 78 = .ok (.iconst 2, 1) := by decide +kernel
theorem dX5_divide_79 : decode cX5_divide 79 = .ok (.iload_n 2, 1) := by decide +kernel
theorem dX5_divide_80 : decode cX5_divide 80 = .ok (.imul, 1) := by decide +kernel
theorem dX5_divide_81 : decode cX5_divide 81 = .ok (.aload_n 0, 1) := by decide +kernel
theorem dX5_divide_82 : decode cX5_divide 82 = .ok (.getfield 11, 3) := by decide +kernel
theorem dX5_divide_85 : decode cX5_divide 85 = .ok (.iload_n 1, 1) := by decide +kernel
theorem dX5_divide_86 : decode cX5_divide 86 = .ok (.invokestatic 33, 3) := by decide +kernel
theorem dX5_divide_89 : decode cX5_divide 89 = .ok (.if_icmp .gt 11, 3) := by decide +kernel
theorem dX5_divide_92 : decode cX5_divide 92 = .ok (.aload_n 0, 1) := by decide +kernel
theorem dX5_divide_93 : decode cX5_divide 93 = .ok (.iload_n 2, 1) := by decide +kernel
theorem dX5_divide_94 : decode cX5_divide 94 = .ok (.invokevirtual 37, 3) := by decide +kernel
theorem dX5_divide_97 : decode cX5_divide 97 = .ok (.goto 31, 3) := by decide +kernel
theorem dX5_divide_100 : decode cX5_divide 100 = .ok (.iload_n 3, 1) := by decide +kernel
theorem dX5_divide_101 : decode cX5_divide 101 = .ok (.iconst 1, 1) := by decide +kernel
theorem dX5_divide_102 : decode cX5_divide 102 = .ok (.if_icmp .ne 11, 3) := by decide +kernel
theorem dX5_divide_105 : decode cX5_divide 105 = .ok (.aload_n 0, 1) := by decide +kernel
theorem dX5_divide_106 : decode cX5_divide 106 = .ok (.iload_n 2, 1) := by decide +kernel
theorem dX5_divide_107 : decode cX5_divide 107 = .ok (.invokevirtual 41, 3) := by decide +kernel
theorem dX5_divide_110 : decode cX5_divide 110 = .ok (.goto 18, 3) := by decide +kernel
theorem dX5_divide_113 : decode cX5_divide 113 = .ok (.aload_n 0, 1) := by decide +kernel
theorem dX5_divide_114 : decode cX5_divide 114 = .ok (.iload_n 1, 1) := by decide +kernel
theorem dX5_divide_115 : decode cX5_divide 115 = .ok (.iload_n 2, 1) := by decide +kernel
theorem dX5_divide_116 : decode cX5_divide 116 = .ok (.aload_n 0, 1) := by decide +kernel
theorem dX5_divide_117 : decode cX5_divide 117 = .ok (.getfield 15, 3) := by decide +kernel
theorem dX5_divide_120 : decode cX5_divide 120 = .ok (.iload_n 1, 1) := by decide +kernel
theorem dX5_divide_121 : decode cX5_divide 121 = .ok (.invokestatic 33, 3) := by decide +kernel
theorem dX5_divide_124 : decode cX5_divide 124 = .ok (.isub, 1) := by decide +kernel
theorem dX5_divide_125 : decode cX5_divide 125 = .ok (.invokevirtual 44, 3) := by decide +kernel
theorem dX5_divide_128 : decode cX5_divide 128 = .ok (.return_, 1) := by decide +kernel
theorem dX5_divideRests_0 : decode cX5_divideRests 0 = .ok (.iconst 0, 1) := by decide +kernel
theorem dX5_divideRests_1 : decode cX5_divideRests 1 = .ok (.istore_n 3, 1) := by decide +kernel
theorem dX5_divideRests_2 : decode cX5_divideRests 2 = .ok (.iload_n 3, 1) := by decide +kernel
theorem dX5_divideRests_3 : decode cX5_divideRests 3 = .ok (.iload_n 1, 1) := by decide +kernel
theorem dX5_divideRests_4 : decode cX5_divideRests 4 = .ok (.if_icmp .ge 36, 3) := by decide +kernel
theorem dX5_divideRests_7 : decode cX5_divideRests 7 = .ok (.iload_n 3, 1) := by decide +kernel
theorem dX5_divideRests_8 : decode cX5_divideRests 8 = .ok (.bipush 8, 2) := by decide +kernel
theorem dX5_divideRests_10 : decode cX5_divideRests 10 = .ok (.if_icmp .ge 30, 3) := by decide +kernel
theorem dX5_divideRests_13 : decode cX5_divideRests 13 = .ok (.aload_n 0, 1) := by decide +kernel
theorem dX5_divideRests_14 : decode cX5_divideRests 14 = .ok (.getfield 15, 3) := by decide +kernel
theorem dX5_divideRests_17 : decode cX5_divideRests 17 = .ok (.iload_n 3, 1) := by decide +kernel
theorem dX5_divideRests_18 : decode cX5_divideRests 18 = .ok (.aload_n 0, 1) := by decide +kernel
theorem dX5_divideRests_19 : decode cX5_divideRests 19 = .ok (.getfield 11, 3) := by decide +kernel
theorem dX5_divideRests_22 : decode cX5_divideRests 22 = .ok (.iload_n 3, 1) := by decide +kernel
theorem dX5_divideRests_23 : decode cX5_divideRests 23 = .ok (.iaload, 1) := by decide +kernel
theorem dX5_divideRests_24 : decode cX5_divideRests 24 = .ok (.aload_n 0, 1) := by decide +kernel
theorem dX5_divideRests_25 : decode cX5_divideRests 25 = .ok (.getfield 11, 3) := by decide +kernel
theorem dX5_divideRests_28 : decode cX5_divideRests 28 = .ok (.iload_n 3, 1) := by decide +kernel
theorem dX5_divideRests_29 : decode cX5_divideRests 29 = .ok (.iaload, 1) := by decide +kernel
theorem dX5_divideRests_30 : decode cX5_divideRests 30 = .ok (.iconst 2, 1) := by decide +kernel
theorem dX5_divideRests_31 : decode cX5_divideRests 31 = .ok (.idiv, 1) := by decide +kernel
theorem dX5_divideRests_32 : decode cX5_divideRests 32 = .ok (.isub, 1) := by decide +kernel
theorem dX5_divideRests_33 : decode cX5_divideRests 33 = .ok (.iastore, 1) := by decide +kernel
theorem dX5_divideRests_34 : decode cX5_divideRests 34 = .ok (.iinc 3 1, 3) := by decide +kernel
theorem dX5_divideRests_37 : decode cX5_divideRests 37 = .ok (.goto (-35), 3) := by decide +kernel
theorem dX5_divideRests_40 : decode cX5_divideRests 40 = .ok (.aload_n 0, 1) := by decide +kernel
theorem dX5_divideRests_41 : decode cX5_divideRests 41 = .ok (.iload_n 2, 1) := by decide +kernel
theorem dX5_divideRests_42 : decode cX5_divideRests 42 = .ok (.invokevirtual 41, 3) := by decide +kernel
theorem dX5_divideRests_45 : decode cX5_divideRests 45 = .ok (.iconst 0, 1) := by decide +kernel
theorem dX5_divideRests_46 : decode cX5_divideRests 46 = .ok (.istore_n 3, 1) := by decide +kernel
theorem dX5_divideRests_47 : decode cX5_divideRests 47 = .ok (.iload_n 3, 1) := by decide +kernel
theorem dX5_divideRests_48 : decode cX5_divideRests 48 = .ok (.iload_n 1, 1) := by decide +kernel
theorem dX5_divideRests_49 : decode cX5_divideRests 49 = .ok (.if_icmp .ge 32, 3) := by decide +kernel
theorem dX5_divideRests_52 : decode cX5_divideRests 52 = .ok (.iload_n 3, 1) := by decide +kernel
theorem dX5_divideRests_53 : decode cX5_divideRests 53 = .ok (.bipush 8, 2) := by decide +kernel
theorem dX5_divideRests_55 : decode cX5_divideRests 55 = .ok (.if_icmp .ge 26, 3) := by decide +kernel
theorem dX5_divideRests_58 : decode cX5_divideRests 58 = .ok (.aload_n 0, 1) := by decide +kernel
theorem dX5_divideRests_59 : decode cX5_divideRests 59 = .ok (.getfield 18, 3) := by decide +kernel
theorem dX5_divideRests_62 : decode cX5_divideRests 62 = .ok (.iload_n 3, 1) := by decide +kernel
theorem dX5_divideRests_63 : decode cX5_divideRests 63 = .ok (.dup2, 1) := by decide +kernel
theorem dX5_divideRests_64 : decode cX5_divideRests 64 = .ok (.iaload, 1) := by decide +kernel
theorem dX5_divideRests_65 : decode cX5_divideRests 65 = .ok (.aload_n 0, 1) := by decide +kernel
theorem dX5_divideRests_66 : decode cX5_divideRests 66 = .ok (.getfield 11, 3) := by decide +kernel
theorem dX5_divideRests_69 : decode cX5_divideRests 69 = .ok (.iload_n 3, 1) := by decide +kernel
theorem dX5_divideRests_70 : decode cX5_divideRests 70 = .ok (.iaload, 1) := by decide +kernel
theorem dX5_divideRests_71 : decode cX5_divideRests 71 = .ok (.iconst 2, 1) := by decide +kernel
theorem dX5_divideRests_72 : decode cX5_divideRests 72 = .ok (.idiv, 1) := by decide +kernel
theorem dX5_divideRests_73 : decode cX5_divideRests 73 = .ok (.iadd, 1) := by decide +kernel
theorem dX5_divideRests_74 : decode cX5_divideRests 74 = .ok (.iastore, 1) := by decide +kernel
theorem dX5_divideRests_75 : decode cX5_divideRests 75 = .ok (.iinc 3 1, 3) := by decide +kernel
theorem dX5_divideRests_78 : decode cX5_divideRests 78 = .ok (.goto (-31), 3) := by decide +kernel
theorem dX5_divideRests_81 : decode cX5_divideRests 81 = .ok (.return_, 1) := by decide +kernel
theorem dX5_allOf_0 : decode cX5_allOf 0 = .ok (.iconst 0, 1) := by decide +kernel
theorem dX5_allOf_1 : decode cX5_allOf 1 = .ok (.istore_n 2, 1) := by decide +kernel
theorem dX5_allOf_2 : decode cX5_allOf 2 = .ok (.iconst 0, 1) := by decide +kernel
theorem dX5_allOf_3 : decode cX5_allOf 3 = .ok (.istore_n 3, 1) := by decide +kernel
theorem dX5_allOf_4 : decode cX5_allOf 4 = .ok (.iload_n 3, 1) := by decide +kernel
theorem dX5_allOf_5 : decode cX5_allOf 5 = .ok (.iload_n 1, 1) := by decide +kernel
theorem dX5_allOf_6 : decode cX5_allOf 6 = .ok (.if_icmp .ge 21, 3) := by decide +kernel
theorem dX5_allOf_9 : decode cX5_allOf 9 = .ok (.iload_n 3, 1) := by decide +kernel
theorem dX5_allOf_10 : decode cX5_allOf 10 = .ok (.aload_n 0, 1) := by decide +kernel
theorem dX5_allOf_11 : decode cX5_allOf 11 = .ok (.arraylength, 1) := by decide +kernel
theorem dX5_allOf_12 : decode cX5_allOf 12 = .ok (.if_icmp .ge 15, 3) := by decide +kernel
theorem dX5_allOf_15 : decode cX5_allOf 15 = .ok (.iload_n 2, 1) := by decide +kernel
theorem dX5_allOf_16 : decode cX5_allOf 16 = .ok (.aload_n 0, 1) := by decide +kernel
theorem dX5_allOf_17 : decode cX5_allOf 17 = .ok (.iload_n 3, 1) := by decide +kernel
theorem dX5_allOf_18 : decode cX5_allOf 18 = .ok (.iaload, 1) := by decide +kernel
theorem dX5_allOf_19 : decode cX5_allOf 19 = .ok (.iadd, 1) := by decide +kernel
theorem dX5_allOf_20 : decode cX5_allOf 20 = .ok (.istore_n 2, 1) := by decide +kernel
theorem dX5_allOf_21 : decode cX5_allOf 21 = .ok (.iinc 3 1, 3) := by decide +kernel
theorem dX5_allOf_24 : decode cX5_allOf 24 = .ok (.goto (-20), 3) := by decide +kernel
theorem dX5_allOf_27 : decode cX5_allOf 27 = .ok (.iload_n 2, 1) := by decide +kernel
theorem dX5_allOf_28 : decode cX5_allOf 28 = .ok (.ireturn, 1) := by decide +kernel
theorem dX5_giveAlike_0 : decode cX5_giveAlike 0 = .ok (.iconst 0, 1) := by decide +kernel
theorem dX5_giveAlike_1 : decode cX5_giveAlike 1 = .ok (.istore_n 2, 1) := by decide +kernel
theorem dX5_giveAlike_2 : decode cX5_giveAlike 2 = .ok (.aload_n 0, 1) := by decide +kernel
theorem dX5_giveAlike_3 : decode cX5_giveAlike 3 = .ok (.sipush 9999, 3) := by decide +kernel
theorem dX5_giveAlike_6 : decode cX5_giveAlike 6 = .ok (.invokevirtual 48, 3) := by decide +kernel
theorem dX5_giveAlike_9 : decode cX5_giveAlike 9 = .ok (.iload_n 1, 1) := by decide +kernel
theorem dX5_giveAlike_10 : decode cX5_giveAlike 10 = .ok (.if_icmp .gt 4, 3) := by decide +kernel
theorem dX5_giveAlike_13 : decode cX5_giveAlike 13 = .ok (.return_, 1) := by decide +kernel
theorem dX5_giveAlike_14 : decode cX5_giveAlike 14 = .ok (.sipush 8192, 3) := by decide +kernel
theorem dX5_giveAlike_17 : decode cX5_giveAlike 17 = .ok (.istore_n 3, 1) := by decide +kernel
theorem dX5_giveAlike_18 : decode cX5_giveAlike 18 = .ok (.iload_n 3, 1) := by decide +kernel
theorem dX5_giveAlike_19 : decode cX5_giveAlike 19 = .ok (.ifCond .le 25, 3) := by decide +kernel
theorem dX5_giveAlike_22 : decode cX5_giveAlike 22 = .ok (.aload_n 0, 1) := by decide +kernel
theorem dX5_giveAlike_23 : decode cX5_giveAlike 23 = .ok (.iload_n 2, 1) := by decide +kernel
theorem dX5_giveAlike_24 : decode cX5_giveAlike 24 = .ok (.iload_n 3, 1) := by decide +kernel
theorem dX5_giveAlike_25 : decode cX5_giveAlike 25 = .ok (.iadd, 1) := by decide +kernel
theorem dX5_giveAlike_26 : decode cX5_giveAlike 26 = .ok (.invokevirtual 48, 3) := by decide +kernel
theorem dX5_giveAlike_29 : decode cX5_giveAlike 29 = .ok (.iload_n 1, 1) := by decide +kernel
theorem dX5_giveAlike_30 : decode cX5_giveAlike 30 = .ok (.if_icmp .gt 7, 3) := by decide +kernel
theorem dX5_giveAlike_33 : decode cX5_giveAlike 33 = .ok (.iload_n 2, 1) := by decide +kernel
theorem dX5_giveAlike_34 : decode cX5_giveAlike 34 = .ok (.iload_n 3, 1) := by decide +kernel
theorem dX5_giveAlike_35 : decode cX5_giveAlike 35 = .ok (.iadd, 1) := by decide +kernel
theorem dX5_giveAlike_36 : decode cX5_giveAlike 36 = .ok (.istore_n 2, 1) := by decide +kernel
theorem dX5_giveAlike_37 : decode cX5_giveAlike 37 = .ok (.iload_n 3, 1) := by decide +kernel
theorem dX5_giveAlike_38 : decode cX5_giveAlike 38 = .ok (.iconst 1, 1) := by decide +kernel
theorem dX5_giveAlike_39 : decode cX5_giveAlike 39 = .ok (.ishr, 1) := by decide +kernel
theorem dX5_giveAlike_40 : decode cX5_giveAlike 40 = .ok (.istore_n 3, 1) := by decide +kernel
theorem dX5_giveAlike_41 : decode cX5_giveAlike 41 = .ok (.goto (-23), 3) := by decide +kernel
theorem dX5_giveAlike_44 : decode cX5_giveAlike 44 = .ok (.aload_n 0, 1) := by decide +kernel
theorem dX5_giveAlike_45 : decode cX5_giveAlike 45 = .ok (.iload_n 1, 1) := by decide +kernel
theorem dX5_giveAlike_46 : decode cX5_giveAlike 46 = .ok (.aload_n 0, 1) := by decide +kernel
theorem dX5_giveAlike_47 : decode cX5_giveAlike 47 = .ok (.iload_n 2, 1) := by decide +kernel
theorem dX5_giveAlike_48 : decode cX5_giveAlike 48 = .ok (.invokevirtual 48, 3) := by decide +kernel
theorem dX5_giveAlike_51 : decode cX5_giveAlike 51 = .ok (.isub, 1) := by decide +kernel
theorem dX5_giveAlike_52 : decode cX5_giveAlike 52 = .ok (.iload_n 2, 1) := by decide +kernel
theorem dX5_giveAlike_53 : decode cX5_giveAlike 53 = .ok (.iconst 1, 1) := by decide +kernel
theorem dX5_giveAlike_54 : decode cX5_giveAlike 54 = .ok (.iadd, 1) := by decide +kernel
theorem dX5_giveAlike_55 : decode cX5_giveAlike 55 = .ok (.invokevirtual 52, 3) := by decide +kernel
theorem dX5_giveAlike_58 : decode cX5_giveAlike 58 = .ok (.return_, 1) := by decide +kernel
theorem dX5_cutAlike_0 : decode cX5_cutAlike 0 = .ok (.iconst 0, 1) := by decide +kernel
theorem dX5_cutAlike_1 : decode cX5_cutAlike 1 = .ok (.istore_n 2, 1) := by decide +kernel
theorem dX5_cutAlike_2 : decode cX5_cutAlike 2 = .ok (.aload_n 0, 1) := by decide +kernel
theorem dX5_cutAlike_3 : decode cX5_cutAlike 3 = .ok (.iconst 0, 1) := by decide +kernel
theorem dX5_cutAlike_4 : decode cX5_cutAlike 4 = .ok (.invokevirtual 55, 3) := by decide +kernel
theorem dX5_cutAlike_7 : decode cX5_cutAlike 7 = .ok (.iload_n 1, 1) := by decide +kernel
theorem dX5_cutAlike_8 : decode cX5_cutAlike 8 = .ok (.if_icmp .gt 4, 3) := by decide +kernel
theorem dX5_cutAlike_11 : decode cX5_cutAlike 11 = .ok (.return_, 1) := by decide +kernel
theorem dX5_cutAlike_12 : decode cX5_cutAlike 12 = .ok (.sipush 8192, 3) := by decide +kernel
theorem dX5_cutAlike_15 : decode cX5_cutAlike 15 = .ok (.istore_n 3, 1) := by decide +kernel
theorem dX5_cutAlike_16 : decode cX5_cutAlike 16 = .ok (.iload_n 3, 1) := by decide +kernel
theorem dX5_cutAlike_17 : decode cX5_cutAlike 17 = .ok (.ifCond .le 25, 3) := by decide +kernel
theorem dX5_cutAlike_20 : decode cX5_cutAlike 20 = .ok (.aload_n 0, 1) := by decide +kernel
theorem dX5_cutAlike_21 : decode cX5_cutAlike 21 = .ok (.iload_n 2, 1) := by decide +kernel
theorem dX5_cutAlike_22 : decode cX5_cutAlike 22 = .ok (.iload_n 3, 1) := by decide +kernel
theorem dX5_cutAlike_23 : decode cX5_cutAlike 23 = .ok (.iadd, 1) := by decide +kernel
theorem dX5_cutAlike_24 : decode cX5_cutAlike 24 = .ok (.invokevirtual 55, 3) := by decide +kernel
theorem dX5_cutAlike_27 : decode cX5_cutAlike 27 = .ok (.iload_n 1, 1) := by decide +kernel
theorem dX5_cutAlike_28 : decode cX5_cutAlike 28 = .ok (.if_icmp .le 7, 3) := by decide +kernel
theorem dX5_cutAlike_31 : decode cX5_cutAlike 31 = .ok (.iload_n 2, 1) := by decide +kernel
theorem dX5_cutAlike_32 : decode cX5_cutAlike 32 = .ok (.iload_n 3, 1) := by decide +kernel
theorem dX5_cutAlike_33 : decode cX5_cutAlike 33 = .ok (.iadd, 1) := by decide +kernel
theorem dX5_cutAlike_34 : decode cX5_cutAlike 34 = .ok (.istore_n 2, 1) := by decide +kernel
theorem dX5_cutAlike_35 : decode cX5_cutAlike 35 = .ok (.iload_n 3, 1) := by decide +kernel
theorem dX5_cutAlike_36 : decode cX5_cutAlike 36 = .ok (.iconst 1, 1) := by decide +kernel
theorem dX5_cutAlike_37 : decode cX5_cutAlike 37 = .ok (.ishr, 1) := by decide +kernel
theorem dX5_cutAlike_38 : decode cX5_cutAlike 38 = .ok (.istore_n 3, 1) := by decide +kernel
theorem dX5_cutAlike_39 : decode cX5_cutAlike 39 = .ok (.goto (-23), 3) := by decide +kernel
theorem dX5_cutAlike_42 : decode cX5_cutAlike 42 = .ok (.iload_n 2, 1) := by decide +kernel
theorem dX5_cutAlike_43 : decode cX5_cutAlike 43 = .ok (.iconst 1, 1) := by decide +kernel
theorem dX5_cutAlike_44 : decode cX5_cutAlike 44 = .ok (.iadd, 1) := by decide +kernel
theorem dX5_cutAlike_45 : decode cX5_cutAlike 45 = .ok (.istore_n 3, 1) := by decide +kernel
theorem dX5_cutAlike_46 : decode cX5_cutAlike 46 = .ok (.aload_n 0, 1) := by decide +kernel
theorem dX5_cutAlike_47 : decode cX5_cutAlike 47 = .ok (.iload_n 1, 1) := by decide +kernel
theorem dX5_cutAlike_48 : decode cX5_cutAlike 48 = .ok (.aload_n 0, 1) := by decide +kernel
theorem dX5_cutAlike_49 : decode cX5_cutAlike 49 = .ok (.iload_n 3, 1) := by decide +kernel
theorem dX5_cutAlike_50 : decode cX5_cutAlike 50 = .ok (.invokevirtual 55, 3) := by decide +kernel
theorem dX5_cutAlike_53 : decode cX5_cutAlike 53 = .ok (.isub, 1) := by decide +kernel
theorem dX5_cutAlike_54 : decode cX5_cutAlike 54 = .ok (.iload_n 3, 1) := by decide +kernel
theorem dX5_cutAlike_55 : decode cX5_cutAlike 55 = .ok (.invokevirtual 52, 3) := by decide +kernel
theorem dX5_cutAlike_58 : decode cX5_cutAlike 58 = .ok (.return_, 1) := by decide +kernel
theorem dX5_shareUpTo_0 : decode cX5_shareUpTo 0 = .ok (.iconst 0, 1) := by decide +kernel
theorem dX5_shareUpTo_1 : decode cX5_shareUpTo 1 = .ok (.istore_n 2, 1) := by decide +kernel
theorem dX5_shareUpTo_2 : decode cX5_shareUpTo 2 = .ok (.iload_n 2, 1) := by decide +kernel
theorem dX5_shareUpTo_3 : decode cX5_shareUpTo 3 = .ok (.bipush 8, 2) := by decide +kernel
theorem dX5_shareUpTo_5 : decode cX5_shareUpTo 5 = .ok (.if_icmp .ge 25, 3) := by decide +kernel
theorem dX5_shareUpTo_8 : decode cX5_shareUpTo 8 = .ok (.aload_n 0, 1) := by decide +kernel
theorem dX5_shareUpTo_9 : decode cX5_shareUpTo 9 = .ok (.getfield 18, 3) := by decide +kernel
theorem dX5_shareUpTo_12 : decode cX5_shareUpTo 12 = .ok (.iload_n 2, 1) := by decide +kernel
theorem dX5_shareUpTo_13 : decode cX5_shareUpTo 13 = .ok (.aload_n 0, 1) := by decide +kernel
theorem dX5_shareUpTo_14 : decode cX5_shareUpTo 14 = .ok (.getfield 15, 3) := by decide +kernel
theorem dX5_shareUpTo_17 : decode cX5_shareUpTo 17 = .ok (.iload_n 2, 1) := by decide +kernel
theorem dX5_shareUpTo_18 : decode cX5_shareUpTo 18 = .ok (.iaload, 1) := by decide +kernel
theorem dX5_shareUpTo_19 : decode cX5_shareUpTo 19 = .ok (.iload_n 1, 1) := by decide +kernel
theorem dX5_shareUpTo_20 : decode cX5_shareUpTo 20 = .ok (.invokestatic 58, 3) := by decide +kernel
theorem dX5_shareUpTo_23 : decode cX5_shareUpTo 23 = .ok (.iastore, 1) := by decide +kernel
theorem dX5_shareUpTo_24 : decode cX5_shareUpTo 24 = .ok (.iinc 2 1, 3) := by decide +kernel
theorem dX5_shareUpTo_27 : decode cX5_shareUpTo 27 = .ok (.goto (-25), 3) := by decide +kernel
theorem dX5_shareUpTo_30 : decode cX5_shareUpTo 30 = .ok (.aload_n 0, 1) := by decide +kernel
theorem dX5_shareUpTo_31 : decode cX5_shareUpTo 31 = .ok (.getfield 18, 3) := by decide +kernel
theorem dX5_shareUpTo_34 : decode cX5_shareUpTo 34 = .ok (.bipush 8, 2) := by decide +kernel
theorem dX5_shareUpTo_36 : decode cX5_shareUpTo 36 = .ok (.invokestatic 33, 3) := by decide +kernel
theorem dX5_shareUpTo_39 : decode cX5_shareUpTo 39 = .ok (.ireturn, 1) := by decide +kernel
theorem dX5_shareLess_0 : decode cX5_shareLess 0 = .ok (.iconst 0, 1) := by decide +kernel
theorem dX5_shareLess_1 : decode cX5_shareLess 1 = .ok (.istore_n 2, 1) := by decide +kernel
theorem dX5_shareLess_2 : decode cX5_shareLess 2 = .ok (.iload_n 2, 1) := by decide +kernel
theorem dX5_shareLess_3 : decode cX5_shareLess 3 = .ok (.bipush 8, 2) := by decide +kernel
theorem dX5_shareLess_5 : decode cX5_shareLess 5 = .ok (.if_icmp .ge 27, 3) := by decide +kernel
theorem dX5_shareLess_8 : decode cX5_shareLess 8 = .ok (.aload_n 0, 1) := by decide +kernel
theorem dX5_shareLess_9 : decode cX5_shareLess 9 = .ok (.getfield 18, 3) := by decide +kernel
theorem dX5_shareLess_12 : decode cX5_shareLess 12 = .ok (.iload_n 2, 1) := by decide +kernel
theorem dX5_shareLess_13 : decode cX5_shareLess 13 = .ok (.iconst 0, 1) := by decide +kernel
theorem dX5_shareLess_14 : decode cX5_shareLess 14 = .ok (.aload_n 0, 1) := by decide +kernel
theorem dX5_shareLess_15 : decode cX5_shareLess 15 = .ok (.getfield 15, 3) := by decide +kernel
theorem dX5_shareLess_18 : decode cX5_shareLess 18 = .ok (.iload_n 2, 1) := by decide +kernel
theorem dX5_shareLess_19 : decode cX5_shareLess 19 = .ok (.iaload, 1) := by decide +kernel
theorem dX5_shareLess_20 : decode cX5_shareLess 20 = .ok (.iload_n 1, 1) := by decide +kernel
theorem dX5_shareLess_21 : decode cX5_shareLess 21 = .ok (.isub, 1) := by decide +kernel
theorem dX5_shareLess_22 : decode cX5_shareLess 22 = .ok (.invokestatic 27, 3) := by decide +kernel
theorem dX5_shareLess_25 : decode cX5_shareLess 25 = .ok (.iastore, 1) := by decide +kernel
theorem dX5_shareLess_26 : decode cX5_shareLess 26 = .ok (.iinc 2 1, 3) := by decide +kernel
theorem dX5_shareLess_29 : decode cX5_shareLess 29 = .ok (.goto (-27), 3) := by decide +kernel
theorem dX5_shareLess_32 : decode cX5_shareLess 32 = .ok (.aload_n 0, 1) := by decide +kernel
theorem dX5_shareLess_33 : decode cX5_shareLess 33 = .ok (.getfield 18, 3) := by decide +kernel
theorem dX5_shareLess_36 : decode cX5_shareLess 36 = .ok (.bipush 8, 2) := by decide +kernel
theorem dX5_shareLess_38 : decode cX5_shareLess 38 = .ok (.invokestatic 33, 3) := by decide +kernel
theorem dX5_shareLess_41 : decode cX5_shareLess 41 = .ok (.ireturn, 1) := by decide +kernel
theorem dX5_giveRest_0 : decode cX5_giveRest 0 = .ok (.iload_n 1, 1) := by decide +kernel
theorem dX5_giveRest_1 : decode cX5_giveRest 1 = .ok (.istore_n 3, 1) := by decide +kernel
theorem dX5_giveRest_2 : decode cX5_giveRest 2 = .ok (.iconst 0, 1) := by decide +kernel
theorem dX5_giveRest_3 : decode cX5_giveRest 3 = .ok (.istore 4, 2) := by decide +kernel
theorem dX5_giveRest_5 : decode cX5_giveRest 5 = .ok (.iload 4, 2) := by decide +kernel
theorem dX5_giveRest_7 : decode cX5_giveRest 7 = .ok (.bipush 8, 2) := by decide +kernel
theorem dX5_giveRest_9 : decode cX5_giveRest 9 = .ok (.if_icmp .ge 38, 3) := by decide +kernel
theorem dX5_giveRest_12 : decode cX5_giveRest 12 = .ok (.iload_n 3, 1) := by decide +kernel
theorem dX5_giveRest_13 : decode cX5_giveRest 13 = .ok (.ifCond .le 34, 3) := by decide +kernel
theorem dX5_giveRest_16 : decode cX5_giveRest 16 = .ok (.aload_n 0, 1) := by decide +kernel
theorem dX5_giveRest_17 : decode cX5_giveRest 17 = .ok (.getfield 15, 3) := by decide +kernel
theorem dX5_giveRest_20 : decode cX5_giveRest 20 = .ok (.iload 4, 2) := by decide +kernel
theorem dX5_giveRest_22 : decode cX5_giveRest 22 = .ok (.iaload, 1) := by decide +kernel
theorem dX5_giveRest_23 : decode cX5_giveRest 23 = .ok (.iload_n 2, 1) := by decide +kernel
theorem dX5_giveRest_24 : decode cX5_giveRest 24 = .ok (.if_icmp .lt 17, 3) := by decide +kernel
theorem dX5_giveRest_27 : decode cX5_giveRest 27 = .ok (.aload_n 0, 1) := by decide +kernel
theorem dX5_giveRest_28 : decode cX5_giveRest 28 = .ok (.getfield 18, 3) := by decide +kernel
theorem dX5_giveRest_31 : decode cX5_giveRest 31 = .ok (.iload 4, 2) := by decide +kernel
theorem dX5_giveRest_33 : decode cX5_giveRest 33 = .ok (.dup2, 1) := by decide +kernel
theorem dX5_giveRest_34 : decode cX5_giveRest 34 = .ok (.iaload, 1) := by decide +kernel
theorem dX5_giveRest_35 : decode cX5_giveRest 35 = .ok (.iconst 1, 1) := by decide +kernel
theorem dX5_giveRest_36 : decode cX5_giveRest 36 = .ok (.iadd, 1) := by decide +kernel
theorem dX5_giveRest_37 : decode cX5_giveRest 37 = .ok (.iastore, 1) := by decide +kernel
theorem dX5_giveRest_38 : decode cX5_giveRest 38 = .ok (.iinc 3 (-1), 3) := by decide +kernel
theorem dX5_giveRest_41 : decode cX5_giveRest 41 = .ok (.iinc 4 1, 3) := by decide +kernel
theorem dX5_giveRest_44 : decode cX5_giveRest 44 = .ok (.goto (-39), 3) := by decide +kernel
theorem dX5_giveRest_47 : decode cX5_giveRest 47 = .ok (.return_, 1) := by decide +kernel
theorem dX5_takeCoins_0 : decode cX5_takeCoins 0 = .ok (.aload_n 0, 1) := by decide +kernel
theorem dX5_takeCoins_1 : decode cX5_takeCoins 1 = .ok (.iconst 0, 1) := by decide +kernel
theorem dX5_takeCoins_2 : decode cX5_takeCoins 2 = .ok (.putfield 61, 3) := by decide +kernel
theorem dX5_takeCoins_5 : decode cX5_takeCoins 5 = .ok (.iconst 0, 1) := by decide +kernel
theorem dX5_takeCoins_6 : decode cX5_takeCoins 6 = .ok (.istore_n 3, 1) := by decide +kernel
theorem dX5_takeCoins_7 : decode cX5_takeCoins 7 = .ok (.iload_n 3, 1) := by decide +kernel
theorem dX5_takeCoins_8 : decode cX5_takeCoins 8 = .ok (.iload_n 2, 1) := by decide +kernel
theorem dX5_takeCoins_9 : decode cX5_takeCoins 9 = .ok (.if_icmp .ge 55, 3) := by decide +kernel
theorem dX5_takeCoins_12 : decode cX5_takeCoins 12 = .ok (.iload_n 3, 1) := by decide +kernel
theorem dX5_takeCoins_13 : decode cX5_takeCoins 13 = .ok (.bipush 6, 2) := by decide +kernel
theorem dX5_takeCoins_15 : decode cX5_takeCoins 15 = .ok (.if_icmp .ge 49, 3) := by decide +kernel
theorem dX5_takeCoins_18 : decode cX5_takeCoins 18 = .ok (.aload_n 1, 1) := by decide +kernel
theorem dX5_takeCoins_19 : decode cX5_takeCoins 19 = .ok (.iload_n 3, 1) := by decide +kernel
theorem dX5_takeCoins_20 : decode cX5_takeCoins 20 = .ok (.iaload, 1) := by decide +kernel
theorem dX5_takeCoins_21 : decode cX5_takeCoins 21 = .ok (.ifCond .ne 5, 3) := by decide +kernel
theorem dX5_takeCoins_24 : decode cX5_takeCoins 24 = .ok (.iconst 0, 1) := by decide +kernel
theorem dX5_takeCoins_25 : decode cX5_takeCoins 25 = .ok (.ireturn, 1) := by decide +kernel
theorem dX5_takeCoins_26 : decode cX5_takeCoins 26 = .ok (.aload_n 0, 1) := by decide +kernel
theorem dX5_takeCoins_27 : decode cX5_takeCoins 27 = .ok (.aload_n 1, 1) := by decide +kernel
theorem dX5_takeCoins_28 : decode cX5_takeCoins 28 = .ok (.iload_n 3, 1) := by decide +kernel
theorem dX5_takeCoins_29 : decode cX5_takeCoins 29 = .ok (.iaload, 1) := by decide +kernel
theorem dX5_takeCoins_30 : decode cX5_takeCoins 30 = .ok (.invokevirtual 65, 3) := by decide +kernel
theorem dX5_takeCoins_33 : decode cX5_takeCoins 33 = .ok (.ifCond .ne 25, 3) := by decide +kernel
theorem dX5_takeCoins_36 : decode cX5_takeCoins 36 = .ok (.aload_n 0, 1) := by decide +kernel
theorem dX5_takeCoins_37 : decode cX5_takeCoins 37 = .ok (.getfield 21, 3) := by decide +kernel
theorem dX5_takeCoins_40 : decode cX5_takeCoins 40 = .ok (.aload_n 0, 1) := by decide +kernel
theorem dX5_takeCoins_41 : decode cX5_takeCoins 41 = .ok (.getfield 61, 3) := by decide +kernel
theorem dX5_takeCoins_44 : decode cX5_takeCoins 44 = .ok (.aload_n 1, 1) := by decide +kernel
theorem dX5_takeCoins_45 : decode cX5_takeCoins 45 = .ok (.iload_n 3, 1) := by decide +kernel
theorem dX5_takeCoins_46 : decode cX5_takeCoins 46 = .ok (.iaload, 1) := by decide +kernel
theorem dX5_takeCoins_47 : decode cX5_takeCoins 47 = .ok (.iastore, 1) := by decide +kernel
theorem dX5_takeCoins_48 : decode cX5_takeCoins 48 = .ok (.aload_n 0, 1) := by decide +kernel
theorem dX5_takeCoins_49 : decode cX5_takeCoins 49 = .ok (.dup, 1) := by decide +kernel
theorem dX5_takeCoins_50 : decode cX5_takeCoins 50 = .ok (.getfield 61, 3) := by decide +kernel
theorem dX5_takeCoins_53 : decode cX5_takeCoins 53 = .ok (.iconst 1, 1) := by decide +kernel
theorem dX5_takeCoins_54 : decode cX5_takeCoins 54 = .ok (.iadd, 1) := by decide +kernel
theorem dX5_takeCoins_55 : decode cX5_takeCoins 55 = .ok (.putfield 61, 3) := by decide +kernel
theorem dX5_takeCoins_58 : decode cX5_takeCoins 58 = .ok (.iinc 3 1, 3) := by decide +kernel
theorem dX5_takeCoins_61 : decode cX5_takeCoins 61 = .ok (.goto (-54), 3) := by decide +kernel
theorem dX5_takeCoins_64 : decode cX5_takeCoins 64 = .ok (.iconst 1, 1) := by decide +kernel
theorem dX5_takeCoins_65 : decode cX5_takeCoins 65 = .ok (.ireturn, 1) := by decide +kernel
theorem dX5_hasCoin_0 : decode cX5_hasCoin 0 = .ok (.iconst 0, 1) := by decide +kernel
theorem dX5_hasCoin_1 : decode cX5_hasCoin 1 = .ok (.istore_n 2, 1) := by decide +kernel
theorem dX5_hasCoin_2 : decode cX5_hasCoin 2 = .ok (.iload_n 2, 1) := by decide +kernel
theorem dX5_hasCoin_3 : decode cX5_hasCoin 3 = .ok (.aload_n 0, 1) := by decide +kernel
theorem dX5_hasCoin_4 : decode cX5_hasCoin 4 = .ok (.getfield 61, 3) := by decide +kernel
theorem dX5_hasCoin_7 : decode cX5_hasCoin 7 = .ok (.if_icmp .ge 27, 3) := by decide +kernel
theorem dX5_hasCoin_10 : decode cX5_hasCoin 10 = .ok (.iload_n 2, 1) := by decide +kernel
theorem dX5_hasCoin_11 : decode cX5_hasCoin 11 = .ok (.bipush 6, 2) := by decide +kernel
theorem dX5_hasCoin_13 : decode cX5_hasCoin 13 = .ok (.if_icmp .ge 21, 3) := by decide +kernel
theorem dX5_hasCoin_16 : decode cX5_hasCoin 16 = .ok (.aload_n 0, 1) := by decide +kernel
theorem dX5_hasCoin_17 : decode cX5_hasCoin 17 = .ok (.getfield 21, 3) := by decide +kernel
theorem dX5_hasCoin_20 : decode cX5_hasCoin 20 = .ok (.iload_n 2, 1) := by decide +kernel
theorem dX5_hasCoin_21 : decode cX5_hasCoin 21 = .ok (.iaload, 1) := by decide +kernel
theorem dX5_hasCoin_22 : decode cX5_hasCoin 22 = .ok (.iload_n 1, 1) := by decide +kernel
theorem dX5_hasCoin_23 : decode cX5_hasCoin 23 = .ok (.if_icmp .ne 5, 3) := by decide +kernel
theorem dX5_hasCoin_26 : decode cX5_hasCoin 26 = .ok (.iconst 1, 1) := by decide +kernel
theorem dX5_hasCoin_27 : decode cX5_hasCoin 27 = .ok (.ireturn, 1) := by decide +kernel
theorem dX5_hasCoin_28 : decode cX5_hasCoin 28 = .ok (.iinc 2 1, 3) := by decide +kernel
theorem dX5_hasCoin_31 : decode cX5_hasCoin 31 = .ok (.goto (-29), 3) := by decide +kernel
theorem dX5_hasCoin_34 : decode cX5_hasCoin 34 = .ok (.iconst 0, 1) := by decide +kernel
theorem dX5_hasCoin_35 : decode cX5_hasCoin 35 = .ok (.ireturn, 1) := by decide +kernel
theorem dX5_fewest_0 : decode cX5_fewest 0 = .ok (.sipush 1000, 3) := by decide +kernel
theorem dX5_fewest_3 : decode cX5_fewest 3 = .ok (.istore_n 2, 1) := by decide +kernel
theorem dX5_fewest_4 : decode cX5_fewest 4 = .ok (.aload_n 0, 1) := by decide +kernel
theorem dX5_fewest_5 : decode cX5_fewest 5 = .ok (.getfield 24, 3) := by decide +kernel
theorem dX5_fewest_8 : decode cX5_fewest 8 = .ok (.iconst 0, 1) := by decide +kernel
theorem dX5_fewest_9 : decode cX5_fewest 9 = .ok (.iconst 0, 1) := by decide +kernel
theorem dX5_fewest_10 : decode cX5_fewest 10 = .ok (.iastore, 1) := by decide +kernel
theorem dX5_fewest_11 : decode cX5_fewest 11 = .ok (.iconst 1, 1) := by decide +kernel
theorem dX5_fewest_12 : decode cX5_fewest 12 = .ok (.istore_n 3, 1) := by decide +kernel
theorem dX5_fewest_13 : decode cX5_fewest 13 = .ok (.iload_n 3, 1) := by decide +kernel
theorem dX5_fewest_14 : decode cX5_fewest 14 = .ok (.iload_n 1, 1) := by decide +kernel
theorem dX5_fewest_15 : decode cX5_fewest 15 = .ok (.if_icmp .gt 83, 3) := by decide +kernel
theorem dX5_fewest_18 : decode cX5_fewest 18 = .ok (.iload_n 3, 1) := by decide +kernel
theorem dX5_fewest_19 : decode cX5_fewest 19 = .ok (.sipush 999, 3) := by decide +kernel
theorem dX5_fewest_22 : decode cX5_fewest 22 = .ok (.if_icmp .gt 76, 3) := by decide +kernel
theorem dX5_fewest_25 : decode cX5_fewest 25 = .ok (.aload_n 0, 1) := by decide +kernel
theorem dX5_fewest_26 : decode cX5_fewest 26 = .ok (.getfield 24, 3) := by decide +kernel
theorem dX5_fewest_29 : decode cX5_fewest 29 = .ok (.iload_n 3, 1) := by decide +kernel
theorem dX5_fewest_30 : decode cX5_fewest 30 = .ok (.iload_n 2, 1) := by decide +kernel
theorem dX5_fewest_31 : decode cX5_fewest 31 = .ok (.iastore, 1) := by decide +kernel
theorem dX5_fewest_32 : decode cX5_fewest 32 = .ok (.iconst 0, 1) := by decide +kernel
theorem dX5_fewest_33 : decode cX5_fewest 33 = .ok (.istore 4, 2) := by decide +kernel
theorem dX5_fewest_35 : decode cX5_fewest 35 = .ok (.iload 4, 2) := by decide +kernel
theorem dX5_fewest_37 : decode cX5_fewest 37 = .ok (.aload_n 0, 1) := by decide +kernel
theorem dX5_fewest_38 : decode cX5_fewest 38 = .ok (.getfield 61, 3) := by decide +kernel
theorem dX5_fewest_41 : decode cX5_fewest 41 = .ok (.if_icmp .ge 51, 3) := by decide +kernel
theorem dX5_fewest_44 : decode cX5_fewest 44 = .ok (.aload_n 0, 1) := by decide +kernel
theorem dX5_fewest_45 : decode cX5_fewest 45 = .ok (.getfield 21, 3) := by decide +kernel
theorem dX5_fewest_48 : decode cX5_fewest 48 = .ok (.iload 4, 2) := by decide +kernel
theorem dX5_fewest_50 : decode cX5_fewest 50 = .ok (.iaload, 1) := by decide +kernel
theorem dX5_fewest_51 : decode cX5_fewest 51 = .ok (.iload_n 3, 1) := by decide +kernel
theorem dX5_fewest_52 : decode cX5_fewest 52 = .ok (.if_icmp .gt 34, 3) := by decide +kernel
theorem dX5_fewest_55 : decode cX5_fewest 55 = .ok (.aload_n 0, 1) := by decide +kernel
theorem dX5_fewest_56 : decode cX5_fewest 56 = .ok (.getfield 24, 3) := by decide +kernel
theorem dX5_fewest_59 : decode cX5_fewest 59 = .ok (.iload_n 3, 1) := by decide +kernel
theorem dX5_fewest_60 : decode cX5_fewest 60 = .ok (.aload_n 0, 1) := by decide +kernel
theorem dX5_fewest_61 : decode cX5_fewest 61 = .ok (.getfield 24, 3) := by decide +kernel
theorem dX5_fewest_64 : decode cX5_fewest 64 = .ok (.iload_n 3, 1) := by decide +kernel
theorem dX5_fewest_65 : decode cX5_fewest 65 = .ok (.iaload, 1) := by decide +kernel
theorem dX5_fewest_66 : decode cX5_fewest 66 = .ok (.aload_n 0, 1) := by decide +kernel
theorem dX5_fewest_67 : decode cX5_fewest 67 = .ok (.getfield 24, 3) := by decide +kernel
theorem dX5_fewest_70 : decode cX5_fewest 70 = .ok (.iload_n 3, 1) := by decide +kernel
theorem dX5_fewest_71 : decode cX5_fewest 71 = .ok (.aload_n 0, 1) := by decide +kernel
theorem dX5_fewest_72 : decode cX5_fewest 72 = .ok (.getfield 21, 3) := by decide +kernel
theorem dX5_fewest_75 : decode cX5_fewest 75 = .ok (.iload 4, 2) := by decide +kernel
theorem dX5_fewest_77 : decode cX5_fewest 77 = .ok (.iaload, 1) := by decide +kernel
theorem dX5_fewest_78 : decode cX5_fewest 78 = .ok (.isub, 1) := by decide +kernel
theorem dX5_fewest_79 : decode cX5_fewest 79 = .ok (.iaload, 1) := by decide +kernel
theorem dX5_fewest_80 : decode cX5_fewest 80 = .ok (.iconst 1, 1) := by decide +kernel
theorem dX5_fewest_81 : decode cX5_fewest 81 = .ok (.iadd, 1) := by decide +kernel
theorem dX5_fewest_82 : decode cX5_fewest 82 = .ok (.invokestatic 58, 3) := by decide +kernel
theorem dX5_fewest_85 : decode cX5_fewest 85 = .ok (.iastore, 1) := by decide +kernel
theorem dX5_fewest_86 : decode cX5_fewest 86 = .ok (.iinc 4 1, 3) := by decide +kernel
theorem dX5_fewest_89 : decode cX5_fewest 89 = .ok (.goto (-54), 3) := by decide +kernel
theorem dX5_fewest_92 : decode cX5_fewest 92 = .ok (.iinc 3 1, 3) := by decide +kernel
theorem dX5_fewest_95 : decode cX5_fewest 95 = .ok (.goto (-82), 3) := by decide +kernel
theorem dX5_fewest_98 : decode cX5_fewest 98 = .ok (.aload_n 0, 1) := by decide +kernel
theorem dX5_fewest_99 : decode cX5_fewest 99 = .ok (.getfield 24, 3) := by decide +kernel
theorem dX5_fewest_102 : decode cX5_fewest 102 = .ok (.iload_n 1, 1) := by decide +kernel
theorem dX5_fewest_103 : decode cX5_fewest 103 = .ok (.iaload, 1) := by decide +kernel
theorem dX5_fewest_104 : decode cX5_fewest 104 = .ok (.iload_n 2, 1) := by decide +kernel
theorem dX5_fewest_105 : decode cX5_fewest 105 = .ok (.if_icmp .ge 12, 3) := by decide +kernel
theorem dX5_fewest_108 : decode cX5_fewest 108 = .ok (.aload_n 0, 1) := by decide +kernel
theorem dX5_fewest_109 : decode cX5_fewest 109 = .ok (.getfield 24, 3) := by decide +kernel
theorem dX5_fewest_112 : decode cX5_fewest 112 = .ok (.iload_n 1, 1) := by decide +kernel
theorem dX5_fewest_113 : decode cX5_fewest 113 = .ok (.iaload, 1) := by decide +kernel
theorem dX5_fewest_114 : decode cX5_fewest 114 = .ok (.goto 5, 3) := by decide +kernel
theorem dX5_fewest_117 : decode cX5_fewest 117 = .ok (.bipush (-2), 2) := by decide +kernel
theorem dX5_fewest_119 : decode cX5_fewest 119 = .ok (.ireturn, 1) := by decide +kernel
theorem dX5_ways_0 : decode cX5_ways 0 = .ok (.iconst 0, 1) := by decide +kernel
theorem dX5_ways_1 : decode cX5_ways 1 = .ok (.istore_n 2, 1) := by decide +kernel
theorem dX5_ways_2 : decode cX5_ways 2 = .ok (.iload_n 2, 1) := by decide +kernel
theorem dX5_ways_3 : decode cX5_ways 3 = .ok (.iload_n 1, 1) := by decide +kernel
theorem dX5_ways_4 : decode cX5_ways 4 = .ok (.if_icmp .gt 31, 3) := by decide +kernel
theorem dX5_ways_7 : decode cX5_ways 7 = .ok (.iload_n 2, 1) := by decide +kernel
theorem dX5_ways_8 : decode cX5_ways 8 = .ok (.sipush 999, 3) := by decide +kernel
theorem dX5_ways_11 : decode cX5_ways 11 = .ok (.if_icmp .gt 24, 3) := by decide +kernel
theorem dX5_ways_14 : decode cX5_ways 14 = .ok (.aload_n 0, 1) := by decide +kernel
theorem dX5_ways_15 : decode cX5_ways 15 = .ok (.getfield 24, 3) := by decide +kernel
theorem dX5_ways_18 : decode cX5_ways 18 = .ok (.iload_n 2, 1) := by decide +kernel
theorem dX5_ways_19 : decode cX5_ways 19 = .ok (.iload_n 2, 1) := by decide +kernel
theorem dX5_ways_20 : decode cX5_ways 20 = .ok (.ifCond .ne 7, 3) := by decide +kernel
theorem dX5_ways_23 : decode cX5_ways 23 = .ok (.iconst 1, 1) := by decide +kernel
theorem dX5_ways_24 : decode cX5_ways 24 = .ok (.goto 4, 3) := by decide +kernel
theorem dX5_ways_27 : decode cX5_ways 27 = .ok (.iconst 0, 1) := by decide +kernel
theorem dX5_ways_28 : decode cX5_ways 28 = .ok (.iastore, 1) := by decide +kernel
theorem dX5_ways_29 : decode cX5_ways 29 = .ok (.iinc 2 1, 3) := by decide +kernel
theorem dX5_ways_32 : decode cX5_ways 32 = .ok (.goto (-30), 3) := by decide +kernel
theorem dX5_ways_35 : decode cX5_ways 35 = .ok (.iconst 0, 1) := by decide +kernel
theorem dX5_ways_36 : decode cX5_ways 36 = .ok (.istore_n 2, 1) := by decide +kernel
theorem dX5_ways_37 : decode cX5_ways 37 = .ok (.iload_n 2, 1) := by decide +kernel
theorem dX5_ways_38 : decode cX5_ways 38 = .ok (.aload_n 0, 1) := by decide +kernel
theorem dX5_ways_39 : decode cX5_ways 39 = .ok (.getfield 61, 3) := by decide +kernel
theorem dX5_ways_42 : decode cX5_ways 42 = .ok (.if_icmp .ge 65, 3) := by decide +kernel
theorem dX5_ways_45 : decode cX5_ways 45 = .ok (.aload_n 0, 1) := by decide +kernel
theorem dX5_ways_46 : decode cX5_ways 46 = .ok (.getfield 21, 3) := by decide +kernel
theorem dX5_ways_49 : decode cX5_ways 49 = .ok (.iload_n 2, 1) := by decide +kernel
theorem dX5_ways_50 : decode cX5_ways 50 = .ok (.iaload, 1) := by decide +kernel
theorem dX5_ways_51 : decode cX5_ways 51 = .ok (.istore_n 3, 1) := by decide +kernel
theorem dX5_ways_52 : decode cX5_ways 52 = .ok (.iload_n 3, 1) := by decide +kernel
theorem dX5_ways_53 : decode cX5_ways 53 = .ok (.iload_n 1, 1) := by decide +kernel
theorem dX5_ways_54 : decode cX5_ways 54 = .ok (.if_icmp .gt 47, 3) := by decide +kernel
theorem dX5_ways_57 : decode cX5_ways 57 = .ok (.iload_n 3, 1) := by decide +kernel
theorem dX5_ways_58 : decode cX5_ways 58 = .ok (.sipush 999, 3) := by decide +kernel
theorem dX5_ways_61 : decode cX5_ways 61 = .ok (.if_icmp .gt 40, 3) := by decide +kernel
theorem dX5_ways_64 : decode cX5_ways 64 = .ok (.aload_n 0, 1) := by decide +kernel
theorem dX5_ways_65 : decode cX5_ways 65 = .ok (.getfield 24, 3) := by decide +kernel
theorem dX5_ways_68 : decode cX5_ways 68 = .ok (.iload_n 3, 1) := by decide +kernel
theorem dX5_ways_69 : decode cX5_ways 69 = .ok (.ldc 69, 2) := by decide +kernel
theorem dX5_ways_71 : decode cX5_ways 71 = .ok (.aload_n 0, 1) := by decide +kernel
theorem dX5_ways_72 : decode cX5_ways 72 = .ok (.getfield 24, 3) := by decide +kernel
theorem dX5_ways_75 : decode cX5_ways 75 = .ok (.iload_n 3, 1) := by decide +kernel
theorem dX5_ways_76 : decode cX5_ways 76 = .ok (.iaload, 1) := by decide +kernel
theorem dX5_ways_77 : decode cX5_ways 77 = .ok (.aload_n 0, 1) := by decide +kernel
theorem dX5_ways_78 : decode cX5_ways 78 = .ok (.getfield 24, 3) := by decide +kernel
theorem dX5_ways_81 : decode cX5_ways 81 = .ok (.iload_n 3, 1) := by decide +kernel
theorem dX5_ways_82 : decode cX5_ways 82 = .ok (.aload_n 0, 1) := by decide +kernel
theorem dX5_ways_83 : decode cX5_ways 83 = .ok (.getfield 21, 3) := by decide +kernel
theorem dX5_ways_86 : decode cX5_ways 86 = .ok (.iload_n 2, 1) := by decide +kernel
theorem dX5_ways_87 : decode cX5_ways 87 = .ok (.iaload, 1) := by decide +kernel
theorem dX5_ways_88 : decode cX5_ways 88 = .ok (.isub, 1) := by decide +kernel
theorem dX5_ways_89 : decode cX5_ways 89 = .ok (.iaload, 1) := by decide +kernel
theorem dX5_ways_90 : decode cX5_ways 90 = .ok (.iadd, 1) := by decide +kernel
theorem dX5_ways_91 : decode cX5_ways 91 = .ok (.invokestatic 58, 3) := by decide +kernel
theorem dX5_ways_94 : decode cX5_ways 94 = .ok (.iastore, 1) := by decide +kernel
theorem dX5_ways_95 : decode cX5_ways 95 = .ok (.iinc 3 1, 3) := by decide +kernel
theorem dX5_ways_98 : decode cX5_ways 98 = .ok (.goto (-46), 3) := by decide +kernel
theorem dX5_ways_101 : decode cX5_ways 101 = .ok (.iinc 2 1, 3) := by decide +kernel
theorem dX5_ways_104 : decode cX5_ways 104 = .ok (.goto (-67), 3) := by decide +kernel
theorem dX5_ways_107 : decode cX5_ways 107 = .ok (.aload_n 0, 1) := by decide +kernel
theorem dX5_ways_108 : decode cX5_ways 108 = .ok (.getfield 24, 3) := by decide +kernel
theorem dX5_ways_111 : decode cX5_ways 111 = .ok (.iload_n 1, 1) := by decide +kernel
theorem dX5_ways_112 : decode cX5_ways 112 = .ok (.iaload, 1) := by decide +kernel
theorem dX5_ways_113 : decode cX5_ways 113 = .ok (.ireturn, 1) := by decide +kernel
theorem dX5_greatestFirst_0 : decode cX5_greatestFirst 0 = .ok (.iload_n 1, 1) := by decide +kernel
theorem dX5_greatestFirst_1 : decode cX5_greatestFirst 1 = .ok (.istore_n 2, 1) := by decide +kernel
theorem dX5_greatestFirst_2 : decode cX5_greatestFirst 2 = .ok (.iconst 0, 1) := by decide +kernel
theorem dX5_greatestFirst_3 : decode cX5_greatestFirst 3 = .ok (.istore_n 3, 1) := by decide +kernel
theorem dX5_greatestFirst_4 : decode cX5_greatestFirst 4 = .ok (.iconst 0, 1) := by decide +kernel
theorem dX5_greatestFirst_5 : decode cX5_greatestFirst 5 = .ok (.istore 4, 2) := by decide +kernel
theorem dX5_greatestFirst_7 : decode cX5_greatestFirst 7 = .ok (.iload 4, 2) := by decide +kernel
theorem dX5_greatestFirst_9 : decode cX5_greatestFirst 9 = .ok (.bipush 6, 2) := by decide +kernel
theorem dX5_greatestFirst_11 : decode cX5_greatestFirst 11 = .ok (.if_icmp .ge 40, 3) := by decide +kernel
theorem dX5_greatestFirst_14 : decode cX5_greatestFirst 14 = .ok (.iload_n 2, 1) := by decide +kernel
theorem dX5_greatestFirst_15 : decode cX5_greatestFirst 15 = .ok (.ifCond .le 36, 3) := by decide +kernel
theorem dX5_greatestFirst_18 : decode cX5_greatestFirst 18 = .ok (.aload_n 0, 1) := by decide +kernel
theorem dX5_greatestFirst_19 : decode cX5_greatestFirst 19 = .ok (.iload_n 2, 1) := by decide +kernel
theorem dX5_greatestFirst_20 : decode cX5_greatestFirst 20 = .ok (.invokevirtual 70, 3) := by decide +kernel
theorem dX5_greatestFirst_23 : decode cX5_greatestFirst 23 = .ok (.istore 5, 2) := by decide +kernel
theorem dX5_greatestFirst_25 : decode cX5_greatestFirst 25 = .ok (.iload 5, 2) := by decide +kernel
theorem dX5_greatestFirst_27 : decode cX5_greatestFirst 27 = .ok (.ifCond .ne 6, 3) := by decide +kernel
theorem dX5_greatestFirst_30 : decode cX5_greatestFirst 30 = .ok (.bipush (-2), 2) := by decide +kernel
theorem dX5_greatestFirst_32 : decode cX5_greatestFirst 32 = .ok (.ireturn, 1) := by decide +kernel
theorem dX5_greatestFirst_33 : decode cX5_greatestFirst 33 = .ok (.iload_n 3, 1) := by decide +kernel
theorem dX5_greatestFirst_34 : decode cX5_greatestFirst 34 = .ok (.iload_n 2, 1) := by decide +kernel
theorem dX5_greatestFirst_35 : decode cX5_greatestFirst 35 = .ok (.iload 5, 2) := by decide +kernel
theorem dX5_greatestFirst_37 : decode cX5_greatestFirst 37 = .ok (.idiv, 1) := by decide +kernel
theorem dX5_greatestFirst_38 : decode cX5_greatestFirst 38 = .ok (.iadd, 1) := by decide +kernel
theorem dX5_greatestFirst_39 : decode cX5_greatestFirst 39 = .ok (.istore_n 3, 1) := by decide +kernel
theorem dX5_greatestFirst_40 : decode cX5_greatestFirst 40 = .ok (.iload_n 2, 1) := by decide +kernel
theorem dX5_greatestFirst_41 : decode cX5_greatestFirst 41 = .ok (.iload 5, 2) := by decide +kernel
theorem dX5_greatestFirst_43 : decode cX5_greatestFirst 43 = .ok (.irem, 1) := by decide +kernel
theorem dX5_greatestFirst_44 : decode cX5_greatestFirst 44 = .ok (.istore_n 2, 1) := by decide +kernel
theorem dX5_greatestFirst_45 : decode cX5_greatestFirst 45 = .ok (.iinc 4 1, 3) := by decide +kernel
theorem dX5_greatestFirst_48 : decode cX5_greatestFirst 48 = .ok (.goto (-41), 3) := by decide +kernel
theorem dX5_greatestFirst_51 : decode cX5_greatestFirst 51 = .ok (.iload_n 2, 1) := by decide +kernel
theorem dX5_greatestFirst_52 : decode cX5_greatestFirst 52 = .ok (.ifCond .ne 7, 3) := by decide +kernel
theorem dX5_greatestFirst_55 : decode cX5_greatestFirst 55 = .ok (.iload_n 3, 1) := by decide +kernel
theorem dX5_greatestFirst_56 : decode cX5_greatestFirst 56 = .ok (.goto 5, 3) := by decide +kernel
theorem dX5_greatestFirst_59 : decode cX5_greatestFirst 59 = .ok (.bipush (-2), 2) := by decide +kernel
theorem dX5_greatestFirst_61 : decode cX5_greatestFirst 61 = .ok (.ireturn, 1) := by decide +kernel
theorem dX5_greatestWithin_0 : decode cX5_greatestWithin 0 = .ok (.iconst 0, 1) := by decide +kernel
theorem dX5_greatestWithin_1 : decode cX5_greatestWithin 1 = .ok (.istore_n 2, 1) := by decide +kernel
theorem dX5_greatestWithin_2 : decode cX5_greatestWithin 2 = .ok (.iconst 0, 1) := by decide +kernel
theorem dX5_greatestWithin_3 : decode cX5_greatestWithin 3 = .ok (.istore_n 3, 1) := by decide +kernel
theorem dX5_greatestWithin_4 : decode cX5_greatestWithin 4 = .ok (.iload_n 3, 1) := by decide +kernel
theorem dX5_greatestWithin_5 : decode cX5_greatestWithin 5 = .ok (.aload_n 0, 1) := by decide +kernel
theorem dX5_greatestWithin_6 : decode cX5_greatestWithin 6 = .ok (.getfield 61, 3) := by decide +kernel
theorem dX5_greatestWithin_9 : decode cX5_greatestWithin 9 = .ok (.if_icmp .ge 30, 3) := by decide +kernel
theorem dX5_greatestWithin_12 : decode cX5_greatestWithin 12 = .ok (.aload_n 0, 1) := by decide +kernel
theorem dX5_greatestWithin_13 : decode cX5_greatestWithin 13 = .ok (.getfield 21, 3) := by decide +kernel
theorem dX5_greatestWithin_16 : decode cX5_greatestWithin 16 = .ok (.iload_n 3, 1) := by decide +kernel
theorem dX5_greatestWithin_17 : decode cX5_greatestWithin 17 = .ok (.iaload, 1) := by decide +kernel
theorem dX5_greatestWithin_18 : decode cX5_greatestWithin 18 = .ok (.iload_n 1, 1) := by decide +kernel
theorem dX5_greatestWithin_19 : decode cX5_greatestWithin 19 = .ok (.if_icmp .gt 14, 3) := by decide +kernel
theorem dX5_greatestWithin_22 : decode cX5_greatestWithin 22 = .ok (.iload_n 2, 1) := by decide +kernel
theorem dX5_greatestWithin_23 : decode cX5_greatestWithin 23 = .ok (.aload_n 0, 1) := by decide +kernel
theorem dX5_greatestWithin_24 : decode cX5_greatestWithin 24 = .ok (.getfield 21, 3) := by decide +kernel
theorem dX5_greatestWithin_27 : decode cX5_greatestWithin 27 = .ok (.iload_n 3, 1) := by decide +kernel
theorem dX5_greatestWithin_28 : decode cX5_greatestWithin 28 = .ok (.iaload, 1) := by decide +kernel
theorem dX5_greatestWithin_29 : decode cX5_greatestWithin 29 = .ok (.invokestatic 27, 3) := by decide +kernel
theorem dX5_greatestWithin_32 : decode cX5_greatestWithin 32 = .ok (.istore_n 2, 1) := by decide +kernel
theorem dX5_greatestWithin_33 : decode cX5_greatestWithin 33 = .ok (.iinc 3 1, 3) := by decide +kernel
theorem dX5_greatestWithin_36 : decode cX5_greatestWithin 36 = .ok (.goto (-32), 3) := by decide +kernel
theorem dX5_greatestWithin_39 : decode cX5_greatestWithin 39 = .ok (.iload_n 2, 1) := by decide +kernel
theorem dX5_greatestWithin_40 : decode cX5_greatestWithin 40 = .ok (.ireturn, 1) := by decide +kernel
theorem dX6_init_0 : decode cX6_init 0 = .ok (.aload_n 0, 1) := by decide +kernel
theorem dX6_init_1 : decode cX6_init 1 = .ok (.invokespecial 3, 3) := by decide +kernel
theorem dX6_init_4 : decode cX6_init 4 = .ok (.aload_n 0, 1) := by decide +kernel
theorem dX6_init_5 : decode cX6_init 5 = .ok (.iconst 0, 1) := by decide +kernel
theorem dX6_init_6 : decode cX6_init 6 = .ok (.newarray .int, 2) := by decide +kernel
theorem dX6_init_8 : decode cX6_init 8 = .ok (.putfield 9, 3) := by decide +kernel
theorem dX6_init_11 : decode cX6_init 11 = .ok (.aload_n 0, 1) := by decide +kernel
theorem dX6_init_12 : decode cX6_init 12 = .ok (.new 15, 3) := by decide +kernel
theorem dX6_init_15 : decode cX6_init 15 = .ok (.dup, 1) := by decide +kernel
theorem dX6_init_16 : decode cX6_init 16 = .ok (.invokespecial 17, 3) := by decide +kernel
theorem dX6_init_19 : decode cX6_init 19 = .ok (.putfield 18, 3) := by decide +kernel
theorem dX6_init_22 : decode cX6_init 22 = .ok (.return_, 1) := by decide +kernel
theorem dX6_handOver_0 : decode cX6_handOver 0 = .ok (.aload_n 0, 1) := by decide +kernel
theorem dX6_handOver_1 : decode cX6_handOver 1 = .ok (.getfield 18, 3) := by decide +kernel
theorem dX6_handOver_4 : decode cX6_handOver 4 = .ok (.astore_n 2, 1) := by decide +kernel
theorem dX6_handOver_5 : decode cX6_handOver 5 = .ok (.aload_n 0, 1) := by decide +kernel
theorem dX6_handOver_6 : decode cX6_handOver 6 = .ok (.aload_n 1, 1) := by decide +kernel
theorem dX6_handOver_7 : decode cX6_handOver 7 = .ok (.putfield 18, 3) := by decide +kernel
theorem dX6_handOver_10 : decode cX6_handOver 10 = .ok (.aload_n 2, 1) := by decide +kernel
theorem dX6_handOver_11 : decode cX6_handOver 11 = .ok (.areturn, 1) := by decide +kernel
theorem dX6_read_0 : decode cX6_read 0 = .ok (.aload_n 0, 1) := by decide +kernel
theorem dX6_read_1 : decode cX6_read 1 = .ok (.aload_n 1, 1) := by decide +kernel
theorem dX6_read_2 : decode cX6_read 2 = .ok (.putfield 9, 3) := by decide +kernel
theorem dX6_read_5 : decode cX6_read 5 = .ok (.aload_n 0, 1) := by decide +kernel
theorem dX6_read_6 : decode cX6_read 6 = .ok (.iload_n 2, 1) := by decide +kernel
theorem dX6_read_7 : decode cX6_read 7 = .ok (.aload_n 1, 1) := by decide +kernel
theorem dX6_read_8 : decode cX6_read 8 = .ok (.arraylength, 1) := by decide +kernel
theorem dX6_read_9 : decode cX6_read 9 = .ok (.invokestatic 22, 3) := by decide +kernel
theorem dX6_read_12 : decode cX6_read 12 = .ok (.putfield 28, 3) := by decide +kernel
theorem dX6_read_15 : decode cX6_read 15 = .ok (.aload_n 0, 1) := by decide +kernel
theorem dX6_read_16 : decode cX6_read 16 = .ok (.iconst 0, 1) := by decide +kernel
theorem dX6_read_17 : decode cX6_read 17 = .ok (.putfield 32, 3) := by decide +kernel
theorem dX6_read_20 : decode cX6_read 20 = .ok (.aload_n 0, 1) := by decide +kernel
theorem dX6_read_21 : decode cX6_read 21 = .ok (.iconst 0, 1) := by decide +kernel
theorem dX6_read_22 : decode cX6_read 22 = .ok (.putfield 35, 3) := by decide +kernel
theorem dX6_read_25 : decode cX6_read 25 = .ok (.aload_n 0, 1) := by decide +kernel
theorem dX6_read_26 : decode cX6_read 26 = .ok (.getfield 18, 3) := by decide +kernel
theorem dX6_read_29 : decode cX6_read 29 = .ok (.invokevirtual 38, 3) := by decide +kernel
theorem dX6_read_32 : decode cX6_read 32 = .ok (.iconst 0, 1) := by decide +kernel
theorem dX6_read_33 : decode cX6_read 33 = .ok (.istore_n 3, 1) := by decide +kernel
theorem dX6_read_34 : decode cX6_read 34 = .ok (.iload_n 3, 1) := by decide +kernel
theorem dX6_read_35 : decode cX6_read 35 = .ok (.bipush 16, 2) := by decide +kernel
theorem dX6_read_37 : decode cX6_read 37 = .ok (.if_icmp .gt 47, 3) := by decide +kernel
theorem dX6_read_40 : decode cX6_read 40 = .ok (.aload_n 0, 1) := by decide +kernel
theorem dX6_read_41 : decode cX6_read 41 = .ok (.iload_n 3, 1) := by decide +kernel
theorem dX6_read_42 : decode cX6_read 42 = .ok (.invokevirtual 41, 3) := by decide +kernel
theorem dX6_read_45 : decode cX6_read 45 = .ok (.aload_n 0, 1) := by decide +kernel
theorem dX6_read_46 : decode cX6_read 46 = .ok (.getfield 35, 3) := by decide +kernel
theorem dX6_read_49 : decode cX6_read 49 = .ok (.ifCond .eq 8, 3) := by decide +kernel
theorem dX6_read_52 : decode cX6_read 52 = .ok (.aload_n 0, 1) := by decide +kernel
theorem dX6_read_53 : decode cX6_read 53 = .ok (.getfield 35, 3) := by decide +kernel
theorem dX6_read_56 : decode cX6_read 56 = .ok (.ireturn, 1) := by decide +kernel
theorem dX6_read_57 : decode cX6_read 57 = .ok (.aload_n 0, 1) := by decide +kernel
theorem dX6_read_58 : decode cX6_read 58 = .ok (.getfield 32, 3) := by decide +kernel
theorem dX6_read_61 : decode cX6_read 61 = .ok (.aload_n 0, 1) := by decide +kernel
theorem dX6_read_62 : decode cX6_read 62 = .ok (.getfield 28, 3) := by decide +kernel
theorem dX6_read_65 : decode cX6_read 65 = .ok (.if_icmp .ne 7, 3) := by decide +kernel
theorem dX6_read_68 : decode cX6_read 68 = .ok (.iload_n 3, 1) := by decide +kernel
theorem dX6_read_69 : decode cX6_read 69 = .ok (.iconst 1, 1) := by decide +kernel
theorem dX6_read_70 : decode cX6_read 70 = .ok (.iadd, 1) := by decide +kernel
theorem dX6_read_71 : decode cX6_read 71 = .ok (.ireturn, 1) := by decide +kernel
theorem dX6_read_72 : decode cX6_read 72 = .ok (.aload_n 0, 1) := by decide +kernel
theorem dX6_read_73 : decode cX6_read 73 = .ok (.bipush 59, 2) := by decide +kernel
theorem dX6_read_75 : decode cX6_read 75 = .ok (.invokevirtual 45, 3) := by decide +kernel
theorem dX6_read_78 : decode cX6_read 78 = .ok (.iinc 3 1, 3) := by decide +kernel
theorem dX6_read_81 : decode cX6_read 81 = .ok (.goto (-47), 3) := by decide +kernel
theorem dX6_read_84 : decode cX6_read 84 = .ok (.aload_n 0, 1) := by decide +kernel
theorem dX6_read_85 : decode cX6_read 85 = .ok (.getfield 35, 3) := by decide +kernel
theorem dX6_read_88 : decode cX6_read 88 = .ok (.ireturn, 1) := by decide +kernel
theorem dX6_readRule_0 : decode cX6_readRule 0 = .ok (.aload_n 0, 1) := by decide +kernel
theorem dX6_readRule_1 : decode cX6_readRule 1 = .ok (.invokevirtual 48, 3) := by decide +kernel
theorem dX6_readRule_4 : decode cX6_readRule 4 = .ok (.istore_n 2, 1) := by decide +kernel
theorem dX6_readRule_5 : decode cX6_readRule 5 = .ok (.aload_n 0, 1) := by decide +kernel
theorem dX6_readRule_6 : decode cX6_readRule 6 = .ok (.getfield 35, 3) := by decide +kernel
theorem dX6_readRule_9 : decode cX6_readRule 9 = .ok (.ifCond .ne 12, 3) := by decide +kernel
theorem dX6_readRule_12 : decode cX6_readRule 12 = .ok (.ldc 52, 2) := by decide +kernel
theorem dX6_readRule_14 : decode cX6_readRule 14 = .ok (.iload_n 2, 1) := by decide +kernel
theorem dX6_readRule_15 : decode cX6_readRule 15 = .ok (.invokestatic 54, 3) := by decide +kernel
theorem dX6_readRule_18 : decode cX6_readRule 18 = .ok (.ifCond .ne 9, 3) := by decide +kernel
theorem dX6_readRule_21 : decode cX6_readRule 21 = .ok (.aload_n 0, 1) := by decide +kernel
theorem dX6_readRule_22 : decode cX6_readRule 22 = .ok (.iconst 1, 1) := by decide +kernel
theorem dX6_readRule_23 : decode cX6_readRule 23 = .ok (.invokevirtual 58, 3) := by decide +kernel
theorem dX6_readRule_26 : decode cX6_readRule 26 = .ok (.return_, 1) := by decide +kernel
theorem dX6_readRule_27 : decode cX6_readRule 27 = .ok (.iload_n 1, 1) := by decide +kernel
theorem dX6_readRule_28 : decode cX6_readRule 28 = .ok (.bipush 16, 2) := by decide +kernel
theorem dX6_readRule_30 : decode cX6_readRule 30 = .ok (.if_icmp .lt 9, 3) := by decide +kernel
theorem dX6_readRule_33 : decode cX6_readRule 33 = .ok (.aload_n 0, 1) := by decide +kernel
theorem dX6_readRule_34 : decode cX6_readRule 34 = .ok (.iconst 4, 1) := by decide +kernel
theorem dX6_readRule_35 : decode cX6_readRule 35 = .ok (.invokevirtual 58, 3) := by decide +kernel
theorem dX6_readRule_38 : decode cX6_readRule 38 = .ok (.return_, 1) := by decide +kernel
theorem dX6_readRule_39 : decode cX6_readRule 39 = .ok (.aload_n 0, 1) := by decide +kernel
theorem dX6_readRule_40 : decode cX6_readRule 40 = .ok (.dup, 1) := by decide +kernel
theorem dX6_readRule_41 : decode cX6_readRule 41 = .ok (.getfield 32, 3) := by decide +kernel
theorem dX6_readRule_44 : decode cX6_readRule 44 = .ok (.iconst 1, 1) := by decide +kernel
theorem dX6_readRule_45 : decode cX6_readRule 45 = .ok (.iadd, 1) := by decide +kernel
theorem dX6_readRule_46 : decode cX6_readRule 46 = .ok (.putfield 32, 3) := by decide +kernel
theorem dX6_readRule_49 : decode cX6_readRule 49 = .ok (.aload_n 0, 1) := by decide +kernel
theorem dX6_readRule_50 : decode cX6_readRule 50 = .ok (.getfield 18, 3) := by decide +kernel
theorem dX6_readRule_53 : decode cX6_readRule 53 = .ok (.iload_n 1, 1) := by decide +kernel
theorem dX6_readRule_54 : decode cX6_readRule 54 = .ok (.iconst 1, 1) := by decide +kernel
theorem dX6_readRule_55 : decode cX6_readRule 55 = .ok (.iadd, 1) := by decide +kernel
theorem dX6_readRule_56 : decode cX6_readRule 56 = .ok (.putfield 61, 3) := by decide +kernel
theorem dX6_readRule_59 : decode cX6_readRule 59 = .ok (.aload_n 0, 1) := by decide +kernel
theorem dX6_readRule_60 : decode cX6_readRule 60 = .ok (.getfield 18, 3) := by decide +kernel
theorem dX6_readRule_63 : decode cX6_readRule 63 = .ok (.getfield 64, 3) := by decide +kernel
theorem dX6_readRule_66 : decode cX6_readRule 66 = .ok (.iload_n 1, 1) := by decide +kernel
theorem dX6_readRule_67 : decode cX6_readRule 67 = .ok (.iload_n 2, 1) := by decide +kernel
theorem dX6_readRule_68 : decode cX6_readRule 68 = .ok (.iastore, 1) := by decide +kernel
theorem dX6_readRule_69 : decode cX6_readRule 69 = .ok (.aload_n 0, 1) := by decide +kernel
theorem dX6_readRule_70 : decode cX6_readRule 70 = .ok (.getfield 18, 3) := by decide +kernel
theorem dX6_readRule_73 : decode cX6_readRule 73 = .ok (.getfield 67, 3) := by decide +kernel
theorem dX6_readRule_76 : decode cX6_readRule 76 = .ok (.iload_n 1, 1) := by decide +kernel
theorem dX6_readRule_77 : decode cX6_readRule 77 = .ok (.aload_n 0, 1) := by decide +kernel
theorem dX6_readRule_78 : decode cX6_readRule 78 = .ok (.getfield 18, 3) := by decide +kernel
theorem dX6_readRule_81 : decode cX6_readRule 81 = .ok (.getfield 70, 3) := by decide +kernel
theorem dX6_readRule_84 : decode cX6_readRule 84 = .ok (.iastore, 1) := by decide +kernel
theorem dX6_readRule_85 : decode cX6_readRule 85 = .ok (.iload_n 2, 1) := by decide +kernel
theorem dX6_readRule_86 : decode cX6_readRule 86 = .ok (.bipush 120, 2) := by decide +kernel
theorem dX6_readRule_88 : decode cX6_readRule 88 = .ok (.if_icmp .eq 9, 3) := by decide +kernel
theorem dX6_readRule_91 : decode cX6_readRule 91 = .ok (.aload_n 0, 1) := by decide +kernel
theorem dX6_readRule_92 : decode cX6_readRule 92 = .ok (.iconst 0, 1) := by decide +kernel
theorem dX6_readRule_93 : decode cX6_readRule 93 = .ok (.iconst 0, 1) := by decide +kernel
theorem dX6_readRule_94 : decode cX6_readRule 94 = .ok (.invokevirtual 73, 3) := by decide +kernel
theorem dX6_readRule_97 : decode cX6_readRule 97 = .ok (.aload_n 0, 1) := by decide +kernel
theorem dX6_readRule_98 : decode cX6_readRule 98 = .ok (.getfield 18, 3) := by decide +kernel
theorem dX6_readRule_101 : decode cX6_readRule 101 = .ok (.getfield 77, 3) := by decide +kernel
theorem dX6_readRule_104 : decode cX6_readRule 104 = .ok (.iload_n 1, 1) := by decide +kernel
theorem dX6_readRule_105 : decode cX6_readRule 105 = .ok (.aload_n 0, 1) := by decide +kernel
theorem dX6_readRule_106 : decode cX6_readRule 106 = .ok (.getfield 18, 3) := by decide +kernel
theorem dX6_readRule_109 : decode cX6_readRule 109 = .ok (.getfield 70, 3) := by decide +kernel
theorem dX6_readRule_112 : decode cX6_readRule 112 = .ok (.iastore, 1) := by decide +kernel
theorem dX6_readRule_113 : decode cX6_readRule 113 = .ok (.aload_n 0, 1) := by decide +kernel
theorem dX6_readRule_114 : decode cX6_readRule 114 = .ok (.bipush 40, 2) := by decide +kernel
theorem dX6_readRule_116 : decode cX6_readRule 116 = .ok (.invokevirtual 45, 3) := by decide +kernel
theorem dX6_readRule_119 : decode cX6_readRule 119 = .ok (.aload_n 0, 1) := by decide +kernel
theorem dX6_readRule_120 : decode cX6_readRule 120 = .ok (.iconst 0, 1) := by decide +kernel
theorem dX6_readRule_121 : decode cX6_readRule 121 = .ok (.iconst 1, 1) := by decide +kernel
theorem dX6_readRule_122 : decode cX6_readRule 122 = .ok (.invokevirtual 80, 3) := by decide +kernel
theorem dX6_readRule_125 : decode cX6_readRule 125 = .ok (.aload_n 0, 1) := by decide +kernel
theorem dX6_readRule_126 : decode cX6_readRule 126 = .ok (.bipush 41, 2) := by decide +kernel
theorem dX6_readRule_128 : decode cX6_readRule 128 = .ok (.invokevirtual 45, 3) := by decide +kernel
theorem dX6_readRule_131 : decode cX6_readRule 131 = .ok (.aload_n 0, 1) := by decide +kernel
theorem dX6_readRule_132 : decode cX6_readRule 132 = .ok (.getfield 18, 3) := by decide +kernel
theorem dX6_readRule_135 : decode cX6_readRule 135 = .ok (.getfield 83, 3) := by decide +kernel
theorem dX6_readRule_138 : decode cX6_readRule 138 = .ok (.iload_n 1, 1) := by decide +kernel
theorem dX6_readRule_139 : decode cX6_readRule 139 = .ok (.aload_n 0, 1) := by decide +kernel
theorem dX6_readRule_140 : decode cX6_readRule 140 = .ok (.getfield 18, 3) := by decide +kernel
theorem dX6_readRule_143 : decode cX6_readRule 143 = .ok (.getfield 70, 3) := by decide +kernel
theorem dX6_readRule_146 : decode cX6_readRule 146 = .ok (.iastore, 1) := by decide +kernel
theorem dX6_readRule_147 : decode cX6_readRule 147 = .ok (.return_, 1) := by decide +kernel
theorem dX6_readCondition_0 : decode cX6_readCondition 0 = .ok (.aload_n 0, 1) := by decide +kernel
theorem dX6_readCondition_1 : decode cX6_readCondition 1 = .ok (.getfield 35, 3) := by decide +kernel
theorem dX6_readCondition_4 : decode cX6_readCondition 4 = .ok (.ifCond .eq 4, 3) := by decide +kernel
theorem dX6_readCondition_7 : decode cX6_readCondition 7 = .ok (.return_, 1) := by decide +kernel
theorem dX6_readCondition_8 : decode cX6_readCondition 8 = .ok (.iload_n 1, 1) := by decide +kernel
theorem dX6_readCondition_9 : decode cX6_readCondition 9 = .ok (.iconst 2, 1) := by decide +kernel
theorem dX6_readCondition_10 : decode cX6_readCondition 10 = .ok (.if_icmp .lt 9, 3) := by decide +kernel
theorem dX6_readCondition_13 : decode cX6_readCondition 13 = .ok (.aload_n 0, 1) := by decide +kernel
theorem dX6_readCondition_14 : decode cX6_readCondition 14 = .ok (.iload_n 2, 1) := by decide +kernel
theorem dX6_readCondition_15 : decode cX6_readCondition 15 = .ok (.invokevirtual 86, 3) := by decide +kernel
theorem dX6_readCondition_18 : decode cX6_readCondition 18 = .ok (.return_, 1) := by decide +kernel
theorem dX6_readCondition_19 : decode cX6_readCondition 19 = .ok (.iload_n 1, 1) := by decide +kernel
theorem dX6_readCondition_20 : decode cX6_readCondition 20 = .ok (.ifCond .ne 8, 3) := by decide +kernel
theorem dX6_readCondition_23 : decode cX6_readCondition 23 = .ok (.bipush 124, 2) := by decide +kernel
theorem dX6_readCondition_25 : decode cX6_readCondition 25 = .ok (.goto 5, 3) := by decide +kernel
theorem dX6_readCondition_28 : decode cX6_readCondition 28 = .ok (.bipush 38, 2) := by decide +kernel
theorem dX6_readCondition_30 : decode cX6_readCondition 30 = .ok (.istore_n 3, 1) := by decide +kernel
theorem dX6_readCondition_31 : decode cX6_readCondition 31 = .ok (.aload_n 0, 1) := by decide +kernel
theorem dX6_readCondition_32 : decode cX6_readCondition 32 = .ok (.iload_n 1, 1) := by decide +kernel
theorem dX6_readCondition_33 : decode cX6_readCondition 33 = .ok (.iconst 1, 1) := by decide +kernel
theorem dX6_readCondition_34 : decode cX6_readCondition 34 = .ok (.iadd, 1) := by decide +kernel
theorem dX6_readCondition_35 : decode cX6_readCondition 35 = .ok (.iload_n 2, 1) := by decide +kernel
theorem dX6_readCondition_36 : decode cX6_readCondition 36 = .ok (.invokevirtual 80, 3) := by decide +kernel
theorem dX6_readCondition_39 : decode cX6_readCondition 39 = .ok (.iconst 0, 1) := by decide +kernel
theorem dX6_readCondition_40 : decode cX6_readCondition 40 = .ok (.istore 4, 2) := by decide +kernel
theorem dX6_readCondition_42 : decode cX6_readCondition 42 = .ok (.iload 4, 2) := by decide +kernel
theorem dX6_readCondition_44 : decode cX6_readCondition 44 = .ok (.sipush 240, 3) := by decide +kernel
theorem dX6_readCondition_47 : decode cX6_readCondition 47 = .ok (.if_icmp .ge 51, 3) := by decide +kernel
theorem dX6_readCondition_50 : decode cX6_readCondition 50 = .ok (.aload_n 0, 1) := by decide +kernel
theorem dX6_readCondition_51 : decode cX6_readCondition 51 = .ok (.getfield 35, 3) := by decide +kernel
theorem dX6_readCondition_54 : decode cX6_readCondition 54 = .ok (.ifCond .ne 44, 3) := by decide +kernel
theorem dX6_readCondition_57 : decode cX6_readCondition 57 = .ok (.aload_n 0, 1) := by decide +kernel
theorem dX6_readCondition_58 : decode cX6_readCondition 58 = .ok (.invokevirtual 48, 3) := by decide +kernel
theorem dX6_readCondition_61 : decode cX6_readCondition 61 = .ok (.iload_n 3, 1) := by decide +kernel
theorem dX6_readCondition_62 : decode cX6_readCondition 62 = .ok (.if_icmp .ne 36, 3) := by decide +kernel
theorem dX6_readCondition_65 : decode cX6_readCondition 65 = .ok (.aload_n 0, 1) := by decide +kernel
theorem dX6_readCondition_66 : decode cX6_readCondition 66 = .ok (.dup, 1) := by decide +kernel
theorem dX6_readCondition_67 : decode cX6_readCondition 67 = .ok (.getfield 32, 3) := by decide +kernel
theorem dX6_readCondition_70 : decode cX6_readCondition 70 = .ok (.iconst 1, 1) := by decide +kernel
theorem dX6_readCondition_71 : decode cX6_readCondition 71 = .ok (.iadd, 1) := by decide +kernel
theorem dX6_readCondition_72 : decode cX6_readCondition 72 = .ok (.putfield 32, 3) := by decide +kernel
theorem dX6_readCondition_75 : decode cX6_readCondition 75 = .ok (.aload_n 0, 1) := by decide +kernel
theorem dX6_readCondition_76 : decode cX6_readCondition 76 = .ok (.iload_n 1, 1) := by decide +kernel
theorem dX6_readCondition_77 : decode cX6_readCondition 77 = .ok (.iconst 1, 1) := by decide +kernel
theorem dX6_readCondition_78 : decode cX6_readCondition 78 = .ok (.iadd, 1) := by decide +kernel
theorem dX6_readCondition_79 : decode cX6_readCondition 79 = .ok (.iload_n 2, 1) := by decide +kernel
theorem dX6_readCondition_80 : decode cX6_readCondition 80 = .ok (.invokevirtual 80, 3) := by decide +kernel
theorem dX6_readCondition_83 : decode cX6_readCondition 83 = .ok (.aload_n 0, 1) := by decide +kernel
theorem dX6_readCondition_84 : decode cX6_readCondition 84 = .ok (.getfield 18, 3) := by decide +kernel
theorem dX6_readCondition_87 : decode cX6_readCondition 87 = .ok (.iload_n 3, 1) := by decide +kernel
theorem dX6_readCondition_88 : decode cX6_readCondition 88 = .ok (.ineg, 1) := by decide +kernel
theorem dX6_readCondition_89 : decode cX6_readCondition 89 = .ok (.invokevirtual 89, 3) := by decide +kernel
theorem dX6_readCondition_92 : decode cX6_readCondition 92 = .ok (.iinc 4 1, 3) := by decide +kernel
theorem dX6_readCondition_95 : decode cX6_readCondition 95 = .ok (.goto (-53), 3) := by decide +kernel
theorem dX6_readCondition_98 : decode cX6_readCondition 98 = .ok (.return_, 1) := by decide +kernel
theorem dX6_readTest_0 : decode cX6_readTest 0 = .ok (.aload_n 0, 1) := by decide +kernel
theorem dX6_readTest_1 : decode cX6_readTest 1 = .ok (.invokevirtual 48, 3) := by decide +kernel
theorem dX6_readTest_4 : decode cX6_readTest 4 = .ok (.istore_n 2, 1) := by decide +kernel
theorem dX6_readTest_5 : decode cX6_readTest 5 = .ok (.iload_n 2, 1) := by decide +kernel
theorem dX6_readTest_6 : decode cX6_readTest 6 = .ok (.bipush 33, 2) := by decide +kernel
theorem dX6_readTest_8 : decode cX6_readTest 8 = .ok (.if_icmp .eq 9, 3) := by decide +kernel
theorem dX6_readTest_11 : decode cX6_readTest 11 = .ok (.iload_n 2, 1) := by decide +kernel
theorem dX6_readTest_12 : decode cX6_readTest 12 = .ok (.bipush 40, 2) := by decide +kernel
theorem dX6_readTest_14 : decode cX6_readTest 14 = .ok (.if_icmp .ne 7, 3) := by decide +kernel
theorem dX6_readTest_17 : decode cX6_readTest 17 = .ok (.iconst 1, 1) := by decide +kernel
theorem dX6_readTest_18 : decode cX6_readTest 18 = .ok (.goto 4, 3) := by decide +kernel
theorem dX6_readTest_21 : decode cX6_readTest 21 = .ok (.iconst 0, 1) := by decide +kernel
theorem dX6_readTest_22 : decode cX6_readTest 22 = .ok (.istore_n 3, 1) := by decide +kernel
theorem dX6_readTest_23 : decode cX6_readTest 23 = .ok (.iload_n 3, 1) := by decide +kernel
theorem dX6_readTest_24 : decode cX6_readTest 24 = .ok (.ifCond .eq 17, 3) := by decide +kernel
theorem dX6_readTest_27 : decode cX6_readTest 27 = .ok (.iload_n 1, 1) := by decide +kernel
theorem dX6_readTest_28 : decode cX6_readTest 28 = .ok (.bipush 6, 2) := by decide +kernel
theorem dX6_readTest_30 : decode cX6_readTest 30 = .ok (.if_icmp .lt 11, 3) := by decide +kernel
theorem dX6_readTest_33 : decode cX6_readTest 33 = .ok (.aload_n 0, 1) := by decide +kernel
theorem dX6_readTest_34 : decode cX6_readTest 34 = .ok (.iconst 5, 1) := by decide +kernel
theorem dX6_readTest_35 : decode cX6_readTest 35 = .ok (.invokevirtual 58, 3) := by decide +kernel
theorem dX6_readTest_38 : decode cX6_readTest 38 = .ok (.goto 133, 3) := by decide +kernel
theorem dX6_readTest_41 : decode cX6_readTest 41 = .ok (.iload_n 2, 1) := by decide +kernel
theorem dX6_readTest_42 : decode cX6_readTest 42 = .ok (.bipush 33, 2) := by decide +kernel
theorem dX6_readTest_44 : decode cX6_readTest 44 = .ok (.if_icmp .ne 33, 3) := by decide +kernel
theorem dX6_readTest_47 : decode cX6_readTest 47 = .ok (.aload_n 0, 1) := by decide +kernel
theorem dX6_readTest_48 : decode cX6_readTest 48 = .ok (.dup, 1) := by decide +kernel
theorem dX6_readTest_49 : decode cX6_readTest 49 = .ok (.getfield 32, 3) := by decide +kernel
theorem dX6_readTest_52 : decode cX6_readTest 52 = .ok (.iconst 1, 1) := by decide +kernel
theorem dX6_readTest_53 : decode cX6_readTest 53 = .ok (.iadd, 1) := by decide +kernel
theorem dX6_readTest_54 : decode cX6_readTest 54 = .ok (.putfield 32, 3) := by decide +kernel
theorem dX6_readTest_57 : decode cX6_readTest 57 = .ok (.aload_n 0, 1) := by decide +kernel
theorem dX6_readTest_58 : decode cX6_readTest 58 = .ok (.iconst 2, 1) := by decide +kernel
theorem dX6_readTest_59 : decode cX6_readTest 59 = .ok (.iload_n 1, 1) := by decide +kernel
theorem dX6_readTest_60 : decode cX6_readTest 60 = .ok (.iconst 1, 1) := by decide +kernel
theorem dX6_readTest_61 : decode cX6_readTest 61 = .ok (.iadd, 1) := by decide +kernel
theorem dX6_readTest_62 : decode cX6_readTest 62 = .ok (.invokevirtual 80, 3) := by decide +kernel
theorem dX6_readTest_65 : decode cX6_readTest 65 = .ok (.aload_n 0, 1) := by decide +kernel
theorem dX6_readTest_66 : decode cX6_readTest 66 = .ok (.getfield 18, 3) := by decide +kernel
theorem dX6_readTest_69 : decode cX6_readTest 69 = .ok (.iload_n 2, 1) := by decide +kernel
theorem dX6_readTest_70 : decode cX6_readTest 70 = .ok (.ineg, 1) := by decide +kernel
theorem dX6_readTest_71 : decode cX6_readTest 71 = .ok (.invokevirtual 89, 3) := by decide +kernel
theorem dX6_readTest_74 : decode cX6_readTest 74 = .ok (.goto 97, 3) := by decide +kernel
theorem dX6_readTest_77 : decode cX6_readTest 77 = .ok (.iload_n 2, 1) := by decide +kernel
theorem dX6_readTest_78 : decode cX6_readTest 78 = .ok (.bipush 40, 2) := by decide +kernel
theorem dX6_readTest_80 : decode cX6_readTest 80 = .ok (.if_icmp .ne 30, 3) := by decide +kernel
theorem dX6_readTest_83 : decode cX6_readTest 83 = .ok (.aload_n 0, 1) := by decide +kernel
theorem dX6_readTest_84 : decode cX6_readTest 84 = .ok (.dup, 1) := by decide +kernel
theorem dX6_readTest_85 : decode cX6_readTest 85 = .ok (.getfield 32, 3) := by decide +kernel
theorem dX6_readTest_88 : decode cX6_readTest 88 = .ok (.iconst 1, 1) := by decide +kernel
theorem dX6_readTest_89 : decode cX6_readTest 89 = .ok (.iadd, 1) := by decide +kernel
theorem dX6_readTest_90 : decode cX6_readTest 90 = .ok (.putfield 32, 3) := by decide +kernel
theorem dX6_readTest_93 : decode cX6_readTest 93 = .ok (.aload_n 0, 1) := by decide +kernel
theorem dX6_readTest_94 : decode cX6_readTest 94 = .ok (.iconst 0, 1) := by decide +kernel
theorem dX6_readTest_95 : decode cX6_readTest 95 = .ok (.iload_n 1, 1) := by decide +kernel
theorem dX6_readTest_96 : decode cX6_readTest 96 = .ok (.iconst 1, 1) := by decide +kernel
theorem dX6_readTest_97 : decode cX6_readTest 97 = .ok (.iadd, 1) := by decide +kernel
theorem dX6_readTest_98 : decode cX6_readTest 98 = .ok (.invokevirtual 80, 3) := by decide +kernel
theorem dX6_readTest_101 : decode cX6_readTest 101 = .ok (.aload_n 0, 1) := by decide +kernel
theorem dX6_readTest_102 : decode cX6_readTest 102 = .ok (.bipush 41, 2) := by decide +kernel
theorem dX6_readTest_104 : decode cX6_readTest 104 = .ok (.invokevirtual 45, 3) := by decide +kernel
theorem dX6_readTest_107 : decode cX6_readTest 107 = .ok (.goto 64, 3) := by decide +kernel
theorem dX6_readTest_110 : decode cX6_readTest 110 = .ok (.aload_n 0, 1) := by decide +kernel
theorem dX6_readTest_111 : decode cX6_readTest 111 = .ok (.iconst 0, 1) := by decide +kernel
theorem dX6_readTest_112 : decode cX6_readTest 112 = .ok (.iload_n 1, 1) := by decide +kernel
theorem dX6_readTest_113 : decode cX6_readTest 113 = .ok (.invokevirtual 73, 3) := by decide +kernel
theorem dX6_readTest_116 : decode cX6_readTest 116 = .ok (.aload_n 0, 1) := by decide +kernel
theorem dX6_readTest_117 : decode cX6_readTest 117 = .ok (.invokevirtual 48, 3) := by decide +kernel
theorem dX6_readTest_120 : decode cX6_readTest 120 = .ok (.istore 4, 2) := by decide +kernel
theorem dX6_readTest_122 : decode cX6_readTest 122 = .ok (.aload_n 0, 1) := by decide +kernel
theorem dX6_readTest_123 : decode cX6_readTest 123 = .ok (.getfield 35, 3) := by decide +kernel
theorem dX6_readTest_126 : decode cX6_readTest 126 = .ok (.ifCond .ne 13, 3) := by decide +kernel
theorem dX6_readTest_129 : decode cX6_readTest 129 = .ok (.ldc 92, 2) := by decide +kernel
theorem dX6_readTest_131 : decode cX6_readTest 131 = .ok (.iload 4, 2) := by decide +kernel
theorem dX6_readTest_133 : decode cX6_readTest 133 = .ok (.invokestatic 54, 3) := by decide +kernel
theorem dX6_readTest_136 : decode cX6_readTest 136 = .ok (.ifCond .ne 9, 3) := by decide +kernel
theorem dX6_readTest_139 : decode cX6_readTest 139 = .ok (.aload_n 0, 1) := by decide +kernel
theorem dX6_readTest_140 : decode cX6_readTest 140 = .ok (.iconst 1, 1) := by decide +kernel
theorem dX6_readTest_141 : decode cX6_readTest 141 = .ok (.invokevirtual 58, 3) := by decide +kernel
theorem dX6_readTest_144 : decode cX6_readTest 144 = .ok (.return_, 1) := by decide +kernel
theorem dX6_readTest_145 : decode cX6_readTest 145 = .ok (.aload_n 0, 1) := by decide +kernel
theorem dX6_readTest_146 : decode cX6_readTest 146 = .ok (.dup, 1) := by decide +kernel
theorem dX6_readTest_147 : decode cX6_readTest 147 = .ok (.getfield 32, 3) := by decide +kernel
theorem dX6_readTest_150 : decode cX6_readTest 150 = .ok (.iconst 1, 1) := by decide +kernel
theorem dX6_readTest_151 : decode cX6_readTest 151 = .ok (.iadd, 1) := by decide +kernel
theorem dX6_readTest_152 : decode cX6_readTest 152 = .ok (.putfield 32, 3) := by decide +kernel
theorem dX6_readTest_155 : decode cX6_readTest 155 = .ok (.aload_n 0, 1) := by decide +kernel
theorem dX6_readTest_156 : decode cX6_readTest 156 = .ok (.iconst 0, 1) := by decide +kernel
theorem dX6_readTest_157 : decode cX6_readTest 157 = .ok (.iload_n 1, 1) := by decide +kernel
theorem dX6_readTest_158 : decode cX6_readTest 158 = .ok (.invokevirtual 73, 3) := by decide +kernel
theorem dX6_readTest_161 : decode cX6_readTest 161 = .ok (.aload_n 0, 1) := by decide +kernel
theorem dX6_readTest_162 : decode cX6_readTest 162 = .ok (.getfield 18, 3) := by decide +kernel
theorem dX6_readTest_165 : decode cX6_readTest 165 = .ok (.iload 4, 2) := by decide +kernel
theorem dX6_readTest_167 : decode cX6_readTest 167 = .ok (.ineg, 1) := by decide +kernel
theorem dX6_readTest_168 : decode cX6_readTest 168 = .ok (.invokevirtual 89, 3) := by decide +kernel
theorem dX6_readTest_171 : decode cX6_readTest 171 = .ok (.return_, 1) := by decide +kernel
theorem dX6_readSum_0 : decode cX6_readSum 0 = .ok (.aload_n 0, 1) := by decide +kernel
theorem dX6_readSum_1 : decode cX6_readSum 1 = .ok (.getfield 35, 3) := by decide +kernel
theorem dX6_readSum_4 : decode cX6_readSum 4 = .ok (.ifCond .eq 4, 3) := by decide +kernel
theorem dX6_readSum_7 : decode cX6_readSum 7 = .ok (.return_, 1) := by decide +kernel
theorem dX6_readSum_8 : decode cX6_readSum 8 = .ok (.iload_n 1, 1) := by decide +kernel
theorem dX6_readSum_9 : decode cX6_readSum 9 = .ok (.iconst 2, 1) := by decide +kernel
theorem dX6_readSum_10 : decode cX6_readSum 10 = .ok (.if_icmp .lt 9, 3) := by decide +kernel
theorem dX6_readSum_13 : decode cX6_readSum 13 = .ok (.aload_n 0, 1) := by decide +kernel
theorem dX6_readSum_14 : decode cX6_readSum 14 = .ok (.iload_n 2, 1) := by decide +kernel
theorem dX6_readSum_15 : decode cX6_readSum 15 = .ok (.invokevirtual 94, 3) := by decide +kernel
theorem dX6_readSum_18 : decode cX6_readSum 18 = .ok (.return_, 1) := by decide +kernel
theorem dX6_readSum_19 : decode cX6_readSum 19 = .ok (.iload_n 1, 1) := by decide +kernel
theorem dX6_readSum_20 : decode cX6_readSum 20 = .ok (.ifCond .ne 8, 3) := by decide +kernel
theorem dX6_readSum_23 : decode cX6_readSum 23 = .ok (.ldc 97, 2) := by decide +kernel
theorem dX6_readSum_25 : decode cX6_readSum 25 = .ok (.goto 5, 3) := by decide +kernel
theorem dX6_readSum_28 : decode cX6_readSum 28 = .ok (.ldc 99, 2) := by decide +kernel
theorem dX6_readSum_30 : decode cX6_readSum 30 = .ok (.astore_n 3, 1) := by decide +kernel
theorem dX6_readSum_31 : decode cX6_readSum 31 = .ok (.aload_n 0, 1) := by decide +kernel
theorem dX6_readSum_32 : decode cX6_readSum 32 = .ok (.iload_n 1, 1) := by decide +kernel
theorem dX6_readSum_33 : decode cX6_readSum 33 = .ok (.iconst 1, 1) := by decide +kernel
theorem dX6_readSum_34 : decode cX6_readSum 34 = .ok (.iadd, 1) := by decide +kernel
theorem dX6_readSum_35 : decode cX6_readSum 35 = .ok (.iload_n 2, 1) := by decide +kernel
theorem dX6_readSum_36 : decode cX6_readSum 36 = .ok (.invokevirtual 73, 3) := by decide +kernel
theorem dX6_readSum_39 : decode cX6_readSum 39 = .ok (.iconst 0, 1) := by decide +kernel
theorem dX6_readSum_40 : decode cX6_readSum 40 = .ok (.istore 4, 2) := by decide +kernel
theorem dX6_readSum_42 : decode cX6_readSum 42 = .ok (.iload 4, 2) := by decide +kernel
theorem dX6_readSum_44 : decode cX6_readSum 44 = .ok (.sipush 240, 3) := by decide +kernel
theorem dX6_readSum_47 : decode cX6_readSum 47 = .ok (.if_icmp .ge 61, 3) := by decide +kernel
theorem dX6_readSum_50 : decode cX6_readSum 50 = .ok (.aload_n 0, 1) := by decide +kernel
theorem dX6_readSum_51 : decode cX6_readSum 51 = .ok (.getfield 35, 3) := by decide +kernel
theorem dX6_readSum_54 : decode cX6_readSum 54 = .ok (.ifCond .ne 54, 3) := by decide +kernel
theorem dX6_readSum_57 : decode cX6_readSum 57 = .ok (.aload_n 3, 1) := by decide +kernel
theorem dX6_readSum_58 : decode cX6_readSum 58 = .ok (.aload_n 0, 1) := by decide +kernel
