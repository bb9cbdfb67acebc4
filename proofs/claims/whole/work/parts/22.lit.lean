/-! literals -/
theorem ck_0_3 {α : Type} (e : Option α) : chk 0 3 e = e := by unfold chk; rw [if_neg (by decide), if_neg (by decide)]
theorem ck_0_5 {α : Type} (e : Option α) : chk 0 5 e = e := by unfold chk; rw [if_neg (by decide), if_neg (by decide)]
theorem ck_0_7 {α : Type} (e : Option α) : chk 0 7 e = e := by unfold chk; rw [if_neg (by decide), if_neg (by decide)]
theorem ck_0_41 {α : Type} (e : Option α) : chk 0 41 e = e := by unfold chk; rw [if_neg (by decide), if_neg (by decide)]
theorem ck_0_64 {α : Type} (e : Option α) : chk 0 64 e = e := by unfold chk; rw [if_neg (by decide), if_neg (by decide)]
theorem ck_0_260 {α : Type} (e : Option α) : chk 0 260 e = e := by unfold chk; rw [if_neg (by decide), if_neg (by decide)]
theorem ck_0_1000 {α : Type} (e : Option α) : chk 0 1000 e = e := by unfold chk; rw [if_neg (by decide), if_neg (by decide)]
theorem ck_1_3 {α : Type} (e : Option α) : chk 1 3 e = e := by unfold chk; rw [if_neg (by decide), if_neg (by decide)]
theorem ck_1_7 {α : Type} (e : Option α) : chk 1 7 e = e := by unfold chk; rw [if_neg (by decide), if_neg (by decide)]
theorem ck_2_3 {α : Type} (e : Option α) : chk 2 3 e = e := by unfold chk; rw [if_neg (by decide), if_neg (by decide)]
theorem ck_2_7 {α : Type} (e : Option α) : chk 2 7 e = e := by unfold chk; rw [if_neg (by decide), if_neg (by decide)]
theorem ck_3_7 {α : Type} (e : Option α) : chk 3 7 e = e := by unfold chk; rw [if_neg (by decide), if_neg (by decide)]
theorem ck_3_26 {α : Type} (e : Option α) : chk 3 26 e = e := by unfold chk; rw [if_neg (by decide), if_neg (by decide)]
theorem ck_4_7 {α : Type} (e : Option α) : chk 4 7 e = e := by unfold chk; rw [if_neg (by decide), if_neg (by decide)]
theorem ck_5_7 {α : Type} (e : Option α) : chk 5 7 e = e := by unfold chk; rw [if_neg (by decide), if_neg (by decide)]
theorem ck_6_7 {α : Type} (e : Option α) : chk 6 7 e = e := by unfold chk; rw [if_neg (by decide), if_neg (by decide)]
theorem ck_10_26 {α : Type} (e : Option α) : chk 10 26 e = e := by unfold chk; rw [if_neg (by decide), if_neg (by decide)]
theorem ck_11_26 {α : Type} (e : Option α) : chk 11 26 e = e := by unfold chk; rw [if_neg (by decide), if_neg (by decide)]
theorem ck_12_26 {α : Type} (e : Option α) : chk 12 26 e = e := by unfold chk; rw [if_neg (by decide), if_neg (by decide)]
theorem ck_15_26 {α : Type} (e : Option α) : chk 15 26 e = e := by unfold chk; rw [if_neg (by decide), if_neg (by decide)]
theorem ck_17_26 {α : Type} (e : Option α) : chk 17 26 e = e := by unfold chk; rw [if_neg (by decide), if_neg (by decide)]
theorem ck_22_26 {α : Type} (e : Option α) : chk 22 26 e = e := by unfold chk; rw [if_neg (by decide), if_neg (by decide)]
theorem ck_144_151 {α : Type} (e : Option α) : chk 144 151 e = e := by unfold chk; rw [if_neg (by decide), if_neg (by decide)]
theorem ck_145_151 {α : Type} (e : Option α) : chk 145 151 e = e := by unfold chk; rw [if_neg (by decide), if_neg (by decide)]
theorem ck_146_151 {α : Type} (e : Option α) : chk 146 151 e = e := by unfold chk; rw [if_neg (by decide), if_neg (by decide)]
theorem ck_147_151 {α : Type} (e : Option α) : chk 147 151 e = e := by unfold chk; rw [if_neg (by decide), if_neg (by decide)]
theorem ck_148_151 {α : Type} (e : Option α) : chk 148 151 e = e := by unfold chk; rw [if_neg (by decide), if_neg (by decide)]
theorem ck_149_151 {α : Type} (e : Option α) : chk 149 151 e = e := by unfold chk; rw [if_neg (by decide), if_neg (by decide)]
theorem ck_150_151 {α : Type} (e : Option α) : chk 150 151 e = e := by unfold chk; rw [if_neg (by decide), if_neg (by decide)]
theorem ix_0 : ix (0 : Int32) = 0 := by decide
theorem ix_1 : ix (1 : Int32) = 1 := by decide
theorem ix_2 : ix (2 : Int32) = 2 := by decide
theorem ix_3 : ix (3 : Int32) = 3 := by decide
theorem ix_4 : ix (4 : Int32) = 4 := by decide
theorem ix_5 : ix (5 : Int32) = 5 := by decide
theorem ix_6 : ix (6 : Int32) = 6 := by decide
theorem ix_10 : ix (10 : Int32) = 10 := by decide
theorem ix_11 : ix (11 : Int32) = 11 := by decide
theorem ix_12 : ix (12 : Int32) = 12 := by decide
theorem ix_15 : ix (15 : Int32) = 15 := by decide
theorem ix_17 : ix (17 : Int32) = 17 := by decide
theorem ix_22 : ix (22 : Int32) = 22 := by decide
theorem ix_144 : ix (144 : Int32) = 144 := by decide
theorem ix_145 : ix (145 : Int32) = 145 := by decide
theorem ix_146 : ix (146 : Int32) = 146 := by decide
theorem ix_147 : ix (147 : Int32) = 147 := by decide
theorem ix_148 : ix (148 : Int32) = 148 := by decide
theorem ix_149 : ix (149 : Int32) = 149 := by decide
theorem ix_150 : ix (150 : Int32) = 150 := by decide
theorem li_0 : (0 : Int32) = nI 0 := rfl
theorem li_1 : (1 : Int32) = nI 1 := rfl
theorem li_2 : (2 : Int32) = nI 2 := rfl
theorem li_3 : (3 : Int32) = nI 3 := rfl
theorem li_4 : (4 : Int32) = nI 4 := rfl
theorem li_5 : (5 : Int32) = nI 5 := rfl
theorem li_6 : (6 : Int32) = nI 6 := rfl
theorem li_7 : (7 : Int32) = nI 7 := rfl
theorem li_8 : (8 : Int32) = nI 8 := rfl
theorem li_9 : (9 : Int32) = nI 9 := rfl
theorem li_10 : (10 : Int32) = nI 10 := rfl
theorem li_11 : (11 : Int32) = nI 11 := rfl
theorem li_12 : (12 : Int32) = nI 12 := rfl
theorem li_13 : (13 : Int32) = nI 13 := rfl
theorem li_14 : (14 : Int32) = nI 14 := rfl
theorem li_15 : (15 : Int32) = nI 15 := rfl
theorem li_16 : (16 : Int32) = nI 16 := rfl
theorem li_17 : (17 : Int32) = nI 17 := rfl
theorem li_18 : (18 : Int32) = nI 18 := rfl
theorem li_19 : (19 : Int32) = nI 19 := rfl
theorem li_20 : (20 : Int32) = nI 20 := rfl
theorem li_21 : (21 : Int32) = nI 21 := rfl
theorem li_22 : (22 : Int32) = nI 22 := rfl
theorem li_23 : (23 : Int32) = nI 23 := rfl
theorem li_24 : (24 : Int32) = nI 24 := rfl
theorem li_25 : (25 : Int32) = nI 25 := rfl
theorem li_26 : (26 : Int32) = nI 26 := rfl
theorem li_27 : (27 : Int32) = nI 27 := rfl
theorem li_28 : (28 : Int32) = nI 28 := rfl
theorem li_29 : (29 : Int32) = nI 29 := rfl
theorem li_30 : (30 : Int32) = nI 30 := rfl
theorem li_31 : (31 : Int32) = nI 31 := rfl
theorem li_32 : (32 : Int32) = nI 32 := rfl
theorem li_33 : (33 : Int32) = nI 33 := rfl
theorem li_34 : (34 : Int32) = nI 34 := rfl
theorem li_35 : (35 : Int32) = nI 35 := rfl
theorem li_36 : (36 : Int32) = nI 36 := rfl
theorem li_37 : (37 : Int32) = nI 37 := rfl
theorem li_38 : (38 : Int32) = nI 38 := rfl
theorem li_39 : (39 : Int32) = nI 39 := rfl
theorem li_40 : (40 : Int32) = nI 40 := rfl
theorem li_41 : (41 : Int32) = nI 41 := rfl
theorem li_42 : (42 : Int32) = nI 42 := rfl
theorem li_43 : (43 : Int32) = nI 43 := rfl
theorem li_45 : (45 : Int32) = nI 45 := rfl
theorem li_47 : (47 : Int32) = nI 47 := rfl
theorem li_48 : (48 : Int32) = nI 48 := rfl
theorem li_55 : (55 : Int32) = nI 55 := rfl
theorem li_57 : (57 : Int32) = nI 57 := rfl
theorem li_58 : (58 : Int32) = nI 58 := rfl
theorem li_59 : (59 : Int32) = nI 59 := rfl
theorem li_60 : (60 : Int32) = nI 60 := rfl
theorem li_61 : (61 : Int32) = nI 61 := rfl
theorem li_62 : (62 : Int32) = nI 62 := rfl
theorem li_63 : (63 : Int32) = nI 63 := rfl
theorem li_64 : (64 : Int32) = nI 64 := rfl
theorem li_65 : (65 : Int32) = nI 65 := rfl
theorem li_66 : (66 : Int32) = nI 66 := rfl
theorem li_80 : (80 : Int32) = nI 80 := rfl
theorem li_84 : (84 : Int32) = nI 84 := rfl
theorem li_90 : (90 : Int32) = nI 90 := rfl
theorem li_91 : (91 : Int32) = nI 91 := rfl
theorem li_93 : (93 : Int32) = nI 93 := rfl
theorem li_95 : (95 : Int32) = nI 95 := rfl
theorem li_96 : (96 : Int32) = nI 96 := rfl
theorem li_97 : (97 : Int32) = nI 97 := rfl
theorem li_98 : (98 : Int32) = nI 98 := rfl
theorem li_99 : (99 : Int32) = nI 99 := rfl
theorem li_100 : (100 : Int32) = nI 100 := rfl
theorem li_101 : (101 : Int32) = nI 101 := rfl
theorem li_102 : (102 : Int32) = nI 102 := rfl
theorem li_103 : (103 : Int32) = nI 103 := rfl
theorem li_104 : (104 : Int32) = nI 104 := rfl
theorem li_107 : (107 : Int32) = nI 107 := rfl
theorem li_108 : (108 : Int32) = nI 108 := rfl
theorem li_109 : (109 : Int32) = nI 109 := rfl
theorem li_110 : (110 : Int32) = nI 110 := rfl
theorem li_111 : (111 : Int32) = nI 111 := rfl
theorem li_112 : (112 : Int32) = nI 112 := rfl
theorem li_114 : (114 : Int32) = nI 114 := rfl
theorem li_116 : (116 : Int32) = nI 116 := rfl
theorem li_119 : (119 : Int32) = nI 119 := rfl
theorem li_120 : (120 : Int32) = nI 120 := rfl
theorem li_121 : (121 : Int32) = nI 121 := rfl
theorem li_122 : (122 : Int32) = nI 122 := rfl
theorem li_123 : (123 : Int32) = nI 123 := rfl
theorem li_124 : (124 : Int32) = nI 124 := rfl
theorem li_125 : (125 : Int32) = nI 125 := rfl
theorem li_126 : (126 : Int32) = nI 126 := rfl
theorem li_127 : (127 : Int32) = nI 127 := rfl
theorem li_132 : (132 : Int32) = nI 132 := rfl
theorem li_138 : (138 : Int32) = nI 138 := rfl
theorem li_144 : (144 : Int32) = nI 144 := rfl
theorem li_145 : (145 : Int32) = nI 145 := rfl
theorem li_146 : (146 : Int32) = nI 146 := rfl
theorem li_147 : (147 : Int32) = nI 147 := rfl
theorem li_148 : (148 : Int32) = nI 148 := rfl
theorem li_149 : (149 : Int32) = nI 149 := rfl
theorem li_150 : (150 : Int32) = nI 150 := rfl
theorem li_151 : (151 : Int32) = nI 151 := rfl
theorem li_240 : (240 : Int32) = nI 240 := rfl
theorem li_255 : (255 : Int32) = nI 255 := rfl
theorem li_256 : (256 : Int32) = nI 256 := rfl
theorem li_260 : (260 : Int32) = nI 260 := rfl
theorem li_280 : (280 : Int32) = nI 280 := rfl
theorem li_999 : (999 : Int32) = nI 999 := rfl
theorem li_1000 : (1000 : Int32) = nI 1000 := rfl
theorem li_1024 : (1024 : Int32) = nI 1024 := rfl
theorem li_4095 : (4095 : Int32) = nI 4095 := rfl
theorem li_8192 : (8192 : Int32) = nI 8192 := rfl
theorem li_9999 : (9999 : Int32) = nI 9999 := rfl
theorem li_13849 : (13849 : Int32) = nI 13849 := rfl
theorem li_25173 : (25173 : Int32) = nI 25173 := rfl
theorem li_65535 : (65535 : Int32) = nI 65535 := rfl
theorem li_65536 : (65536 : Int32) = nI 65536 := rfl
theorem li_99999 : (99999 : Int32) = nI 99999 := rfl
theorem li_999999 : (999999 : Int32) = nI 999999 := rfl
theorem li_1000000 : (1000000 : Int32) = nI 1000000 := rfl
theorem li_1048576 : (1048576 : Int32) = nI 1048576 := rfl
theorem li_100000000 : (100000000 : Int32) = nI 100000000 := rfl
theorem li_252645135 : (252645135 : Int32) = nI 252645135 := rfl
theorem li_858993459 : (858993459 : Int32) = nI 858993459 := rfl
theorem li_1000000000 : (1000000000 : Int32) = nI 1000000000 := rfl
theorem li_1431655765 : (1431655765 : Int32) = nI 1431655765 := rfl
