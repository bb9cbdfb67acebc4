/-! layouts -/
theorem tw (i : Nat) {w : Cond} (h : lw_tbl[i]? = some w) (hg : goodWord w = true) : w ∈ tbG := tbG_in (List.mem_of_getElem? h) hg
theorem tbG_list (ws : List Cond) (ps : List Nat) (hp : ws = ps.filterMap (fun i => lw_tbl[i]?)) (hg : ws.all goodWord = true) : ∀ w ∈ ws, w ∈ tbG := by
  intro w hw
  have h1 := List.all_eq_true.mp hg w hw
  rw [hp] at hw
  obtain ⟨i, -, hi⟩ := List.mem_filterMap.mp hw
  exact tbG_in (List.mem_of_getElem? hi) h1
def layC : List (Nat × Nat) := [(19, 0), (18, 0), (0, 260), (13, 0), (2, 12), (0, 12), (0, 12), (0, 12), (0, 12), (0, 12), (0, 12), (0, 12), (0, 12), (0, 12), (0, 12), (0, 12), (0, 12), (2, 12), (0, 12), (0, 12), (0, 12), (0, 12), (0, 12), (0, 12), (0, 12), (0, 12), (0, 12), (0, 12), (0, 12), (0, 12), (0, 8), (0, 1024), (10, 0), (0, 12), (0, 6), (0, 6), (0, 6), (0, 6), (0, 6), (2, 6), (0, 12), (0, 12), (0, 12), (0, 12), (0, 12), (0, 12), (0, 3), (10, 0), (0, 12), (0, 6), (0, 6), (0, 6), (0, 6), (0, 6), (2, 6), (0, 12), (0, 12), (0, 12), (0, 12), (0, 12), (0, 12), (0, 3), (10, 0), (0, 12), (0, 6), (0, 6), (0, 6), (0, 6), (0, 6), (2, 6), (0, 12), (0, 12), (0, 12), (0, 12), (0, 12), (0, 12), (0, 3), (14, 0), (0, 16), (0, 16), (0, 16), (0, 16), (0, 240), (1, 32), (0, 26), (14, 0), (0, 16), (0, 16), (0, 16), (0, 16), (0, 240), (1, 32), (0, 26), (16, 0), (0, 0), (17, 0), (0, 20), (0, 20), (0, 20), (0, 20), (0, 0), (12, 0), (0, 12), (2, 5), (0, 6), (0, 6), (0, 6), (0, 6), (0, 6), (0, 64), (0, 1000), (11, 0), (2, 6), (0, 40), (0, 40), (0, 40), (0, 40), (0, 40), (0, 40), (0, 6), (0, 41), (0, 6), (15, 0), (0, 8), (0, 8), (0, 8), (0, 6)]
def fsoC : Fs := fun ci c ad f => match ci with
  | 0 => [.ref (ad (c + 1)), .int (f 1), .int (f 2), .ref (ad (c + 2)), .ref (ad (c + 3)), .ref (ad (c + 4)), .ref (ad (c + 5)), .ref (ad (c + 6)), .ref (ad (c + 7)), .ref (ad (c + 14)), .int (f 10), .int (f 11), .int (f 12), .int (f 13), .int (f 14), .int (f 15)]
  | 1 => [.ref (ad (c + 1)), .ref (ad (c + 8)), .ref (ad (c + 9)), .ref (ad (c + 10)), .int (f 4)]
  | 2 => [.ref (ad (c + 1)), .ref (ad (c + 2)), .ref (ad (c + 8)), .int (f 3), .int (f 4)]
  | 3 => [.int (f 0), .ref (ad (c + 1)), .ref (ad (c + 14)), .int (f 3), .ref (ad (c + 27)), .int (f 5), .ref (ad (c + 28))]
  | 4 => [.int (f 0), .ref (ad (c + 1)), .ref (ad (c + 2)), .ref (ad (c + 3)), .ref (ad (c + 4)), .ref (ad (c + 5)), .int (f 6), .ref (ad (c + 6)), .ref (ad (c + 7))]
  | 5 => [.ref (ad (c + 1)), .ref (ad (c + 2)), .ref (ad (c + 3)), .ref (ad (c + 4)), .int (f 4), .ref (ad 110)]
  | 6 => [.ref (ad (f 0).toNatClampNeg), .int (f 1), .int (f 2), .int (f 3), .ref (ad (f 4).toNatClampNeg)]
  | 7 => [.ref (ad (c + 1)), .ref (ad (c + 2)), .ref (ad (c + 3)), .ref (ad (c + 4)), .ref (ad (f 4).toNatClampNeg), .int (f 5), .int (f 6), .int (f 7)]
  | 8 => [.ref (ad (c + 1)), .int (f 1)]
  | 9 => [.ref (ad 1), .ref (ad 3), .ref (ad 32), .ref (ad 47), .ref (ad 62), .ref (ad 93), .ref (ad 95), .ref (ad 101), .ref (ad 111), .ref (ad 122), .ref (ad (f 10).toNatClampNeg), .int (f 11)]
  | _ => []
def layM : List (Nat × Nat) := [(20, 0), (0, 151), (0, 151), (0, 151), (0, 144), (3, 260), (0, 260), (0, 260), (0, 16), (0, 16), (0, 16), (0, 16), (0, 260), (0, 16), (0, 16), (0, 16), (0, 16), (0, 260), (0, 7), (0, 20), (0, 20), (0, 20), (0, 20), (0, 12), (0, 12), (0, 144), (0, 7), (0, 7), (0, 7), (0, 3), (0, 12), (0, 5), (0, 5), (3, 280), (0, 7), (0, 41), (0, 41), (0, 6), (0, 8), (0, 8), (0, 1000), (0, 1000)]
def fsoM : Fs := fun ci c ad f => match ci with
  | 10 => [.ref (ad (c + 1)), .ref (ad (c + 2)), .ref (ad (c + 3)), .ref (ad (c + 4)), .ref (ad (c + 5)), .int (f 5), .int (f 6), .int (f 7), .int (f 8), .int (f 9), .int (f 10), .int (f 11), .int (f 12), .int (f 13), .int (f 14), .ref (ad (c + 6)), .ref (ad (c + 7)), .ref (ad (c + 8)), .ref (ad (c + 9)), .ref (ad (c + 10)), .ref (ad (c + 11)), .ref (ad (c + 12)), .ref (ad (c + 13)), .ref (ad (c + 14)), .ref (ad (c + 15)), .ref (ad (c + 16)), .ref (ad (c + 17)), .ref (ad (c + 18)), .ref (ad (c + 19)), .ref (ad (c + 20)), .ref (ad (c + 21)), .ref (ad (c + 22)), .int (f 32), .ref (ad (c + 23)), .int (f 34), .int (f 35), .int (f 36), .ref (ad (c + 24)), .ref (ad (c + 25)), .ref (ad (c + 26)), .ref (ad (c + 27)), .ref (ad (c + 28)), .ref (ad (c + 29)), .ref (ad (c + 30)), .ref (ad (c + 31)), .ref (ad (c + 32)), .ref (ad (c + 33)), .ref (ad (c + 34)), .ref (ad (c + 35)), .ref (ad (c + 36)), .ref (ad (c + 37)), .ref (ad (c + 38)), .ref (ad (c + 39)), .ref (ad (c + 40)), .ref (ad (c + 41)), .int (f 55)]
  | _ => []
theorem lc_0 : layC[0]? = some (19, 0) := rfl
theorem lc_1 : layC[1]? = some (18, 0) := rfl
theorem lc_2 : layC[2]? = some (0, 260) := rfl
theorem lc_3 : layC[3]? = some (13, 0) := rfl
theorem lc_4 : layC[4]? = some (2, 12) := rfl
theorem lc_5 : layC[5]? = some (0, 12) := rfl
theorem lc_6 : layC[6]? = some (0, 12) := rfl
theorem lc_7 : layC[7]? = some (0, 12) := rfl
theorem lc_8 : layC[8]? = some (0, 12) := rfl
theorem lc_9 : layC[9]? = some (0, 12) := rfl
theorem lc_10 : layC[10]? = some (0, 12) := rfl
theorem lc_11 : layC[11]? = some (0, 12) := rfl
theorem lc_12 : layC[12]? = some (0, 12) := rfl
theorem lc_13 : layC[13]? = some (0, 12) := rfl
theorem lc_14 : layC[14]? = some (0, 12) := rfl
theorem lc_15 : layC[15]? = some (0, 12) := rfl
theorem lc_16 : layC[16]? = some (0, 12) := rfl
theorem lc_17 : layC[17]? = some (2, 12) := rfl
theorem lc_18 : layC[18]? = some (0, 12) := rfl
theorem lc_19 : layC[19]? = some (0, 12) := rfl
theorem lc_20 : layC[20]? = some (0, 12) := rfl
theorem lc_21 : layC[21]? = some (0, 12) := rfl
theorem lc_22 : layC[22]? = some (0, 12) := rfl
theorem lc_23 : layC[23]? = some (0, 12) := rfl
theorem lc_24 : layC[24]? = some (0, 12) := rfl
theorem lc_25 : layC[25]? = some (0, 12) := rfl
theorem lc_26 : layC[26]? = some (0, 12) := rfl
theorem lc_27 : layC[27]? = some (0, 12) := rfl
theorem lc_28 : layC[28]? = some (0, 12) := rfl
theorem lc_29 : layC[29]? = some (0, 12) := rfl
theorem lc_30 : layC[30]? = some (0, 8) := rfl
theorem lc_31 : layC[31]? = some (0, 1024) := rfl
theorem lc_32 : layC[32]? = some (10, 0) := rfl
theorem lc_33 : layC[33]? = some (0, 12) := rfl
theorem lc_34 : layC[34]? = some (0, 6) := rfl
theorem lc_35 : layC[35]? = some (0, 6) := rfl
theorem lc_36 : layC[36]? = some (0, 6) := rfl
theorem lc_37 : layC[37]? = some (0, 6) := rfl
theorem lc_38 : layC[38]? = some (0, 6) := rfl
theorem lc_39 : layC[39]? = some (2, 6) := rfl
theorem lc_40 : layC[40]? = some (0, 12) := rfl
theorem lc_41 : layC[41]? = some (0, 12) := rfl
theorem lc_42 : layC[42]? = some (0, 12) := rfl
theorem lc_43 : layC[43]? = some (0, 12) := rfl
theorem lc_44 : layC[44]? = some (0, 12) := rfl
theorem lc_45 : layC[45]? = some (0, 12) := rfl
theorem lc_46 : layC[46]? = some (0, 3) := rfl
theorem lc_47 : layC[47]? = some (10, 0) := rfl
theorem lc_48 : layC[48]? = some (0, 12) := rfl
theorem lc_49 : layC[49]? = some (0, 6) := rfl
theorem lc_50 : layC[50]? = some (0, 6) := rfl
theorem lc_51 : layC[51]? = some (0, 6) := rfl
theorem lc_52 : layC[52]? = some (0, 6) := rfl
theorem lc_53 : layC[53]? = some (0, 6) := rfl
theorem lc_54 : layC[54]? = some (2, 6) := rfl
theorem lc_55 : layC[55]? = some (0, 12) := rfl
theorem lc_56 : layC[56]? = some (0, 12) := rfl
theorem lc_57 : layC[57]? = some (0, 12) := rfl
theorem lc_58 : layC[58]? = some (0, 12) := rfl
theorem lc_59 : layC[59]? = some (0, 12) := rfl
theorem lc_60 : layC[60]? = some (0, 12) := rfl
theorem lc_61 : layC[61]? = some (0, 3) := rfl
theorem lc_62 : layC[62]? = some (10, 0) := rfl
theorem lc_63 : layC[63]? = some (0, 12) := rfl
theorem lc_64 : layC[64]? = some (0, 6) := rfl
theorem lc_65 : layC[65]? = some (0, 6) := rfl
theorem lc_66 : layC[66]? = some (0, 6) := rfl
theorem lc_67 : layC[67]? = some (0, 6) := rfl
theorem lc_68 : layC[68]? = some (0, 6) := rfl
theorem lc_69 : layC[69]? = some (2, 6) := rfl
theorem lc_70 : layC[70]? = some (0, 12) := rfl
theorem lc_71 : layC[71]? = some (0, 12) := rfl
theorem lc_72 : layC[72]? = some (0, 12) := rfl
theorem lc_73 : layC[73]? = some (0, 12) := rfl
theorem lc_74 : layC[74]? = some (0, 12) := rfl
theorem lc_75 : layC[75]? = some (0, 12) := rfl
theorem lc_76 : layC[76]? = some (0, 3) := rfl
theorem lc_77 : layC[77]? = some (14, 0) := rfl
theorem lc_78 : layC[78]? = some (0, 16) := rfl
theorem lc_79 : layC[79]? = some (0, 16) := rfl
theorem lc_80 : layC[80]? = some (0, 16) := rfl
theorem lc_81 : layC[81]? = some (0, 16) := rfl
theorem lc_82 : layC[82]? = some (0, 240) := rfl
theorem lc_83 : layC[83]? = some (1, 32) := rfl
theorem lc_84 : layC[84]? = some (0, 26) := rfl
theorem lc_85 : layC[85]? = some (14, 0) := rfl
theorem lc_86 : layC[86]? = some (0, 16) := rfl
theorem lc_87 : layC[87]? = some (0, 16) := rfl
theorem lc_88 : layC[88]? = some (0, 16) := rfl
theorem lc_89 : layC[89]? = some (0, 16) := rfl
theorem lc_90 : layC[90]? = some (0, 240) := rfl
theorem lc_91 : layC[91]? = some (1, 32) := rfl
theorem lc_92 : layC[92]? = some (0, 26) := rfl
theorem lc_93 : layC[93]? = some (16, 0) := rfl
theorem lc_94 : layC[94]? = some (0, 0) := rfl
theorem lc_95 : layC[95]? = some (17, 0) := rfl
theorem lc_96 : layC[96]? = some (0, 20) := rfl
theorem lc_97 : layC[97]? = some (0, 20) := rfl
theorem lc_98 : layC[98]? = some (0, 20) := rfl
theorem lc_99 : layC[99]? = some (0, 20) := rfl
theorem lc_100 : layC[100]? = some (0, 0) := rfl
theorem lc_101 : layC[101]? = some (12, 0) := rfl
theorem lc_102 : layC[102]? = some (0, 12) := rfl
theorem lc_103 : layC[103]? = some (2, 5) := rfl
theorem lc_104 : layC[104]? = some (0, 6) := rfl
theorem lc_105 : layC[105]? = some (0, 6) := rfl
theorem lc_106 : layC[106]? = some (0, 6) := rfl
theorem lc_107 : layC[107]? = some (0, 6) := rfl
theorem lc_108 : layC[108]? = some (0, 6) := rfl
theorem lc_109 : layC[109]? = some (0, 64) := rfl
theorem lc_110 : layC[110]? = some (0, 1000) := rfl
theorem lc_111 : layC[111]? = some (11, 0) := rfl
theorem lc_112 : layC[112]? = some (2, 6) := rfl
theorem lc_113 : layC[113]? = some (0, 40) := rfl
theorem lc_114 : layC[114]? = some (0, 40) := rfl
theorem lc_115 : layC[115]? = some (0, 40) := rfl
theorem lc_116 : layC[116]? = some (0, 40) := rfl
theorem lc_117 : layC[117]? = some (0, 40) := rfl
theorem lc_118 : layC[118]? = some (0, 40) := rfl
theorem lc_119 : layC[119]? = some (0, 6) := rfl
theorem lc_120 : layC[120]? = some (0, 41) := rfl
theorem lc_121 : layC[121]? = some (0, 6) := rfl
theorem lc_122 : layC[122]? = some (15, 0) := rfl
theorem lc_123 : layC[123]? = some (0, 8) := rfl
theorem lc_124 : layC[124]? = some (0, 8) := rfl
theorem lc_125 : layC[125]? = some (0, 8) := rfl
theorem lc_126 : layC[126]? = some (0, 6) := rfl
theorem lm_0 : layM[0]? = some (20, 0) := rfl
theorem lm_1 : layM[1]? = some (0, 151) := rfl
theorem lm_2 : layM[2]? = some (0, 151) := rfl
theorem lm_3 : layM[3]? = some (0, 151) := rfl
theorem lm_4 : layM[4]? = some (0, 144) := rfl
theorem lm_5 : layM[5]? = some (3, 260) := rfl
theorem lm_6 : layM[6]? = some (0, 260) := rfl
theorem lm_7 : layM[7]? = some (0, 260) := rfl
theorem lm_8 : layM[8]? = some (0, 16) := rfl
theorem lm_9 : layM[9]? = some (0, 16) := rfl
theorem lm_10 : layM[10]? = some (0, 16) := rfl
theorem lm_11 : layM[11]? = some (0, 16) := rfl
theorem lm_12 : layM[12]? = some (0, 260) := rfl
theorem lm_13 : layM[13]? = some (0, 16) := rfl
theorem lm_14 : layM[14]? = some (0, 16) := rfl
theorem lm_15 : layM[15]? = some (0, 16) := rfl
theorem lm_16 : layM[16]? = some (0, 16) := rfl
theorem lm_17 : layM[17]? = some (0, 260) := rfl
theorem lm_18 : layM[18]? = some (0, 7) := rfl
theorem lm_19 : layM[19]? = some (0, 20) := rfl
theorem lm_20 : layM[20]? = some (0, 20) := rfl
theorem lm_21 : layM[21]? = some (0, 20) := rfl
theorem lm_22 : layM[22]? = some (0, 20) := rfl
theorem lm_23 : layM[23]? = some (0, 12) := rfl
theorem lm_24 : layM[24]? = some (0, 12) := rfl
theorem lm_25 : layM[25]? = some (0, 144) := rfl
theorem lm_26 : layM[26]? = some (0, 7) := rfl
theorem lm_27 : layM[27]? = some (0, 7) := rfl
theorem lm_28 : layM[28]? = some (0, 7) := rfl
theorem lm_29 : layM[29]? = some (0, 3) := rfl
theorem lm_30 : layM[30]? = some (0, 12) := rfl
theorem lm_31 : layM[31]? = some (0, 5) := rfl
theorem lm_32 : layM[32]? = some (0, 5) := rfl
theorem lm_33 : layM[33]? = some (3, 280) := rfl
theorem lm_34 : layM[34]? = some (0, 7) := rfl
theorem lm_35 : layM[35]? = some (0, 41) := rfl
theorem lm_36 : layM[36]? = some (0, 41) := rfl
theorem lm_37 : layM[37]? = some (0, 6) := rfl
theorem lm_38 : layM[38]? = some (0, 8) := rfl
theorem lm_39 : layM[39]? = some (0, 8) := rfl
theorem lm_40 : layM[40]? = some (0, 1000) := rfl
theorem lm_41 : layM[41]? = some (0, 1000) := rfl
def isBk (b : Nat) : Bool := b == 32 || b == 47 || b == 62
theorem isBk_or {b : Nat} (h : isBk b = true) : b = 32 ∨ b = 47 ∨ b = 62 := by
  simp only [isBk, Bool.or_eq_true, beq_iff_eq] at h
  omega
theorem isBk_0 {b : Nat} (h : isBk b = true) : layC[b + 0]? = some (10, 0) := by
  rcases isBk_or h with rfl | rfl | rfl <;> rfl
theorem isBk_1 {b : Nat} (h : isBk b = true) : layC[b + 1]? = some (0, 12) := by
  rcases isBk_or h with rfl | rfl | rfl <;> rfl
theorem isBk_2 {b : Nat} (h : isBk b = true) : layC[b + 2]? = some (0, 6) := by
  rcases isBk_or h with rfl | rfl | rfl <;> rfl
theorem isBk_3 {b : Nat} (h : isBk b = true) : layC[b + 3]? = some (0, 6) := by
  rcases isBk_or h with rfl | rfl | rfl <;> rfl
theorem isBk_4 {b : Nat} (h : isBk b = true) : layC[b + 4]? = some (0, 6) := by
  rcases isBk_or h with rfl | rfl | rfl <;> rfl
theorem isBk_5 {b : Nat} (h : isBk b = true) : layC[b + 5]? = some (0, 6) := by
  rcases isBk_or h with rfl | rfl | rfl <;> rfl
theorem isBk_6 {b : Nat} (h : isBk b = true) : layC[b + 6]? = some (0, 6) := by
  rcases isBk_or h with rfl | rfl | rfl <;> rfl
theorem isBk_7 {b : Nat} (h : isBk b = true) : layC[b + 7]? = some (2, 6) := by
  rcases isBk_or h with rfl | rfl | rfl <;> rfl
theorem isBk_8 {b : Nat} (h : isBk b = true) : layC[b + 8]? = some (0, 12) := by
  rcases isBk_or h with rfl | rfl | rfl <;> rfl
theorem isBk_9 {b : Nat} (h : isBk b = true) : layC[b + 9]? = some (0, 12) := by
  rcases isBk_or h with rfl | rfl | rfl <;> rfl
theorem isBk_10 {b : Nat} (h : isBk b = true) : layC[b + 10]? = some (0, 12) := by
  rcases isBk_or h with rfl | rfl | rfl <;> rfl
theorem isBk_11 {b : Nat} (h : isBk b = true) : layC[b + 11]? = some (0, 12) := by
  rcases isBk_or h with rfl | rfl | rfl <;> rfl
theorem isBk_12 {b : Nat} (h : isBk b = true) : layC[b + 12]? = some (0, 12) := by
  rcases isBk_or h with rfl | rfl | rfl <;> rfl
theorem isBk_13 {b : Nat} (h : isBk b = true) : layC[b + 13]? = some (0, 12) := by
  rcases isBk_or h with rfl | rfl | rfl <;> rfl
theorem isBk_14 {b : Nat} (h : isBk b = true) : layC[b + 14]? = some (0, 3) := by
  rcases isBk_or h with rfl | rfl | rfl <;> rfl
def isLw (b : Nat) : Bool := b == 77 || b == 85
theorem isLw_or {b : Nat} (h : isLw b = true) : b = 77 ∨ b = 85 := by
  simp only [isLw, Bool.or_eq_true, beq_iff_eq] at h
  omega
theorem isLw_0 {b : Nat} (h : isLw b = true) : layC[b + 0]? = some (14, 0) := by
  rcases isLw_or h with rfl | rfl <;> rfl
theorem isLw_1 {b : Nat} (h : isLw b = true) : layC[b + 1]? = some (0, 16) := by
  rcases isLw_or h with rfl | rfl <;> rfl
theorem isLw_2 {b : Nat} (h : isLw b = true) : layC[b + 2]? = some (0, 16) := by
  rcases isLw_or h with rfl | rfl <;> rfl
theorem isLw_3 {b : Nat} (h : isLw b = true) : layC[b + 3]? = some (0, 16) := by
  rcases isLw_or h with rfl | rfl <;> rfl
theorem isLw_4 {b : Nat} (h : isLw b = true) : layC[b + 4]? = some (0, 16) := by
  rcases isLw_or h with rfl | rfl <;> rfl
theorem isLw_5 {b : Nat} (h : isLw b = true) : layC[b + 5]? = some (0, 240) := by
  rcases isLw_or h with rfl | rfl <;> rfl
theorem isLw_6 {b : Nat} (h : isLw b = true) : layC[b + 6]? = some (1, 32) := by
  rcases isLw_or h with rfl | rfl <;> rfl
theorem isLw_7 {b : Nat} (h : isLw b = true) : layC[b + 7]? = some (0, 26) := by
  rcases isLw_or h with rfl | rfl <;> rfl
theorem isBk_r {b i : Nat} (h : isBk b = true) (hi : i < 6) : layC[b + 7 + 1 + i]? = some (0, 12) := by
  rcases isBk_or h with rfl | rfl | rfl <;> rcases (show i = 0 ∨ i = 1 ∨ i = 2 ∨ i = 3 ∨ i = 4 ∨ i = 5 by omega) with rfl | rfl | rfl | rfl | rfl | rfl <;> rfl
def lenC (c : Nat) : Nat := (layC.getD c (0, 0)).2
def isAr (c : Nat) : Bool := match layC[c]? with
  | some (0, _) => true
  | _ => false
theorem isAr_0 {c : Nat} (h : isAr c = true) : layC[c]? = some (0, lenC c) := by
  unfold isAr at h
  unfold lenC
  rw [List.getD_eq_getElem?_getD]
  split at h
  · next q => rw [q]; rfl
  · cases h
theorem isAr_lt {c : Nat} (h : isAr c = true) : c < 127 := (List.getElem?_eq_some_iff.mp (isAr_0 h)).1
theorem lr_4 {i : Nat} (hi : i < 12) : layC[4 + 1 + i]? = some (0, 12) := by
  rcases (show i = 0 ∨ i = 1 ∨ i = 2 ∨ i = 3 ∨ i = 4 ∨ i = 5 ∨ i = 6 ∨ i = 7 ∨ i = 8 ∨ i = 9 ∨ i = 10 ∨ i = 11 by omega) with rfl | rfl | rfl | rfl | rfl | rfl | rfl | rfl | rfl | rfl | rfl | rfl <;> rfl
theorem lr_17 {i : Nat} (hi : i < 12) : layC[17 + 1 + i]? = some (0, 12) := by
  rcases (show i = 0 ∨ i = 1 ∨ i = 2 ∨ i = 3 ∨ i = 4 ∨ i = 5 ∨ i = 6 ∨ i = 7 ∨ i = 8 ∨ i = 9 ∨ i = 10 ∨ i = 11 by omega) with rfl | rfl | rfl | rfl | rfl | rfl | rfl | rfl | rfl | rfl | rfl | rfl <;> rfl
theorem lr_103 {i : Nat} (hi : i < 5) : layC[103 + 1 + i]? = some (0, 6) := by
  rcases (show i = 0 ∨ i = 1 ∨ i = 2 ∨ i = 3 ∨ i = 4 by omega) with rfl | rfl | rfl | rfl | rfl <;> rfl
theorem lr_112 {i : Nat} (hi : i < 6) : layC[112 + 1 + i]? = some (0, 40) := by
  rcases (show i = 0 ∨ i = 1 ∨ i = 2 ∨ i = 3 ∨ i = 4 ∨ i = 5 by omega) with rfl | rfl | rfl | rfl | rfl | rfl <;> rfl
