noncomputable def st_X0_copy_106 (N : Nat) (b : Nat) (x1 : Nat) (k137 : Mem → Option (Unit × Mem)) (rec : Int32 → Mem → Option (Unit × Mem)) (x2 : Int32) (s0 : Mem) : Option (Unit × Mem) :=
  if 6 ≤ x2 then (k137 s0) else chk x2 6 (chk x2 6 (chkC 0 0 12 12 12 (lt (cpy s0 ((x1 + 7) + 1 + ix x2) ((b + 7) + 1 + ix x2) 0 0 12) (fun s10 => lt (x2 + 1) (fun x2_11 => rec x2_11 s10)))))
noncomputable def f_X0_copy (N : Nat) (b : Nat) (x1 : Nat) (s : Mem) : Option (Unit × Mem) :=
  chkC 0 0 12 12 12 (lt (cpy s (x1 + 1) (b + 1) 0 0 12) (fun s1 => chkC 0 0 6 6 6 (lt (cpy s1 (x1 + 2) (b + 2) 0 0 6) (fun s2 => chkC 0 0 6 6 6 (lt (cpy s2 (x1 + 3) (b + 3) 0 0 6) (fun s3 => chkC 0 0 6 6 6 (lt (cpy s3 (x1 + 4) (b + 4) 0 0 6) (fun s4 => chkC 0 0 6 6 6 (lt (cpy s4 (x1 + 5) (b + 5) 0 0 6) (fun s5 => chkC 0 0 6 6 6 (lt (cpy s5 (x1 + 6) (b + 6) 0 0 6) (fun s6 => chkC 0 0 3 3 3 (lt (cpy s6 (x1 + 14) (b + 14) 0 0 3) (fun s7 => itr (fun _ _ => none) (st_X0_copy_106 N b x1 (fun  (s12 : Mem) => lt (si s12 b 1 (gi s12 x1 1)) (fun s13 => lt (si s13 b 2 (gi s13 x1 2)) (fun s14 => lt (si s14 b 10 (gi s14 x1 10)) (fun s15 => lt (si s15 b 11 (gi s15 x1 11)) (fun s16 => lt (si s16 b 12 (gi s16 x1 12)) (fun s17 => lt (si s17 b 13 (gi s17 x1 13)) (fun s18 => some ((), s18))))))))) N 0 s7))))))))))))))
set_option maxRecDepth 20000 in
theorem w_X0_copy_106 {G : Gx} (hG : Gok G ∧ IsG G layC fsoC) {P : Option (Unit × Mem) → Nat → List (Nat × Value) → List Value → Mem → Prop} (h : Jk G layC fsoC RX0 cX0_copy 3 none 1 tvV P) (N : Nat) (b : Nat) (hb : isBk b = true) (x1 : Nat) (hx1 : isBk x1 = true) {k137 : Mem → Option (Unit × Mem)} (hk137 : ∀  (s : Mem), P (k137 s) 137 [(0, .ref (Ga G b)), (1, .ref (Ga G x1))] [] s) {rec : Int32 → Mem → Option (Unit × Mem)} (ih : ∀ (x2 : Int32) (s : Mem), P (rec x2 s) 106 [(0, .ref (Ga G b)), (1, .ref (Ga G x1)), (2, .int x2)] [] s) : ∀ (x2 : Int32) (s : Mem), P (st_X0_copy_106 N b x1 k137 rec x2 s) 106 [(0, .ref (Ga G b)), (1, .ref (Ga G x1)), (2, .int x2)] [] s := by
  intro x2 s0
  unfold st_X0_copy_106
  refine jx_iload_n h dX0_copy_106 rfl 2 rfl ?_
  refine jx_bipush h dX0_copy_107 kb_6 ?_
  refine jx_icmp_ge (tgt := 137) h dX0_copy_109 rfl ?_ ?_
  · exact jx_subk [0, 1] h (hk137 s0) rfl
  · refine jx_aload_n h dX0_copy_112 rfl 1 rfl ?_
    refine jx_get (v := .ref (Ga G (x1 + 7))) h fa_X0_32 (isBk_o hx1) dX0_copy_113 rfl ?_
    refine jx_iload_n h dX0_copy_116 rfl 2 rfl ?_
    refine jx_aaload h (isBk_7 hx1) dX0_copy_117 (fun hr8 => ?_)
    refine jx_iconst h dX0_copy_118 ki_0 ?_
    refine jx_aload_n h dX0_copy_119 rfl 0 rfl ?_
    refine jx_get (v := .ref (Ga G (b + 7))) h fa_X0_32 (isBk_o hb) dX0_copy_120 rfl ?_
    refine jx_iload_n h dX0_copy_123 rfl 2 rfl ?_
    refine jx_aaload h (isBk_7 hb) dX0_copy_124 (fun hr9 => ?_)
    refine jx_iconst h dX0_copy_125 ki_0 ?_
    refine jx_bipush h dX0_copy_126 kb_12 ?_
    refine jx_copy h mc_X0_42.1 mc_X0_42.2.1 mc_X0_42.2.2.1 mc_X0_42.2.2.2 (isBk_r hx1 hr8) (isBk_r hb hr9) (Nat.le_of_ble_eq_true rfl) (by decide) dX0_copy_128 (fun s10 => ?_)
    refine jx_iincl (L := fun w => [(2, .int w), (0, .ref (Ga G b)), (1, .ref (Ga G x1))]) h dX0_copy_131 2 rfl (kn_1 _) (Nat.le_of_ble_eq_true rfl) (fun _ => rfl) (fun x2_11 => ?_)
    refine jx_goto (tgt := 106) h dX0_copy_134 rfl ?_
    exact jx_subk [1, 2, 0] h (ih x2_11 s10) rfl
set_option maxRecDepth 20000 in
theorem c_X0_copy {G : Gx} (hG : Gok G ∧ IsG G layC fsoC) (N : Nat) (b : Nat) (hb : isBk b = true) (x1 : Nat) (hx1 : isBk x1 = true) (s : Mem) : Ct G yX0_copy cX0_copy 3 none 1 [.ref (Ga G b), .ref (Ga G x1)] tvV s (f_X0_copy N b x1 s) := by
  refine Ct.of hG (by decide) (Nat.le_of_ble_eq_true rfl) (fun P h => ?_)
  show P _ 0 [(0, .ref (Ga G b)), (1, .ref (Ga G x1))] [] s
  unfold f_X0_copy
  refine jx_aload_n h dX0_copy_0 rfl 1 rfl ?_
  refine jx_get (v := .ref (Ga G (x1 + 1))) h fa_X0_9 (isBk_o hx1) dX0_copy_1 rfl ?_
  refine jx_iconst h dX0_copy_4 ki_0 ?_
  refine jx_aload_n h dX0_copy_5 rfl 0 rfl ?_
  refine jx_get (v := .ref (Ga G (b + 1))) h fa_X0_9 (isBk_o hb) dX0_copy_6 rfl ?_
  refine jx_iconst h dX0_copy_9 ki_0 ?_
  refine jx_bipush h dX0_copy_10 kb_12 ?_
  refine jx_copy h mc_X0_42.1 mc_X0_42.2.1 mc_X0_42.2.2.1 mc_X0_42.2.2.2 (isBk_1 hx1) (isBk_1 hb) (Nat.le_of_ble_eq_true rfl) (by decide) dX0_copy_12 (fun s1 => ?_)
  refine jx_aload_n h dX0_copy_15 rfl 1 rfl ?_
  refine jx_get (v := .ref (Ga G (x1 + 2))) h fa_X0_15 (isBk_o hx1) dX0_copy_16 rfl ?_
  refine jx_iconst h dX0_copy_19 ki_0 ?_
  refine jx_aload_n h dX0_copy_20 rfl 0 rfl ?_
  refine jx_get (v := .ref (Ga G (b + 2))) h fa_X0_15 (isBk_o hb) dX0_copy_21 rfl ?_
  refine jx_iconst h dX0_copy_24 ki_0 ?_
  refine jx_bipush h dX0_copy_25 kb_6 ?_
  refine jx_copy h mc_X0_42.1 mc_X0_42.2.1 mc_X0_42.2.2.1 mc_X0_42.2.2.2 (isBk_2 hx1) (isBk_2 hb) (Nat.le_of_ble_eq_true rfl) (by decide) dX0_copy_27 (fun s2 => ?_)
  refine jx_aload_n h dX0_copy_30 rfl 1 rfl ?_
  refine jx_get (v := .ref (Ga G (x1 + 3))) h fa_X0_18 (isBk_o hx1) dX0_copy_31 rfl ?_
  refine jx_iconst h dX0_copy_34 ki_0 ?_
  refine jx_aload_n h dX0_copy_35 rfl 0 rfl ?_
  refine jx_get (v := .ref (Ga G (b + 3))) h fa_X0_18 (isBk_o hb) dX0_copy_36 rfl ?_
  refine jx_iconst h dX0_copy_39 ki_0 ?_
  refine jx_bipush h dX0_copy_40 kb_6 ?_
  refine jx_copy h mc_X0_42.1 mc_X0_42.2.1 mc_X0_42.2.2.1 mc_X0_42.2.2.2 (isBk_3 hx1) (isBk_3 hb) (Nat.le_of_ble_eq_true rfl) (by decide) dX0_copy_42 (fun s3 => ?_)
  refine jx_aload_n h dX0_copy_45 rfl 1 rfl ?_
  refine jx_get (v := .ref (Ga G (x1 + 4))) h fa_X0_21 (isBk_o hx1) dX0_copy_46 rfl ?_
  refine jx_iconst h dX0_copy_49 ki_0 ?_
  refine jx_aload_n h dX0_copy_50 rfl 0 rfl ?_
  refine jx_get (v := .ref (Ga G (b + 4))) h fa_X0_21 (isBk_o hb) dX0_copy_51 rfl ?_
  refine jx_iconst h dX0_copy_54 ki_0 ?_
  refine jx_bipush h dX0_copy_55 kb_6 ?_
  refine jx_copy h mc_X0_42.1 mc_X0_42.2.1 mc_X0_42.2.2.1 mc_X0_42.2.2.2 (isBk_4 hx1) (isBk_4 hb) (Nat.le_of_ble_eq_true rfl) (by decide) dX0_copy_57 (fun s4 => ?_)
  refine jx_aload_n h dX0_copy_60 rfl 1 rfl ?_
  refine jx_get (v := .ref (Ga G (x1 + 5))) h fa_X0_24 (isBk_o hx1) dX0_copy_61 rfl ?_
  refine jx_iconst h dX0_copy_64 ki_0 ?_
  refine jx_aload_n h dX0_copy_65 rfl 0 rfl ?_
  refine jx_get (v := .ref (Ga G (b + 5))) h fa_X0_24 (isBk_o hb) dX0_copy_66 rfl ?_
  refine jx_iconst h dX0_copy_69 ki_0 ?_
  refine jx_bipush h dX0_copy_70 kb_6 ?_
  refine jx_copy h mc_X0_42.1 mc_X0_42.2.1 mc_X0_42.2.2.1 mc_X0_42.2.2.2 (isBk_5 hx1) (isBk_5 hb) (Nat.le_of_ble_eq_true rfl) (by decide) dX0_copy_72 (fun s5 => ?_)
  refine jx_aload_n h dX0_copy_75 rfl 1 rfl ?_
  refine jx_get (v := .ref (Ga G (x1 + 6))) h fa_X0_27 (isBk_o hx1) dX0_copy_76 rfl ?_
  refine jx_iconst h dX0_copy_79 ki_0 ?_
  refine jx_aload_n h dX0_copy_80 rfl 0 rfl ?_
  refine jx_get (v := .ref (Ga G (b + 6))) h fa_X0_27 (isBk_o hb) dX0_copy_81 rfl ?_
  refine jx_iconst h dX0_copy_84 ki_0 ?_
  refine jx_bipush h dX0_copy_85 kb_6 ?_
  refine jx_copy h mc_X0_42.1 mc_X0_42.2.1 mc_X0_42.2.2.1 mc_X0_42.2.2.2 (isBk_6 hx1) (isBk_6 hb) (Nat.le_of_ble_eq_true rfl) (by decide) dX0_copy_87 (fun s6 => ?_)
  refine jx_aload_n h dX0_copy_90 rfl 1 rfl ?_
  refine jx_get (v := .ref (Ga G (x1 + 14))) h fa_X0_35 (isBk_o hx1) dX0_copy_91 rfl ?_
  refine jx_iconst h dX0_copy_94 ki_0 ?_
  refine jx_aload_n h dX0_copy_95 rfl 0 rfl ?_
  refine jx_get (v := .ref (Ga G (b + 14))) h fa_X0_35 (isBk_o hb) dX0_copy_96 rfl ?_
  refine jx_iconst h dX0_copy_99 ki_0 ?_
  refine jx_iconst h dX0_copy_100 ki_3 ?_
  refine jx_copy h mc_X0_42.1 mc_X0_42.2.1 mc_X0_42.2.2.1 mc_X0_42.2.2.2 (isBk_14 hx1) (isBk_14 hb) (Nat.le_of_ble_eq_true rfl) (by decide) dX0_copy_101 (fun s7 => ?_)
  refine jx_iconst h dX0_copy_104 ki_0 ?_
  refine jx_istore_n (lv' := [(2, .int 0), (0, .ref (Ga G b)), (1, .ref (Ga G x1))]) h dX0_copy_105 rfl (Nat.le_of_ble_eq_true rfl) rfl ?_
  refine jx_subk [1, 2, 0] h (itr_ind (Q := (fun (f : Int32 → Mem → Option (Unit × Mem)) => ∀ (x2 : Int32) (s : Mem), P (f x2 s) 106 [(0, .ref (Ga G b)), (1, .ref (Ga G x1)), (2, .int x2)] [] s)) (fun _ _ => jx_none h) (fun r106 ih106 => ?_) N 0 s7) rfl
  refine w_X0_copy_106 hG h N b hb x1 hx1 ?_ ih106
  intro s12
  refine jx_aload_n h dX0_copy_137 rfl 0 rfl ?_
  refine jx_aload_n h dX0_copy_138 rfl 1 rfl ?_
  refine jx_get (v := .int (gi s12 x1 1)) h fa_X0_48 (isBk_o hx1) dX0_copy_139 rfl ?_
  refine jx_put h fa_X0_48 fp_X0_1 (isBk_o hb) rfl rfl dX0_copy_142 (fu_X0_1 _ _ _ _) (fun s13 => ?_)
  refine jx_aload_n h dX0_copy_145 rfl 0 rfl ?_
  refine jx_aload_n h dX0_copy_146 rfl 1 rfl ?_
  refine jx_get (v := .int (gi s13 x1 2)) h fa_X0_51 (isBk_o hx1) dX0_copy_147 rfl ?_
  refine jx_put h fa_X0_51 fp_X0_2 (isBk_o hb) rfl rfl dX0_copy_150 (fu_X0_2 _ _ _ _) (fun s14 => ?_)
  refine jx_aload_n h dX0_copy_153 rfl 0 rfl ?_
  refine jx_aload_n h dX0_copy_154 rfl 1 rfl ?_
  refine jx_get (v := .int (gi s14 x1 10)) h fa_X0_54 (isBk_o hx1) dX0_copy_155 rfl ?_
  refine jx_put h fa_X0_54 fp_X0_10 (isBk_o hb) rfl rfl dX0_copy_158 (fu_X0_10 _ _ _ _) (fun s15 => ?_)
  refine jx_aload_n h dX0_copy_161 rfl 0 rfl ?_
  refine jx_aload_n h dX0_copy_162 rfl 1 rfl ?_
  refine jx_get (v := .int (gi s15 x1 11)) h fa_X0_57 (isBk_o hx1) dX0_copy_163 rfl ?_
  refine jx_put h fa_X0_57 fp_X0_11 (isBk_o hb) rfl rfl dX0_copy_166 (fu_X0_11 _ _ _ _) (fun s16 => ?_)
  refine jx_aload_n h dX0_copy_169 rfl 0 rfl ?_
  refine jx_aload_n h dX0_copy_170 rfl 1 rfl ?_
  refine jx_get (v := .int (gi s16 x1 12)) h fa_X0_60 (isBk_o hx1) dX0_copy_171 rfl ?_
  refine jx_put h fa_X0_60 fp_X0_12 (isBk_o hb) rfl rfl dX0_copy_174 (fu_X0_12 _ _ _ _) (fun s17 => ?_)
  refine jx_aload_n h dX0_copy_177 rfl 0 rfl ?_
  refine jx_aload_n h dX0_copy_178 rfl 1 rfl ?_
  refine jx_get (v := .int (gi s17 x1 13)) h fa_X0_38 (isBk_o hx1) dX0_copy_179 rfl ?_
  refine jx_put h fa_X0_38 fp_X0_13 (isBk_o hb) rfl rfl dX0_copy_182 (fu_X0_13 _ _ _ _) (fun s18 => ?_)
  exact jx_vret h dX0_copy_185
noncomputable def f_X9_hasBit (N : Nat) (x0 : Int32) (x1 : Int32) (s : Mem) : Option (Int32 × Mem) :=
  if ((x0 >>> (x1 &&& 31)) &&& 1) = 1 then (some (1, s)) else some (0, s)
set_option maxRecDepth 20000 in
theorem c_X9_hasBit {G : Gx} (hG : Gok G ∧ IsG G layC fsoC) (N : Nat) (x0 : Int32) (x1 : Int32) (s : Mem) : Ct G yX9_hasBit cX9_hasBit 2 (some .boolean) 0 [.int x0, .int x1] tvI s (f_X9_hasBit N x0 x1 s) := by
  refine Ct.of hG (by decide) (Nat.le_of_ble_eq_true rfl) (fun P h => ?_)
  show P _ 0 [(0, .int x0), (1, .int x1)] [] s
  unfold f_X9_hasBit
  refine jx_iload_n h dX9_hasBit_0 rfl 0 rfl ?_
  refine jx_iload_n h dX9_hasBit_1 rfl 1 rfl ?_
  refine jx_ishr h dX9_hasBit_2 ?_
  refine jx_iconst h dX9_hasBit_3 ki_1 ?_
  refine jx_iand h dX9_hasBit_4 ?_
  refine jx_iconst h dX9_hasBit_5 ki_1 ?_
  refine jx_icmp_ne (tgt := 13) h dX9_hasBit_6 rfl ?_ ?_
  · refine jx_iconst h dX9_hasBit_13 ki_0 ?_
    exact jx_zret h rfl dX9_hasBit_14
  · refine jx_iconst h dX9_hasBit_9 ki_1 ?_
    refine jx_goto (tgt := 14) h dX9_hasBit_10 rfl ?_
    exact jx_zret h rfl dX9_hasBit_14
noncomputable def f_X9_isWithin (N : Nat) (x0 : Int32) (x1 : Int32) (x2 : Int32) (s : Mem) : Option (Int32 × Mem) :=
  if x0 < x1 then (some (0, s)) else if x2 < x0 then (some (0, s)) else some (1, s)
set_option maxRecDepth 20000 in
theorem c_X9_isWithin {G : Gx} (hG : Gok G ∧ IsG G layC fsoC) (N : Nat) (x0 : Int32) (x1 : Int32) (x2 : Int32) (s : Mem) : Ct G yX9_isWithin cX9_isWithin 3 (some .boolean) 0 [.int x0, .int x1, .int x2] tvI s (f_X9_isWithin N x0 x1 x2 s) := by
  refine Ct.of hG (by decide) (Nat.le_of_ble_eq_true rfl) (fun P h => ?_)
  show P _ 0 [(0, .int x0), (1, .int x1), (2, .int x2)] [] s
  unfold f_X9_isWithin
  refine jx_iload_n h dX9_isWithin_0 rfl 0 rfl ?_
  refine jx_iload_n h dX9_isWithin_1 rfl 1 rfl ?_
  refine jx_icmp_lt (tgt := 14) h dX9_isWithin_2 rfl ?_ ?_
  · refine jx_iconst h dX9_isWithin_14 ki_0 ?_
    exact jx_zret h rfl dX9_isWithin_15
  · refine jx_iload_n h dX9_isWithin_5 rfl 0 rfl ?_
    refine jx_iload_n h dX9_isWithin_6 rfl 2 rfl ?_
    refine jx_icmp_gt (tgt := 14) h dX9_isWithin_7 rfl ?_ ?_
    · refine jx_iconst h dX9_isWithin_14 ki_0 ?_
      exact jx_zret h rfl dX9_isWithin_15
    · refine jx_iconst h dX9_isWithin_10 ki_1 ?_
      refine jx_goto (tgt := 15) h dX9_isWithin_11 rfl ?_
      exact jx_zret h rfl dX9_isWithin_15
noncomputable def f_X9_isLetter (N : Nat) (x0 : Int32) (s : Mem) : Option (Int32 × Mem) :=
  bd (f_X9_isWithin N x0 0 5 s) (fun r2 s1 => ckz r2 (some (r2, s1)))
set_option maxRecDepth 20000 in
theorem c_X9_isLetter {G : Gx} (hG : Gok G ∧ IsG G layC fsoC) (N : Nat) (x0 : Int32) (s : Mem) : Ct G yX9_isLetter cX9_isLetter 1 (some .boolean) 1 [.int x0] tvI s (f_X9_isLetter N x0 s) := by
  refine Ct.of hG (by decide) (Nat.le_of_ble_eq_true rfl) (fun P h => ?_)
  show P _ 0 [(0, .int x0)] [] s
  unfold f_X9_isLetter
  refine jx_iload_n h dX9_isLetter_0 rfl 0 rfl ?_
  refine jx_iconst h dX9_isLetter_1 ki_0 ?_
  refine jx_iconst h dX9_isLetter_2 ki_5 ?_
  refine jx_callSi [] h (c_X9_isWithin hG N x0 0 5 s) ml_X9_78 (Nat.le_of_ble_eq_true rfl) (Nat.le_of_ble_eq_true rfl) dX9_isLetter_3 (Nat.le_of_ble_eq_true rfl) rfl (fun r2 s1 => ?_)
  exact jx_zretc h dX9_isLetter_6
noncomputable def f_X0_isTold (N : Nat) (b : Nat) (x1 : Int32) (s : Mem) : Option (Int32 × Mem) :=
  bd (f_X9_isLetter N x1 s) (fun r2 s1 => if r2 = 0 then (some (0, s1)) else bd (f_X9_hasBit N (gi s1 b 1) x1 s1) (fun r4 s3 => if r4 = 0 then (some (0, s3)) else some (1, s3)))
set_option maxRecDepth 20000 in
theorem c_X0_isTold {G : Gx} (hG : Gok G ∧ IsG G layC fsoC) (N : Nat) (b : Nat) (hb : isBk b = true) (x1 : Int32) (s : Mem) : Ct G yX0_isTold cX0_isTold 2 (some .boolean) 2 [.ref (Ga G b), .int x1] tvI s (f_X0_isTold N b x1 s) := by
  refine Ct.of hG (by decide) (Nat.le_of_ble_eq_true rfl) (fun P h => ?_)
  show P _ 0 [(0, .ref (Ga G b)), (1, .int x1)] [] s
  unfold f_X0_isTold
  refine jx_iload_n h dX0_isTold_0 rfl 1 rfl ?_
  refine jx_callSi [] h (c_X9_isLetter hG N x1 s) ml_X0_63 (Nat.le_of_ble_eq_true rfl) (Nat.le_of_ble_eq_true rfl) dX0_isTold_1 (Nat.le_of_ble_eq_true rfl) rfl (fun r2 s1 => ?_)
  refine jx_if_eq (tgt := 22) h dX0_isTold_4 rfl ?_ ?_
  · refine jx_iconst h dX0_isTold_22 ki_0 ?_
    exact jx_zret h rfl dX0_isTold_23
  · refine jx_aload_n h dX0_isTold_7 rfl 0 rfl ?_
    refine jx_get (v := .int (gi s1 b 1)) h fa_X0_48 (isBk_o hb) dX0_isTold_8 rfl ?_
    refine jx_iload_n h dX0_isTold_11 rfl 1 rfl ?_
    refine jx_callSi [] h (c_X9_hasBit hG N (gi s1 b 1) x1 s1) ml_X0_67 (Nat.le_of_ble_eq_true rfl) (Nat.le_of_ble_eq_true rfl) dX0_isTold_12 (Nat.le_of_ble_eq_true rfl) rfl (fun r4 s3 => ?_)
    refine jx_if_eq (tgt := 22) h dX0_isTold_15 rfl ?_ ?_
    · refine jx_iconst h dX0_isTold_22 ki_0 ?_
      exact jx_zret h rfl dX0_isTold_23
    · refine jx_iconst h dX0_isTold_18 ki_1 ?_
      refine jx_goto (tgt := 23) h dX0_isTold_19 rfl ?_
      exact jx_zret h rfl dX0_isTold_23
noncomputable def f_X0_isInForce (N : Nat) (b : Nat) (x1 : Int32) (s : Mem) : Option (Int32 × Mem) :=
  bd (f_X9_isLetter N x1 s) (fun r2 s1 => if r2 = 0 then (some (0, s1)) else bd (f_X9_hasBit N (gi s1 b 2) x1 s1) (fun r4 s3 => if r4 = 0 then (some (0, s3)) else some (1, s3)))
set_option maxRecDepth 20000 in
theorem c_X0_isInForce {G : Gx} (hG : Gok G ∧ IsG G layC fsoC) (N : Nat) (b : Nat) (hb : isBk b = true) (x1 : Int32) (s : Mem) : Ct G yX0_isInForce cX0_isInForce 2 (some .boolean) 2 [.ref (Ga G b), .int x1] tvI s (f_X0_isInForce N b x1 s) := by
  refine Ct.of hG (by decide) (Nat.le_of_ble_eq_true rfl) (fun P h => ?_)
  show P _ 0 [(0, .ref (Ga G b)), (1, .int x1)] [] s
  unfold f_X0_isInForce
  refine jx_iload_n h dX0_isInForce_0 rfl 1 rfl ?_
  refine jx_callSi [] h (c_X9_isLetter hG N x1 s) ml_X0_63 (Nat.le_of_ble_eq_true rfl) (Nat.le_of_ble_eq_true rfl) dX0_isInForce_1 (Nat.le_of_ble_eq_true rfl) rfl (fun r2 s1 => ?_)
  refine jx_if_eq (tgt := 22) h dX0_isInForce_4 rfl ?_ ?_
  · refine jx_iconst h dX0_isInForce_22 ki_0 ?_
    exact jx_zret h rfl dX0_isInForce_23
  · refine jx_aload_n h dX0_isInForce_7 rfl 0 rfl ?_
    refine jx_get (v := .int (gi s1 b 2)) h fa_X0_51 (isBk_o hb) dX0_isInForce_8 rfl ?_
    refine jx_iload_n h dX0_isInForce_11 rfl 1 rfl ?_
    refine jx_callSi [] h (c_X9_hasBit hG N (gi s1 b 2) x1 s1) ml_X0_67 (Nat.le_of_ble_eq_true rfl) (Nat.le_of_ble_eq_true rfl) dX0_isInForce_12 (Nat.le_of_ble_eq_true rfl) rfl (fun r4 s3 => ?_)
    refine jx_if_eq (tgt := 22) h dX0_isInForce_15 rfl ?_ ?_
    · refine jx_iconst h dX0_isInForce_22 ki_0 ?_
      exact jx_zret h rfl dX0_isInForce_23
    · refine jx_iconst h dX0_isInForce_18 ki_1 ?_
      refine jx_goto (tgt := 23) h dX0_isInForce_19 rfl ?_
      exact jx_zret h rfl dX0_isInForce_23
noncomputable def f_X0_fundOf (N : Nat) (b : Nat) (x1 : Int32) (s : Mem) : Option (Int32 × Mem) :=
  bd (f_X9_isLetter N x1 s) (fun r2 s1 => if r2 = 0 then (some ((-1), s1)) else chk x1 6 (some (gi s1 (b + 4) (ix x1), s1)))
set_option maxRecDepth 20000 in
theorem c_X0_fundOf {G : Gx} (hG : Gok G ∧ IsG G layC fsoC) (N : Nat) (b : Nat) (hb : isBk b = true) (x1 : Int32) (s : Mem) : Ct G yX0_fundOf cX0_fundOf 2 (some .int) 2 [.ref (Ga G b), .int x1] tvI s (f_X0_fundOf N b x1 s) := by
  refine Ct.of hG (by decide) (Nat.le_of_ble_eq_true rfl) (fun P h => ?_)
  show P _ 0 [(0, .ref (Ga G b)), (1, .int x1)] [] s
  unfold f_X0_fundOf
  refine jx_iload_n h dX0_fundOf_0 rfl 1 rfl ?_
  refine jx_callSi [] h (c_X9_isLetter hG N x1 s) ml_X0_63 (Nat.le_of_ble_eq_true rfl) (Nat.le_of_ble_eq_true rfl) dX0_fundOf_1 (Nat.le_of_ble_eq_true rfl) rfl (fun r2 s1 => ?_)
  refine jx_if_eq (tgt := 16) h dX0_fundOf_4 rfl ?_ ?_
  · refine jx_iconst h dX0_fundOf_16 ki_m1 ?_
    exact jx_iret h dX0_fundOf_17
  · refine jx_aload_n h dX0_fundOf_7 rfl 0 rfl ?_
    refine jx_get (v := .ref (Ga G (b + 4))) h fa_X0_21 (isBk_o hb) dX0_fundOf_8 rfl ?_
    refine jx_iload_n h dX0_fundOf_11 rfl 1 rfl ?_
    refine jx_iaload h (isBk_4 hb) dX0_fundOf_12 ?_
    refine jx_goto (tgt := 17) h dX0_fundOf_13 rfl ?_
    exact jx_iret h dX0_fundOf_17
noncomputable def f_X0_begin (N : Nat) (b : Nat) (x1 : Int32) (x2 : Int32) (x3 : Int32) (s : Mem) : Option (Unit × Mem) :=
  lt (si s b 1 ((gi s b 1) ||| ((1 : Int32) <<< (x1 &&& 31)))) (fun s1 => lt (si s1 b 2 ((gi s1 b 2) ||| ((1 : Int32) <<< (x1 &&& 31)))) (fun s2 => chk x1 6 (lt (si s2 (b + 2) (ix x1) x2) (fun s3 => chk x1 6 (lt (si s3 (b + 3) (ix x1) x3) (fun s4 => chk x1 6 (lt (si s4 (b + 4) (ix x1) 0) (fun s5 => chk x1 6 (lt (si s5 (b + 5) (ix x1) ((1 : Int32) <<< (x2 &&& 31))) (fun s6 => chk x1 6 (lt (si s6 (b + 6) (ix x1) 0) (fun s7 => chk x1 6 (chk x2 12 (lt (si s7 ((b + 7) + 1 + ix x1) (ix x2) x3) (fun s9 => some ((), s9))))))))))))))))
set_option maxRecDepth 20000 in
theorem c_X0_begin {G : Gx} (hG : Gok G ∧ IsG G layC fsoC) (N : Nat) (b : Nat) (hb : isBk b = true) (x1 : Int32) (x2 : Int32) (x3 : Int32) (s : Mem) : Ct G yX0_begin cX0_begin 4 none 0 [.ref (Ga G b), .int x1, .int x2, .int x3] tvV s (f_X0_begin N b x1 x2 x3 s) := by
  refine Ct.of hG (by decide) (Nat.le_of_ble_eq_true rfl) (fun P h => ?_)
  show P _ 0 [(0, .ref (Ga G b)), (1, .int x1), (2, .int x2), (3, .int x3)] [] s
  unfold f_X0_begin
  refine jx_aload_n h dX0_begin_0 rfl 0 rfl ?_
  refine jx_dup h dX0_begin_1 rfl ?_
  refine jx_get (v := .int (gi s b 1)) h fa_X0_48 (isBk_o hb) dX0_begin_2 rfl ?_
  refine jx_iconst h dX0_begin_5 ki_1 ?_
  refine jx_iload_n h dX0_begin_6 rfl 1 rfl ?_
  refine jx_ishl h dX0_begin_7 ?_
  refine jx_ior h dX0_begin_8 ?_
  refine jx_put h fa_X0_48 fp_X0_1 (isBk_o hb) rfl rfl dX0_begin_9 (fu_X0_1 _ _ _ _) (fun s1 => ?_)
  refine jx_aload_n h dX0_begin_12 rfl 0 rfl ?_
  refine jx_dup h dX0_begin_13 rfl ?_
  refine jx_get (v := .int (gi s1 b 2)) h fa_X0_51 (isBk_o hb) dX0_begin_14 rfl ?_
  refine jx_iconst h dX0_begin_17 ki_1 ?_
  refine jx_iload_n h dX0_begin_18 rfl 1 rfl ?_
  refine jx_ishl h dX0_begin_19 ?_
  refine jx_ior h dX0_begin_20 ?_
  refine jx_put h fa_X0_51 fp_X0_2 (isBk_o hb) rfl rfl dX0_begin_21 (fu_X0_2 _ _ _ _) (fun s2 => ?_)
  refine jx_aload_n h dX0_begin_24 rfl 0 rfl ?_
  refine jx_get (v := .ref (Ga G (b + 2))) h fa_X0_15 (isBk_o hb) dX0_begin_25 rfl ?_
  refine jx_iload_n h dX0_begin_28 rfl 1 rfl ?_
  refine jx_iload_n h dX0_begin_29 rfl 2 rfl ?_
  refine jx_iastore h (isBk_2 hb) dX0_begin_30 (fun s3 => ?_)
  refine jx_aload_n h dX0_begin_31 rfl 0 rfl ?_
  refine jx_get (v := .ref (Ga G (b + 3))) h fa_X0_18 (isBk_o hb) dX0_begin_32 rfl ?_
  refine jx_iload_n h dX0_begin_35 rfl 1 rfl ?_
  refine jx_iload_n h dX0_begin_36 rfl 3 rfl ?_
  refine jx_iastore h (isBk_3 hb) dX0_begin_37 (fun s4 => ?_)
  refine jx_aload_n h dX0_begin_38 rfl 0 rfl ?_
  refine jx_get (v := .ref (Ga G (b + 4))) h fa_X0_21 (isBk_o hb) dX0_begin_39 rfl ?_
  refine jx_iload_n h dX0_begin_42 rfl 1 rfl ?_
  refine jx_iconst h dX0_begin_43 ki_0 ?_
  refine jx_iastore h (isBk_4 hb) dX0_begin_44 (fun s5 => ?_)
  refine jx_aload_n h dX0_begin_45 rfl 0 rfl ?_
  refine jx_get (v := .ref (Ga G (b + 5))) h fa_X0_24 (isBk_o hb) dX0_begin_46 rfl ?_
  refine jx_iload_n h dX0_begin_49 rfl 1 rfl ?_
  refine jx_iconst h dX0_begin_50 ki_1 ?_
  refine jx_iload_n h dX0_begin_51 rfl 2 rfl ?_
  refine jx_ishl h dX0_begin_52 ?_
  refine jx_iastore h (isBk_5 hb) dX0_begin_53 (fun s6 => ?_)
  refine jx_aload_n h dX0_begin_54 rfl 0 rfl ?_
  refine jx_get (v := .ref (Ga G (b + 6))) h fa_X0_27 (isBk_o hb) dX0_begin_55 rfl ?_
  refine jx_iload_n h dX0_begin_58 rfl 1 rfl ?_
  refine jx_iconst h dX0_begin_59 ki_0 ?_
  refine jx_iastore h (isBk_6 hb) dX0_begin_60 (fun s7 => ?_)
  refine jx_aload_n h dX0_begin_61 rfl 0 rfl ?_
  refine jx_get (v := .ref (Ga G (b + 7))) h fa_X0_32 (isBk_o hb) dX0_begin_62 rfl ?_
  refine jx_iload_n h dX0_begin_65 rfl 1 rfl ?_
  refine jx_aaload h (isBk_7 hb) dX0_begin_66 (fun hr8 => ?_)
  refine jx_iload_n h dX0_begin_67 rfl 2 rfl ?_
  refine jx_iload_n h dX0_begin_68 rfl 3 rfl ?_
  refine jx_iastore h (isBk_r hb hr8) dX0_begin_69 (fun s9 => ?_)
  exact jx_vret h dX0_begin_70
noncomputable def f_X0_give (N : Nat) (b : Nat) (x1 : Int32) (x2 : Int32) (x3 : Int32) (s : Mem) : Option (Unit × Mem) :=
  lt (((x3 * 2) + 2) / 3) (fun v1 => chk x1 6 (chk x1 6 (lt (si s (b + 4) (ix x1) (imin 999999 ((gi s (b + 4) (ix x1)) + v1))) (fun s2 => lt (si s2 b 10 (imin 999999 (((gi s2 b 10) + x3) - v1))) (fun s3 => chk x1 6 (chk x1 6 (lt (si s3 (b + 6) (ix x1) ((gi s3 (b + 6) (ix x1)) ||| ((1 : Int32) <<< (x2 &&& 31)))) (fun s4 => some ((), s4)))))))))
set_option maxRecDepth 20000 in
theorem c_X0_give {G : Gx} (hG : Gok G ∧ IsG G layC fsoC) (N : Nat) (b : Nat) (hb : isBk b = true) (x1 : Int32) (x2 : Int32) (x3 : Int32) (s : Mem) : Ct G yX0_give cX0_give 5 none 1 [.ref (Ga G b), .int x1, .int x2, .int x3] tvV s (f_X0_give N b x1 x2 x3 s) := by
  refine Ct.of hG (by decide) (Nat.le_of_ble_eq_true rfl) (fun P h => ?_)
  show P _ 0 [(0, .ref (Ga G b)), (1, .int x1), (2, .int x2), (3, .int x3)] [] s
  unfold f_X0_give
  refine jx_iload_n h dX0_give_0 rfl 3 rfl ?_
  refine jx_iconst h dX0_give_1 ki_2 ?_
  refine jx_imul h dX0_give_2 ?_
  refine jx_iconst h dX0_give_3 ki_2 ?_
  refine jx_iadd h dX0_give_4 ?_
  refine jx_iconst h dX0_give_5 ki_3 ?_
  refine jx_idivc h (by decide) dX0_give_6 ?_
  refine jx_lti (fun v1 => ?_)
  refine jx_istore (lv' := [(4, .int v1), (0, .ref (Ga G b)), (1, .int x1), (2, .int x2), (3, .int x3)]) h dX0_give_7 (Nat.le_of_ble_eq_true rfl) rfl ?_
  refine jx_aload_n h dX0_give_9 rfl 1 rfl ?_
  refine jx_get (v := .ref (Ga G (b + 4))) h fa_X0_21 (isBk_o hb) dX0_give_10 rfl ?_
  refine jx_iload_n h dX0_give_13 rfl 2 rfl ?_
  refine jx_ldc h dX0_give_14 kw_X0_75 ?_
  refine jx_aload_n h dX0_give_16 rfl 1 rfl ?_
  refine jx_get (v := .ref (Ga G (b + 4))) h fa_X0_21 (isBk_o hb) dX0_give_17 rfl ?_
  refine jx_iload_n h dX0_give_20 rfl 2 rfl ?_
  refine jx_iaload h (isBk_4 hb) dX0_give_21 ?_
  refine jx_iload h dX0_give_22 0 rfl ?_
  refine jx_iadd h dX0_give_24 ?_
  refine jx_mmin h mm_X0_76 (Nat.le_of_ble_eq_true rfl) (Nat.le_of_ble_eq_true rfl) dX0_give_25 ?_
  refine jx_iastore h (isBk_4 hb) dX0_give_28 (fun s2 => ?_)
  refine jx_aload_n h dX0_give_29 rfl 1 rfl ?_
  refine jx_ldc h dX0_give_30 kw_X0_75 ?_
  refine jx_aload_n h dX0_give_32 rfl 1 rfl ?_
  refine jx_get (v := .int (gi s2 b 10)) h fa_X0_54 (isBk_o hb) dX0_give_33 rfl ?_
  refine jx_iload_n h dX0_give_36 rfl 4 rfl ?_
  refine jx_iadd h dX0_give_37 ?_
  refine jx_iload h dX0_give_38 0 rfl ?_
  refine jx_isub h dX0_give_40 ?_
  refine jx_mmin h mm_X0_76 (Nat.le_of_ble_eq_true rfl) (Nat.le_of_ble_eq_true rfl) dX0_give_41 ?_
  refine jx_put h fa_X0_54 fp_X0_10 (isBk_o hb) rfl rfl dX0_give_44 (fu_X0_10 _ _ _ _) (fun s3 => ?_)
  refine jx_aload_n h dX0_give_47 rfl 1 rfl ?_
  refine jx_get (v := .ref (Ga G (b + 6))) h fa_X0_27 (isBk_o hb) dX0_give_48 rfl ?_
  refine jx_iload_n h dX0_give_51 rfl 2 rfl ?_
  refine jx_dup2 h dX0_give_52 rfl rfl ?_
  refine jx_iaload h (isBk_6 hb) dX0_give_53 ?_
  refine jx_iconst h dX0_give_54 ki_1 ?_
  refine jx_iload_n h dX0_give_55 rfl 3 rfl ?_
  refine jx_ishl h dX0_give_56 ?_
  refine jx_ior h dX0_give_57 ?_
  refine jx_iastore h (isBk_6 hb) dX0_give_58 (fun s4 => ?_)
  exact jx_vret h dX0_give_59
noncomputable def f_X0_note (N : Nat) (b : Nat) (x1 : Int32) (x2 : Int32) (x3 : Int32) (x4 : Int32) (s : Mem) : Option (Unit × Mem) :=
  lt ((1 : Int32) <<< (x2 &&& 31)) (fun v1 => if x3 = 58 then (chk x1 6 (chk x1 6 (lt (si s (b + 5) (ix x1) ((gi s (b + 5) (ix x1)) ||| v1)) (fun s6 => chk x1 6 (chk x2 12 (lt (si s6 ((b + 7) + 1 + ix x1) (ix x2) x4) (fun s8 => some ((), s8)))))))) else if x3 = 43 then (bd (f_X0_give N b x1 x2 x4 s) (fun _ s4 => some ((), s4))) else chk x1 6 (chk x1 6 (lt (si s (b + 5) (ix x1) ((gi s (b + 5) (ix x1)) &&& (v1 ^^^ (-1)))) (fun s2 => chk x1 6 (chk x1 6 (lt (si s2 (b + 6) (ix x1) ((gi s2 (b + 6) (ix x1)) &&& (v1 ^^^ (-1)))) (fun s3 => some ((), s3))))))))
set_option maxRecDepth 20000 in
theorem c_X0_note {G : Gx} (hG : Gok G ∧ IsG G layC fsoC) (N : Nat) (b : Nat) (hb : isBk b = true) (x1 : Int32) (x2 : Int32) (x3 : Int32) (x4 : Int32) (s : Mem) : Ct G yX0_note cX0_note 6 none 2 [.ref (Ga G b), .int x1, .int x2, .int x3, .int x4] tvV s (f_X0_note N b x1 x2 x3 x4 s) := by
  refine Ct.of hG (by decide) (Nat.le_of_ble_eq_true rfl) (fun P h => ?_)
  show P _ 0 [(0, .ref (Ga G b)), (1, .int x1), (2, .int x2), (3, .int x3), (4, .int x4)] [] s
  unfold f_X0_note
  refine jx_iconst h dX0_note_0 ki_1 ?_
  refine jx_iload_n h dX0_note_1 rfl 2 rfl ?_
  refine jx_ishl h dX0_note_2 ?_
  refine jx_lti (fun v1 => ?_)
  refine jx_istore (lv' := [(5, .int v1), (0, .ref (Ga G b)), (1, .int x1), (2, .int x2), (3, .int x3), (4, .int x4)]) h dX0_note_3 (Nat.le_of_ble_eq_true rfl) rfl ?_
  refine jx_iload_n h dX0_note_5 rfl 4 rfl ?_
  refine jx_bipush h dX0_note_6 kb_58 ?_
  refine jx_icmp_ne (tgt := 35) h dX0_note_8 rfl ?_ ?_
  · refine jx_iload_n h dX0_note_35 rfl 4 rfl ?_
    refine jx_bipush h dX0_note_36 kb_43 ?_
    refine jx_icmp_ne (tgt := 52) h dX0_note_38 rfl ?_ ?_
    · refine jx_aload_n h dX0_note_52 rfl 1 rfl ?_
      refine jx_get (v := .ref (Ga G (b + 5))) h fa_X0_24 (isBk_o hb) dX0_note_53 rfl ?_
      refine jx_iload_n h dX0_note_56 rfl 2 rfl ?_
      refine jx_dup2 h dX0_note_57 rfl rfl ?_
      refine jx_iaload h (isBk_5 hb) dX0_note_58 ?_
      refine jx_iload h dX0_note_59 0 rfl ?_
      refine jx_iconst h dX0_note_61 ki_m1 ?_
      refine jx_ixor h dX0_note_62 ?_
      refine jx_iand h dX0_note_63 ?_
      refine jx_iastore h (isBk_5 hb) dX0_note_64 (fun s2 => ?_)
      refine jx_aload_n h dX0_note_65 rfl 1 rfl ?_
      refine jx_get (v := .ref (Ga G (b + 6))) h fa_X0_27 (isBk_o hb) dX0_note_66 rfl ?_
      refine jx_iload_n h dX0_note_69 rfl 2 rfl ?_
      refine jx_dup2 h dX0_note_70 rfl rfl ?_
      refine jx_iaload h (isBk_6 hb) dX0_note_71 ?_
      refine jx_iload h dX0_note_72 0 rfl ?_
      refine jx_iconst h dX0_note_74 ki_m1 ?_
      refine jx_ixor h dX0_note_75 ?_
      refine jx_iand h dX0_note_76 ?_
      refine jx_iastore h (isBk_6 hb) dX0_note_77 (fun s3 => ?_)
      exact jx_vret h dX0_note_78
    · refine jx_aload_n h dX0_note_41 rfl 1 rfl ?_
      refine jx_iload_n h dX0_note_42 rfl 2 rfl ?_
      refine jx_iload_n h dX0_note_43 rfl 3 rfl ?_
      refine jx_iload h dX0_note_44 5 rfl ?_
      refine jx_callVv [] h (isBk_o hb) (c_X0_give hG N b hb x1 x2 x4 s) ml_X0_71 (Nat.le_of_ble_eq_true rfl) (Nat.le_of_ble_eq_true rfl) dX0_note_46 (Nat.le_of_ble_eq_true rfl) rfl (fun s4 => ?_)
      refine jx_goto (tgt := 78) h dX0_note_49 rfl ?_
      exact jx_vret h dX0_note_78
  · refine jx_aload_n h dX0_note_11 rfl 1 rfl ?_
    refine jx_get (v := .ref (Ga G (b + 5))) h fa_X0_24 (isBk_o hb) dX0_note_12 rfl ?_
    refine jx_iload_n h dX0_note_15 rfl 2 rfl ?_
    refine jx_dup2 h dX0_note_16 rfl rfl ?_
    refine jx_iaload h (isBk_5 hb) dX0_note_17 ?_
    refine jx_iload h dX0_note_18 0 rfl ?_
    refine jx_ior h dX0_note_20 ?_
    refine jx_iastore h (isBk_5 hb) dX0_note_21 (fun s6 => ?_)
    refine jx_aload_n h dX0_note_22 rfl 1 rfl ?_
    refine jx_get (v := .ref (Ga G (b + 7))) h fa_X0_32 (isBk_o hb) dX0_note_23 rfl ?_
    refine jx_iload_n h dX0_note_26 rfl 2 rfl ?_
    refine jx_aaload h (isBk_7 hb) dX0_note_27 (fun hr7 => ?_)
    refine jx_iload_n h dX0_note_28 rfl 3 rfl ?_
    refine jx_iload h dX0_note_29 5 rfl ?_
    refine jx_iastore h (isBk_r hb hr7) dX0_note_31 (fun s8 => ?_)
    refine jx_goto (tgt := 78) h dX0_note_32 rfl ?_
    exact jx_vret h dX0_note_78
noncomputable def st_X0_tiredBehind_6 (N : Nat) (b : Nat) (x1 : Int32) (x2 : Int32) (x3 : Int32)  (rec : Int32 → Int32 → Mem → Option (Int32 × Mem)) (x4 : Int32) (x5 : Int32) (s0 : Mem) : Option (Int32 × Mem) :=
  if 3 ≤ x5 then (some (x4, s0)) else if x2 ≤ x5 then (chk (x5 - x2) 3 (lt (x4 + (((gi s0 (b + 14) (ix (x5 - x2))) >>> (x1 &&& 31)) &&& 1)) (fun v1 => lt (x5 + 1) (fun x5_2 => rec v1 x5_2 s0)))) else lt (x4 + x3) (fun v3 => lt (x5 + 1) (fun x5_4 => rec v3 x5_4 s0))
noncomputable def f_X0_tiredBehind (N : Nat) (b : Nat) (x1 : Int32) (x2 : Int32) (x3 : Int32) (s : Mem) : Option (Int32 × Mem) :=
  itr (fun _ _ _ => none) (st_X0_tiredBehind_6 N b x1 x2 x3) N 0 0 s
set_option maxRecDepth 20000 in
theorem w_X0_tiredBehind_6 {G : Gx} (hG : Gok G ∧ IsG G layC fsoC) {P : Option (Int32 × Mem) → Nat → List (Nat × Value) → List Value → Mem → Prop} (h : Jk G layC fsoC RX0 cX0_tiredBehind 6 (some .int) 0 tvI P) (N : Nat) (b : Nat) (hb : isBk b = true) (x1 : Int32) (x2 : Int32) (x3 : Int32) {rec : Int32 → Int32 → Mem → Option (Int32 × Mem)} (ih : ∀ (x4 : Int32) (x5 : Int32) (s : Mem), P (rec x4 x5 s) 6 [(0, .ref (Ga G b)), (1, .int x1), (2, .int x2), (3, .int x3), (4, .int x4), (5, .int x5)] [] s) : ∀ (x4 : Int32) (x5 : Int32) (s : Mem), P (st_X0_tiredBehind_6 N b x1 x2 x3 rec x4 x5 s) 6 [(0, .ref (Ga G b)), (1, .int x1), (2, .int x2), (3, .int x3), (4, .int x4), (5, .int x5)] [] s := by
  intro x4 x5 s0
  unfold st_X0_tiredBehind_6
  refine jx_iload h dX0_tiredBehind_6 5 rfl ?_
  refine jx_iconst h dX0_tiredBehind_8 ki_3 ?_
  refine jx_icmp_ge (tgt := 51) h dX0_tiredBehind_9 rfl ?_ ?_
  · refine jx_iload h dX0_tiredBehind_51 4 rfl ?_
    exact jx_iret h dX0_tiredBehind_53
  · refine jx_iload h dX0_tiredBehind_12 5 rfl ?_
    refine jx_iload_n h dX0_tiredBehind_14 rfl 2 rfl ?_
    refine jx_icmp_ge (tgt := 27) h dX0_tiredBehind_15 rfl ?_ ?_
    · refine jx_iload h dX0_tiredBehind_27 4 rfl ?_
      refine jx_aload_n h dX0_tiredBehind_29 rfl 0 rfl ?_
      refine jx_get (v := .ref (Ga G (b + 14))) h fa_X0_35 (isBk_o hb) dX0_tiredBehind_30 rfl ?_
      refine jx_iload h dX0_tiredBehind_33 5 rfl ?_
      refine jx_iload_n h dX0_tiredBehind_35 rfl 2 rfl ?_
      refine jx_isub h dX0_tiredBehind_36 ?_
      refine jx_iaload h (isBk_14 hb) dX0_tiredBehind_37 ?_
      refine jx_iload_n h dX0_tiredBehind_38 rfl 1 rfl ?_
      refine jx_ishr h dX0_tiredBehind_39 ?_
      refine jx_iconst h dX0_tiredBehind_40 ki_1 ?_
      refine jx_iand h dX0_tiredBehind_41 ?_
      refine jx_iadd h dX0_tiredBehind_42 ?_
      refine jx_lti (fun v1 => ?_)
      refine jx_istore (lv' := [(4, .int v1), (0, .ref (Ga G b)), (1, .int x1), (2, .int x2), (3, .int x3), (5, .int x5)]) h dX0_tiredBehind_43 (Nat.le_of_ble_eq_true rfl) rfl ?_
      refine jx_iincl (L := fun w => [(5, .int w), (4, .int v1), (0, .ref (Ga G b)), (1, .int x1), (2, .int x2), (3, .int x3)]) h dX0_tiredBehind_45 5 rfl (kn_1 _) (Nat.le_of_ble_eq_true rfl) (fun _ => rfl) (fun x5_2 => ?_)
      refine jx_goto (tgt := 6) h dX0_tiredBehind_48 rfl ?_
      exact jx_subk [2, 3, 4, 5, 1, 0] h (ih v1 x5_2 s0) rfl
    · refine jx_iload h dX0_tiredBehind_18 4 rfl ?_
      refine jx_iload_n h dX0_tiredBehind_20 rfl 3 rfl ?_
      refine jx_iadd h dX0_tiredBehind_21 ?_
      refine jx_lti (fun v3 => ?_)
      refine jx_istore (lv' := [(4, .int v3), (0, .ref (Ga G b)), (1, .int x1), (2, .int x2), (3, .int x3), (5, .int x5)]) h dX0_tiredBehind_22 (Nat.le_of_ble_eq_true rfl) rfl ?_
      refine jx_goto (tgt := 45) h dX0_tiredBehind_24 rfl ?_
      refine jx_iincl (L := fun w => [(5, .int w), (4, .int v3), (0, .ref (Ga G b)), (1, .int x1), (2, .int x2), (3, .int x3)]) h dX0_tiredBehind_45 5 rfl (kn_1 _) (Nat.le_of_ble_eq_true rfl) (fun _ => rfl) (fun x5_4 => ?_)
      refine jx_goto (tgt := 6) h dX0_tiredBehind_48 rfl ?_
      exact jx_subk [2, 3, 4, 5, 1, 0] h (ih v3 x5_4 s0) rfl
set_option maxRecDepth 20000 in
theorem c_X0_tiredBehind {G : Gx} (hG : Gok G ∧ IsG G layC fsoC) (N : Nat) (b : Nat) (hb : isBk b = true) (x1 : Int32) (x2 : Int32) (x3 : Int32) (s : Mem) : Ct G yX0_tiredBehind cX0_tiredBehind 6 (some .int) 0 [.ref (Ga G b), .int x1, .int x2, .int x3] tvI s (f_X0_tiredBehind N b x1 x2 x3 s) := by
  refine Ct.of hG (by decide) (Nat.le_of_ble_eq_true rfl) (fun P h => ?_)
  show P _ 0 [(0, .ref (Ga G b)), (1, .int x1), (2, .int x2), (3, .int x3)] [] s
  unfold f_X0_tiredBehind
  refine jx_iconst h dX0_tiredBehind_0 ki_0 ?_
  refine jx_istore (lv' := [(4, .int 0), (0, .ref (Ga G b)), (1, .int x1), (2, .int x2), (3, .int x3)]) h dX0_tiredBehind_1 (Nat.le_of_ble_eq_true rfl) rfl ?_
  refine jx_iconst h dX0_tiredBehind_3 ki_0 ?_
  refine jx_istore (lv' := [(5, .int 0), (4, .int 0), (0, .ref (Ga G b)), (1, .int x1), (2, .int x2), (3, .int x3)]) h dX0_tiredBehind_4 (Nat.le_of_ble_eq_true rfl) rfl ?_
  refine jx_subk [2, 3, 4, 5, 1, 0] h (itr_ind (Q := (fun (f : Int32 → Int32 → Mem → Option (Int32 × Mem)) => ∀ (x4 : Int32) (x5 : Int32) (s : Mem), P (f x4 x5 s) 6 [(0, .ref (Ga G b)), (1, .int x1), (2, .int x2), (3, .int x3), (4, .int x4), (5, .int x5)] [] s)) (fun _ _ _ => jx_none h) (fun r6 ih6 => ?_) N 0 0 s) rfl
  refine w_X0_tiredBehind_6 hG h N b hb x1 x2 x3  ih6
noncomputable def f_X0_tired (N : Nat) (b : Nat) (x1 : Int32) (s : Mem) : Option (Int32 × Mem) :=
  bd (f_X0_tiredBehind N b x1 0 0 s) (fun r2 s1 => some (r2, s1))
set_option maxRecDepth 20000 in
theorem c_X0_tired {G : Gx} (hG : Gok G ∧ IsG G layC fsoC) (N : Nat) (b : Nat) (hb : isBk b = true) (x1 : Int32) (s : Mem) : Ct G yX0_tired cX0_tired 2 (some .int) 1 [.ref (Ga G b), .int x1] tvI s (f_X0_tired N b x1 s) := by
  refine Ct.of hG (by decide) (Nat.le_of_ble_eq_true rfl) (fun P h => ?_)
  show P _ 0 [(0, .ref (Ga G b)), (1, .int x1)] [] s
  unfold f_X0_tired
  refine jx_aload_n h dX0_tired_0 rfl 0 rfl ?_
  refine jx_iload_n h dX0_tired_1 rfl 1 rfl ?_
  refine jx_iconst h dX0_tired_2 ki_0 ?_
  refine jx_iconst h dX0_tired_3 ki_0 ?_
  refine jx_callVi [] h (isBk_o hb) (c_X0_tiredBehind hG N b hb x1 0 0 s) ml_X0_82 (Nat.le_of_ble_eq_true rfl) (Nat.le_of_ble_eq_true rfl) dX0_tired_4 (Nat.le_of_ble_eq_true rfl) rfl (fun r2 s1 => ?_)
  exact jx_iret h dX0_tired_7
noncomputable def f_X0_taleOrLoss (N : Nat) (b : Nat) (x1 : Int32) (x2 : Int32) (s : Mem) : Option (Int32 × Mem) :=
  chk x1 6 (bd (f_X9_hasBit N (gi s (b + 5) (ix x1)) x2 s) (fun r2 s1 => if r2 = 0 then (chk x1 6 (some (gi s1 (b + 3) (ix x1), s1))) else chk x1 6 (chk x2 12 (some (gi s1 ((b + 7) + 1 + ix x1) (ix x2), s1)))))
set_option maxRecDepth 20000 in
theorem c_X0_taleOrLoss {G : Gx} (hG : Gok G ∧ IsG G layC fsoC) (N : Nat) (b : Nat) (hb : isBk b = true) (x1 : Int32) (x2 : Int32) (s : Mem) : Ct G yX0_taleOrLoss cX0_taleOrLoss 3 (some .int) 1 [.ref (Ga G b), .int x1, .int x2] tvI s (f_X0_taleOrLoss N b x1 x2 s) := by
  refine Ct.of hG (by decide) (Nat.le_of_ble_eq_true rfl) (fun P h => ?_)
  show P _ 0 [(0, .ref (Ga G b)), (1, .int x1), (2, .int x2)] [] s
  unfold f_X0_taleOrLoss
  refine jx_aload_n h dX0_taleOrLoss_0 rfl 0 rfl ?_
  refine jx_get (v := .ref (Ga G (b + 5))) h fa_X0_24 (isBk_o hb) dX0_taleOrLoss_1 rfl ?_
  refine jx_iload_n h dX0_taleOrLoss_4 rfl 1 rfl ?_
  refine jx_iaload h (isBk_5 hb) dX0_taleOrLoss_5 ?_
  refine jx_iload_n h dX0_taleOrLoss_6 rfl 2 rfl ?_
  refine jx_callSi [] h (c_X9_hasBit hG N (gi s (b + 5) (ix x1)) x2 s) ml_X0_67 (Nat.le_of_ble_eq_true rfl) (Nat.le_of_ble_eq_true rfl) dX0_taleOrLoss_7 (Nat.le_of_ble_eq_true rfl) rfl (fun r2 s1 => ?_)
  refine jx_if_eq (tgt := 24) h dX0_taleOrLoss_10 rfl ?_ ?_
  · refine jx_aload_n h dX0_taleOrLoss_24 rfl 0 rfl ?_
    refine jx_get (v := .ref (Ga G (b + 3))) h fa_X0_18 (isBk_o hb) dX0_taleOrLoss_25 rfl ?_
    refine jx_iload_n h dX0_taleOrLoss_28 rfl 1 rfl ?_
    refine jx_iaload h (isBk_3 hb) dX0_taleOrLoss_29 ?_
    exact jx_iret h dX0_taleOrLoss_30
  · refine jx_aload_n h dX0_taleOrLoss_13 rfl 0 rfl ?_
    refine jx_get (v := .ref (Ga G (b + 7))) h fa_X0_32 (isBk_o hb) dX0_taleOrLoss_14 rfl ?_
    refine jx_iload_n h dX0_taleOrLoss_17 rfl 1 rfl ?_
    refine jx_aaload h (isBk_7 hb) dX0_taleOrLoss_18 (fun hr3 => ?_)
    refine jx_iload_n h dX0_taleOrLoss_19 rfl 2 rfl ?_
    refine jx_iaload h (isBk_r hb hr3) dX0_taleOrLoss_20 ?_
    refine jx_goto (tgt := 30) h dX0_taleOrLoss_21 rfl ?_
    exact jx_iret h dX0_taleOrLoss_30
noncomputable def f_X4_askBy (N : Nat) (b : Nat) (x1 : Int32) (x2 : Int32) (x3 : Int32) (s : Mem) : Option (Unit × Mem) :=
  chk 11 26 (lt (si s (b + 7) (ix (11 : Int32)) x1) (fun s1 => chk 3 26 (lt (si s1 (b + 7) (ix (3 : Int32)) x2) (fun s2 => chk 12 26 (lt (si s2 (b + 7) (ix (12 : Int32)) (x3 - x3 / 12 * 12)) (fun s3 => some ((), s3)))))))
set_option maxRecDepth 20000 in
theorem c_X4_askBy {G : Gx} (hG : Gok G ∧ IsG G layC fsoC) (N : Nat) (b : Nat) (hb : isLw b = true) (x1 : Int32) (x2 : Int32) (x3 : Int32) (s : Mem) : Ct G yX4_askBy cX4_askBy 4 none 0 [.ref (Ga G b), .int x1, .int x2, .int x3] tvV s (f_X4_askBy N b x1 x2 x3 s) := by
  refine Ct.of hG (by decide) (Nat.le_of_ble_eq_true rfl) (fun P h => ?_)
  show P _ 0 [(0, .ref (Ga G b)), (1, .int x1), (2, .int x2), (3, .int x3)] [] s
  unfold f_X4_askBy
  refine jx_aload_n h dX4_askBy_0 rfl 0 rfl ?_
  refine jx_get (v := .ref (Ga G (b + 7))) h fa_X4_29 (isLw_o hb) dX4_askBy_1 rfl ?_
  refine jx_bipush h dX4_askBy_4 kb_11 ?_
  refine jx_iload_n h dX4_askBy_6 rfl 1 rfl ?_
  refine jx_iastore h (isLw_7 hb) dX4_askBy_7 (fun s1 => ?_)
  refine jx_aload_n h dX4_askBy_8 rfl 0 rfl ?_
  refine jx_get (v := .ref (Ga G (b + 7))) h fa_X4_29 (isLw_o hb) dX4_askBy_9 rfl ?_
  refine jx_iconst h dX4_askBy_12 ki_3 ?_
  refine jx_iload_n h dX4_askBy_13 rfl 2 rfl ?_
  refine jx_iastore h (isLw_7 hb) dX4_askBy_14 (fun s2 => ?_)
  refine jx_aload_n h dX4_askBy_15 rfl 0 rfl ?_
  refine jx_get (v := .ref (Ga G (b + 7))) h fa_X4_29 (isLw_o hb) dX4_askBy_16 rfl ?_
  refine jx_bipush h dX4_askBy_19 kb_12 ?_
  refine jx_iload_n h dX4_askBy_21 rfl 3 rfl ?_
  refine jx_bipush h dX4_askBy_22 kb_12 ?_
  refine jx_iremc h (by decide) dX4_askBy_24 ?_
  refine jx_iastore h (isLw_7 hb) dX4_askBy_25 (fun s3 => ?_)
  exact jx_vret h dX4_askBy_26
noncomputable def f_X4_askOf (N : Nat) (b : Nat) (x1 : Int32) (x2 : Int32) (x3 : Int32) (x4 : Int32) (s : Mem) : Option (Unit × Mem) :=
  chk 15 26 (lt (si s (b + 7) (ix (15 : Int32)) x1) (fun s1 => chk 22 26 (lt (si s1 (b + 7) (ix (22 : Int32)) x2) (fun s2 => chk 17 26 (lt (si s2 (b + 7) (ix (17 : Int32)) x3) (fun s3 => chk 10 26 (lt (si s3 (b + 7) (ix (10 : Int32)) x4) (fun s4 => some ((), s4)))))))))
set_option maxRecDepth 20000 in
theorem c_X4_askOf {G : Gx} (hG : Gok G ∧ IsG G layC fsoC) (N : Nat) (b : Nat) (hb : isLw b = true) (x1 : Int32) (x2 : Int32) (x3 : Int32) (x4 : Int32) (s : Mem) : Ct G yX4_askOf cX4_askOf 5 none 0 [.ref (Ga G b), .int x1, .int x2, .int x3, .int x4] tvV s (f_X4_askOf N b x1 x2 x3 x4 s) := by
  refine Ct.of hG (by decide) (Nat.le_of_ble_eq_true rfl) (fun P h => ?_)
  show P _ 0 [(0, .ref (Ga G b)), (1, .int x1), (2, .int x2), (3, .int x3), (4, .int x4)] [] s
  unfold f_X4_askOf
  refine jx_aload_n h dX4_askOf_0 rfl 0 rfl ?_
  refine jx_get (v := .ref (Ga G (b + 7))) h fa_X4_29 (isLw_o hb) dX4_askOf_1 rfl ?_
  refine jx_bipush h dX4_askOf_4 kb_15 ?_
  refine jx_iload_n h dX4_askOf_6 rfl 1 rfl ?_
  refine jx_iastore h (isLw_7 hb) dX4_askOf_7 (fun s1 => ?_)
  refine jx_aload_n h dX4_askOf_8 rfl 0 rfl ?_
  refine jx_get (v := .ref (Ga G (b + 7))) h fa_X4_29 (isLw_o hb) dX4_askOf_9 rfl ?_
  refine jx_bipush h dX4_askOf_12 kb_22 ?_
  refine jx_iload_n h dX4_askOf_14 rfl 2 rfl ?_
  refine jx_iastore h (isLw_7 hb) dX4_askOf_15 (fun s2 => ?_)
  refine jx_aload_n h dX4_askOf_16 rfl 0 rfl ?_
  refine jx_get (v := .ref (Ga G (b + 7))) h fa_X4_29 (isLw_o hb) dX4_askOf_17 rfl ?_
  refine jx_bipush h dX4_askOf_20 kb_17 ?_
  refine jx_iload_n h dX4_askOf_22 rfl 3 rfl ?_
  refine jx_iastore h (isLw_7 hb) dX4_askOf_23 (fun s3 => ?_)
  refine jx_aload_n h dX4_askOf_24 rfl 0 rfl ?_
  refine jx_get (v := .ref (Ga G (b + 7))) h fa_X4_29 (isLw_o hb) dX4_askOf_25 rfl ?_
  refine jx_bipush h dX4_askOf_28 kb_10 ?_
  refine jx_iload h dX4_askOf_30 4 rfl ?_
  refine jx_iastore h (isLw_7 hb) dX4_askOf_32 (fun s4 => ?_)
  exact jx_vret h dX4_askOf_33
noncomputable def f_X4_isFact (N : Nat) (x0 : Int32) (s : Mem) : Option (Int32 × Mem) :=
  if x0 < 97 then (some (0, s)) else if 122 < x0 then (some (0, s)) else some (1, s)
set_option maxRecDepth 20000 in
theorem c_X4_isFact {G : Gx} (hG : Gok G ∧ IsG G layC fsoC) (N : Nat) (x0 : Int32) (s : Mem) : Ct G yX4_isFact cX4_isFact 1 (some .boolean) 0 [.int x0] tvI s (f_X4_isFact N x0 s) := by
  refine Ct.of hG (by decide) (Nat.le_of_ble_eq_true rfl) (fun P h => ?_)
  show P _ 0 [(0, .int x0)] [] s
  unfold f_X4_isFact
  refine jx_iload_n h dX4_isFact_0 rfl 0 rfl ?_
  refine jx_bipush h dX4_isFact_1 kb_97 ?_
  refine jx_icmp_lt (tgt := 16) h dX4_isFact_3 rfl ?_ ?_
  · refine jx_iconst h dX4_isFact_16 ki_0 ?_
    exact jx_zret h rfl dX4_isFact_17
  · refine jx_iload_n h dX4_isFact_6 rfl 0 rfl ?_
    refine jx_bipush h dX4_isFact_7 kb_122 ?_
    refine jx_icmp_gt (tgt := 16) h dX4_isFact_9 rfl ?_ ?_
    · refine jx_iconst h dX4_isFact_16 ki_0 ?_
      exact jx_zret h rfl dX4_isFact_17
    · refine jx_iconst h dX4_isFact_12 ki_1 ?_
      refine jx_goto (tgt := 17) h dX4_isFact_13 rfl ?_
      exact jx_zret h rfl dX4_isFact_17
noncomputable def f_X4_joined (N : Nat) (x0 : Int32) (x1 : Int64) (x3 : Int64) (s : Mem) : Option (Int64 × Mem) :=
  if x0 = 38 then (if (lg_cmp x1 1) = 0 then (some (x3, s)) else some (x1, s)) else if x0 = 124 then (if (lg_cmp x1 0) = 0 then (some (x3, s)) else some (x1, s)) else if (lg_cmp x1 1099511627776) = 0 then (some (1099511627776, s)) else if (lg_cmp x3 1099511627776) = 0 then (some (1099511627776, s)) else if x0 = 37 then (if (lg_cmp x3 0) = 0 then (some (1099511627776, s)) else ckl x3 (some (((x1 - x1 / x3 * x3).toInt32).toInt64, s))) else if x0 = 42 then (some (((x1 * x3).toInt32).toInt64, s)) else if x0 = 43 then (some (((x1 + x3).toInt32).toInt64, s)) else if x0 = 45 then (some (((x1 - x3).toInt32).toInt64, s)) else if x0 = 47 then (if (lg_cmp x3 0) = 0 then (some (1099511627776, s)) else ckl x3 (some (((x1 / x3).toInt32).toInt64, s))) else if x0 = 60 then (if 0 ≤ (lg_cmp x1 x3) then (some (0, s)) else some (1, s)) else if x0 = 62 then (if (lg_cmp x1 x3) ≤ 0 then (some (0, s)) else some (1, s)) else if (lg_cmp x1 x3) = 0 then (some (1, s)) else some (0, s)
set_option maxRecDepth 20000 in
theorem c_X4_joined {G : Gx} (hG : Gok G ∧ IsG G layC fsoC) (N : Nat) (x0 : Int32) (x1 : Int64) (x3 : Int64) (s : Mem) : Ct G yX4_joined cX4_joined 5 (some .long) 0 [.int x0, .long x1, .long x3] tvL s (f_X4_joined N x0 x1 x3 s) := by
  refine Ct.of hG (by decide) (Nat.le_of_ble_eq_true rfl) (fun P h => ?_)
  show P _ 0 [(0, .int x0), (1, .long x1), (3, .long x3)] [] s
  unfold f_X4_joined
  refine jx_iload_n h dX4_joined_0 rfl 0 rfl ?_
  refine jx_bipush h dX4_joined_1 kb_38 ?_
  refine jx_icmp_ne (tgt := 18) h dX4_joined_3 rfl ?_ ?_
  · refine jx_iload_n h dX4_joined_18 rfl 0 rfl ?_
    refine jx_bipush h dX4_joined_19 kb_124 ?_
    refine jx_icmp_ne (tgt := 36) h dX4_joined_21 rfl ?_ ?_
    · refine jx_lload_n h dX4_joined_36 rfl 1 rfl ?_
      refine jx_ldc2 h dX4_joined_37 kw_X4_43 ?_
      refine jx_lcmp h dX4_joined_40 ?_
      refine jx_if_eq (tgt := 52) h dX4_joined_41 rfl ?_ ?_
      · refine jx_ldc2 h dX4_joined_52 kw_X4_43 ?_
        exact jx_lret h dX4_joined_55
      · refine jx_lload_n h dX4_joined_44 rfl 2 rfl ?_
        refine jx_ldc2 h dX4_joined_45 kw_X4_43 ?_
        refine jx_lcmp h dX4_joined_48 ?_
        refine jx_if_ne (tgt := 56) h dX4_joined_49 rfl ?_ ?_
        · refine jx_iload_n h dX4_joined_56 rfl 0 rfl ?_
          refine jx_lookup (off := 103) (tgt := 160) h dX4_joined_57 (by decide) (by decide) rfl ?_ (fun n57_37 => ?_)
          · refine jx_lload_n h dX4_joined_160 rfl 2 rfl ?_
            refine jx_lconst (v := 0) h dX4_joined_161 rfl ?_
            refine jx_lcmp h dX4_joined_162 ?_
            refine jx_if_ne (tgt := 172) h dX4_joined_163 rfl ?_ ?_
            · refine jx_lload_n h dX4_joined_172 rfl 1 rfl ?_
              refine jx_lload_n h dX4_joined_173 rfl 2 rfl ?_
              refine jx_lrem h dX4_joined_174 ?_
              refine jx_l2i h dX4_joined_175 ?_
              refine jx_i2l h dX4_joined_176 ?_
              exact jx_lret h dX4_joined_177
            · refine jx_ldc2 h dX4_joined_166 kw_X4_43 ?_
              refine jx_goto (tgt := 177) h dX4_joined_169 rfl ?_
              exact jx_lret h dX4_joined_177
          · refine jx_lookup (off := 79) (tgt := 136) h dX4_joined_57 (by decide) (by decide) rfl ?_ (fun n57_42 => ?_)
            · refine jx_lload_n h dX4_joined_136 rfl 1 rfl ?_
              refine jx_lload_n h dX4_joined_137 rfl 2 rfl ?_
              refine jx_lmul h dX4_joined_138 ?_
              refine jx_l2i h dX4_joined_139 ?_
              refine jx_i2l h dX4_joined_140 ?_
              exact jx_lret h dX4_joined_141
            · refine jx_lookup (off := 67) (tgt := 124) h dX4_joined_57 (by decide) (by decide) rfl ?_ (fun n57_43 => ?_)
              · refine jx_lload_n h dX4_joined_124 rfl 1 rfl ?_
                refine jx_lload_n h dX4_joined_125 rfl 2 rfl ?_
                refine jx_ladd h dX4_joined_126 ?_
                refine jx_l2i h dX4_joined_127 ?_
                refine jx_i2l h dX4_joined_128 ?_
                exact jx_lret h dX4_joined_129
              · refine jx_lookup (off := 73) (tgt := 130) h dX4_joined_57 (by decide) (by decide) rfl ?_ (fun n57_45 => ?_)
                · refine jx_lload_n h dX4_joined_130 rfl 1 rfl ?_
                  refine jx_lload_n h dX4_joined_131 rfl 2 rfl ?_
                  refine jx_lsub h dX4_joined_132 ?_
                  refine jx_l2i h dX4_joined_133 ?_
                  refine jx_i2l h dX4_joined_134 ?_
                  exact jx_lret h dX4_joined_135
                · refine jx_lookup (off := 85) (tgt := 142) h dX4_joined_57 (by decide) (by decide) rfl ?_ (fun n57_47 => ?_)
                  · refine jx_lload_n h dX4_joined_142 rfl 2 rfl ?_
                    refine jx_lconst (v := 0) h dX4_joined_143 rfl ?_
                    refine jx_lcmp h dX4_joined_144 ?_
                    refine jx_if_ne (tgt := 154) h dX4_joined_145 rfl ?_ ?_
                    · refine jx_lload_n h dX4_joined_154 rfl 1 rfl ?_
                      refine jx_lload_n h dX4_joined_155 rfl 2 rfl ?_
                      refine jx_ldiv h dX4_joined_156 ?_
                      refine jx_l2i h dX4_joined_157 ?_
                      refine jx_i2l h dX4_joined_158 ?_
                      exact jx_lret h dX4_joined_159
                    · refine jx_ldc2 h dX4_joined_148 kw_X4_43 ?_
                      refine jx_goto (tgt := 159) h dX4_joined_151 rfl ?_
                      exact jx_lret h dX4_joined_159
                  · refine jx_lookup (off := 121) (tgt := 178) h dX4_joined_57 (by decide) (by decide) rfl ?_ (fun n57_60 => ?_)
                    · refine jx_lload_n h dX4_joined_178 rfl 1 rfl ?_
                      refine jx_lload_n h dX4_joined_179 rfl 2 rfl ?_
                      refine jx_lcmp h dX4_joined_180 ?_
                      refine jx_if_ge (tgt := 188) h dX4_joined_181 rfl ?_ ?_
                      · refine jx_lconst (v := 0) h dX4_joined_188 rfl ?_
                        exact jx_lret h dX4_joined_189
                      · refine jx_lconst (v := 1) h dX4_joined_184 rfl ?_
                        refine jx_goto (tgt := 189) h dX4_joined_185 rfl ?_
                        exact jx_lret h dX4_joined_189
                    · refine jx_lookup (off := 133) (tgt := 190) h dX4_joined_57 (by decide) (by decide) rfl ?_ (fun n57_62 => ?_)
                      · refine jx_lload_n h dX4_joined_190 rfl 1 rfl ?_
                        refine jx_lload_n h dX4_joined_191 rfl 2 rfl ?_
                        refine jx_lcmp h dX4_joined_192 ?_
                        refine jx_if_le (tgt := 200) h dX4_joined_193 rfl ?_ ?_
                        · refine jx_lconst (v := 0) h dX4_joined_200 rfl ?_
                          exact jx_lret h dX4_joined_201
                        · refine jx_lconst (v := 1) h dX4_joined_196 rfl ?_
                          refine jx_goto (tgt := 201) h dX4_joined_197 rfl ?_
                          exact jx_lret h dX4_joined_201
                      · refine jx_lookdef (tgt := 202) h dX4_joined_57 (by decide) (by have a0 := i32ne n57_37 (k := 37) rfl; have a1 := i32ne n57_42 (k := 42) rfl; have a2 := i32ne n57_43 (k := 43) rfl; have a3 := i32ne n57_45 (k := 45) rfl; have a4 := i32ne n57_47 (k := 47) rfl; have a5 := i32ne n57_60 (k := 60) rfl; have a6 := i32ne n57_62 (k := 62) rfl; simp [Op.lookupswitch.offset, List.find?, a0, a0.symm, a1, a1.symm, a2, a2.symm, a3, a3.symm, a4, a4.symm, a5, a5.symm, a6, a6.symm]) rfl ?_
                        refine jx_lload_n h dX4_joined_202 rfl 1 rfl ?_
                        refine jx_lload_n h dX4_joined_203 rfl 2 rfl ?_
                        refine jx_lcmp h dX4_joined_204 ?_
                        refine jx_if_ne (tgt := 212) h dX4_joined_205 rfl ?_ ?_
                        · refine jx_lconst (v := 0) h dX4_joined_212 rfl ?_
                          exact jx_lret h dX4_joined_213
                        · refine jx_lconst (v := 1) h dX4_joined_208 rfl ?_
                          refine jx_goto (tgt := 213) h dX4_joined_209 rfl ?_
                          exact jx_lret h dX4_joined_213
        · refine jx_ldc2 h dX4_joined_52 kw_X4_43 ?_
          exact jx_lret h dX4_joined_55
    · refine jx_lload_n h dX4_joined_24 rfl 1 rfl ?_
      refine jx_lconst (v := 0) h dX4_joined_25 rfl ?_
      refine jx_lcmp h dX4_joined_26 ?_
      refine jx_if_ne (tgt := 34) h dX4_joined_27 rfl ?_ ?_
      · refine jx_lload_n h dX4_joined_34 rfl 1 rfl ?_
        exact jx_lret h dX4_joined_35
      · refine jx_lload_n h dX4_joined_30 rfl 2 rfl ?_
        refine jx_goto (tgt := 35) h dX4_joined_31 rfl ?_
        exact jx_lret h dX4_joined_35
  · refine jx_lload_n h dX4_joined_6 rfl 1 rfl ?_
    refine jx_lconst (v := 1) h dX4_joined_7 rfl ?_
    refine jx_lcmp h dX4_joined_8 ?_
    refine jx_if_ne (tgt := 16) h dX4_joined_9 rfl ?_ ?_
    · refine jx_lload_n h dX4_joined_16 rfl 1 rfl ?_
      exact jx_lret h dX4_joined_17
    · refine jx_lload_n h dX4_joined_12 rfl 2 rfl ?_
      refine jx_goto (tgt := 17) h dX4_joined_13 rfl ?_
      exact jx_lret h dX4_joined_17
noncomputable def st_X4_worth_5 (N : Nat) (b : Nat) (x2 : Int32) (k172 : Int32 → Mem → Option (Int64 × Mem)) (rec : Int32 → Int32 → Mem → Option (Int64 × Mem)) (x3 : Int32) (x4 : Int32) (s0 : Mem) : Option (Int64 × Mem) :=
  if x2 ≤ x4 then (k172 x3 s0) else if 240 ≤ x4 then (k172 x3 s0) else chk x4 240 (lt (gi s0 (b + 5) (ix x4)) (fun v1 => lt (fun  (s2 : Mem) => if 32 ≤ x3 then (lt (x4 + 1) (fun x4_3 => rec x3 x4_3 s2)) else if v1 < 0 then (chk ((-v1) - 97) 26 (chk x3 32 (lt (sl s2 (b + 6) (ix x3) ((gi s2 (b + 7) (ix ((-v1) - 97))).toInt64)) (fun s4 => lt (x3 + 1) (fun x3_5 => lt (x4 + 1) (fun x4_6 => rec x3_5 x4_6 s4)))))) else chk x3 32 (lt (sl s2 (b + 6) (ix x3) v1.toInt64) (fun s7 => lt (x3 + 1) (fun x3_8 => lt (x4 + 1) (fun x4_9 => rec x3_8 x4_9 s7))))) (fun j42 => if 0 ≤ v1 then (j42 s0) else bd (f_X4_isFact N (-v1) s0) (fun r11 s10 => if r11 = 0 then (if v1 = (-33) then (if x3 ≤ 0 then (lt (x4 + 1) (fun x4_18 => rec x3 x4_18 s10)) else chk (x3 - 1) 32 (if (lg_cmp (gl s10 (b + 6) (ix (x3 - 1))) 1099511627776) = 0 then (lt (x4 + 1) (fun x4_19 => rec x3 x4_19 s10)) else chk (x3 - 1) 32 (chk (x3 - 1) 32 (lt (sl s10 (b + 6) (ix (x3 - 1)) (1 - (gl s10 (b + 6) (ix (x3 - 1))))) (fun s20 => lt (x4 + 1) (fun x4_21 => rec x3 x4_21 s20)))))) else if x3 ≤ 1 then (lt (x4 + 1) (fun x4_12 => rec x3 x4_12 s10)) else lt (x3 + (-1)) (fun x3_13 => chk (x3_13 - 1) 32 (chk x3_13 32 (bd (f_X4_joined N (-v1) (gl s10 (b + 6) (ix (x3_13 - 1))) (gl s10 (b + 6) (ix x3_13)) s10) (fun r15 s14 => chk (x3_13 - 1) 32 (lt (sl s14 (b + 6) (ix (x3_13 - 1)) r15) (fun s16 => lt (x4 + 1) (fun x4_17 => rec x3_13 x4_17 s16)))))))) else j42 s10))))
noncomputable def f_X4_worth (N : Nat) (b : Nat) (x1 : Int32) (x2 : Int32) (s : Mem) : Option (Int64 × Mem) :=
  itr (fun _ _ _ => none) (st_X4_worth_5 N b x2 (fun (x3_23 : Int32) (s22 : Mem) => if x3_23 ≤ 0 then (some (1099511627776, s22)) else chk (x3_23 - 1) 32 (some (gl s22 (b + 6) (ix (x3_23 - 1)), s22)))) N 0 x1 s
set_option maxRecDepth 20000 in
theorem w_X4_worth_5 {G : Gx} (hG : Gok G ∧ IsG G layC fsoC) {P : Option (Int64 × Mem) → Nat → List (Nat × Value) → List Value → Mem → Prop} (h : Jk G layC fsoC RX4 cX4_worth 6 (some .long) 1 tvL P) (N : Nat) (b : Nat) (hb : isLw b = true) (x2 : Int32) {k172 : Int32 → Mem → Option (Int64 × Mem)} (hk172 : ∀ (x3 : Int32) (s : Mem), P (k172 x3 s) 172 [(0, .ref (Ga G b)), (3, .int x3)] [] s) {rec : Int32 → Int32 → Mem → Option (Int64 × Mem)} (ih : ∀ (x3 : Int32) (x4 : Int32) (s : Mem), P (rec x3 x4 s) 5 [(0, .ref (Ga G b)), (2, .int x2), (3, .int x3), (4, .int x4)] [] s) : ∀ (x3 : Int32) (x4 : Int32) (s : Mem), P (st_X4_worth_5 N b x2 k172 rec x3 x4 s) 5 [(0, .ref (Ga G b)), (2, .int x2), (3, .int x3), (4, .int x4)] [] s := by
  intro x3 x4 s0
  unfold st_X4_worth_5
  refine jx_iload h dX4_worth_5 3 rfl ?_
  refine jx_iload_n h dX4_worth_7 rfl 1 rfl ?_
  refine jx_icmp_ge (tgt := 172) h dX4_worth_8 rfl ?_ ?_
  · exact jx_subk [0, 2] h (hk172 x3 s0) rfl
  · refine jx_iload h dX4_worth_11 3 rfl ?_
    refine jx_sipush h dX4_worth_13 ks_240 ?_
    refine jx_icmp_ge (tgt := 172) h dX4_worth_16 rfl ?_ ?_
    · exact jx_subk [0, 2] h (hk172 x3 s0) rfl
    · refine jx_aload_n h dX4_worth_19 rfl 0 rfl ?_
      refine jx_get (v := .ref (Ga G (b + 5))) h fa_X4_22 (isLw_o hb) dX4_worth_20 rfl ?_
      refine jx_iload h dX4_worth_23 3 rfl ?_
      refine jx_iaload h (isLw_5 hb) dX4_worth_25 ?_
      refine jx_lti (fun v1 => ?_)
      refine jx_istore (lv' := [(5, .int v1), (0, .ref (Ga G b)), (2, .int x2), (3, .int x3), (4, .int x4)]) h dX4_worth_26 (Nat.le_of_ble_eq_true rfl) rfl ?_
      refine jx_iload h dX4_worth_28 0 rfl ?_
      refine jx_join (fun (j : Mem → Option (Int64 × Mem)) => ∀  (s2 : Mem), P (j  s2) 42 [(0, .ref (Ga G b)), (2, .int x2), (3, .int x3), (4, .int x4), (5, .int v1)] [] s2) (fun  s2 => ?_) (fun j42 hj42 => ?_)
      · refine jx_iload_n h dX4_worth_42 rfl 2 rfl ?_
        refine jx_bipush h dX4_worth_43 kb_32 ?_
        refine jx_icmp_ge (tgt := 166) h dX4_worth_45 rfl ?_ ?_
        · refine jx_iincl (L := fun w => [(4, .int w), (0, .ref (Ga G b)), (2, .int x2), (3, .int x3), (5, .int v1)]) h dX4_worth_166 3 rfl (kn_1 _) (Nat.le_of_ble_eq_true rfl) (fun _ => rfl) (fun x4_3 => ?_)
          refine jx_goto (tgt := 5) h dX4_worth_169 rfl ?_
          exact jx_subk [1, 2, 3, 0] h (ih x3 x4_3 s2) rfl
        · refine jx_aload_n h dX4_worth_48 rfl 0 rfl ?_
          refine jx_get (v := .ref (Ga G (b + 6))) h fa_X4_25 (isLw_o hb) dX4_worth_49 rfl ?_
          refine jx_iload_n h dX4_worth_52 rfl 2 rfl ?_
          refine jx_iload h dX4_worth_53 4 rfl ?_
          refine jx_if_lt (tgt := 64) h dX4_worth_55 rfl ?_ ?_
          · refine jx_aload_n h dX4_worth_64 rfl 0 rfl ?_
            refine jx_get (v := .ref (Ga G (b + 7))) h fa_X4_29 (isLw_o hb) dX4_worth_65 rfl ?_
            refine jx_iload h dX4_worth_68 4 rfl ?_
            refine jx_ineg h dX4_worth_70 ?_
            refine jx_bipush h dX4_worth_71 kb_97 ?_
            refine jx_isub h dX4_worth_73 ?_
            refine jx_iaload h (isLw_7 hb) dX4_worth_74 ?_
            refine jx_i2l h dX4_worth_75 ?_
            refine jx_lastore h (isLw_6 hb) dX4_worth_76 (fun s4 => ?_)
            refine jx_iincl (L := fun w => [(3, .int w), (0, .ref (Ga G b)), (2, .int x2), (4, .int x4), (5, .int v1)]) h dX4_worth_77 2 rfl (kn_1 _) (Nat.le_of_ble_eq_true rfl) (fun _ => rfl) (fun x3_5 => ?_)
            refine jx_goto (tgt := 166) h dX4_worth_80 rfl ?_
            refine jx_iincl (L := fun w => [(4, .int w), (3, .int x3_5), (0, .ref (Ga G b)), (2, .int x2), (5, .int v1)]) h dX4_worth_166 3 rfl (kn_1 _) (Nat.le_of_ble_eq_true rfl) (fun _ => rfl) (fun x4_6 => ?_)
            refine jx_goto (tgt := 5) h dX4_worth_169 rfl ?_
            exact jx_subk [2, 3, 1, 0] h (ih x3_5 x4_6 s4) rfl
          · refine jx_iload h dX4_worth_58 4 rfl ?_
            refine jx_i2l h dX4_worth_60 ?_
            refine jx_goto (tgt := 76) h dX4_worth_61 rfl ?_
            refine jx_lastore h (isLw_6 hb) dX4_worth_76 (fun s7 => ?_)
            refine jx_iincl (L := fun w => [(3, .int w), (0, .ref (Ga G b)), (2, .int x2), (4, .int x4), (5, .int v1)]) h dX4_worth_77 2 rfl (kn_1 _) (Nat.le_of_ble_eq_true rfl) (fun _ => rfl) (fun x3_8 => ?_)
            refine jx_goto (tgt := 166) h dX4_worth_80 rfl ?_
            refine jx_iincl (L := fun w => [(4, .int w), (3, .int x3_8), (0, .ref (Ga G b)), (2, .int x2), (5, .int v1)]) h dX4_worth_166 3 rfl (kn_1 _) (Nat.le_of_ble_eq_true rfl) (fun _ => rfl) (fun x4_9 => ?_)
            refine jx_goto (tgt := 5) h dX4_worth_169 rfl ?_
            exact jx_subk [2, 3, 1, 0] h (ih x3_8 x4_9 s7) rfl
      · refine jx_if_ge (tgt := 42) h dX4_worth_30 rfl ?_ ?_
        · exact jx_subk [1, 2, 3, 4, 0] h (hj42 s0) rfl
        · refine jx_iload h dX4_worth_33 0 rfl ?_
          refine jx_ineg h dX4_worth_35 ?_
          refine jx_callSi [] h (c_X4_isFact hG N (-v1) s0) ml_X4_54 (Nat.le_of_ble_eq_true rfl) (Nat.le_of_ble_eq_true rfl) dX4_worth_36 (Nat.le_of_ble_eq_true rfl) rfl (fun r11 s10 => ?_)
          refine jx_if_eq (tgt := 83) h dX4_worth_39 rfl ?_ ?_
          · refine jx_iload h dX4_worth_83 0 rfl ?_
            refine jx_bipush h dX4_worth_85 kb_m33 ?_
            refine jx_icmp_ne (tgt := 130) h dX4_worth_87 rfl ?_ ?_
            · refine jx_iload_n h dX4_worth_130 rfl 3 rfl ?_
              refine jx_iconst h dX4_worth_131 ki_1 ?_
              refine jx_icmp_le (tgt := 166) h dX4_worth_132 rfl ?_ ?_
              · refine jx_iincl (L := fun w => [(4, .int w), (5, .int v1), (0, .ref (Ga G b)), (2, .int x2), (3, .int x3)]) h dX4_worth_166 4 rfl (kn_1 _) (Nat.le_of_ble_eq_true rfl) (fun _ => rfl) (fun x4_12 => ?_)
                refine jx_goto (tgt := 5) h dX4_worth_169 rfl ?_
                exact jx_subk [2, 3, 4, 0] h (ih x3 x4_12 s10) rfl
              · refine jx_iincl (L := fun w => [(3, .int w), (5, .int v1), (0, .ref (Ga G b)), (2, .int x2), (4, .int x4)]) h dX4_worth_135 3 rfl (kn_m1 _) (Nat.le_of_ble_eq_true rfl) (fun _ => rfl) (fun x3_13 => ?_)
                refine jx_aload_n h dX4_worth_138 rfl 2 rfl ?_
                refine jx_get (v := .ref (Ga G (b + 6))) h fa_X4_25 (isLw_o hb) dX4_worth_139 rfl ?_
                refine jx_iload_n h dX4_worth_142 rfl 0 rfl ?_
                refine jx_iconst h dX4_worth_143 ki_1 ?_
                refine jx_isub h dX4_worth_144 ?_
                refine jx_iload h dX4_worth_145 1 rfl ?_
                refine jx_ineg h dX4_worth_147 ?_
                refine jx_aload_n h dX4_worth_148 rfl 2 rfl ?_
                refine jx_get (v := .ref (Ga G (b + 6))) h fa_X4_25 (isLw_o hb) dX4_worth_149 rfl ?_
                refine jx_iload_n h dX4_worth_152 rfl 0 rfl ?_
                refine jx_iconst h dX4_worth_153 ki_1 ?_
                refine jx_isub h dX4_worth_154 ?_
                refine jx_laload h (isLw_6 hb) dX4_worth_155 ?_
                refine jx_aload_n h dX4_worth_156 rfl 2 rfl ?_
                refine jx_get (v := .ref (Ga G (b + 6))) h fa_X4_25 (isLw_o hb) dX4_worth_157 rfl ?_
                refine jx_iload_n h dX4_worth_160 rfl 0 rfl ?_
                refine jx_laload h (isLw_6 hb) dX4_worth_161 ?_
                refine jx_callSl [.int (x3_13 - 1), .ref (Ga G (b + 6))] h (c_X4_joined hG N (-v1) (gl s10 (b + 6) (ix (x3_13 - 1))) (gl s10 (b + 6) (ix x3_13)) s10) ml_X4_58 (Nat.le_of_ble_eq_true rfl) (Nat.le_of_ble_eq_true rfl) dX4_worth_162 (Nat.le_of_ble_eq_true rfl) rfl (fun r15 s14 => ?_)
                refine jx_lastore h (isLw_6 hb) dX4_worth_165 (fun s16 => ?_)
                refine jx_iincl (L := fun w => [(4, .int w), (3, .int x3_13), (5, .int v1), (0, .ref (Ga G b)), (2, .int x2)]) h dX4_worth_166 4 rfl (kn_1 _) (Nat.le_of_ble_eq_true rfl) (fun _ => rfl) (fun x4_17 => ?_)
                refine jx_goto (tgt := 5) h dX4_worth_169 rfl ?_
                exact jx_subk [3, 4, 1, 0] h (ih x3_13 x4_17 s16) rfl
            · refine jx_iload_n h dX4_worth_90 rfl 3 rfl ?_
              refine jx_if_le (tgt := 166) h dX4_worth_91 rfl ?_ ?_
              · refine jx_iincl (L := fun w => [(4, .int w), (5, .int v1), (0, .ref (Ga G b)), (2, .int x2), (3, .int x3)]) h dX4_worth_166 4 rfl (kn_1 _) (Nat.le_of_ble_eq_true rfl) (fun _ => rfl) (fun x4_18 => ?_)
                refine jx_goto (tgt := 5) h dX4_worth_169 rfl ?_
                exact jx_subk [2, 3, 4, 0] h (ih x3 x4_18 s10) rfl
              · refine jx_aload_n h dX4_worth_94 rfl 1 rfl ?_
                refine jx_get (v := .ref (Ga G (b + 6))) h fa_X4_25 (isLw_o hb) dX4_worth_95 rfl ?_
                refine jx_iload_n h dX4_worth_98 rfl 3 rfl ?_
                refine jx_iconst h dX4_worth_99 ki_1 ?_
                refine jx_isub h dX4_worth_100 ?_
                refine jx_laload h (isLw_6 hb) dX4_worth_101 ?_
                refine jx_ldc2 h dX4_worth_102 kw_X4_43 ?_
                refine jx_lcmp h dX4_worth_105 ?_
                refine jx_if_eq (tgt := 166) h dX4_worth_106 rfl ?_ ?_
                · refine jx_iincl (L := fun w => [(4, .int w), (5, .int v1), (0, .ref (Ga G b)), (2, .int x2), (3, .int x3)]) h dX4_worth_166 4 rfl (kn_1 _) (Nat.le_of_ble_eq_true rfl) (fun _ => rfl) (fun x4_19 => ?_)
                  refine jx_goto (tgt := 5) h dX4_worth_169 rfl ?_
                  exact jx_subk [2, 3, 4, 0] h (ih x3 x4_19 s10) rfl
                · refine jx_aload_n h dX4_worth_109 rfl 1 rfl ?_
                  refine jx_get (v := .ref (Ga G (b + 6))) h fa_X4_25 (isLw_o hb) dX4_worth_110 rfl ?_
                  refine jx_iload_n h dX4_worth_113 rfl 3 rfl ?_
                  refine jx_iconst h dX4_worth_114 ki_1 ?_
                  refine jx_isub h dX4_worth_115 ?_
                  refine jx_lconst (v := 1) h dX4_worth_116 rfl ?_
                  refine jx_aload_n h dX4_worth_117 rfl 1 rfl ?_
                  refine jx_get (v := .ref (Ga G (b + 6))) h fa_X4_25 (isLw_o hb) dX4_worth_118 rfl ?_
                  refine jx_iload_n h dX4_worth_121 rfl 3 rfl ?_
                  refine jx_iconst h dX4_worth_122 ki_1 ?_
                  refine jx_isub h dX4_worth_123 ?_
                  refine jx_laload h (isLw_6 hb) dX4_worth_124 ?_
                  refine jx_lsub h dX4_worth_125 ?_
                  refine jx_lastore h (isLw_6 hb) dX4_worth_126 (fun s20 => ?_)
                  refine jx_goto (tgt := 166) h dX4_worth_127 rfl ?_
                  refine jx_iincl (L := fun w => [(4, .int w), (5, .int v1), (0, .ref (Ga G b)), (2, .int x2), (3, .int x3)]) h dX4_worth_166 4 rfl (kn_1 _) (Nat.le_of_ble_eq_true rfl) (fun _ => rfl) (fun x4_21 => ?_)
                  refine jx_goto (tgt := 5) h dX4_worth_169 rfl ?_
                  exact jx_subk [2, 3, 4, 0] h (ih x3 x4_21 s20) rfl
          · exact jx_subk [1, 2, 3, 4, 0] h (hj42 s10) rfl
set_option maxRecDepth 20000 in
theorem c_X4_worth {G : Gx} (hG : Gok G ∧ IsG G layC fsoC) (N : Nat) (b : Nat) (hb : isLw b = true) (x1 : Int32) (x2 : Int32) (s : Mem) : Ct G yX4_worth cX4_worth 6 (some .long) 1 [.ref (Ga G b), .int x1, .int x2] tvL s (f_X4_worth N b x1 x2 s) := by
  refine Ct.of hG (by decide) (Nat.le_of_ble_eq_true rfl) (fun P h => ?_)
  show P _ 0 [(0, .ref (Ga G b)), (1, .int x1), (2, .int x2)] [] s
  unfold f_X4_worth
  refine jx_iconst h dX4_worth_0 ki_0 ?_
  refine jx_istore_n (lv' := [(3, .int 0), (0, .ref (Ga G b)), (1, .int x1), (2, .int x2)]) h dX4_worth_1 rfl (Nat.le_of_ble_eq_true rfl) rfl ?_
  refine jx_iload_n h dX4_worth_2 rfl 2 rfl ?_
  refine jx_istore (lv' := [(4, .int x1), (3, .int 0), (0, .ref (Ga G b)), (1, .int x1), (2, .int x2)]) h dX4_worth_3 (Nat.le_of_ble_eq_true rfl) rfl ?_
  refine jx_subk [2, 4, 1, 0] h (itr_ind (Q := (fun (f : Int32 → Int32 → Mem → Option (Int64 × Mem)) => ∀ (x3 : Int32) (x4 : Int32) (s : Mem), P (f x3 x4 s) 5 [(0, .ref (Ga G b)), (2, .int x2), (3, .int x3), (4, .int x4)] [] s)) (fun _ _ _ => jx_none h) (fun r5 ih5 => ?_) N 0 x1 s) rfl
  refine w_X4_worth_5 hG h N b hb x2 ?_ ih5
  intro x3_23 s22
  refine jx_iload_n h dX4_worth_172 rfl 1 rfl ?_
  refine jx_if_le (tgt := 187) h dX4_worth_173 rfl ?_ ?_
  · refine jx_ldc2 h dX4_worth_187 kw_X4_43 ?_
    exact jx_lret h dX4_worth_190
  · refine jx_aload_n h dX4_worth_176 rfl 0 rfl ?_
    refine jx_get (v := .ref (Ga G (b + 6))) h fa_X4_25 (isLw_o hb) dX4_worth_177 rfl ?_
    refine jx_iload_n h dX4_worth_180 rfl 1 rfl ?_
    refine jx_iconst h dX4_worth_181 ki_1 ?_
    refine jx_isub h dX4_worth_182 ?_
    refine jx_laload h (isLw_6 hb) dX4_worth_183 ?_
    refine jx_goto (tgt := 190) h dX4_worth_184 rfl ?_
    exact jx_lret h dX4_worth_190
noncomputable def st_X4_number_2 (N : Nat) (b : Nat) (x1 : Int32) (x2 : Int32) (k47 : Int32 → Mem → Option (Int32 × Mem)) (rec : Int32 → Mem → Option (Int32 × Mem)) (x3 : Int32) (s0 : Mem) : Option (Int32 × Mem) :=
  if (gi s0 b 0) ≤ x3 then (some (0, s0)) else if 16 ≤ x3 then (some (0, s0)) else chk x3 16 (if (gi s0 (b + 1) (ix x3)) = x1 then (chk x3 16 (chk x3 16 (bd (f_X4_worth N b (gi s0 (b + 3) (ix x3)) (gi s0 (b + 4) (ix x3)) s0) (fun r3 s2 => if (lg_cmp r3 1) = 0 then (k47 x3 s2) else lt (x3 + 1) (fun x3_4 => rec x3_4 s2))))) else lt (x3 + 1) (fun x3_1 => rec x3_1 s0))
noncomputable def f_X4_number (N : Nat) (b : Nat) (x1 : Int32) (x2 : Int32) (s : Mem) : Option (Int32 × Mem) :=
  itr (fun _ _ => none) (st_X4_number_2 N b x1 x2 (fun (x3_6 : Int32) (s5 : Mem) => chk x3_6 16 (chk x3_6 16 (bd (f_X4_worth N b (gi s5 (b + 2) (ix x3_6)) (gi s5 (b + 3) (ix x3_6)) s5) (fun r8 s7 => if (lg_cmp r8 1099511627776) = 0 then (some (0, s7)) else some ((lmax 0 (lmin x2.toInt64 r8)).toInt32, s7)))))) N 0 s
set_option maxRecDepth 20000 in
theorem w_X4_number_2 {G : Gx} (hG : Gok G ∧ IsG G layC fsoC) {P : Option (Int32 × Mem) → Nat → List (Nat × Value) → List Value → Mem → Prop} (h : Jk G layC fsoC RX4 cX4_number 6 (some .int) 2 tvI P) (N : Nat) (b : Nat) (hb : isLw b = true) (x1 : Int32) (x2 : Int32) {k47 : Int32 → Mem → Option (Int32 × Mem)} (hk47 : ∀ (x3 : Int32) (s : Mem), P (k47 x3 s) 47 [(0, .ref (Ga G b)), (2, .int x2), (3, .int x3)] [] s) {rec : Int32 → Mem → Option (Int32 × Mem)} (ih : ∀ (x3 : Int32) (s : Mem), P (rec x3 s) 2 [(0, .ref (Ga G b)), (1, .int x1), (2, .int x2), (3, .int x3)] [] s) : ∀ (x3 : Int32) (s : Mem), P (st_X4_number_2 N b x1 x2 k47 rec x3 s) 2 [(0, .ref (Ga G b)), (1, .int x1), (2, .int x2), (3, .int x3)] [] s := by
  intro x3 s0
  unfold st_X4_number_2
  refine jx_iload_n h dX4_number_2 rfl 3 rfl ?_
  refine jx_aload_n h dX4_number_3 rfl 0 rfl ?_
  refine jx_get (v := .int (gi s0 b 0)) h fa_X4_32 (isLw_o hb) dX4_number_4 rfl ?_
  refine jx_icmp_ge (tgt := 97) h dX4_number_7 rfl ?_ ?_
  · refine jx_iconst h dX4_number_97 ki_0 ?_
    exact jx_iret h dX4_number_98
  · refine jx_iload_n h dX4_number_10 rfl 3 rfl ?_
    refine jx_bipush h dX4_number_11 kb_16 ?_
    refine jx_icmp_ge (tgt := 97) h dX4_number_13 rfl ?_ ?_
    · refine jx_iconst h dX4_number_97 ki_0 ?_
      exact jx_iret h dX4_number_98
    · refine jx_aload_n h dX4_number_16 rfl 0 rfl ?_
      refine jx_get (v := .ref (Ga G (b + 1))) h fa_X4_9 (isLw_o hb) dX4_number_17 rfl ?_
      refine jx_iload_n h dX4_number_20 rfl 3 rfl ?_
      refine jx_iaload h (isLw_1 hb) dX4_number_21 ?_
      refine jx_iload_n h dX4_number_22 rfl 1 rfl ?_
      refine jx_icmp_ne (tgt := 91) h dX4_number_23 rfl ?_ ?_
      · refine jx_iincl (L := fun w => [(3, .int w), (0, .ref (Ga G b)), (1, .int x1), (2, .int x2)]) h dX4_number_91 3 rfl (kn_1 _) (Nat.le_of_ble_eq_true rfl) (fun _ => rfl) (fun x3_1 => ?_)
        refine jx_goto (tgt := 2) h dX4_number_94 rfl ?_
        exact jx_subk [1, 2, 3, 0] h (ih x3_1 s0) rfl
      · refine jx_aload_n h dX4_number_26 rfl 0 rfl ?_
        refine jx_aload_n h dX4_number_27 rfl 0 rfl ?_
        refine jx_get (v := .ref (Ga G (b + 3))) h fa_X4_16 (isLw_o hb) dX4_number_28 rfl ?_
        refine jx_iload_n h dX4_number_31 rfl 3 rfl ?_
        refine jx_iaload h (isLw_3 hb) dX4_number_32 ?_
        refine jx_aload_n h dX4_number_33 rfl 0 rfl ?_
        refine jx_get (v := .ref (Ga G (b + 4))) h fa_X4_19 (isLw_o hb) dX4_number_34 rfl ?_
        refine jx_iload_n h dX4_number_37 rfl 3 rfl ?_
        refine jx_iaload h (isLw_4 hb) dX4_number_38 ?_
        refine jx_callVl [] h (isLw_o hb) (c_X4_worth hG N b hb (gi s0 (b + 3) (ix x3)) (gi s0 (b + 4) (ix x3)) s0) ml_X4_39 (Nat.le_of_ble_eq_true rfl) (Nat.le_of_ble_eq_true rfl) dX4_number_39 (Nat.le_of_ble_eq_true rfl) rfl (fun r3 s2 => ?_)
        refine jx_lconst (v := 1) h dX4_number_42 rfl ?_
        refine jx_lcmp h dX4_number_43 ?_
        refine jx_if_ne (tgt := 91) h dX4_number_44 rfl ?_ ?_
        · refine jx_iincl (L := fun w => [(3, .int w), (0, .ref (Ga G b)), (1, .int x1), (2, .int x2)]) h dX4_number_91 3 rfl (kn_1 _) (Nat.le_of_ble_eq_true rfl) (fun _ => rfl) (fun x3_4 => ?_)
          refine jx_goto (tgt := 2) h dX4_number_94 rfl ?_
          exact jx_subk [1, 2, 3, 0] h (ih x3_4 s2) rfl
        · exact jx_subk [0, 2, 3] h (hk47 x3 s2) rfl
set_option maxRecDepth 20000 in
theorem c_X4_number {G : Gx} (hG : Gok G ∧ IsG G layC fsoC) (N : Nat) (b : Nat) (hb : isLw b = true) (x1 : Int32) (x2 : Int32) (s : Mem) : Ct G yX4_number cX4_number 6 (some .int) 2 [.ref (Ga G b), .int x1, .int x2] tvI s (f_X4_number N b x1 x2 s) := by
  refine Ct.of hG (by decide) (Nat.le_of_ble_eq_true rfl) (fun P h => ?_)
  show P _ 0 [(0, .ref (Ga G b)), (1, .int x1), (2, .int x2)] [] s
  unfold f_X4_number
  refine jx_iconst h dX4_number_0 ki_0 ?_
  refine jx_istore_n (lv' := [(3, .int 0), (0, .ref (Ga G b)), (1, .int x1), (2, .int x2)]) h dX4_number_1 rfl (Nat.le_of_ble_eq_true rfl) rfl ?_
  refine jx_subk [1, 2, 3, 0] h (itr_ind (Q := (fun (f : Int32 → Mem → Option (Int32 × Mem)) => ∀ (x3 : Int32) (s : Mem), P (f x3 s) 2 [(0, .ref (Ga G b)), (1, .int x1), (2, .int x2), (3, .int x3)] [] s)) (fun _ _ => jx_none h) (fun r2 ih2 => ?_) N 0 s) rfl
  refine w_X4_number_2 hG h N b hb x1 x2 ?_ ih2
  intro x3_6 s5
  refine jx_aload_n h dX4_number_47 rfl 0 rfl ?_
  refine jx_aload_n h dX4_number_48 rfl 0 rfl ?_
  refine jx_get (v := .ref (Ga G (b + 2))) h fa_X4_13 (isLw_o hb) dX4_number_49 rfl ?_
  refine jx_iload_n h dX4_number_52 rfl 2 rfl ?_
  refine jx_iaload h (isLw_2 hb) dX4_number_53 ?_
  refine jx_aload_n h dX4_number_54 rfl 0 rfl ?_
  refine jx_get (v := .ref (Ga G (b + 3))) h fa_X4_16 (isLw_o hb) dX4_number_55 rfl ?_
  refine jx_iload_n h dX4_number_58 rfl 2 rfl ?_
  refine jx_iaload h (isLw_3 hb) dX4_number_59 ?_
  refine jx_callVl [] h (isLw_o hb) (c_X4_worth hG N b hb (gi s5 (b + 2) (ix x3_6)) (gi s5 (b + 3) (ix x3_6)) s5) ml_X4_39 (Nat.le_of_ble_eq_true rfl) (Nat.le_of_ble_eq_true rfl) dX4_number_60 (Nat.le_of_ble_eq_true rfl) rfl (fun r8 s7 => ?_)
  refine jx_lstore (lv' := [(4, .long r8), (0, .ref (Ga G b)), (2, .int x2), (3, .int x3_6)]) h dX4_number_63 (Nat.le_of_ble_eq_true rfl) rfl ?_
  refine jx_lload h dX4_number_65 0 rfl ?_
  refine jx_ldc2 h dX4_number_67 kw_X4_43 ?_
  refine jx_lcmp h dX4_number_70 ?_
  refine jx_if_ne (tgt := 78) h dX4_number_71 rfl ?_ ?_
  · refine jx_lconst (v := 0) h dX4_number_78 rfl ?_
    refine jx_iload_n h dX4_number_79 rfl 2 rfl ?_
    refine jx_i2l h dX4_number_80 ?_
    refine jx_lload h dX4_number_81 0 rfl ?_
    refine jx_mminl h mm_X4_45 (Nat.le_of_ble_eq_true rfl) (Nat.le_of_ble_eq_true rfl) dX4_number_83 ?_
    refine jx_mmaxl h mm_X4_51 (Nat.le_of_ble_eq_true rfl) (Nat.le_of_ble_eq_true rfl) dX4_number_86 ?_
    refine jx_l2i h dX4_number_89 ?_
    exact jx_iret h dX4_number_90
  · refine jx_iconst h dX4_number_74 ki_0 ?_
    refine jx_goto (tgt := 90) h dX4_number_75 rfl ?_
    exact jx_iret h dX4_number_90
noncomputable def f_X0_giftBehind (N : Nat) (b : Nat) (x1 : Int32) (x2 : Int32) (x3 : Int32) (x4 : Int32) (x5 : Nat) (s : Mem) : Option (Int32 × Mem) :=
  chk x2 12 (bd (f_X4_askOf N x5 x2 (gi s (b + 1) (ix x2)) x4 x3 s) (fun _ s1 => bd (f_X0_taleOrLoss N b x3 x2 s1) (fun r4 s3 => bd (f_X4_askBy N x5 r4 0 ((gi s3 b 11) + x1) s3) (fun _ s5 => bd (f_X4_number N x5 103 999 s5) (fun r8 s7 => some (r8, s7))))))
set_option maxRecDepth 20000 in
theorem c_X0_giftBehind {G : Gx} (hG : Gok G ∧ IsG G layC fsoC) (N : Nat) (b : Nat) (hb : isBk b = true) (x1 : Int32) (x2 : Int32) (x3 : Int32) (x4 : Int32) (x5 : Nat) (hx5 : isLw x5 = true) (s : Mem) : Ct G yX0_giftBehind cX0_giftBehind 6 (some .int) 3 [.ref (Ga G b), .int x1, .int x2, .int x3, .int x4, .ref (Ga G x5)] tvI s (f_X0_giftBehind N b x1 x2 x3 x4 x5 s) := by
  refine Ct.of hG (by decide) (Nat.le_of_ble_eq_true rfl) (fun P h => ?_)
  show P _ 0 [(0, .ref (Ga G b)), (1, .int x1), (2, .int x2), (3, .int x3), (4, .int x4), (5, .ref (Ga G x5))] [] s
  unfold f_X0_giftBehind
  refine jx_aload h dX0_giftBehind_0 5 rfl ?_
  refine jx_iload_n h dX0_giftBehind_2 rfl 2 rfl ?_
  refine jx_aload_n h dX0_giftBehind_3 rfl 0 rfl ?_
  refine jx_get (v := .ref (Ga G (b + 1))) h fa_X0_9 (isBk_o hb) dX0_giftBehind_4 rfl ?_
  refine jx_iload_n h dX0_giftBehind_7 rfl 2 rfl ?_
  refine jx_iaload h (isBk_1 hb) dX0_giftBehind_8 ?_
  refine jx_iload h dX0_giftBehind_9 4 rfl ?_
  refine jx_iload_n h dX0_giftBehind_11 rfl 3 rfl ?_
  refine jx_callVv [] h (isLw_o hx5) (c_X4_askOf hG N x5 hx5 x2 (gi s (b + 1) (ix x2)) x4 x3 s) ml_X0_86 (Nat.le_of_ble_eq_true rfl) (Nat.le_of_ble_eq_true rfl) dX0_giftBehind_12 (Nat.le_of_ble_eq_true rfl) rfl (fun s1 => ?_)
  refine jx_aload h dX0_giftBehind_15 5 rfl ?_
  refine jx_aload_n h dX0_giftBehind_17 rfl 0 rfl ?_
  refine jx_iload_n h dX0_giftBehind_18 rfl 3 rfl ?_
  refine jx_iload_n h dX0_giftBehind_19 rfl 2 rfl ?_
  refine jx_callVi [.ref (Ga G x5)] h (isBk_o hb) (c_X0_taleOrLoss hG N b hb x3 x2 s1) ml_X0_92 (Nat.le_of_ble_eq_true rfl) (Nat.le_of_ble_eq_true rfl) dX0_giftBehind_20 (Nat.le_of_ble_eq_true rfl) rfl (fun r4 s3 => ?_)
  refine jx_iconst h dX0_giftBehind_23 ki_0 ?_
  refine jx_aload_n h dX0_giftBehind_24 rfl 0 rfl ?_
  refine jx_get (v := .int (gi s3 b 11)) h fa_X0_57 (isBk_o hb) dX0_giftBehind_25 rfl ?_
  refine jx_iload_n h dX0_giftBehind_28 rfl 1 rfl ?_
  refine jx_iadd h dX0_giftBehind_29 ?_
  refine jx_callVv [] h (isLw_o hx5) (c_X4_askBy hG N x5 hx5 r4 0 ((gi s3 b 11) + x1) s3) ml_X0_95 (Nat.le_of_ble_eq_true rfl) (Nat.le_of_ble_eq_true rfl) dX0_giftBehind_30 (Nat.le_of_ble_eq_true rfl) rfl (fun s5 => ?_)
  refine jx_aload h dX0_giftBehind_33 5 rfl ?_
  refine jx_bipush h dX0_giftBehind_35 kb_103 ?_
  refine jx_sipush h dX0_giftBehind_37 ks_999 ?_
  refine jx_callVi [] h (isLw_o hx5) (c_X4_number hG N x5 hx5 103 999 s5) ml_X0_98 (Nat.le_of_ble_eq_true rfl) (Nat.le_of_ble_eq_true rfl) dX0_giftBehind_40 (Nat.le_of_ble_eq_true rfl) rfl (fun r8 s7 => ?_)
  exact jx_iret h dX0_giftBehind_43
noncomputable def f_X0_tellOn (N : Nat) (b : Nat) (x1 : Int32) (x2 : Int32) (x3 : Int32) (x4 : Int32) (x5 : Nat) (s : Mem) : Option (Int32 × Mem) :=
  chk x2 12 (bd (f_X0_tired N b x2 s) (fun r2 s1 => bd (f_X4_askOf N x5 x2 (gi s (b + 1) (ix x2)) r2 x1 s1) (fun _ s3 => bd (f_X4_askBy N x5 x3 x4 (gi s3 b 11) s3) (fun _ s5 => bd (f_X4_number N x5 116 999 s5) (fun r8 s7 => some (imin 99999 (x3 + r8), s7))))))
set_option maxRecDepth 20000 in
theorem c_X0_tellOn {G : Gx} (hG : Gok G ∧ IsG G layC fsoC) (N : Nat) (b : Nat) (hb : isBk b = true) (x1 : Int32) (x2 : Int32) (x3 : Int32) (x4 : Int32) (x5 : Nat) (hx5 : isLw x5 = true) (s : Mem) : Ct G yX0_tellOn cX0_tellOn 6 (some .int) 3 [.ref (Ga G b), .int x1, .int x2, .int x3, .int x4, .ref (Ga G x5)] tvI s (f_X0_tellOn N b x1 x2 x3 x4 x5 s) := by
  refine Ct.of hG (by decide) (Nat.le_of_ble_eq_true rfl) (fun P h => ?_)
  show P _ 0 [(0, .ref (Ga G b)), (1, .int x1), (2, .int x2), (3, .int x3), (4, .int x4), (5, .ref (Ga G x5))] [] s
  unfold f_X0_tellOn
  refine jx_aload h dX0_tellOn_0 5 rfl ?_
  refine jx_iload_n h dX0_tellOn_2 rfl 2 rfl ?_
  refine jx_aload_n h dX0_tellOn_3 rfl 0 rfl ?_
  refine jx_get (v := .ref (Ga G (b + 1))) h fa_X0_9 (isBk_o hb) dX0_tellOn_4 rfl ?_
  refine jx_iload_n h dX0_tellOn_7 rfl 2 rfl ?_
  refine jx_iaload h (isBk_1 hb) dX0_tellOn_8 ?_
  refine jx_aload_n h dX0_tellOn_9 rfl 0 rfl ?_
  refine jx_iload_n h dX0_tellOn_10 rfl 2 rfl ?_
  refine jx_callVi [.int (gi s (b + 1) (ix x2)), .int x2, .ref (Ga G x5)] h (isBk_o hb) (c_X0_tired hG N b hb x2 s) ml_X0_101 (Nat.le_of_ble_eq_true rfl) (Nat.le_of_ble_eq_true rfl) dX0_tellOn_11 (Nat.le_of_ble_eq_true rfl) rfl (fun r2 s1 => ?_)
  refine jx_iload_n h dX0_tellOn_14 rfl 1 rfl ?_
  refine jx_callVv [] h (isLw_o hx5) (c_X4_askOf hG N x5 hx5 x2 (gi s (b + 1) (ix x2)) r2 x1 s1) ml_X0_86 (Nat.le_of_ble_eq_true rfl) (Nat.le_of_ble_eq_true rfl) dX0_tellOn_15 (Nat.le_of_ble_eq_true rfl) rfl (fun s3 => ?_)
  refine jx_aload h dX0_tellOn_18 5 rfl ?_
  refine jx_iload_n h dX0_tellOn_20 rfl 3 rfl ?_
  refine jx_iload h dX0_tellOn_21 4 rfl ?_
  refine jx_aload_n h dX0_tellOn_23 rfl 0 rfl ?_
  refine jx_get (v := .int (gi s3 b 11)) h fa_X0_57 (isBk_o hb) dX0_tellOn_24 rfl ?_
  refine jx_callVv [] h (isLw_o hx5) (c_X4_askBy hG N x5 hx5 x3 x4 (gi s3 b 11) s3) ml_X0_95 (Nat.le_of_ble_eq_true rfl) (Nat.le_of_ble_eq_true rfl) dX0_tellOn_27 (Nat.le_of_ble_eq_true rfl) rfl (fun s5 => ?_)
  refine jx_ldc h dX0_tellOn_30 kw_X0_105 ?_
  refine jx_iload_n h dX0_tellOn_32 rfl 3 rfl ?_
  refine jx_aload h dX0_tellOn_33 5 rfl ?_
  refine jx_bipush h dX0_tellOn_35 kb_116 ?_
  refine jx_sipush h dX0_tellOn_37 ks_999 ?_
  refine jx_callVi [.int x3, .int 99999] h (isLw_o hx5) (c_X4_number hG N x5 hx5 116 999 s5) ml_X0_98 (Nat.le_of_ble_eq_true rfl) (Nat.le_of_ble_eq_true rfl) dX0_tellOn_40 (Nat.le_of_ble_eq_true rfl) rfl (fun r8 s7 => ?_)
  refine jx_iadd h dX0_tellOn_43 ?_
  refine jx_mmin h mm_X0_76 (Nat.le_of_ble_eq_true rfl) (Nat.le_of_ble_eq_true rfl) dX0_tellOn_44 ?_
  exact jx_iret h dX0_tellOn_47
noncomputable def f_X0_draw (N : Nat) (b : Nat) (s : Mem) : Option (Int32 × Mem) :=
  lt (si s b 13 ((((25173 : Int32) * (gi s b 13)) + 13849) - (((25173 : Int32) * (gi s b 13)) + 13849) / 65536 * 65536)) (fun s1 => some ((gi s1 b 13) - (gi s1 b 13) / 10 * 10, s1))
set_option maxRecDepth 20000 in
theorem c_X0_draw {G : Gx} (hG : Gok G ∧ IsG G layC fsoC) (N : Nat) (b : Nat) (hb : isBk b = true) (s : Mem) : Ct G yX0_draw cX0_draw 1 (some .int) 0 [.ref (Ga G b)] tvI s (f_X0_draw N b s) := by
  refine Ct.of hG (by decide) (Nat.le_of_ble_eq_true rfl) (fun P h => ?_)
  show P _ 0 [(0, .ref (Ga G b))] [] s
  unfold f_X0_draw
  refine jx_aload_n h dX0_draw_0 rfl 0 rfl ?_
  refine jx_sipush h dX0_draw_1 ks_25173 ?_
  refine jx_aload_n h dX0_draw_4 rfl 0 rfl ?_
  refine jx_get (v := .int (gi s b 13)) h fa_X0_38 (isBk_o hb) dX0_draw_5 rfl ?_
  refine jx_imul h dX0_draw_8 ?_
  refine jx_sipush h dX0_draw_9 ks_13849 ?_
  refine jx_iadd h dX0_draw_12 ?_
  refine jx_ldc h dX0_draw_13 kw_X0_157 ?_
  refine jx_iremc h (by decide) dX0_draw_15 ?_
  refine jx_put h fa_X0_38 fp_X0_13 (isBk_o hb) rfl rfl dX0_draw_16 (fu_X0_13 _ _ _ _) (fun s1 => ?_)
  refine jx_aload_n h dX0_draw_19 rfl 0 rfl ?_
  refine jx_get (v := .int (gi s1 b 13)) h fa_X0_38 (isBk_o hb) dX0_draw_20 rfl ?_
  refine jx_bipush h dX0_draw_23 kb_10 ?_
  refine jx_iremc h (by decide) dX0_draw_25 ?_
  exact jx_iret h dX0_draw_26
noncomputable def st_X0_lowestUnread_2 (N : Nat) (b : Nat) (x1 : Int32)  (rec : Int32 → Mem → Option (Int32 × Mem)) (x2 : Int32) (s0 : Mem) : Option (Int32 × Mem) :=
  if 6 ≤ x2 then (some ((-1), s0)) else bd (f_X0_isInForce N b x2 s0) (fun r2 s1 => if r2 = 0 then (lt (x2 + 1) (fun x2_3 => rec x2_3 s1)) else chk x2 6 (chk x2 6 (bd (f_X9_hasBit N ((gi s1 (b + 5) (ix x2)) &&& ((gi s1 (b + 6) (ix x2)) ^^^ (-1))) x1 s1) (fun r5 s4 => if r5 = 0 then (lt (x2 + 1) (fun x2_6 => rec x2_6 s4)) else some (x2, s4)))))
noncomputable def f_X0_lowestUnread (N : Nat) (b : Nat) (x1 : Int32) (s : Mem) : Option (Int32 × Mem) :=
  itr (fun _ _ => none) (st_X0_lowestUnread_2 N b x1) N 0 s
set_option maxRecDepth 20000 in
theorem w_X0_lowestUnread_2 {G : Gx} (hG : Gok G ∧ IsG G layC fsoC) {P : Option (Int32 × Mem) → Nat → List (Nat × Value) → List Value → Mem → Prop} (h : Jk G layC fsoC RX0 cX0_lowestUnread 3 (some .int) 3 tvI P) (N : Nat) (b : Nat) (hb : isBk b = true) (x1 : Int32) {rec : Int32 → Mem → Option (Int32 × Mem)} (ih : ∀ (x2 : Int32) (s : Mem), P (rec x2 s) 2 [(0, .ref (Ga G b)), (1, .int x1), (2, .int x2)] [] s) : ∀ (x2 : Int32) (s : Mem), P (st_X0_lowestUnread_2 N b x1 rec x2 s) 2 [(0, .ref (Ga G b)), (1, .int x1), (2, .int x2)] [] s := by
  intro x2 s0
  unfold st_X0_lowestUnread_2
  refine jx_iload_n h dX0_lowestUnread_2 rfl 2 rfl ?_
  refine jx_bipush h dX0_lowestUnread_3 kb_6 ?_
  refine jx_icmp_ge (tgt := 46) h dX0_lowestUnread_5 rfl ?_ ?_
  · refine jx_iconst h dX0_lowestUnread_46 ki_m1 ?_
    exact jx_iret h dX0_lowestUnread_47
  · refine jx_aload_n h dX0_lowestUnread_8 rfl 0 rfl ?_
    refine jx_iload_n h dX0_lowestUnread_9 rfl 2 rfl ?_
    refine jx_callVi [] h (isBk_o hb) (c_X0_isInForce hG N b hb x2 s0) ml_X0_112 (Nat.le_of_ble_eq_true rfl) (Nat.le_of_ble_eq_true rfl) dX0_lowestUnread_10 (Nat.le_of_ble_eq_true rfl) rfl (fun r2 s1 => ?_)
    refine jx_if_eq (tgt := 40) h dX0_lowestUnread_13 rfl ?_ ?_
    · refine jx_iincl (L := fun w => [(2, .int w), (0, .ref (Ga G b)), (1, .int x1)]) h dX0_lowestUnread_40 2 rfl (kn_1 _) (Nat.le_of_ble_eq_true rfl) (fun _ => rfl) (fun x2_3 => ?_)
      refine jx_goto (tgt := 2) h dX0_lowestUnread_43 rfl ?_
      exact jx_subk [1, 2, 0] h (ih x2_3 s1) rfl
    · refine jx_aload_n h dX0_lowestUnread_16 rfl 0 rfl ?_
      refine jx_get (v := .ref (Ga G (b + 5))) h fa_X0_24 (isBk_o hb) dX0_lowestUnread_17 rfl ?_
      refine jx_iload_n h dX0_lowestUnread_20 rfl 2 rfl ?_
      refine jx_iaload h (isBk_5 hb) dX0_lowestUnread_21 ?_
      refine jx_aload_n h dX0_lowestUnread_22 rfl 0 rfl ?_
      refine jx_get (v := .ref (Ga G (b + 6))) h fa_X0_27 (isBk_o hb) dX0_lowestUnread_23 rfl ?_
      refine jx_iload_n h dX0_lowestUnread_26 rfl 2 rfl ?_
      refine jx_iaload h (isBk_6 hb) dX0_lowestUnread_27 ?_
      refine jx_iconst h dX0_lowestUnread_28 ki_m1 ?_
      refine jx_ixor h dX0_lowestUnread_29 ?_
      refine jx_iand h dX0_lowestUnread_30 ?_
      refine jx_iload_n h dX0_lowestUnread_31 rfl 1 rfl ?_
      refine jx_callSi [] h (c_X9_hasBit hG N ((gi s1 (b + 5) (ix x2)) &&& ((gi s1 (b + 6) (ix x2)) ^^^ (-1))) x1 s1) ml_X0_67 (Nat.le_of_ble_eq_true rfl) (Nat.le_of_ble_eq_true rfl) dX0_lowestUnread_32 (Nat.le_of_ble_eq_true rfl) rfl (fun r5 s4 => ?_)
      refine jx_if_eq (tgt := 40) h dX0_lowestUnread_35 rfl ?_ ?_
      · refine jx_iincl (L := fun w => [(2, .int w), (0, .ref (Ga G b)), (1, .int x1)]) h dX0_lowestUnread_40 2 rfl (kn_1 _) (Nat.le_of_ble_eq_true rfl) (fun _ => rfl) (fun x2_6 => ?_)
        refine jx_goto (tgt := 2) h dX0_lowestUnread_43 rfl ?_
        exact jx_subk [1, 2, 0] h (ih x2_6 s4) rfl
      · refine jx_iload_n h dX0_lowestUnread_38 rfl 2 rfl ?_
        exact jx_iret h dX0_lowestUnread_39
set_option maxRecDepth 20000 in
theorem c_X0_lowestUnread {G : Gx} (hG : Gok G ∧ IsG G layC fsoC) (N : Nat) (b : Nat) (hb : isBk b = true) (x1 : Int32) (s : Mem) : Ct G yX0_lowestUnread cX0_lowestUnread 3 (some .int) 3 [.ref (Ga G b), .int x1] tvI s (f_X0_lowestUnread N b x1 s) := by
  refine Ct.of hG (by decide) (Nat.le_of_ble_eq_true rfl) (fun P h => ?_)
  show P _ 0 [(0, .ref (Ga G b)), (1, .int x1)] [] s
  unfold f_X0_lowestUnread
  refine jx_iconst h dX0_lowestUnread_0 ki_0 ?_
  refine jx_istore_n (lv' := [(2, .int 0), (0, .ref (Ga G b)), (1, .int x1)]) h dX0_lowestUnread_1 rfl (Nat.le_of_ble_eq_true rfl) rfl ?_
  refine jx_subk [1, 2, 0] h (itr_ind (Q := (fun (f : Int32 → Mem → Option (Int32 × Mem)) => ∀ (x2 : Int32) (s : Mem), P (f x2 s) 2 [(0, .ref (Ga G b)), (1, .int x1), (2, .int x2)] [] s)) (fun _ _ => jx_none h) (fun r2 ih2 => ?_) N 0 s) rfl
  refine w_X0_lowestUnread_2 hG h N b hb x1  ih2
noncomputable def f_X0_readOne (N : Nat) (b : Nat) (x1 : Int32) (x2 : Nat) (s : Mem) : Option (Int32 × Mem) :=
  bd (f_X0_lowestUnread N b x1 s) (fun r2 s1 => if 0 ≤ r2 then (chk x1 12 (bd (f_X0_tired N b x1 s1) (fun r4 s3 => bd (f_X4_askOf N x2 x1 (gi s1 (b + 1) (ix x1)) r4 r2 s3) (fun _ s5 => chk r2 6 (chk x1 12 (bd (f_X4_askBy N x2 (gi s5 ((b + 7) + 1 + ix r2) (ix x1)) 0 (gi s5 b 11) s5) (fun _ s8 => bd (f_X0_draw N b s8) (fun r11 s10 => bd (f_X4_number N x2 104 10 s10) (fun r13 s12 => if r13 ≤ r11 then (bd (f_X4_number N x2 103 999 s12) (fun r15 s14 => bd (f_X0_give N b r2 x1 r15 s14) (fun _ s16 => lt (si s16 b 14 ((gi s16 b 14) + 1)) (fun s18 => some (1, s18))))) else lt (si s12 b 15 ((gi s12 b 15) + 1)) (fun s19 => some (0, s19))))))))))) else some (0, s1))
set_option maxRecDepth 20000 in
theorem c_X0_readOne {G : Gx} (hG : Gok G ∧ IsG G layC fsoC) (N : Nat) (b : Nat) (hb : isBk b = true) (x1 : Int32) (x2 : Nat) (hx2 : isLw x2 = true) (s : Mem) : Ct G yX0_readOne cX0_readOne 4 (some .boolean) 4 [.ref (Ga G b), .int x1, .ref (Ga G x2)] tvI s (f_X0_readOne N b x1 x2 s) := by
  refine Ct.of hG (by decide) (Nat.le_of_ble_eq_true rfl) (fun P h => ?_)
  show P _ 0 [(0, .ref (Ga G b)), (1, .int x1), (2, .ref (Ga G x2))] [] s
  unfold f_X0_readOne
  refine jx_aload_n h dX0_readOne_0 rfl 0 rfl ?_
  refine jx_iload_n h dX0_readOne_1 rfl 1 rfl ?_
  refine jx_callVi [] h (isBk_o hb) (c_X0_lowestUnread hG N b hb x1 s) ml_X0_150 (Nat.le_of_ble_eq_true rfl) (Nat.le_of_ble_eq_true rfl) dX0_readOne_2 (Nat.le_of_ble_eq_true rfl) rfl (fun r2 s1 => ?_)
  refine jx_istore_n (lv' := [(3, .int r2), (0, .ref (Ga G b)), (1, .int x1), (2, .ref (Ga G x2))]) h dX0_readOne_5 rfl (Nat.le_of_ble_eq_true rfl) rfl ?_
  refine jx_iload_n h dX0_readOne_6 rfl 0 rfl ?_
  refine jx_if_ge (tgt := 12) h dX0_readOne_7 rfl ?_ ?_
  · refine jx_aload_n h dX0_readOne_12 rfl 3 rfl ?_
    refine jx_iload_n h dX0_readOne_13 rfl 2 rfl ?_
    refine jx_aload_n h dX0_readOne_14 rfl 1 rfl ?_
    refine jx_get (v := .ref (Ga G (b + 1))) h fa_X0_9 (isBk_o hb) dX0_readOne_15 rfl ?_
    refine jx_iload_n h dX0_readOne_18 rfl 2 rfl ?_
    refine jx_iaload h (isBk_1 hb) dX0_readOne_19 ?_
    refine jx_aload_n h dX0_readOne_20 rfl 1 rfl ?_
    refine jx_iload_n h dX0_readOne_21 rfl 2 rfl ?_
    refine jx_callVi [.int (gi s1 (b + 1) (ix x1)), .int x1, .ref (Ga G x2)] h (isBk_o hb) (c_X0_tired hG N b hb x1 s1) ml_X0_101 (Nat.le_of_ble_eq_true rfl) (Nat.le_of_ble_eq_true rfl) dX0_readOne_22 (Nat.le_of_ble_eq_true rfl) rfl (fun r4 s3 => ?_)
    refine jx_iload_n h dX0_readOne_25 rfl 0 rfl ?_
    refine jx_callVv [] h (isLw_o hx2) (c_X4_askOf hG N x2 hx2 x1 (gi s1 (b + 1) (ix x1)) r4 r2 s3) ml_X0_86 (Nat.le_of_ble_eq_true rfl) (Nat.le_of_ble_eq_true rfl) dX0_readOne_26 (Nat.le_of_ble_eq_true rfl) rfl (fun s5 => ?_)
    refine jx_aload_n h dX0_readOne_29 rfl 3 rfl ?_
    refine jx_aload_n h dX0_readOne_30 rfl 1 rfl ?_
    refine jx_get (v := .ref (Ga G (b + 7))) h fa_X0_32 (isBk_o hb) dX0_readOne_31 rfl ?_
    refine jx_iload_n h dX0_readOne_34 rfl 0 rfl ?_
    refine jx_aaload h (isBk_7 hb) dX0_readOne_35 (fun hr7 => ?_)
    refine jx_iload_n h dX0_readOne_36 rfl 2 rfl ?_
    refine jx_iaload h (isBk_r hb hr7) dX0_readOne_37 ?_
    refine jx_iconst h dX0_readOne_38 ki_0 ?_
    refine jx_aload_n h dX0_readOne_39 rfl 1 rfl ?_
    refine jx_get (v := .int (gi s5 b 11)) h fa_X0_57 (isBk_o hb) dX0_readOne_40 rfl ?_
    refine jx_callVv [] h (isLw_o hx2) (c_X4_askBy hG N x2 hx2 (gi s5 ((b + 7) + 1 + ix r2) (ix x1)) 0 (gi s5 b 11) s5) ml_X0_95 (Nat.le_of_ble_eq_true rfl) (Nat.le_of_ble_eq_true rfl) dX0_readOne_43 (Nat.le_of_ble_eq_true rfl) rfl (fun s8 => ?_)
    refine jx_aload_n h dX0_readOne_46 rfl 1 rfl ?_
    refine jx_callVi [] h (isBk_o hb) (c_X0_draw hG N b hb s8) ml_X0_153 (Nat.le_of_ble_eq_true rfl) (Nat.le_of_ble_eq_true rfl) dX0_readOne_47 (Nat.le_of_ble_eq_true rfl) rfl (fun r11 s10 => ?_)
    refine jx_aload_n h dX0_readOne_50 rfl 3 rfl ?_
    refine jx_bipush h dX0_readOne_51 kb_104 ?_
    refine jx_bipush h dX0_readOne_53 kb_10 ?_
    refine jx_callVi [.int r11] h (isLw_o hx2) (c_X4_number hG N x2 hx2 104 10 s10) ml_X0_98 (Nat.le_of_ble_eq_true rfl) (Nat.le_of_ble_eq_true rfl) dX0_readOne_55 (Nat.le_of_ble_eq_true rfl) rfl (fun r13 s12 => ?_)
    refine jx_icmp_ge (tgt := 73) h dX0_readOne_58 rfl ?_ ?_
    · refine jx_aload_n h dX0_readOne_73 rfl 1 rfl ?_
      refine jx_iload_n h dX0_readOne_74 rfl 0 rfl ?_
      refine jx_iload_n h dX0_readOne_75 rfl 2 rfl ?_
      refine jx_aload_n h dX0_readOne_76 rfl 3 rfl ?_
      refine jx_bipush h dX0_readOne_77 kb_103 ?_
      refine jx_sipush h dX0_readOne_79 ks_999 ?_
      refine jx_callVi [.int x1, .int r2, .ref (Ga G b)] h (isLw_o hx2) (c_X4_number hG N x2 hx2 103 999 s12) ml_X0_98 (Nat.le_of_ble_eq_true rfl) (Nat.le_of_ble_eq_true rfl) dX0_readOne_82 (Nat.le_of_ble_eq_true rfl) rfl (fun r15 s14 => ?_)
      refine jx_callVv [] h (isBk_o hb) (c_X0_give hG N b hb r2 x1 r15 s14) ml_X0_71 (Nat.le_of_ble_eq_true rfl) (Nat.le_of_ble_eq_true rfl) dX0_readOne_85 (Nat.le_of_ble_eq_true rfl) rfl (fun s16 => ?_)
      refine jx_aload_n h dX0_readOne_88 rfl 1 rfl ?_
      refine jx_dup h dX0_readOne_89 rfl ?_
      refine jx_get (v := .int (gi s16 b 14)) h fa_X0_106 (isBk_o hb) dX0_readOne_90 rfl ?_
      refine jx_iconst h dX0_readOne_93 ki_1 ?_
      refine jx_iadd h dX0_readOne_94 ?_
      refine jx_put h fa_X0_106 fp_X0_14 (isBk_o hb) rfl rfl dX0_readOne_95 (fu_X0_14 _ _ _ _) (fun s18 => ?_)
      refine jx_iconst h dX0_readOne_98 ki_1 ?_
      exact jx_zret h rfl dX0_readOne_99
    · refine jx_aload_n h dX0_readOne_61 rfl 1 rfl ?_
      refine jx_dup h dX0_readOne_62 rfl ?_
      refine jx_get (v := .int (gi s12 b 15)) h fa_X0_109 (isBk_o hb) dX0_readOne_63 rfl ?_
      refine jx_iconst h dX0_readOne_66 ki_1 ?_
      refine jx_iadd h dX0_readOne_67 ?_
      refine jx_put h fa_X0_109 fp_X0_15 (isBk_o hb) rfl rfl dX0_readOne_68 (fu_X0_15 _ _ _ _) (fun s19 => ?_)
      refine jx_iconst h dX0_readOne_71 ki_0 ?_
      exact jx_zret h rfl dX0_readOne_72
  · refine jx_iconst h dX0_readOne_10 ki_0 ?_
    exact jx_zret h rfl dX0_readOne_11
noncomputable def st_X0_rebuild_2 (N : Nat) (b : Nat)  (rec : Int32 → Mem → Option (Unit × Mem)) (x1 : Int32) (s0 : Mem) : Option (Unit × Mem) :=
  if 6 ≤ x1 then (some ((), s0)) else bd (f_X0_isInForce N b x1 s0) (fun r2 s1 => if r2 = 0 then (lt (x1 + 1) (fun x1_3 => rec x1_3 s1)) else chk x1 6 (chk x1 6 (if (gi s1 (b + 4) (ix x1)) < (gi s1 (b + 3) (ix x1)) then (lt (x1 + 1) (fun x1_4 => rec x1_4 s1)) else lt (si s1 b 2 ((gi s1 b 2) ^^^ ((1 : Int32) <<< (x1 &&& 31)))) (fun s5 => lt (si s5 b 12 ((gi s5 b 12) + 1)) (fun s6 => lt (x1 + 1) (fun x1_7 => rec x1_7 s6))))))
noncomputable def f_X0_rebuild (N : Nat) (b : Nat) (s : Mem) : Option (Unit × Mem) :=
  itr (fun _ _ => none) (st_X0_rebuild_2 N b) N 0 s
set_option maxRecDepth 20000 in
theorem w_X0_rebuild_2 {G : Gx} (hG : Gok G ∧ IsG G layC fsoC) {P : Option (Unit × Mem) → Nat → List (Nat × Value) → List Value → Mem → Prop} (h : Jk G layC fsoC RX0 cX0_rebuild 2 none 3 tvV P) (N : Nat) (b : Nat) (hb : isBk b = true) {rec : Int32 → Mem → Option (Unit × Mem)} (ih : ∀ (x1 : Int32) (s : Mem), P (rec x1 s) 2 [(0, .ref (Ga G b)), (1, .int x1)] [] s) : ∀ (x1 : Int32) (s : Mem), P (st_X0_rebuild_2 N b rec x1 s) 2 [(0, .ref (Ga G b)), (1, .int x1)] [] s := by
  intro x1 s0
  unfold st_X0_rebuild_2
  refine jx_iload_n h dX0_rebuild_2 rfl 1 rfl ?_
  refine jx_bipush h dX0_rebuild_3 kb_6 ?_
  refine jx_icmp_ge (tgt := 59) h dX0_rebuild_5 rfl ?_ ?_
  · exact jx_vret h dX0_rebuild_59
  · refine jx_aload_n h dX0_rebuild_8 rfl 0 rfl ?_
    refine jx_iload_n h dX0_rebuild_9 rfl 1 rfl ?_
    refine jx_callVi [] h (isBk_o hb) (c_X0_isInForce hG N b hb x1 s0) ml_X0_112 (Nat.le_of_ble_eq_true rfl) (Nat.le_of_ble_eq_true rfl) dX0_rebuild_10 (Nat.le_of_ble_eq_true rfl) rfl (fun r2 s1 => ?_)
    refine jx_if_eq (tgt := 53) h dX0_rebuild_13 rfl ?_ ?_
    · refine jx_iincl (L := fun w => [(1, .int w), (0, .ref (Ga G b))]) h dX0_rebuild_53 1 rfl (kn_1 _) (Nat.le_of_ble_eq_true rfl) (fun _ => rfl) (fun x1_3 => ?_)
      refine jx_goto (tgt := 2) h dX0_rebuild_56 rfl ?_
      exact jx_subk [1, 0] h (ih x1_3 s1) rfl
    · refine jx_aload_n h dX0_rebuild_16 rfl 0 rfl ?_
      refine jx_get (v := .ref (Ga G (b + 4))) h fa_X0_21 (isBk_o hb) dX0_rebuild_17 rfl ?_
      refine jx_iload_n h dX0_rebuild_20 rfl 1 rfl ?_
      refine jx_iaload h (isBk_4 hb) dX0_rebuild_21 ?_
      refine jx_aload_n h dX0_rebuild_22 rfl 0 rfl ?_
      refine jx_get (v := .ref (Ga G (b + 3))) h fa_X0_18 (isBk_o hb) dX0_rebuild_23 rfl ?_
      refine jx_iload_n h dX0_rebuild_26 rfl 1 rfl ?_
      refine jx_iaload h (isBk_3 hb) dX0_rebuild_27 ?_
      refine jx_icmp_lt (tgt := 53) h dX0_rebuild_28 rfl ?_ ?_
      · refine jx_iincl (L := fun w => [(1, .int w), (0, .ref (Ga G b))]) h dX0_rebuild_53 1 rfl (kn_1 _) (Nat.le_of_ble_eq_true rfl) (fun _ => rfl) (fun x1_4 => ?_)
        refine jx_goto (tgt := 2) h dX0_rebuild_56 rfl ?_
        exact jx_subk [1, 0] h (ih x1_4 s1) rfl
      · refine jx_aload_n h dX0_rebuild_31 rfl 0 rfl ?_
        refine jx_dup h dX0_rebuild_32 rfl ?_
        refine jx_get (v := .int (gi s1 b 2)) h fa_X0_51 (isBk_o hb) dX0_rebuild_33 rfl ?_
        refine jx_iconst h dX0_rebuild_36 ki_1 ?_
        refine jx_iload_n h dX0_rebuild_37 rfl 1 rfl ?_
        refine jx_ishl h dX0_rebuild_38 ?_
        refine jx_ixor h dX0_rebuild_39 ?_
        refine jx_put h fa_X0_51 fp_X0_2 (isBk_o hb) rfl rfl dX0_rebuild_40 (fu_X0_2 _ _ _ _) (fun s5 => ?_)
        refine jx_aload_n h dX0_rebuild_43 rfl 0 rfl ?_
        refine jx_dup h dX0_rebuild_44 rfl ?_
        refine jx_get (v := .int (gi s5 b 12)) h fa_X0_60 (isBk_o hb) dX0_rebuild_45 rfl ?_
        refine jx_iconst h dX0_rebuild_48 ki_1 ?_
        refine jx_iadd h dX0_rebuild_49 ?_
        refine jx_put h fa_X0_60 fp_X0_12 (isBk_o hb) rfl rfl dX0_rebuild_50 (fu_X0_12 _ _ _ _) (fun s6 => ?_)
        refine jx_iincl (L := fun w => [(1, .int w), (0, .ref (Ga G b))]) h dX0_rebuild_53 1 rfl (kn_1 _) (Nat.le_of_ble_eq_true rfl) (fun _ => rfl) (fun x1_7 => ?_)
        refine jx_goto (tgt := 2) h dX0_rebuild_56 rfl ?_
        exact jx_subk [1, 0] h (ih x1_7 s6) rfl
set_option maxRecDepth 20000 in
theorem c_X0_rebuild {G : Gx} (hG : Gok G ∧ IsG G layC fsoC) (N : Nat) (b : Nat) (hb : isBk b = true) (s : Mem) : Ct G yX0_rebuild cX0_rebuild 2 none 3 [.ref (Ga G b)] tvV s (f_X0_rebuild N b s) := by
  refine Ct.of hG (by decide) (Nat.le_of_ble_eq_true rfl) (fun P h => ?_)
  show P _ 0 [(0, .ref (Ga G b))] [] s
  unfold f_X0_rebuild
  refine jx_iconst h dX0_rebuild_0 ki_0 ?_
  refine jx_istore_n (lv' := [(1, .int 0), (0, .ref (Ga G b))]) h dX0_rebuild_1 rfl (Nat.le_of_ble_eq_true rfl) rfl ?_
  refine jx_subk [1, 0] h (itr_ind (Q := (fun (f : Int32 → Mem → Option (Unit × Mem)) => ∀ (x1 : Int32) (s : Mem), P (f x1 s) 2 [(0, .ref (Ga G b)), (1, .int x1)] [] s)) (fun _ _ => jx_none h) (fun r2 ih2 => ?_) N 0 s) rfl
  refine w_X0_rebuild_2 hG h N b hb   ih2
noncomputable def st_X0_remember_2 (N : Nat) (b : Nat) (x1 : Int32)  (rec : Int32 → Mem → Option (Unit × Mem)) (x2 : Int32) (s0 : Mem) : Option (Unit × Mem) :=
  if x2 ≤ 0 then (chk 0 3 (lt (si s0 (b + 14) (ix (0 : Int32)) x1) (fun s1 => some ((), s1)))) else chk (x2 - 1) 3 (chk x2 3 (lt (si s0 (b + 14) (ix x2) (gi s0 (b + 14) (ix (x2 - 1)))) (fun s2 => lt (x2 + (-1)) (fun x2_3 => rec x2_3 s2))))
noncomputable def f_X0_remember (N : Nat) (b : Nat) (x1 : Int32) (s : Mem) : Option (Unit × Mem) :=
  itr (fun _ _ => none) (st_X0_remember_2 N b x1) N 2 s
set_option maxRecDepth 20000 in
theorem w_X0_remember_2 {G : Gx} (hG : Gok G ∧ IsG G layC fsoC) {P : Option (Unit × Mem) → Nat → List (Nat × Value) → List Value → Mem → Prop} (h : Jk G layC fsoC RX0 cX0_remember 3 none 0 tvV P) (N : Nat) (b : Nat) (hb : isBk b = true) (x1 : Int32) {rec : Int32 → Mem → Option (Unit × Mem)} (ih : ∀ (x2 : Int32) (s : Mem), P (rec x2 s) 2 [(0, .ref (Ga G b)), (1, .int x1), (2, .int x2)] [] s) : ∀ (x2 : Int32) (s : Mem), P (st_X0_remember_2 N b x1 rec x2 s) 2 [(0, .ref (Ga G b)), (1, .int x1), (2, .int x2)] [] s := by
  intro x2 s0
  unfold st_X0_remember_2
  refine jx_iload_n h dX0_remember_2 rfl 2 rfl ?_
  refine jx_if_le (tgt := 26) h dX0_remember_3 rfl ?_ ?_
  · refine jx_aload_n h dX0_remember_26 rfl 0 rfl ?_
    refine jx_get (v := .ref (Ga G (b + 14))) h fa_X0_35 (isBk_o hb) dX0_remember_27 rfl ?_
    refine jx_iconst h dX0_remember_30 ki_0 ?_
    refine jx_iload_n h dX0_remember_31 rfl 1 rfl ?_
    refine jx_iastore h (isBk_14 hb) dX0_remember_32 (fun s1 => ?_)
    exact jx_vret h dX0_remember_33
  · refine jx_aload_n h dX0_remember_6 rfl 0 rfl ?_
    refine jx_get (v := .ref (Ga G (b + 14))) h fa_X0_35 (isBk_o hb) dX0_remember_7 rfl ?_
    refine jx_iload_n h dX0_remember_10 rfl 2 rfl ?_
    refine jx_aload_n h dX0_remember_11 rfl 0 rfl ?_
    refine jx_get (v := .ref (Ga G (b + 14))) h fa_X0_35 (isBk_o hb) dX0_remember_12 rfl ?_
    refine jx_iload_n h dX0_remember_15 rfl 2 rfl ?_
    refine jx_iconst h dX0_remember_16 ki_1 ?_
    refine jx_isub h dX0_remember_17 ?_
    refine jx_iaload h (isBk_14 hb) dX0_remember_18 ?_
    refine jx_iastore h (isBk_14 hb) dX0_remember_19 (fun s2 => ?_)
    refine jx_iincl (L := fun w => [(2, .int w), (0, .ref (Ga G b)), (1, .int x1)]) h dX0_remember_20 2 rfl (kn_m1 _) (Nat.le_of_ble_eq_true rfl) (fun _ => rfl) (fun x2_3 => ?_)
    refine jx_goto (tgt := 2) h dX0_remember_23 rfl ?_
    exact jx_subk [1, 2, 0] h (ih x2_3 s2) rfl
set_option maxRecDepth 20000 in
theorem c_X0_remember {G : Gx} (hG : Gok G ∧ IsG G layC fsoC) (N : Nat) (b : Nat) (hb : isBk b = true) (x1 : Int32) (s : Mem) : Ct G yX0_remember cX0_remember 3 none 0 [.ref (Ga G b), .int x1] tvV s (f_X0_remember N b x1 s) := by
  refine Ct.of hG (by decide) (Nat.le_of_ble_eq_true rfl) (fun P h => ?_)
  show P _ 0 [(0, .ref (Ga G b)), (1, .int x1)] [] s
  unfold f_X0_remember
  refine jx_iconst h dX0_remember_0 ki_2 ?_
  refine jx_istore_n (lv' := [(2, .int 2), (0, .ref (Ga G b)), (1, .int x1)]) h dX0_remember_1 rfl (Nat.le_of_ble_eq_true rfl) rfl ?_
  refine jx_subk [1, 2, 0] h (itr_ind (Q := (fun (f : Int32 → Mem → Option (Unit × Mem)) => ∀ (x2 : Int32) (s : Mem), P (f x2 s) 2 [(0, .ref (Ga G b)), (1, .int x1), (2, .int x2)] [] s)) (fun _ _ => jx_none h) (fun r2 ih2 => ?_) N 2 s) rfl
  refine w_X0_remember_2 hG h N b hb x1  ih2
noncomputable def st_X4_shuts_2 (N : Nat) (b : Nat)  (rec : Int32 → Mem → Option (Int32 × Mem)) (x1 : Int32) (s0 : Mem) : Option (Int32 × Mem) :=
  if (gi s0 b 0) ≤ x1 then (some (0, s0)) else if 16 ≤ x1 then (some (0, s0)) else chk x1 16 (if (gi s0 (b + 1) (ix x1)) = 120 then (chk x1 16 (chk x1 16 (bd (f_X4_worth N b (gi s0 (b + 3) (ix x1)) (gi s0 (b + 4) (ix x1)) s0) (fun r3 s2 => if (lg_cmp r3 1) = 0 then (some (1, s2)) else lt (x1 + 1) (fun x1_4 => rec x1_4 s2))))) else lt (x1 + 1) (fun x1_1 => rec x1_1 s0))
noncomputable def f_X4_shuts (N : Nat) (b : Nat) (s : Mem) : Option (Int32 × Mem) :=
  itr (fun _ _ => none) (st_X4_shuts_2 N b) N 0 s
set_option maxRecDepth 20000 in
theorem w_X4_shuts_2 {G : Gx} (hG : Gok G ∧ IsG G layC fsoC) {P : Option (Int32 × Mem) → Nat → List (Nat × Value) → List Value → Mem → Prop} (h : Jk G layC fsoC RX4 cX4_shuts 2 (some .boolean) 2 tvI P) (N : Nat) (b : Nat) (hb : isLw b = true) {rec : Int32 → Mem → Option (Int32 × Mem)} (ih : ∀ (x1 : Int32) (s : Mem), P (rec x1 s) 2 [(0, .ref (Ga G b)), (1, .int x1)] [] s) : ∀ (x1 : Int32) (s : Mem), P (st_X4_shuts_2 N b rec x1 s) 2 [(0, .ref (Ga G b)), (1, .int x1)] [] s := by
  intro x1 s0
  unfold st_X4_shuts_2
  refine jx_iload_n h dX4_shuts_2 rfl 1 rfl ?_
  refine jx_aload_n h dX4_shuts_3 rfl 0 rfl ?_
  refine jx_get (v := .int (gi s0 b 0)) h fa_X4_32 (isLw_o hb) dX4_shuts_4 rfl ?_
  refine jx_icmp_ge (tgt := 56) h dX4_shuts_7 rfl ?_ ?_
  · refine jx_iconst h dX4_shuts_56 ki_0 ?_
    exact jx_zret h rfl dX4_shuts_57
  · refine jx_iload_n h dX4_shuts_10 rfl 1 rfl ?_
    refine jx_bipush h dX4_shuts_11 kb_16 ?_
    refine jx_icmp_ge (tgt := 56) h dX4_shuts_13 rfl ?_ ?_
    · refine jx_iconst h dX4_shuts_56 ki_0 ?_
      exact jx_zret h rfl dX4_shuts_57
    · refine jx_aload_n h dX4_shuts_16 rfl 0 rfl ?_
      refine jx_get (v := .ref (Ga G (b + 1))) h fa_X4_9 (isLw_o hb) dX4_shuts_17 rfl ?_
      refine jx_iload_n h dX4_shuts_20 rfl 1 rfl ?_
      refine jx_iaload h (isLw_1 hb) dX4_shuts_21 ?_
      refine jx_bipush h dX4_shuts_22 kb_120 ?_
      refine jx_icmp_ne (tgt := 50) h dX4_shuts_24 rfl ?_ ?_
      · refine jx_iincl (L := fun w => [(1, .int w), (0, .ref (Ga G b))]) h dX4_shuts_50 1 rfl (kn_1 _) (Nat.le_of_ble_eq_true rfl) (fun _ => rfl) (fun x1_1 => ?_)
        refine jx_goto (tgt := 2) h dX4_shuts_53 rfl ?_
        exact jx_subk [1, 0] h (ih x1_1 s0) rfl
      · refine jx_aload_n h dX4_shuts_27 rfl 0 rfl ?_
        refine jx_aload_n h dX4_shuts_28 rfl 0 rfl ?_
        refine jx_get (v := .ref (Ga G (b + 3))) h fa_X4_16 (isLw_o hb) dX4_shuts_29 rfl ?_
        refine jx_iload_n h dX4_shuts_32 rfl 1 rfl ?_
        refine jx_iaload h (isLw_3 hb) dX4_shuts_33 ?_
        refine jx_aload_n h dX4_shuts_34 rfl 0 rfl ?_
        refine jx_get (v := .ref (Ga G (b + 4))) h fa_X4_19 (isLw_o hb) dX4_shuts_35 rfl ?_
        refine jx_iload_n h dX4_shuts_38 rfl 1 rfl ?_
        refine jx_iaload h (isLw_4 hb) dX4_shuts_39 ?_
        refine jx_callVl [] h (isLw_o hb) (c_X4_worth hG N b hb (gi s0 (b + 3) (ix x1)) (gi s0 (b + 4) (ix x1)) s0) ml_X4_39 (Nat.le_of_ble_eq_true rfl) (Nat.le_of_ble_eq_true rfl) dX4_shuts_40 (Nat.le_of_ble_eq_true rfl) rfl (fun r3 s2 => ?_)
        refine jx_lconst (v := 1) h dX4_shuts_43 rfl ?_
        refine jx_lcmp h dX4_shuts_44 ?_
        refine jx_if_ne (tgt := 50) h dX4_shuts_45 rfl ?_ ?_
        · refine jx_iincl (L := fun w => [(1, .int w), (0, .ref (Ga G b))]) h dX4_shuts_50 1 rfl (kn_1 _) (Nat.le_of_ble_eq_true rfl) (fun _ => rfl) (fun x1_4 => ?_)
          refine jx_goto (tgt := 2) h dX4_shuts_53 rfl ?_
          exact jx_subk [1, 0] h (ih x1_4 s2) rfl
        · refine jx_iconst h dX4_shuts_48 ki_1 ?_
          exact jx_zret h rfl dX4_shuts_49
set_option maxRecDepth 20000 in
theorem c_X4_shuts {G : Gx} (hG : Gok G ∧ IsG G layC fsoC) (N : Nat) (b : Nat) (hb : isLw b = true) (s : Mem) : Ct G yX4_shuts cX4_shuts 2 (some .boolean) 2 [.ref (Ga G b)] tvI s (f_X4_shuts N b s) := by
  refine Ct.of hG (by decide) (Nat.le_of_ble_eq_true rfl) (fun P h => ?_)
  show P _ 0 [(0, .ref (Ga G b))] [] s
  unfold f_X4_shuts
  refine jx_iconst h dX4_shuts_0 ki_0 ?_
  refine jx_istore_n (lv' := [(1, .int 0), (0, .ref (Ga G b))]) h dX4_shuts_1 rfl (Nat.le_of_ble_eq_true rfl) rfl ?_
  refine jx_subk [1, 0] h (itr_ind (Q := (fun (f : Int32 → Mem → Option (Int32 × Mem)) => ∀ (x1 : Int32) (s : Mem), P (f x1 s) 2 [(0, .ref (Ga G b)), (1, .int x1)] [] s)) (fun _ _ => jx_none h) (fun r2 ih2 => ?_) N 0 s) rfl
  refine w_X4_shuts_2 hG h N b hb   ih2
noncomputable def st_X0_sourceFor_28 (N : Nat) (b : Nat) (x1 : Int32) (x2 : Int32) (x3 : Int32) (x5 : Nat)  (rec : Int32 → Int32 → Int32 → Mem → Option (Int32 × Mem)) (x6 : Int32) (x7 : Int32) (x8 : Int32) (s0 : Mem) : Option (Int32 × Mem) :=
  if 12 ≤ x8 then (some (x6, s0)) else chk x8 12 (chk x2 12 (lt (gi s0 (4 + 1 + ix x8) (ix x2)) (fun v6 => bd (f_X9_hasBit N x3 x8 s0) (fun r8 s7 => if r8 = 0 then (lt (x8 + 1) (fun x8_9 => rec x6 x7 x8_9 s7)) else if v6 ≤ 0 then (lt (x8 + 1) (fun x8_10 => rec x6 x7 x8_10 s7)) else if x7 ≤ v6 then (lt (x8 + 1) (fun x8_11 => rec x6 x7 x8_11 s7)) else chk x1 6 (chk x8 12 (bd (f_X4_askBy N x5 (gi s7 ((b + 7) + 1 + ix x1) (ix x8)) v6 (gi s7 b 11) s7) (fun _ s13 => bd (f_X4_shuts N x5 s13) (fun r16 s15 => if r16 = 0 then (lt (x8 + 1) (fun x8_18 => rec x8 v6 x8_18 s15)) else lt (x8 + 1) (fun x8_17 => rec x6 x7 x8_17 s15)))))))))
noncomputable def f_X0_sourceFor (N : Nat) (b : Nat) (x1 : Int32) (x2 : Int32) (x3 : Int32) (x5 : Nat) (s : Mem) : Option (Int32 × Mem) :=
  chk x2 12 (bd (f_X0_tired N b x2 s) (fun r2 s1 => bd (f_X4_askOf N x5 x2 (gi s (b + 1) (ix x2)) r2 x1 s1) (fun _ s3 => itr (fun _ _ _ _ => none) (st_X0_sourceFor_28 N b x1 x2 x3 x5) N (-1) 100 0 s3)))
set_option maxRecDepth 20000 in
theorem w_X0_sourceFor_28 {G : Gx} (hG : Gok G ∧ IsG G layC fsoC) {P : Option (Int32 × Mem) → Nat → List (Nat × Value) → List Value → Mem → Prop} (h : Jk G layC fsoC RX0 cX0_sourceFor 10 (some .int) 3 tvI P) (N : Nat) (b : Nat) (hb : isBk b = true) (x1 : Int32) (x2 : Int32) (x3 : Int32) (x5 : Nat) (hx5 : isLw x5 = true) {rec : Int32 → Int32 → Int32 → Mem → Option (Int32 × Mem)} (ih : ∀ (x6 : Int32) (x7 : Int32) (x8 : Int32) (s : Mem), P (rec x6 x7 x8 s) 28 [(0, .ref (Ga G b)), (1, .int x1), (2, .int x2), (3, .int x3), (4, .ref (Ga G 3)), (5, .ref (Ga G x5)), (6, .int x6), (7, .int x7), (8, .int x8)] [] s) : ∀ (x6 : Int32) (x7 : Int32) (x8 : Int32) (s : Mem), P (st_X0_sourceFor_28 N b x1 x2 x3 x5 rec x6 x7 x8 s) 28 [(0, .ref (Ga G b)), (1, .int x1), (2, .int x2), (3, .int x3), (4, .ref (Ga G 3)), (5, .ref (Ga G x5)), (6, .int x6), (7, .int x7), (8, .int x8)] [] s := by
  intro x6 x7 x8 s0
  unfold st_X0_sourceFor_28
  refine jx_iload h dX0_sourceFor_28 8 rfl ?_
  refine jx_bipush h dX0_sourceFor_30 kb_12 ?_
  refine jx_icmp_ge (tgt := 110) h dX0_sourceFor_32 rfl ?_ ?_
  · refine jx_iload h dX0_sourceFor_110 6 rfl ?_
    exact jx_iret h dX0_sourceFor_112
  · refine jx_aload h dX0_sourceFor_35 4 rfl ?_
    refine jx_get (v := .ref (Ga G 4)) h fa_X0_139 lc_3 dX0_sourceFor_37 rfl ?_
    refine jx_iload h dX0_sourceFor_40 8 rfl ?_
    refine jx_aaload h lc_4 dX0_sourceFor_42 (fun hr5 => ?_)
    refine jx_iload_n h dX0_sourceFor_43 rfl 2 rfl ?_
    refine jx_iaload h (lr_4 hr5) dX0_sourceFor_44 ?_
    refine jx_lti (fun v6 => ?_)
    refine jx_istore (lv' := [(9, .int v6), (0, .ref (Ga G b)), (1, .int x1), (2, .int x2), (3, .int x3), (4, .ref (Ga G 3)), (5, .ref (Ga G x5)), (6, .int x6), (7, .int x7), (8, .int x8)]) h dX0_sourceFor_45 (Nat.le_of_ble_eq_true rfl) rfl ?_
    refine jx_iload_n h dX0_sourceFor_47 rfl 4 rfl ?_
    refine jx_iload h dX0_sourceFor_48 9 rfl ?_
    refine jx_callSi [] h (c_X9_hasBit hG N x3 x8 s0) ml_X0_67 (Nat.le_of_ble_eq_true rfl) (Nat.le_of_ble_eq_true rfl) dX0_sourceFor_50 (Nat.le_of_ble_eq_true rfl) rfl (fun r8 s7 => ?_)
    refine jx_if_eq (tgt := 104) h dX0_sourceFor_53 rfl ?_ ?_
    · refine jx_iincl (L := fun w => [(8, .int w), (9, .int v6), (0, .ref (Ga G b)), (1, .int x1), (2, .int x2), (3, .int x3), (4, .ref (Ga G 3)), (5, .ref (Ga G x5)), (6, .int x6), (7, .int x7)]) h dX0_sourceFor_104 9 rfl (kn_1 _) (Nat.le_of_ble_eq_true rfl) (fun _ => rfl) (fun x8_9 => ?_)
      refine jx_goto (tgt := 28) h dX0_sourceFor_107 rfl ?_
      exact jx_subk [2, 3, 4, 5, 6, 7, 8, 9, 0] h (ih x6 x7 x8_9 s7) rfl
    · refine jx_iload h dX0_sourceFor_56 0 rfl ?_
      refine jx_if_le (tgt := 104) h dX0_sourceFor_58 rfl ?_ ?_
      · refine jx_iincl (L := fun w => [(8, .int w), (9, .int v6), (0, .ref (Ga G b)), (1, .int x1), (2, .int x2), (3, .int x3), (4, .ref (Ga G 3)), (5, .ref (Ga G x5)), (6, .int x6), (7, .int x7)]) h dX0_sourceFor_104 9 rfl (kn_1 _) (Nat.le_of_ble_eq_true rfl) (fun _ => rfl) (fun x8_10 => ?_)
        refine jx_goto (tgt := 28) h dX0_sourceFor_107 rfl ?_
        exact jx_subk [2, 3, 4, 5, 6, 7, 8, 9, 0] h (ih x6 x7 x8_10 s7) rfl
      · refine jx_iload h dX0_sourceFor_61 0 rfl ?_
        refine jx_iload h dX0_sourceFor_63 8 rfl ?_
        refine jx_icmp_ge (tgt := 104) h dX0_sourceFor_65 rfl ?_ ?_
        · refine jx_iincl (L := fun w => [(8, .int w), (9, .int v6), (0, .ref (Ga G b)), (1, .int x1), (2, .int x2), (3, .int x3), (4, .ref (Ga G 3)), (5, .ref (Ga G x5)), (6, .int x6), (7, .int x7)]) h dX0_sourceFor_104 9 rfl (kn_1 _) (Nat.le_of_ble_eq_true rfl) (fun _ => rfl) (fun x8_11 => ?_)
          refine jx_goto (tgt := 28) h dX0_sourceFor_107 rfl ?_
          exact jx_subk [2, 3, 4, 5, 6, 7, 8, 9, 0] h (ih x6 x7 x8_11 s7) rfl
        · refine jx_aload h dX0_sourceFor_68 6 rfl ?_
          refine jx_aload_n h dX0_sourceFor_70 rfl 1 rfl ?_
          refine jx_get (v := .ref (Ga G (b + 7))) h fa_X0_32 (isBk_o hb) dX0_sourceFor_71 rfl ?_
          refine jx_iload_n h dX0_sourceFor_74 rfl 2 rfl ?_
          refine jx_aaload h (isBk_7 hb) dX0_sourceFor_75 (fun hr12 => ?_)
          refine jx_iload h dX0_sourceFor_76 9 rfl ?_
          refine jx_iaload h (isBk_r hb hr12) dX0_sourceFor_78 ?_
          refine jx_iload h dX0_sourceFor_79 0 rfl ?_
          refine jx_aload_n h dX0_sourceFor_81 rfl 1 rfl ?_
          refine jx_get (v := .int (gi s7 b 11)) h fa_X0_57 (isBk_o hb) dX0_sourceFor_82 rfl ?_
          refine jx_callVv [] h (isLw_o hx5) (c_X4_askBy hG N x5 hx5 (gi s7 ((b + 7) + 1 + ix x1) (ix x8)) v6 (gi s7 b 11) s7) ml_X0_95 (Nat.le_of_ble_eq_true rfl) (Nat.le_of_ble_eq_true rfl) dX0_sourceFor_85 (Nat.le_of_ble_eq_true rfl) rfl (fun s13 => ?_)
          refine jx_aload h dX0_sourceFor_88 6 rfl ?_
          refine jx_callVi [] h (isLw_o hx5) (c_X4_shuts hG N x5 hx5 s13) ml_X0_146 (Nat.le_of_ble_eq_true rfl) (Nat.le_of_ble_eq_true rfl) dX0_sourceFor_90 (Nat.le_of_ble_eq_true rfl) rfl (fun r16 s15 => ?_)
          refine jx_if_ne (tgt := 104) h dX0_sourceFor_93 rfl ?_ ?_
          · refine jx_iincl (L := fun w => [(8, .int w), (9, .int v6), (0, .ref (Ga G b)), (1, .int x1), (2, .int x2), (3, .int x3), (4, .ref (Ga G 3)), (5, .ref (Ga G x5)), (6, .int x6), (7, .int x7)]) h dX0_sourceFor_104 9 rfl (kn_1 _) (Nat.le_of_ble_eq_true rfl) (fun _ => rfl) (fun x8_17 => ?_)
            refine jx_goto (tgt := 28) h dX0_sourceFor_107 rfl ?_
            exact jx_subk [2, 3, 4, 5, 6, 7, 8, 9, 0] h (ih x6 x7 x8_17 s15) rfl
          · refine jx_iload h dX0_sourceFor_96 9 rfl ?_
            refine jx_istore (lv' := [(6, .int x8), (9, .int v6), (0, .ref (Ga G b)), (1, .int x1), (2, .int x2), (3, .int x3), (4, .ref (Ga G 3)), (5, .ref (Ga G x5)), (7, .int x7), (8, .int x8)]) h dX0_sourceFor_98 (Nat.le_of_ble_eq_true rfl) rfl ?_
            refine jx_iload h dX0_sourceFor_100 1 rfl ?_
            refine jx_istore (lv' := [(7, .int v6), (6, .int x8), (9, .int v6), (0, .ref (Ga G b)), (1, .int x1), (2, .int x2), (3, .int x3), (4, .ref (Ga G 3)), (5, .ref (Ga G x5)), (8, .int x8)]) h dX0_sourceFor_102 (Nat.le_of_ble_eq_true rfl) rfl ?_
            refine jx_iincl (L := fun w => [(8, .int w), (7, .int v6), (6, .int x8), (9, .int v6), (0, .ref (Ga G b)), (1, .int x1), (2, .int x2), (3, .int x3), (4, .ref (Ga G 3)), (5, .ref (Ga G x5))]) h dX0_sourceFor_104 9 rfl (kn_1 _) (Nat.le_of_ble_eq_true rfl) (fun _ => rfl) (fun x8_18 => ?_)
            refine jx_goto (tgt := 28) h dX0_sourceFor_107 rfl ?_
            exact jx_subk [4, 5, 6, 7, 8, 9, 2, 1, 0] h (ih x8 v6 x8_18 s15) rfl
set_option maxRecDepth 20000 in
theorem c_X0_sourceFor {G : Gx} (hG : Gok G ∧ IsG G layC fsoC) (N : Nat) (b : Nat) (hb : isBk b = true) (x1 : Int32) (x2 : Int32) (x3 : Int32) (x5 : Nat) (hx5 : isLw x5 = true) (s : Mem) : Ct G yX0_sourceFor cX0_sourceFor 10 (some .int) 3 [.ref (Ga G b), .int x1, .int x2, .int x3, .ref (Ga G 3), .ref (Ga G x5)] tvI s (f_X0_sourceFor N b x1 x2 x3 x5 s) := by
  refine Ct.of hG (by decide) (Nat.le_of_ble_eq_true rfl) (fun P h => ?_)
  show P _ 0 [(0, .ref (Ga G b)), (1, .int x1), (2, .int x2), (3, .int x3), (4, .ref (Ga G 3)), (5, .ref (Ga G x5))] [] s
  unfold f_X0_sourceFor
  refine jx_iconst h dX0_sourceFor_0 ki_m1 ?_
  refine jx_istore (lv' := [(6, .int (-1)), (0, .ref (Ga G b)), (1, .int x1), (2, .int x2), (3, .int x3), (4, .ref (Ga G 3)), (5, .ref (Ga G x5))]) h dX0_sourceFor_1 (Nat.le_of_ble_eq_true rfl) rfl ?_
  refine jx_bipush h dX0_sourceFor_3 kb_100 ?_
  refine jx_istore (lv' := [(7, .int 100), (6, .int (-1)), (0, .ref (Ga G b)), (1, .int x1), (2, .int x2), (3, .int x3), (4, .ref (Ga G 3)), (5, .ref (Ga G x5))]) h dX0_sourceFor_5 (Nat.le_of_ble_eq_true rfl) rfl ?_
  refine jx_aload h dX0_sourceFor_7 7 rfl ?_
  refine jx_iload_n h dX0_sourceFor_9 rfl 4 rfl ?_
  refine jx_aload_n h dX0_sourceFor_10 rfl 2 rfl ?_
  refine jx_get (v := .ref (Ga G (b + 1))) h fa_X0_9 (isBk_o hb) dX0_sourceFor_11 rfl ?_
  refine jx_iload_n h dX0_sourceFor_14 rfl 4 rfl ?_
  refine jx_iaload h (isBk_1 hb) dX0_sourceFor_15 ?_
  refine jx_aload_n h dX0_sourceFor_16 rfl 2 rfl ?_
  refine jx_iload_n h dX0_sourceFor_17 rfl 4 rfl ?_
  refine jx_callVi [.int (gi s (b + 1) (ix x2)), .int x2, .ref (Ga G x5)] h (isBk_o hb) (c_X0_tired hG N b hb x2 s) ml_X0_101 (Nat.le_of_ble_eq_true rfl) (Nat.le_of_ble_eq_true rfl) dX0_sourceFor_18 (Nat.le_of_ble_eq_true rfl) rfl (fun r2 s1 => ?_)
  refine jx_iload_n h dX0_sourceFor_21 rfl 3 rfl ?_
  refine jx_callVv [] h (isLw_o hx5) (c_X4_askOf hG N x5 hx5 x2 (gi s (b + 1) (ix x2)) r2 x1 s1) ml_X0_86 (Nat.le_of_ble_eq_true rfl) (Nat.le_of_ble_eq_true rfl) dX0_sourceFor_22 (Nat.le_of_ble_eq_true rfl) rfl (fun s3 => ?_)
  refine jx_iconst h dX0_sourceFor_25 ki_0 ?_
  refine jx_istore (lv' := [(8, .int 0), (7, .int 100), (6, .int (-1)), (0, .ref (Ga G b)), (1, .int x1), (2, .int x2), (3, .int x3), (4, .ref (Ga G 3)), (5, .ref (Ga G x5))]) h dX0_sourceFor_26 (Nat.le_of_ble_eq_true rfl) rfl ?_
  refine jx_subk [3, 4, 5, 6, 7, 8, 2, 1, 0] h (itr_ind (Q := (fun (f : Int32 → Int32 → Int32 → Mem → Option (Int32 × Mem)) => ∀ (x6 : Int32) (x7 : Int32) (x8 : Int32) (s : Mem), P (f x6 x7 x8 s) 28 [(0, .ref (Ga G b)), (1, .int x1), (2, .int x2), (3, .int x3), (4, .ref (Ga G 3)), (5, .ref (Ga G x5)), (6, .int x6), (7, .int x7), (8, .int x8)] [] s)) (fun _ _ _ _ => jx_none h) (fun r28 ih28 => ?_) N (-1) 100 0 s3) rfl
  refine w_X0_sourceFor_28 hG h N b hb x1 x2 x3 x5 hx5  ih28
noncomputable def f_X3_isTold (N : Nat) (x1 : Int32) (s : Mem) : Option (Int32 × Mem) :=
  bd (f_X9_isWithin N x1 0 11 s) (fun r2 s1 => if r2 = 0 then (some (0, s1)) else bd (f_X9_hasBit N (gi s1 3 0) x1 s1) (fun r4 s3 => if r4 = 0 then (some (0, s3)) else some (1, s3)))
set_option maxRecDepth 20000 in
theorem c_X3_isTold {G : Gx} (hG : Gok G ∧ IsG G layC fsoC) (N : Nat) (x1 : Int32) (s : Mem) : Ct G yX3_isTold cX3_isTold 2 (some .boolean) 1 [.ref (Ga G 3), .int x1] tvI s (f_X3_isTold N x1 s) := by
  refine Ct.of hG (by decide) (Nat.le_of_ble_eq_true rfl) (fun P h => ?_)
  show P _ 0 [(0, .ref (Ga G 3)), (1, .int x1)] [] s
  unfold f_X3_isTold
  refine jx_iload_n h dX3_isTold_0 rfl 1 rfl ?_
  refine jx_iconst h dX3_isTold_1 ki_0 ?_
  refine jx_bipush h dX3_isTold_2 kb_11 ?_
  refine jx_callSi [] h (c_X9_isWithin hG N x1 0 11 s) ml_X3_26 (Nat.le_of_ble_eq_true rfl) (Nat.le_of_ble_eq_true rfl) dX3_isTold_4 (Nat.le_of_ble_eq_true rfl) rfl (fun r2 s1 => ?_)
  refine jx_if_eq (tgt := 25) h dX3_isTold_7 rfl ?_ ?_
  · refine jx_iconst h dX3_isTold_25 ki_0 ?_
    exact jx_zret h rfl dX3_isTold_26
  · refine jx_aload_n h dX3_isTold_10 rfl 0 rfl ?_
    refine jx_get (v := .int (gi s1 3 0)) h fa_X3_30 lc_3 dX3_isTold_11 rfl ?_
    refine jx_iload_n h dX3_isTold_14 rfl 1 rfl ?_
    refine jx_callSi [] h (c_X9_hasBit hG N (gi s1 3 0) x1 s1) ml_X3_34 (Nat.le_of_ble_eq_true rfl) (Nat.le_of_ble_eq_true rfl) dX3_isTold_15 (Nat.le_of_ble_eq_true rfl) rfl (fun r4 s3 => ?_)
    refine jx_if_eq (tgt := 25) h dX3_isTold_18 rfl ?_ ?_
    · refine jx_iconst h dX3_isTold_25 ki_0 ?_
      exact jx_zret h rfl dX3_isTold_26
    · refine jx_iconst h dX3_isTold_21 ki_1 ?_
      refine jx_goto (tgt := 26) h dX3_isTold_22 rfl ?_
      exact jx_zret h rfl dX3_isTold_26
noncomputable def st_X0_spread_11 (N : Nat) (b : Nat) (x1 : Int32) (x3 : Nat) (x4 : Int32)  (rec : Int32 → Mem → Option (Unit × Mem)) (x5 : Int32) (s0 : Mem) : Option (Unit × Mem) :=
  if 12 ≤ x5 then (some ((), s0)) else bd (f_X3_isTold N x5 s0) (fun r3 s2 => if r3 = 0 then (lt (x5 + 1) (fun x5_4 => rec x5_4 s2)) else bd (f_X9_hasBit N x4 x5 s2) (fun r6 s5 => if r6 = 0 then (bd (f_X0_sourceFor N b x1 x5 x4 x3 s5) (fun r9 s8 => if r9 < 0 then (lt (x5 + 1) (fun x5_10 => rec x5_10 s8)) else chk x1 6 (chk x1 6 (chk r9 12 (chk r9 12 (chk x5 12 (bd (f_X0_tellOn N b x1 x5 (gi s8 ((b + 7) + 1 + ix x1) (ix r9)) (gi s8 (4 + 1 + ix r9) (ix x5)) x3 s8) (fun r15 s14 => chk x5 12 (lt (si s14 ((b + 7) + 1 + ix x1) (ix x5) r15) (fun s16 => chk x1 6 (chk x1 6 (lt (si s16 (b + 5) (ix x1) ((gi s16 (b + 5) (ix x1)) ||| ((1 : Int32) <<< (x5 &&& 31)))) (fun s17 => lt (x5 + 1) (fun x5_18 => rec x5_18 s17)))))))))))))) else lt (x5 + 1) (fun x5_7 => rec x5_7 s5)))
noncomputable def f_X0_spread (N : Nat) (b : Nat) (x1 : Int32) (x3 : Nat) (s : Mem) : Option (Unit × Mem) :=
  chk x1 6 (lt (gi s (b + 5) (ix x1)) (fun v1 => itr (fun _ _ => none) (st_X0_spread_11 N b x1 x3 v1) N 0 s))
set_option maxRecDepth 20000 in
theorem w_X0_spread_11 {G : Gx} (hG : Gok G ∧ IsG G layC fsoC) {P : Option (Unit × Mem) → Nat → List (Nat × Value) → List Value → Mem → Prop} (h : Jk G layC fsoC RX0 cX0_spread 7 none 4 tvV P) (N : Nat) (b : Nat) (hb : isBk b = true) (x1 : Int32) (x3 : Nat) (x4 : Int32) (hx3 : isLw x3 = true) {rec : Int32 → Mem → Option (Unit × Mem)} (ih : ∀ (x5 : Int32) (s : Mem), P (rec x5 s) 11 [(0, .ref (Ga G b)), (1, .int x1), (2, .ref (Ga G 3)), (3, .ref (Ga G x3)), (4, .int x4), (5, .int x5)] [] s) : ∀ (x5 : Int32) (s : Mem), P (st_X0_spread_11 N b x1 x3 x4 rec x5 s) 11 [(0, .ref (Ga G b)), (1, .int x1), (2, .ref (Ga G 3)), (3, .ref (Ga G x3)), (4, .int x4), (5, .int x5)] [] s := by
  intro x5 s0
  unfold st_X0_spread_11
  refine jx_iload h dX0_spread_11 5 rfl ?_
  refine jx_bipush h dX0_spread_13 kb_12 ?_
  refine jx_icmp_ge (tgt := 110) h dX0_spread_15 rfl ?_ ?_
  · exact jx_vret h dX0_spread_110
  · refine jx_aload_n h dX0_spread_18 rfl 2 rfl ?_
    refine jx_iload h dX0_spread_19 5 rfl ?_
    refine jx_callVi [] h lc_3 (c_X3_isTold hG N x5 s0) ml_X0_119 (Nat.le_of_ble_eq_true rfl) (Nat.le_of_ble_eq_true rfl) dX0_spread_21 (Nat.le_of_ble_eq_true rfl) rfl (fun r3 s2 => ?_)
    refine jx_if_eq (tgt := 104) h dX0_spread_24 rfl ?_ ?_
    · refine jx_iincl (L := fun w => [(5, .int w), (0, .ref (Ga G b)), (1, .int x1), (2, .ref (Ga G 3)), (3, .ref (Ga G x3)), (4, .int x4)]) h dX0_spread_104 5 rfl (kn_1 _) (Nat.le_of_ble_eq_true rfl) (fun _ => rfl) (fun x5_4 => ?_)
      refine jx_goto (tgt := 11) h dX0_spread_107 rfl ?_
      exact jx_subk [1, 2, 3, 4, 5, 0] h (ih x5_4 s2) rfl
    · refine jx_iload h dX0_spread_27 4 rfl ?_
      refine jx_iload h dX0_spread_29 5 rfl ?_
      refine jx_callSi [] h (c_X9_hasBit hG N x4 x5 s2) ml_X0_67 (Nat.le_of_ble_eq_true rfl) (Nat.le_of_ble_eq_true rfl) dX0_spread_31 (Nat.le_of_ble_eq_true rfl) rfl (fun r6 s5 => ?_)
      refine jx_if_ne (tgt := 104) h dX0_spread_34 rfl ?_ ?_
      · refine jx_iincl (L := fun w => [(5, .int w), (0, .ref (Ga G b)), (1, .int x1), (2, .ref (Ga G 3)), (3, .ref (Ga G x3)), (4, .int x4)]) h dX0_spread_104 5 rfl (kn_1 _) (Nat.le_of_ble_eq_true rfl) (fun _ => rfl) (fun x5_7 => ?_)
        refine jx_goto (tgt := 11) h dX0_spread_107 rfl ?_
        exact jx_subk [1, 2, 3, 4, 5, 0] h (ih x5_7 s5) rfl
      · refine jx_aload_n h dX0_spread_37 rfl 0 rfl ?_
        refine jx_iload_n h dX0_spread_38 rfl 1 rfl ?_
        refine jx_iload h dX0_spread_39 5 rfl ?_
        refine jx_iload h dX0_spread_41 4 rfl ?_
        refine jx_aload_n h dX0_spread_43 rfl 2 rfl ?_
        refine jx_aload_n h dX0_spread_44 rfl 3 rfl ?_
        refine jx_callVi [] h (isBk_o hb) (c_X0_sourceFor hG N b hb x1 x5 x4 x3 hx3 s5) ml_X0_135 (Nat.le_of_ble_eq_true rfl) (Nat.le_of_ble_eq_true rfl) dX0_spread_45 (Nat.le_of_ble_eq_true rfl) rfl (fun r9 s8 => ?_)
        refine jx_istore (lv' := [(6, .int r9), (0, .ref (Ga G b)), (1, .int x1), (2, .ref (Ga G 3)), (3, .ref (Ga G x3)), (4, .int x4), (5, .int x5)]) h dX0_spread_48 (Nat.le_of_ble_eq_true rfl) rfl ?_
        refine jx_iload h dX0_spread_50 0 rfl ?_
        refine jx_if_lt (tgt := 104) h dX0_spread_52 rfl ?_ ?_
        · refine jx_iincl (L := fun w => [(5, .int w), (6, .int r9), (0, .ref (Ga G b)), (1, .int x1), (2, .ref (Ga G 3)), (3, .ref (Ga G x3)), (4, .int x4)]) h dX0_spread_104 6 rfl (kn_1 _) (Nat.le_of_ble_eq_true rfl) (fun _ => rfl) (fun x5_10 => ?_)
          refine jx_goto (tgt := 11) h dX0_spread_107 rfl ?_
          exact jx_subk [2, 3, 4, 5, 6, 0] h (ih x5_10 s8) rfl
        · refine jx_aload_n h dX0_spread_55 rfl 1 rfl ?_
          refine jx_get (v := .ref (Ga G (b + 7))) h fa_X0_32 (isBk_o hb) dX0_spread_56 rfl ?_
          refine jx_iload_n h dX0_spread_59 rfl 2 rfl ?_
          refine jx_aaload h (isBk_7 hb) dX0_spread_60 (fun hr11 => ?_)
          refine jx_iload h dX0_spread_61 6 rfl ?_
          refine jx_aload_n h dX0_spread_63 rfl 1 rfl ?_
          refine jx_iload_n h dX0_spread_64 rfl 2 rfl ?_
          refine jx_iload h dX0_spread_65 6 rfl ?_
          refine jx_aload_n h dX0_spread_67 rfl 1 rfl ?_
          refine jx_get (v := .ref (Ga G (b + 7))) h fa_X0_32 (isBk_o hb) dX0_spread_68 rfl ?_
          refine jx_iload_n h dX0_spread_71 rfl 2 rfl ?_
          refine jx_aaload h (isBk_7 hb) dX0_spread_72 (fun hr12 => ?_)
          refine jx_iload h dX0_spread_73 0 rfl ?_
          refine jx_iaload h (isBk_r hb hr12) dX0_spread_75 ?_
          refine jx_aload_n h dX0_spread_76 rfl 3 rfl ?_
          refine jx_get (v := .ref (Ga G 4)) h fa_X0_139 lc_3 dX0_spread_77 rfl ?_
          refine jx_iload h dX0_spread_80 0 rfl ?_
          refine jx_aaload h lc_4 dX0_spread_82 (fun hr13 => ?_)
          refine jx_iload h dX0_spread_83 6 rfl ?_
          refine jx_iaload h (lr_4 hr13) dX0_spread_85 ?_
          refine jx_aload_n h dX0_spread_86 rfl 4 rfl ?_
          refine jx_callVi [.int x5, .ref (Ga G ((b + 7) + 1 + ix x1))] h (isBk_o hb) (c_X0_tellOn hG N b hb x1 x5 (gi s8 ((b + 7) + 1 + ix x1) (ix r9)) (gi s8 (4 + 1 + ix r9) (ix x5)) x3 hx3 s8) ml_X0_142 (Nat.le_of_ble_eq_true rfl) (Nat.le_of_ble_eq_true rfl) dX0_spread_87 (Nat.le_of_ble_eq_true rfl) rfl (fun r15 s14 => ?_)
          refine jx_iastore h (isBk_r hb hr11) dX0_spread_90 (fun s16 => ?_)
          refine jx_aload_n h dX0_spread_91 rfl 1 rfl ?_
          refine jx_get (v := .ref (Ga G (b + 5))) h fa_X0_24 (isBk_o hb) dX0_spread_92 rfl ?_
          refine jx_iload_n h dX0_spread_95 rfl 2 rfl ?_
          refine jx_dup2 h dX0_spread_96 rfl rfl ?_
          refine jx_iaload h (isBk_5 hb) dX0_spread_97 ?_
          refine jx_iconst h dX0_spread_98 ki_1 ?_
          refine jx_iload h dX0_spread_99 6 rfl ?_
          refine jx_ishl h dX0_spread_101 ?_
          refine jx_ior h dX0_spread_102 ?_
          refine jx_iastore h (isBk_5 hb) dX0_spread_103 (fun s17 => ?_)
          refine jx_iincl (L := fun w => [(5, .int w), (6, .int r9), (0, .ref (Ga G b)), (1, .int x1), (2, .ref (Ga G 3)), (3, .ref (Ga G x3)), (4, .int x4)]) h dX0_spread_104 6 rfl (kn_1 _) (Nat.le_of_ble_eq_true rfl) (fun _ => rfl) (fun x5_18 => ?_)
          refine jx_goto (tgt := 11) h dX0_spread_107 rfl ?_
          exact jx_subk [2, 3, 4, 5, 6, 0] h (ih x5_18 s17) rfl
set_option maxRecDepth 20000 in
theorem c_X0_spread {G : Gx} (hG : Gok G ∧ IsG G layC fsoC) (N : Nat) (b : Nat) (hb : isBk b = true) (x1 : Int32) (x3 : Nat) (hx3 : isLw x3 = true) (s : Mem) : Ct G yX0_spread cX0_spread 7 none 4 [.ref (Ga G b), .int x1, .ref (Ga G 3), .ref (Ga G x3)] tvV s (f_X0_spread N b x1 x3 s) := by
  refine Ct.of hG (by decide) (Nat.le_of_ble_eq_true rfl) (fun P h => ?_)
  show P _ 0 [(0, .ref (Ga G b)), (1, .int x1), (2, .ref (Ga G 3)), (3, .ref (Ga G x3))] [] s
  unfold f_X0_spread
  refine jx_aload_n h dX0_spread_0 rfl 0 rfl ?_
  refine jx_get (v := .ref (Ga G (b + 5))) h fa_X0_24 (isBk_o hb) dX0_spread_1 rfl ?_
  refine jx_iload_n h dX0_spread_4 rfl 1 rfl ?_
  refine jx_iaload h (isBk_5 hb) dX0_spread_5 ?_
  refine jx_lti (fun v1 => ?_)
  refine jx_istore (lv' := [(4, .int v1), (0, .ref (Ga G b)), (1, .int x1), (2, .ref (Ga G 3)), (3, .ref (Ga G x3))]) h dX0_spread_6 (Nat.le_of_ble_eq_true rfl) rfl ?_
  refine jx_iconst h dX0_spread_8 ki_0 ?_
  refine jx_istore (lv' := [(5, .int 0), (4, .int v1), (0, .ref (Ga G b)), (1, .int x1), (2, .ref (Ga G 3)), (3, .ref (Ga G x3))]) h dX0_spread_9 (Nat.le_of_ble_eq_true rfl) rfl ?_
  refine jx_subk [2, 3, 4, 5, 1, 0] h (itr_ind (Q := (fun (f : Int32 → Mem → Option (Unit × Mem)) => ∀ (x5 : Int32) (s : Mem), P (f x5 s) 11 [(0, .ref (Ga G b)), (1, .int x1), (2, .ref (Ga G 3)), (3, .ref (Ga G x3)), (4, .int v1), (5, .int x5)] [] s)) (fun _ _ => jx_none h) (fun r11 ih11 => ?_) N 0 s) rfl
  refine w_X0_spread_11 hG h N b hb x1 x3 v1 hx3  ih11
noncomputable def st_X0_pass_32 (N : Nat) (b : Nat) (x1 : Int32) (x3 : Nat) (x4 : Int32) (k62 : Mem → Option (Unit × Mem)) (rec : Int32 → Mem → Option (Unit × Mem)) (x5 : Int32) (s0 : Mem) : Option (Unit × Mem) :=
  if 6 ≤ x5 then (k62 s0) else bd (f_X0_isInForce N b x5 s0) (fun r4 s3 => if r4 = 0 then (lt (x5 + 1) (fun x5_5 => rec x5_5 s3)) else bd (f_X0_spread N b x5 x3 s3) (fun _ s6 => lt (x5 + 1) (fun x5_8 => rec x5_8 s6)))
noncomputable def st_X0_pass_68 (N : Nat) (b : Nat) (x1 : Int32) (x3 : Nat) (x4 : Int32) (k109 : Int32 → Mem → Option (Unit × Mem)) (rec : Int32 → Int32 → Mem → Option (Unit × Mem)) (x5 : Int32) (x6 : Int32) (s0 : Mem) : Option (Unit × Mem) :=
  if 12 ≤ x6 then (k109 x5 s0) else bd (f_X3_isTold N x6 s0) (fun r11 s10 => if r11 = 0 then (lt (x6 + 1) (fun x6_12 => rec x5 x6_12 s10)) else bd (f_X0_readOne N b x6 x3 s10) (fun r14 s13 => if r14 = 0 then (lt (x6 + 1) (fun x6_15 => rec x5 x6_15 s13)) else lt (x5 ||| ((1 : Int32) <<< (x6 &&& 31))) (fun v16 => lt (x6 + 1) (fun x6_17 => rec v16 x6_17 s13))))
noncomputable def st_X0_pass_13 (N : Nat) (b : Nat) (x1 : Int32) (x3 : Nat)  (rec : Int32 → Mem → Option (Unit × Mem)) (x4 : Int32) (s0 : Mem) : Option (Unit × Mem) :=
  if x1 ≤ x4 then (some ((), s0)) else if 9999 ≤ (gi s0 b 11) then (some ((), s0)) else itr (fun _ _ => none) (st_X0_pass_32 N b x1 x3 x4 (fun  (s9 : Mem) => itr (fun _ _ _ => none) (st_X0_pass_68 N b x1 x3 x4 (fun (x5_19 : Int32) (s18 : Mem) => bd (f_X0_rebuild N b s18) (fun _ s20 => bd (f_X0_remember N b x5_19 s20) (fun _ s22 => lt (si s22 b 11 ((gi s22 b 11) + 1)) (fun s24 => lt (x4 + 1) (fun x4_25 => rec x4_25 s24)))))) N 0 0 s9)) N 0 s0
noncomputable def f_X0_pass (N : Nat) (b : Nat) (x1 : Int32) (x3 : Nat) (s : Mem) : Option (Unit × Mem) :=
  lt (si s b 14 0) (fun s1 => lt (si s1 b 15 0) (fun s2 => itr (fun _ _ => none) (st_X0_pass_13 N b x1 x3) N 0 s2))
set_option maxRecDepth 20000 in
theorem w_X0_pass_32 {G : Gx} (hG : Gok G ∧ IsG G layC fsoC) {P : Option (Unit × Mem) → Nat → List (Nat × Value) → List Value → Mem → Prop} (h : Jk G layC fsoC RX0 cX0_pass 7 none 5 tvV P) (N : Nat) (b : Nat) (hb : isBk b = true) (x1 : Int32) (x3 : Nat) (x4 : Int32) (hx3 : isLw x3 = true) {k62 : Mem → Option (Unit × Mem)} (hk62 : ∀  (s : Mem), P (k62 s) 62 [(0, .ref (Ga G b)), (1, .int x1), (2, .ref (Ga G 3)), (3, .ref (Ga G x3)), (4, .int x4)] [] s) {rec : Int32 → Mem → Option (Unit × Mem)} (ih : ∀ (x5 : Int32) (s : Mem), P (rec x5 s) 32 [(0, .ref (Ga G b)), (1, .int x1), (2, .ref (Ga G 3)), (3, .ref (Ga G x3)), (4, .int x4), (5, .int x5)] [] s) : ∀ (x5 : Int32) (s : Mem), P (st_X0_pass_32 N b x1 x3 x4 k62 rec x5 s) 32 [(0, .ref (Ga G b)), (1, .int x1), (2, .ref (Ga G 3)), (3, .ref (Ga G x3)), (4, .int x4), (5, .int x5)] [] s := by
  intro x5 s0
  unfold st_X0_pass_32
  refine jx_iload h dX0_pass_32 5 rfl ?_
  refine jx_bipush h dX0_pass_34 kb_6 ?_
  refine jx_icmp_ge (tgt := 62) h dX0_pass_36 rfl ?_ ?_
  · exact jx_subk [0, 1, 2, 3, 4] h (hk62 s0) rfl
  · refine jx_aload_n h dX0_pass_39 rfl 0 rfl ?_
    refine jx_iload h dX0_pass_40 5 rfl ?_
    refine jx_callVi [] h (isBk_o hb) (c_X0_isInForce hG N b hb x5 s0) ml_X0_112 (Nat.le_of_ble_eq_true rfl) (Nat.le_of_ble_eq_true rfl) dX0_pass_42 (Nat.le_of_ble_eq_true rfl) rfl (fun r4 s3 => ?_)
    refine jx_if_eq (tgt := 56) h dX0_pass_45 rfl ?_ ?_
    · refine jx_iincl (L := fun w => [(5, .int w), (0, .ref (Ga G b)), (1, .int x1), (2, .ref (Ga G 3)), (3, .ref (Ga G x3)), (4, .int x4)]) h dX0_pass_56 5 rfl (kn_1 _) (Nat.le_of_ble_eq_true rfl) (fun _ => rfl) (fun x5_5 => ?_)
      refine jx_goto (tgt := 32) h dX0_pass_59 rfl ?_
      exact jx_subk [1, 2, 3, 4, 5, 0] h (ih x5_5 s3) rfl
    · refine jx_aload_n h dX0_pass_48 rfl 0 rfl ?_
      refine jx_iload h dX0_pass_49 5 rfl ?_
      refine jx_aload_n h dX0_pass_51 rfl 2 rfl ?_
      refine jx_aload_n h dX0_pass_52 rfl 3 rfl ?_
      refine jx_callVv [] h (isBk_o hb) (c_X0_spread hG N b hb x5 x3 hx3 s3) ml_X0_115 (Nat.le_of_ble_eq_true rfl) (Nat.le_of_ble_eq_true rfl) dX0_pass_53 (Nat.le_of_ble_eq_true rfl) rfl (fun s6 => ?_)
      refine jx_iincl (L := fun w => [(5, .int w), (0, .ref (Ga G b)), (1, .int x1), (2, .ref (Ga G 3)), (3, .ref (Ga G x3)), (4, .int x4)]) h dX0_pass_56 5 rfl (kn_1 _) (Nat.le_of_ble_eq_true rfl) (fun _ => rfl) (fun x5_8 => ?_)
      refine jx_goto (tgt := 32) h dX0_pass_59 rfl ?_
      exact jx_subk [1, 2, 3, 4, 5, 0] h (ih x5_8 s6) rfl
set_option maxRecDepth 20000 in
theorem w_X0_pass_68 {G : Gx} (hG : Gok G ∧ IsG G layC fsoC) {P : Option (Unit × Mem) → Nat → List (Nat × Value) → List Value → Mem → Prop} (h : Jk G layC fsoC RX0 cX0_pass 7 none 5 tvV P) (N : Nat) (b : Nat) (hb : isBk b = true) (x1 : Int32) (x3 : Nat) (x4 : Int32) (hx3 : isLw x3 = true) {k109 : Int32 → Mem → Option (Unit × Mem)} (hk109 : ∀ (x5 : Int32) (s : Mem), P (k109 x5 s) 109 [(0, .ref (Ga G b)), (1, .int x1), (2, .ref (Ga G 3)), (3, .ref (Ga G x3)), (4, .int x4), (5, .int x5)] [] s) {rec : Int32 → Int32 → Mem → Option (Unit × Mem)} (ih : ∀ (x5 : Int32) (x6 : Int32) (s : Mem), P (rec x5 x6 s) 68 [(0, .ref (Ga G b)), (1, .int x1), (2, .ref (Ga G 3)), (3, .ref (Ga G x3)), (4, .int x4), (5, .int x5), (6, .int x6)] [] s) : ∀ (x5 : Int32) (x6 : Int32) (s : Mem), P (st_X0_pass_68 N b x1 x3 x4 k109 rec x5 x6 s) 68 [(0, .ref (Ga G b)), (1, .int x1), (2, .ref (Ga G 3)), (3, .ref (Ga G x3)), (4, .int x4), (5, .int x5), (6, .int x6)] [] s := by
  intro x5 x6 s0
  unfold st_X0_pass_68
  refine jx_iload h dX0_pass_68 6 rfl ?_
  refine jx_bipush h dX0_pass_70 kb_12 ?_
  refine jx_icmp_ge (tgt := 109) h dX0_pass_72 rfl ?_ ?_
  · exact jx_subk [0, 1, 2, 3, 4, 5] h (hk109 x5 s0) rfl
  · refine jx_aload_n h dX0_pass_75 rfl 2 rfl ?_
    refine jx_iload h dX0_pass_76 6 rfl ?_
    refine jx_callVi [] h lc_3 (c_X3_isTold hG N x6 s0) ml_X0_119 (Nat.le_of_ble_eq_true rfl) (Nat.le_of_ble_eq_true rfl) dX0_pass_78 (Nat.le_of_ble_eq_true rfl) rfl (fun r11 s10 => ?_)
    refine jx_if_eq (tgt := 103) h dX0_pass_81 rfl ?_ ?_
    · refine jx_iincl (L := fun w => [(6, .int w), (0, .ref (Ga G b)), (1, .int x1), (2, .ref (Ga G 3)), (3, .ref (Ga G x3)), (4, .int x4), (5, .int x5)]) h dX0_pass_103 6 rfl (kn_1 _) (Nat.le_of_ble_eq_true rfl) (fun _ => rfl) (fun x6_12 => ?_)
      refine jx_goto (tgt := 68) h dX0_pass_106 rfl ?_
      exact jx_subk [1, 2, 3, 4, 5, 6, 0] h (ih x5 x6_12 s10) rfl
    · refine jx_aload_n h dX0_pass_84 rfl 0 rfl ?_
      refine jx_iload h dX0_pass_85 6 rfl ?_
      refine jx_aload_n h dX0_pass_87 rfl 3 rfl ?_
      refine jx_callVi [] h (isBk_o hb) (c_X0_readOne hG N b hb x6 x3 hx3 s10) ml_X0_124 (Nat.le_of_ble_eq_true rfl) (Nat.le_of_ble_eq_true rfl) dX0_pass_88 (Nat.le_of_ble_eq_true rfl) rfl (fun r14 s13 => ?_)
      refine jx_if_eq (tgt := 103) h dX0_pass_91 rfl ?_ ?_
      · refine jx_iincl (L := fun w => [(6, .int w), (0, .ref (Ga G b)), (1, .int x1), (2, .ref (Ga G 3)), (3, .ref (Ga G x3)), (4, .int x4), (5, .int x5)]) h dX0_pass_103 6 rfl (kn_1 _) (Nat.le_of_ble_eq_true rfl) (fun _ => rfl) (fun x6_15 => ?_)
        refine jx_goto (tgt := 68) h dX0_pass_106 rfl ?_
        exact jx_subk [1, 2, 3, 4, 5, 6, 0] h (ih x5 x6_15 s13) rfl
      · refine jx_iload h dX0_pass_94 5 rfl ?_
        refine jx_iconst h dX0_pass_96 ki_1 ?_
        refine jx_iload h dX0_pass_97 6 rfl ?_
        refine jx_ishl h dX0_pass_99 ?_
        refine jx_ior h dX0_pass_100 ?_
        refine jx_lti (fun v16 => ?_)
        refine jx_istore (lv' := [(5, .int v16), (0, .ref (Ga G b)), (1, .int x1), (2, .ref (Ga G 3)), (3, .ref (Ga G x3)), (4, .int x4), (6, .int x6)]) h dX0_pass_101 (Nat.le_of_ble_eq_true rfl) rfl ?_
        refine jx_iincl (L := fun w => [(6, .int w), (5, .int v16), (0, .ref (Ga G b)), (1, .int x1), (2, .ref (Ga G 3)), (3, .ref (Ga G x3)), (4, .int x4)]) h dX0_pass_103 6 rfl (kn_1 _) (Nat.le_of_ble_eq_true rfl) (fun _ => rfl) (fun x6_17 => ?_)
        refine jx_goto (tgt := 68) h dX0_pass_106 rfl ?_
        exact jx_subk [2, 3, 4, 5, 6, 1, 0] h (ih v16 x6_17 s13) rfl
set_option maxRecDepth 20000 in
theorem w_X0_pass_13 {G : Gx} (hG : Gok G ∧ IsG G layC fsoC) {P : Option (Unit × Mem) → Nat → List (Nat × Value) → List Value → Mem → Prop} (h : Jk G layC fsoC RX0 cX0_pass 7 none 5 tvV P) (N : Nat) (b : Nat) (hb : isBk b = true) (x1 : Int32) (x3 : Nat) (hx3 : isLw x3 = true) {rec : Int32 → Mem → Option (Unit × Mem)} (ih : ∀ (x4 : Int32) (s : Mem), P (rec x4 s) 13 [(0, .ref (Ga G b)), (1, .int x1), (2, .ref (Ga G 3)), (3, .ref (Ga G x3)), (4, .int x4)] [] s) : ∀ (x4 : Int32) (s : Mem), P (st_X0_pass_13 N b x1 x3 rec x4 s) 13 [(0, .ref (Ga G b)), (1, .int x1), (2, .ref (Ga G 3)), (3, .ref (Ga G x3)), (4, .int x4)] [] s := by
  intro x4 s0
  unfold st_X0_pass_13
  refine jx_iload h dX0_pass_13 4 rfl ?_
  refine jx_iload_n h dX0_pass_15 rfl 1 rfl ?_
  refine jx_icmp_ge (tgt := 135) h dX0_pass_16 rfl ?_ ?_
  · exact jx_vret h dX0_pass_135
  · refine jx_aload_n h dX0_pass_19 rfl 0 rfl ?_
    refine jx_get (v := .int (gi s0 b 11)) h fa_X0_57 (isBk_o hb) dX0_pass_20 rfl ?_
    refine jx_sipush h dX0_pass_23 ks_9999 ?_
    refine jx_icmp_ge (tgt := 135) h dX0_pass_26 rfl ?_ ?_
    · exact jx_vret h dX0_pass_135
    · refine jx_iconst h dX0_pass_29 ki_0 ?_
      refine jx_istore (lv' := [(5, .int 0), (0, .ref (Ga G b)), (1, .int x1), (2, .ref (Ga G 3)), (3, .ref (Ga G x3)), (4, .int x4)]) h dX0_pass_30 (Nat.le_of_ble_eq_true rfl) rfl ?_
      refine jx_subk [1, 2, 3, 4, 5, 0] h (itr_ind (Q := (fun (f : Int32 → Mem → Option (Unit × Mem)) => ∀ (x5 : Int32) (s : Mem), P (f x5 s) 32 [(0, .ref (Ga G b)), (1, .int x1), (2, .ref (Ga G 3)), (3, .ref (Ga G x3)), (4, .int x4), (5, .int x5)] [] s)) (fun _ _ => jx_none h) (fun r32 ih32 => ?_) N 0 s0) rfl
      refine w_X0_pass_32 hG h N b hb x1 x3 x4 hx3 ?_ ih32
      intro s9
      refine jx_iconst h dX0_pass_62 ki_0 ?_
      refine jx_istore (lv' := [(5, .int 0), (0, .ref (Ga G b)), (1, .int x1), (2, .ref (Ga G 3)), (3, .ref (Ga G x3)), (4, .int x4)]) h dX0_pass_63 (Nat.le_of_ble_eq_true rfl) rfl ?_
      refine jx_iconst h dX0_pass_65 ki_0 ?_
      refine jx_istore (lv' := [(6, .int 0), (5, .int 0), (0, .ref (Ga G b)), (1, .int x1), (2, .ref (Ga G 3)), (3, .ref (Ga G x3)), (4, .int x4)]) h dX0_pass_66 (Nat.le_of_ble_eq_true rfl) rfl ?_
      refine jx_subk [2, 3, 4, 5, 6, 1, 0] h (itr_ind (Q := (fun (f : Int32 → Int32 → Mem → Option (Unit × Mem)) => ∀ (x5 : Int32) (x6 : Int32) (s : Mem), P (f x5 x6 s) 68 [(0, .ref (Ga G b)), (1, .int x1), (2, .ref (Ga G 3)), (3, .ref (Ga G x3)), (4, .int x4), (5, .int x5), (6, .int x6)] [] s)) (fun _ _ _ => jx_none h) (fun r68 ih68 => ?_) N 0 0 s9) rfl
      refine w_X0_pass_68 hG h N b hb x1 x3 x4 hx3 ?_ ih68
      intro x5_19 s18
      refine jx_aload_n h dX0_pass_109 rfl 0 rfl ?_
      refine jx_callVv [] h (isBk_o hb) (c_X0_rebuild hG N b hb s18) ml_X0_128 (Nat.le_of_ble_eq_true rfl) (Nat.le_of_ble_eq_true rfl) dX0_pass_110 (Nat.le_of_ble_eq_true rfl) rfl (fun s20 => ?_)
      refine jx_aload_n h dX0_pass_113 rfl 0 rfl ?_
      refine jx_iload h dX0_pass_114 5 rfl ?_
      refine jx_callVv [] h (isBk_o hb) (c_X0_remember hG N b hb x5_19 s20) ml_X0_131 (Nat.le_of_ble_eq_true rfl) (Nat.le_of_ble_eq_true rfl) dX0_pass_116 (Nat.le_of_ble_eq_true rfl) rfl (fun s22 => ?_)
      refine jx_aload_n h dX0_pass_119 rfl 0 rfl ?_
      refine jx_dup h dX0_pass_120 rfl ?_
      refine jx_get (v := .int (gi s22 b 11)) h fa_X0_57 (isBk_o hb) dX0_pass_121 rfl ?_
      refine jx_iconst h dX0_pass_124 ki_1 ?_
      refine jx_iadd h dX0_pass_125 ?_
      refine jx_put h fa_X0_57 fp_X0_11 (isBk_o hb) rfl rfl dX0_pass_126 (fu_X0_11 _ _ _ _) (fun s24 => ?_)
      refine jx_iincl (L := fun w => [(4, .int w), (0, .ref (Ga G b)), (1, .int x1), (2, .ref (Ga G 3)), (3, .ref (Ga G x3)), (5, .int x5_19)]) h dX0_pass_129 4 rfl (kn_1 _) (Nat.le_of_ble_eq_true rfl) (fun _ => rfl) (fun x4_25 => ?_)
      refine jx_goto (tgt := 13) h dX0_pass_132 rfl ?_
      exact jx_subk [1, 2, 3, 4, 0] h (ih x4_25 s24) rfl
set_option maxRecDepth 20000 in
theorem c_X0_pass {G : Gx} (hG : Gok G ∧ IsG G layC fsoC) (N : Nat) (b : Nat) (hb : isBk b = true) (x1 : Int32) (x3 : Nat) (hx3 : isLw x3 = true) (s : Mem) : Ct G yX0_pass cX0_pass 7 none 5 [.ref (Ga G b), .int x1, .ref (Ga G 3), .ref (Ga G x3)] tvV s (f_X0_pass N b x1 x3 s) := by
  refine Ct.of hG (by decide) (Nat.le_of_ble_eq_true rfl) (fun P h => ?_)
  show P _ 0 [(0, .ref (Ga G b)), (1, .int x1), (2, .ref (Ga G 3)), (3, .ref (Ga G x3))] [] s
  unfold f_X0_pass
  refine jx_aload_n h dX0_pass_0 rfl 0 rfl ?_
  refine jx_iconst h dX0_pass_1 ki_0 ?_
  refine jx_put h fa_X0_106 fp_X0_14 (isBk_o hb) rfl rfl dX0_pass_2 (fu_X0_14 _ _ _ _) (fun s1 => ?_)
  refine jx_aload_n h dX0_pass_5 rfl 0 rfl ?_
  refine jx_iconst h dX0_pass_6 ki_0 ?_
  refine jx_put h fa_X0_109 fp_X0_15 (isBk_o hb) rfl rfl dX0_pass_7 (fu_X0_15 _ _ _ _) (fun s2 => ?_)
  refine jx_iconst h dX0_pass_10 ki_0 ?_
  refine jx_istore (lv' := [(4, .int 0), (0, .ref (Ga G b)), (1, .int x1), (2, .ref (Ga G 3)), (3, .ref (Ga G x3))]) h dX0_pass_11 (Nat.le_of_ble_eq_true rfl) rfl ?_
  refine jx_subk [1, 2, 3, 4, 0] h (itr_ind (Q := (fun (f : Int32 → Mem → Option (Unit × Mem)) => ∀ (x4 : Int32) (s : Mem), P (f x4 s) 13 [(0, .ref (Ga G b)), (1, .int x1), (2, .ref (Ga G 3)), (3, .ref (Ga G x3)), (4, .int x4)] [] s)) (fun _ _ => jx_none h) (fun r13 ih13 => ?_) N 0 s2) rfl
  refine w_X0_pass_13 hG h N b hb x1 x3 hx3  ih13
noncomputable def st_X0_largestTale_13 (N : Nat) (b : Nat) (x1 : Int32)  (rec : Int32 → Int32 → Int32 → Mem → Option (Int32 × Mem)) (x2 : Int32) (x3 : Int32) (x4 : Int32) (s0 : Mem) : Option (Int32 × Mem) :=
  if 12 ≤ x4 then (some (x2, s0)) else chk x1 6 (bd (f_X9_hasBit N (gi s0 (b + 5) (ix x1)) x4 s0) (fun r3 s2 => if r3 = 0 then (lt (x4 + 1) (fun x4_4 => rec x2 x3 x4_4 s2)) else chk x1 6 (chk x4 12 (if (gi s2 ((b + 7) + 1 + ix x1) (ix x4)) ≤ x3 then (lt (x4 + 1) (fun x4_6 => rec x2 x3 x4_6 s2)) else chk x1 6 (chk x4 12 (lt (gi s2 ((b + 7) + 1 + ix x1) (ix x4)) (fun v8 => lt (x4 + 1) (fun x4_9 => rec x4 v8 x4_9 s2))))))))
noncomputable def f_X0_largestTale (N : Nat) (b : Nat) (x1 : Int32) (s : Mem) : Option (Int32 × Mem) :=
  chk x1 6 (lt (gi s (b + 3) (ix x1)) (fun v1 => itr (fun _ _ _ _ => none) (st_X0_largestTale_13 N b x1) N (-2) v1 0 s))
set_option maxRecDepth 20000 in
theorem w_X0_largestTale_13 {G : Gx} (hG : Gok G ∧ IsG G layC fsoC) {P : Option (Int32 × Mem) → Nat → List (Nat × Value) → List Value → Mem → Prop} (h : Jk G layC fsoC RX0 cX0_largestTale 5 (some .int) 1 tvI P) (N : Nat) (b : Nat) (hb : isBk b = true) (x1 : Int32) {rec : Int32 → Int32 → Int32 → Mem → Option (Int32 × Mem)} (ih : ∀ (x2 : Int32) (x3 : Int32) (x4 : Int32) (s : Mem), P (rec x2 x3 x4 s) 13 [(0, .ref (Ga G b)), (1, .int x1), (2, .int x2), (3, .int x3), (4, .int x4)] [] s) : ∀ (x2 : Int32) (x3 : Int32) (x4 : Int32) (s : Mem), P (st_X0_largestTale_13 N b x1 rec x2 x3 x4 s) 13 [(0, .ref (Ga G b)), (1, .int x1), (2, .int x2), (3, .int x3), (4, .int x4)] [] s := by
  intro x2 x3 x4 s0
  unfold st_X0_largestTale_13
  refine jx_iload h dX0_largestTale_13 4 rfl ?_
  refine jx_bipush h dX0_largestTale_15 kb_12 ?_
  refine jx_icmp_ge (tgt := 66) h dX0_largestTale_17 rfl ?_ ?_
  · refine jx_iload_n h dX0_largestTale_66 rfl 2 rfl ?_
    exact jx_iret h dX0_largestTale_67
  · refine jx_aload_n h dX0_largestTale_20 rfl 0 rfl ?_
    refine jx_get (v := .ref (Ga G (b + 5))) h fa_X0_24 (isBk_o hb) dX0_largestTale_21 rfl ?_
    refine jx_iload_n h dX0_largestTale_24 rfl 1 rfl ?_
    refine jx_iaload h (isBk_5 hb) dX0_largestTale_25 ?_
    refine jx_iload h dX0_largestTale_26 4 rfl ?_
    refine jx_callSi [] h (c_X9_hasBit hG N (gi s0 (b + 5) (ix x1)) x4 s0) ml_X0_67 (Nat.le_of_ble_eq_true rfl) (Nat.le_of_ble_eq_true rfl) dX0_largestTale_28 (Nat.le_of_ble_eq_true rfl) rfl (fun r3 s2 => ?_)
    refine jx_if_eq (tgt := 60) h dX0_largestTale_31 rfl ?_ ?_
    · refine jx_iincl (L := fun w => [(4, .int w), (0, .ref (Ga G b)), (1, .int x1), (2, .int x2), (3, .int x3)]) h dX0_largestTale_60 4 rfl (kn_1 _) (Nat.le_of_ble_eq_true rfl) (fun _ => rfl) (fun x4_4 => ?_)
      refine jx_goto (tgt := 13) h dX0_largestTale_63 rfl ?_
      exact jx_subk [1, 2, 3, 4, 0] h (ih x2 x3 x4_4 s2) rfl
    · refine jx_aload_n h dX0_largestTale_34 rfl 0 rfl ?_
      refine jx_get (v := .ref (Ga G (b + 7))) h fa_X0_32 (isBk_o hb) dX0_largestTale_35 rfl ?_
      refine jx_iload_n h dX0_largestTale_38 rfl 1 rfl ?_
      refine jx_aaload h (isBk_7 hb) dX0_largestTale_39 (fun hr5 => ?_)
      refine jx_iload h dX0_largestTale_40 4 rfl ?_
      refine jx_iaload h (isBk_r hb hr5) dX0_largestTale_42 ?_
      refine jx_iload_n h dX0_largestTale_43 rfl 3 rfl ?_
      refine jx_icmp_le (tgt := 60) h dX0_largestTale_44 rfl ?_ ?_
      · refine jx_iincl (L := fun w => [(4, .int w), (0, .ref (Ga G b)), (1, .int x1), (2, .int x2), (3, .int x3)]) h dX0_largestTale_60 4 rfl (kn_1 _) (Nat.le_of_ble_eq_true rfl) (fun _ => rfl) (fun x4_6 => ?_)
        refine jx_goto (tgt := 13) h dX0_largestTale_63 rfl ?_
        exact jx_subk [1, 2, 3, 4, 0] h (ih x2 x3 x4_6 s2) rfl
      · refine jx_iload h dX0_largestTale_47 4 rfl ?_
        refine jx_istore_n (lv' := [(2, .int x4), (0, .ref (Ga G b)), (1, .int x1), (3, .int x3), (4, .int x4)]) h dX0_largestTale_49 rfl (Nat.le_of_ble_eq_true rfl) rfl ?_
        refine jx_aload_n h dX0_largestTale_50 rfl 1 rfl ?_
        refine jx_get (v := .ref (Ga G (b + 7))) h fa_X0_32 (isBk_o hb) dX0_largestTale_51 rfl ?_
        refine jx_iload_n h dX0_largestTale_54 rfl 2 rfl ?_
        refine jx_aaload h (isBk_7 hb) dX0_largestTale_55 (fun hr7 => ?_)
        refine jx_iload h dX0_largestTale_56 4 rfl ?_
        refine jx_iaload h (isBk_r hb hr7) dX0_largestTale_58 ?_
        refine jx_lti (fun v8 => ?_)
        refine jx_istore_n (lv' := [(3, .int v8), (2, .int x4), (0, .ref (Ga G b)), (1, .int x1), (4, .int x4)]) h dX0_largestTale_59 rfl (Nat.le_of_ble_eq_true rfl) rfl ?_
        refine jx_iincl (L := fun w => [(4, .int w), (3, .int v8), (2, .int x4), (0, .ref (Ga G b)), (1, .int x1)]) h dX0_largestTale_60 4 rfl (kn_1 _) (Nat.le_of_ble_eq_true rfl) (fun _ => rfl) (fun x4_9 => ?_)
        refine jx_goto (tgt := 13) h dX0_largestTale_63 rfl ?_
        exact jx_subk [3, 4, 2, 1, 0] h (ih x4 v8 x4_9 s2) rfl
set_option maxRecDepth 20000 in
theorem c_X0_largestTale {G : Gx} (hG : Gok G ∧ IsG G layC fsoC) (N : Nat) (b : Nat) (hb : isBk b = true) (x1 : Int32) (s : Mem) : Ct G yX0_largestTale cX0_largestTale 5 (some .int) 1 [.ref (Ga G b), .int x1] tvI s (f_X0_largestTale N b x1 s) := by
  refine Ct.of hG (by decide) (Nat.le_of_ble_eq_true rfl) (fun P h => ?_)
  show P _ 0 [(0, .ref (Ga G b)), (1, .int x1)] [] s
  unfold f_X0_largestTale
  refine jx_bipush h dX0_largestTale_0 kb_m2 ?_
  refine jx_istore_n (lv' := [(2, .int (-2)), (0, .ref (Ga G b)), (1, .int x1)]) h dX0_largestTale_2 rfl (Nat.le_of_ble_eq_true rfl) rfl ?_
  refine jx_aload_n h dX0_largestTale_3 rfl 1 rfl ?_
  refine jx_get (v := .ref (Ga G (b + 3))) h fa_X0_18 (isBk_o hb) dX0_largestTale_4 rfl ?_
  refine jx_iload_n h dX0_largestTale_7 rfl 2 rfl ?_
  refine jx_iaload h (isBk_3 hb) dX0_largestTale_8 ?_
  refine jx_lti (fun v1 => ?_)
  refine jx_istore_n (lv' := [(3, .int v1), (2, .int (-2)), (0, .ref (Ga G b)), (1, .int x1)]) h dX0_largestTale_9 rfl (Nat.le_of_ble_eq_true rfl) rfl ?_
  refine jx_iconst h dX0_largestTale_10 ki_0 ?_
  refine jx_istore (lv' := [(4, .int 0), (3, .int v1), (2, .int (-2)), (0, .ref (Ga G b)), (1, .int x1)]) h dX0_largestTale_11 (Nat.le_of_ble_eq_true rfl) rfl ?_
  refine jx_subk [3, 4, 2, 1, 0] h (itr_ind (Q := (fun (f : Int32 → Int32 → Int32 → Mem → Option (Int32 × Mem)) => ∀ (x2 : Int32) (x3 : Int32) (x4 : Int32) (s : Mem), P (f x2 x3 x4 s) 13 [(0, .ref (Ga G b)), (1, .int x1), (2, .int x2), (3, .int x3), (4, .int x4)] [] s)) (fun _ _ _ _ => jx_none h) (fun r13 ih13 => ?_) N (-2) v1 0 s) rfl
  refine w_X0_largestTale_13 hG h N b hb x1  ih13
noncomputable def f_X1_write (N : Nat) (x1 : Int32) (x2 : Nat) (x3 : Int32) (s : Mem) : Option (Unit × Mem) :=
  chk x1 6 (lt (si s 119 (ix x1) (imin x3 40)) (fun s1 => chk x1 6 (chk x1 6 (chkC 0 0 (gi s1 119 (ix x1)) (lenC x2) 40 (lt (cpy s1 x2 (112 + 1 + ix x1) 0 0 (gi s1 119 (ix x1))) (fun s3 => some ((), s3)))))))
set_option maxRecDepth 20000 in
theorem c_X1_write {G : Gx} (hG : Gok G ∧ IsG G layC fsoC) (N : Nat) (x1 : Int32) (x2 : Nat) (hx2 : isAr x2 = true) (x3 : Int32) (s : Mem) : Ct G yX1_write cX1_write 4 none 1 [.ref (Ga G 111), .int x1, .ref (Ga G x2), .int x3] tvV s (f_X1_write N x1 x2 x3 s) := by
  refine Ct.of hG (by decide) (Nat.le_of_ble_eq_true rfl) (fun P h => ?_)
  show P _ 0 [(0, .ref (Ga G 111)), (1, .int x1), (2, .ref (Ga G x2)), (3, .int x3)] [] s
  unfold f_X1_write
  refine jx_aload_n h dX1_write_0 rfl 0 rfl ?_
  refine jx_get (v := .ref (Ga G 119)) h fa_X1_16 lc_111 dX1_write_1 rfl ?_
  refine jx_iload_n h dX1_write_4 rfl 1 rfl ?_
  refine jx_iload_n h dX1_write_5 rfl 3 rfl ?_
  refine jx_bipush h dX1_write_6 kb_40 ?_
  refine jx_mmin h mm_X1_26 (Nat.le_of_ble_eq_true rfl) (Nat.le_of_ble_eq_true rfl) dX1_write_8 ?_
  refine jx_iastore h lc_119 dX1_write_11 (fun s1 => ?_)
  refine jx_aload_n h dX1_write_12 rfl 2 rfl ?_
  refine jx_iconst h dX1_write_13 ki_0 ?_
  refine jx_aload_n h dX1_write_14 rfl 0 rfl ?_
  refine jx_get (v := .ref (Ga G 112)) h fa_X1_13 lc_111 dX1_write_15 rfl ?_
  refine jx_iload_n h dX1_write_18 rfl 1 rfl ?_
  refine jx_aaload h lc_112 dX1_write_19 (fun hr2 => ?_)
  refine jx_iconst h dX1_write_20 ki_0 ?_
  refine jx_aload_n h dX1_write_21 rfl 0 rfl ?_
  refine jx_get (v := .ref (Ga G 119)) h fa_X1_16 lc_111 dX1_write_22 rfl ?_
  refine jx_iload_n h dX1_write_25 rfl 1 rfl ?_
  refine jx_iaload h lc_119 dX1_write_26 ?_
  refine jx_copy h mc_X1_32.1 mc_X1_32.2.1 mc_X1_32.2.2.1 mc_X1_32.2.2.2 (isAr_0 hx2) (lr_112 hr2) (Nat.le_of_ble_eq_true rfl) (by decide) dX1_write_27 (fun s3 => ?_)
  exact jx_vret h dX1_write_30
noncomputable def f_X1_isWritten (N : Nat) (x1 : Int32) (s : Mem) : Option (Int32 × Mem) :=
  bd (f_X9_isLetter N x1 s) (fun r2 s1 => if r2 = 0 then (some (0, s1)) else chk x1 6 (if (gi s1 119 (ix x1)) ≤ 0 then (some (0, s1)) else some (1, s1)))
set_option maxRecDepth 20000 in
theorem c_X1_isWritten {G : Gx} (hG : Gok G ∧ IsG G layC fsoC) (N : Nat) (x1 : Int32) (s : Mem) : Ct G yX1_isWritten cX1_isWritten 2 (some .boolean) 2 [.ref (Ga G 111), .int x1] tvI s (f_X1_isWritten N x1 s) := by
  refine Ct.of hG (by decide) (Nat.le_of_ble_eq_true rfl) (fun P h => ?_)
  show P _ 0 [(0, .ref (Ga G 111)), (1, .int x1)] [] s
  unfold f_X1_isWritten
  refine jx_iload_n h dX1_isWritten_0 rfl 1 rfl ?_
  refine jx_callSi [] h (c_X9_isLetter hG N x1 s) ml_X1_38 (Nat.le_of_ble_eq_true rfl) (Nat.le_of_ble_eq_true rfl) dX1_isWritten_1 (Nat.le_of_ble_eq_true rfl) rfl (fun r2 s1 => ?_)
  refine jx_if_eq (tgt := 20) h dX1_isWritten_4 rfl ?_ ?_
  · refine jx_iconst h dX1_isWritten_20 ki_0 ?_
    exact jx_zret h rfl dX1_isWritten_21
  · refine jx_aload_n h dX1_isWritten_7 rfl 0 rfl ?_
    refine jx_get (v := .ref (Ga G 119)) h fa_X1_16 lc_111 dX1_isWritten_8 rfl ?_
    refine jx_iload_n h dX1_isWritten_11 rfl 1 rfl ?_
    refine jx_iaload h lc_119 dX1_isWritten_12 ?_
    refine jx_if_le (tgt := 20) h dX1_isWritten_13 rfl ?_ ?_
    · refine jx_iconst h dX1_isWritten_20 ki_0 ?_
      exact jx_zret h rfl dX1_isWritten_21
    · refine jx_iconst h dX1_isWritten_16 ki_1 ?_
      refine jx_goto (tgt := 21) h dX1_isWritten_17 rfl ?_
      exact jx_zret h rfl dX1_isWritten_21
noncomputable def st_X1_written_4 (N : Nat)  (rec : Int32 → Int32 → Mem → Option (Int32 × Mem)) (x1 : Int32) (x2 : Int32) (s0 : Mem) : Option (Int32 × Mem) :=
  if 6 ≤ x2 then (some (x1, s0)) else bd (f_X1_isWritten N x2 s0) (fun r2 s1 => if r2 = 0 then (lt (x2 + 1) (fun x2_3 => rec x1 x2_3 s1)) else lt (x1 ||| ((1 : Int32) <<< (x2 &&& 31))) (fun v4 => lt (x2 + 1) (fun x2_5 => rec v4 x2_5 s1)))
noncomputable def f_X1_written (N : Nat)  (s : Mem) : Option (Int32 × Mem) :=
  itr (fun _ _ _ => none) (st_X1_written_4 N) N 0 0 s
set_option maxRecDepth 20000 in
theorem w_X1_written_4 {G : Gx} (hG : Gok G ∧ IsG G layC fsoC) {P : Option (Int32 × Mem) → Nat → List (Nat × Value) → List Value → Mem → Prop} (h : Jk G layC fsoC RX1 cX1_written 3 (some .int) 3 tvI P) (N : Nat) {rec : Int32 → Int32 → Mem → Option (Int32 × Mem)} (ih : ∀ (x1 : Int32) (x2 : Int32) (s : Mem), P (rec x1 x2 s) 4 [(0, .ref (Ga G 111)), (1, .int x1), (2, .int x2)] [] s) : ∀ (x1 : Int32) (x2 : Int32) (s : Mem), P (st_X1_written_4 N rec x1 x2 s) 4 [(0, .ref (Ga G 111)), (1, .int x1), (2, .int x2)] [] s := by
  intro x1 x2 s0
  unfold st_X1_written_4
  refine jx_iload_n h dX1_written_4 rfl 2 rfl ?_
  refine jx_bipush h dX1_written_5 kb_6 ?_
  refine jx_icmp_ge (tgt := 30) h dX1_written_7 rfl ?_ ?_
  · refine jx_iload_n h dX1_written_30 rfl 1 rfl ?_
    exact jx_iret h dX1_written_31
  · refine jx_aload_n h dX1_written_10 rfl 0 rfl ?_
    refine jx_iload_n h dX1_written_11 rfl 2 rfl ?_
    refine jx_callVi [] h lc_111 (c_X1_isWritten hG N x2 s0) ml_X1_42 (Nat.le_of_ble_eq_true rfl) (Nat.le_of_ble_eq_true rfl) dX1_written_12 (Nat.le_of_ble_eq_true rfl) rfl (fun r2 s1 => ?_)
    refine jx_if_eq (tgt := 24) h dX1_written_15 rfl ?_ ?_
    · refine jx_iincl (L := fun w => [(2, .int w), (0, .ref (Ga G 111)), (1, .int x1)]) h dX1_written_24 2 rfl (kn_1 _) (Nat.le_of_ble_eq_true rfl) (fun _ => rfl) (fun x2_3 => ?_)
      refine jx_goto (tgt := 4) h dX1_written_27 rfl ?_
      exact jx_subk [1, 2, 0] h (ih x1 x2_3 s1) rfl
    · refine jx_iload_n h dX1_written_18 rfl 1 rfl ?_
      refine jx_iconst h dX1_written_19 ki_1 ?_
      refine jx_iload_n h dX1_written_20 rfl 2 rfl ?_
      refine jx_ishl h dX1_written_21 ?_
      refine jx_ior h dX1_written_22 ?_
      refine jx_lti (fun v4 => ?_)
      refine jx_istore_n (lv' := [(1, .int v4), (0, .ref (Ga G 111)), (2, .int x2)]) h dX1_written_23 rfl (Nat.le_of_ble_eq_true rfl) rfl ?_
      refine jx_iincl (L := fun w => [(2, .int w), (1, .int v4), (0, .ref (Ga G 111))]) h dX1_written_24 2 rfl (kn_1 _) (Nat.le_of_ble_eq_true rfl) (fun _ => rfl) (fun x2_5 => ?_)
      refine jx_goto (tgt := 4) h dX1_written_27 rfl ?_
      exact jx_subk [2, 1, 0] h (ih v4 x2_5 s1) rfl
set_option maxRecDepth 20000 in
theorem c_X1_written {G : Gx} (hG : Gok G ∧ IsG G layC fsoC) (N : Nat)  (s : Mem) : Ct G yX1_written cX1_written 3 (some .int) 3 [.ref (Ga G 111)] tvI s (f_X1_written N s) := by
  refine Ct.of hG (by decide) (Nat.le_of_ble_eq_true rfl) (fun P h => ?_)
  show P _ 0 [(0, .ref (Ga G 111))] [] s
  unfold f_X1_written
  refine jx_iconst h dX1_written_0 ki_0 ?_
  refine jx_istore_n (lv' := [(1, .int 0), (0, .ref (Ga G 111))]) h dX1_written_1 rfl (Nat.le_of_ble_eq_true rfl) rfl ?_
  refine jx_iconst h dX1_written_2 ki_0 ?_
  refine jx_istore_n (lv' := [(2, .int 0), (1, .int 0), (0, .ref (Ga G 111))]) h dX1_written_3 rfl (Nat.le_of_ble_eq_true rfl) rfl ?_
  refine jx_subk [2, 1, 0] h (itr_ind (Q := (fun (f : Int32 → Int32 → Mem → Option (Int32 × Mem)) => ∀ (x1 : Int32) (x2 : Int32) (s : Mem), P (f x1 x2 s) 4 [(0, .ref (Ga G 111)), (1, .int x1), (2, .int x2)] [] s)) (fun _ _ _ => jx_none h) (fun r4 ih4 => ?_) N 0 0 s) rfl
  refine w_X1_written_4 hG h N   ih4
noncomputable def st_X1_changes_19 (N : Nat) (x1 : Nat) (x2 : Int32) (x4 : Nat) (x5 : Int32) (k41 : Mem → Option (Int32 × Mem)) (rec : Int32 → Mem → Option (Int32 × Mem)) (x6 : Int32) (s0 : Mem) : Option (Int32 × Mem) :=
  if x5 < x6 then (k41 s0) else chk x6 41 (lt (si s0 120 (ix x6) x6) (fun s4 => lt (x6 + 1) (fun x6_5 => rec x6_5 s4)))
noncomputable def st_X1_changes_78 (N : Nat) (x1 : Nat) (x2 : Int32) (x4 : Nat) (x5 : Int32) (x6 : Int32) (k152 : Mem → Option (Int32 × Mem)) (rec : Int32 → Int32 → Mem → Option (Int32 × Mem)) (x7 : Int32) (x8 : Int32) (s0 : Mem) : Option (Int32 × Mem) :=
  if x5 ≤ x8 then (k152 s0) else chk x6 (lenC x1) (chk x8 (lenC x4) (lt (fun (t10 : Int32) (s9 : Mem) => lt (x7 + t10) (fun v11 => chk (x8 + 1) 41 (lt (gi s9 120 (ix (x8 + 1))) (fun v12 => chk x8 41 (chk (x8 + 1) 41 (lt (si s9 120 (ix (x8 + 1)) (imin v11 ((imin v12 (gi s9 120 (ix x8))) + 1))) (fun s13 => lt (x8 + 1) (fun x8_14 => rec v12 x8_14 s13)))))))) (fun j104 => if (gi s0 x1 (ix x6)) = (gi s0 x4 (ix x8)) then (j104 0 s0) else j104 1 s0)))
noncomputable def st_X1_changes_44 (N : Nat) (x1 : Nat) (x2 : Int32) (x4 : Nat) (x5 : Int32)  (rec : Int32 → Mem → Option (Int32 × Mem)) (x6 : Int32) (s0 : Mem) : Option (Int32 × Mem) :=
  if x2 ≤ x6 then (chk x5 41 (some (gi s0 120 (ix x5), s0))) else if 40 ≤ x6 then (chk x5 41 (some (gi s0 120 (ix x5), s0))) else chk 0 41 (lt (gi s0 120 (ix (0 : Int32))) (fun v7 => chk 0 41 (lt (si s0 120 (ix (0 : Int32)) (x6 + 1)) (fun s8 => itr (fun _ _ _ => none) (st_X1_changes_78 N x1 x2 x4 x5 x6 (fun  (s15 : Mem) => lt (x6 + 1) (fun x6_16 => rec x6_16 s15))) N v7 0 s8))))
noncomputable def f_X1_changes (N : Nat) (x1 : Nat) (x2 : Int32) (x3 : Int32) (s : Mem) : Option (Int32 × Mem) :=
  chk x3 6 (lt (112 + 1 + ix x3) (fun q2 => ckc (isAr q2) (chk x3 6 (lt (gi s 119 (ix x3)) (fun v3 => itr (fun _ _ => none) (st_X1_changes_19 N x1 x2 q2 v3 (fun  (s6 : Mem) => itr (fun _ _ => none) (st_X1_changes_44 N x1 x2 q2 v3) N 0 s6)) N 0 s)))))
set_option maxRecDepth 20000 in
theorem w_X1_changes_19 {G : Gx} (hG : Gok G ∧ IsG G layC fsoC) {P : Option (Int32 × Mem) → Nat → List (Nat × Value) → List Value → Mem → Prop} (h : Jk G layC fsoC RX1 cX1_changes 10 (some .int) 1 tvI P) (N : Nat) (x1 : Nat) (x2 : Int32) (x4 : Nat) (x5 : Int32) (hx1 : isAr x1 = true) (hx4 : isAr x4 = true) {k41 : Mem → Option (Int32 × Mem)} (hk41 : ∀  (s : Mem), P (k41 s) 41 [(0, .ref (Ga G 111)), (1, .ref (Ga G x1)), (2, .int x2), (4, .ref (Ga G x4)), (5, .int x5)] [] s) {rec : Int32 → Mem → Option (Int32 × Mem)} (ih : ∀ (x6 : Int32) (s : Mem), P (rec x6 s) 19 [(0, .ref (Ga G 111)), (1, .ref (Ga G x1)), (2, .int x2), (4, .ref (Ga G x4)), (5, .int x5), (6, .int x6)] [] s) : ∀ (x6 : Int32) (s : Mem), P (st_X1_changes_19 N x1 x2 x4 x5 k41 rec x6 s) 19 [(0, .ref (Ga G 111)), (1, .ref (Ga G x1)), (2, .int x2), (4, .ref (Ga G x4)), (5, .int x5), (6, .int x6)] [] s := by
  intro x6 s0
  unfold st_X1_changes_19
  refine jx_iload h dX1_changes_19 5 rfl ?_
  refine jx_iload h dX1_changes_21 4 rfl ?_
  refine jx_icmp_gt (tgt := 41) h dX1_changes_23 rfl ?_ ?_
  · exact jx_subk [0, 1, 2, 3, 4] h (hk41 s0) rfl
  · refine jx_aload_n h dX1_changes_26 rfl 0 rfl ?_
    refine jx_get (v := .ref (Ga G 120)) h fa_X1_20 lc_111 dX1_changes_27 rfl ?_
    refine jx_iload h dX1_changes_30 5 rfl ?_
    refine jx_iload h dX1_changes_32 5 rfl ?_
    refine jx_iastore h lc_120 dX1_changes_34 (fun s4 => ?_)
    refine jx_iincl (L := fun w => [(6, .int w), (0, .ref (Ga G 111)), (1, .ref (Ga G x1)), (2, .int x2), (4, .ref (Ga G x4)), (5, .int x5)]) h dX1_changes_35 5 rfl (kn_1 _) (Nat.le_of_ble_eq_true rfl) (fun _ => rfl) (fun x6_5 => ?_)
    refine jx_goto (tgt := 19) h dX1_changes_38 rfl ?_
    exact jx_subk [1, 2, 3, 4, 5, 0] h (ih x6_5 s4) rfl
set_option maxRecDepth 20000 in
theorem w_X1_changes_78 {G : Gx} (hG : Gok G ∧ IsG G layC fsoC) {P : Option (Int32 × Mem) → Nat → List (Nat × Value) → List Value → Mem → Prop} (h : Jk G layC fsoC RX1 cX1_changes 10 (some .int) 1 tvI P) (N : Nat) (x1 : Nat) (x2 : Int32) (x4 : Nat) (x5 : Int32) (x6 : Int32) (hx1 : isAr x1 = true) (hx4 : isAr x4 = true) {k152 : Mem → Option (Int32 × Mem)} (hk152 : ∀  (s : Mem), P (k152 s) 152 [(0, .ref (Ga G 111)), (1, .ref (Ga G x1)), (2, .int x2), (4, .ref (Ga G x4)), (5, .int x5), (6, .int x6)] [] s) {rec : Int32 → Int32 → Mem → Option (Int32 × Mem)} (ih : ∀ (x7 : Int32) (x8 : Int32) (s : Mem), P (rec x7 x8 s) 78 [(0, .ref (Ga G 111)), (1, .ref (Ga G x1)), (2, .int x2), (4, .ref (Ga G x4)), (5, .int x5), (6, .int x6), (7, .int x7), (8, .int x8)] [] s) : ∀ (x7 : Int32) (x8 : Int32) (s : Mem), P (st_X1_changes_78 N x1 x2 x4 x5 x6 k152 rec x7 x8 s) 78 [(0, .ref (Ga G 111)), (1, .ref (Ga G x1)), (2, .int x2), (4, .ref (Ga G x4)), (5, .int x5), (6, .int x6), (7, .int x7), (8, .int x8)] [] s := by
  intro x7 x8 s0
  unfold st_X1_changes_78
  refine jx_iload h dX1_changes_78 7 rfl ?_
  refine jx_iload h dX1_changes_80 4 rfl ?_
  refine jx_icmp_ge (tgt := 152) h dX1_changes_82 rfl ?_ ?_
  · exact jx_subk [0, 1, 2, 3, 4, 5] h (hk152 s0) rfl
  · refine jx_iload h dX1_changes_85 6 rfl ?_
    refine jx_aload_n h dX1_changes_87 rfl 1 rfl ?_
    refine jx_iload h dX1_changes_88 5 rfl ?_
    refine jx_iaload h (isAr_0 hx1) dX1_changes_90 ?_
    refine jx_aload h dX1_changes_91 3 rfl ?_
    refine jx_iload h dX1_changes_93 7 rfl ?_
    refine jx_iaload h (isAr_0 hx4) dX1_changes_95 ?_
    refine jx_join (fun (j : Int32 → Mem → Option (Int32 × Mem)) => ∀ (t10 : Int32) (s9 : Mem), P (j t10 s9) 104 [(0, .ref (Ga G 111)), (1, .ref (Ga G x1)), (2, .int x2), (4, .ref (Ga G x4)), (5, .int x5), (6, .int x6), (8, .int x8)] [.int t10, .int x7] s9) (fun t10 s9 => ?_) (fun j104 hj104 => ?_)
    · refine jx_iadd h dX1_changes_104 ?_
      refine jx_lti (fun v11 => ?_)
      refine jx_istore (lv' := [(9, .int v11), (0, .ref (Ga G 111)), (1, .ref (Ga G x1)), (2, .int x2), (4, .ref (Ga G x4)), (5, .int x5), (6, .int x6), (8, .int x8)]) h dX1_changes_105 (Nat.le_of_ble_eq_true rfl) rfl ?_
      refine jx_aload_n h dX1_changes_107 rfl 1 rfl ?_
      refine jx_get (v := .ref (Ga G 120)) h fa_X1_20 lc_111 dX1_changes_108 rfl ?_
      refine jx_iload h dX1_changes_111 7 rfl ?_
      refine jx_iconst h dX1_changes_113 ki_1 ?_
      refine jx_iadd h dX1_changes_114 ?_
      refine jx_iaload h lc_120 dX1_changes_115 ?_
      refine jx_lti (fun v12 => ?_)
      refine jx_istore (lv' := [(7, .int v12), (9, .int v11), (0, .ref (Ga G 111)), (1, .ref (Ga G x1)), (2, .int x2), (4, .ref (Ga G x4)), (5, .int x5), (6, .int x6), (8, .int x8)]) h dX1_changes_116 (Nat.le_of_ble_eq_true rfl) rfl ?_
      refine jx_aload_n h dX1_changes_118 rfl 2 rfl ?_
      refine jx_get (v := .ref (Ga G 120)) h fa_X1_20 lc_111 dX1_changes_119 rfl ?_
      refine jx_iload h dX1_changes_122 8 rfl ?_
      refine jx_iconst h dX1_changes_124 ki_1 ?_
      refine jx_iadd h dX1_changes_125 ?_
      refine jx_iload h dX1_changes_126 1 rfl ?_
      refine jx_iload h dX1_changes_128 0 rfl ?_
      refine jx_aload_n h dX1_changes_130 rfl 2 rfl ?_
      refine jx_get (v := .ref (Ga G 120)) h fa_X1_20 lc_111 dX1_changes_131 rfl ?_
      refine jx_iload h dX1_changes_134 8 rfl ?_
      refine jx_iaload h lc_120 dX1_changes_136 ?_
      refine jx_mmin h mm_X1_26 (Nat.le_of_ble_eq_true rfl) (Nat.le_of_ble_eq_true rfl) dX1_changes_137 ?_
      refine jx_iconst h dX1_changes_140 ki_1 ?_
      refine jx_iadd h dX1_changes_141 ?_
      refine jx_mmin h mm_X1_26 (Nat.le_of_ble_eq_true rfl) (Nat.le_of_ble_eq_true rfl) dX1_changes_142 ?_
      refine jx_iastore h lc_120 dX1_changes_145 (fun s13 => ?_)
      refine jx_iincl (L := fun w => [(8, .int w), (7, .int v12), (9, .int v11), (0, .ref (Ga G 111)), (1, .ref (Ga G x1)), (2, .int x2), (4, .ref (Ga G x4)), (5, .int x5), (6, .int x6)]) h dX1_changes_146 8 rfl (kn_1 _) (Nat.le_of_ble_eq_true rfl) (fun _ => rfl) (fun x8_14 => ?_)
      refine jx_goto (tgt := 78) h dX1_changes_149 rfl ?_
      exact jx_subk [3, 4, 5, 6, 7, 8, 1, 0] h (ih v12 x8_14 s13) rfl
    · refine jx_icmp_ne (tgt := 103) h dX1_changes_96 rfl ?_ ?_
      · refine jx_iconst h dX1_changes_103 ki_1 ?_
        exact jx_subk [0, 1, 2, 3, 4, 5, 7] h (hj104 1 s0) rfl
      · refine jx_iconst h dX1_changes_99 ki_0 ?_
        refine jx_goto (tgt := 104) h dX1_changes_100 rfl ?_
        exact jx_subk [0, 1, 2, 3, 4, 5, 7] h (hj104 0 s0) rfl
set_option maxRecDepth 20000 in
theorem w_X1_changes_44 {G : Gx} (hG : Gok G ∧ IsG G layC fsoC) {P : Option (Int32 × Mem) → Nat → List (Nat × Value) → List Value → Mem → Prop} (h : Jk G layC fsoC RX1 cX1_changes 10 (some .int) 1 tvI P) (N : Nat) (x1 : Nat) (x2 : Int32) (x4 : Nat) (x5 : Int32) (hx1 : isAr x1 = true) (hx4 : isAr x4 = true) {rec : Int32 → Mem → Option (Int32 × Mem)} (ih : ∀ (x6 : Int32) (s : Mem), P (rec x6 s) 44 [(0, .ref (Ga G 111)), (1, .ref (Ga G x1)), (2, .int x2), (4, .ref (Ga G x4)), (5, .int x5), (6, .int x6)] [] s) : ∀ (x6 : Int32) (s : Mem), P (st_X1_changes_44 N x1 x2 x4 x5 rec x6 s) 44 [(0, .ref (Ga G 111)), (1, .ref (Ga G x1)), (2, .int x2), (4, .ref (Ga G x4)), (5, .int x5), (6, .int x6)] [] s := by
  intro x6 s0
  unfold st_X1_changes_44
  refine jx_iload h dX1_changes_44 5 rfl ?_
  refine jx_iload_n h dX1_changes_46 rfl 2 rfl ?_
  refine jx_icmp_ge (tgt := 158) h dX1_changes_47 rfl ?_ ?_
  · refine jx_aload_n h dX1_changes_158 rfl 0 rfl ?_
    refine jx_get (v := .ref (Ga G 120)) h fa_X1_20 lc_111 dX1_changes_159 rfl ?_
    refine jx_iload h dX1_changes_162 4 rfl ?_
    refine jx_iaload h lc_120 dX1_changes_164 ?_
    exact jx_iret h dX1_changes_165
  · refine jx_iload h dX1_changes_50 5 rfl ?_
    refine jx_bipush h dX1_changes_52 kb_40 ?_
    refine jx_icmp_ge (tgt := 158) h dX1_changes_54 rfl ?_ ?_
    · refine jx_aload_n h dX1_changes_158 rfl 0 rfl ?_
      refine jx_get (v := .ref (Ga G 120)) h fa_X1_20 lc_111 dX1_changes_159 rfl ?_
      refine jx_iload h dX1_changes_162 4 rfl ?_
      refine jx_iaload h lc_120 dX1_changes_164 ?_
      exact jx_iret h dX1_changes_165
    · refine jx_aload_n h dX1_changes_57 rfl 0 rfl ?_
      refine jx_get (v := .ref (Ga G 120)) h fa_X1_20 lc_111 dX1_changes_58 rfl ?_
      refine jx_iconst h dX1_changes_61 ki_0 ?_
      refine jx_iaload h lc_120 dX1_changes_62 ?_
      refine jx_lti (fun v7 => ?_)
      refine jx_istore (lv' := [(7, .int v7), (0, .ref (Ga G 111)), (1, .ref (Ga G x1)), (2, .int x2), (4, .ref (Ga G x4)), (5, .int x5), (6, .int x6)]) h dX1_changes_63 (Nat.le_of_ble_eq_true rfl) rfl ?_
      refine jx_aload_n h dX1_changes_65 rfl 1 rfl ?_
      refine jx_get (v := .ref (Ga G 120)) h fa_X1_20 lc_111 dX1_changes_66 rfl ?_
      refine jx_iconst h dX1_changes_69 ki_0 ?_
      refine jx_iload h dX1_changes_70 6 rfl ?_
      refine jx_iconst h dX1_changes_72 ki_1 ?_
      refine jx_iadd h dX1_changes_73 ?_
      refine jx_iastore h lc_120 dX1_changes_74 (fun s8 => ?_)
      refine jx_iconst h dX1_changes_75 ki_0 ?_
      refine jx_istore (lv' := [(8, .int 0), (7, .int v7), (0, .ref (Ga G 111)), (1, .ref (Ga G x1)), (2, .int x2), (4, .ref (Ga G x4)), (5, .int x5), (6, .int x6)]) h dX1_changes_76 (Nat.le_of_ble_eq_true rfl) rfl ?_
      refine jx_subk [2, 3, 4, 5, 6, 7, 1, 0] h (itr_ind (Q := (fun (f : Int32 → Int32 → Mem → Option (Int32 × Mem)) => ∀ (x7 : Int32) (x8 : Int32) (s : Mem), P (f x7 x8 s) 78 [(0, .ref (Ga G 111)), (1, .ref (Ga G x1)), (2, .int x2), (4, .ref (Ga G x4)), (5, .int x5), (6, .int x6), (7, .int x7), (8, .int x8)] [] s)) (fun _ _ _ => jx_none h) (fun r78 ih78 => ?_) N v7 0 s8) rfl
      refine w_X1_changes_78 hG h N x1 x2 x4 x5 x6 hx1 hx4 ?_ ih78
      intro s15
      refine jx_iincl (L := fun w => [(6, .int w), (0, .ref (Ga G 111)), (1, .ref (Ga G x1)), (2, .int x2), (4, .ref (Ga G x4)), (5, .int x5)]) h dX1_changes_152 5 rfl (kn_1 _) (Nat.le_of_ble_eq_true rfl) (fun _ => rfl) (fun x6_16 => ?_)
      refine jx_goto (tgt := 44) h dX1_changes_155 rfl ?_
      exact jx_subk [1, 2, 3, 4, 5, 0] h (ih x6_16 s15) rfl
set_option maxRecDepth 20000 in
theorem c_X1_changes {G : Gx} (hG : Gok G ∧ IsG G layC fsoC) (N : Nat) (x1 : Nat) (hx1 : isAr x1 = true) (x2 : Int32) (x3 : Int32) (s : Mem) : Ct G yX1_changes cX1_changes 10 (some .int) 1 [.ref (Ga G 111), .ref (Ga G x1), .int x2, .int x3] tvI s (f_X1_changes N x1 x2 x3 s) := by
  refine Ct.of hG (by decide) (Nat.le_of_ble_eq_true rfl) (fun P h => ?_)
  show P _ 0 [(0, .ref (Ga G 111)), (1, .ref (Ga G x1)), (2, .int x2), (3, .int x3)] [] s
  unfold f_X1_changes
  refine jx_aload_n h dX1_changes_0 rfl 0 rfl ?_
  refine jx_get (v := .ref (Ga G 112)) h fa_X1_13 lc_111 dX1_changes_1 rfl ?_
  refine jx_iload_n h dX1_changes_4 rfl 3 rfl ?_
  refine jx_aaload h lc_112 dX1_changes_5 (fun hr1 => ?_)
  refine jx_ltr (fun q2 => ?_)
  refine jx_ckc h (fun hq2 => ?_)
  refine jx_astore (lv' := [(4, .ref (Ga G q2)), (0, .ref (Ga G 111)), (1, .ref (Ga G x1)), (2, .int x2), (3, .int x3)]) h dX1_changes_6 (Nat.le_of_ble_eq_true rfl) rfl ?_
  refine jx_aload_n h dX1_changes_8 rfl 1 rfl ?_
  refine jx_get (v := .ref (Ga G 119)) h fa_X1_16 lc_111 dX1_changes_9 rfl ?_
  refine jx_iload_n h dX1_changes_12 rfl 4 rfl ?_
  refine jx_iaload h lc_119 dX1_changes_13 ?_
  refine jx_lti (fun v3 => ?_)
  refine jx_istore (lv' := [(5, .int v3), (4, .ref (Ga G q2)), (0, .ref (Ga G 111)), (1, .ref (Ga G x1)), (2, .int x2), (3, .int x3)]) h dX1_changes_14 (Nat.le_of_ble_eq_true rfl) rfl ?_
  refine jx_iconst h dX1_changes_16 ki_0 ?_
  refine jx_istore (lv' := [(6, .int 0), (5, .int v3), (4, .ref (Ga G q2)), (0, .ref (Ga G 111)), (1, .ref (Ga G x1)), (2, .int x2), (3, .int x3)]) h dX1_changes_17 (Nat.le_of_ble_eq_true rfl) rfl ?_
  refine jx_subk [3, 4, 5, 2, 1, 0] h (itr_ind (Q := (fun (f : Int32 → Mem → Option (Int32 × Mem)) => ∀ (x6 : Int32) (s : Mem), P (f x6 s) 19 [(0, .ref (Ga G 111)), (1, .ref (Ga G x1)), (2, .int x2), (4, .ref (Ga G q2)), (5, .int v3), (6, .int x6)] [] s)) (fun _ _ => jx_none h) (fun r19 ih19 => ?_) N 0 s) rfl
  refine w_X1_changes_19 hG h N x1 x2 q2 v3 hx1 hq2 ?_ ih19
  intro s6
  refine jx_iconst h dX1_changes_41 ki_0 ?_
  refine jx_istore (lv' := [(6, .int 0), (0, .ref (Ga G 111)), (1, .ref (Ga G x1)), (2, .int x2), (4, .ref (Ga G q2)), (5, .int v3)]) h dX1_changes_42 (Nat.le_of_ble_eq_true rfl) rfl ?_
  refine jx_subk [1, 2, 3, 4, 5, 0] h (itr_ind (Q := (fun (f : Int32 → Mem → Option (Int32 × Mem)) => ∀ (x6 : Int32) (s : Mem), P (f x6 s) 44 [(0, .ref (Ga G 111)), (1, .ref (Ga G x1)), (2, .int x2), (4, .ref (Ga G q2)), (5, .int v3), (6, .int x6)] [] s)) (fun _ _ => jx_none h) (fun r44 ih44 => ?_) N 0 s6) rfl
  refine w_X1_changes_44 hG h N x1 x2 q2 v3 hx1 hq2  ih44
noncomputable def f_X1_apart (N : Nat) (x1 : Int32) (x2 : Int32) (s : Mem) : Option (Int32 × Mem) :=
  chk x1 6 (chk x1 6 (bd (f_X1_changes N (112 + 1 + ix x1) (gi s 119 (ix x1)) x2 s) (fun r3 s2 => some (r3, s2))))
set_option maxRecDepth 20000 in
theorem c_X1_apart {G : Gx} (hG : Gok G ∧ IsG G layC fsoC) (N : Nat) (x1 : Int32) (x2 : Int32) (s : Mem) : Ct G yX1_apart cX1_apart 3 (some .int) 2 [.ref (Ga G 111), .int x1, .int x2] tvI s (f_X1_apart N x1 x2 s) := by
  refine Ct.of hG (by decide) (Nat.le_of_ble_eq_true rfl) (fun P h => ?_)
  show P _ 0 [(0, .ref (Ga G 111)), (1, .int x1), (2, .int x2)] [] s
  unfold f_X1_apart
  refine jx_aload_n h dX1_apart_0 rfl 0 rfl ?_
  refine jx_aload_n h dX1_apart_1 rfl 0 rfl ?_
  refine jx_get (v := .ref (Ga G 112)) h fa_X1_13 lc_111 dX1_apart_2 rfl ?_
  refine jx_iload_n h dX1_apart_5 rfl 1 rfl ?_
  refine jx_aaload h lc_112 dX1_apart_6 (fun hr1 => ?_)
  refine jx_aload_n h dX1_apart_7 rfl 0 rfl ?_
  refine jx_get (v := .ref (Ga G 119)) h fa_X1_16 lc_111 dX1_apart_8 rfl ?_
  refine jx_iload_n h dX1_apart_11 rfl 1 rfl ?_
  refine jx_iaload h lc_119 dX1_apart_12 ?_
  refine jx_iload_n h dX1_apart_13 rfl 2 rfl ?_
  refine jx_callVi [] h lc_111 (c_X1_changes hG N (112 + 1 + ix x1) (isAr_of (lr_112 hr1)) (gi s 119 (ix x1)) x2 s) ml_X1_45 (Nat.le_of_ble_eq_true rfl) (Nat.le_of_ble_eq_true rfl) dX1_apart_14 (Nat.le_of_ble_eq_true rfl) rfl (fun r3 s2 => ?_)
  exact jx_iret h dX1_apart_17
noncomputable def st_X1_nearestTo_12 (N : Nat) (x1 : Nat) (x2 : Int32)  (rec : Int32 → Int32 → Mem → Option (Int32 × Mem)) (x3 : Int32) (x4 : Int32) (s0 : Mem) : Option (Int32 × Mem) :=
  if 6 ≤ x4 then (some (x3, s0)) else bd (f_X1_isWritten N x4 s0) (fun r3 s2 => if r3 = 0 then (lt (x4 + 1) (fun x4_4 => rec x3 x4_4 s2)) else bd (f_X1_changes N x1 x2 x4 s2) (fun r6 s5 => if (gi s5 111 4) ≤ r6 then (lt (x4 + 1) (fun x4_7 => rec x3 x4_7 s5)) else lt (si s5 111 4 r6) (fun s8 => lt (x4 + 1) (fun x4_9 => rec x4 x4_9 s8))))
noncomputable def f_X1_nearestTo (N : Nat) (x1 : Nat) (x2 : Int32) (s : Mem) : Option (Int32 × Mem) :=
  lt (si s 111 4 80) (fun s1 => itr (fun _ _ _ => none) (st_X1_nearestTo_12 N x1 x2) N (-2) 0 s1)
set_option maxRecDepth 20000 in
theorem w_X1_nearestTo_12 {G : Gx} (hG : Gok G ∧ IsG G layC fsoC) {P : Option (Int32 × Mem) → Nat → List (Nat × Value) → List Value → Mem → Prop} (h : Jk G layC fsoC RX1 cX1_nearestTo 6 (some .int) 3 tvI P) (N : Nat) (x1 : Nat) (x2 : Int32) (hx1 : isAr x1 = true) {rec : Int32 → Int32 → Mem → Option (Int32 × Mem)} (ih : ∀ (x3 : Int32) (x4 : Int32) (s : Mem), P (rec x3 x4 s) 12 [(0, .ref (Ga G 111)), (1, .ref (Ga G x1)), (2, .int x2), (3, .int x3), (4, .int x4)] [] s) : ∀ (x3 : Int32) (x4 : Int32) (s : Mem), P (st_X1_nearestTo_12 N x1 x2 rec x3 x4 s) 12 [(0, .ref (Ga G 111)), (1, .ref (Ga G x1)), (2, .int x2), (3, .int x3), (4, .int x4)] [] s := by
  intro x3 x4 s0
  unfold st_X1_nearestTo_12
  refine jx_iload h dX1_nearestTo_12 4 rfl ?_
  refine jx_bipush h dX1_nearestTo_14 kb_6 ?_
  refine jx_icmp_ge (tgt := 62) h dX1_nearestTo_16 rfl ?_ ?_
  · refine jx_iload_n h dX1_nearestTo_62 rfl 3 rfl ?_
    exact jx_iret h dX1_nearestTo_63
  · refine jx_aload_n h dX1_nearestTo_19 rfl 0 rfl ?_
    refine jx_iload h dX1_nearestTo_20 4 rfl ?_
    refine jx_callVi [] h lc_111 (c_X1_isWritten hG N x4 s0) ml_X1_42 (Nat.le_of_ble_eq_true rfl) (Nat.le_of_ble_eq_true rfl) dX1_nearestTo_22 (Nat.le_of_ble_eq_true rfl) rfl (fun r3 s2 => ?_)
    refine jx_if_eq (tgt := 56) h dX1_nearestTo_25 rfl ?_ ?_
    · refine jx_iincl (L := fun w => [(4, .int w), (0, .ref (Ga G 111)), (1, .ref (Ga G x1)), (2, .int x2), (3, .int x3)]) h dX1_nearestTo_56 4 rfl (kn_1 _) (Nat.le_of_ble_eq_true rfl) (fun _ => rfl) (fun x4_4 => ?_)
      refine jx_goto (tgt := 12) h dX1_nearestTo_59 rfl ?_
      exact jx_subk [1, 2, 3, 4, 0] h (ih x3 x4_4 s2) rfl
    · refine jx_aload_n h dX1_nearestTo_28 rfl 0 rfl ?_
      refine jx_aload_n h dX1_nearestTo_29 rfl 1 rfl ?_
      refine jx_iload_n h dX1_nearestTo_30 rfl 2 rfl ?_
      refine jx_iload h dX1_nearestTo_31 4 rfl ?_
      refine jx_callVi [] h lc_111 (c_X1_changes hG N x1 hx1 x2 x4 s2) ml_X1_45 (Nat.le_of_ble_eq_true rfl) (Nat.le_of_ble_eq_true rfl) dX1_nearestTo_33 (Nat.le_of_ble_eq_true rfl) rfl (fun r6 s5 => ?_)
      refine jx_istore (lv' := [(5, .int r6), (0, .ref (Ga G 111)), (1, .ref (Ga G x1)), (2, .int x2), (3, .int x3), (4, .int x4)]) h dX1_nearestTo_36 (Nat.le_of_ble_eq_true rfl) rfl ?_
      refine jx_iload h dX1_nearestTo_38 0 rfl ?_
      refine jx_aload_n h dX1_nearestTo_40 rfl 1 rfl ?_
      refine jx_get (v := .int (gi s5 111 4)) h fa_X1_49 lc_111 dX1_nearestTo_41 rfl ?_
      refine jx_icmp_ge (tgt := 56) h dX1_nearestTo_44 rfl ?_ ?_
      · refine jx_iincl (L := fun w => [(4, .int w), (5, .int r6), (0, .ref (Ga G 111)), (1, .ref (Ga G x1)), (2, .int x2), (3, .int x3)]) h dX1_nearestTo_56 5 rfl (kn_1 _) (Nat.le_of_ble_eq_true rfl) (fun _ => rfl) (fun x4_7 => ?_)
        refine jx_goto (tgt := 12) h dX1_nearestTo_59 rfl ?_
        exact jx_subk [2, 3, 4, 5, 0] h (ih x3 x4_7 s5) rfl
      · refine jx_iload h dX1_nearestTo_47 5 rfl ?_
        refine jx_istore_n (lv' := [(3, .int x4), (5, .int r6), (0, .ref (Ga G 111)), (1, .ref (Ga G x1)), (2, .int x2), (4, .int x4)]) h dX1_nearestTo_49 rfl (Nat.le_of_ble_eq_true rfl) rfl ?_
        refine jx_aload_n h dX1_nearestTo_50 rfl 2 rfl ?_
        refine jx_iload h dX1_nearestTo_51 1 rfl ?_
        refine jx_put h fa_X1_49 fp_X1_4 lc_111 rfl rfl dX1_nearestTo_53 (fu_X1_4 _ _ _ _) (fun s8 => ?_)
        refine jx_iincl (L := fun w => [(4, .int w), (3, .int x4), (5, .int r6), (0, .ref (Ga G 111)), (1, .ref (Ga G x1)), (2, .int x2)]) h dX1_nearestTo_56 5 rfl (kn_1 _) (Nat.le_of_ble_eq_true rfl) (fun _ => rfl) (fun x4_9 => ?_)
        refine jx_goto (tgt := 12) h dX1_nearestTo_59 rfl ?_
        exact jx_subk [3, 4, 5, 1, 0] h (ih x4 x4_9 s8) rfl
set_option maxRecDepth 20000 in
theorem c_X1_nearestTo {G : Gx} (hG : Gok G ∧ IsG G layC fsoC) (N : Nat) (x1 : Nat) (hx1 : isAr x1 = true) (x2 : Int32) (s : Mem) : Ct G yX1_nearestTo cX1_nearestTo 6 (some .int) 3 [.ref (Ga G 111), .ref (Ga G x1), .int x2] tvI s (f_X1_nearestTo N x1 x2 s) := by
  refine Ct.of hG (by decide) (Nat.le_of_ble_eq_true rfl) (fun P h => ?_)
  show P _ 0 [(0, .ref (Ga G 111)), (1, .ref (Ga G x1)), (2, .int x2)] [] s
  unfold f_X1_nearestTo
  refine jx_bipush h dX1_nearestTo_0 kb_m2 ?_
  refine jx_istore_n (lv' := [(3, .int (-2)), (0, .ref (Ga G 111)), (1, .ref (Ga G x1)), (2, .int x2)]) h dX1_nearestTo_2 rfl (Nat.le_of_ble_eq_true rfl) rfl ?_
  refine jx_aload_n h dX1_nearestTo_3 rfl 1 rfl ?_
  refine jx_bipush h dX1_nearestTo_4 kb_80 ?_
  refine jx_put h fa_X1_49 fp_X1_4 lc_111 rfl rfl dX1_nearestTo_6 (fu_X1_4 _ _ _ _) (fun s1 => ?_)
  refine jx_iconst h dX1_nearestTo_9 ki_0 ?_
  refine jx_istore (lv' := [(4, .int 0), (3, .int (-2)), (0, .ref (Ga G 111)), (1, .ref (Ga G x1)), (2, .int x2)]) h dX1_nearestTo_10 (Nat.le_of_ble_eq_true rfl) rfl ?_
  refine jx_subk [2, 3, 4, 1, 0] h (itr_ind (Q := (fun (f : Int32 → Int32 → Mem → Option (Int32 × Mem)) => ∀ (x3 : Int32) (x4 : Int32) (s : Mem), P (f x3 x4 s) 12 [(0, .ref (Ga G 111)), (1, .ref (Ga G x1)), (2, .int x2), (3, .int x3), (4, .int x4)] [] s)) (fun _ _ _ => jx_none h) (fun r12 ih12 => ?_) N (-2) 0 s1) rfl
  refine w_X1_nearestTo_12 hG h N x1 x2 hx1  ih12
noncomputable def st_X1_lowest_2 (N : Nat) (x0 : Int32)  (rec : Int32 → Mem → Option (Int32 × Mem)) (x1 : Int32) (s0 : Mem) : Option (Int32 × Mem) :=
  if 5 ≤ x1 then (some (x1, s0)) else bd (f_X9_hasBit N x0 x1 s0) (fun r2 s1 => if r2 = 0 then (lt (x1 + 1) (fun x1_3 => rec x1_3 s1)) else some (x1, s1))
noncomputable def f_X1_lowest (N : Nat) (x0 : Int32) (s : Mem) : Option (Int32 × Mem) :=
  itr (fun _ _ => none) (st_X1_lowest_2 N x0) N 0 s
set_option maxRecDepth 20000 in
theorem w_X1_lowest_2 {G : Gx} (hG : Gok G ∧ IsG G layC fsoC) {P : Option (Int32 × Mem) → Nat → List (Nat × Value) → List Value → Mem → Prop} (h : Jk G layC fsoC RX1 cX1_lowest 2 (some .int) 1 tvI P) (N : Nat) (x0 : Int32) {rec : Int32 → Mem → Option (Int32 × Mem)} (ih : ∀ (x1 : Int32) (s : Mem), P (rec x1 s) 2 [(0, .int x0), (1, .int x1)] [] s) : ∀ (x1 : Int32) (s : Mem), P (st_X1_lowest_2 N x0 rec x1 s) 2 [(0, .int x0), (1, .int x1)] [] s := by
  intro x1 s0
  unfold st_X1_lowest_2
  refine jx_iload_n h dX1_lowest_2 rfl 1 rfl ?_
  refine jx_iconst h dX1_lowest_3 ki_5 ?_
  refine jx_icmp_ge (tgt := 21) h dX1_lowest_4 rfl ?_ ?_
  · refine jx_iload_n h dX1_lowest_21 rfl 1 rfl ?_
    exact jx_iret h dX1_lowest_22
  · refine jx_iload_n h dX1_lowest_7 rfl 0 rfl ?_
    refine jx_iload_n h dX1_lowest_8 rfl 1 rfl ?_
    refine jx_callSi [] h (c_X9_hasBit hG N x0 x1 s0) ml_X1_64 (Nat.le_of_ble_eq_true rfl) (Nat.le_of_ble_eq_true rfl) dX1_lowest_9 (Nat.le_of_ble_eq_true rfl) rfl (fun r2 s1 => ?_)
    refine jx_if_ne (tgt := 21) h dX1_lowest_12 rfl ?_ ?_
    · refine jx_iload_n h dX1_lowest_21 rfl 1 rfl ?_
      exact jx_iret h dX1_lowest_22
    · refine jx_iincl (L := fun w => [(1, .int w), (0, .int x0)]) h dX1_lowest_15 1 rfl (kn_1 _) (Nat.le_of_ble_eq_true rfl) (fun _ => rfl) (fun x1_3 => ?_)
      refine jx_goto (tgt := 2) h dX1_lowest_18 rfl ?_
      exact jx_subk [1, 0] h (ih x1_3 s1) rfl
set_option maxRecDepth 20000 in
theorem c_X1_lowest {G : Gx} (hG : Gok G ∧ IsG G layC fsoC) (N : Nat) (x0 : Int32) (s : Mem) : Ct G yX1_lowest cX1_lowest 2 (some .int) 1 [.int x0] tvI s (f_X1_lowest N x0 s) := by
  refine Ct.of hG (by decide) (Nat.le_of_ble_eq_true rfl) (fun P h => ?_)
  show P _ 0 [(0, .int x0)] [] s
  unfold f_X1_lowest
  refine jx_iconst h dX1_lowest_0 ki_0 ?_
  refine jx_istore_n (lv' := [(1, .int 0), (0, .int x0)]) h dX1_lowest_1 rfl (Nat.le_of_ble_eq_true rfl) rfl ?_
  refine jx_subk [1, 0] h (itr_ind (Q := (fun (f : Int32 → Mem → Option (Int32 × Mem)) => ∀ (x1 : Int32) (s : Mem), P (f x1 s) 2 [(0, .int x0), (1, .int x1)] [] s)) (fun _ _ => jx_none h) (fun r2 ih2 => ?_) N 0 s) rfl
  refine w_X1_lowest_2 hG h N x0  ih2
noncomputable def st_X1_nearestOf_8 (N : Nat) (x1 : Int32) (x2 : Int32)  (rec : Int32 → Int32 → Mem → Option (Int32 × Mem)) (x3 : Int32) (x4 : Int32) (s0 : Mem) : Option (Int32 × Mem) :=
  if 6 ≤ x4 then (some (x3, s0)) else bd (f_X9_hasBit N x1 x4 s0) (fun r4 s3 => if r4 = 0 then (lt (x4 + 1) (fun x4_5 => rec x3 x4_5 s3)) else chk x4 6 (bd (f_X1_apart N x4 x2 s3) (fun r7 s6 => chk x4 6 (lt (si s6 121 (ix x4) (imin (gi s3 121 (ix x4)) r7)) (fun s8 => chk x4 6 (chk x3 6 (if (gi s8 121 (ix x3)) ≤ (gi s8 121 (ix x4)) then (lt (x4 + 1) (fun x4_9 => rec x3 x4_9 s8)) else lt (x4 + 1) (fun x4_10 => rec x4 x4_10 s8))))))))
noncomputable def f_X1_nearestOf (N : Nat) (x1 : Int32) (x2 : Int32) (s : Mem) : Option (Int32 × Mem) :=
  bd (f_X1_lowest N x1 s) (fun r2 s1 => itr (fun _ _ _ => none) (st_X1_nearestOf_8 N x1 x2) N r2 0 s1)
set_option maxRecDepth 20000 in
theorem w_X1_nearestOf_8 {G : Gx} (hG : Gok G ∧ IsG G layC fsoC) {P : Option (Int32 × Mem) → Nat → List (Nat × Value) → List Value → Mem → Prop} (h : Jk G layC fsoC RX1 cX1_nearestOf 5 (some .int) 3 tvI P) (N : Nat) (x1 : Int32) (x2 : Int32) {rec : Int32 → Int32 → Mem → Option (Int32 × Mem)} (ih : ∀ (x3 : Int32) (x4 : Int32) (s : Mem), P (rec x3 x4 s) 8 [(0, .ref (Ga G 111)), (1, .int x1), (2, .int x2), (3, .int x3), (4, .int x4)] [] s) : ∀ (x3 : Int32) (x4 : Int32) (s : Mem), P (st_X1_nearestOf_8 N x1 x2 rec x3 x4 s) 8 [(0, .ref (Ga G 111)), (1, .int x1), (2, .int x2), (3, .int x3), (4, .int x4)] [] s := by
  intro x3 x4 s0
  unfold st_X1_nearestOf_8
  refine jx_iload h dX1_nearestOf_8 4 rfl ?_
  refine jx_bipush h dX1_nearestOf_10 kb_6 ?_
  refine jx_icmp_ge (tgt := 73) h dX1_nearestOf_12 rfl ?_ ?_
  · refine jx_iload_n h dX1_nearestOf_73 rfl 3 rfl ?_
    exact jx_iret h dX1_nearestOf_74
  · refine jx_iload_n h dX1_nearestOf_15 rfl 1 rfl ?_
    refine jx_iload h dX1_nearestOf_16 4 rfl ?_
    refine jx_callSi [] h (c_X9_hasBit hG N x1 x4 s0) ml_X1_64 (Nat.le_of_ble_eq_true rfl) (Nat.le_of_ble_eq_true rfl) dX1_nearestOf_18 (Nat.le_of_ble_eq_true rfl) rfl (fun r4 s3 => ?_)
    refine jx_if_eq (tgt := 67) h dX1_nearestOf_21 rfl ?_ ?_
    · refine jx_iincl (L := fun w => [(4, .int w), (0, .ref (Ga G 111)), (1, .int x1), (2, .int x2), (3, .int x3)]) h dX1_nearestOf_67 4 rfl (kn_1 _) (Nat.le_of_ble_eq_true rfl) (fun _ => rfl) (fun x4_5 => ?_)
      refine jx_goto (tgt := 8) h dX1_nearestOf_70 rfl ?_
      exact jx_subk [1, 2, 3, 4, 0] h (ih x3 x4_5 s3) rfl
    · refine jx_aload_n h dX1_nearestOf_24 rfl 0 rfl ?_
      refine jx_get (v := .ref (Ga G 121)) h fa_X1_23 lc_111 dX1_nearestOf_25 rfl ?_
      refine jx_iload h dX1_nearestOf_28 4 rfl ?_
      refine jx_aload_n h dX1_nearestOf_30 rfl 0 rfl ?_
      refine jx_get (v := .ref (Ga G 121)) h fa_X1_23 lc_111 dX1_nearestOf_31 rfl ?_
      refine jx_iload h dX1_nearestOf_34 4 rfl ?_
      refine jx_iaload h lc_121 dX1_nearestOf_36 ?_
      refine jx_aload_n h dX1_nearestOf_37 rfl 0 rfl ?_
      refine jx_iload h dX1_nearestOf_38 4 rfl ?_
      refine jx_iload_n h dX1_nearestOf_40 rfl 2 rfl ?_
      refine jx_callVi [.int (gi s3 121 (ix x4)), .int x4, .ref (Ga G 121)] h lc_111 (c_X1_apart hG N x4 x2 s3) ml_X1_68 (Nat.le_of_ble_eq_true rfl) (Nat.le_of_ble_eq_true rfl) dX1_nearestOf_41 (Nat.le_of_ble_eq_true rfl) rfl (fun r7 s6 => ?_)
      refine jx_mmin h mm_X1_26 (Nat.le_of_ble_eq_true rfl) (Nat.le_of_ble_eq_true rfl) dX1_nearestOf_44 ?_
      refine jx_iastore h lc_121 dX1_nearestOf_47 (fun s8 => ?_)
      refine jx_aload_n h dX1_nearestOf_48 rfl 0 rfl ?_
      refine jx_get (v := .ref (Ga G 121)) h fa_X1_23 lc_111 dX1_nearestOf_49 rfl ?_
      refine jx_iload h dX1_nearestOf_52 4 rfl ?_
      refine jx_iaload h lc_121 dX1_nearestOf_54 ?_
      refine jx_aload_n h dX1_nearestOf_55 rfl 0 rfl ?_
      refine jx_get (v := .ref (Ga G 121)) h fa_X1_23 lc_111 dX1_nearestOf_56 rfl ?_
      refine jx_iload_n h dX1_nearestOf_59 rfl 3 rfl ?_
      refine jx_iaload h lc_121 dX1_nearestOf_60 ?_
      refine jx_icmp_ge (tgt := 67) h dX1_nearestOf_61 rfl ?_ ?_
      · refine jx_iincl (L := fun w => [(4, .int w), (0, .ref (Ga G 111)), (1, .int x1), (2, .int x2), (3, .int x3)]) h dX1_nearestOf_67 4 rfl (kn_1 _) (Nat.le_of_ble_eq_true rfl) (fun _ => rfl) (fun x4_9 => ?_)
        refine jx_goto (tgt := 8) h dX1_nearestOf_70 rfl ?_
        exact jx_subk [1, 2, 3, 4, 0] h (ih x3 x4_9 s8) rfl
      · refine jx_iload h dX1_nearestOf_64 4 rfl ?_
        refine jx_istore_n (lv' := [(3, .int x4), (0, .ref (Ga G 111)), (1, .int x1), (2, .int x2), (4, .int x4)]) h dX1_nearestOf_66 rfl (Nat.le_of_ble_eq_true rfl) rfl ?_
        refine jx_iincl (L := fun w => [(4, .int w), (3, .int x4), (0, .ref (Ga G 111)), (1, .int x1), (2, .int x2)]) h dX1_nearestOf_67 4 rfl (kn_1 _) (Nat.le_of_ble_eq_true rfl) (fun _ => rfl) (fun x4_10 => ?_)
        refine jx_goto (tgt := 8) h dX1_nearestOf_70 rfl ?_
        exact jx_subk [2, 3, 4, 1, 0] h (ih x4 x4_10 s8) rfl
set_option maxRecDepth 20000 in
theorem c_X1_nearestOf {G : Gx} (hG : Gok G ∧ IsG G layC fsoC) (N : Nat) (x1 : Int32) (x2 : Int32) (s : Mem) : Ct G yX1_nearestOf cX1_nearestOf 5 (some .int) 3 [.ref (Ga G 111), .int x1, .int x2] tvI s (f_X1_nearestOf N x1 x2 s) := by
  refine Ct.of hG (by decide) (Nat.le_of_ble_eq_true rfl) (fun P h => ?_)
  show P _ 0 [(0, .ref (Ga G 111)), (1, .int x1), (2, .int x2)] [] s
  unfold f_X1_nearestOf
  refine jx_iload_n h dX1_nearestOf_0 rfl 1 rfl ?_
  refine jx_callSi [] h (c_X1_lowest hG N x1 s) ml_X1_57 (Nat.le_of_ble_eq_true rfl) (Nat.le_of_ble_eq_true rfl) dX1_nearestOf_1 (Nat.le_of_ble_eq_true rfl) rfl (fun r2 s1 => ?_)
  refine jx_istore_n (lv' := [(3, .int r2), (0, .ref (Ga G 111)), (1, .int x1), (2, .int x2)]) h dX1_nearestOf_4 rfl (Nat.le_of_ble_eq_true rfl) rfl ?_
  refine jx_iconst h dX1_nearestOf_5 ki_0 ?_
  refine jx_istore (lv' := [(4, .int 0), (3, .int r2), (0, .ref (Ga G 111)), (1, .int x1), (2, .int x2)]) h dX1_nearestOf_6 (Nat.le_of_ble_eq_true rfl) rfl ?_
  refine jx_subk [2, 3, 4, 1, 0] h (itr_ind (Q := (fun (f : Int32 → Int32 → Mem → Option (Int32 × Mem)) => ∀ (x3 : Int32) (x4 : Int32) (s : Mem), P (f x3 x4 s) 8 [(0, .ref (Ga G 111)), (1, .int x1), (2, .int x2), (3, .int x3), (4, .int x4)] [] s)) (fun _ _ _ => jx_none h) (fun r8 ih8 => ?_) N r2 0 s1) rfl
  refine w_X1_nearestOf_8 hG h N x1 x2  ih8
noncomputable def st_X1_tree_19 (N : Nat) (x1 : Int32) (x2 : Int32) (k39 : Mem → Option (Int32 × Mem)) (rec : Int32 → Mem → Option (Int32 × Mem)) (x3 : Int32) (s0 : Mem) : Option (Int32 × Mem) :=
  if 6 ≤ x3 then (k39 s0) else chk x3 6 (lt (si s0 121 (ix x3) 40) (fun s5 => lt (x3 + 1) (fun x3_6 => rec x3_6 s5)))
noncomputable def st_X1_tree_50 (N : Nat)  (rec : Int32 → Int32 → Int32 → Int32 → Mem → Option (Int32 × Mem)) (x1 : Int32) (x2 : Int32) (x3 : Int32) (x4 : Int32) (s0 : Mem) : Option (Int32 × Mem) :=
  if 6 ≤ x4 then (some (x3, s0)) else if x1 = 0 then (some (x3, s0)) else bd (f_X1_nearestOf N x1 x2 s0) (fun r10 s9 => lt (x1 ^^^ ((1 : Int32) <<< (r10 &&& 31))) (fun v11 => chk r10 6 (lt (x3 + (gi s9 121 (ix r10))) (fun v12 => lt (x4 + 1) (fun x4_13 => rec v11 r10 v12 x4_13 s9)))))
noncomputable def f_X1_tree (N : Nat)  (s : Mem) : Option (Int32 × Mem) :=
  bd (f_X1_written N s) (fun r2 s1 => if r2 = 0 then (some ((-2), s1)) else bd (f_X1_lowest N r2 s1) (fun r4 s3 => itr (fun _ _ => none) (st_X1_tree_19 N r2 r4 (fun  (s7 : Mem) => lt (r2 ^^^ ((1 : Int32) <<< (r4 &&& 31))) (fun v8 => itr (fun _ _ _ _ _ => none) (st_X1_tree_50 N) N v8 r4 0 0 s7))) N 0 s3))
set_option maxRecDepth 20000 in
theorem w_X1_tree_19 {G : Gx} (hG : Gok G ∧ IsG G layC fsoC) {P : Option (Int32 × Mem) → Nat → List (Nat × Value) → List Value → Mem → Prop} (h : Jk G layC fsoC RX1 cX1_tree 5 (some .int) 4 tvI P) (N : Nat) (x1 : Int32) (x2 : Int32) {k39 : Mem → Option (Int32 × Mem)} (hk39 : ∀  (s : Mem), P (k39 s) 39 [(0, .ref (Ga G 111)), (1, .int x1), (2, .int x2)] [] s) {rec : Int32 → Mem → Option (Int32 × Mem)} (ih : ∀ (x3 : Int32) (s : Mem), P (rec x3 s) 19 [(0, .ref (Ga G 111)), (1, .int x1), (2, .int x2), (3, .int x3)] [] s) : ∀ (x3 : Int32) (s : Mem), P (st_X1_tree_19 N x1 x2 k39 rec x3 s) 19 [(0, .ref (Ga G 111)), (1, .int x1), (2, .int x2), (3, .int x3)] [] s := by
  intro x3 s0
  unfold st_X1_tree_19
  refine jx_iload_n h dX1_tree_19 rfl 3 rfl ?_
  refine jx_bipush h dX1_tree_20 kb_6 ?_
  refine jx_icmp_ge (tgt := 39) h dX1_tree_22 rfl ?_ ?_
  · exact jx_subk [0, 1, 2] h (hk39 s0) rfl
  · refine jx_aload_n h dX1_tree_25 rfl 0 rfl ?_
    refine jx_get (v := .ref (Ga G 121)) h fa_X1_23 lc_111 dX1_tree_26 rfl ?_
    refine jx_iload_n h dX1_tree_29 rfl 3 rfl ?_
    refine jx_bipush h dX1_tree_30 kb_40 ?_
    refine jx_iastore h lc_121 dX1_tree_32 (fun s5 => ?_)
    refine jx_iincl (L := fun w => [(3, .int w), (0, .ref (Ga G 111)), (1, .int x1), (2, .int x2)]) h dX1_tree_33 3 rfl (kn_1 _) (Nat.le_of_ble_eq_true rfl) (fun _ => rfl) (fun x3_6 => ?_)
    refine jx_goto (tgt := 19) h dX1_tree_36 rfl ?_
    exact jx_subk [1, 2, 3, 0] h (ih x3_6 s5) rfl
set_option maxRecDepth 20000 in
theorem w_X1_tree_50 {G : Gx} (hG : Gok G ∧ IsG G layC fsoC) {P : Option (Int32 × Mem) → Nat → List (Nat × Value) → List Value → Mem → Prop} (h : Jk G layC fsoC RX1 cX1_tree 5 (some .int) 4 tvI P) (N : Nat) {rec : Int32 → Int32 → Int32 → Int32 → Mem → Option (Int32 × Mem)} (ih : ∀ (x1 : Int32) (x2 : Int32) (x3 : Int32) (x4 : Int32) (s : Mem), P (rec x1 x2 x3 x4 s) 50 [(0, .ref (Ga G 111)), (1, .int x1), (2, .int x2), (3, .int x3), (4, .int x4)] [] s) : ∀ (x1 : Int32) (x2 : Int32) (x3 : Int32) (x4 : Int32) (s : Mem), P (st_X1_tree_50 N rec x1 x2 x3 x4 s) 50 [(0, .ref (Ga G 111)), (1, .int x1), (2, .int x2), (3, .int x3), (4, .int x4)] [] s := by
  intro x1 x2 x3 x4 s0
  unfold st_X1_tree_50
  refine jx_iload h dX1_tree_50 4 rfl ?_
  refine jx_bipush h dX1_tree_52 kb_6 ?_
  refine jx_icmp_ge (tgt := 89) h dX1_tree_54 rfl ?_ ?_
  · refine jx_iload_n h dX1_tree_89 rfl 3 rfl ?_
    exact jx_iret h dX1_tree_90
  · refine jx_iload_n h dX1_tree_57 rfl 1 rfl ?_
    refine jx_if_eq (tgt := 89) h dX1_tree_58 rfl ?_ ?_
    · refine jx_iload_n h dX1_tree_89 rfl 3 rfl ?_
      exact jx_iret h dX1_tree_90
    · refine jx_aload_n h dX1_tree_61 rfl 0 rfl ?_
      refine jx_iload_n h dX1_tree_62 rfl 1 rfl ?_
      refine jx_iload_n h dX1_tree_63 rfl 2 rfl ?_
      refine jx_callVi [] h lc_111 (c_X1_nearestOf hG N x1 x2 s0) ml_X1_61 (Nat.le_of_ble_eq_true rfl) (Nat.le_of_ble_eq_true rfl) dX1_tree_64 (Nat.le_of_ble_eq_true rfl) rfl (fun r10 s9 => ?_)
      refine jx_istore_n (lv' := [(2, .int r10), (0, .ref (Ga G 111)), (1, .int x1), (3, .int x3), (4, .int x4)]) h dX1_tree_67 rfl (Nat.le_of_ble_eq_true rfl) rfl ?_
      refine jx_iload_n h dX1_tree_68 rfl 2 rfl ?_
      refine jx_iconst h dX1_tree_69 ki_1 ?_
      refine jx_iload_n h dX1_tree_70 rfl 0 rfl ?_
      refine jx_ishl h dX1_tree_71 ?_
      refine jx_ixor h dX1_tree_72 ?_
      refine jx_lti (fun v11 => ?_)
      refine jx_istore_n (lv' := [(1, .int v11), (2, .int r10), (0, .ref (Ga G 111)), (3, .int x3), (4, .int x4)]) h dX1_tree_73 rfl (Nat.le_of_ble_eq_true rfl) rfl ?_
      refine jx_iload_n h dX1_tree_74 rfl 3 rfl ?_
      refine jx_aload_n h dX1_tree_75 rfl 2 rfl ?_
      refine jx_get (v := .ref (Ga G 121)) h fa_X1_23 lc_111 dX1_tree_76 rfl ?_
      refine jx_iload_n h dX1_tree_79 rfl 1 rfl ?_
      refine jx_iaload h lc_121 dX1_tree_80 ?_
      refine jx_iadd h dX1_tree_81 ?_
      refine jx_lti (fun v12 => ?_)
      refine jx_istore_n (lv' := [(3, .int v12), (1, .int v11), (2, .int r10), (0, .ref (Ga G 111)), (4, .int x4)]) h dX1_tree_82 rfl (Nat.le_of_ble_eq_true rfl) rfl ?_
      refine jx_iincl (L := fun w => [(4, .int w), (3, .int v12), (1, .int v11), (2, .int r10), (0, .ref (Ga G 111))]) h dX1_tree_83 4 rfl (kn_1 _) (Nat.le_of_ble_eq_true rfl) (fun _ => rfl) (fun x4_13 => ?_)
      refine jx_goto (tgt := 50) h dX1_tree_86 rfl ?_
      exact jx_subk [4, 2, 3, 1, 0] h (ih v11 r10 v12 x4_13 s9) rfl
set_option maxRecDepth 20000 in
theorem c_X1_tree {G : Gx} (hG : Gok G ∧ IsG G layC fsoC) (N : Nat)  (s : Mem) : Ct G yX1_tree cX1_tree 5 (some .int) 4 [.ref (Ga G 111)] tvI s (f_X1_tree N s) := by
  refine Ct.of hG (by decide) (Nat.le_of_ble_eq_true rfl) (fun P h => ?_)
  show P _ 0 [(0, .ref (Ga G 111))] [] s
  unfold f_X1_tree
  refine jx_aload_n h dX1_tree_0 rfl 0 rfl ?_
  refine jx_callVi [] h lc_111 (c_X1_written hG N  s) ml_X1_53 (Nat.le_of_ble_eq_true rfl) (Nat.le_of_ble_eq_true rfl) dX1_tree_1 (Nat.le_of_ble_eq_true rfl) rfl (fun r2 s1 => ?_)
  refine jx_istore_n (lv' := [(1, .int r2), (0, .ref (Ga G 111))]) h dX1_tree_4 rfl (Nat.le_of_ble_eq_true rfl) rfl ?_
  refine jx_iload_n h dX1_tree_5 rfl 0 rfl ?_
  refine jx_if_ne (tgt := 12) h dX1_tree_6 rfl ?_ ?_
  · refine jx_iload_n h dX1_tree_12 rfl 0 rfl ?_
    refine jx_callSi [] h (c_X1_lowest hG N r2 s1) ml_X1_57 (Nat.le_of_ble_eq_true rfl) (Nat.le_of_ble_eq_true rfl) dX1_tree_13 (Nat.le_of_ble_eq_true rfl) rfl (fun r4 s3 => ?_)
    refine jx_istore_n (lv' := [(2, .int r4), (1, .int r2), (0, .ref (Ga G 111))]) h dX1_tree_16 rfl (Nat.le_of_ble_eq_true rfl) rfl ?_
    refine jx_iconst h dX1_tree_17 ki_0 ?_
    refine jx_istore_n (lv' := [(3, .int 0), (2, .int r4), (1, .int r2), (0, .ref (Ga G 111))]) h dX1_tree_18 rfl (Nat.le_of_ble_eq_true rfl) rfl ?_
    refine jx_subk [3, 2, 1, 0] h (itr_ind (Q := (fun (f : Int32 → Mem → Option (Int32 × Mem)) => ∀ (x3 : Int32) (s : Mem), P (f x3 s) 19 [(0, .ref (Ga G 111)), (1, .int r2), (2, .int r4), (3, .int x3)] [] s)) (fun _ _ => jx_none h) (fun r19 ih19 => ?_) N 0 s3) rfl
    refine w_X1_tree_19 hG h N r2 r4 ?_ ih19
    intro s7
    refine jx_iconst h dX1_tree_39 ki_0 ?_
    refine jx_istore_n (lv' := [(3, .int 0), (0, .ref (Ga G 111)), (1, .int r2), (2, .int r4)]) h dX1_tree_40 rfl (Nat.le_of_ble_eq_true rfl) rfl ?_
    refine jx_iload_n h dX1_tree_41 rfl 2 rfl ?_
    refine jx_iconst h dX1_tree_42 ki_1 ?_
    refine jx_iload_n h dX1_tree_43 rfl 3 rfl ?_
    refine jx_ishl h dX1_tree_44 ?_
    refine jx_ixor h dX1_tree_45 ?_
    refine jx_lti (fun v8 => ?_)
    refine jx_istore_n (lv' := [(1, .int v8), (3, .int 0), (0, .ref (Ga G 111)), (2, .int r4)]) h dX1_tree_46 rfl (Nat.le_of_ble_eq_true rfl) rfl ?_
    refine jx_iconst h dX1_tree_47 ki_0 ?_
    refine jx_istore (lv' := [(4, .int 0), (1, .int v8), (3, .int 0), (0, .ref (Ga G 111)), (2, .int r4)]) h dX1_tree_48 (Nat.le_of_ble_eq_true rfl) rfl ?_
    refine jx_subk [3, 1, 4, 2, 0] h (itr_ind (Q := (fun (f : Int32 → Int32 → Int32 → Int32 → Mem → Option (Int32 × Mem)) => ∀ (x1 : Int32) (x2 : Int32) (x3 : Int32) (x4 : Int32) (s : Mem), P (f x1 x2 x3 x4 s) 50 [(0, .ref (Ga G 111)), (1, .int x1), (2, .int x2), (3, .int x3), (4, .int x4)] [] s)) (fun _ _ _ _ _ => jx_none h) (fun r50 ih50 => ?_) N v8 r4 0 0 s7) rfl
    refine w_X1_tree_50 hG h N   ih50
  · refine jx_bipush h dX1_tree_9 kb_m2 ?_
    exact jx_iret h dX1_tree_11
noncomputable def st_X1_partAt_19 (N : Nat) (x1 : Int32) (x2 : Int32) (x3 : Int32) (k62 : Mem → Option (Int32 × Mem)) (rec : Int32 → Mem → Option (Int32 × Mem)) (x4 : Int32) (s0 : Mem) : Option (Int32 × Mem) :=
  if x3 ≤ x4 then (k62 s0) else if 40 ≤ x4 then (k62 s0) else chk x1 6 (chk x4 40 (chk x2 6 (chk x4 40 (if (gi s0 (112 + 1 + ix x1) (ix x4)) = (gi s0 (112 + 1 + ix x2) (ix x4)) then (lt (x4 + 1) (fun x4_4 => rec x4_4 s0)) else some (x4, s0)))))
noncomputable def f_X1_partAt (N : Nat) (x1 : Int32) (x2 : Int32) (s : Mem) : Option (Int32 × Mem) :=
  chk x1 6 (chk x2 6 (lt (imin (gi s 119 (ix x1)) (gi s 119 (ix x2))) (fun v1 => itr (fun _ _ => none) (st_X1_partAt_19 N x1 x2 v1 (fun  (s5 : Mem) => chk x1 6 (chk x2 6 (if (gi s5 119 (ix x1)) = (gi s5 119 (ix x2)) then (some ((-2), s5)) else some (v1, s5))))) N 0 s)))
set_option maxRecDepth 20000 in
theorem w_X1_partAt_19 {G : Gx} (hG : Gok G ∧ IsG G layC fsoC) {P : Option (Int32 × Mem) → Nat → List (Nat × Value) → List Value → Mem → Prop} (h : Jk G layC fsoC RX1 cX1_partAt 5 (some .int) 1 tvI P) (N : Nat) (x1 : Int32) (x2 : Int32) (x3 : Int32) {k62 : Mem → Option (Int32 × Mem)} (hk62 : ∀  (s : Mem), P (k62 s) 62 [(0, .ref (Ga G 111)), (1, .int x1), (2, .int x2), (3, .int x3)] [] s) {rec : Int32 → Mem → Option (Int32 × Mem)} (ih : ∀ (x4 : Int32) (s : Mem), P (rec x4 s) 19 [(0, .ref (Ga G 111)), (1, .int x1), (2, .int x2), (3, .int x3), (4, .int x4)] [] s) : ∀ (x4 : Int32) (s : Mem), P (st_X1_partAt_19 N x1 x2 x3 k62 rec x4 s) 19 [(0, .ref (Ga G 111)), (1, .int x1), (2, .int x2), (3, .int x3), (4, .int x4)] [] s := by
  intro x4 s0
  unfold st_X1_partAt_19
  refine jx_iload h dX1_partAt_19 4 rfl ?_
  refine jx_iload_n h dX1_partAt_21 rfl 3 rfl ?_
  refine jx_icmp_ge (tgt := 62) h dX1_partAt_22 rfl ?_ ?_
  · exact jx_subk [0, 1, 2, 3] h (hk62 s0) rfl
  · refine jx_iload h dX1_partAt_25 4 rfl ?_
    refine jx_bipush h dX1_partAt_27 kb_40 ?_
    refine jx_icmp_ge (tgt := 62) h dX1_partAt_29 rfl ?_ ?_
    · exact jx_subk [0, 1, 2, 3] h (hk62 s0) rfl
    · refine jx_aload_n h dX1_partAt_32 rfl 0 rfl ?_
      refine jx_get (v := .ref (Ga G 112)) h fa_X1_13 lc_111 dX1_partAt_33 rfl ?_
      refine jx_iload_n h dX1_partAt_36 rfl 1 rfl ?_
      refine jx_aaload h lc_112 dX1_partAt_37 (fun hr2 => ?_)
      refine jx_iload h dX1_partAt_38 4 rfl ?_
      refine jx_iaload h (lr_112 hr2) dX1_partAt_40 ?_
      refine jx_aload_n h dX1_partAt_41 rfl 0 rfl ?_
      refine jx_get (v := .ref (Ga G 112)) h fa_X1_13 lc_111 dX1_partAt_42 rfl ?_
      refine jx_iload_n h dX1_partAt_45 rfl 2 rfl ?_
      refine jx_aaload h lc_112 dX1_partAt_46 (fun hr3 => ?_)
      refine jx_iload h dX1_partAt_47 4 rfl ?_
      refine jx_iaload h (lr_112 hr3) dX1_partAt_49 ?_
      refine jx_icmp_eq (tgt := 56) h dX1_partAt_50 rfl ?_ ?_
      · refine jx_iincl (L := fun w => [(4, .int w), (0, .ref (Ga G 111)), (1, .int x1), (2, .int x2), (3, .int x3)]) h dX1_partAt_56 4 rfl (kn_1 _) (Nat.le_of_ble_eq_true rfl) (fun _ => rfl) (fun x4_4 => ?_)
        refine jx_goto (tgt := 19) h dX1_partAt_59 rfl ?_
        exact jx_subk [1, 2, 3, 4, 0] h (ih x4_4 s0) rfl
      · refine jx_iload h dX1_partAt_53 4 rfl ?_
        exact jx_iret h dX1_partAt_55
set_option maxRecDepth 20000 in
theorem c_X1_partAt {G : Gx} (hG : Gok G ∧ IsG G layC fsoC) (N : Nat) (x1 : Int32) (x2 : Int32) (s : Mem) : Ct G yX1_partAt cX1_partAt 5 (some .int) 1 [.ref (Ga G 111), .int x1, .int x2] tvI s (f_X1_partAt N x1 x2 s) := by
  refine Ct.of hG (by decide) (Nat.le_of_ble_eq_true rfl) (fun P h => ?_)
  show P _ 0 [(0, .ref (Ga G 111)), (1, .int x1), (2, .int x2)] [] s
  unfold f_X1_partAt
  refine jx_aload_n h dX1_partAt_0 rfl 0 rfl ?_
  refine jx_get (v := .ref (Ga G 119)) h fa_X1_16 lc_111 dX1_partAt_1 rfl ?_
  refine jx_iload_n h dX1_partAt_4 rfl 1 rfl ?_
  refine jx_iaload h lc_119 dX1_partAt_5 ?_
  refine jx_aload_n h dX1_partAt_6 rfl 0 rfl ?_
  refine jx_get (v := .ref (Ga G 119)) h fa_X1_16 lc_111 dX1_partAt_7 rfl ?_
  refine jx_iload_n h dX1_partAt_10 rfl 2 rfl ?_
  refine jx_iaload h lc_119 dX1_partAt_11 ?_
  refine jx_mmin h mm_X1_26 (Nat.le_of_ble_eq_true rfl) (Nat.le_of_ble_eq_true rfl) dX1_partAt_12 ?_
  refine jx_lti (fun v1 => ?_)
  refine jx_istore_n (lv' := [(3, .int v1), (0, .ref (Ga G 111)), (1, .int x1), (2, .int x2)]) h dX1_partAt_15 rfl (Nat.le_of_ble_eq_true rfl) rfl ?_
  refine jx_iconst h dX1_partAt_16 ki_0 ?_
  refine jx_istore (lv' := [(4, .int 0), (3, .int v1), (0, .ref (Ga G 111)), (1, .int x1), (2, .int x2)]) h dX1_partAt_17 (Nat.le_of_ble_eq_true rfl) rfl ?_
  refine jx_subk [2, 3, 4, 1, 0] h (itr_ind (Q := (fun (f : Int32 → Mem → Option (Int32 × Mem)) => ∀ (x4 : Int32) (s : Mem), P (f x4 s) 19 [(0, .ref (Ga G 111)), (1, .int x1), (2, .int x2), (3, .int v1), (4, .int x4)] [] s)) (fun _ _ => jx_none h) (fun r19 ih19 => ?_) N 0 s) rfl
  refine w_X1_partAt_19 hG h N x1 x2 v1 ?_ ih19
  intro s5
  refine jx_aload_n h dX1_partAt_62 rfl 0 rfl ?_
  refine jx_get (v := .ref (Ga G 119)) h fa_X1_16 lc_111 dX1_partAt_63 rfl ?_
  refine jx_iload_n h dX1_partAt_66 rfl 1 rfl ?_
  refine jx_iaload h lc_119 dX1_partAt_67 ?_
  refine jx_aload_n h dX1_partAt_68 rfl 0 rfl ?_
  refine jx_get (v := .ref (Ga G 119)) h fa_X1_16 lc_111 dX1_partAt_69 rfl ?_
  refine jx_iload_n h dX1_partAt_72 rfl 2 rfl ?_
  refine jx_iaload h lc_119 dX1_partAt_73 ?_
  refine jx_icmp_ne (tgt := 82) h dX1_partAt_74 rfl ?_ ?_
  · refine jx_iload_n h dX1_partAt_82 rfl 3 rfl ?_
    exact jx_iret h dX1_partAt_83
  · refine jx_bipush h dX1_partAt_77 kb_m2 ?_
    refine jx_goto (tgt := 83) h dX1_partAt_79 rfl ?_
    exact jx_iret h dX1_partAt_83
