noncomputable def st_X10_laysText_9 (N : Nat) (x1 : Int32) (x2 : Int32)  (rec : Int32 → Mem → Option (Unit × Mem)) (x3 : Int32) (s0 : Mem) : Option (Unit × Mem) :=
  if x2 ≤ x3 then (some ((), s0)) else chk x3 260 (chk (((40 : Int32) * x1) + x3) 280 (lt (si s0 33 (ix (((40 : Int32) * x1) + x3)) (gi s0 5 (ix x3)).toInt8.toInt32) (fun s2 => lt (x3 + 1) (fun x3_3 => rec x3_3 s2))))
noncomputable def f_X10_laysText (N : Nat) (x1 : Int32) (x2 : Int32) (s : Mem) : Option (Unit × Mem) :=
  chk x1 7 (lt (si s 34 (ix x1) x2) (fun s1 => itr (fun _ _ => none) (st_X10_laysText_9 N x1 x2) N 0 s1))
set_option maxRecDepth 20000 in
theorem w_X10_laysText_9 {G : Gx} (hG : Gok G ∧ IsG G layM fsoM) {P : Option (Unit × Mem) → Nat → List (Nat × Value) → List Value → Mem → Prop} (h : Jk G layM fsoM RX10 cX10_laysText 4 none 0 tvV P) (N : Nat) (x1 : Int32) (x2 : Int32) {rec : Int32 → Mem → Option (Unit × Mem)} (ih : ∀ (x3 : Int32) (s : Mem), P (rec x3 s) 9 [(0, .ref (Ga G 0)), (1, .int x1), (2, .int x2), (3, .int x3)] [] s) : ∀ (x3 : Int32) (s : Mem), P (st_X10_laysText_9 N x1 x2 rec x3 s) 9 [(0, .ref (Ga G 0)), (1, .int x1), (2, .int x2), (3, .int x3)] [] s := by
  intro x3 s0
  unfold st_X10_laysText_9
  refine jx_iload_n h dX10_laysText_9 rfl 3 rfl ?_
  refine jx_iload_n h dX10_laysText_10 rfl 2 rfl ?_
  refine jx_icmp_ge (tgt := 37) h dX10_laysText_11 rfl ?_ ?_
  · exact jx_vret h dX10_laysText_37
  · refine jx_aload_n h dX10_laysText_14 rfl 0 rfl ?_
    refine jx_get (v := .ref (Ga G 33)) h fa_X10_107 lm_0 dX10_laysText_15 rfl ?_
    refine jx_bipush h dX10_laysText_18 kb_40 ?_
    refine jx_iload_n h dX10_laysText_20 rfl 1 rfl ?_
    refine jx_imul h dX10_laysText_21 ?_
    refine jx_iload_n h dX10_laysText_22 rfl 3 rfl ?_
    refine jx_iadd h dX10_laysText_23 ?_
    refine jx_aload_n h dX10_laysText_24 rfl 0 rfl ?_
    refine jx_get (v := .ref (Ga G 5)) h fa_X10_22 lm_0 dX10_laysText_25 rfl ?_
    refine jx_iload_n h dX10_laysText_28 rfl 3 rfl ?_
    refine jx_baload h lm_5 dX10_laysText_29 ?_
    refine jx_bastore h lm_33 dX10_laysText_30 (fun s2 => ?_)
    refine jx_iincl (L := fun w => [(3, .int w), (0, .ref (Ga G 0)), (1, .int x1), (2, .int x2)]) h dX10_laysText_31 3 rfl (kn_1 _) (Nat.le_of_ble_eq_true rfl) (fun _ => rfl) (fun x3_3 => ?_)
    refine jx_goto (tgt := 9) h dX10_laysText_34 rfl ?_
    exact jx_subk [1, 2, 3, 0] h (ih x3_3 s2) rfl
set_option maxRecDepth 20000 in
theorem c_X10_laysText {G : Gx} (hG : Gok G ∧ IsG G layM fsoM) (N : Nat) (x1 : Int32) (x2 : Int32) (s : Mem) : Ct G yX10_laysText cX10_laysText 4 none 0 [.ref (Ga G 0), .int x1, .int x2] tvV s (f_X10_laysText N x1 x2 s) := by
  refine Ct.of hG (by decide) (Nat.le_of_ble_eq_true rfl) (fun P h => ?_)
  show P _ 0 [(0, .ref (Ga G 0)), (1, .int x1), (2, .int x2)] [] s
  unfold f_X10_laysText
  refine jx_aload_n h dX10_laysText_0 rfl 0 rfl ?_
  refine jx_get (v := .ref (Ga G 34)) h fa_X10_110 lm_0 dX10_laysText_1 rfl ?_
  refine jx_iload_n h dX10_laysText_4 rfl 1 rfl ?_
  refine jx_iload_n h dX10_laysText_5 rfl 2 rfl ?_
  refine jx_iastore h lm_34 dX10_laysText_6 (fun s1 => ?_)
  refine jx_iconst h dX10_laysText_7 ki_0 ?_
  refine jx_istore_n (lv' := [(3, .int 0), (0, .ref (Ga G 0)), (1, .int x1), (2, .int x2)]) h dX10_laysText_8 rfl (Nat.le_of_ble_eq_true rfl) rfl ?_
  refine jx_subk [1, 2, 3, 0] h (itr_ind (Q := (fun (f : Int32 → Mem → Option (Unit × Mem)) => ∀ (x3 : Int32) (s : Mem), P (f x3 s) 9 [(0, .ref (Ga G 0)), (1, .int x1), (2, .int x2), (3, .int x3)] [] s)) (fun _ _ => jx_none h) (fun r9 ih9 => ?_) N 0 s1) rfl
  refine w_X10_laysText_9 hG h N x1 x2  ih9
noncomputable def f_X10_text (N : Nat) (x1 : Int32) (x2 : Int32) (s : Mem) : Option (Int32 × Mem) :=
  bd (f_X10_in N x1 0 5 s) (fun r2 s1 => if r2 = 0 then (some (0, s1)) else bd (f_X10_in N x2 1 40 s1) (fun r4 s3 => if r4 = 0 then (some (0, s3)) else if x2 ≤ (gi s3 0 5) then (bd (f_X10_laysText N x1 x2 s3) (fun _ s5 => lt (si s5 0 5 0) (fun s7 => some (1, s7)))) else some (0, s3)))
set_option maxRecDepth 20000 in
theorem c_X10_text {G : Gx} (hG : Gok G ∧ IsG G layM fsoM) (N : Nat) (x1 : Int32) (x2 : Int32) (s : Mem) : Ct G yX10_text cX10_text 3 (some .boolean) 1 [.ref (Ga G 0), .int x1, .int x2] tvI s (f_X10_text N x1 x2 s) := by
  refine Ct.of hG (by decide) (Nat.le_of_ble_eq_true rfl) (fun P h => ?_)
  show P _ 0 [(0, .ref (Ga G 0)), (1, .int x1), (2, .int x2)] [] s
  unfold f_X10_text
  refine jx_iload_n h dX10_text_0 rfl 1 rfl ?_
  refine jx_iconst h dX10_text_1 ki_0 ?_
  refine jx_iconst h dX10_text_2 ki_5 ?_
  refine jx_callSi [] h (c_X10_in hG N x1 0 5 s) ml_X10_134 (Nat.le_of_ble_eq_true rfl) (Nat.le_of_ble_eq_true rfl) dX10_text_3 (Nat.le_of_ble_eq_true rfl) rfl (fun r2 s1 => ?_)
  refine jx_if_eq (tgt := 27) h dX10_text_6 rfl ?_ ?_
  · refine jx_iconst h dX10_text_27 ki_0 ?_
    exact jx_zret h rfl dX10_text_28
  · refine jx_iload_n h dX10_text_9 rfl 2 rfl ?_
    refine jx_iconst h dX10_text_10 ki_1 ?_
    refine jx_bipush h dX10_text_11 kb_40 ?_
    refine jx_callSi [] h (c_X10_in hG N x2 1 40 s1) ml_X10_134 (Nat.le_of_ble_eq_true rfl) (Nat.le_of_ble_eq_true rfl) dX10_text_13 (Nat.le_of_ble_eq_true rfl) rfl (fun r4 s3 => ?_)
    refine jx_if_eq (tgt := 27) h dX10_text_16 rfl ?_ ?_
    · refine jx_iconst h dX10_text_27 ki_0 ?_
      exact jx_zret h rfl dX10_text_28
    · refine jx_iload_n h dX10_text_19 rfl 2 rfl ?_
      refine jx_aload_n h dX10_text_20 rfl 0 rfl ?_
      refine jx_get (v := .int (gi s3 0 5)) h fa_X10_150 lm_0 dX10_text_21 rfl ?_
      refine jx_icmp_le (tgt := 29) h dX10_text_24 rfl ?_ ?_
      · refine jx_aload_n h dX10_text_29 rfl 0 rfl ?_
        refine jx_iload_n h dX10_text_30 rfl 1 rfl ?_
        refine jx_iload_n h dX10_text_31 rfl 2 rfl ?_
        refine jx_callVv [] h lm_0 (c_X10_laysText hG N x1 x2 s3) ml_X10_382 (Nat.le_of_ble_eq_true rfl) (Nat.le_of_ble_eq_true rfl) dX10_text_32 (Nat.le_of_ble_eq_true rfl) rfl (fun s5 => ?_)
        refine jx_aload_n h dX10_text_35 rfl 0 rfl ?_
        refine jx_iconst h dX10_text_36 ki_0 ?_
        refine jx_put h fa_X10_150 fp_X10_5 lm_0 rfl rfl dX10_text_37 (fu_X10_5 _ _ _ _) (fun s7 => ?_)
        refine jx_iconst h dX10_text_40 ki_1 ?_
        exact jx_zret h rfl dX10_text_41
      · refine jx_iconst h dX10_text_27 ki_0 ?_
        exact jx_zret h rfl dX10_text_28
noncomputable def st_X10_farFrom_2 (N : Nat) (x1 : Int32) (x2 : Int32) (k25 : Mem → Option (Int32 × Mem)) (rec : Int32 → Mem → Option (Int32 × Mem)) (x3 : Int32) (s0 : Mem) : Option (Int32 × Mem) :=
  chk x2 7 (if (gi s0 34 (ix x2)) < x3 then (k25 s0) else chk x3 41 (lt (si s0 35 (ix x3) x3) (fun s1 => lt (x3 + 1) (fun x3_2 => rec x3_2 s1))))
noncomputable def st_X10_farFrom_47 (N : Nat) (x1 : Int32) (x2 : Int32) (x3 : Int32) (k144 : Mem → Option (Int32 × Mem)) (rec : Int32 → Mem → Option (Int32 × Mem)) (x4 : Int32) (s0 : Mem) : Option (Int32 × Mem) :=
  chk x2 7 (if (gi s0 34 (ix x2)) < x4 then (k144 s0) else chk (x4 - 1) 41 (chk ((((40 : Int32) * x1) + x3) - 1) 280 (chk ((((40 : Int32) * x2) + x4) - 1) 280 (lt (fun (t6 : Int32) (s5 : Mem) => lt ((gi s0 35 (ix (x4 - 1))) + t6) (fun v7 => chk x4 41 (chk (x4 - 1) 41 (bd (f_X10_min N (gi s5 35 (ix x4)) (gi s5 36 (ix (x4 - 1))) s5) (fun r9 s8 => bd (f_X10_min N v7 ((1 : Int32) + r9) s8) (fun r11 s10 => chk x4 41 (lt (si s10 36 (ix x4) r11) (fun s12 => lt (x4 + 1) (fun x4_13 => rec x4_13 s12))))))))) (fun j102 => if (gi s0 33 (ix ((((40 : Int32) * x1) + x3) - 1))) = (gi s0 33 (ix ((((40 : Int32) * x2) + x4) - 1))) then (j102 0 s0) else j102 1 s0)))))
noncomputable def st_X10_farFrom_147 (N : Nat) (x1 : Int32) (x2 : Int32) (x3 : Int32) (k178 : Mem → Option (Int32 × Mem)) (rec : Int32 → Mem → Option (Int32 × Mem)) (x4 : Int32) (s0 : Mem) : Option (Int32 × Mem) :=
  chk x2 7 (if (gi s0 34 (ix x2)) < x4 then (k178 s0) else chk x4 41 (chk x4 41 (lt (si s0 35 (ix x4) (gi s0 36 (ix x4))) (fun s15 => lt (x4 + 1) (fun x4_16 => rec x4_16 s15)))))
noncomputable def st_X10_farFrom_27 (N : Nat) (x1 : Int32) (x2 : Int32)  (rec : Int32 → Mem → Option (Int32 × Mem)) (x3 : Int32) (s0 : Mem) : Option (Int32 × Mem) :=
  chk x1 7 (if (gi s0 34 (ix x1)) < x3 then (chk x2 7 (chk (gi s0 34 (ix x2)) 41 (some (gi s0 35 (ix (gi s0 34 (ix x2))), s0)))) else chk 0 41 (lt (si s0 36 (ix (0 : Int32)) x3) (fun s4 => itr (fun _ _ => none) (st_X10_farFrom_47 N x1 x2 x3 (fun  (s14 : Mem) => itr (fun _ _ => none) (st_X10_farFrom_147 N x1 x2 x3 (fun  (s17 : Mem) => lt (x3 + 1) (fun x3_18 => rec x3_18 s17))) N 0 s14)) N 1 s4)))
noncomputable def f_X10_farFrom (N : Nat) (x1 : Int32) (x2 : Int32) (s : Mem) : Option (Int32 × Mem) :=
  itr (fun _ _ => none) (st_X10_farFrom_2 N x1 x2 (fun  (s3 : Mem) => itr (fun _ _ => none) (st_X10_farFrom_27 N x1 x2) N 1 s3)) N 0 s
set_option maxRecDepth 20000 in
theorem w_X10_farFrom_2 {G : Gx} (hG : Gok G ∧ IsG G layM fsoM) {P : Option (Int32 × Mem) → Nat → List (Nat × Value) → List Value → Mem → Prop} (h : Jk G layM fsoM RX10 cX10_farFrom 6 (some .int) 1 tvI P) (N : Nat) (x1 : Int32) (x2 : Int32) {k25 : Mem → Option (Int32 × Mem)} (hk25 : ∀  (s : Mem), P (k25 s) 25 [(0, .ref (Ga G 0)), (1, .int x1), (2, .int x2)] [] s) {rec : Int32 → Mem → Option (Int32 × Mem)} (ih : ∀ (x3 : Int32) (s : Mem), P (rec x3 s) 2 [(0, .ref (Ga G 0)), (1, .int x1), (2, .int x2), (3, .int x3)] [] s) : ∀ (x3 : Int32) (s : Mem), P (st_X10_farFrom_2 N x1 x2 k25 rec x3 s) 2 [(0, .ref (Ga G 0)), (1, .int x1), (2, .int x2), (3, .int x3)] [] s := by
  intro x3 s0
  unfold st_X10_farFrom_2
  refine jx_iload_n h dX10_farFrom_2 rfl 3 rfl ?_
  refine jx_aload_n h dX10_farFrom_3 rfl 0 rfl ?_
  refine jx_get (v := .ref (Ga G 34)) h fa_X10_110 lm_0 dX10_farFrom_4 rfl ?_
  refine jx_iload_n h dX10_farFrom_7 rfl 2 rfl ?_
  refine jx_iaload h lm_34 dX10_farFrom_8 ?_
  refine jx_icmp_gt (tgt := 25) h dX10_farFrom_9 rfl ?_ ?_
  · exact jx_subk [0, 1, 2] h (hk25 s0) rfl
  · refine jx_aload_n h dX10_farFrom_12 rfl 0 rfl ?_
    refine jx_get (v := .ref (Ga G 35)) h fa_X10_113 lm_0 dX10_farFrom_13 rfl ?_
    refine jx_iload_n h dX10_farFrom_16 rfl 3 rfl ?_
    refine jx_iload_n h dX10_farFrom_17 rfl 3 rfl ?_
    refine jx_iastore h lm_35 dX10_farFrom_18 (fun s1 => ?_)
    refine jx_iincl (L := fun w => [(3, .int w), (0, .ref (Ga G 0)), (1, .int x1), (2, .int x2)]) h dX10_farFrom_19 3 rfl (kn_1 _) (Nat.le_of_ble_eq_true rfl) (fun _ => rfl) (fun x3_2 => ?_)
    refine jx_goto (tgt := 2) h dX10_farFrom_22 rfl ?_
    exact jx_subk [1, 2, 3, 0] h (ih x3_2 s1) rfl
set_option maxRecDepth 20000 in
theorem w_X10_farFrom_47 {G : Gx} (hG : Gok G ∧ IsG G layM fsoM) {P : Option (Int32 × Mem) → Nat → List (Nat × Value) → List Value → Mem → Prop} (h : Jk G layM fsoM RX10 cX10_farFrom 6 (some .int) 1 tvI P) (N : Nat) (x1 : Int32) (x2 : Int32) (x3 : Int32) {k144 : Mem → Option (Int32 × Mem)} (hk144 : ∀  (s : Mem), P (k144 s) 144 [(0, .ref (Ga G 0)), (1, .int x1), (2, .int x2), (3, .int x3)] [] s) {rec : Int32 → Mem → Option (Int32 × Mem)} (ih : ∀ (x4 : Int32) (s : Mem), P (rec x4 s) 47 [(0, .ref (Ga G 0)), (1, .int x1), (2, .int x2), (3, .int x3), (4, .int x4)] [] s) : ∀ (x4 : Int32) (s : Mem), P (st_X10_farFrom_47 N x1 x2 x3 k144 rec x4 s) 47 [(0, .ref (Ga G 0)), (1, .int x1), (2, .int x2), (3, .int x3), (4, .int x4)] [] s := by
  intro x4 s0
  unfold st_X10_farFrom_47
  refine jx_iload h dX10_farFrom_47 4 rfl ?_
  refine jx_aload_n h dX10_farFrom_49 rfl 0 rfl ?_
  refine jx_get (v := .ref (Ga G 34)) h fa_X10_110 lm_0 dX10_farFrom_50 rfl ?_
  refine jx_iload_n h dX10_farFrom_53 rfl 2 rfl ?_
  refine jx_iaload h lm_34 dX10_farFrom_54 ?_
  refine jx_icmp_gt (tgt := 144) h dX10_farFrom_55 rfl ?_ ?_
  · exact jx_subk [0, 1, 2, 3] h (hk144 s0) rfl
  · refine jx_aload_n h dX10_farFrom_58 rfl 0 rfl ?_
    refine jx_get (v := .ref (Ga G 35)) h fa_X10_113 lm_0 dX10_farFrom_59 rfl ?_
    refine jx_iload h dX10_farFrom_62 4 rfl ?_
    refine jx_iconst h dX10_farFrom_64 ki_1 ?_
    refine jx_isub h dX10_farFrom_65 ?_
    refine jx_iaload h lm_35 dX10_farFrom_66 ?_
    refine jx_aload_n h dX10_farFrom_67 rfl 0 rfl ?_
    refine jx_get (v := .ref (Ga G 33)) h fa_X10_107 lm_0 dX10_farFrom_68 rfl ?_
    refine jx_bipush h dX10_farFrom_71 kb_40 ?_
    refine jx_iload_n h dX10_farFrom_73 rfl 1 rfl ?_
    refine jx_imul h dX10_farFrom_74 ?_
    refine jx_iload_n h dX10_farFrom_75 rfl 3 rfl ?_
    refine jx_iadd h dX10_farFrom_76 ?_
    refine jx_iconst h dX10_farFrom_77 ki_1 ?_
    refine jx_isub h dX10_farFrom_78 ?_
    refine jx_baload h lm_33 dX10_farFrom_79 ?_
    refine jx_aload_n h dX10_farFrom_80 rfl 0 rfl ?_
    refine jx_get (v := .ref (Ga G 33)) h fa_X10_107 lm_0 dX10_farFrom_81 rfl ?_
    refine jx_bipush h dX10_farFrom_84 kb_40 ?_
    refine jx_iload_n h dX10_farFrom_86 rfl 2 rfl ?_
    refine jx_imul h dX10_farFrom_87 ?_
    refine jx_iload h dX10_farFrom_88 4 rfl ?_
    refine jx_iadd h dX10_farFrom_90 ?_
    refine jx_iconst h dX10_farFrom_91 ki_1 ?_
    refine jx_isub h dX10_farFrom_92 ?_
    refine jx_baload h lm_33 dX10_farFrom_93 ?_
    refine jx_join (fun (j : Int32 → Mem → Option (Int32 × Mem)) => ∀ (t6 : Int32) (s5 : Mem), P (j t6 s5) 102 [(0, .ref (Ga G 0)), (1, .int x1), (2, .int x2), (3, .int x3), (4, .int x4)] [.int t6, .int (gi s0 35 (ix (x4 - 1)))] s5) (fun t6 s5 => ?_) (fun j102 hj102 => ?_)
    · refine jx_iadd h dX10_farFrom_102 ?_
      refine jx_lti (fun v7 => ?_)
      refine jx_istore (lv' := [(5, .int v7), (0, .ref (Ga G 0)), (1, .int x1), (2, .int x2), (3, .int x3), (4, .int x4)]) h dX10_farFrom_103 (Nat.le_of_ble_eq_true rfl) rfl ?_
      refine jx_aload_n h dX10_farFrom_105 rfl 1 rfl ?_
      refine jx_get (v := .ref (Ga G 36)) h fa_X10_116 lm_0 dX10_farFrom_106 rfl ?_
      refine jx_iload h dX10_farFrom_109 5 rfl ?_
      refine jx_iload h dX10_farFrom_111 0 rfl ?_
      refine jx_iconst h dX10_farFrom_113 ki_1 ?_
      refine jx_aload_n h dX10_farFrom_114 rfl 1 rfl ?_
      refine jx_get (v := .ref (Ga G 35)) h fa_X10_113 lm_0 dX10_farFrom_115 rfl ?_
      refine jx_iload h dX10_farFrom_118 5 rfl ?_
      refine jx_iaload h lm_35 dX10_farFrom_120 ?_
      refine jx_aload_n h dX10_farFrom_121 rfl 1 rfl ?_
      refine jx_get (v := .ref (Ga G 36)) h fa_X10_116 lm_0 dX10_farFrom_122 rfl ?_
      refine jx_iload h dX10_farFrom_125 5 rfl ?_
      refine jx_iconst h dX10_farFrom_127 ki_1 ?_
      refine jx_isub h dX10_farFrom_128 ?_
      refine jx_iaload h lm_36 dX10_farFrom_129 ?_
      refine jx_callSi [.int 1, .int v7, .int x4, .ref (Ga G 36)] h (c_X10_min hG N (gi s5 35 (ix x4)) (gi s5 36 (ix (x4 - 1))) s5) ml_X10_271 (Nat.le_of_ble_eq_true rfl) (Nat.le_of_ble_eq_true rfl) dX10_farFrom_130 (Nat.le_of_ble_eq_true rfl) rfl (fun r9 s8 => ?_)
      refine jx_iadd h dX10_farFrom_133 ?_
      refine jx_callSi [.int x4, .ref (Ga G 36)] h (c_X10_min hG N v7 ((1 : Int32) + r9) s8) ml_X10_271 (Nat.le_of_ble_eq_true rfl) (Nat.le_of_ble_eq_true rfl) dX10_farFrom_134 (Nat.le_of_ble_eq_true rfl) rfl (fun r11 s10 => ?_)
      refine jx_iastore h lm_36 dX10_farFrom_137 (fun s12 => ?_)
      refine jx_iincl (L := fun w => [(4, .int w), (5, .int v7), (0, .ref (Ga G 0)), (1, .int x1), (2, .int x2), (3, .int x3)]) h dX10_farFrom_138 5 rfl (kn_1 _) (Nat.le_of_ble_eq_true rfl) (fun _ => rfl) (fun x4_13 => ?_)
      refine jx_goto (tgt := 47) h dX10_farFrom_141 rfl ?_
      exact jx_subk [2, 3, 4, 5, 0] h (ih x4_13 s12) rfl
    · refine jx_icmp_ne (tgt := 101) h dX10_farFrom_94 rfl ?_ ?_
      · refine jx_iconst h dX10_farFrom_101 ki_1 ?_
        exact hj102 1 s0
      · refine jx_iconst h dX10_farFrom_97 ki_0 ?_
        refine jx_goto (tgt := 102) h dX10_farFrom_98 rfl ?_
        exact hj102 0 s0
set_option maxRecDepth 20000 in
theorem w_X10_farFrom_147 {G : Gx} (hG : Gok G ∧ IsG G layM fsoM) {P : Option (Int32 × Mem) → Nat → List (Nat × Value) → List Value → Mem → Prop} (h : Jk G layM fsoM RX10 cX10_farFrom 6 (some .int) 1 tvI P) (N : Nat) (x1 : Int32) (x2 : Int32) (x3 : Int32) {k178 : Mem → Option (Int32 × Mem)} (hk178 : ∀  (s : Mem), P (k178 s) 178 [(0, .ref (Ga G 0)), (1, .int x1), (2, .int x2), (3, .int x3)] [] s) {rec : Int32 → Mem → Option (Int32 × Mem)} (ih : ∀ (x4 : Int32) (s : Mem), P (rec x4 s) 147 [(0, .ref (Ga G 0)), (1, .int x1), (2, .int x2), (3, .int x3), (4, .int x4)] [] s) : ∀ (x4 : Int32) (s : Mem), P (st_X10_farFrom_147 N x1 x2 x3 k178 rec x4 s) 147 [(0, .ref (Ga G 0)), (1, .int x1), (2, .int x2), (3, .int x3), (4, .int x4)] [] s := by
  intro x4 s0
  unfold st_X10_farFrom_147
  refine jx_iload h dX10_farFrom_147 4 rfl ?_
  refine jx_aload_n h dX10_farFrom_149 rfl 0 rfl ?_
  refine jx_get (v := .ref (Ga G 34)) h fa_X10_110 lm_0 dX10_farFrom_150 rfl ?_
  refine jx_iload_n h dX10_farFrom_153 rfl 2 rfl ?_
  refine jx_iaload h lm_34 dX10_farFrom_154 ?_
  refine jx_icmp_gt (tgt := 178) h dX10_farFrom_155 rfl ?_ ?_
  · exact jx_subk [0, 1, 2, 3] h (hk178 s0) rfl
  · refine jx_aload_n h dX10_farFrom_158 rfl 0 rfl ?_
    refine jx_get (v := .ref (Ga G 35)) h fa_X10_113 lm_0 dX10_farFrom_159 rfl ?_
    refine jx_iload h dX10_farFrom_162 4 rfl ?_
    refine jx_aload_n h dX10_farFrom_164 rfl 0 rfl ?_
    refine jx_get (v := .ref (Ga G 36)) h fa_X10_116 lm_0 dX10_farFrom_165 rfl ?_
    refine jx_iload h dX10_farFrom_168 4 rfl ?_
    refine jx_iaload h lm_36 dX10_farFrom_170 ?_
    refine jx_iastore h lm_35 dX10_farFrom_171 (fun s15 => ?_)
    refine jx_iincl (L := fun w => [(4, .int w), (0, .ref (Ga G 0)), (1, .int x1), (2, .int x2), (3, .int x3)]) h dX10_farFrom_172 4 rfl (kn_1 _) (Nat.le_of_ble_eq_true rfl) (fun _ => rfl) (fun x4_16 => ?_)
    refine jx_goto (tgt := 147) h dX10_farFrom_175 rfl ?_
    exact jx_subk [1, 2, 3, 4, 0] h (ih x4_16 s15) rfl
set_option maxRecDepth 20000 in
theorem w_X10_farFrom_27 {G : Gx} (hG : Gok G ∧ IsG G layM fsoM) {P : Option (Int32 × Mem) → Nat → List (Nat × Value) → List Value → Mem → Prop} (h : Jk G layM fsoM RX10 cX10_farFrom 6 (some .int) 1 tvI P) (N : Nat) (x1 : Int32) (x2 : Int32) {rec : Int32 → Mem → Option (Int32 × Mem)} (ih : ∀ (x3 : Int32) (s : Mem), P (rec x3 s) 27 [(0, .ref (Ga G 0)), (1, .int x1), (2, .int x2), (3, .int x3)] [] s) : ∀ (x3 : Int32) (s : Mem), P (st_X10_farFrom_27 N x1 x2 rec x3 s) 27 [(0, .ref (Ga G 0)), (1, .int x1), (2, .int x2), (3, .int x3)] [] s := by
  intro x3 s0
  unfold st_X10_farFrom_27
  refine jx_iload_n h dX10_farFrom_27 rfl 3 rfl ?_
  refine jx_aload_n h dX10_farFrom_28 rfl 0 rfl ?_
  refine jx_get (v := .ref (Ga G 34)) h fa_X10_110 lm_0 dX10_farFrom_29 rfl ?_
  refine jx_iload_n h dX10_farFrom_32 rfl 1 rfl ?_
  refine jx_iaload h lm_34 dX10_farFrom_33 ?_
  refine jx_icmp_gt (tgt := 184) h dX10_farFrom_34 rfl ?_ ?_
  · refine jx_aload_n h dX10_farFrom_184 rfl 0 rfl ?_
    refine jx_get (v := .ref (Ga G 35)) h fa_X10_113 lm_0 dX10_farFrom_185 rfl ?_
    refine jx_aload_n h dX10_farFrom_188 rfl 0 rfl ?_
    refine jx_get (v := .ref (Ga G 34)) h fa_X10_110 lm_0 dX10_farFrom_189 rfl ?_
    refine jx_iload_n h dX10_farFrom_192 rfl 2 rfl ?_
    refine jx_iaload h lm_34 dX10_farFrom_193 ?_
    refine jx_iaload h lm_35 dX10_farFrom_194 ?_
    exact jx_iret h dX10_farFrom_195
  · refine jx_aload_n h dX10_farFrom_37 rfl 0 rfl ?_
    refine jx_get (v := .ref (Ga G 36)) h fa_X10_116 lm_0 dX10_farFrom_38 rfl ?_
    refine jx_iconst h dX10_farFrom_41 ki_0 ?_
    refine jx_iload_n h dX10_farFrom_42 rfl 3 rfl ?_
    refine jx_iastore h lm_36 dX10_farFrom_43 (fun s4 => ?_)
    refine jx_iconst h dX10_farFrom_44 ki_1 ?_
    refine jx_istore (lv' := [(4, .int 1), (0, .ref (Ga G 0)), (1, .int x1), (2, .int x2), (3, .int x3)]) h dX10_farFrom_45 (Nat.le_of_ble_eq_true rfl) rfl ?_
    refine jx_subk [1, 2, 3, 4, 0] h (itr_ind (Q := (fun (f : Int32 → Mem → Option (Int32 × Mem)) => ∀ (x4 : Int32) (s : Mem), P (f x4 s) 47 [(0, .ref (Ga G 0)), (1, .int x1), (2, .int x2), (3, .int x3), (4, .int x4)] [] s)) (fun _ _ => jx_none h) (fun r47 ih47 => ?_) N 1 s4) rfl
    refine w_X10_farFrom_47 hG h N x1 x2 x3 ?_ ih47
    intro s14
    refine jx_iconst h dX10_farFrom_144 ki_0 ?_
    refine jx_istore (lv' := [(4, .int 0), (0, .ref (Ga G 0)), (1, .int x1), (2, .int x2), (3, .int x3)]) h dX10_farFrom_145 (Nat.le_of_ble_eq_true rfl) rfl ?_
    refine jx_subk [1, 2, 3, 4, 0] h (itr_ind (Q := (fun (f : Int32 → Mem → Option (Int32 × Mem)) => ∀ (x4 : Int32) (s : Mem), P (f x4 s) 147 [(0, .ref (Ga G 0)), (1, .int x1), (2, .int x2), (3, .int x3), (4, .int x4)] [] s)) (fun _ _ => jx_none h) (fun r147 ih147 => ?_) N 0 s14) rfl
    refine w_X10_farFrom_147 hG h N x1 x2 x3 ?_ ih147
    intro s17
    refine jx_iincl (L := fun w => [(3, .int w), (0, .ref (Ga G 0)), (1, .int x1), (2, .int x2)]) h dX10_farFrom_178 3 rfl (kn_1 _) (Nat.le_of_ble_eq_true rfl) (fun _ => rfl) (fun x3_18 => ?_)
    refine jx_goto (tgt := 27) h dX10_farFrom_181 rfl ?_
    exact jx_subk [1, 2, 3, 0] h (ih x3_18 s17) rfl
set_option maxRecDepth 20000 in
theorem c_X10_farFrom {G : Gx} (hG : Gok G ∧ IsG G layM fsoM) (N : Nat) (x1 : Int32) (x2 : Int32) (s : Mem) : Ct G yX10_farFrom cX10_farFrom 6 (some .int) 1 [.ref (Ga G 0), .int x1, .int x2] tvI s (f_X10_farFrom N x1 x2 s) := by
  refine Ct.of hG (by decide) (Nat.le_of_ble_eq_true rfl) (fun P h => ?_)
  show P _ 0 [(0, .ref (Ga G 0)), (1, .int x1), (2, .int x2)] [] s
  unfold f_X10_farFrom
  refine jx_iconst h dX10_farFrom_0 ki_0 ?_
  refine jx_istore_n (lv' := [(3, .int 0), (0, .ref (Ga G 0)), (1, .int x1), (2, .int x2)]) h dX10_farFrom_1 rfl (Nat.le_of_ble_eq_true rfl) rfl ?_
  refine jx_subk [1, 2, 3, 0] h (itr_ind (Q := (fun (f : Int32 → Mem → Option (Int32 × Mem)) => ∀ (x3 : Int32) (s : Mem), P (f x3 s) 2 [(0, .ref (Ga G 0)), (1, .int x1), (2, .int x2), (3, .int x3)] [] s)) (fun _ _ => jx_none h) (fun r2 ih2 => ?_) N 0 s) rfl
  refine w_X10_farFrom_2 hG h N x1 x2 ?_ ih2
  intro s3
  refine jx_iconst h dX10_farFrom_25 ki_1 ?_
  refine jx_istore_n (lv' := [(3, .int 1), (0, .ref (Ga G 0)), (1, .int x1), (2, .int x2)]) h dX10_farFrom_26 rfl (Nat.le_of_ble_eq_true rfl) rfl ?_
  refine jx_subk [1, 2, 3, 0] h (itr_ind (Q := (fun (f : Int32 → Mem → Option (Int32 × Mem)) => ∀ (x3 : Int32) (s : Mem), P (f x3 s) 27 [(0, .ref (Ga G 0)), (1, .int x1), (2, .int x2), (3, .int x3)] [] s)) (fun _ _ => jx_none h) (fun r27 ih27 => ?_) N 1 s3) rfl
  refine w_X10_farFrom_27 hG h N x1 x2  ih27
noncomputable def f_X10_far (N : Nat) (x1 : Int32) (x2 : Int32) (s : Mem) : Option (Int32 × Mem) :=
  bd (f_X10_in N x1 0 5 s) (fun r2 s1 => if r2 = 0 then (some ((-1), s1)) else bd (f_X10_in N x2 0 5 s1) (fun r4 s3 => if r4 = 0 then (some ((-1), s3)) else chk x1 7 (if (gi s3 34 (ix x1)) = 0 then (some ((-2), s3)) else chk x2 7 (if (gi s3 34 (ix x2)) = 0 then (some ((-2), s3)) else bd (f_X10_farFrom N x1 x2 s3) (fun r6 s5 => some (r6, s5))))))
set_option maxRecDepth 20000 in
theorem c_X10_far {G : Gx} (hG : Gok G ∧ IsG G layM fsoM) (N : Nat) (x1 : Int32) (x2 : Int32) (s : Mem) : Ct G yX10_far cX10_far 3 (some .int) 2 [.ref (Ga G 0), .int x1, .int x2] tvI s (f_X10_far N x1 x2 s) := by
  refine Ct.of hG (by decide) (Nat.le_of_ble_eq_true rfl) (fun P h => ?_)
  show P _ 0 [(0, .ref (Ga G 0)), (1, .int x1), (2, .int x2)] [] s
  unfold f_X10_far
  refine jx_iload_n h dX10_far_0 rfl 1 rfl ?_
  refine jx_iconst h dX10_far_1 ki_0 ?_
  refine jx_iconst h dX10_far_2 ki_5 ?_
  refine jx_callSi [] h (c_X10_in hG N x1 0 5 s) ml_X10_134 (Nat.le_of_ble_eq_true rfl) (Nat.le_of_ble_eq_true rfl) dX10_far_3 (Nat.le_of_ble_eq_true rfl) rfl (fun r2 s1 => ?_)
  refine jx_if_eq (tgt := 18) h dX10_far_6 rfl ?_ ?_
  · refine jx_iconst h dX10_far_18 ki_m1 ?_
    exact jx_iret h dX10_far_19
  · refine jx_iload_n h dX10_far_9 rfl 2 rfl ?_
    refine jx_iconst h dX10_far_10 ki_0 ?_
    refine jx_iconst h dX10_far_11 ki_5 ?_
    refine jx_callSi [] h (c_X10_in hG N x2 0 5 s1) ml_X10_134 (Nat.le_of_ble_eq_true rfl) (Nat.le_of_ble_eq_true rfl) dX10_far_12 (Nat.le_of_ble_eq_true rfl) rfl (fun r4 s3 => ?_)
    refine jx_if_ne (tgt := 20) h dX10_far_15 rfl ?_ ?_
    · refine jx_aload_n h dX10_far_20 rfl 0 rfl ?_
      refine jx_get (v := .ref (Ga G 34)) h fa_X10_110 lm_0 dX10_far_21 rfl ?_
      refine jx_iload_n h dX10_far_24 rfl 1 rfl ?_
      refine jx_iaload h lm_34 dX10_far_25 ?_
      refine jx_if_eq (tgt := 38) h dX10_far_26 rfl ?_ ?_
      · refine jx_bipush h dX10_far_38 kb_m2 ?_
        refine jx_goto (tgt := 49) h dX10_far_40 rfl ?_
        exact jx_iret h dX10_far_49
      · refine jx_aload_n h dX10_far_29 rfl 0 rfl ?_
        refine jx_get (v := .ref (Ga G 34)) h fa_X10_110 lm_0 dX10_far_30 rfl ?_
        refine jx_iload_n h dX10_far_33 rfl 2 rfl ?_
        refine jx_iaload h lm_34 dX10_far_34 ?_
        refine jx_if_ne (tgt := 43) h dX10_far_35 rfl ?_ ?_
        · refine jx_aload_n h dX10_far_43 rfl 0 rfl ?_
          refine jx_iload_n h dX10_far_44 rfl 1 rfl ?_
          refine jx_iload_n h dX10_far_45 rfl 2 rfl ?_
          refine jx_callVi [] h lm_0 (c_X10_farFrom hG N x1 x2 s3) ml_X10_385 (Nat.le_of_ble_eq_true rfl) (Nat.le_of_ble_eq_true rfl) dX10_far_46 (Nat.le_of_ble_eq_true rfl) rfl (fun r6 s5 => ?_)
          exact jx_iret h dX10_far_49
        · refine jx_bipush h dX10_far_38 kb_m2 ?_
          refine jx_goto (tgt := 49) h dX10_far_40 rfl ?_
          exact jx_iret h dX10_far_49
    · refine jx_iconst h dX10_far_18 ki_m1 ?_
      exact jx_iret h dX10_far_19
noncomputable def st_X10_nearest_51 (N : Nat) (x2 : Int32) (k110 : Int32 → Int32 → Mem → Option (Int32 × Mem)) (rec : Int32 → Int32 → Int32 → Mem → Option (Int32 × Mem)) (x3 : Int32) (x4 : Int32) (x5 : Int32) (s0 : Mem) : Option (Int32 × Mem) :=
  if 6 ≤ x5 then (k110 x3 x4 s0) else chk x5 7 (if (gi s0 34 (ix x5)) = 0 then (lt (x5 + 1) (fun x5_13 => rec x3 x4 x5_13 s0)) else bd (f_X10_farFrom N 6 x5 s0) (fun r9 s8 => if x3 = (-2) then (lt (x5 + 1) (fun x5_10 => rec x5 r9 x5_10 s8)) else if r9 < x4 then (lt (x5 + 1) (fun x5_11 => rec x5 r9 x5_11 s8)) else lt (x5 + 1) (fun x5_12 => rec x3 x4 x5_12 s8)))
noncomputable def f_X10_nearest (N : Nat) (x1 : Int32) (x2 : Int32) (s : Mem) : Option (Int32 × Mem) :=
  bd (f_X10_in N x1 1 40 s) (fun r2 s1 => if r2 = 0 then (some ((-1), s1)) else bd (f_X10_in N x2 0 1 s1) (fun r4 s3 => if r4 = 0 then (some ((-1), s3)) else if x1 ≤ (gi s3 0 5) then (bd (f_X10_laysText N 6 x1 s3) (fun _ s5 => lt (si s5 0 5 0) (fun s7 => itr (fun _ _ _ _ => none) (st_X10_nearest_51 N x2 (fun (x3_15 : Int32) (x4_16 : Int32) (s14 : Mem) => if x2 = 0 then (some (x3_15, s14)) else some (x4_16, s14))) N (-2) (-2) 0 s7))) else some ((-1), s3)))
set_option maxRecDepth 20000 in
theorem w_X10_nearest_51 {G : Gx} (hG : Gok G ∧ IsG G layM fsoM) {P : Option (Int32 × Mem) → Nat → List (Nat × Value) → List Value → Mem → Prop} (h : Jk G layM fsoM RX10 cX10_nearest 7 (some .int) 2 tvI P) (N : Nat) (x2 : Int32) {k110 : Int32 → Int32 → Mem → Option (Int32 × Mem)} (hk110 : ∀ (x3 : Int32) (x4 : Int32) (s : Mem), P (k110 x3 x4 s) 110 [(2, .int x2), (3, .int x3), (4, .int x4)] [] s) {rec : Int32 → Int32 → Int32 → Mem → Option (Int32 × Mem)} (ih : ∀ (x3 : Int32) (x4 : Int32) (x5 : Int32) (s : Mem), P (rec x3 x4 x5 s) 51 [(0, .ref (Ga G 0)), (2, .int x2), (3, .int x3), (4, .int x4), (5, .int x5)] [] s) : ∀ (x3 : Int32) (x4 : Int32) (x5 : Int32) (s : Mem), P (st_X10_nearest_51 N x2 k110 rec x3 x4 x5 s) 51 [(0, .ref (Ga G 0)), (2, .int x2), (3, .int x3), (4, .int x4), (5, .int x5)] [] s := by
  intro x3 x4 x5 s0
  unfold st_X10_nearest_51
  refine jx_iload h dX10_nearest_51 4 rfl ?_
  refine jx_bipush h dX10_nearest_53 kb_6 ?_
  refine jx_icmp_ge (tgt := 110) h dX10_nearest_55 rfl ?_ ?_
  · exact jx_subk [1, 2, 3] h (hk110 x3 x4 s0) rfl
  · refine jx_aload_n h dX10_nearest_58 rfl 0 rfl ?_
    refine jx_get (v := .ref (Ga G 34)) h fa_X10_110 lm_0 dX10_nearest_59 rfl ?_
    refine jx_iload h dX10_nearest_62 4 rfl ?_
    refine jx_iaload h lm_34 dX10_nearest_64 ?_
    refine jx_if_ne (tgt := 71) h dX10_nearest_65 rfl ?_ ?_
    · refine jx_aload_n h dX10_nearest_71 rfl 0 rfl ?_
      refine jx_bipush h dX10_nearest_72 kb_6 ?_
      refine jx_iload h dX10_nearest_74 4 rfl ?_
      refine jx_callVi [] h lm_0 (c_X10_farFrom hG N 6 x5 s0) ml_X10_385 (Nat.le_of_ble_eq_true rfl) (Nat.le_of_ble_eq_true rfl) dX10_nearest_76 (Nat.le_of_ble_eq_true rfl) rfl (fun r9 s8 => ?_)
      refine jx_istore (lv' := [(6, .int r9), (0, .ref (Ga G 0)), (2, .int x2), (3, .int x3), (4, .int x4), (5, .int x5)]) h dX10_nearest_79 (Nat.le_of_ble_eq_true rfl) rfl ?_
      refine jx_iload_n h dX10_nearest_81 rfl 3 rfl ?_
      refine jx_bipush h dX10_nearest_82 kb_m2 ?_
      refine jx_icmp_eq (tgt := 97) h dX10_nearest_84 rfl ?_ ?_
      · refine jx_iload h dX10_nearest_97 5 rfl ?_
        refine jx_istore_n (lv' := [(3, .int x5), (6, .int r9), (0, .ref (Ga G 0)), (2, .int x2), (4, .int x4), (5, .int x5)]) h dX10_nearest_99 rfl (Nat.le_of_ble_eq_true rfl) rfl ?_
        refine jx_iload h dX10_nearest_100 1 rfl ?_
        refine jx_istore (lv' := [(4, .int r9), (3, .int x5), (6, .int r9), (0, .ref (Ga G 0)), (2, .int x2), (5, .int x5)]) h dX10_nearest_102 (Nat.le_of_ble_eq_true rfl) rfl ?_
        refine jx_iincl (L := fun w => [(5, .int w), (4, .int r9), (3, .int x5), (6, .int r9), (0, .ref (Ga G 0)), (2, .int x2)]) h dX10_nearest_104 5 rfl (kn_1 _) (Nat.le_of_ble_eq_true rfl) (fun _ => rfl) (fun x5_10 => ?_)
        refine jx_goto (tgt := 51) h dX10_nearest_107 rfl ?_
        exact jx_subk [4, 5, 2, 1, 0] h (ih x5 r9 x5_10 s8) rfl
      · refine jx_iload h dX10_nearest_87 0 rfl ?_
        refine jx_iload h dX10_nearest_89 4 rfl ?_
        refine jx_icmp_lt (tgt := 97) h dX10_nearest_91 rfl ?_ ?_
        · refine jx_iload h dX10_nearest_97 5 rfl ?_
          refine jx_istore_n (lv' := [(3, .int x5), (6, .int r9), (0, .ref (Ga G 0)), (2, .int x2), (4, .int x4), (5, .int x5)]) h dX10_nearest_99 rfl (Nat.le_of_ble_eq_true rfl) rfl ?_
          refine jx_iload h dX10_nearest_100 1 rfl ?_
          refine jx_istore (lv' := [(4, .int r9), (3, .int x5), (6, .int r9), (0, .ref (Ga G 0)), (2, .int x2), (5, .int x5)]) h dX10_nearest_102 (Nat.le_of_ble_eq_true rfl) rfl ?_
          refine jx_iincl (L := fun w => [(5, .int w), (4, .int r9), (3, .int x5), (6, .int r9), (0, .ref (Ga G 0)), (2, .int x2)]) h dX10_nearest_104 5 rfl (kn_1 _) (Nat.le_of_ble_eq_true rfl) (fun _ => rfl) (fun x5_11 => ?_)
          refine jx_goto (tgt := 51) h dX10_nearest_107 rfl ?_
          exact jx_subk [4, 5, 2, 1, 0] h (ih x5 r9 x5_11 s8) rfl
        · refine jx_goto (tgt := 104) h dX10_nearest_94 rfl ?_
          refine jx_iincl (L := fun w => [(5, .int w), (6, .int r9), (0, .ref (Ga G 0)), (2, .int x2), (3, .int x3), (4, .int x4)]) h dX10_nearest_104 5 rfl (kn_1 _) (Nat.le_of_ble_eq_true rfl) (fun _ => rfl) (fun x5_12 => ?_)
          refine jx_goto (tgt := 51) h dX10_nearest_107 rfl ?_
          exact jx_subk [2, 3, 4, 5, 0] h (ih x3 x4 x5_12 s8) rfl
    · refine jx_goto (tgt := 104) h dX10_nearest_68 rfl ?_
      refine jx_iincl (L := fun w => [(5, .int w), (0, .ref (Ga G 0)), (2, .int x2), (3, .int x3), (4, .int x4)]) h dX10_nearest_104 4 rfl (kn_1 _) (Nat.le_of_ble_eq_true rfl) (fun _ => rfl) (fun x5_13 => ?_)
      refine jx_goto (tgt := 51) h dX10_nearest_107 rfl ?_
      exact jx_subk [1, 2, 3, 4, 0] h (ih x3 x4 x5_13 s0) rfl
set_option maxRecDepth 20000 in
theorem c_X10_nearest {G : Gx} (hG : Gok G ∧ IsG G layM fsoM) (N : Nat) (x1 : Int32) (x2 : Int32) (s : Mem) : Ct G yX10_nearest cX10_nearest 7 (some .int) 2 [.ref (Ga G 0), .int x1, .int x2] tvI s (f_X10_nearest N x1 x2 s) := by
  refine Ct.of hG (by decide) (Nat.le_of_ble_eq_true rfl) (fun P h => ?_)
  show P _ 0 [(0, .ref (Ga G 0)), (1, .int x1), (2, .int x2)] [] s
  unfold f_X10_nearest
  refine jx_iload_n h dX10_nearest_0 rfl 1 rfl ?_
  refine jx_iconst h dX10_nearest_1 ki_1 ?_
  refine jx_bipush h dX10_nearest_2 kb_40 ?_
  refine jx_callSi [] h (c_X10_in hG N x1 1 40 s) ml_X10_134 (Nat.le_of_ble_eq_true rfl) (Nat.le_of_ble_eq_true rfl) dX10_nearest_4 (Nat.le_of_ble_eq_true rfl) rfl (fun r2 s1 => ?_)
  refine jx_if_eq (tgt := 27) h dX10_nearest_7 rfl ?_ ?_
  · refine jx_iconst h dX10_nearest_27 ki_m1 ?_
    exact jx_iret h dX10_nearest_28
  · refine jx_iload_n h dX10_nearest_10 rfl 2 rfl ?_
    refine jx_iconst h dX10_nearest_11 ki_0 ?_
    refine jx_iconst h dX10_nearest_12 ki_1 ?_
    refine jx_callSi [] h (c_X10_in hG N x2 0 1 s1) ml_X10_134 (Nat.le_of_ble_eq_true rfl) (Nat.le_of_ble_eq_true rfl) dX10_nearest_13 (Nat.le_of_ble_eq_true rfl) rfl (fun r4 s3 => ?_)
    refine jx_if_eq (tgt := 27) h dX10_nearest_16 rfl ?_ ?_
    · refine jx_iconst h dX10_nearest_27 ki_m1 ?_
      exact jx_iret h dX10_nearest_28
    · refine jx_iload_n h dX10_nearest_19 rfl 1 rfl ?_
      refine jx_aload_n h dX10_nearest_20 rfl 0 rfl ?_
      refine jx_get (v := .int (gi s3 0 5)) h fa_X10_150 lm_0 dX10_nearest_21 rfl ?_
      refine jx_icmp_le (tgt := 29) h dX10_nearest_24 rfl ?_ ?_
      · refine jx_aload_n h dX10_nearest_29 rfl 0 rfl ?_
        refine jx_bipush h dX10_nearest_30 kb_6 ?_
        refine jx_iload_n h dX10_nearest_32 rfl 1 rfl ?_
        refine jx_callVv [] h lm_0 (c_X10_laysText hG N 6 x1 s3) ml_X10_382 (Nat.le_of_ble_eq_true rfl) (Nat.le_of_ble_eq_true rfl) dX10_nearest_33 (Nat.le_of_ble_eq_true rfl) rfl (fun s5 => ?_)
        refine jx_aload_n h dX10_nearest_36 rfl 0 rfl ?_
        refine jx_iconst h dX10_nearest_37 ki_0 ?_
        refine jx_put h fa_X10_150 fp_X10_5 lm_0 rfl rfl dX10_nearest_38 (fu_X10_5 _ _ _ _) (fun s7 => ?_)
        refine jx_bipush h dX10_nearest_41 kb_m2 ?_
        refine jx_istore_n (lv' := [(3, .int (-2)), (0, .ref (Ga G 0)), (1, .int x1), (2, .int x2)]) h dX10_nearest_43 rfl (Nat.le_of_ble_eq_true rfl) rfl ?_
        refine jx_bipush h dX10_nearest_44 kb_m2 ?_
        refine jx_istore (lv' := [(4, .int (-2)), (3, .int (-2)), (0, .ref (Ga G 0)), (1, .int x1), (2, .int x2)]) h dX10_nearest_46 (Nat.le_of_ble_eq_true rfl) rfl ?_
        refine jx_iconst h dX10_nearest_48 ki_0 ?_
        refine jx_istore (lv' := [(5, .int 0), (4, .int (-2)), (3, .int (-2)), (0, .ref (Ga G 0)), (1, .int x1), (2, .int x2)]) h dX10_nearest_49 (Nat.le_of_ble_eq_true rfl) rfl ?_
        refine jx_subk [3, 5, 2, 1, 0] h (itr_ind (Q := (fun (f : Int32 → Int32 → Int32 → Mem → Option (Int32 × Mem)) => ∀ (x3 : Int32) (x4 : Int32) (x5 : Int32) (s : Mem), P (f x3 x4 x5 s) 51 [(0, .ref (Ga G 0)), (2, .int x2), (3, .int x3), (4, .int x4), (5, .int x5)] [] s)) (fun _ _ _ _ => jx_none h) (fun r51 ih51 => ?_) N (-2) (-2) 0 s7) rfl
        refine w_X10_nearest_51 hG h N x2 ?_ ih51
        intro x3_15 x4_16 s14
        refine jx_iload_n h dX10_nearest_110 rfl 0 rfl ?_
        refine jx_if_ne (tgt := 118) h dX10_nearest_111 rfl ?_ ?_
        · refine jx_iload h dX10_nearest_118 2 rfl ?_
          exact jx_iret h dX10_nearest_120
        · refine jx_iload_n h dX10_nearest_114 rfl 1 rfl ?_
          refine jx_goto (tgt := 120) h dX10_nearest_115 rfl ?_
          exact jx_iret h dX10_nearest_120
      · refine jx_iconst h dX10_nearest_27 ki_m1 ?_
        exact jx_iret h dX10_nearest_28
noncomputable def st_X10_fromWhom_6 (N : Nat) (x1 : Int32) (k43 : Int32 → Mem → Option (Int32 × Mem)) (rec : Int32 → Int32 → Mem → Option (Int32 × Mem)) (x2 : Int32) (x3 : Int32) (s0 : Mem) : Option (Int32 × Mem) :=
  if x3 < 0 then (k43 x2 s0) else chk x3 6 (lt (si s0 37 (ix x3) 100000000) (fun s1 => chk x3 7 (if (gi s1 34 (ix x3)) = 0 then (lt (x3 + (-1)) (fun x3_4 => rec x2 x3_4 s1)) else lt (x2 ||| ((1 : Int32) <<< (x3 &&& 31))) (fun v2 => lt (x3 + (-1)) (fun x3_3 => rec v2 x3_3 s1)))))
noncomputable def st_X10_fromWhom_62 (N : Nat) (x1 : Int32) (x2 : Int32) (x3 : Int32) (k111 : Int32 → Mem → Option (Int32 × Mem)) (rec : Int32 → Int32 → Mem → Option (Int32 × Mem)) (x4 : Int32) (x5 : Int32) (s0 : Mem) : Option (Int32 × Mem) :=
  if 6 ≤ x5 then (k111 x4 s0) else bd (f_X10_has N x2 x5 s0) (fun r8 s7 => if r8 = 0 then (lt (x5 + 1) (fun x5_9 => rec x4 x5_9 s7)) else if x4 = (-1) then (lt (x5 + 1) (fun x5_10 => rec x5 x5_10 s7)) else chk x5 6 (chk x4 6 (if (gi s7 37 (ix x4)) ≤ (gi s7 37 (ix x5)) then (lt (x5 + 1) (fun x5_11 => rec x4 x5_11 s7)) else lt (x5 + 1) (fun x5_12 => rec x5 x5_12 s7))))
noncomputable def st_X10_fromWhom_143 (N : Nat) (x1 : Int32) (x2 : Int32) (x3 : Int32) (x4 : Int32) (k190 : Mem → Option (Int32 × Mem)) (rec : Int32 → Mem → Option (Int32 × Mem)) (x5 : Int32) (s0 : Mem) : Option (Int32 × Mem) :=
  if 6 ≤ x5 then (k190 s0) else bd (f_X10_has N x2 x5 s0) (fun r20 s19 => if r20 = 0 then (lt (x5 + 1) (fun x5_21 => rec x5_21 s19)) else chk x5 6 (bd (f_X10_farFrom N x4 x5 s19) (fun r23 s22 => bd (f_X10_min N (gi s19 37 (ix x5)) r23 s22) (fun r25 s24 => chk x5 6 (lt (si s24 37 (ix x5) r25) (fun s26 => lt (x5 + 1) (fun x5_27 => rec x5_27 s26)))))))
noncomputable def st_X10_fromWhom_52 (N : Nat)  (rec : Int32 → Int32 → Int32 → Mem → Option (Int32 × Mem)) (x1 : Int32) (x2 : Int32) (x3 : Int32) (s0 : Mem) : Option (Int32 × Mem) :=
  if x2 = 0 then (some (x1, s0)) else itr (fun _ _ _ => none) (st_X10_fromWhom_62 N x1 x2 x3 (fun (x4_14 : Int32) (s13 : Mem) => lt (fun (t16 : Int32) (s15 : Mem) => lt (x1 + t16) (fun v17 => lt (x2 &&& (((1 : Int32) <<< (x4_14 &&& 31)) ^^^ (-1))) (fun v18 => itr (fun _ _ => none) (st_X10_fromWhom_143 N v17 v18 0 x4_14 (fun  (s28 : Mem) => rec v17 v18 0 s28)) N 0 s15))) (fun j127 => if x3 = 0 then (chk x4_14 6 (j127 (gi s13 37 (ix x4_14)) s13)) else j127 0 s13))) N (-1) 0 s0
noncomputable def f_X10_fromWhom (N : Nat)  (s : Mem) : Option (Int32 × Mem) :=
  itr (fun _ _ _ => none) (st_X10_fromWhom_6 N 0 (fun (x2_6 : Int32) (s5 : Mem) => if x2_6 = 0 then (some ((-2), s5)) else itr (fun _ _ _ _ => none) (st_X10_fromWhom_52 N) N 0 x2_6 1 s5)) N 0 5 s
set_option maxRecDepth 20000 in
theorem w_X10_fromWhom_6 {G : Gx} (hG : Gok G ∧ IsG G layM fsoM) {P : Option (Int32 × Mem) → Nat → List (Nat × Value) → List Value → Mem → Prop} (h : Jk G layM fsoM RX10 cX10_fromWhom 6 (some .int) 2 tvI P) (N : Nat) (x1 : Int32) {k43 : Int32 → Mem → Option (Int32 × Mem)} (hk43 : ∀ (x2 : Int32) (s : Mem), P (k43 x2 s) 43 [(0, .ref (Ga G 0)), (1, .int x1), (2, .int x2)] [] s) {rec : Int32 → Int32 → Mem → Option (Int32 × Mem)} (ih : ∀ (x2 : Int32) (x3 : Int32) (s : Mem), P (rec x2 x3 s) 6 [(0, .ref (Ga G 0)), (1, .int x1), (2, .int x2), (3, .int x3)] [] s) : ∀ (x2 : Int32) (x3 : Int32) (s : Mem), P (st_X10_fromWhom_6 N x1 k43 rec x2 x3 s) 6 [(0, .ref (Ga G 0)), (1, .int x1), (2, .int x2), (3, .int x3)] [] s := by
  intro x2 x3 s0
  unfold st_X10_fromWhom_6
  refine jx_iload_n h dX10_fromWhom_6 rfl 3 rfl ?_
  refine jx_if_lt (tgt := 43) h dX10_fromWhom_7 rfl ?_ ?_
  · exact jx_subk [0, 1, 2] h (hk43 x2 s0) rfl
  · refine jx_aload_n h dX10_fromWhom_10 rfl 0 rfl ?_
    refine jx_get (v := .ref (Ga G 37)) h fa_X10_119 lm_0 dX10_fromWhom_11 rfl ?_
    refine jx_iload_n h dX10_fromWhom_14 rfl 3 rfl ?_
    refine jx_ldcw h dX10_fromWhom_15 kw_X10_339 ?_
    refine jx_iastore h lm_37 dX10_fromWhom_18 (fun s1 => ?_)
    refine jx_aload_n h dX10_fromWhom_19 rfl 0 rfl ?_
    refine jx_get (v := .ref (Ga G 34)) h fa_X10_110 lm_0 dX10_fromWhom_20 rfl ?_
    refine jx_iload_n h dX10_fromWhom_23 rfl 3 rfl ?_
    refine jx_iaload h lm_34 dX10_fromWhom_24 ?_
    refine jx_if_ne (tgt := 31) h dX10_fromWhom_25 rfl ?_ ?_
    · refine jx_iload_n h dX10_fromWhom_31 rfl 2 rfl ?_
      refine jx_iconst h dX10_fromWhom_32 ki_1 ?_
      refine jx_iload_n h dX10_fromWhom_33 rfl 3 rfl ?_
      refine jx_ishl h dX10_fromWhom_34 ?_
      refine jx_ior h dX10_fromWhom_35 ?_
      refine jx_lti (fun v2 => ?_)
      refine jx_istore_n (lv' := [(2, .int v2), (0, .ref (Ga G 0)), (1, .int x1), (3, .int x3)]) h dX10_fromWhom_36 rfl (Nat.le_of_ble_eq_true rfl) rfl ?_
      refine jx_iincl (L := fun w => [(3, .int w), (2, .int v2), (0, .ref (Ga G 0)), (1, .int x1)]) h dX10_fromWhom_37 3 rfl (kn_m1 _) (Nat.le_of_ble_eq_true rfl) (fun _ => rfl) (fun x3_3 => ?_)
      refine jx_goto (tgt := 6) h dX10_fromWhom_40 rfl ?_
      exact jx_subk [2, 3, 1, 0] h (ih v2 x3_3 s1) rfl
    · refine jx_goto (tgt := 37) h dX10_fromWhom_28 rfl ?_
      refine jx_iincl (L := fun w => [(3, .int w), (0, .ref (Ga G 0)), (1, .int x1), (2, .int x2)]) h dX10_fromWhom_37 3 rfl (kn_m1 _) (Nat.le_of_ble_eq_true rfl) (fun _ => rfl) (fun x3_4 => ?_)
      refine jx_goto (tgt := 6) h dX10_fromWhom_40 rfl ?_
      exact jx_subk [1, 2, 3, 0] h (ih x2 x3_4 s1) rfl
set_option maxRecDepth 20000 in
theorem w_X10_fromWhom_62 {G : Gx} (hG : Gok G ∧ IsG G layM fsoM) {P : Option (Int32 × Mem) → Nat → List (Nat × Value) → List Value → Mem → Prop} (h : Jk G layM fsoM RX10 cX10_fromWhom 6 (some .int) 2 tvI P) (N : Nat) (x1 : Int32) (x2 : Int32) (x3 : Int32) {k111 : Int32 → Mem → Option (Int32 × Mem)} (hk111 : ∀ (x4 : Int32) (s : Mem), P (k111 x4 s) 111 [(0, .ref (Ga G 0)), (1, .int x1), (2, .int x2), (3, .int x3), (4, .int x4)] [] s) {rec : Int32 → Int32 → Mem → Option (Int32 × Mem)} (ih : ∀ (x4 : Int32) (x5 : Int32) (s : Mem), P (rec x4 x5 s) 62 [(0, .ref (Ga G 0)), (1, .int x1), (2, .int x2), (3, .int x3), (4, .int x4), (5, .int x5)] [] s) : ∀ (x4 : Int32) (x5 : Int32) (s : Mem), P (st_X10_fromWhom_62 N x1 x2 x3 k111 rec x4 x5 s) 62 [(0, .ref (Ga G 0)), (1, .int x1), (2, .int x2), (3, .int x3), (4, .int x4), (5, .int x5)] [] s := by
  intro x4 x5 s0
  unfold st_X10_fromWhom_62
  refine jx_iload h dX10_fromWhom_62 5 rfl ?_
  refine jx_bipush h dX10_fromWhom_64 kb_6 ?_
  refine jx_icmp_ge (tgt := 111) h dX10_fromWhom_66 rfl ?_ ?_
  · exact jx_subk [0, 1, 2, 3, 4] h (hk111 x4 s0) rfl
  · refine jx_iload_n h dX10_fromWhom_69 rfl 2 rfl ?_
    refine jx_iload h dX10_fromWhom_70 5 rfl ?_
    refine jx_callSi [] h (c_X10_has hG N x2 x5 s0) ml_X10_138 (Nat.le_of_ble_eq_true rfl) (Nat.le_of_ble_eq_true rfl) dX10_fromWhom_72 (Nat.le_of_ble_eq_true rfl) rfl (fun r8 s7 => ?_)
    refine jx_if_eq (tgt := 105) h dX10_fromWhom_75 rfl ?_ ?_
    · refine jx_iincl (L := fun w => [(5, .int w), (0, .ref (Ga G 0)), (1, .int x1), (2, .int x2), (3, .int x3), (4, .int x4)]) h dX10_fromWhom_105 5 rfl (kn_1 _) (Nat.le_of_ble_eq_true rfl) (fun _ => rfl) (fun x5_9 => ?_)
      refine jx_goto (tgt := 62) h dX10_fromWhom_108 rfl ?_
      exact jx_subk [1, 2, 3, 4, 5, 0] h (ih x4 x5_9 s7) rfl
    · refine jx_iload h dX10_fromWhom_78 4 rfl ?_
      refine jx_iconst h dX10_fromWhom_80 ki_m1 ?_
      refine jx_icmp_eq (tgt := 101) h dX10_fromWhom_81 rfl ?_ ?_
      · refine jx_iload h dX10_fromWhom_101 5 rfl ?_
        refine jx_istore (lv' := [(4, .int x5), (0, .ref (Ga G 0)), (1, .int x1), (2, .int x2), (3, .int x3), (5, .int x5)]) h dX10_fromWhom_103 (Nat.le_of_ble_eq_true rfl) rfl ?_
        refine jx_iincl (L := fun w => [(5, .int w), (4, .int x5), (0, .ref (Ga G 0)), (1, .int x1), (2, .int x2), (3, .int x3)]) h dX10_fromWhom_105 5 rfl (kn_1 _) (Nat.le_of_ble_eq_true rfl) (fun _ => rfl) (fun x5_10 => ?_)
        refine jx_goto (tgt := 62) h dX10_fromWhom_108 rfl ?_
        exact jx_subk [2, 3, 4, 5, 1, 0] h (ih x5 x5_10 s7) rfl
      · refine jx_aload_n h dX10_fromWhom_84 rfl 0 rfl ?_
        refine jx_get (v := .ref (Ga G 37)) h fa_X10_119 lm_0 dX10_fromWhom_85 rfl ?_
        refine jx_iload h dX10_fromWhom_88 5 rfl ?_
        refine jx_iaload h lm_37 dX10_fromWhom_90 ?_
        refine jx_aload_n h dX10_fromWhom_91 rfl 0 rfl ?_
        refine jx_get (v := .ref (Ga G 37)) h fa_X10_119 lm_0 dX10_fromWhom_92 rfl ?_
        refine jx_iload h dX10_fromWhom_95 4 rfl ?_
        refine jx_iaload h lm_37 dX10_fromWhom_97 ?_
        refine jx_icmp_ge (tgt := 105) h dX10_fromWhom_98 rfl ?_ ?_
        · refine jx_iincl (L := fun w => [(5, .int w), (0, .ref (Ga G 0)), (1, .int x1), (2, .int x2), (3, .int x3), (4, .int x4)]) h dX10_fromWhom_105 5 rfl (kn_1 _) (Nat.le_of_ble_eq_true rfl) (fun _ => rfl) (fun x5_11 => ?_)
          refine jx_goto (tgt := 62) h dX10_fromWhom_108 rfl ?_
          exact jx_subk [1, 2, 3, 4, 5, 0] h (ih x4 x5_11 s7) rfl
        · refine jx_iload h dX10_fromWhom_101 5 rfl ?_
          refine jx_istore (lv' := [(4, .int x5), (0, .ref (Ga G 0)), (1, .int x1), (2, .int x2), (3, .int x3), (5, .int x5)]) h dX10_fromWhom_103 (Nat.le_of_ble_eq_true rfl) rfl ?_
          refine jx_iincl (L := fun w => [(5, .int w), (4, .int x5), (0, .ref (Ga G 0)), (1, .int x1), (2, .int x2), (3, .int x3)]) h dX10_fromWhom_105 5 rfl (kn_1 _) (Nat.le_of_ble_eq_true rfl) (fun _ => rfl) (fun x5_12 => ?_)
          refine jx_goto (tgt := 62) h dX10_fromWhom_108 rfl ?_
          exact jx_subk [2, 3, 4, 5, 1, 0] h (ih x5 x5_12 s7) rfl
set_option maxRecDepth 20000 in
theorem w_X10_fromWhom_143 {G : Gx} (hG : Gok G ∧ IsG G layM fsoM) {P : Option (Int32 × Mem) → Nat → List (Nat × Value) → List Value → Mem → Prop} (h : Jk G layM fsoM RX10 cX10_fromWhom 6 (some .int) 2 tvI P) (N : Nat) (x1 : Int32) (x2 : Int32) (x3 : Int32) (x4 : Int32) {k190 : Mem → Option (Int32 × Mem)} (hk190 : ∀  (s : Mem), P (k190 s) 190 [(0, .ref (Ga G 0)), (1, .int x1), (2, .int x2), (3, .int x3)] [] s) {rec : Int32 → Mem → Option (Int32 × Mem)} (ih : ∀ (x5 : Int32) (s : Mem), P (rec x5 s) 143 [(0, .ref (Ga G 0)), (1, .int x1), (2, .int x2), (3, .int x3), (4, .int x4), (5, .int x5)] [] s) : ∀ (x5 : Int32) (s : Mem), P (st_X10_fromWhom_143 N x1 x2 x3 x4 k190 rec x5 s) 143 [(0, .ref (Ga G 0)), (1, .int x1), (2, .int x2), (3, .int x3), (4, .int x4), (5, .int x5)] [] s := by
  intro x5 s0
  unfold st_X10_fromWhom_143
  refine jx_iload h dX10_fromWhom_143 5 rfl ?_
  refine jx_bipush h dX10_fromWhom_145 kb_6 ?_
  refine jx_icmp_ge (tgt := 190) h dX10_fromWhom_147 rfl ?_ ?_
  · exact jx_subk [0, 1, 2, 3] h (hk190 s0) rfl
  · refine jx_iload_n h dX10_fromWhom_150 rfl 2 rfl ?_
    refine jx_iload h dX10_fromWhom_151 5 rfl ?_
    refine jx_callSi [] h (c_X10_has hG N x2 x5 s0) ml_X10_138 (Nat.le_of_ble_eq_true rfl) (Nat.le_of_ble_eq_true rfl) dX10_fromWhom_153 (Nat.le_of_ble_eq_true rfl) rfl (fun r20 s19 => ?_)
    refine jx_if_eq (tgt := 184) h dX10_fromWhom_156 rfl ?_ ?_
    · refine jx_iincl (L := fun w => [(5, .int w), (0, .ref (Ga G 0)), (1, .int x1), (2, .int x2), (3, .int x3), (4, .int x4)]) h dX10_fromWhom_184 5 rfl (kn_1 _) (Nat.le_of_ble_eq_true rfl) (fun _ => rfl) (fun x5_21 => ?_)
      refine jx_goto (tgt := 143) h dX10_fromWhom_187 rfl ?_
      exact jx_subk [1, 2, 3, 4, 5, 0] h (ih x5_21 s19) rfl
    · refine jx_aload_n h dX10_fromWhom_159 rfl 0 rfl ?_
      refine jx_get (v := .ref (Ga G 37)) h fa_X10_119 lm_0 dX10_fromWhom_160 rfl ?_
      refine jx_iload h dX10_fromWhom_163 5 rfl ?_
      refine jx_aload_n h dX10_fromWhom_165 rfl 0 rfl ?_
      refine jx_get (v := .ref (Ga G 37)) h fa_X10_119 lm_0 dX10_fromWhom_166 rfl ?_
      refine jx_iload h dX10_fromWhom_169 5 rfl ?_
      refine jx_iaload h lm_37 dX10_fromWhom_171 ?_
      refine jx_aload_n h dX10_fromWhom_172 rfl 0 rfl ?_
      refine jx_iload h dX10_fromWhom_173 4 rfl ?_
      refine jx_iload h dX10_fromWhom_175 5 rfl ?_
      refine jx_callVi [.int (gi s19 37 (ix x5)), .int x5, .ref (Ga G 37)] h lm_0 (c_X10_farFrom hG N x4 x5 s19) ml_X10_385 (Nat.le_of_ble_eq_true rfl) (Nat.le_of_ble_eq_true rfl) dX10_fromWhom_177 (Nat.le_of_ble_eq_true rfl) rfl (fun r23 s22 => ?_)
      refine jx_callSi [.int x5, .ref (Ga G 37)] h (c_X10_min hG N (gi s19 37 (ix x5)) r23 s22) ml_X10_271 (Nat.le_of_ble_eq_true rfl) (Nat.le_of_ble_eq_true rfl) dX10_fromWhom_180 (Nat.le_of_ble_eq_true rfl) rfl (fun r25 s24 => ?_)
      refine jx_iastore h lm_37 dX10_fromWhom_183 (fun s26 => ?_)
      refine jx_iincl (L := fun w => [(5, .int w), (0, .ref (Ga G 0)), (1, .int x1), (2, .int x2), (3, .int x3), (4, .int x4)]) h dX10_fromWhom_184 5 rfl (kn_1 _) (Nat.le_of_ble_eq_true rfl) (fun _ => rfl) (fun x5_27 => ?_)
      refine jx_goto (tgt := 143) h dX10_fromWhom_187 rfl ?_
      exact jx_subk [1, 2, 3, 4, 5, 0] h (ih x5_27 s26) rfl
set_option maxRecDepth 20000 in
theorem w_X10_fromWhom_52 {G : Gx} (hG : Gok G ∧ IsG G layM fsoM) {P : Option (Int32 × Mem) → Nat → List (Nat × Value) → List Value → Mem → Prop} (h : Jk G layM fsoM RX10 cX10_fromWhom 6 (some .int) 2 tvI P) (N : Nat) {rec : Int32 → Int32 → Int32 → Mem → Option (Int32 × Mem)} (ih : ∀ (x1 : Int32) (x2 : Int32) (x3 : Int32) (s : Mem), P (rec x1 x2 x3 s) 52 [(0, .ref (Ga G 0)), (1, .int x1), (2, .int x2), (3, .int x3)] [] s) : ∀ (x1 : Int32) (x2 : Int32) (x3 : Int32) (s : Mem), P (st_X10_fromWhom_52 N rec x1 x2 x3 s) 52 [(0, .ref (Ga G 0)), (1, .int x1), (2, .int x2), (3, .int x3)] [] s := by
  intro x1 x2 x3 s0
  unfold st_X10_fromWhom_52
  refine jx_iload_n h dX10_fromWhom_52 rfl 2 rfl ?_
  refine jx_if_eq (tgt := 193) h dX10_fromWhom_53 rfl ?_ ?_
  · refine jx_iload_n h dX10_fromWhom_193 rfl 1 rfl ?_
    exact jx_iret h dX10_fromWhom_194
  · refine jx_iconst h dX10_fromWhom_56 ki_m1 ?_
    refine jx_istore (lv' := [(4, .int (-1)), (0, .ref (Ga G 0)), (1, .int x1), (2, .int x2), (3, .int x3)]) h dX10_fromWhom_57 (Nat.le_of_ble_eq_true rfl) rfl ?_
    refine jx_iconst h dX10_fromWhom_59 ki_0 ?_
    refine jx_istore (lv' := [(5, .int 0), (4, .int (-1)), (0, .ref (Ga G 0)), (1, .int x1), (2, .int x2), (3, .int x3)]) h dX10_fromWhom_60 (Nat.le_of_ble_eq_true rfl) rfl ?_
    refine jx_subk [2, 3, 4, 5, 1, 0] h (itr_ind (Q := (fun (f : Int32 → Int32 → Mem → Option (Int32 × Mem)) => ∀ (x4 : Int32) (x5 : Int32) (s : Mem), P (f x4 x5 s) 62 [(0, .ref (Ga G 0)), (1, .int x1), (2, .int x2), (3, .int x3), (4, .int x4), (5, .int x5)] [] s)) (fun _ _ _ => jx_none h) (fun r62 ih62 => ?_) N (-1) 0 s0) rfl
    refine w_X10_fromWhom_62 hG h N x1 x2 x3 ?_ ih62
    intro x4_14 s13
    refine jx_iload_n h dX10_fromWhom_111 rfl 1 rfl ?_
    refine jx_iload_n h dX10_fromWhom_112 rfl 3 rfl ?_
    refine jx_join (fun (j : Int32 → Mem → Option (Int32 × Mem)) => ∀ (t16 : Int32) (s15 : Mem), P (j t16 s15) 127 [(0, .ref (Ga G 0)), (2, .int x2), (4, .int x4_14)] [.int t16, .int x1] s15) (fun t16 s15 => ?_) (fun j127 hj127 => ?_)
    · refine jx_iadd h dX10_fromWhom_127 ?_
      refine jx_lti (fun v17 => ?_)
      refine jx_istore_n (lv' := [(1, .int v17), (0, .ref (Ga G 0)), (2, .int x2), (4, .int x4_14)]) h dX10_fromWhom_128 rfl (Nat.le_of_ble_eq_true rfl) rfl ?_
      refine jx_iconst h dX10_fromWhom_129 ki_0 ?_
      refine jx_istore_n (lv' := [(3, .int 0), (1, .int v17), (0, .ref (Ga G 0)), (2, .int x2), (4, .int x4_14)]) h dX10_fromWhom_130 rfl (Nat.le_of_ble_eq_true rfl) rfl ?_
      refine jx_iload_n h dX10_fromWhom_131 rfl 3 rfl ?_
      refine jx_iconst h dX10_fromWhom_132 ki_1 ?_
      refine jx_iload h dX10_fromWhom_133 4 rfl ?_
      refine jx_ishl h dX10_fromWhom_135 ?_
      refine jx_iconst h dX10_fromWhom_136 ki_m1 ?_
      refine jx_ixor h dX10_fromWhom_137 ?_
      refine jx_iand h dX10_fromWhom_138 ?_
      refine jx_lti (fun v18 => ?_)
      refine jx_istore_n (lv' := [(2, .int v18), (3, .int 0), (1, .int v17), (0, .ref (Ga G 0)), (4, .int x4_14)]) h dX10_fromWhom_139 rfl (Nat.le_of_ble_eq_true rfl) rfl ?_
      refine jx_iconst h dX10_fromWhom_140 ki_0 ?_
      refine jx_istore (lv' := [(5, .int 0), (2, .int v18), (3, .int 0), (1, .int v17), (0, .ref (Ga G 0)), (4, .int x4_14)]) h dX10_fromWhom_141 (Nat.le_of_ble_eq_true rfl) rfl ?_
      refine jx_subk [4, 3, 1, 2, 5, 0] h (itr_ind (Q := (fun (f : Int32 → Mem → Option (Int32 × Mem)) => ∀ (x5 : Int32) (s : Mem), P (f x5 s) 143 [(0, .ref (Ga G 0)), (1, .int v17), (2, .int v18), (3, .int 0), (4, .int x4_14), (5, .int x5)] [] s)) (fun _ _ => jx_none h) (fun r143 ih143 => ?_) N 0 s15) rfl
      refine w_X10_fromWhom_143 hG h N v17 v18 0 x4_14 ?_ ih143
      intro s28
      refine jx_goto (tgt := 52) h dX10_fromWhom_190 rfl ?_
      exact ih v17 v18 0 s28
    · refine jx_if_eq (tgt := 120) h dX10_fromWhom_113 rfl ?_ ?_
      · refine jx_aload_n h dX10_fromWhom_120 rfl 0 rfl ?_
        refine jx_get (v := .ref (Ga G 37)) h fa_X10_119 lm_0 dX10_fromWhom_121 rfl ?_
        refine jx_iload h dX10_fromWhom_124 4 rfl ?_
        refine jx_iaload h lm_37 dX10_fromWhom_126 ?_
        exact jx_subk [0, 2, 4] h (hj127 (gi s13 37 (ix x4_14)) s13) rfl
      · refine jx_iconst h dX10_fromWhom_116 ki_0 ?_
        refine jx_goto (tgt := 127) h dX10_fromWhom_117 rfl ?_
        exact jx_subk [0, 2, 4] h (hj127 0 s13) rfl
set_option maxRecDepth 20000 in
theorem c_X10_fromWhom {G : Gx} (hG : Gok G ∧ IsG G layM fsoM) (N : Nat)  (s : Mem) : Ct G yX10_fromWhom cX10_fromWhom 6 (some .int) 2 [.ref (Ga G 0)] tvI s (f_X10_fromWhom N s) := by
  refine Ct.of hG (by decide) (Nat.le_of_ble_eq_true rfl) (fun P h => ?_)
  show P _ 0 [(0, .ref (Ga G 0))] [] s
  unfold f_X10_fromWhom
  refine jx_iconst h dX10_fromWhom_0 ki_0 ?_
  refine jx_istore_n (lv' := [(1, .int 0), (0, .ref (Ga G 0))]) h dX10_fromWhom_1 rfl (Nat.le_of_ble_eq_true rfl) rfl ?_
  refine jx_iconst h dX10_fromWhom_2 ki_0 ?_
  refine jx_istore_n (lv' := [(2, .int 0), (1, .int 0), (0, .ref (Ga G 0))]) h dX10_fromWhom_3 rfl (Nat.le_of_ble_eq_true rfl) rfl ?_
  refine jx_iconst h dX10_fromWhom_4 ki_5 ?_
  refine jx_istore_n (lv' := [(3, .int 5), (2, .int 0), (1, .int 0), (0, .ref (Ga G 0))]) h dX10_fromWhom_5 rfl (Nat.le_of_ble_eq_true rfl) rfl ?_
  refine jx_subk [3, 2, 1, 0] h (itr_ind (Q := (fun (f : Int32 → Int32 → Mem → Option (Int32 × Mem)) => ∀ (x2 : Int32) (x3 : Int32) (s : Mem), P (f x2 x3 s) 6 [(0, .ref (Ga G 0)), (1, .int 0), (2, .int x2), (3, .int x3)] [] s)) (fun _ _ _ => jx_none h) (fun r6 ih6 => ?_) N 0 5 s) rfl
  refine w_X10_fromWhom_6 hG h N 0 ?_ ih6
  intro x2_6 s5
  refine jx_iload_n h dX10_fromWhom_43 rfl 2 rfl ?_
  refine jx_if_ne (tgt := 50) h dX10_fromWhom_44 rfl ?_ ?_
  · refine jx_iconst h dX10_fromWhom_50 ki_1 ?_
    refine jx_istore_n (lv' := [(3, .int 1), (0, .ref (Ga G 0)), (1, .int 0), (2, .int x2_6)]) h dX10_fromWhom_51 rfl (Nat.le_of_ble_eq_true rfl) rfl ?_
    refine jx_subk [1, 2, 3, 0] h (itr_ind (Q := (fun (f : Int32 → Int32 → Int32 → Mem → Option (Int32 × Mem)) => ∀ (x1 : Int32) (x2 : Int32) (x3 : Int32) (s : Mem), P (f x1 x2 x3 s) 52 [(0, .ref (Ga G 0)), (1, .int x1), (2, .int x2), (3, .int x3)] [] s)) (fun _ _ _ _ => jx_none h) (fun r52 ih52 => ?_) N 0 x2_6 1 s5) rfl
    refine w_X10_fromWhom_52 hG h N   ih52
  · refine jx_bipush h dX10_fromWhom_47 kb_m2 ?_
    exact jx_iret h dX10_fromWhom_49
noncomputable def st_X10_misspelt_60 (N : Nat) (x1 : Int32) (x2 : Int32) (x3 : Int32) (k102 : Mem → Option (Int32 × Mem)) (rec : Int32 → Mem → Option (Int32 × Mem)) (x4 : Int32) (s0 : Mem) : Option (Int32 × Mem) :=
  if x3 ≤ x4 then (k102 s0) else chk (((40 : Int32) * x1) + x4) 280 (chk (((40 : Int32) * x2) + x4) 280 (if (gi s0 33 (ix (((40 : Int32) * x1) + x4))) = (gi s0 33 (ix (((40 : Int32) * x2) + x4))) then (lt (x4 + 1) (fun x4_7 => rec x4_7 s0)) else some (x4, s0)))
noncomputable def f_X10_misspelt (N : Nat) (x1 : Int32) (x2 : Int32) (s : Mem) : Option (Int32 × Mem) :=
  bd (f_X10_in N x1 0 5 s) (fun r2 s1 => if r2 = 0 then (some ((-1), s1)) else bd (f_X10_in N x2 0 5 s1) (fun r4 s3 => if r4 = 0 then (some ((-1), s3)) else chk x1 7 (if (gi s3 34 (ix x1)) = 0 then (some ((-2), s3)) else chk x2 7 (if (gi s3 34 (ix x2)) = 0 then (some ((-2), s3)) else chk x1 7 (chk x2 7 (bd (f_X10_min N (gi s3 34 (ix x1)) (gi s3 34 (ix x2)) s3) (fun r6 s5 => itr (fun _ _ => none) (st_X10_misspelt_60 N x1 x2 r6 (fun  (s8 : Mem) => chk x1 7 (chk x2 7 (if (gi s8 34 (ix x1)) = (gi s8 34 (ix x2)) then (some ((-2), s8)) else some (r6, s8))))) N 0 s5)))))))
set_option maxRecDepth 20000 in
theorem w_X10_misspelt_60 {G : Gx} (hG : Gok G ∧ IsG G layM fsoM) {P : Option (Int32 × Mem) → Nat → List (Nat × Value) → List Value → Mem → Prop} (h : Jk G layM fsoM RX10 cX10_misspelt 5 (some .int) 1 tvI P) (N : Nat) (x1 : Int32) (x2 : Int32) (x3 : Int32) {k102 : Mem → Option (Int32 × Mem)} (hk102 : ∀  (s : Mem), P (k102 s) 102 [(0, .ref (Ga G 0)), (1, .int x1), (2, .int x2), (3, .int x3)] [] s) {rec : Int32 → Mem → Option (Int32 × Mem)} (ih : ∀ (x4 : Int32) (s : Mem), P (rec x4 s) 60 [(0, .ref (Ga G 0)), (1, .int x1), (2, .int x2), (3, .int x3), (4, .int x4)] [] s) : ∀ (x4 : Int32) (s : Mem), P (st_X10_misspelt_60 N x1 x2 x3 k102 rec x4 s) 60 [(0, .ref (Ga G 0)), (1, .int x1), (2, .int x2), (3, .int x3), (4, .int x4)] [] s := by
  intro x4 s0
  unfold st_X10_misspelt_60
  refine jx_iload h dX10_misspelt_60 4 rfl ?_
  refine jx_iload_n h dX10_misspelt_62 rfl 3 rfl ?_
  refine jx_icmp_ge (tgt := 102) h dX10_misspelt_63 rfl ?_ ?_
  · exact jx_subk [0, 1, 2, 3] h (hk102 s0) rfl
  · refine jx_aload_n h dX10_misspelt_66 rfl 0 rfl ?_
    refine jx_get (v := .ref (Ga G 33)) h fa_X10_107 lm_0 dX10_misspelt_67 rfl ?_
    refine jx_bipush h dX10_misspelt_70 kb_40 ?_
    refine jx_iload_n h dX10_misspelt_72 rfl 1 rfl ?_
    refine jx_imul h dX10_misspelt_73 ?_
    refine jx_iload h dX10_misspelt_74 4 rfl ?_
    refine jx_iadd h dX10_misspelt_76 ?_
    refine jx_baload h lm_33 dX10_misspelt_77 ?_
    refine jx_aload_n h dX10_misspelt_78 rfl 0 rfl ?_
    refine jx_get (v := .ref (Ga G 33)) h fa_X10_107 lm_0 dX10_misspelt_79 rfl ?_
    refine jx_bipush h dX10_misspelt_82 kb_40 ?_
    refine jx_iload_n h dX10_misspelt_84 rfl 2 rfl ?_
    refine jx_imul h dX10_misspelt_85 ?_
    refine jx_iload h dX10_misspelt_86 4 rfl ?_
    refine jx_iadd h dX10_misspelt_88 ?_
    refine jx_baload h lm_33 dX10_misspelt_89 ?_
    refine jx_icmp_eq (tgt := 96) h dX10_misspelt_90 rfl ?_ ?_
    · refine jx_iincl (L := fun w => [(4, .int w), (0, .ref (Ga G 0)), (1, .int x1), (2, .int x2), (3, .int x3)]) h dX10_misspelt_96 4 rfl (kn_1 _) (Nat.le_of_ble_eq_true rfl) (fun _ => rfl) (fun x4_7 => ?_)
      refine jx_goto (tgt := 60) h dX10_misspelt_99 rfl ?_
      exact jx_subk [1, 2, 3, 4, 0] h (ih x4_7 s0) rfl
    · refine jx_iload h dX10_misspelt_93 4 rfl ?_
      exact jx_iret h dX10_misspelt_95
set_option maxRecDepth 20000 in
theorem c_X10_misspelt {G : Gx} (hG : Gok G ∧ IsG G layM fsoM) (N : Nat) (x1 : Int32) (x2 : Int32) (s : Mem) : Ct G yX10_misspelt cX10_misspelt 5 (some .int) 1 [.ref (Ga G 0), .int x1, .int x2] tvI s (f_X10_misspelt N x1 x2 s) := by
  refine Ct.of hG (by decide) (Nat.le_of_ble_eq_true rfl) (fun P h => ?_)
  show P _ 0 [(0, .ref (Ga G 0)), (1, .int x1), (2, .int x2)] [] s
  unfold f_X10_misspelt
  refine jx_iload_n h dX10_misspelt_0 rfl 1 rfl ?_
  refine jx_iconst h dX10_misspelt_1 ki_0 ?_
  refine jx_iconst h dX10_misspelt_2 ki_5 ?_
  refine jx_callSi [] h (c_X10_in hG N x1 0 5 s) ml_X10_134 (Nat.le_of_ble_eq_true rfl) (Nat.le_of_ble_eq_true rfl) dX10_misspelt_3 (Nat.le_of_ble_eq_true rfl) rfl (fun r2 s1 => ?_)
  refine jx_if_eq (tgt := 18) h dX10_misspelt_6 rfl ?_ ?_
  · refine jx_iconst h dX10_misspelt_18 ki_m1 ?_
    exact jx_iret h dX10_misspelt_19
  · refine jx_iload_n h dX10_misspelt_9 rfl 2 rfl ?_
    refine jx_iconst h dX10_misspelt_10 ki_0 ?_
    refine jx_iconst h dX10_misspelt_11 ki_5 ?_
    refine jx_callSi [] h (c_X10_in hG N x2 0 5 s1) ml_X10_134 (Nat.le_of_ble_eq_true rfl) (Nat.le_of_ble_eq_true rfl) dX10_misspelt_12 (Nat.le_of_ble_eq_true rfl) rfl (fun r4 s3 => ?_)
    refine jx_if_ne (tgt := 20) h dX10_misspelt_15 rfl ?_ ?_
    · refine jx_aload_n h dX10_misspelt_20 rfl 0 rfl ?_
      refine jx_get (v := .ref (Ga G 34)) h fa_X10_110 lm_0 dX10_misspelt_21 rfl ?_
      refine jx_iload_n h dX10_misspelt_24 rfl 1 rfl ?_
      refine jx_iaload h lm_34 dX10_misspelt_25 ?_
      refine jx_if_eq (tgt := 38) h dX10_misspelt_26 rfl ?_ ?_
      · refine jx_bipush h dX10_misspelt_38 kb_m2 ?_
        exact jx_iret h dX10_misspelt_40
      · refine jx_aload_n h dX10_misspelt_29 rfl 0 rfl ?_
        refine jx_get (v := .ref (Ga G 34)) h fa_X10_110 lm_0 dX10_misspelt_30 rfl ?_
        refine jx_iload_n h dX10_misspelt_33 rfl 2 rfl ?_
        refine jx_iaload h lm_34 dX10_misspelt_34 ?_
        refine jx_if_ne (tgt := 41) h dX10_misspelt_35 rfl ?_ ?_
        · refine jx_aload_n h dX10_misspelt_41 rfl 0 rfl ?_
          refine jx_get (v := .ref (Ga G 34)) h fa_X10_110 lm_0 dX10_misspelt_42 rfl ?_
          refine jx_iload_n h dX10_misspelt_45 rfl 1 rfl ?_
          refine jx_iaload h lm_34 dX10_misspelt_46 ?_
          refine jx_aload_n h dX10_misspelt_47 rfl 0 rfl ?_
          refine jx_get (v := .ref (Ga G 34)) h fa_X10_110 lm_0 dX10_misspelt_48 rfl ?_
          refine jx_iload_n h dX10_misspelt_51 rfl 2 rfl ?_
          refine jx_iaload h lm_34 dX10_misspelt_52 ?_
          refine jx_callSi [] h (c_X10_min hG N (gi s3 34 (ix x1)) (gi s3 34 (ix x2)) s3) ml_X10_271 (Nat.le_of_ble_eq_true rfl) (Nat.le_of_ble_eq_true rfl) dX10_misspelt_53 (Nat.le_of_ble_eq_true rfl) rfl (fun r6 s5 => ?_)
          refine jx_istore_n (lv' := [(3, .int r6), (0, .ref (Ga G 0)), (1, .int x1), (2, .int x2)]) h dX10_misspelt_56 rfl (Nat.le_of_ble_eq_true rfl) rfl ?_
          refine jx_iconst h dX10_misspelt_57 ki_0 ?_
          refine jx_istore (lv' := [(4, .int 0), (3, .int r6), (0, .ref (Ga G 0)), (1, .int x1), (2, .int x2)]) h dX10_misspelt_58 (Nat.le_of_ble_eq_true rfl) rfl ?_
          refine jx_subk [2, 3, 4, 1, 0] h (itr_ind (Q := (fun (f : Int32 → Mem → Option (Int32 × Mem)) => ∀ (x4 : Int32) (s : Mem), P (f x4 s) 60 [(0, .ref (Ga G 0)), (1, .int x1), (2, .int x2), (3, .int r6), (4, .int x4)] [] s)) (fun _ _ => jx_none h) (fun r60 ih60 => ?_) N 0 s5) rfl
          refine w_X10_misspelt_60 hG h N x1 x2 r6 ?_ ih60
          intro s8
          refine jx_aload_n h dX10_misspelt_102 rfl 0 rfl ?_
          refine jx_get (v := .ref (Ga G 34)) h fa_X10_110 lm_0 dX10_misspelt_103 rfl ?_
          refine jx_iload_n h dX10_misspelt_106 rfl 1 rfl ?_
          refine jx_iaload h lm_34 dX10_misspelt_107 ?_
          refine jx_aload_n h dX10_misspelt_108 rfl 0 rfl ?_
          refine jx_get (v := .ref (Ga G 34)) h fa_X10_110 lm_0 dX10_misspelt_109 rfl ?_
          refine jx_iload_n h dX10_misspelt_112 rfl 2 rfl ?_
          refine jx_iaload h lm_34 dX10_misspelt_113 ?_
          refine jx_icmp_ne (tgt := 122) h dX10_misspelt_114 rfl ?_ ?_
          · refine jx_iload_n h dX10_misspelt_122 rfl 3 rfl ?_
            exact jx_iret h dX10_misspelt_123
          · refine jx_bipush h dX10_misspelt_117 kb_m2 ?_
            refine jx_goto (tgt := 123) h dX10_misspelt_119 rfl ?_
            exact jx_iret h dX10_misspelt_123
        · refine jx_bipush h dX10_misspelt_38 kb_m2 ?_
          exact jx_iret h dX10_misspelt_40
    · refine jx_iconst h dX10_misspelt_18 ki_m1 ?_
      exact jx_iret h dX10_misspelt_19
noncomputable def st_X10_bids_51 (N : Nat) (x1 : Int32) (x2 : Int32) (x3 : Int32) (k82 : Int32 → Mem → Option (Int32 × Mem)) (rec : Int32 → Int32 → Mem → Option (Int32 × Mem)) (x4 : Int32) (x5 : Int32) (s0 : Mem) : Option (Int32 × Mem) :=
  if x1 ≤ x5 then (k82 x4 s0) else bd (f_X10_octet N x5 s0) (fun r9 s8 => bd (f_X10_octet N x4 s8) (fun r11 s10 => if r9 ≤ r11 then (lt (x5 + 1) (fun x5_12 => rec x4 x5_12 s10)) else lt (x5 + 1) (fun x5_13 => rec x5 x5_13 s10)))
noncomputable def st_X10_bids_101 (N : Nat) (x1 : Int32) (x3 : Int32) (x4 : Int32) (k133 : Int32 → Mem → Option (Int32 × Mem)) (rec : Int32 → Int32 → Mem → Option (Int32 × Mem)) (x5 : Int32) (x6 : Int32) (s0 : Mem) : Option (Int32 × Mem) :=
  if x1 ≤ x6 then (k133 x5 s0) else if x6 = x4 then (lt (x6 + 1) (fun x6_18 => rec x5 x6_18 s0)) else bd (f_X10_octet N x6 s0) (fun r20 s19 => bd (f_X10_max N x5 r20 s19) (fun r22 s21 => lt (x6 + 1) (fun x6_23 => rec r22 x6_23 s21)))
noncomputable def f_X10_bids (N : Nat) (x1 : Int32) (x2 : Int32) (x3 : Int32) (s : Mem) : Option (Int32 × Mem) :=
  bd (f_X10_in N x1 1 12 s) (fun r2 s1 => if r2 = 0 then (some ((-1), s1)) else bd (f_X10_in N x2 0 255 s1) (fun r4 s3 => if r4 = 0 then (some ((-1), s3)) else bd (f_X10_in N x3 0 1 s3) (fun r6 s5 => if r6 = 0 then (some ((-1), s5)) else if x1 ≤ (gi s5 0 5) then (lt (si s5 0 5 0) (fun s7 => itr (fun _ _ _ => none) (st_X10_bids_51 N x1 x2 x3 (fun (x4_15 : Int32) (s14 : Mem) => bd (f_X10_octet N x4_15 s14) (fun r17 s16 => if x2 ≤ r17 then (itr (fun _ _ _ => none) (st_X10_bids_101 N x1 x3 x4_15 (fun (x5_25 : Int32) (s24 : Mem) => if x3 = 0 then (some (x4_15, s24)) else some (x5_25, s24))) N x2 0 s16) else some ((-2), s16)))) N 0 1 s7)) else some ((-1), s5))))
set_option maxRecDepth 20000 in
theorem w_X10_bids_51 {G : Gx} (hG : Gok G ∧ IsG G layM fsoM) {P : Option (Int32 × Mem) → Nat → List (Nat × Value) → List Value → Mem → Prop} (h : Jk G layM fsoM RX10 cX10_bids 7 (some .int) 1 tvI P) (N : Nat) (x1 : Int32) (x2 : Int32) (x3 : Int32) {k82 : Int32 → Mem → Option (Int32 × Mem)} (hk82 : ∀ (x4 : Int32) (s : Mem), P (k82 x4 s) 82 [(0, .ref (Ga G 0)), (1, .int x1), (2, .int x2), (3, .int x3), (4, .int x4)] [] s) {rec : Int32 → Int32 → Mem → Option (Int32 × Mem)} (ih : ∀ (x4 : Int32) (x5 : Int32) (s : Mem), P (rec x4 x5 s) 51 [(0, .ref (Ga G 0)), (1, .int x1), (2, .int x2), (3, .int x3), (4, .int x4), (5, .int x5)] [] s) : ∀ (x4 : Int32) (x5 : Int32) (s : Mem), P (st_X10_bids_51 N x1 x2 x3 k82 rec x4 x5 s) 51 [(0, .ref (Ga G 0)), (1, .int x1), (2, .int x2), (3, .int x3), (4, .int x4), (5, .int x5)] [] s := by
  intro x4 x5 s0
  unfold st_X10_bids_51
  refine jx_iload h dX10_bids_51 5 rfl ?_
  refine jx_iload_n h dX10_bids_53 rfl 1 rfl ?_
  refine jx_icmp_ge (tgt := 82) h dX10_bids_54 rfl ?_ ?_
  · exact jx_subk [0, 1, 2, 3, 4] h (hk82 x4 s0) rfl
  · refine jx_aload_n h dX10_bids_57 rfl 0 rfl ?_
    refine jx_iload h dX10_bids_58 5 rfl ?_
    refine jx_callVi [] h lm_0 (c_X10_octet hG N x5 s0) ml_X10_388 (Nat.le_of_ble_eq_true rfl) (Nat.le_of_ble_eq_true rfl) dX10_bids_60 (Nat.le_of_ble_eq_true rfl) rfl (fun r9 s8 => ?_)
    refine jx_aload_n h dX10_bids_63 rfl 0 rfl ?_
    refine jx_iload h dX10_bids_64 4 rfl ?_
    refine jx_callVi [.int r9] h lm_0 (c_X10_octet hG N x4 s8) ml_X10_388 (Nat.le_of_ble_eq_true rfl) (Nat.le_of_ble_eq_true rfl) dX10_bids_66 (Nat.le_of_ble_eq_true rfl) rfl (fun r11 s10 => ?_)
    refine jx_icmp_le (tgt := 76) h dX10_bids_69 rfl ?_ ?_
    · refine jx_iincl (L := fun w => [(5, .int w), (0, .ref (Ga G 0)), (1, .int x1), (2, .int x2), (3, .int x3), (4, .int x4)]) h dX10_bids_76 5 rfl (kn_1 _) (Nat.le_of_ble_eq_true rfl) (fun _ => rfl) (fun x5_12 => ?_)
      refine jx_goto (tgt := 51) h dX10_bids_79 rfl ?_
      exact jx_subk [1, 2, 3, 4, 5, 0] h (ih x4 x5_12 s10) rfl
    · refine jx_iload h dX10_bids_72 5 rfl ?_
      refine jx_istore (lv' := [(4, .int x5), (0, .ref (Ga G 0)), (1, .int x1), (2, .int x2), (3, .int x3), (5, .int x5)]) h dX10_bids_74 (Nat.le_of_ble_eq_true rfl) rfl ?_
      refine jx_iincl (L := fun w => [(5, .int w), (4, .int x5), (0, .ref (Ga G 0)), (1, .int x1), (2, .int x2), (3, .int x3)]) h dX10_bids_76 5 rfl (kn_1 _) (Nat.le_of_ble_eq_true rfl) (fun _ => rfl) (fun x5_13 => ?_)
      refine jx_goto (tgt := 51) h dX10_bids_79 rfl ?_
      exact jx_subk [2, 3, 4, 5, 1, 0] h (ih x5 x5_13 s10) rfl
set_option maxRecDepth 20000 in
theorem w_X10_bids_101 {G : Gx} (hG : Gok G ∧ IsG G layM fsoM) {P : Option (Int32 × Mem) → Nat → List (Nat × Value) → List Value → Mem → Prop} (h : Jk G layM fsoM RX10 cX10_bids 7 (some .int) 1 tvI P) (N : Nat) (x1 : Int32) (x3 : Int32) (x4 : Int32) {k133 : Int32 → Mem → Option (Int32 × Mem)} (hk133 : ∀ (x5 : Int32) (s : Mem), P (k133 x5 s) 133 [(3, .int x3), (4, .int x4), (5, .int x5)] [] s) {rec : Int32 → Int32 → Mem → Option (Int32 × Mem)} (ih : ∀ (x5 : Int32) (x6 : Int32) (s : Mem), P (rec x5 x6 s) 101 [(0, .ref (Ga G 0)), (1, .int x1), (3, .int x3), (4, .int x4), (5, .int x5), (6, .int x6)] [] s) : ∀ (x5 : Int32) (x6 : Int32) (s : Mem), P (st_X10_bids_101 N x1 x3 x4 k133 rec x5 x6 s) 101 [(0, .ref (Ga G 0)), (1, .int x1), (3, .int x3), (4, .int x4), (5, .int x5), (6, .int x6)] [] s := by
  intro x5 x6 s0
  unfold st_X10_bids_101
  refine jx_iload h dX10_bids_101 5 rfl ?_
  refine jx_iload_n h dX10_bids_103 rfl 1 rfl ?_
  refine jx_icmp_ge (tgt := 133) h dX10_bids_104 rfl ?_ ?_
  · exact jx_subk [2, 3, 4] h (hk133 x5 s0) rfl
  · refine jx_iload h dX10_bids_107 5 rfl ?_
    refine jx_iload h dX10_bids_109 3 rfl ?_
    refine jx_icmp_eq (tgt := 127) h dX10_bids_111 rfl ?_ ?_
    · refine jx_iincl (L := fun w => [(6, .int w), (0, .ref (Ga G 0)), (1, .int x1), (3, .int x3), (4, .int x4), (5, .int x5)]) h dX10_bids_127 5 rfl (kn_1 _) (Nat.le_of_ble_eq_true rfl) (fun _ => rfl) (fun x6_18 => ?_)
      refine jx_goto (tgt := 101) h dX10_bids_130 rfl ?_
      exact jx_subk [1, 2, 3, 4, 5, 0] h (ih x5 x6_18 s0) rfl
    · refine jx_iload h dX10_bids_114 4 rfl ?_
      refine jx_aload_n h dX10_bids_116 rfl 0 rfl ?_
      refine jx_iload h dX10_bids_117 5 rfl ?_
      refine jx_callVi [.int x5] h lm_0 (c_X10_octet hG N x6 s0) ml_X10_388 (Nat.le_of_ble_eq_true rfl) (Nat.le_of_ble_eq_true rfl) dX10_bids_119 (Nat.le_of_ble_eq_true rfl) rfl (fun r20 s19 => ?_)
      refine jx_callSi [] h (c_X10_max hG N x5 r20 s19) ml_X10_376 (Nat.le_of_ble_eq_true rfl) (Nat.le_of_ble_eq_true rfl) dX10_bids_122 (Nat.le_of_ble_eq_true rfl) rfl (fun r22 s21 => ?_)
      refine jx_istore (lv' := [(5, .int r22), (0, .ref (Ga G 0)), (1, .int x1), (3, .int x3), (4, .int x4), (6, .int x6)]) h dX10_bids_125 (Nat.le_of_ble_eq_true rfl) rfl ?_
      refine jx_iincl (L := fun w => [(6, .int w), (5, .int r22), (0, .ref (Ga G 0)), (1, .int x1), (3, .int x3), (4, .int x4)]) h dX10_bids_127 5 rfl (kn_1 _) (Nat.le_of_ble_eq_true rfl) (fun _ => rfl) (fun x6_23 => ?_)
      refine jx_goto (tgt := 101) h dX10_bids_130 rfl ?_
      exact jx_subk [2, 3, 4, 5, 1, 0] h (ih r22 x6_23 s21) rfl
set_option maxRecDepth 20000 in
theorem c_X10_bids {G : Gx} (hG : Gok G ∧ IsG G layM fsoM) (N : Nat) (x1 : Int32) (x2 : Int32) (x3 : Int32) (s : Mem) : Ct G yX10_bids cX10_bids 7 (some .int) 1 [.ref (Ga G 0), .int x1, .int x2, .int x3] tvI s (f_X10_bids N x1 x2 x3 s) := by
  refine Ct.of hG (by decide) (Nat.le_of_ble_eq_true rfl) (fun P h => ?_)
  show P _ 0 [(0, .ref (Ga G 0)), (1, .int x1), (2, .int x2), (3, .int x3)] [] s
  unfold f_X10_bids
  refine jx_iload_n h dX10_bids_0 rfl 1 rfl ?_
  refine jx_iconst h dX10_bids_1 ki_1 ?_
  refine jx_bipush h dX10_bids_2 kb_12 ?_
  refine jx_callSi [] h (c_X10_in hG N x1 1 12 s) ml_X10_134 (Nat.le_of_ble_eq_true rfl) (Nat.le_of_ble_eq_true rfl) dX10_bids_4 (Nat.le_of_ble_eq_true rfl) rfl (fun r2 s1 => ?_)
  refine jx_if_eq (tgt := 38) h dX10_bids_7 rfl ?_ ?_
  · refine jx_iconst h dX10_bids_38 ki_m1 ?_
    exact jx_iret h dX10_bids_39
  · refine jx_iload_n h dX10_bids_10 rfl 2 rfl ?_
    refine jx_iconst h dX10_bids_11 ki_0 ?_
    refine jx_sipush h dX10_bids_12 ks_255 ?_
    refine jx_callSi [] h (c_X10_in hG N x2 0 255 s1) ml_X10_134 (Nat.le_of_ble_eq_true rfl) (Nat.le_of_ble_eq_true rfl) dX10_bids_15 (Nat.le_of_ble_eq_true rfl) rfl (fun r4 s3 => ?_)
    refine jx_if_eq (tgt := 38) h dX10_bids_18 rfl ?_ ?_
    · refine jx_iconst h dX10_bids_38 ki_m1 ?_
      exact jx_iret h dX10_bids_39
    · refine jx_iload_n h dX10_bids_21 rfl 3 rfl ?_
      refine jx_iconst h dX10_bids_22 ki_0 ?_
      refine jx_iconst h dX10_bids_23 ki_1 ?_
      refine jx_callSi [] h (c_X10_in hG N x3 0 1 s3) ml_X10_134 (Nat.le_of_ble_eq_true rfl) (Nat.le_of_ble_eq_true rfl) dX10_bids_24 (Nat.le_of_ble_eq_true rfl) rfl (fun r6 s5 => ?_)
      refine jx_if_eq (tgt := 38) h dX10_bids_27 rfl ?_ ?_
      · refine jx_iconst h dX10_bids_38 ki_m1 ?_
        exact jx_iret h dX10_bids_39
      · refine jx_iload_n h dX10_bids_30 rfl 1 rfl ?_
        refine jx_aload_n h dX10_bids_31 rfl 0 rfl ?_
        refine jx_get (v := .int (gi s5 0 5)) h fa_X10_150 lm_0 dX10_bids_32 rfl ?_
        refine jx_icmp_le (tgt := 40) h dX10_bids_35 rfl ?_ ?_
        · refine jx_aload_n h dX10_bids_40 rfl 0 rfl ?_
          refine jx_iconst h dX10_bids_41 ki_0 ?_
          refine jx_put h fa_X10_150 fp_X10_5 lm_0 rfl rfl dX10_bids_42 (fu_X10_5 _ _ _ _) (fun s7 => ?_)
          refine jx_iconst h dX10_bids_45 ki_0 ?_
          refine jx_istore (lv' := [(4, .int 0), (0, .ref (Ga G 0)), (1, .int x1), (2, .int x2), (3, .int x3)]) h dX10_bids_46 (Nat.le_of_ble_eq_true rfl) rfl ?_
          refine jx_iconst h dX10_bids_48 ki_1 ?_
          refine jx_istore (lv' := [(5, .int 1), (4, .int 0), (0, .ref (Ga G 0)), (1, .int x1), (2, .int x2), (3, .int x3)]) h dX10_bids_49 (Nat.le_of_ble_eq_true rfl) rfl ?_
          refine jx_subk [2, 3, 4, 5, 1, 0] h (itr_ind (Q := (fun (f : Int32 → Int32 → Mem → Option (Int32 × Mem)) => ∀ (x4 : Int32) (x5 : Int32) (s : Mem), P (f x4 x5 s) 51 [(0, .ref (Ga G 0)), (1, .int x1), (2, .int x2), (3, .int x3), (4, .int x4), (5, .int x5)] [] s)) (fun _ _ _ => jx_none h) (fun r51 ih51 => ?_) N 0 1 s7) rfl
          refine w_X10_bids_51 hG h N x1 x2 x3 ?_ ih51
          intro x4_15 s14
          refine jx_aload_n h dX10_bids_82 rfl 0 rfl ?_
          refine jx_iload h dX10_bids_83 4 rfl ?_
          refine jx_callVi [] h lm_0 (c_X10_octet hG N x4_15 s14) ml_X10_388 (Nat.le_of_ble_eq_true rfl) (Nat.le_of_ble_eq_true rfl) dX10_bids_85 (Nat.le_of_ble_eq_true rfl) rfl (fun r17 s16 => ?_)
          refine jx_iload_n h dX10_bids_88 rfl 2 rfl ?_
          refine jx_icmp_ge (tgt := 95) h dX10_bids_89 rfl ?_ ?_
          · refine jx_iload_n h dX10_bids_95 rfl 2 rfl ?_
            refine jx_istore (lv' := [(5, .int x2), (0, .ref (Ga G 0)), (1, .int x1), (2, .int x2), (3, .int x3), (4, .int x4_15)]) h dX10_bids_96 (Nat.le_of_ble_eq_true rfl) rfl ?_
            refine jx_iconst h dX10_bids_98 ki_0 ?_
            refine jx_istore (lv' := [(6, .int 0), (5, .int x2), (0, .ref (Ga G 0)), (1, .int x1), (2, .int x2), (3, .int x3), (4, .int x4_15)]) h dX10_bids_99 (Nat.le_of_ble_eq_true rfl) rfl ?_
            refine jx_subk [2, 3, 5, 6, 1, 0] h (itr_ind (Q := (fun (f : Int32 → Int32 → Mem → Option (Int32 × Mem)) => ∀ (x5 : Int32) (x6 : Int32) (s : Mem), P (f x5 x6 s) 101 [(0, .ref (Ga G 0)), (1, .int x1), (3, .int x3), (4, .int x4_15), (5, .int x5), (6, .int x6)] [] s)) (fun _ _ _ => jx_none h) (fun r101 ih101 => ?_) N x2 0 s16) rfl
            refine w_X10_bids_101 hG h N x1 x3 x4_15 ?_ ih101
            intro x5_25 s24
            refine jx_iload_n h dX10_bids_133 rfl 0 rfl ?_
            refine jx_if_ne (tgt := 142) h dX10_bids_134 rfl ?_ ?_
            · refine jx_iload h dX10_bids_142 2 rfl ?_
              exact jx_iret h dX10_bids_144
            · refine jx_iload h dX10_bids_137 1 rfl ?_
              refine jx_goto (tgt := 144) h dX10_bids_139 rfl ?_
              exact jx_iret h dX10_bids_144
          · refine jx_bipush h dX10_bids_92 kb_m2 ?_
            exact jx_iret h dX10_bids_94
        · refine jx_iconst h dX10_bids_38 ki_m1 ?_
          exact jx_iret h dX10_bids_39
noncomputable def st_X10_allLost_4 (N : Nat) (x1 : Int32)  (rec : Int32 → Int32 → Mem → Option (Int32 × Mem)) (x2 : Int32) (x3 : Int32) (s0 : Mem) : Option (Int32 × Mem) :=
  if x1 ≤ x3 then (some (x2, s0)) else chk x3 8 (lt (x2 + (gi s0 38 (ix x3))) (fun v1 => lt (x3 + 1) (fun x3_2 => rec v1 x3_2 s0)))
noncomputable def f_X10_allLost (N : Nat) (x1 : Int32) (s : Mem) : Option (Int32 × Mem) :=
  itr (fun _ _ _ => none) (st_X10_allLost_4 N x1) N 0 0 s
set_option maxRecDepth 20000 in
theorem w_X10_allLost_4 {G : Gx} (hG : Gok G ∧ IsG G layM fsoM) {P : Option (Int32 × Mem) → Nat → List (Nat × Value) → List Value → Mem → Prop} (h : Jk G layM fsoM RX10 cX10_allLost 4 (some .int) 0 tvI P) (N : Nat) (x1 : Int32) {rec : Int32 → Int32 → Mem → Option (Int32 × Mem)} (ih : ∀ (x2 : Int32) (x3 : Int32) (s : Mem), P (rec x2 x3 s) 4 [(0, .ref (Ga G 0)), (1, .int x1), (2, .int x2), (3, .int x3)] [] s) : ∀ (x2 : Int32) (x3 : Int32) (s : Mem), P (st_X10_allLost_4 N x1 rec x2 x3 s) 4 [(0, .ref (Ga G 0)), (1, .int x1), (2, .int x2), (3, .int x3)] [] s := by
  intro x2 x3 s0
  unfold st_X10_allLost_4
  refine jx_iload_n h dX10_allLost_4 rfl 3 rfl ?_
  refine jx_iload_n h dX10_allLost_5 rfl 1 rfl ?_
  refine jx_icmp_ge (tgt := 24) h dX10_allLost_6 rfl ?_ ?_
  · refine jx_iload_n h dX10_allLost_24 rfl 2 rfl ?_
    exact jx_iret h dX10_allLost_25
  · refine jx_iload_n h dX10_allLost_9 rfl 2 rfl ?_
    refine jx_aload_n h dX10_allLost_10 rfl 0 rfl ?_
    refine jx_get (v := .ref (Ga G 38)) h fa_X10_122 lm_0 dX10_allLost_11 rfl ?_
    refine jx_iload_n h dX10_allLost_14 rfl 3 rfl ?_
    refine jx_iaload h lm_38 dX10_allLost_15 ?_
    refine jx_iadd h dX10_allLost_16 ?_
    refine jx_lti (fun v1 => ?_)
    refine jx_istore_n (lv' := [(2, .int v1), (0, .ref (Ga G 0)), (1, .int x1), (3, .int x3)]) h dX10_allLost_17 rfl (Nat.le_of_ble_eq_true rfl) rfl ?_
    refine jx_iincl (L := fun w => [(3, .int w), (2, .int v1), (0, .ref (Ga G 0)), (1, .int x1)]) h dX10_allLost_18 3 rfl (kn_1 _) (Nat.le_of_ble_eq_true rfl) (fun _ => rfl) (fun x3_2 => ?_)
    refine jx_goto (tgt := 4) h dX10_allLost_21 rfl ?_
    exact jx_subk [2, 3, 1, 0] h (ih v1 x3_2 s0) rfl
set_option maxRecDepth 20000 in
theorem c_X10_allLost {G : Gx} (hG : Gok G ∧ IsG G layM fsoM) (N : Nat) (x1 : Int32) (s : Mem) : Ct G yX10_allLost cX10_allLost 4 (some .int) 0 [.ref (Ga G 0), .int x1] tvI s (f_X10_allLost N x1 s) := by
  refine Ct.of hG (by decide) (Nat.le_of_ble_eq_true rfl) (fun P h => ?_)
  show P _ 0 [(0, .ref (Ga G 0)), (1, .int x1)] [] s
  unfold f_X10_allLost
  refine jx_iconst h dX10_allLost_0 ki_0 ?_
  refine jx_istore_n (lv' := [(2, .int 0), (0, .ref (Ga G 0)), (1, .int x1)]) h dX10_allLost_1 rfl (Nat.le_of_ble_eq_true rfl) rfl ?_
  refine jx_iconst h dX10_allLost_2 ki_0 ?_
  refine jx_istore_n (lv' := [(3, .int 0), (2, .int 0), (0, .ref (Ga G 0)), (1, .int x1)]) h dX10_allLost_3 rfl (Nat.le_of_ble_eq_true rfl) rfl ?_
  refine jx_subk [2, 3, 1, 0] h (itr_ind (Q := (fun (f : Int32 → Int32 → Mem → Option (Int32 × Mem)) => ∀ (x2 : Int32) (x3 : Int32) (s : Mem), P (f x2 x3 s) 4 [(0, .ref (Ga G 0)), (1, .int x1), (2, .int x2), (3, .int x3)] [] s)) (fun _ _ _ => jx_none h) (fun r4 ih4 => ?_) N 0 0 s) rfl
  refine w_X10_allLost_4 hG h N x1  ih4
noncomputable def st_X10_givenUpTo_5 (N : Nat) (x1 : Int32) (x2 : Int32)  (rec : Int32 → Int32 → Mem → Option (Int32 × Mem)) (x3 : Int32) (x4 : Int32) (s0 : Mem) : Option (Int32 × Mem) :=
  if x1 ≤ x4 then (some (x3, s0)) else chk x4 8 (bd (f_X10_min N (gi s0 38 (ix x4)) x2 s0) (fun r2 s1 => lt (x3 + r2) (fun v3 => lt (x4 + 1) (fun x4_4 => rec v3 x4_4 s1))))
noncomputable def f_X10_givenUpTo (N : Nat) (x1 : Int32) (x2 : Int32) (s : Mem) : Option (Int32 × Mem) :=
  itr (fun _ _ _ => none) (st_X10_givenUpTo_5 N x1 x2) N 0 0 s
set_option maxRecDepth 20000 in
theorem w_X10_givenUpTo_5 {G : Gx} (hG : Gok G ∧ IsG G layM fsoM) {P : Option (Int32 × Mem) → Nat → List (Nat × Value) → List Value → Mem → Prop} (h : Jk G layM fsoM RX10 cX10_givenUpTo 5 (some .int) 1 tvI P) (N : Nat) (x1 : Int32) (x2 : Int32) {rec : Int32 → Int32 → Mem → Option (Int32 × Mem)} (ih : ∀ (x3 : Int32) (x4 : Int32) (s : Mem), P (rec x3 x4 s) 5 [(0, .ref (Ga G 0)), (1, .int x1), (2, .int x2), (3, .int x3), (4, .int x4)] [] s) : ∀ (x3 : Int32) (x4 : Int32) (s : Mem), P (st_X10_givenUpTo_5 N x1 x2 rec x3 x4 s) 5 [(0, .ref (Ga G 0)), (1, .int x1), (2, .int x2), (3, .int x3), (4, .int x4)] [] s := by
  intro x3 x4 s0
  unfold st_X10_givenUpTo_5
  refine jx_iload h dX10_givenUpTo_5 4 rfl ?_
  refine jx_iload_n h dX10_givenUpTo_7 rfl 1 rfl ?_
  refine jx_icmp_ge (tgt := 31) h dX10_givenUpTo_8 rfl ?_ ?_
  · refine jx_iload_n h dX10_givenUpTo_31 rfl 3 rfl ?_
    exact jx_iret h dX10_givenUpTo_32
  · refine jx_iload_n h dX10_givenUpTo_11 rfl 3 rfl ?_
    refine jx_aload_n h dX10_givenUpTo_12 rfl 0 rfl ?_
    refine jx_get (v := .ref (Ga G 38)) h fa_X10_122 lm_0 dX10_givenUpTo_13 rfl ?_
    refine jx_iload h dX10_givenUpTo_16 4 rfl ?_
    refine jx_iaload h lm_38 dX10_givenUpTo_18 ?_
    refine jx_iload_n h dX10_givenUpTo_19 rfl 2 rfl ?_
    refine jx_callSi [.int x3] h (c_X10_min hG N (gi s0 38 (ix x4)) x2 s0) ml_X10_271 (Nat.le_of_ble_eq_true rfl) (Nat.le_of_ble_eq_true rfl) dX10_givenUpTo_20 (Nat.le_of_ble_eq_true rfl) rfl (fun r2 s1 => ?_)
    refine jx_iadd h dX10_givenUpTo_23 ?_
    refine jx_lti (fun v3 => ?_)
    refine jx_istore_n (lv' := [(3, .int v3), (0, .ref (Ga G 0)), (1, .int x1), (2, .int x2), (4, .int x4)]) h dX10_givenUpTo_24 rfl (Nat.le_of_ble_eq_true rfl) rfl ?_
    refine jx_iincl (L := fun w => [(4, .int w), (3, .int v3), (0, .ref (Ga G 0)), (1, .int x1), (2, .int x2)]) h dX10_givenUpTo_25 4 rfl (kn_1 _) (Nat.le_of_ble_eq_true rfl) (fun _ => rfl) (fun x4_4 => ?_)
    refine jx_goto (tgt := 5) h dX10_givenUpTo_28 rfl ?_
    exact jx_subk [2, 3, 4, 1, 0] h (ih v3 x4_4 s1) rfl
set_option maxRecDepth 20000 in
theorem c_X10_givenUpTo {G : Gx} (hG : Gok G ∧ IsG G layM fsoM) (N : Nat) (x1 : Int32) (x2 : Int32) (s : Mem) : Ct G yX10_givenUpTo cX10_givenUpTo 5 (some .int) 1 [.ref (Ga G 0), .int x1, .int x2] tvI s (f_X10_givenUpTo N x1 x2 s) := by
  refine Ct.of hG (by decide) (Nat.le_of_ble_eq_true rfl) (fun P h => ?_)
  show P _ 0 [(0, .ref (Ga G 0)), (1, .int x1), (2, .int x2)] [] s
  unfold f_X10_givenUpTo
  refine jx_iconst h dX10_givenUpTo_0 ki_0 ?_
  refine jx_istore_n (lv' := [(3, .int 0), (0, .ref (Ga G 0)), (1, .int x1), (2, .int x2)]) h dX10_givenUpTo_1 rfl (Nat.le_of_ble_eq_true rfl) rfl ?_
  refine jx_iconst h dX10_givenUpTo_2 ki_0 ?_
  refine jx_istore (lv' := [(4, .int 0), (3, .int 0), (0, .ref (Ga G 0)), (1, .int x1), (2, .int x2)]) h dX10_givenUpTo_3 (Nat.le_of_ble_eq_true rfl) rfl ?_
  refine jx_subk [2, 3, 4, 1, 0] h (itr_ind (Q := (fun (f : Int32 → Int32 → Mem → Option (Int32 × Mem)) => ∀ (x3 : Int32) (x4 : Int32) (s : Mem), P (f x3 x4 s) 5 [(0, .ref (Ga G 0)), (1, .int x1), (2, .int x2), (3, .int x3), (4, .int x4)] [] s)) (fun _ _ _ => jx_none h) (fun r5 ih5 => ?_) N 0 0 s) rfl
  refine w_X10_givenUpTo_5 hG h N x1 x2  ih5
noncomputable def st_X10_givesAlike_2 (N : Nat) (x1 : Int32) (x2 : Int32) (k28 : Int32 → Mem → Option (Unit × Mem)) (rec : Int32 → Mem → Option (Unit × Mem)) (x3 : Int32) (s0 : Mem) : Option (Unit × Mem) :=
  if 9999 ≤ x3 then (k28 x3 s0) else bd (f_X10_givenUpTo N x1 (x3 + 1) s0) (fun r2 s1 => if x2 < r2 then (k28 x3 s1) else lt (x3 + 1) (fun v3 => rec v3 s1))
noncomputable def st_X10_givesAlike_41 (N : Nat) (x1 : Int32) (x3 : Int32)  (rec : Int32 → Int32 → Mem → Option (Unit × Mem)) (x4 : Int32) (x5 : Int32) (s0 : Mem) : Option (Unit × Mem) :=
  if x1 ≤ x5 then (some ((), s0)) else lt (fun (t10 : Int32) (s9 : Mem) => chk x5 8 (chk x5 8 (bd (f_X10_min N (gi s9 38 (ix x5)) x3 s9) (fun r12 s11 => lt (fun (t14 : Int32) (s13 : Mem) => chk x5 8 (lt (si s13 39 (ix x5) (((gi s9 39 (ix x5)) + r12) + t14)) (fun s15 => if t10 = 0 then (lt (x4 - 0) (fun v16 => lt (x5 + 1) (fun x5_17 => rec v16 x5_17 s15))) else lt (x4 - 1) (fun v18 => lt (x5 + 1) (fun x5_19 => rec v18 x5_19 s15))))) (fun j105 => if t10 = 0 then (j105 0 s11) else j105 1 s11))))) (fun j68 => if x4 ≤ 0 then (j68 0 s0) else chk x5 8 (if (gi s0 38 (ix x5)) ≤ x3 then (j68 0 s0) else j68 1 s0))
noncomputable def f_X10_givesAlike (N : Nat) (x1 : Int32) (x2 : Int32) (s : Mem) : Option (Unit × Mem) :=
  itr (fun _ _ => none) (st_X10_givesAlike_2 N x1 x2 (fun (x3_5 : Int32) (s4 : Mem) => bd (f_X10_givenUpTo N x1 x3_5 s4) (fun r7 s6 => lt (x2 - r7) (fun v8 => itr (fun _ _ _ => none) (st_X10_givesAlike_41 N x1 x3_5) N v8 0 s6)))) N 0 s
set_option maxRecDepth 20000 in
theorem w_X10_givesAlike_2 {G : Gx} (hG : Gok G ∧ IsG G layM fsoM) {P : Option (Unit × Mem) → Nat → List (Nat × Value) → List Value → Mem → Prop} (h : Jk G layM fsoM RX10 cX10_givesAlike 7 none 2 tvV P) (N : Nat) (x1 : Int32) (x2 : Int32) {k28 : Int32 → Mem → Option (Unit × Mem)} (hk28 : ∀ (x3 : Int32) (s : Mem), P (k28 x3 s) 28 [(0, .ref (Ga G 0)), (1, .int x1), (2, .int x2), (3, .int x3)] [] s) {rec : Int32 → Mem → Option (Unit × Mem)} (ih : ∀ (x3 : Int32) (s : Mem), P (rec x3 s) 2 [(0, .ref (Ga G 0)), (1, .int x1), (2, .int x2), (3, .int x3)] [] s) : ∀ (x3 : Int32) (s : Mem), P (st_X10_givesAlike_2 N x1 x2 k28 rec x3 s) 2 [(0, .ref (Ga G 0)), (1, .int x1), (2, .int x2), (3, .int x3)] [] s := by
  intro x3 s0
  unfold st_X10_givesAlike_2
  refine jx_iload_n h dX10_givesAlike_2 rfl 3 rfl ?_
  refine jx_sipush h dX10_givesAlike_3 ks_9999 ?_
  refine jx_icmp_ge (tgt := 28) h dX10_givesAlike_6 rfl ?_ ?_
  · exact hk28 x3 s0
  · refine jx_aload_n h dX10_givesAlike_9 rfl 0 rfl ?_
    refine jx_iload_n h dX10_givesAlike_10 rfl 1 rfl ?_
    refine jx_iload_n h dX10_givesAlike_11 rfl 3 rfl ?_
    refine jx_iconst h dX10_givesAlike_12 ki_1 ?_
    refine jx_iadd h dX10_givesAlike_13 ?_
    refine jx_callVi [] h lm_0 (c_X10_givenUpTo hG N x1 (x3 + 1) s0) ml_X10_391 (Nat.le_of_ble_eq_true rfl) (Nat.le_of_ble_eq_true rfl) dX10_givesAlike_14 (Nat.le_of_ble_eq_true rfl) rfl (fun r2 s1 => ?_)
    refine jx_iload_n h dX10_givesAlike_17 rfl 2 rfl ?_
    refine jx_icmp_gt (tgt := 28) h dX10_givesAlike_18 rfl ?_ ?_
    · exact hk28 x3 s1
    · refine jx_iload_n h dX10_givesAlike_21 rfl 3 rfl ?_
      refine jx_iconst h dX10_givesAlike_22 ki_1 ?_
      refine jx_iadd h dX10_givesAlike_23 ?_
      refine jx_lti (fun v3 => ?_)
      refine jx_istore_n (lv' := [(3, .int v3), (0, .ref (Ga G 0)), (1, .int x1), (2, .int x2)]) h dX10_givesAlike_24 rfl (Nat.le_of_ble_eq_true rfl) rfl ?_
      refine jx_goto (tgt := 2) h dX10_givesAlike_25 rfl ?_
      exact jx_subk [1, 2, 3, 0] h (ih v3 s1) rfl
set_option maxRecDepth 20000 in
theorem w_X10_givesAlike_41 {G : Gx} (hG : Gok G ∧ IsG G layM fsoM) {P : Option (Unit × Mem) → Nat → List (Nat × Value) → List Value → Mem → Prop} (h : Jk G layM fsoM RX10 cX10_givesAlike 7 none 2 tvV P) (N : Nat) (x1 : Int32) (x3 : Int32) {rec : Int32 → Int32 → Mem → Option (Unit × Mem)} (ih : ∀ (x4 : Int32) (x5 : Int32) (s : Mem), P (rec x4 x5 s) 41 [(0, .ref (Ga G 0)), (1, .int x1), (3, .int x3), (4, .int x4), (5, .int x5)] [] s) : ∀ (x4 : Int32) (x5 : Int32) (s : Mem), P (st_X10_givesAlike_41 N x1 x3 rec x4 x5 s) 41 [(0, .ref (Ga G 0)), (1, .int x1), (3, .int x3), (4, .int x4), (5, .int x5)] [] s := by
  intro x4 x5 s0
  unfold st_X10_givesAlike_41
  refine jx_iload h dX10_givesAlike_41 4 rfl ?_
  refine jx_iload_n h dX10_givesAlike_43 rfl 1 rfl ?_
  refine jx_icmp_ge (tgt := 128) h dX10_givesAlike_44 rfl ?_ ?_
  · exact jx_vret h dX10_givesAlike_128
  · refine jx_iload h dX10_givesAlike_47 3 rfl ?_
    refine jx_join (fun (j : Int32 → Mem → Option (Unit × Mem)) => ∀ (t10 : Int32) (s9 : Mem), P (j t10 s9) 68 [(0, .ref (Ga G 0)), (1, .int x1), (3, .int x3), (4, .int x4), (5, .int x5)] [.int t10] s9) (fun t10 s9 => ?_) (fun j68 hj68 => ?_)
    · refine jx_istore (lv' := [(6, .int t10), (0, .ref (Ga G 0)), (1, .int x1), (3, .int x3), (4, .int x4), (5, .int x5)]) h dX10_givesAlike_68 (Nat.le_of_ble_eq_true rfl) rfl ?_
      refine jx_aload_n h dX10_givesAlike_70 rfl 1 rfl ?_
      refine jx_get (v := .ref (Ga G 39)) h fa_X10_125 lm_0 dX10_givesAlike_71 rfl ?_
      refine jx_iload h dX10_givesAlike_74 5 rfl ?_
      refine jx_aload_n h dX10_givesAlike_76 rfl 1 rfl ?_
      refine jx_get (v := .ref (Ga G 39)) h fa_X10_125 lm_0 dX10_givesAlike_77 rfl ?_
      refine jx_iload h dX10_givesAlike_80 5 rfl ?_
      refine jx_iaload h lm_39 dX10_givesAlike_82 ?_
      refine jx_aload_n h dX10_givesAlike_83 rfl 1 rfl ?_
      refine jx_get (v := .ref (Ga G 38)) h fa_X10_122 lm_0 dX10_givesAlike_84 rfl ?_
      refine jx_iload h dX10_givesAlike_87 5 rfl ?_
      refine jx_iaload h lm_38 dX10_givesAlike_89 ?_
      refine jx_iload_n h dX10_givesAlike_90 rfl 3 rfl ?_
      refine jx_callSi [.int (gi s9 39 (ix x5)), .int x5, .ref (Ga G 39)] h (c_X10_min hG N (gi s9 38 (ix x5)) x3 s9) ml_X10_271 (Nat.le_of_ble_eq_true rfl) (Nat.le_of_ble_eq_true rfl) dX10_givesAlike_91 (Nat.le_of_ble_eq_true rfl) rfl (fun r12 s11 => ?_)
      refine jx_iadd h dX10_givesAlike_94 ?_
      refine jx_iload h dX10_givesAlike_95 0 rfl ?_
      refine jx_join (fun (j : Int32 → Mem → Option (Unit × Mem)) => ∀ (t14 : Int32) (s13 : Mem), P (j t14 s13) 105 [(0, .ref (Ga G 0)), (1, .int x1), (3, .int x3), (4, .int x4), (5, .int x5), (6, .int t10)] [.int t14, .int ((gi s9 39 (ix x5)) + r12), .int x5, .ref (Ga G 39)] s13) (fun t14 s13 => ?_) (fun j105 hj105 => ?_)
      · refine jx_iadd h dX10_givesAlike_105 ?_
        refine jx_iastore h lm_39 dX10_givesAlike_106 (fun s15 => ?_)
        refine jx_iload h dX10_givesAlike_107 3 rfl ?_
        refine jx_iload h dX10_givesAlike_109 5 rfl ?_
        refine jx_if_eq (tgt := 118) h dX10_givesAlike_111 rfl ?_ ?_
        · refine jx_iconst h dX10_givesAlike_118 ki_0 ?_
          refine jx_isub h dX10_givesAlike_119 ?_
          refine jx_lti (fun v16 => ?_)
          refine jx_istore (lv' := [(4, .int v16), (0, .ref (Ga G 0)), (1, .int x1), (3, .int x3), (5, .int x5), (6, .int t10)]) h dX10_givesAlike_120 (Nat.le_of_ble_eq_true rfl) rfl ?_
          refine jx_iincl (L := fun w => [(5, .int w), (4, .int v16), (0, .ref (Ga G 0)), (1, .int x1), (3, .int x3), (6, .int t10)]) h dX10_givesAlike_122 4 rfl (kn_1 _) (Nat.le_of_ble_eq_true rfl) (fun _ => rfl) (fun x5_17 => ?_)
          refine jx_goto (tgt := 41) h dX10_givesAlike_125 rfl ?_
          exact jx_subk [2, 3, 4, 1, 0] h (ih v16 x5_17 s15) rfl
        · refine jx_iconst h dX10_givesAlike_114 ki_1 ?_
          refine jx_goto (tgt := 119) h dX10_givesAlike_115 rfl ?_
          refine jx_isub h dX10_givesAlike_119 ?_
          refine jx_lti (fun v18 => ?_)
          refine jx_istore (lv' := [(4, .int v18), (0, .ref (Ga G 0)), (1, .int x1), (3, .int x3), (5, .int x5), (6, .int t10)]) h dX10_givesAlike_120 (Nat.le_of_ble_eq_true rfl) rfl ?_
          refine jx_iincl (L := fun w => [(5, .int w), (4, .int v18), (0, .ref (Ga G 0)), (1, .int x1), (3, .int x3), (6, .int t10)]) h dX10_givesAlike_122 4 rfl (kn_1 _) (Nat.le_of_ble_eq_true rfl) (fun _ => rfl) (fun x5_19 => ?_)
          refine jx_goto (tgt := 41) h dX10_givesAlike_125 rfl ?_
          exact jx_subk [2, 3, 4, 1, 0] h (ih v18 x5_19 s15) rfl
      · refine jx_if_eq (tgt := 104) h dX10_givesAlike_97 rfl ?_ ?_
        · refine jx_iconst h dX10_givesAlike_104 ki_0 ?_
          exact jx_subk [1, 2, 3, 4, 5, 0] h (hj105 0 s11) rfl
        · refine jx_iconst h dX10_givesAlike_100 ki_1 ?_
          refine jx_goto (tgt := 105) h dX10_givesAlike_101 rfl ?_
          exact jx_subk [1, 2, 3, 4, 5, 0] h (hj105 1 s11) rfl
    · refine jx_if_le (tgt := 67) h dX10_givesAlike_49 rfl ?_ ?_
      · refine jx_iconst h dX10_givesAlike_67 ki_0 ?_
        exact hj68 0 s0
      · refine jx_aload_n h dX10_givesAlike_52 rfl 0 rfl ?_
        refine jx_get (v := .ref (Ga G 38)) h fa_X10_122 lm_0 dX10_givesAlike_53 rfl ?_
        refine jx_iload h dX10_givesAlike_56 4 rfl ?_
        refine jx_iaload h lm_38 dX10_givesAlike_58 ?_
        refine jx_iload_n h dX10_givesAlike_59 rfl 2 rfl ?_
        refine jx_icmp_le (tgt := 67) h dX10_givesAlike_60 rfl ?_ ?_
        · refine jx_iconst h dX10_givesAlike_67 ki_0 ?_
          exact hj68 0 s0
        · refine jx_iconst h dX10_givesAlike_63 ki_1 ?_
          refine jx_goto (tgt := 68) h dX10_givesAlike_64 rfl ?_
          exact hj68 1 s0
set_option maxRecDepth 20000 in
theorem c_X10_givesAlike {G : Gx} (hG : Gok G ∧ IsG G layM fsoM) (N : Nat) (x1 : Int32) (x2 : Int32) (s : Mem) : Ct G yX10_givesAlike cX10_givesAlike 7 none 2 [.ref (Ga G 0), .int x1, .int x2] tvV s (f_X10_givesAlike N x1 x2 s) := by
  refine Ct.of hG (by decide) (Nat.le_of_ble_eq_true rfl) (fun P h => ?_)
  show P _ 0 [(0, .ref (Ga G 0)), (1, .int x1), (2, .int x2)] [] s
  unfold f_X10_givesAlike
  refine jx_iconst h dX10_givesAlike_0 ki_0 ?_
  refine jx_istore_n (lv' := [(3, .int 0), (0, .ref (Ga G 0)), (1, .int x1), (2, .int x2)]) h dX10_givesAlike_1 rfl (Nat.le_of_ble_eq_true rfl) rfl ?_
  refine jx_subk [1, 2, 3, 0] h (itr_ind (Q := (fun (f : Int32 → Mem → Option (Unit × Mem)) => ∀ (x3 : Int32) (s : Mem), P (f x3 s) 2 [(0, .ref (Ga G 0)), (1, .int x1), (2, .int x2), (3, .int x3)] [] s)) (fun _ _ => jx_none h) (fun r2 ih2 => ?_) N 0 s) rfl
  refine w_X10_givesAlike_2 hG h N x1 x2 ?_ ih2
  intro x3_5 s4
  refine jx_iload_n h dX10_givesAlike_28 rfl 2 rfl ?_
  refine jx_aload_n h dX10_givesAlike_29 rfl 0 rfl ?_
  refine jx_iload_n h dX10_givesAlike_30 rfl 1 rfl ?_
  refine jx_iload_n h dX10_givesAlike_31 rfl 3 rfl ?_
  refine jx_callVi [.int x2] h lm_0 (c_X10_givenUpTo hG N x1 x3_5 s4) ml_X10_391 (Nat.le_of_ble_eq_true rfl) (Nat.le_of_ble_eq_true rfl) dX10_givesAlike_32 (Nat.le_of_ble_eq_true rfl) rfl (fun r7 s6 => ?_)
  refine jx_isub h dX10_givesAlike_35 ?_
  refine jx_lti (fun v8 => ?_)
  refine jx_istore (lv' := [(4, .int v8), (0, .ref (Ga G 0)), (1, .int x1), (2, .int x2), (3, .int x3_5)]) h dX10_givesAlike_36 (Nat.le_of_ble_eq_true rfl) rfl ?_
  refine jx_iconst h dX10_givesAlike_38 ki_0 ?_
  refine jx_istore (lv' := [(5, .int 0), (4, .int v8), (0, .ref (Ga G 0)), (1, .int x1), (2, .int x2), (3, .int x3_5)]) h dX10_givesAlike_39 (Nat.le_of_ble_eq_true rfl) rfl ?_
  refine jx_subk [2, 3, 5, 1, 0] h (itr_ind (Q := (fun (f : Int32 → Int32 → Mem → Option (Unit × Mem)) => ∀ (x4 : Int32) (x5 : Int32) (s : Mem), P (f x4 x5 s) 41 [(0, .ref (Ga G 0)), (1, .int x1), (3, .int x3_5), (4, .int x4), (5, .int x5)] [] s)) (fun _ _ _ => jx_none h) (fun r41 ih41 => ?_) N v8 0 s6) rfl
  refine w_X10_givesAlike_41 hG h N x1 x3_5  ih41
noncomputable def st_X10_losesAlike_2 (N : Nat) (x1 : Int32) (x2 : Int32) (k25 : Int32 → Mem → Option (Unit × Mem)) (rec : Int32 → Mem → Option (Unit × Mem)) (x3 : Int32) (s0 : Mem) : Option (Unit × Mem) :=
  bd (f_X10_allLost N x1 s0) (fun r2 s1 => bd (f_X10_givenUpTo N x1 x3 s1) (fun r4 s3 => if (r2 - r4) ≤ x2 then (k25 x3 s3) else lt (x3 + 1) (fun v5 => rec v5 s3)))
noncomputable def st_X10_losesAlike_44 (N : Nat) (x1 : Int32) (x3 : Int32)  (rec : Int32 → Int32 → Mem → Option (Unit × Mem)) (x4 : Int32) (x5 : Int32) (s0 : Mem) : Option (Unit × Mem) :=
  if x1 ≤ x5 then (some ((), s0)) else lt (fun (t14 : Int32) (s13 : Mem) => chk x5 8 (chk x5 8 (bd (f_X10_max N 0 ((gi s13 38 (ix x5)) - x3) s13) (fun r16 s15 => lt (fun (t18 : Int32) (s17 : Mem) => chk x5 8 (lt (si s17 39 (ix x5) (((gi s13 39 (ix x5)) + r16) + t18)) (fun s19 => if t14 = 0 then (lt (x4 - 0) (fun v20 => lt (x5 + 1) (fun x5_21 => rec v20 x5_21 s19))) else lt (x4 - 1) (fun v22 => lt (x5 + 1) (fun x5_23 => rec v22 x5_23 s19))))) (fun j114 => if t14 = 0 then (j114 0 s15) else j114 1 s15))))) (fun j75 => if x4 ≤ 0 then (j75 0 s0) else if x3 ≤ 0 then (j75 0 s0) else chk x5 8 (if (gi s0 38 (ix x5)) < x3 then (j75 0 s0) else j75 1 s0))
noncomputable def f_X10_losesAlike (N : Nat) (x1 : Int32) (x2 : Int32) (s : Mem) : Option (Unit × Mem) :=
  itr (fun _ _ => none) (st_X10_losesAlike_2 N x1 x2 (fun (x3_7 : Int32) (s6 : Mem) => bd (f_X10_allLost N x1 s6) (fun r9 s8 => bd (f_X10_givenUpTo N x1 x3_7 s8) (fun r11 s10 => lt ((x2 - r9) + r11) (fun v12 => itr (fun _ _ _ => none) (st_X10_losesAlike_44 N x1 x3_7) N v12 0 s10))))) N 0 s
set_option maxRecDepth 20000 in
theorem w_X10_losesAlike_2 {G : Gx} (hG : Gok G ∧ IsG G layM fsoM) {P : Option (Unit × Mem) → Nat → List (Nat × Value) → List Value → Mem → Prop} (h : Jk G layM fsoM RX10 cX10_losesAlike 7 none 2 tvV P) (N : Nat) (x1 : Int32) (x2 : Int32) {k25 : Int32 → Mem → Option (Unit × Mem)} (hk25 : ∀ (x3 : Int32) (s : Mem), P (k25 x3 s) 25 [(0, .ref (Ga G 0)), (1, .int x1), (2, .int x2), (3, .int x3)] [] s) {rec : Int32 → Mem → Option (Unit × Mem)} (ih : ∀ (x3 : Int32) (s : Mem), P (rec x3 s) 2 [(0, .ref (Ga G 0)), (1, .int x1), (2, .int x2), (3, .int x3)] [] s) : ∀ (x3 : Int32) (s : Mem), P (st_X10_losesAlike_2 N x1 x2 k25 rec x3 s) 2 [(0, .ref (Ga G 0)), (1, .int x1), (2, .int x2), (3, .int x3)] [] s := by
  intro x3 s0
  unfold st_X10_losesAlike_2
  refine jx_aload_n h dX10_losesAlike_2 rfl 0 rfl ?_
  refine jx_iload_n h dX10_losesAlike_3 rfl 1 rfl ?_
  refine jx_callVi [] h lm_0 (c_X10_allLost hG N x1 s0) ml_X10_394 (Nat.le_of_ble_eq_true rfl) (Nat.le_of_ble_eq_true rfl) dX10_losesAlike_4 (Nat.le_of_ble_eq_true rfl) rfl (fun r2 s1 => ?_)
  refine jx_aload_n h dX10_losesAlike_7 rfl 0 rfl ?_
  refine jx_iload_n h dX10_losesAlike_8 rfl 1 rfl ?_
  refine jx_iload_n h dX10_losesAlike_9 rfl 3 rfl ?_
  refine jx_callVi [.int r2] h lm_0 (c_X10_givenUpTo hG N x1 x3 s1) ml_X10_391 (Nat.le_of_ble_eq_true rfl) (Nat.le_of_ble_eq_true rfl) dX10_losesAlike_10 (Nat.le_of_ble_eq_true rfl) rfl (fun r4 s3 => ?_)
  refine jx_isub h dX10_losesAlike_13 ?_
  refine jx_iload_n h dX10_losesAlike_14 rfl 2 rfl ?_
  refine jx_icmp_le (tgt := 25) h dX10_losesAlike_15 rfl ?_ ?_
  · exact hk25 x3 s3
  · refine jx_iload_n h dX10_losesAlike_18 rfl 3 rfl ?_
    refine jx_iconst h dX10_losesAlike_19 ki_1 ?_
    refine jx_iadd h dX10_losesAlike_20 ?_
    refine jx_lti (fun v5 => ?_)
    refine jx_istore_n (lv' := [(3, .int v5), (0, .ref (Ga G 0)), (1, .int x1), (2, .int x2)]) h dX10_losesAlike_21 rfl (Nat.le_of_ble_eq_true rfl) rfl ?_
    refine jx_goto (tgt := 2) h dX10_losesAlike_22 rfl ?_
    exact jx_subk [1, 2, 3, 0] h (ih v5 s3) rfl
set_option maxRecDepth 20000 in
theorem w_X10_losesAlike_44 {G : Gx} (hG : Gok G ∧ IsG G layM fsoM) {P : Option (Unit × Mem) → Nat → List (Nat × Value) → List Value → Mem → Prop} (h : Jk G layM fsoM RX10 cX10_losesAlike 7 none 2 tvV P) (N : Nat) (x1 : Int32) (x3 : Int32) {rec : Int32 → Int32 → Mem → Option (Unit × Mem)} (ih : ∀ (x4 : Int32) (x5 : Int32) (s : Mem), P (rec x4 x5 s) 44 [(0, .ref (Ga G 0)), (1, .int x1), (3, .int x3), (4, .int x4), (5, .int x5)] [] s) : ∀ (x4 : Int32) (x5 : Int32) (s : Mem), P (st_X10_losesAlike_44 N x1 x3 rec x4 x5 s) 44 [(0, .ref (Ga G 0)), (1, .int x1), (3, .int x3), (4, .int x4), (5, .int x5)] [] s := by
  intro x4 x5 s0
  unfold st_X10_losesAlike_44
  refine jx_iload h dX10_losesAlike_44 4 rfl ?_
  refine jx_iload_n h dX10_losesAlike_46 rfl 1 rfl ?_
  refine jx_icmp_ge (tgt := 137) h dX10_losesAlike_47 rfl ?_ ?_
  · exact jx_vret h dX10_losesAlike_137
  · refine jx_iload h dX10_losesAlike_50 3 rfl ?_
    refine jx_join (fun (j : Int32 → Mem → Option (Unit × Mem)) => ∀ (t14 : Int32) (s13 : Mem), P (j t14 s13) 75 [(0, .ref (Ga G 0)), (1, .int x1), (3, .int x3), (4, .int x4), (5, .int x5)] [.int t14] s13) (fun t14 s13 => ?_) (fun j75 hj75 => ?_)
    · refine jx_istore (lv' := [(6, .int t14), (0, .ref (Ga G 0)), (1, .int x1), (3, .int x3), (4, .int x4), (5, .int x5)]) h dX10_losesAlike_75 (Nat.le_of_ble_eq_true rfl) rfl ?_
      refine jx_aload_n h dX10_losesAlike_77 rfl 1 rfl ?_
      refine jx_get (v := .ref (Ga G 39)) h fa_X10_125 lm_0 dX10_losesAlike_78 rfl ?_
      refine jx_iload h dX10_losesAlike_81 5 rfl ?_
      refine jx_aload_n h dX10_losesAlike_83 rfl 1 rfl ?_
      refine jx_get (v := .ref (Ga G 39)) h fa_X10_125 lm_0 dX10_losesAlike_84 rfl ?_
      refine jx_iload h dX10_losesAlike_87 5 rfl ?_
      refine jx_iaload h lm_39 dX10_losesAlike_89 ?_
      refine jx_iconst h dX10_losesAlike_90 ki_0 ?_
      refine jx_aload_n h dX10_losesAlike_91 rfl 1 rfl ?_
      refine jx_get (v := .ref (Ga G 38)) h fa_X10_122 lm_0 dX10_losesAlike_92 rfl ?_
      refine jx_iload h dX10_losesAlike_95 5 rfl ?_
      refine jx_iaload h lm_38 dX10_losesAlike_97 ?_
      refine jx_iload_n h dX10_losesAlike_98 rfl 3 rfl ?_
      refine jx_isub h dX10_losesAlike_99 ?_
      refine jx_callSi [.int (gi s13 39 (ix x5)), .int x5, .ref (Ga G 39)] h (c_X10_max hG N 0 ((gi s13 38 (ix x5)) - x3) s13) ml_X10_376 (Nat.le_of_ble_eq_true rfl) (Nat.le_of_ble_eq_true rfl) dX10_losesAlike_100 (Nat.le_of_ble_eq_true rfl) rfl (fun r16 s15 => ?_)
      refine jx_iadd h dX10_losesAlike_103 ?_
      refine jx_iload h dX10_losesAlike_104 0 rfl ?_
      refine jx_join (fun (j : Int32 → Mem → Option (Unit × Mem)) => ∀ (t18 : Int32) (s17 : Mem), P (j t18 s17) 114 [(0, .ref (Ga G 0)), (1, .int x1), (3, .int x3), (4, .int x4), (5, .int x5), (6, .int t14)] [.int t18, .int ((gi s13 39 (ix x5)) + r16), .int x5, .ref (Ga G 39)] s17) (fun t18 s17 => ?_) (fun j114 hj114 => ?_)
      · refine jx_iadd h dX10_losesAlike_114 ?_
        refine jx_iastore h lm_39 dX10_losesAlike_115 (fun s19 => ?_)
        refine jx_iload h dX10_losesAlike_116 3 rfl ?_
        refine jx_iload h dX10_losesAlike_118 5 rfl ?_
        refine jx_if_eq (tgt := 127) h dX10_losesAlike_120 rfl ?_ ?_
        · refine jx_iconst h dX10_losesAlike_127 ki_0 ?_
          refine jx_isub h dX10_losesAlike_128 ?_
          refine jx_lti (fun v20 => ?_)
          refine jx_istore (lv' := [(4, .int v20), (0, .ref (Ga G 0)), (1, .int x1), (3, .int x3), (5, .int x5), (6, .int t14)]) h dX10_losesAlike_129 (Nat.le_of_ble_eq_true rfl) rfl ?_
          refine jx_iincl (L := fun w => [(5, .int w), (4, .int v20), (0, .ref (Ga G 0)), (1, .int x1), (3, .int x3), (6, .int t14)]) h dX10_losesAlike_131 4 rfl (kn_1 _) (Nat.le_of_ble_eq_true rfl) (fun _ => rfl) (fun x5_21 => ?_)
          refine jx_goto (tgt := 44) h dX10_losesAlike_134 rfl ?_
          exact jx_subk [2, 3, 4, 1, 0] h (ih v20 x5_21 s19) rfl
        · refine jx_iconst h dX10_losesAlike_123 ki_1 ?_
          refine jx_goto (tgt := 128) h dX10_losesAlike_124 rfl ?_
          refine jx_isub h dX10_losesAlike_128 ?_
          refine jx_lti (fun v22 => ?_)
          refine jx_istore (lv' := [(4, .int v22), (0, .ref (Ga G 0)), (1, .int x1), (3, .int x3), (5, .int x5), (6, .int t14)]) h dX10_losesAlike_129 (Nat.le_of_ble_eq_true rfl) rfl ?_
          refine jx_iincl (L := fun w => [(5, .int w), (4, .int v22), (0, .ref (Ga G 0)), (1, .int x1), (3, .int x3), (6, .int t14)]) h dX10_losesAlike_131 4 rfl (kn_1 _) (Nat.le_of_ble_eq_true rfl) (fun _ => rfl) (fun x5_23 => ?_)
          refine jx_goto (tgt := 44) h dX10_losesAlike_134 rfl ?_
          exact jx_subk [2, 3, 4, 1, 0] h (ih v22 x5_23 s19) rfl
      · refine jx_if_eq (tgt := 113) h dX10_losesAlike_106 rfl ?_ ?_
        · refine jx_iconst h dX10_losesAlike_113 ki_0 ?_
          exact jx_subk [1, 2, 3, 4, 5, 0] h (hj114 0 s15) rfl
        · refine jx_iconst h dX10_losesAlike_109 ki_1 ?_
          refine jx_goto (tgt := 114) h dX10_losesAlike_110 rfl ?_
          exact jx_subk [1, 2, 3, 4, 5, 0] h (hj114 1 s15) rfl
    · refine jx_if_le (tgt := 74) h dX10_losesAlike_52 rfl ?_ ?_
      · refine jx_iconst h dX10_losesAlike_74 ki_0 ?_
        exact hj75 0 s0
      · refine jx_iload_n h dX10_losesAlike_55 rfl 2 rfl ?_
        refine jx_if_le (tgt := 74) h dX10_losesAlike_56 rfl ?_ ?_
        · refine jx_iconst h dX10_losesAlike_74 ki_0 ?_
          exact hj75 0 s0
        · refine jx_aload_n h dX10_losesAlike_59 rfl 0 rfl ?_
          refine jx_get (v := .ref (Ga G 38)) h fa_X10_122 lm_0 dX10_losesAlike_60 rfl ?_
          refine jx_iload h dX10_losesAlike_63 4 rfl ?_
          refine jx_iaload h lm_38 dX10_losesAlike_65 ?_
          refine jx_iload_n h dX10_losesAlike_66 rfl 2 rfl ?_
          refine jx_icmp_lt (tgt := 74) h dX10_losesAlike_67 rfl ?_ ?_
          · refine jx_iconst h dX10_losesAlike_74 ki_0 ?_
            exact hj75 0 s0
          · refine jx_iconst h dX10_losesAlike_70 ki_1 ?_
            refine jx_goto (tgt := 75) h dX10_losesAlike_71 rfl ?_
            exact hj75 1 s0
set_option maxRecDepth 20000 in
theorem c_X10_losesAlike {G : Gx} (hG : Gok G ∧ IsG G layM fsoM) (N : Nat) (x1 : Int32) (x2 : Int32) (s : Mem) : Ct G yX10_losesAlike cX10_losesAlike 7 none 2 [.ref (Ga G 0), .int x1, .int x2] tvV s (f_X10_losesAlike N x1 x2 s) := by
  refine Ct.of hG (by decide) (Nat.le_of_ble_eq_true rfl) (fun P h => ?_)
  show P _ 0 [(0, .ref (Ga G 0)), (1, .int x1), (2, .int x2)] [] s
  unfold f_X10_losesAlike
  refine jx_iconst h dX10_losesAlike_0 ki_0 ?_
  refine jx_istore_n (lv' := [(3, .int 0), (0, .ref (Ga G 0)), (1, .int x1), (2, .int x2)]) h dX10_losesAlike_1 rfl (Nat.le_of_ble_eq_true rfl) rfl ?_
  refine jx_subk [1, 2, 3, 0] h (itr_ind (Q := (fun (f : Int32 → Mem → Option (Unit × Mem)) => ∀ (x3 : Int32) (s : Mem), P (f x3 s) 2 [(0, .ref (Ga G 0)), (1, .int x1), (2, .int x2), (3, .int x3)] [] s)) (fun _ _ => jx_none h) (fun r2 ih2 => ?_) N 0 s) rfl
  refine w_X10_losesAlike_2 hG h N x1 x2 ?_ ih2
  intro x3_7 s6
  refine jx_iload_n h dX10_losesAlike_25 rfl 2 rfl ?_
  refine jx_aload_n h dX10_losesAlike_26 rfl 0 rfl ?_
  refine jx_iload_n h dX10_losesAlike_27 rfl 1 rfl ?_
  refine jx_callVi [.int x2] h lm_0 (c_X10_allLost hG N x1 s6) ml_X10_394 (Nat.le_of_ble_eq_true rfl) (Nat.le_of_ble_eq_true rfl) dX10_losesAlike_28 (Nat.le_of_ble_eq_true rfl) rfl (fun r9 s8 => ?_)
  refine jx_isub h dX10_losesAlike_31 ?_
  refine jx_aload_n h dX10_losesAlike_32 rfl 0 rfl ?_
  refine jx_iload_n h dX10_losesAlike_33 rfl 1 rfl ?_
  refine jx_iload_n h dX10_losesAlike_34 rfl 3 rfl ?_
  refine jx_callVi [.int (x2 - r9)] h lm_0 (c_X10_givenUpTo hG N x1 x3_7 s8) ml_X10_391 (Nat.le_of_ble_eq_true rfl) (Nat.le_of_ble_eq_true rfl) dX10_losesAlike_35 (Nat.le_of_ble_eq_true rfl) rfl (fun r11 s10 => ?_)
  refine jx_iadd h dX10_losesAlike_38 ?_
  refine jx_lti (fun v12 => ?_)
  refine jx_istore (lv' := [(4, .int v12), (0, .ref (Ga G 0)), (1, .int x1), (2, .int x2), (3, .int x3_7)]) h dX10_losesAlike_39 (Nat.le_of_ble_eq_true rfl) rfl ?_
  refine jx_iconst h dX10_losesAlike_41 ki_0 ?_
  refine jx_istore (lv' := [(5, .int 0), (4, .int v12), (0, .ref (Ga G 0)), (1, .int x1), (2, .int x2), (3, .int x3_7)]) h dX10_losesAlike_42 (Nat.le_of_ble_eq_true rfl) rfl ?_
  refine jx_subk [2, 3, 5, 1, 0] h (itr_ind (Q := (fun (f : Int32 → Int32 → Mem → Option (Unit × Mem)) => ∀ (x4 : Int32) (x5 : Int32) (s : Mem), P (f x4 x5 s) 44 [(0, .ref (Ga G 0)), (1, .int x1), (3, .int x3_7), (4, .int x4), (5, .int x5)] [] s)) (fun _ _ _ => jx_none h) (fun r44 ih44 => ?_) N v12 0 s10) rfl
  refine w_X10_losesAlike_44 hG h N x1 x3_7  ih44
noncomputable def st_X10_divides_3 (N : Nat) (x1 : Int32) (x2 : Int32) (x3 : Int32) (k23 : Mem → Option (Unit × Mem)) (rec : Int32 → Mem → Option (Unit × Mem)) (x4 : Int32) (s0 : Mem) : Option (Unit × Mem) :=
  if x1 ≤ x4 then (k23 s0) else chk x4 8 (lt (si s0 39 (ix x4) 0) (fun s1 => lt (x4 + 1) (fun x4_2 => rec x4_2 s1)))
noncomputable def st_X10_divides_70 (N : Nat) (x1 : Int32) (x2 : Int32) (x4 : Int32) (k141 : Int32 → Mem → Option (Unit × Mem)) (rec : Int32 → Int32 → Mem → Option (Unit × Mem)) (x5 : Int32) (x6 : Int32) (s0 : Mem) : Option (Unit × Mem) :=
  if x1 ≤ x6 then (k141 x5 s0) else chk x6 8 (lt ((gi s0 38 (ix x6)) / 2) (fun v8 => lt (x5 + v8) (fun v9 => lt (fun  (s10 : Mem) => if x4 = 0 then (chk x6 8 (chk x6 8 (lt (si s10 38 (ix x6) ((gi s10 38 (ix x6)) - v8)) (fun s11 => lt (x6 + 1) (fun x6_12 => rec v9 x6_12 s11))))) else chk x6 8 (lt (si s10 38 (ix x6) v8) (fun s13 => lt (x6 + 1) (fun x6_14 => rec v9 x6_14 s13)))) (fun j108 => if x4 = 0 then (chk x6 8 (lt (si s0 39 (ix x6) v8) (fun s15 => j108 s15))) else j108 s0))))
noncomputable def f_X10_divides (N : Nat) (x1 : Int32) (x2 : Int32) (x3 : Int32) (s : Mem) : Option (Unit × Mem) :=
  itr (fun _ _ => none) (st_X10_divides_3 N x1 x2 x3 (fun  (s3 : Mem) => if x3 = 0 then (bd (f_X10_givesAlike N x1 x2 s3) (fun _ s24 => some ((), s24))) else if x3 = 1 then (bd (f_X10_losesAlike N x1 x2 s3) (fun _ s22 => some ((), s22))) else bd (f_X10_allLost N x1 s3) (fun r5 s4 => lt (fun (t7 : Int32) (s6 : Mem) => itr (fun _ _ _ => none) (st_X10_divides_70 N x1 x2 t7 (fun (x5_17 : Int32) (s16 : Mem) => if t7 = 0 then (bd (f_X10_losesAlike N x1 (x2 - x5_17) s16) (fun _ s18 => some ((), s18))) else bd (f_X10_givesAlike N x1 x2 s16) (fun _ s20 => some ((), s20)))) N 0 0 s6) (fun j62 => if r5 < ((2 : Int32) * x2) then (j62 0 s4) else j62 1 s4)))) N 0 s
set_option maxRecDepth 20000 in
theorem w_X10_divides_3 {G : Gx} (hG : Gok G ∧ IsG G layM fsoM) {P : Option (Unit × Mem) → Nat → List (Nat × Value) → List Value → Mem → Prop} (h : Jk G layM fsoM RX10 cX10_divides 8 none 3 tvV P) (N : Nat) (x1 : Int32) (x2 : Int32) (x3 : Int32) {k23 : Mem → Option (Unit × Mem)} (hk23 : ∀  (s : Mem), P (k23 s) 23 [(0, .ref (Ga G 0)), (1, .int x1), (2, .int x2), (3, .int x3)] [] s) {rec : Int32 → Mem → Option (Unit × Mem)} (ih : ∀ (x4 : Int32) (s : Mem), P (rec x4 s) 3 [(0, .ref (Ga G 0)), (1, .int x1), (2, .int x2), (3, .int x3), (4, .int x4)] [] s) : ∀ (x4 : Int32) (s : Mem), P (st_X10_divides_3 N x1 x2 x3 k23 rec x4 s) 3 [(0, .ref (Ga G 0)), (1, .int x1), (2, .int x2), (3, .int x3), (4, .int x4)] [] s := by
  intro x4 s0
  unfold st_X10_divides_3
  refine jx_iload h dX10_divides_3 4 rfl ?_
  refine jx_iload_n h dX10_divides_5 rfl 1 rfl ?_
  refine jx_icmp_ge (tgt := 23) h dX10_divides_6 rfl ?_ ?_
  · exact jx_subk [0, 1, 2, 3] h (hk23 s0) rfl
  · refine jx_aload_n h dX10_divides_9 rfl 0 rfl ?_
    refine jx_get (v := .ref (Ga G 39)) h fa_X10_125 lm_0 dX10_divides_10 rfl ?_
    refine jx_iload h dX10_divides_13 4 rfl ?_
    refine jx_iconst h dX10_divides_15 ki_0 ?_
    refine jx_iastore h lm_39 dX10_divides_16 (fun s1 => ?_)
    refine jx_iincl (L := fun w => [(4, .int w), (0, .ref (Ga G 0)), (1, .int x1), (2, .int x2), (3, .int x3)]) h dX10_divides_17 4 rfl (kn_1 _) (Nat.le_of_ble_eq_true rfl) (fun _ => rfl) (fun x4_2 => ?_)
    refine jx_goto (tgt := 3) h dX10_divides_20 rfl ?_
    exact jx_subk [1, 2, 3, 4, 0] h (ih x4_2 s1) rfl
set_option maxRecDepth 20000 in
theorem w_X10_divides_70 {G : Gx} (hG : Gok G ∧ IsG G layM fsoM) {P : Option (Unit × Mem) → Nat → List (Nat × Value) → List Value → Mem → Prop} (h : Jk G layM fsoM RX10 cX10_divides 8 none 3 tvV P) (N : Nat) (x1 : Int32) (x2 : Int32) (x4 : Int32) {k141 : Int32 → Mem → Option (Unit × Mem)} (hk141 : ∀ (x5 : Int32) (s : Mem), P (k141 x5 s) 141 [(0, .ref (Ga G 0)), (1, .int x1), (2, .int x2), (4, .int x4), (5, .int x5)] [] s) {rec : Int32 → Int32 → Mem → Option (Unit × Mem)} (ih : ∀ (x5 : Int32) (x6 : Int32) (s : Mem), P (rec x5 x6 s) 70 [(0, .ref (Ga G 0)), (1, .int x1), (2, .int x2), (4, .int x4), (5, .int x5), (6, .int x6)] [] s) : ∀ (x5 : Int32) (x6 : Int32) (s : Mem), P (st_X10_divides_70 N x1 x2 x4 k141 rec x5 x6 s) 70 [(0, .ref (Ga G 0)), (1, .int x1), (2, .int x2), (4, .int x4), (5, .int x5), (6, .int x6)] [] s := by
  intro x5 x6 s0
  unfold st_X10_divides_70
  refine jx_iload h dX10_divides_70 5 rfl ?_
  refine jx_iload_n h dX10_divides_72 rfl 1 rfl ?_
  refine jx_icmp_ge (tgt := 141) h dX10_divides_73 rfl ?_ ?_
  · exact jx_subk [0, 1, 2, 3, 4] h (hk141 x5 s0) rfl
  · refine jx_aload_n h dX10_divides_76 rfl 0 rfl ?_
    refine jx_get (v := .ref (Ga G 38)) h fa_X10_122 lm_0 dX10_divides_77 rfl ?_
    refine jx_iload h dX10_divides_80 5 rfl ?_
    refine jx_iaload h lm_38 dX10_divides_82 ?_
    refine jx_iconst h dX10_divides_83 ki_2 ?_
    refine jx_idivc h (by decide) dX10_divides_84 ?_
    refine jx_lti (fun v8 => ?_)
    refine jx_istore (lv' := [(7, .int v8), (0, .ref (Ga G 0)), (1, .int x1), (2, .int x2), (4, .int x4), (5, .int x5), (6, .int x6)]) h dX10_divides_85 (Nat.le_of_ble_eq_true rfl) rfl ?_
    refine jx_iload h dX10_divides_87 5 rfl ?_
    refine jx_iload h dX10_divides_89 0 rfl ?_
    refine jx_iadd h dX10_divides_91 ?_
    refine jx_lti (fun v9 => ?_)
    refine jx_istore (lv' := [(5, .int v9), (7, .int v8), (0, .ref (Ga G 0)), (1, .int x1), (2, .int x2), (4, .int x4), (6, .int x6)]) h dX10_divides_92 (Nat.le_of_ble_eq_true rfl) rfl ?_
    refine jx_iload h dX10_divides_94 5 rfl ?_
    refine jx_join (fun (j : Mem → Option (Unit × Mem)) => ∀  (s10 : Mem), P (j  s10) 108 [(0, .ref (Ga G 0)), (1, .int x1), (2, .int x2), (4, .int x4), (5, .int v9), (6, .int x6), (7, .int v8)] [] s10) (fun  s10 => ?_) (fun j108 hj108 => ?_)
    · refine jx_aload_n h dX10_divides_108 rfl 0 rfl ?_
      refine jx_get (v := .ref (Ga G 38)) h fa_X10_122 lm_0 dX10_divides_109 rfl ?_
      refine jx_iload h dX10_divides_112 5 rfl ?_
      refine jx_iload h dX10_divides_114 3 rfl ?_
      refine jx_if_eq (tgt := 124) h dX10_divides_116 rfl ?_ ?_
      · refine jx_aload_n h dX10_divides_124 rfl 0 rfl ?_
        refine jx_get (v := .ref (Ga G 38)) h fa_X10_122 lm_0 dX10_divides_125 rfl ?_
        refine jx_iload h dX10_divides_128 5 rfl ?_
        refine jx_iaload h lm_38 dX10_divides_130 ?_
        refine jx_iload h dX10_divides_131 6 rfl ?_
        refine jx_isub h dX10_divides_133 ?_
        refine jx_iastore h lm_38 dX10_divides_134 (fun s11 => ?_)
        refine jx_iincl (L := fun w => [(6, .int w), (0, .ref (Ga G 0)), (1, .int x1), (2, .int x2), (4, .int x4), (5, .int v9), (7, .int v8)]) h dX10_divides_135 5 rfl (kn_1 _) (Nat.le_of_ble_eq_true rfl) (fun _ => rfl) (fun x6_12 => ?_)
        refine jx_goto (tgt := 70) h dX10_divides_138 rfl ?_
        exact jx_subk [1, 2, 3, 4, 5, 0] h (ih v9 x6_12 s11) rfl
      · refine jx_iload h dX10_divides_119 6 rfl ?_
        refine jx_goto (tgt := 134) h dX10_divides_121 rfl ?_
        refine jx_iastore h lm_38 dX10_divides_134 (fun s13 => ?_)
        refine jx_iincl (L := fun w => [(6, .int w), (0, .ref (Ga G 0)), (1, .int x1), (2, .int x2), (4, .int x4), (5, .int v9), (7, .int v8)]) h dX10_divides_135 5 rfl (kn_1 _) (Nat.le_of_ble_eq_true rfl) (fun _ => rfl) (fun x6_14 => ?_)
        refine jx_goto (tgt := 70) h dX10_divides_138 rfl ?_
        exact jx_subk [1, 2, 3, 4, 5, 0] h (ih v9 x6_14 s13) rfl
    · refine jx_if_ne (tgt := 108) h dX10_divides_96 rfl ?_ ?_
      · exact jx_subk [2, 3, 4, 5, 0, 6, 1] h (hj108 s0) rfl
      · refine jx_aload_n h dX10_divides_99 rfl 2 rfl ?_
        refine jx_get (v := .ref (Ga G 39)) h fa_X10_125 lm_0 dX10_divides_100 rfl ?_
        refine jx_iload h dX10_divides_103 6 rfl ?_
        refine jx_iload h dX10_divides_105 1 rfl ?_
        refine jx_iastore h lm_39 dX10_divides_107 (fun s15 => ?_)
        exact jx_subk [2, 3, 4, 5, 0, 6, 1] h (hj108 s15) rfl
set_option maxRecDepth 20000 in
theorem c_X10_divides {G : Gx} (hG : Gok G ∧ IsG G layM fsoM) (N : Nat) (x1 : Int32) (x2 : Int32) (x3 : Int32) (s : Mem) : Ct G yX10_divides cX10_divides 8 none 3 [.ref (Ga G 0), .int x1, .int x2, .int x3] tvV s (f_X10_divides N x1 x2 x3 s) := by
  refine Ct.of hG (by decide) (Nat.le_of_ble_eq_true rfl) (fun P h => ?_)
  show P _ 0 [(0, .ref (Ga G 0)), (1, .int x1), (2, .int x2), (3, .int x3)] [] s
  unfold f_X10_divides
  refine jx_iconst h dX10_divides_0 ki_0 ?_
  refine jx_istore (lv' := [(4, .int 0), (0, .ref (Ga G 0)), (1, .int x1), (2, .int x2), (3, .int x3)]) h dX10_divides_1 (Nat.le_of_ble_eq_true rfl) rfl ?_
  refine jx_subk [1, 2, 3, 4, 0] h (itr_ind (Q := (fun (f : Int32 → Mem → Option (Unit × Mem)) => ∀ (x4 : Int32) (s : Mem), P (f x4 s) 3 [(0, .ref (Ga G 0)), (1, .int x1), (2, .int x2), (3, .int x3), (4, .int x4)] [] s)) (fun _ _ => jx_none h) (fun r3 ih3 => ?_) N 0 s) rfl
  refine w_X10_divides_3 hG h N x1 x2 x3 ?_ ih3
  intro s3
  refine jx_iload_n h dX10_divides_23 rfl 3 rfl ?_
  refine jx_if_ne (tgt := 34) h dX10_divides_24 rfl ?_ ?_
  · refine jx_iload_n h dX10_divides_34 rfl 3 rfl ?_
    refine jx_iconst h dX10_divides_35 ki_1 ?_
    refine jx_icmp_ne (tgt := 46) h dX10_divides_36 rfl ?_ ?_
    · refine jx_iconst h dX10_divides_46 ki_2 ?_
      refine jx_iload_n h dX10_divides_47 rfl 2 rfl ?_
      refine jx_imul h dX10_divides_48 ?_
      refine jx_aload_n h dX10_divides_49 rfl 0 rfl ?_
      refine jx_iload_n h dX10_divides_50 rfl 1 rfl ?_
      refine jx_callVi [.int ((2 : Int32) * x2)] h lm_0 (c_X10_allLost hG N x1 s3) ml_X10_394 (Nat.le_of_ble_eq_true rfl) (Nat.le_of_ble_eq_true rfl) dX10_divides_51 (Nat.le_of_ble_eq_true rfl) rfl (fun r5 s4 => ?_)
      refine jx_join (fun (j : Int32 → Mem → Option (Unit × Mem)) => ∀ (t7 : Int32) (s6 : Mem), P (j t7 s6) 62 [(0, .ref (Ga G 0)), (1, .int x1), (2, .int x2)] [.int t7] s6) (fun t7 s6 => ?_) (fun j62 hj62 => ?_)
      · refine jx_istore (lv' := [(4, .int t7), (0, .ref (Ga G 0)), (1, .int x1), (2, .int x2)]) h dX10_divides_62 (Nat.le_of_ble_eq_true rfl) rfl ?_
        refine jx_iconst h dX10_divides_64 ki_0 ?_
        refine jx_istore (lv' := [(5, .int 0), (4, .int t7), (0, .ref (Ga G 0)), (1, .int x1), (2, .int x2)]) h dX10_divides_65 (Nat.le_of_ble_eq_true rfl) rfl ?_
        refine jx_iconst h dX10_divides_67 ki_0 ?_
        refine jx_istore (lv' := [(6, .int 0), (5, .int 0), (4, .int t7), (0, .ref (Ga G 0)), (1, .int x1), (2, .int x2)]) h dX10_divides_68 (Nat.le_of_ble_eq_true rfl) rfl ?_
        refine jx_subk [3, 4, 5, 2, 1, 0] h (itr_ind (Q := (fun (f : Int32 → Int32 → Mem → Option (Unit × Mem)) => ∀ (x5 : Int32) (x6 : Int32) (s : Mem), P (f x5 x6 s) 70 [(0, .ref (Ga G 0)), (1, .int x1), (2, .int x2), (4, .int t7), (5, .int x5), (6, .int x6)] [] s)) (fun _ _ _ => jx_none h) (fun r70 ih70 => ?_) N 0 0 s6) rfl
        refine w_X10_divides_70 hG h N x1 x2 t7 ?_ ih70
        intro x5_17 s16
        refine jx_iload h dX10_divides_141 3 rfl ?_
        refine jx_if_eq (tgt := 155) h dX10_divides_143 rfl ?_ ?_
        · refine jx_aload_n h dX10_divides_155 rfl 0 rfl ?_
          refine jx_iload_n h dX10_divides_156 rfl 1 rfl ?_
          refine jx_iload_n h dX10_divides_157 rfl 2 rfl ?_
          refine jx_iload h dX10_divides_158 4 rfl ?_
          refine jx_isub h dX10_divides_160 ?_
          refine jx_callVv [] h lm_0 (c_X10_losesAlike hG N x1 (x2 - x5_17) s16) ml_X10_400 (Nat.le_of_ble_eq_true rfl) (Nat.le_of_ble_eq_true rfl) dX10_divides_161 (Nat.le_of_ble_eq_true rfl) rfl (fun s18 => ?_)
          exact jx_vret h dX10_divides_164
        · refine jx_aload_n h dX10_divides_146 rfl 0 rfl ?_
          refine jx_iload_n h dX10_divides_147 rfl 1 rfl ?_
          refine jx_iload_n h dX10_divides_148 rfl 2 rfl ?_
          refine jx_callVv [] h lm_0 (c_X10_givesAlike hG N x1 x2 s16) ml_X10_397 (Nat.le_of_ble_eq_true rfl) (Nat.le_of_ble_eq_true rfl) dX10_divides_149 (Nat.le_of_ble_eq_true rfl) rfl (fun s20 => ?_)
          refine jx_goto (tgt := 164) h dX10_divides_152 rfl ?_
          exact jx_vret h dX10_divides_164
      · refine jx_icmp_gt (tgt := 61) h dX10_divides_54 rfl ?_ ?_
        · refine jx_iconst h dX10_divides_61 ki_0 ?_
          exact jx_subk [0, 1, 2] h (hj62 0 s4) rfl
        · refine jx_iconst h dX10_divides_57 ki_1 ?_
          refine jx_goto (tgt := 62) h dX10_divides_58 rfl ?_
          exact jx_subk [0, 1, 2] h (hj62 1 s4) rfl
    · refine jx_aload_n h dX10_divides_39 rfl 0 rfl ?_
      refine jx_iload_n h dX10_divides_40 rfl 1 rfl ?_
      refine jx_iload_n h dX10_divides_41 rfl 2 rfl ?_
      refine jx_callVv [] h lm_0 (c_X10_losesAlike hG N x1 x2 s3) ml_X10_400 (Nat.le_of_ble_eq_true rfl) (Nat.le_of_ble_eq_true rfl) dX10_divides_42 (Nat.le_of_ble_eq_true rfl) rfl (fun s22 => ?_)
      exact jx_vret h dX10_divides_45
  · refine jx_aload_n h dX10_divides_27 rfl 0 rfl ?_
    refine jx_iload_n h dX10_divides_28 rfl 1 rfl ?_
    refine jx_iload_n h dX10_divides_29 rfl 2 rfl ?_
    refine jx_callVv [] h lm_0 (c_X10_givesAlike hG N x1 x2 s3) ml_X10_397 (Nat.le_of_ble_eq_true rfl) (Nat.le_of_ble_eq_true rfl) dX10_divides_30 (Nat.le_of_ble_eq_true rfl) rfl (fun s24 => ?_)
    exact jx_vret h dX10_divides_33
noncomputable def st_X10_divided_62 (N : Nat) (x1 : Int32) (x2 : Int32) (x3 : Int32) (x4 : Int32) (k120 : Mem → Option (Int32 × Mem)) (rec : Int32 → Mem → Option (Int32 × Mem)) (x5 : Int32) (s0 : Mem) : Option (Int32 × Mem) :=
  if x1 ≤ x5 then (k120 s0) else bd (f_X10_octet N ((2 : Int32) * x5) s0) (fun r11 s10 => bd (f_X10_octet N (((2 : Int32) * x5) + 1) s10) (fun r13 s12 => chk x5 8 (lt (si s12 38 (ix x5) (((256 : Int32) * r11) + r13)) (fun s14 => chk x5 8 (if (gi s14 38 (ix x5)) ≤ 9999 then (lt (x5 + 1) (fun x5_15 => rec x5_15 s14)) else some ((-2), s14))))))
noncomputable def f_X10_divided (N : Nat) (x1 : Int32) (x2 : Int32) (x3 : Int32) (x4 : Int32) (s : Mem) : Option (Int32 × Mem) :=
  bd (f_X10_in N x1 1 8 s) (fun r2 s1 => if r2 = 0 then (some ((-1), s1)) else bd (f_X10_in N x2 0 9999 s1) (fun r4 s3 => if r4 = 0 then (some ((-1), s3)) else bd (f_X10_in N x3 0 2 s3) (fun r6 s5 => if r6 = 0 then (some ((-1), s5)) else bd (f_X10_in N x4 0 (x1 - 1) s5) (fun r8 s7 => if r8 = 0 then (some ((-1), s7)) else if ((2 : Int32) * x1) ≤ (gi s7 0 5) then (lt (si s7 0 5 0) (fun s9 => itr (fun _ _ => none) (st_X10_divided_62 N x1 x2 x3 x4 (fun  (s16 : Mem) => bd (f_X10_divides N x1 x2 x3 s16) (fun _ s17 => chk x4 8 (some (gi s17 39 (ix x4), s17))))) N 0 s9)) else some ((-1), s7)))))
set_option maxRecDepth 20000 in
theorem w_X10_divided_62 {G : Gx} (hG : Gok G ∧ IsG G layM fsoM) {P : Option (Int32 × Mem) → Nat → List (Nat × Value) → List Value → Mem → Prop} (h : Jk G layM fsoM RX10 cX10_divided 6 (some .int) 4 tvI P) (N : Nat) (x1 : Int32) (x2 : Int32) (x3 : Int32) (x4 : Int32) {k120 : Mem → Option (Int32 × Mem)} (hk120 : ∀  (s : Mem), P (k120 s) 120 [(0, .ref (Ga G 0)), (1, .int x1), (2, .int x2), (3, .int x3), (4, .int x4)] [] s) {rec : Int32 → Mem → Option (Int32 × Mem)} (ih : ∀ (x5 : Int32) (s : Mem), P (rec x5 s) 62 [(0, .ref (Ga G 0)), (1, .int x1), (2, .int x2), (3, .int x3), (4, .int x4), (5, .int x5)] [] s) : ∀ (x5 : Int32) (s : Mem), P (st_X10_divided_62 N x1 x2 x3 x4 k120 rec x5 s) 62 [(0, .ref (Ga G 0)), (1, .int x1), (2, .int x2), (3, .int x3), (4, .int x4), (5, .int x5)] [] s := by
  intro x5 s0
  unfold st_X10_divided_62
  refine jx_iload h dX10_divided_62 5 rfl ?_
  refine jx_iload_n h dX10_divided_64 rfl 1 rfl ?_
  refine jx_icmp_ge (tgt := 120) h dX10_divided_65 rfl ?_ ?_
  · exact jx_subk [0, 1, 2, 3, 4] h (hk120 s0) rfl
  · refine jx_aload_n h dX10_divided_68 rfl 0 rfl ?_
    refine jx_get (v := .ref (Ga G 38)) h fa_X10_122 lm_0 dX10_divided_69 rfl ?_
    refine jx_iload h dX10_divided_72 5 rfl ?_
    refine jx_sipush h dX10_divided_74 ks_256 ?_
    refine jx_aload_n h dX10_divided_77 rfl 0 rfl ?_
    refine jx_iconst h dX10_divided_78 ki_2 ?_
    refine jx_iload h dX10_divided_79 5 rfl ?_
    refine jx_imul h dX10_divided_81 ?_
    refine jx_callVi [.int 256, .int x5, .ref (Ga G 38)] h lm_0 (c_X10_octet hG N ((2 : Int32) * x5) s0) ml_X10_388 (Nat.le_of_ble_eq_true rfl) (Nat.le_of_ble_eq_true rfl) dX10_divided_82 (Nat.le_of_ble_eq_true rfl) rfl (fun r11 s10 => ?_)
    refine jx_imul h dX10_divided_85 ?_
    refine jx_aload_n h dX10_divided_86 rfl 0 rfl ?_
    refine jx_iconst h dX10_divided_87 ki_2 ?_
    refine jx_iload h dX10_divided_88 5 rfl ?_
    refine jx_imul h dX10_divided_90 ?_
    refine jx_iconst h dX10_divided_91 ki_1 ?_
    refine jx_iadd h dX10_divided_92 ?_
    refine jx_callVi [.int ((256 : Int32) * r11), .int x5, .ref (Ga G 38)] h lm_0 (c_X10_octet hG N (((2 : Int32) * x5) + 1) s10) ml_X10_388 (Nat.le_of_ble_eq_true rfl) (Nat.le_of_ble_eq_true rfl) dX10_divided_93 (Nat.le_of_ble_eq_true rfl) rfl (fun r13 s12 => ?_)
    refine jx_iadd h dX10_divided_96 ?_
    refine jx_iastore h lm_38 dX10_divided_97 (fun s14 => ?_)
    refine jx_aload_n h dX10_divided_98 rfl 0 rfl ?_
    refine jx_get (v := .ref (Ga G 38)) h fa_X10_122 lm_0 dX10_divided_99 rfl ?_
    refine jx_iload h dX10_divided_102 5 rfl ?_
    refine jx_iaload h lm_38 dX10_divided_104 ?_
    refine jx_sipush h dX10_divided_105 ks_9999 ?_
    refine jx_icmp_le (tgt := 114) h dX10_divided_108 rfl ?_ ?_
    · refine jx_iincl (L := fun w => [(5, .int w), (0, .ref (Ga G 0)), (1, .int x1), (2, .int x2), (3, .int x3), (4, .int x4)]) h dX10_divided_114 5 rfl (kn_1 _) (Nat.le_of_ble_eq_true rfl) (fun _ => rfl) (fun x5_15 => ?_)
      refine jx_goto (tgt := 62) h dX10_divided_117 rfl ?_
      exact jx_subk [1, 2, 3, 4, 5, 0] h (ih x5_15 s14) rfl
    · refine jx_bipush h dX10_divided_111 kb_m2 ?_
      exact jx_iret h dX10_divided_113
set_option maxRecDepth 20000 in
theorem c_X10_divided {G : Gx} (hG : Gok G ∧ IsG G layM fsoM) (N : Nat) (x1 : Int32) (x2 : Int32) (x3 : Int32) (x4 : Int32) (s : Mem) : Ct G yX10_divided cX10_divided 6 (some .int) 4 [.ref (Ga G 0), .int x1, .int x2, .int x3, .int x4] tvI s (f_X10_divided N x1 x2 x3 x4 s) := by
  refine Ct.of hG (by decide) (Nat.le_of_ble_eq_true rfl) (fun P h => ?_)
  show P _ 0 [(0, .ref (Ga G 0)), (1, .int x1), (2, .int x2), (3, .int x3), (4, .int x4)] [] s
  unfold f_X10_divided
  refine jx_iload_n h dX10_divided_0 rfl 1 rfl ?_
  refine jx_iconst h dX10_divided_1 ki_1 ?_
  refine jx_bipush h dX10_divided_2 kb_8 ?_
  refine jx_callSi [] h (c_X10_in hG N x1 1 8 s) ml_X10_134 (Nat.le_of_ble_eq_true rfl) (Nat.le_of_ble_eq_true rfl) dX10_divided_4 (Nat.le_of_ble_eq_true rfl) rfl (fun r2 s1 => ?_)
  refine jx_if_eq (tgt := 52) h dX10_divided_7 rfl ?_ ?_
  · refine jx_iconst h dX10_divided_52 ki_m1 ?_
    exact jx_iret h dX10_divided_53
  · refine jx_iload_n h dX10_divided_10 rfl 2 rfl ?_
    refine jx_iconst h dX10_divided_11 ki_0 ?_
    refine jx_sipush h dX10_divided_12 ks_9999 ?_
    refine jx_callSi [] h (c_X10_in hG N x2 0 9999 s1) ml_X10_134 (Nat.le_of_ble_eq_true rfl) (Nat.le_of_ble_eq_true rfl) dX10_divided_15 (Nat.le_of_ble_eq_true rfl) rfl (fun r4 s3 => ?_)
    refine jx_if_eq (tgt := 52) h dX10_divided_18 rfl ?_ ?_
    · refine jx_iconst h dX10_divided_52 ki_m1 ?_
      exact jx_iret h dX10_divided_53
    · refine jx_iload_n h dX10_divided_21 rfl 3 rfl ?_
      refine jx_iconst h dX10_divided_22 ki_0 ?_
      refine jx_iconst h dX10_divided_23 ki_2 ?_
      refine jx_callSi [] h (c_X10_in hG N x3 0 2 s3) ml_X10_134 (Nat.le_of_ble_eq_true rfl) (Nat.le_of_ble_eq_true rfl) dX10_divided_24 (Nat.le_of_ble_eq_true rfl) rfl (fun r6 s5 => ?_)
      refine jx_if_eq (tgt := 52) h dX10_divided_27 rfl ?_ ?_
      · refine jx_iconst h dX10_divided_52 ki_m1 ?_
        exact jx_iret h dX10_divided_53
      · refine jx_iload h dX10_divided_30 4 rfl ?_
        refine jx_iconst h dX10_divided_32 ki_0 ?_
        refine jx_iload_n h dX10_divided_33 rfl 1 rfl ?_
        refine jx_iconst h dX10_divided_34 ki_1 ?_
        refine jx_isub h dX10_divided_35 ?_
        refine jx_callSi [] h (c_X10_in hG N x4 0 (x1 - 1) s5) ml_X10_134 (Nat.le_of_ble_eq_true rfl) (Nat.le_of_ble_eq_true rfl) dX10_divided_36 (Nat.le_of_ble_eq_true rfl) rfl (fun r8 s7 => ?_)
        refine jx_if_eq (tgt := 52) h dX10_divided_39 rfl ?_ ?_
        · refine jx_iconst h dX10_divided_52 ki_m1 ?_
          exact jx_iret h dX10_divided_53
        · refine jx_iconst h dX10_divided_42 ki_2 ?_
          refine jx_iload_n h dX10_divided_43 rfl 1 rfl ?_
          refine jx_imul h dX10_divided_44 ?_
          refine jx_aload_n h dX10_divided_45 rfl 0 rfl ?_
          refine jx_get (v := .int (gi s7 0 5)) h fa_X10_150 lm_0 dX10_divided_46 rfl ?_
          refine jx_icmp_le (tgt := 54) h dX10_divided_49 rfl ?_ ?_
          · refine jx_aload_n h dX10_divided_54 rfl 0 rfl ?_
            refine jx_iconst h dX10_divided_55 ki_0 ?_
            refine jx_put h fa_X10_150 fp_X10_5 lm_0 rfl rfl dX10_divided_56 (fu_X10_5 _ _ _ _) (fun s9 => ?_)
            refine jx_iconst h dX10_divided_59 ki_0 ?_
            refine jx_istore (lv' := [(5, .int 0), (0, .ref (Ga G 0)), (1, .int x1), (2, .int x2), (3, .int x3), (4, .int x4)]) h dX10_divided_60 (Nat.le_of_ble_eq_true rfl) rfl ?_
            refine jx_subk [1, 2, 3, 4, 5, 0] h (itr_ind (Q := (fun (f : Int32 → Mem → Option (Int32 × Mem)) => ∀ (x5 : Int32) (s : Mem), P (f x5 s) 62 [(0, .ref (Ga G 0)), (1, .int x1), (2, .int x2), (3, .int x3), (4, .int x4), (5, .int x5)] [] s)) (fun _ _ => jx_none h) (fun r62 ih62 => ?_) N 0 s9) rfl
            refine w_X10_divided_62 hG h N x1 x2 x3 x4 ?_ ih62
            intro s16
            refine jx_aload_n h dX10_divided_120 rfl 0 rfl ?_
            refine jx_iload_n h dX10_divided_121 rfl 1 rfl ?_
            refine jx_iload_n h dX10_divided_122 rfl 2 rfl ?_
            refine jx_iload_n h dX10_divided_123 rfl 3 rfl ?_
            refine jx_callVv [] h lm_0 (c_X10_divides hG N x1 x2 x3 s16) ml_X10_403 (Nat.le_of_ble_eq_true rfl) (Nat.le_of_ble_eq_true rfl) dX10_divided_124 (Nat.le_of_ble_eq_true rfl) rfl (fun s17 => ?_)
            refine jx_aload_n h dX10_divided_127 rfl 0 rfl ?_
            refine jx_get (v := .ref (Ga G 39)) h fa_X10_125 lm_0 dX10_divided_128 rfl ?_
            refine jx_iload h dX10_divided_131 4 rfl ?_
            refine jx_iaload h lm_39 dX10_divided_133 ?_
            exact jx_iret h dX10_divided_134
          · refine jx_iconst h dX10_divided_52 ki_m1 ?_
            exact jx_iret h dX10_divided_53
noncomputable def st_X10_isAgain_2 (N : Nat) (x1 : Int32)  (rec : Int32 → Mem → Option (Int32 × Mem)) (x2 : Int32) (s0 : Mem) : Option (Int32 × Mem) :=
  if x1 ≤ x2 then (some (0, s0)) else bd (f_X10_octet N x2 s0) (fun r2 s1 => bd (f_X10_octet N x1 s1) (fun r4 s3 => if r2 = r4 then (some (1, s3)) else lt (x2 + 1) (fun x2_5 => rec x2_5 s3)))
noncomputable def f_X10_isAgain (N : Nat) (x1 : Int32) (s : Mem) : Option (Int32 × Mem) :=
  itr (fun _ _ => none) (st_X10_isAgain_2 N x1) N 0 s
set_option maxRecDepth 20000 in
theorem w_X10_isAgain_2 {G : Gx} (hG : Gok G ∧ IsG G layM fsoM) {P : Option (Int32 × Mem) → Nat → List (Nat × Value) → List Value → Mem → Prop} (h : Jk G layM fsoM RX10 cX10_isAgain 3 (some .boolean) 1 tvI P) (N : Nat) (x1 : Int32) {rec : Int32 → Mem → Option (Int32 × Mem)} (ih : ∀ (x2 : Int32) (s : Mem), P (rec x2 s) 2 [(0, .ref (Ga G 0)), (1, .int x1), (2, .int x2)] [] s) : ∀ (x2 : Int32) (s : Mem), P (st_X10_isAgain_2 N x1 rec x2 s) 2 [(0, .ref (Ga G 0)), (1, .int x1), (2, .int x2)] [] s := by
  intro x2 s0
  unfold st_X10_isAgain_2
  refine jx_iload_n h dX10_isAgain_2 rfl 2 rfl ?_
  refine jx_iload_n h dX10_isAgain_3 rfl 1 rfl ?_
  refine jx_icmp_ge (tgt := 28) h dX10_isAgain_4 rfl ?_ ?_
  · refine jx_iconst h dX10_isAgain_28 ki_0 ?_
    exact jx_zret h rfl dX10_isAgain_29
  · refine jx_aload_n h dX10_isAgain_7 rfl 0 rfl ?_
    refine jx_iload_n h dX10_isAgain_8 rfl 2 rfl ?_
    refine jx_callVi [] h lm_0 (c_X10_octet hG N x2 s0) ml_X10_388 (Nat.le_of_ble_eq_true rfl) (Nat.le_of_ble_eq_true rfl) dX10_isAgain_9 (Nat.le_of_ble_eq_true rfl) rfl (fun r2 s1 => ?_)
    refine jx_aload_n h dX10_isAgain_12 rfl 0 rfl ?_
    refine jx_iload_n h dX10_isAgain_13 rfl 1 rfl ?_
    refine jx_callVi [.int r2] h lm_0 (c_X10_octet hG N x1 s1) ml_X10_388 (Nat.le_of_ble_eq_true rfl) (Nat.le_of_ble_eq_true rfl) dX10_isAgain_14 (Nat.le_of_ble_eq_true rfl) rfl (fun r4 s3 => ?_)
    refine jx_icmp_ne (tgt := 22) h dX10_isAgain_17 rfl ?_ ?_
    · refine jx_iincl (L := fun w => [(2, .int w), (0, .ref (Ga G 0)), (1, .int x1)]) h dX10_isAgain_22 2 rfl (kn_1 _) (Nat.le_of_ble_eq_true rfl) (fun _ => rfl) (fun x2_5 => ?_)
      refine jx_goto (tgt := 2) h dX10_isAgain_25 rfl ?_
      exact jx_subk [1, 2, 0] h (ih x2_5 s3) rfl
    · refine jx_iconst h dX10_isAgain_20 ki_1 ?_
      exact jx_zret h rfl dX10_isAgain_21
set_option maxRecDepth 20000 in
theorem c_X10_isAgain {G : Gx} (hG : Gok G ∧ IsG G layM fsoM) (N : Nat) (x1 : Int32) (s : Mem) : Ct G yX10_isAgain cX10_isAgain 3 (some .boolean) 1 [.ref (Ga G 0), .int x1] tvI s (f_X10_isAgain N x1 s) := by
  refine Ct.of hG (by decide) (Nat.le_of_ble_eq_true rfl) (fun P h => ?_)
  show P _ 0 [(0, .ref (Ga G 0)), (1, .int x1)] [] s
  unfold f_X10_isAgain
  refine jx_iconst h dX10_isAgain_0 ki_0 ?_
  refine jx_istore_n (lv' := [(2, .int 0), (0, .ref (Ga G 0)), (1, .int x1)]) h dX10_isAgain_1 rfl (Nat.le_of_ble_eq_true rfl) rfl ?_
  refine jx_subk [1, 2, 0] h (itr_ind (Q := (fun (f : Int32 → Mem → Option (Int32 × Mem)) => ∀ (x2 : Int32) (s : Mem), P (f x2 s) 2 [(0, .ref (Ga G 0)), (1, .int x1), (2, .int x2)] [] s)) (fun _ _ => jx_none h) (fun r2 ih2 => ?_) N 0 s) rfl
  refine w_X10_isAgain_2 hG h N x1  ih2
noncomputable def st_X10_laysCoins_2 (N : Nat) (x1 : Int32) (x2 : Int32) (k45 : Mem → Option (Unit × Mem)) (rec : Int32 → Mem → Option (Unit × Mem)) (x3 : Int32) (s0 : Mem) : Option (Unit × Mem) :=
  if x2 < x3 then (k45 s0) else lt (fun (t2 : Int32) (s1 : Mem) => chk x3 1000 (lt (si s1 40 (ix x3) t2) (fun s3 => if x3 = 0 then (chk x3 1000 (lt (si s3 41 (ix x3) 1) (fun s6 => lt (x3 + 1) (fun x3_7 => rec x3_7 s6)))) else chk x3 1000 (lt (si s3 41 (ix x3) 0) (fun s4 => lt (x3 + 1) (fun x3_5 => rec x3_5 s4)))))) (fun j23 => if x3 = 0 then (j23 0 s0) else j23 100000000 s0)
noncomputable def st_X10_laysCoins_70 (N : Nat) (x1 : Int32) (x2 : Int32) (x3 : Int32) (k148 : Mem → Option (Unit × Mem)) (rec : Int32 → Mem → Option (Unit × Mem)) (x4 : Int32) (s0 : Mem) : Option (Unit × Mem) :=
  if x2 < x4 then (k148 s0) else chk x4 1000 (bd (f_X10_octet N x3 s0) (fun r14 s13 => chk (x4 - r14) 1000 (bd (f_X10_min N (gi s0 40 (ix x4)) ((gi s13 40 (ix (x4 - r14))) + 1) s13) (fun r16 s15 => chk x4 1000 (lt (si s15 40 (ix x4) r16) (fun s17 => chk x4 1000 (bd (f_X10_octet N x3 s17) (fun r19 s18 => chk (x4 - r19) 1000 (bd (f_X10_min N 1000000000 ((gi s17 41 (ix x4)) + (gi s18 41 (ix (x4 - r19)))) s18) (fun r21 s20 => chk x4 1000 (lt (si s20 41 (ix x4) r21) (fun s22 => lt (x4 + 1) (fun x4_23 => rec x4_23 s22)))))))))))))
noncomputable def st_X10_laysCoins_47 (N : Nat) (x1 : Int32) (x2 : Int32)  (rec : Int32 → Mem → Option (Unit × Mem)) (x3 : Int32) (s0 : Mem) : Option (Unit × Mem) :=
  if x1 ≤ x3 then (some ((), s0)) else bd (f_X10_isAgain N x3 s0) (fun r10 s9 => if r10 = 0 then (bd (f_X10_octet N x3 s9) (fun r12 s11 => itr (fun _ _ => none) (st_X10_laysCoins_70 N x1 x2 x3 (fun  (s24 : Mem) => lt (x3 + 1) (fun x3_25 => rec x3_25 s24))) N r12 s11)) else lt (x3 + 1) (fun x3_26 => rec x3_26 s9))
noncomputable def f_X10_laysCoins (N : Nat) (x1 : Int32) (x2 : Int32) (s : Mem) : Option (Unit × Mem) :=
  itr (fun _ _ => none) (st_X10_laysCoins_2 N x1 x2 (fun  (s8 : Mem) => itr (fun _ _ => none) (st_X10_laysCoins_47 N x1 x2) N 0 s8)) N 0 s
set_option maxRecDepth 20000 in
theorem w_X10_laysCoins_2 {G : Gx} (hG : Gok G ∧ IsG G layM fsoM) {P : Option (Unit × Mem) → Nat → List (Nat × Value) → List Value → Mem → Prop} (h : Jk G layM fsoM RX10 cX10_laysCoins 5 none 2 tvV P) (N : Nat) (x1 : Int32) (x2 : Int32) {k45 : Mem → Option (Unit × Mem)} (hk45 : ∀  (s : Mem), P (k45 s) 45 [(0, .ref (Ga G 0)), (1, .int x1), (2, .int x2)] [] s) {rec : Int32 → Mem → Option (Unit × Mem)} (ih : ∀ (x3 : Int32) (s : Mem), P (rec x3 s) 2 [(0, .ref (Ga G 0)), (1, .int x1), (2, .int x2), (3, .int x3)] [] s) : ∀ (x3 : Int32) (s : Mem), P (st_X10_laysCoins_2 N x1 x2 k45 rec x3 s) 2 [(0, .ref (Ga G 0)), (1, .int x1), (2, .int x2), (3, .int x3)] [] s := by
  intro x3 s0
  unfold st_X10_laysCoins_2
  refine jx_iload_n h dX10_laysCoins_2 rfl 3 rfl ?_
  refine jx_iload_n h dX10_laysCoins_3 rfl 2 rfl ?_
  refine jx_icmp_gt (tgt := 45) h dX10_laysCoins_4 rfl ?_ ?_
  · exact jx_subk [0, 1, 2] h (hk45 s0) rfl
  · refine jx_aload_n h dX10_laysCoins_7 rfl 0 rfl ?_
    refine jx_get (v := .ref (Ga G 40)) h fa_X10_128 lm_0 dX10_laysCoins_8 rfl ?_
    refine jx_iload_n h dX10_laysCoins_11 rfl 3 rfl ?_
    refine jx_iload_n h dX10_laysCoins_12 rfl 3 rfl ?_
    refine jx_join (fun (j : Int32 → Mem → Option (Unit × Mem)) => ∀ (t2 : Int32) (s1 : Mem), P (j t2 s1) 23 [(0, .ref (Ga G 0)), (1, .int x1), (2, .int x2), (3, .int x3)] [.int t2, .int x3, .ref (Ga G 40)] s1) (fun t2 s1 => ?_) (fun j23 hj23 => ?_)
    · refine jx_iastore h lm_40 dX10_laysCoins_23 (fun s3 => ?_)
      refine jx_aload_n h dX10_laysCoins_24 rfl 0 rfl ?_
      refine jx_get (v := .ref (Ga G 41)) h fa_X10_131 lm_0 dX10_laysCoins_25 rfl ?_
      refine jx_iload_n h dX10_laysCoins_28 rfl 3 rfl ?_
      refine jx_iload_n h dX10_laysCoins_29 rfl 3 rfl ?_
      refine jx_if_ne (tgt := 37) h dX10_laysCoins_30 rfl ?_ ?_
      · refine jx_iconst h dX10_laysCoins_37 ki_0 ?_
        refine jx_iastore h lm_41 dX10_laysCoins_38 (fun s4 => ?_)
        refine jx_iincl (L := fun w => [(3, .int w), (0, .ref (Ga G 0)), (1, .int x1), (2, .int x2)]) h dX10_laysCoins_39 3 rfl (kn_1 _) (Nat.le_of_ble_eq_true rfl) (fun _ => rfl) (fun x3_5 => ?_)
        refine jx_goto (tgt := 2) h dX10_laysCoins_42 rfl ?_
        exact jx_subk [1, 2, 3, 0] h (ih x3_5 s4) rfl
      · refine jx_iconst h dX10_laysCoins_33 ki_1 ?_
        refine jx_goto (tgt := 38) h dX10_laysCoins_34 rfl ?_
        refine jx_iastore h lm_41 dX10_laysCoins_38 (fun s6 => ?_)
        refine jx_iincl (L := fun w => [(3, .int w), (0, .ref (Ga G 0)), (1, .int x1), (2, .int x2)]) h dX10_laysCoins_39 3 rfl (kn_1 _) (Nat.le_of_ble_eq_true rfl) (fun _ => rfl) (fun x3_7 => ?_)
        refine jx_goto (tgt := 2) h dX10_laysCoins_42 rfl ?_
        exact jx_subk [1, 2, 3, 0] h (ih x3_7 s6) rfl
    · refine jx_if_ne (tgt := 20) h dX10_laysCoins_13 rfl ?_ ?_
      · refine jx_ldcw h dX10_laysCoins_20 kw_X10_339 ?_
        exact hj23 100000000 s0
      · refine jx_iconst h dX10_laysCoins_16 ki_0 ?_
        refine jx_goto (tgt := 23) h dX10_laysCoins_17 rfl ?_
        exact hj23 0 s0
set_option maxRecDepth 20000 in
theorem w_X10_laysCoins_70 {G : Gx} (hG : Gok G ∧ IsG G layM fsoM) {P : Option (Unit × Mem) → Nat → List (Nat × Value) → List Value → Mem → Prop} (h : Jk G layM fsoM RX10 cX10_laysCoins 5 none 2 tvV P) (N : Nat) (x1 : Int32) (x2 : Int32) (x3 : Int32) {k148 : Mem → Option (Unit × Mem)} (hk148 : ∀  (s : Mem), P (k148 s) 148 [(0, .ref (Ga G 0)), (1, .int x1), (2, .int x2), (3, .int x3)] [] s) {rec : Int32 → Mem → Option (Unit × Mem)} (ih : ∀ (x4 : Int32) (s : Mem), P (rec x4 s) 70 [(0, .ref (Ga G 0)), (1, .int x1), (2, .int x2), (3, .int x3), (4, .int x4)] [] s) : ∀ (x4 : Int32) (s : Mem), P (st_X10_laysCoins_70 N x1 x2 x3 k148 rec x4 s) 70 [(0, .ref (Ga G 0)), (1, .int x1), (2, .int x2), (3, .int x3), (4, .int x4)] [] s := by
  intro x4 s0
  unfold st_X10_laysCoins_70
  refine jx_iload h dX10_laysCoins_70 4 rfl ?_
  refine jx_iload_n h dX10_laysCoins_72 rfl 2 rfl ?_
  refine jx_icmp_gt (tgt := 148) h dX10_laysCoins_73 rfl ?_ ?_
  · exact jx_subk [0, 1, 2, 3] h (hk148 s0) rfl
  · refine jx_aload_n h dX10_laysCoins_76 rfl 0 rfl ?_
    refine jx_get (v := .ref (Ga G 40)) h fa_X10_128 lm_0 dX10_laysCoins_77 rfl ?_
    refine jx_iload h dX10_laysCoins_80 4 rfl ?_
    refine jx_aload_n h dX10_laysCoins_82 rfl 0 rfl ?_
    refine jx_get (v := .ref (Ga G 40)) h fa_X10_128 lm_0 dX10_laysCoins_83 rfl ?_
    refine jx_iload h dX10_laysCoins_86 4 rfl ?_
    refine jx_iaload h lm_40 dX10_laysCoins_88 ?_
    refine jx_aload_n h dX10_laysCoins_89 rfl 0 rfl ?_
    refine jx_get (v := .ref (Ga G 40)) h fa_X10_128 lm_0 dX10_laysCoins_90 rfl ?_
    refine jx_iload h dX10_laysCoins_93 4 rfl ?_
    refine jx_aload_n h dX10_laysCoins_95 rfl 0 rfl ?_
    refine jx_iload_n h dX10_laysCoins_96 rfl 3 rfl ?_
    refine jx_callVi [.int x4, .ref (Ga G 40), .int (gi s0 40 (ix x4)), .int x4, .ref (Ga G 40)] h lm_0 (c_X10_octet hG N x3 s0) ml_X10_388 (Nat.le_of_ble_eq_true rfl) (Nat.le_of_ble_eq_true rfl) dX10_laysCoins_97 (Nat.le_of_ble_eq_true rfl) rfl (fun r14 s13 => ?_)
    refine jx_isub h dX10_laysCoins_100 ?_
    refine jx_iaload h lm_40 dX10_laysCoins_101 ?_
    refine jx_iconst h dX10_laysCoins_102 ki_1 ?_
    refine jx_iadd h dX10_laysCoins_103 ?_
    refine jx_callSi [.int x4, .ref (Ga G 40)] h (c_X10_min hG N (gi s0 40 (ix x4)) ((gi s13 40 (ix (x4 - r14))) + 1) s13) ml_X10_271 (Nat.le_of_ble_eq_true rfl) (Nat.le_of_ble_eq_true rfl) dX10_laysCoins_104 (Nat.le_of_ble_eq_true rfl) rfl (fun r16 s15 => ?_)
    refine jx_iastore h lm_40 dX10_laysCoins_107 (fun s17 => ?_)
    refine jx_aload_n h dX10_laysCoins_108 rfl 0 rfl ?_
    refine jx_get (v := .ref (Ga G 41)) h fa_X10_131 lm_0 dX10_laysCoins_109 rfl ?_
    refine jx_iload h dX10_laysCoins_112 4 rfl ?_
    refine jx_ldcw h dX10_laysCoins_114 kw_X10_409 ?_
    refine jx_aload_n h dX10_laysCoins_117 rfl 0 rfl ?_
    refine jx_get (v := .ref (Ga G 41)) h fa_X10_131 lm_0 dX10_laysCoins_118 rfl ?_
    refine jx_iload h dX10_laysCoins_121 4 rfl ?_
    refine jx_iaload h lm_41 dX10_laysCoins_123 ?_
    refine jx_aload_n h dX10_laysCoins_124 rfl 0 rfl ?_
    refine jx_get (v := .ref (Ga G 41)) h fa_X10_131 lm_0 dX10_laysCoins_125 rfl ?_
    refine jx_iload h dX10_laysCoins_128 4 rfl ?_
    refine jx_aload_n h dX10_laysCoins_130 rfl 0 rfl ?_
    refine jx_iload_n h dX10_laysCoins_131 rfl 3 rfl ?_
    refine jx_callVi [.int x4, .ref (Ga G 41), .int (gi s17 41 (ix x4)), .int 1000000000, .int x4, .ref (Ga G 41)] h lm_0 (c_X10_octet hG N x3 s17) ml_X10_388 (Nat.le_of_ble_eq_true rfl) (Nat.le_of_ble_eq_true rfl) dX10_laysCoins_132 (Nat.le_of_ble_eq_true rfl) rfl (fun r19 s18 => ?_)
    refine jx_isub h dX10_laysCoins_135 ?_
    refine jx_iaload h lm_41 dX10_laysCoins_136 ?_
    refine jx_iadd h dX10_laysCoins_137 ?_
    refine jx_callSi [.int x4, .ref (Ga G 41)] h (c_X10_min hG N 1000000000 ((gi s17 41 (ix x4)) + (gi s18 41 (ix (x4 - r19)))) s18) ml_X10_271 (Nat.le_of_ble_eq_true rfl) (Nat.le_of_ble_eq_true rfl) dX10_laysCoins_138 (Nat.le_of_ble_eq_true rfl) rfl (fun r21 s20 => ?_)
    refine jx_iastore h lm_41 dX10_laysCoins_141 (fun s22 => ?_)
    refine jx_iincl (L := fun w => [(4, .int w), (0, .ref (Ga G 0)), (1, .int x1), (2, .int x2), (3, .int x3)]) h dX10_laysCoins_142 4 rfl (kn_1 _) (Nat.le_of_ble_eq_true rfl) (fun _ => rfl) (fun x4_23 => ?_)
    refine jx_goto (tgt := 70) h dX10_laysCoins_145 rfl ?_
    exact jx_subk [1, 2, 3, 4, 0] h (ih x4_23 s22) rfl
set_option maxRecDepth 20000 in
theorem w_X10_laysCoins_47 {G : Gx} (hG : Gok G ∧ IsG G layM fsoM) {P : Option (Unit × Mem) → Nat → List (Nat × Value) → List Value → Mem → Prop} (h : Jk G layM fsoM RX10 cX10_laysCoins 5 none 2 tvV P) (N : Nat) (x1 : Int32) (x2 : Int32) {rec : Int32 → Mem → Option (Unit × Mem)} (ih : ∀ (x3 : Int32) (s : Mem), P (rec x3 s) 47 [(0, .ref (Ga G 0)), (1, .int x1), (2, .int x2), (3, .int x3)] [] s) : ∀ (x3 : Int32) (s : Mem), P (st_X10_laysCoins_47 N x1 x2 rec x3 s) 47 [(0, .ref (Ga G 0)), (1, .int x1), (2, .int x2), (3, .int x3)] [] s := by
  intro x3 s0
  unfold st_X10_laysCoins_47
  refine jx_iload_n h dX10_laysCoins_47 rfl 3 rfl ?_
  refine jx_iload_n h dX10_laysCoins_48 rfl 1 rfl ?_
  refine jx_icmp_ge (tgt := 154) h dX10_laysCoins_49 rfl ?_ ?_
  · exact jx_vret h dX10_laysCoins_154
  · refine jx_aload_n h dX10_laysCoins_52 rfl 0 rfl ?_
    refine jx_iload_n h dX10_laysCoins_53 rfl 3 rfl ?_
    refine jx_callVi [] h lm_0 (c_X10_isAgain hG N x3 s0) ml_X10_406 (Nat.le_of_ble_eq_true rfl) (Nat.le_of_ble_eq_true rfl) dX10_laysCoins_54 (Nat.le_of_ble_eq_true rfl) rfl (fun r10 s9 => ?_)
    refine jx_if_eq (tgt := 63) h dX10_laysCoins_57 rfl ?_ ?_
    · refine jx_aload_n h dX10_laysCoins_63 rfl 0 rfl ?_
      refine jx_iload_n h dX10_laysCoins_64 rfl 3 rfl ?_
      refine jx_callVi [] h lm_0 (c_X10_octet hG N x3 s9) ml_X10_388 (Nat.le_of_ble_eq_true rfl) (Nat.le_of_ble_eq_true rfl) dX10_laysCoins_65 (Nat.le_of_ble_eq_true rfl) rfl (fun r12 s11 => ?_)
      refine jx_istore (lv' := [(4, .int r12), (0, .ref (Ga G 0)), (1, .int x1), (2, .int x2), (3, .int x3)]) h dX10_laysCoins_68 (Nat.le_of_ble_eq_true rfl) rfl ?_
      refine jx_subk [1, 2, 3, 4, 0] h (itr_ind (Q := (fun (f : Int32 → Mem → Option (Unit × Mem)) => ∀ (x4 : Int32) (s : Mem), P (f x4 s) 70 [(0, .ref (Ga G 0)), (1, .int x1), (2, .int x2), (3, .int x3), (4, .int x4)] [] s)) (fun _ _ => jx_none h) (fun r70 ih70 => ?_) N r12 s11) rfl
      refine w_X10_laysCoins_70 hG h N x1 x2 x3 ?_ ih70
      intro s24
      refine jx_iincl (L := fun w => [(3, .int w), (0, .ref (Ga G 0)), (1, .int x1), (2, .int x2)]) h dX10_laysCoins_148 3 rfl (kn_1 _) (Nat.le_of_ble_eq_true rfl) (fun _ => rfl) (fun x3_25 => ?_)
      refine jx_goto (tgt := 47) h dX10_laysCoins_151 rfl ?_
      exact jx_subk [1, 2, 3, 0] h (ih x3_25 s24) rfl
    · refine jx_goto (tgt := 148) h dX10_laysCoins_60 rfl ?_
      refine jx_iincl (L := fun w => [(3, .int w), (0, .ref (Ga G 0)), (1, .int x1), (2, .int x2)]) h dX10_laysCoins_148 3 rfl (kn_1 _) (Nat.le_of_ble_eq_true rfl) (fun _ => rfl) (fun x3_26 => ?_)
      refine jx_goto (tgt := 47) h dX10_laysCoins_151 rfl ?_
      exact jx_subk [1, 2, 3, 0] h (ih x3_26 s9) rfl
set_option maxRecDepth 20000 in
theorem c_X10_laysCoins {G : Gx} (hG : Gok G ∧ IsG G layM fsoM) (N : Nat) (x1 : Int32) (x2 : Int32) (s : Mem) : Ct G yX10_laysCoins cX10_laysCoins 5 none 2 [.ref (Ga G 0), .int x1, .int x2] tvV s (f_X10_laysCoins N x1 x2 s) := by
  refine Ct.of hG (by decide) (Nat.le_of_ble_eq_true rfl) (fun P h => ?_)
  show P _ 0 [(0, .ref (Ga G 0)), (1, .int x1), (2, .int x2)] [] s
  unfold f_X10_laysCoins
  refine jx_iconst h dX10_laysCoins_0 ki_0 ?_
  refine jx_istore_n (lv' := [(3, .int 0), (0, .ref (Ga G 0)), (1, .int x1), (2, .int x2)]) h dX10_laysCoins_1 rfl (Nat.le_of_ble_eq_true rfl) rfl ?_
  refine jx_subk [1, 2, 3, 0] h (itr_ind (Q := (fun (f : Int32 → Mem → Option (Unit × Mem)) => ∀ (x3 : Int32) (s : Mem), P (f x3 s) 2 [(0, .ref (Ga G 0)), (1, .int x1), (2, .int x2), (3, .int x3)] [] s)) (fun _ _ => jx_none h) (fun r2 ih2 => ?_) N 0 s) rfl
  refine w_X10_laysCoins_2 hG h N x1 x2 ?_ ih2
  intro s8
  refine jx_iconst h dX10_laysCoins_45 ki_0 ?_
  refine jx_istore_n (lv' := [(3, .int 0), (0, .ref (Ga G 0)), (1, .int x1), (2, .int x2)]) h dX10_laysCoins_46 rfl (Nat.le_of_ble_eq_true rfl) rfl ?_
  refine jx_subk [1, 2, 3, 0] h (itr_ind (Q := (fun (f : Int32 → Mem → Option (Unit × Mem)) => ∀ (x3 : Int32) (s : Mem), P (f x3 s) 47 [(0, .ref (Ga G 0)), (1, .int x1), (2, .int x2), (3, .int x3)] [] s)) (fun _ _ => jx_none h) (fun r47 ih47 => ?_) N 0 s8) rfl
  refine w_X10_laysCoins_47 hG h N x1 x2  ih47
noncomputable def st_X10_byGreatest_15 (N : Nat) (x1 : Int32) (x3 : Int32) (x4 : Int32) (k50 : Int32 → Mem → Option (Int32 × Mem)) (rec : Int32 → Int32 → Mem → Option (Int32 × Mem)) (x5 : Int32) (x6 : Int32) (s0 : Mem) : Option (Int32 × Mem) :=
  if x1 ≤ x6 then (k50 x5 s0) else bd (f_X10_octet N x6 s0) (fun r2 s1 => if x3 < r2 then (lt (x6 + 1) (fun x6_3 => rec x5 x6_3 s1)) else bd (f_X10_octet N x6 s1) (fun r5 s4 => bd (f_X10_max N x5 r5 s4) (fun r7 s6 => lt (x6 + 1) (fun x6_8 => rec r7 x6_8 s6))))
noncomputable def st_X10_byGreatest_5 (N : Nat) (x1 : Int32)  (rec : Int32 → Int32 → Mem → Option (Int32 × Mem)) (x3 : Int32) (x4 : Int32) (s0 : Mem) : Option (Int32 × Mem) :=
  if x3 ≤ 0 then (some (x4, s0)) else itr (fun _ _ _ => none) (st_X10_byGreatest_15 N x1 x3 x4 (fun (x5_10 : Int32) (s9 : Mem) => if x5_10 = 0 then (some ((-2), s9)) else lt (x3 - x5_10) (fun v11 => lt (x4 + 1) (fun v12 => rec v11 v12 s9)))) N 0 0 s0
noncomputable def f_X10_byGreatest (N : Nat) (x1 : Int32) (x2 : Int32) (s : Mem) : Option (Int32 × Mem) :=
  itr (fun _ _ _ => none) (st_X10_byGreatest_5 N x1) N x2 0 s
set_option maxRecDepth 20000 in
theorem w_X10_byGreatest_15 {G : Gx} (hG : Gok G ∧ IsG G layM fsoM) {P : Option (Int32 × Mem) → Nat → List (Nat × Value) → List Value → Mem → Prop} (h : Jk G layM fsoM RX10 cX10_byGreatest 7 (some .int) 1 tvI P) (N : Nat) (x1 : Int32) (x3 : Int32) (x4 : Int32) {k50 : Int32 → Mem → Option (Int32 × Mem)} (hk50 : ∀ (x5 : Int32) (s : Mem), P (k50 x5 s) 50 [(0, .ref (Ga G 0)), (1, .int x1), (3, .int x3), (4, .int x4), (5, .int x5)] [] s) {rec : Int32 → Int32 → Mem → Option (Int32 × Mem)} (ih : ∀ (x5 : Int32) (x6 : Int32) (s : Mem), P (rec x5 x6 s) 15 [(0, .ref (Ga G 0)), (1, .int x1), (3, .int x3), (4, .int x4), (5, .int x5), (6, .int x6)] [] s) : ∀ (x5 : Int32) (x6 : Int32) (s : Mem), P (st_X10_byGreatest_15 N x1 x3 x4 k50 rec x5 x6 s) 15 [(0, .ref (Ga G 0)), (1, .int x1), (3, .int x3), (4, .int x4), (5, .int x5), (6, .int x6)] [] s := by
  intro x5 x6 s0
  unfold st_X10_byGreatest_15
  refine jx_iload h dX10_byGreatest_15 5 rfl ?_
  refine jx_iload_n h dX10_byGreatest_17 rfl 1 rfl ?_
  refine jx_icmp_ge (tgt := 50) h dX10_byGreatest_18 rfl ?_ ?_
  · exact jx_subk [0, 1, 2, 3, 4] h (hk50 x5 s0) rfl
  · refine jx_aload_n h dX10_byGreatest_21 rfl 0 rfl ?_
    refine jx_iload h dX10_byGreatest_22 5 rfl ?_
    refine jx_callVi [] h lm_0 (c_X10_octet hG N x6 s0) ml_X10_388 (Nat.le_of_ble_eq_true rfl) (Nat.le_of_ble_eq_true rfl) dX10_byGreatest_24 (Nat.le_of_ble_eq_true rfl) rfl (fun r2 s1 => ?_)
    refine jx_iload_n h dX10_byGreatest_27 rfl 2 rfl ?_
    refine jx_icmp_gt (tgt := 44) h dX10_byGreatest_28 rfl ?_ ?_
    · refine jx_iincl (L := fun w => [(6, .int w), (0, .ref (Ga G 0)), (1, .int x1), (3, .int x3), (4, .int x4), (5, .int x5)]) h dX10_byGreatest_44 5 rfl (kn_1 _) (Nat.le_of_ble_eq_true rfl) (fun _ => rfl) (fun x6_3 => ?_)
      refine jx_goto (tgt := 15) h dX10_byGreatest_47 rfl ?_
      exact jx_subk [1, 2, 3, 4, 5, 0] h (ih x5 x6_3 s1) rfl
    · refine jx_iload h dX10_byGreatest_31 4 rfl ?_
      refine jx_aload_n h dX10_byGreatest_33 rfl 0 rfl ?_
      refine jx_iload h dX10_byGreatest_34 5 rfl ?_
      refine jx_callVi [.int x5] h lm_0 (c_X10_octet hG N x6 s1) ml_X10_388 (Nat.le_of_ble_eq_true rfl) (Nat.le_of_ble_eq_true rfl) dX10_byGreatest_36 (Nat.le_of_ble_eq_true rfl) rfl (fun r5 s4 => ?_)
      refine jx_callSi [] h (c_X10_max hG N x5 r5 s4) ml_X10_376 (Nat.le_of_ble_eq_true rfl) (Nat.le_of_ble_eq_true rfl) dX10_byGreatest_39 (Nat.le_of_ble_eq_true rfl) rfl (fun r7 s6 => ?_)
      refine jx_istore (lv' := [(5, .int r7), (0, .ref (Ga G 0)), (1, .int x1), (3, .int x3), (4, .int x4), (6, .int x6)]) h dX10_byGreatest_42 (Nat.le_of_ble_eq_true rfl) rfl ?_
      refine jx_iincl (L := fun w => [(6, .int w), (5, .int r7), (0, .ref (Ga G 0)), (1, .int x1), (3, .int x3), (4, .int x4)]) h dX10_byGreatest_44 5 rfl (kn_1 _) (Nat.le_of_ble_eq_true rfl) (fun _ => rfl) (fun x6_8 => ?_)
      refine jx_goto (tgt := 15) h dX10_byGreatest_47 rfl ?_
      exact jx_subk [2, 3, 4, 5, 1, 0] h (ih r7 x6_8 s6) rfl
set_option maxRecDepth 20000 in
theorem w_X10_byGreatest_5 {G : Gx} (hG : Gok G ∧ IsG G layM fsoM) {P : Option (Int32 × Mem) → Nat → List (Nat × Value) → List Value → Mem → Prop} (h : Jk G layM fsoM RX10 cX10_byGreatest 7 (some .int) 1 tvI P) (N : Nat) (x1 : Int32) {rec : Int32 → Int32 → Mem → Option (Int32 × Mem)} (ih : ∀ (x3 : Int32) (x4 : Int32) (s : Mem), P (rec x3 x4 s) 5 [(0, .ref (Ga G 0)), (1, .int x1), (3, .int x3), (4, .int x4)] [] s) : ∀ (x3 : Int32) (x4 : Int32) (s : Mem), P (st_X10_byGreatest_5 N x1 rec x3 x4 s) 5 [(0, .ref (Ga G 0)), (1, .int x1), (3, .int x3), (4, .int x4)] [] s := by
  intro x3 x4 s0
  unfold st_X10_byGreatest_5
  refine jx_iload_n h dX10_byGreatest_5 rfl 2 rfl ?_
  refine jx_if_le (tgt := 72) h dX10_byGreatest_6 rfl ?_ ?_
  · refine jx_iload h dX10_byGreatest_72 3 rfl ?_
    exact jx_iret h dX10_byGreatest_74
  · refine jx_iconst h dX10_byGreatest_9 ki_0 ?_
    refine jx_istore (lv' := [(5, .int 0), (0, .ref (Ga G 0)), (1, .int x1), (3, .int x3), (4, .int x4)]) h dX10_byGreatest_10 (Nat.le_of_ble_eq_true rfl) rfl ?_
    refine jx_iconst h dX10_byGreatest_12 ki_0 ?_
    refine jx_istore (lv' := [(6, .int 0), (5, .int 0), (0, .ref (Ga G 0)), (1, .int x1), (3, .int x3), (4, .int x4)]) h dX10_byGreatest_13 (Nat.le_of_ble_eq_true rfl) rfl ?_
    refine jx_subk [2, 3, 4, 5, 1, 0] h (itr_ind (Q := (fun (f : Int32 → Int32 → Mem → Option (Int32 × Mem)) => ∀ (x5 : Int32) (x6 : Int32) (s : Mem), P (f x5 x6 s) 15 [(0, .ref (Ga G 0)), (1, .int x1), (3, .int x3), (4, .int x4), (5, .int x5), (6, .int x6)] [] s)) (fun _ _ _ => jx_none h) (fun r15 ih15 => ?_) N 0 0 s0) rfl
    refine w_X10_byGreatest_15 hG h N x1 x3 x4 ?_ ih15
    intro x5_10 s9
    refine jx_iload h dX10_byGreatest_50 4 rfl ?_
    refine jx_if_ne (tgt := 58) h dX10_byGreatest_52 rfl ?_ ?_
    · refine jx_iload_n h dX10_byGreatest_58 rfl 2 rfl ?_
      refine jx_iload h dX10_byGreatest_59 4 rfl ?_
      refine jx_isub h dX10_byGreatest_61 ?_
      refine jx_lti (fun v11 => ?_)
      refine jx_istore_n (lv' := [(3, .int v11), (0, .ref (Ga G 0)), (1, .int x1), (4, .int x4), (5, .int x5_10)]) h dX10_byGreatest_62 rfl (Nat.le_of_ble_eq_true rfl) rfl ?_
      refine jx_iload h dX10_byGreatest_63 3 rfl ?_
      refine jx_iconst h dX10_byGreatest_65 ki_1 ?_
      refine jx_iadd h dX10_byGreatest_66 ?_
      refine jx_lti (fun v12 => ?_)
      refine jx_istore (lv' := [(4, .int v12), (3, .int v11), (0, .ref (Ga G 0)), (1, .int x1), (5, .int x5_10)]) h dX10_byGreatest_67 (Nat.le_of_ble_eq_true rfl) rfl ?_
      refine jx_goto (tgt := 5) h dX10_byGreatest_69 rfl ?_
      exact jx_subk [2, 3, 1, 0] h (ih v11 v12 s9) rfl
    · refine jx_bipush h dX10_byGreatest_55 kb_m2 ?_
      exact jx_iret h dX10_byGreatest_57
set_option maxRecDepth 20000 in
theorem c_X10_byGreatest {G : Gx} (hG : Gok G ∧ IsG G layM fsoM) (N : Nat) (x1 : Int32) (x2 : Int32) (s : Mem) : Ct G yX10_byGreatest cX10_byGreatest 7 (some .int) 1 [.ref (Ga G 0), .int x1, .int x2] tvI s (f_X10_byGreatest N x1 x2 s) := by
  refine Ct.of hG (by decide) (Nat.le_of_ble_eq_true rfl) (fun P h => ?_)
  show P _ 0 [(0, .ref (Ga G 0)), (1, .int x1), (2, .int x2)] [] s
  unfold f_X10_byGreatest
  refine jx_iload_n h dX10_byGreatest_0 rfl 2 rfl ?_
  refine jx_istore_n (lv' := [(3, .int x2), (0, .ref (Ga G 0)), (1, .int x1), (2, .int x2)]) h dX10_byGreatest_1 rfl (Nat.le_of_ble_eq_true rfl) rfl ?_
  refine jx_iconst h dX10_byGreatest_2 ki_0 ?_
  refine jx_istore (lv' := [(4, .int 0), (3, .int x2), (0, .ref (Ga G 0)), (1, .int x1), (2, .int x2)]) h dX10_byGreatest_3 (Nat.le_of_ble_eq_true rfl) rfl ?_
  refine jx_subk [2, 3, 1, 0] h (itr_ind (Q := (fun (f : Int32 → Int32 → Mem → Option (Int32 × Mem)) => ∀ (x3 : Int32) (x4 : Int32) (s : Mem), P (f x3 x4 s) 5 [(0, .ref (Ga G 0)), (1, .int x1), (3, .int x3), (4, .int x4)] [] s)) (fun _ _ _ => jx_none h) (fun r5 ih5 => ?_) N x2 0 s) rfl
  refine w_X10_byGreatest_5 hG h N x1  ih5
noncomputable def st_X10_coins_48 (N : Nat) (x1 : Int32) (x2 : Int32) (x3 : Int32) (k72 : Mem → Option (Int32 × Mem)) (rec : Int32 → Mem → Option (Int32 × Mem)) (x4 : Int32) (s0 : Mem) : Option (Int32 × Mem) :=
  if x1 ≤ x4 then (k72 s0) else bd (f_X10_octet N x4 s0) (fun r9 s8 => if r9 = 0 then (some ((-3), s8)) else lt (x4 + 1) (fun x4_10 => rec x4_10 s8))
noncomputable def f_X10_coins (N : Nat) (x1 : Int32) (x2 : Int32) (x3 : Int32) (s : Mem) : Option (Int32 × Mem) :=
  bd (f_X10_in N x1 1 6 s) (fun r2 s1 => if r2 = 0 then (some ((-1), s1)) else bd (f_X10_in N x2 0 999 s1) (fun r4 s3 => if r4 = 0 then (some ((-1), s3)) else bd (f_X10_in N x3 0 2 s3) (fun r6 s5 => if r6 = 0 then (some ((-1), s5)) else if x1 ≤ (gi s5 0 5) then (lt (si s5 0 5 0) (fun s7 => itr (fun _ _ => none) (st_X10_coins_48 N x1 x2 x3 (fun  (s11 : Mem) => if x3 = 2 then (bd (f_X10_byGreatest N x1 x2 s11) (fun r15 s14 => some (r15, s14))) else bd (f_X10_laysCoins N x1 x2 s11) (fun _ s12 => if x3 = 1 then (chk x2 1000 (some (gi s12 41 (ix x2), s12))) else chk x2 1000 (if (gi s12 40 (ix x2)) < 100000000 then (chk x2 1000 (some (gi s12 40 (ix x2), s12))) else some ((-2), s12))))) N 0 s7)) else some ((-1), s5))))
set_option maxRecDepth 20000 in
theorem w_X10_coins_48 {G : Gx} (hG : Gok G ∧ IsG G layM fsoM) {P : Option (Int32 × Mem) → Nat → List (Nat × Value) → List Value → Mem → Prop} (h : Jk G layM fsoM RX10 cX10_coins 5 (some .int) 3 tvI P) (N : Nat) (x1 : Int32) (x2 : Int32) (x3 : Int32) {k72 : Mem → Option (Int32 × Mem)} (hk72 : ∀  (s : Mem), P (k72 s) 72 [(0, .ref (Ga G 0)), (1, .int x1), (2, .int x2), (3, .int x3)] [] s) {rec : Int32 → Mem → Option (Int32 × Mem)} (ih : ∀ (x4 : Int32) (s : Mem), P (rec x4 s) 48 [(0, .ref (Ga G 0)), (1, .int x1), (2, .int x2), (3, .int x3), (4, .int x4)] [] s) : ∀ (x4 : Int32) (s : Mem), P (st_X10_coins_48 N x1 x2 x3 k72 rec x4 s) 48 [(0, .ref (Ga G 0)), (1, .int x1), (2, .int x2), (3, .int x3), (4, .int x4)] [] s := by
  intro x4 s0
  unfold st_X10_coins_48
  refine jx_iload h dX10_coins_48 4 rfl ?_
  refine jx_iload_n h dX10_coins_50 rfl 1 rfl ?_
  refine jx_icmp_ge (tgt := 72) h dX10_coins_51 rfl ?_ ?_
  · exact jx_subk [0, 1, 2, 3] h (hk72 s0) rfl
  · refine jx_aload_n h dX10_coins_54 rfl 0 rfl ?_
    refine jx_iload h dX10_coins_55 4 rfl ?_
    refine jx_callVi [] h lm_0 (c_X10_octet hG N x4 s0) ml_X10_388 (Nat.le_of_ble_eq_true rfl) (Nat.le_of_ble_eq_true rfl) dX10_coins_57 (Nat.le_of_ble_eq_true rfl) rfl (fun r9 s8 => ?_)
    refine jx_if_ne (tgt := 66) h dX10_coins_60 rfl ?_ ?_
    · refine jx_iincl (L := fun w => [(4, .int w), (0, .ref (Ga G 0)), (1, .int x1), (2, .int x2), (3, .int x3)]) h dX10_coins_66 4 rfl (kn_1 _) (Nat.le_of_ble_eq_true rfl) (fun _ => rfl) (fun x4_10 => ?_)
      refine jx_goto (tgt := 48) h dX10_coins_69 rfl ?_
      exact jx_subk [1, 2, 3, 4, 0] h (ih x4_10 s8) rfl
    · refine jx_bipush h dX10_coins_63 kb_m3 ?_
      exact jx_iret h dX10_coins_65
set_option maxRecDepth 20000 in
theorem c_X10_coins {G : Gx} (hG : Gok G ∧ IsG G layM fsoM) (N : Nat) (x1 : Int32) (x2 : Int32) (x3 : Int32) (s : Mem) : Ct G yX10_coins cX10_coins 5 (some .int) 3 [.ref (Ga G 0), .int x1, .int x2, .int x3] tvI s (f_X10_coins N x1 x2 x3 s) := by
  refine Ct.of hG (by decide) (Nat.le_of_ble_eq_true rfl) (fun P h => ?_)
  show P _ 0 [(0, .ref (Ga G 0)), (1, .int x1), (2, .int x2), (3, .int x3)] [] s
  unfold f_X10_coins
  refine jx_iload_n h dX10_coins_0 rfl 1 rfl ?_
  refine jx_iconst h dX10_coins_1 ki_1 ?_
  refine jx_bipush h dX10_coins_2 kb_6 ?_
  refine jx_callSi [] h (c_X10_in hG N x1 1 6 s) ml_X10_134 (Nat.le_of_ble_eq_true rfl) (Nat.le_of_ble_eq_true rfl) dX10_coins_4 (Nat.le_of_ble_eq_true rfl) rfl (fun r2 s1 => ?_)
  refine jx_if_eq (tgt := 38) h dX10_coins_7 rfl ?_ ?_
  · refine jx_iconst h dX10_coins_38 ki_m1 ?_
    exact jx_iret h dX10_coins_39
  · refine jx_iload_n h dX10_coins_10 rfl 2 rfl ?_
    refine jx_iconst h dX10_coins_11 ki_0 ?_
    refine jx_sipush h dX10_coins_12 ks_999 ?_
    refine jx_callSi [] h (c_X10_in hG N x2 0 999 s1) ml_X10_134 (Nat.le_of_ble_eq_true rfl) (Nat.le_of_ble_eq_true rfl) dX10_coins_15 (Nat.le_of_ble_eq_true rfl) rfl (fun r4 s3 => ?_)
    refine jx_if_eq (tgt := 38) h dX10_coins_18 rfl ?_ ?_
    · refine jx_iconst h dX10_coins_38 ki_m1 ?_
      exact jx_iret h dX10_coins_39
    · refine jx_iload_n h dX10_coins_21 rfl 3 rfl ?_
      refine jx_iconst h dX10_coins_22 ki_0 ?_
      refine jx_iconst h dX10_coins_23 ki_2 ?_
      refine jx_callSi [] h (c_X10_in hG N x3 0 2 s3) ml_X10_134 (Nat.le_of_ble_eq_true rfl) (Nat.le_of_ble_eq_true rfl) dX10_coins_24 (Nat.le_of_ble_eq_true rfl) rfl (fun r6 s5 => ?_)
      refine jx_if_eq (tgt := 38) h dX10_coins_27 rfl ?_ ?_
      · refine jx_iconst h dX10_coins_38 ki_m1 ?_
        exact jx_iret h dX10_coins_39
      · refine jx_iload_n h dX10_coins_30 rfl 1 rfl ?_
        refine jx_aload_n h dX10_coins_31 rfl 0 rfl ?_
        refine jx_get (v := .int (gi s5 0 5)) h fa_X10_150 lm_0 dX10_coins_32 rfl ?_
        refine jx_icmp_le (tgt := 40) h dX10_coins_35 rfl ?_ ?_
        · refine jx_aload_n h dX10_coins_40 rfl 0 rfl ?_
          refine jx_iconst h dX10_coins_41 ki_0 ?_
          refine jx_put h fa_X10_150 fp_X10_5 lm_0 rfl rfl dX10_coins_42 (fu_X10_5 _ _ _ _) (fun s7 => ?_)
          refine jx_iconst h dX10_coins_45 ki_0 ?_
          refine jx_istore (lv' := [(4, .int 0), (0, .ref (Ga G 0)), (1, .int x1), (2, .int x2), (3, .int x3)]) h dX10_coins_46 (Nat.le_of_ble_eq_true rfl) rfl ?_
          refine jx_subk [1, 2, 3, 4, 0] h (itr_ind (Q := (fun (f : Int32 → Mem → Option (Int32 × Mem)) => ∀ (x4 : Int32) (s : Mem), P (f x4 s) 48 [(0, .ref (Ga G 0)), (1, .int x1), (2, .int x2), (3, .int x3), (4, .int x4)] [] s)) (fun _ _ => jx_none h) (fun r48 ih48 => ?_) N 0 s7) rfl
          refine w_X10_coins_48 hG h N x1 x2 x3 ?_ ih48
          intro s11
          refine jx_iload_n h dX10_coins_72 rfl 3 rfl ?_
          refine jx_iconst h dX10_coins_73 ki_2 ?_
          refine jx_icmp_ne (tgt := 84) h dX10_coins_74 rfl ?_ ?_
          · refine jx_aload_n h dX10_coins_84 rfl 0 rfl ?_
            refine jx_iload_n h dX10_coins_85 rfl 1 rfl ?_
            refine jx_iload_n h dX10_coins_86 rfl 2 rfl ?_
            refine jx_callVv [] h lm_0 (c_X10_laysCoins hG N x1 x2 s11) ml_X10_413 (Nat.le_of_ble_eq_true rfl) (Nat.le_of_ble_eq_true rfl) dX10_coins_87 (Nat.le_of_ble_eq_true rfl) rfl (fun s12 => ?_)
            refine jx_iload_n h dX10_coins_90 rfl 3 rfl ?_
            refine jx_iconst h dX10_coins_91 ki_1 ?_
            refine jx_icmp_ne (tgt := 102) h dX10_coins_92 rfl ?_ ?_
            · refine jx_aload_n h dX10_coins_102 rfl 0 rfl ?_
              refine jx_get (v := .ref (Ga G 40)) h fa_X10_128 lm_0 dX10_coins_103 rfl ?_
              refine jx_iload_n h dX10_coins_106 rfl 2 rfl ?_
              refine jx_iaload h lm_40 dX10_coins_107 ?_
              refine jx_ldcw h dX10_coins_108 kw_X10_339 ?_
              refine jx_icmp_lt (tgt := 119) h dX10_coins_111 rfl ?_ ?_
              · refine jx_aload_n h dX10_coins_119 rfl 0 rfl ?_
                refine jx_get (v := .ref (Ga G 40)) h fa_X10_128 lm_0 dX10_coins_120 rfl ?_
                refine jx_iload_n h dX10_coins_123 rfl 2 rfl ?_
                refine jx_iaload h lm_40 dX10_coins_124 ?_
                exact jx_iret h dX10_coins_125
              · refine jx_bipush h dX10_coins_114 kb_m2 ?_
                refine jx_goto (tgt := 125) h dX10_coins_116 rfl ?_
                exact jx_iret h dX10_coins_125
            · refine jx_aload_n h dX10_coins_95 rfl 0 rfl ?_
              refine jx_get (v := .ref (Ga G 41)) h fa_X10_131 lm_0 dX10_coins_96 rfl ?_
              refine jx_iload_n h dX10_coins_99 rfl 2 rfl ?_
              refine jx_iaload h lm_41 dX10_coins_100 ?_
              exact jx_iret h dX10_coins_101
          · refine jx_aload_n h dX10_coins_77 rfl 0 rfl ?_
            refine jx_iload_n h dX10_coins_78 rfl 1 rfl ?_
            refine jx_iload_n h dX10_coins_79 rfl 2 rfl ?_
            refine jx_callVi [] h lm_0 (c_X10_byGreatest hG N x1 x2 s11) ml_X10_410 (Nat.le_of_ble_eq_true rfl) (Nat.le_of_ble_eq_true rfl) dX10_coins_80 (Nat.le_of_ble_eq_true rfl) rfl (fun r15 s14 => ?_)
            exact jx_iret h dX10_coins_83
        · refine jx_iconst h dX10_coins_38 ki_m1 ?_
          exact jx_iret h dX10_coins_39
noncomputable def f_X10_lent (N : Nat) (x1 : Int32) (x2 : Int32) (x3 : Int32) (s : Mem) : Option (Int32 × Mem) :=
  bd (f_X10_isLetter N x1 s) (fun r2 s1 => if r2 = 0 then (some ((-1), s1)) else bd (f_X10_in N x2 1 60 s1) (fun r4 s3 => if r4 = 0 then (some ((-1), s3)) else bd (f_X10_in N x3 0 10 s3) (fun r6 s5 => if r6 = 0 then (some ((-1), s5)) else bd (f_X10_tried N x2 ((10 : Int32) + x1) s5) (fun r8 s7 => lt ((r8 * 2) / 3) (fun v9 => lt ((((v9.toInt64 * x3.toInt64) * x2.toInt64) + 99) / 100) (fun v10 => if (lg_cmp v10 v9.toInt64) ≤ 0 then (some (v9 - v10.toInt32, s7)) else some (0, s7)))))))
set_option maxRecDepth 20000 in
theorem c_X10_lent {G : Gx} (hG : Gok G ∧ IsG G layM fsoM) (N : Nat) (x1 : Int32) (x2 : Int32) (x3 : Int32) (s : Mem) : Ct G yX10_lent cX10_lent 7 (some .int) 8 [.ref (Ga G 0), .int x1, .int x2, .int x3] tvI s (f_X10_lent N x1 x2 x3 s) := by
  refine Ct.of hG (by decide) (Nat.le_of_ble_eq_true rfl) (fun P h => ?_)
  show P _ 0 [(0, .ref (Ga G 0)), (1, .int x1), (2, .int x2), (3, .int x3)] [] s
  unfold f_X10_lent
  refine jx_aload_n h dX10_lent_0 rfl 0 rfl ?_
  refine jx_iload_n h dX10_lent_1 rfl 1 rfl ?_
  refine jx_callVi [] h lm_0 (c_X10_isLetter hG N x1 s) ml_X10_264 (Nat.le_of_ble_eq_true rfl) (Nat.le_of_ble_eq_true rfl) dX10_lent_2 (Nat.le_of_ble_eq_true rfl) rfl (fun r2 s1 => ?_)
  refine jx_if_eq (tgt := 28) h dX10_lent_5 rfl ?_ ?_
  · refine jx_iconst h dX10_lent_28 ki_m1 ?_
    exact jx_iret h dX10_lent_29
  · refine jx_iload_n h dX10_lent_8 rfl 2 rfl ?_
    refine jx_iconst h dX10_lent_9 ki_1 ?_
    refine jx_bipush h dX10_lent_10 kb_60 ?_
    refine jx_callSi [] h (c_X10_in hG N x2 1 60 s1) ml_X10_134 (Nat.le_of_ble_eq_true rfl) (Nat.le_of_ble_eq_true rfl) dX10_lent_12 (Nat.le_of_ble_eq_true rfl) rfl (fun r4 s3 => ?_)
    refine jx_if_eq (tgt := 28) h dX10_lent_15 rfl ?_ ?_
    · refine jx_iconst h dX10_lent_28 ki_m1 ?_
      exact jx_iret h dX10_lent_29
    · refine jx_iload_n h dX10_lent_18 rfl 3 rfl ?_
      refine jx_iconst h dX10_lent_19 ki_0 ?_
      refine jx_bipush h dX10_lent_20 kb_10 ?_
      refine jx_callSi [] h (c_X10_in hG N x3 0 10 s3) ml_X10_134 (Nat.le_of_ble_eq_true rfl) (Nat.le_of_ble_eq_true rfl) dX10_lent_22 (Nat.le_of_ble_eq_true rfl) rfl (fun r6 s5 => ?_)
      refine jx_if_ne (tgt := 30) h dX10_lent_25 rfl ?_ ?_
      · refine jx_aload_n h dX10_lent_30 rfl 0 rfl ?_
        refine jx_iload_n h dX10_lent_31 rfl 2 rfl ?_
        refine jx_bipush h dX10_lent_32 kb_10 ?_
        refine jx_iload_n h dX10_lent_34 rfl 1 rfl ?_
        refine jx_iadd h dX10_lent_35 ?_
        refine jx_callVi [] h lm_0 (c_X10_tried hG N x2 ((10 : Int32) + x1) s5) ml_X10_416 (Nat.le_of_ble_eq_true rfl) (Nat.le_of_ble_eq_true rfl) dX10_lent_36 (Nat.le_of_ble_eq_true rfl) rfl (fun r8 s7 => ?_)
        refine jx_iconst h dX10_lent_39 ki_2 ?_
        refine jx_imul h dX10_lent_40 ?_
        refine jx_iconst h dX10_lent_41 ki_3 ?_
        refine jx_idivc h (by decide) dX10_lent_42 ?_
        refine jx_lti (fun v9 => ?_)
        refine jx_istore (lv' := [(4, .int v9), (0, .ref (Ga G 0)), (1, .int x1), (2, .int x2), (3, .int x3)]) h dX10_lent_43 (Nat.le_of_ble_eq_true rfl) rfl ?_
        refine jx_iload h dX10_lent_45 0 rfl ?_
        refine jx_i2l h dX10_lent_47 ?_
        refine jx_iload_n h dX10_lent_48 rfl 4 rfl ?_
        refine jx_i2l h dX10_lent_49 ?_
        refine jx_lmul h dX10_lent_50 ?_
        refine jx_iload_n h dX10_lent_51 rfl 3 rfl ?_
        refine jx_i2l h dX10_lent_52 ?_
        refine jx_lmul h dX10_lent_53 ?_
        refine jx_ldc2 h dX10_lent_54 kw_X10_419 ?_
        refine jx_ladd h dX10_lent_57 ?_
        refine jx_ldc2 h dX10_lent_58 kw_X10_421 ?_
        refine jx_ldivc h (by decide) dX10_lent_61 ?_
        refine jx_ltl (fun v10 => ?_)
        refine jx_lstore (lv' := [(5, .long v10), (4, .int v9), (0, .ref (Ga G 0)), (1, .int x1), (2, .int x2), (3, .int x3)]) h dX10_lent_62 (Nat.le_of_ble_eq_true rfl) rfl ?_
        refine jx_lload h dX10_lent_64 0 rfl ?_
        refine jx_iload h dX10_lent_66 1 rfl ?_
        refine jx_i2l h dX10_lent_68 ?_
        refine jx_lcmp h dX10_lent_69 ?_
        refine jx_if_le (tgt := 77) h dX10_lent_70 rfl ?_ ?_
        · refine jx_iload h dX10_lent_77 1 rfl ?_
          refine jx_lload h dX10_lent_79 0 rfl ?_
          refine jx_l2i h dX10_lent_81 ?_
          refine jx_isub h dX10_lent_82 ?_
          exact jx_iret h dX10_lent_83
        · refine jx_iconst h dX10_lent_73 ki_0 ?_
          refine jx_goto (tgt := 83) h dX10_lent_74 rfl ?_
          exact jx_iret h dX10_lent_83
      · refine jx_iconst h dX10_lent_28 ki_m1 ?_
        exact jx_iret h dX10_lent_29
noncomputable def f_X10_seed (N : Nat) (x1 : Int32) (s : Mem) : Option (Int32 × Mem) :=
  bd (f_X10_in N x1 0 65535 s) (fun r2 s1 => if r2 = 0 then (some (0, s1)) else chk 150 151 (lt (si s1 1 (ix (150 : Int32)) x1) (fun s3 => some (1, s3))))
set_option maxRecDepth 20000 in
theorem c_X10_seed {G : Gx} (hG : Gok G ∧ IsG G layM fsoM) (N : Nat) (x1 : Int32) (s : Mem) : Ct G yX10_seed cX10_seed 2 (some .boolean) 1 [.ref (Ga G 0), .int x1] tvI s (f_X10_seed N x1 s) := by
  refine Ct.of hG (by decide) (Nat.le_of_ble_eq_true rfl) (fun P h => ?_)
  show P _ 0 [(0, .ref (Ga G 0)), (1, .int x1)] [] s
  unfold f_X10_seed
  refine jx_iload_n h dX10_seed_0 rfl 1 rfl ?_
  refine jx_iconst h dX10_seed_1 ki_0 ?_
  refine jx_ldcw h dX10_seed_2 kw_X10_423 ?_
  refine jx_callSi [] h (c_X10_in hG N x1 0 65535 s) ml_X10_134 (Nat.le_of_ble_eq_true rfl) (Nat.le_of_ble_eq_true rfl) dX10_seed_5 (Nat.le_of_ble_eq_true rfl) rfl (fun r2 s1 => ?_)
  refine jx_if_ne (tgt := 13) h dX10_seed_8 rfl ?_ ?_
  · refine jx_aload_n h dX10_seed_13 rfl 0 rfl ?_
    refine jx_get (v := .ref (Ga G 1)) h fa_X10_7 lm_0 dX10_seed_14 rfl ?_
    refine jx_sipush h dX10_seed_17 ks_150 ?_
    refine jx_iload_n h dX10_seed_20 rfl 1 rfl ?_
    refine jx_iastore h lm_1 dX10_seed_21 (fun s3 => ?_)
    refine jx_iconst h dX10_seed_22 ki_1 ?_
    exact jx_zret h rfl dX10_seed_23
  · refine jx_iconst h dX10_seed_11 ki_0 ?_
    exact jx_zret h rfl dX10_seed_12
noncomputable def f_X10_keep (N : Nat)  (s : Mem) : Option (Int32 × Mem) :=
  lt (si s 0 55 1) (fun s1 => bd (f_X10_copies N 1 3 s1) (fun _ s2 => chk 147 151 (some (gi s2 1 (ix (147 : Int32)), s2))))
set_option maxRecDepth 20000 in
theorem c_X10_keep {G : Gx} (hG : Gok G ∧ IsG G layM fsoM) (N : Nat)  (s : Mem) : Ct G yX10_keep cX10_keep 1 (some .int) 1 [.ref (Ga G 0)] tvI s (f_X10_keep N s) := by
  refine Ct.of hG (by decide) (Nat.le_of_ble_eq_true rfl) (fun P h => ?_)
  show P _ 0 [(0, .ref (Ga G 0))] [] s
  unfold f_X10_keep
  refine jx_aload_n h dX10_keep_0 rfl 0 rfl ?_
  refine jx_iconst h dX10_keep_1 ki_1 ?_
  refine jx_put h fa_X10_424 fp_X10_55 lm_0 (by decide) rfl dX10_keep_2 (fu_X10_55 _ _ _ _) (fun s1 => ?_)
  refine jx_aload_n h dX10_keep_5 rfl 0 rfl ?_
  refine jx_get (v := .ref (Ga G 1)) h fa_X10_7 lm_0 dX10_keep_6 rfl ?_
  refine jx_aload_n h dX10_keep_9 rfl 0 rfl ?_
  refine jx_get (v := .ref (Ga G 3)) h fa_X10_16 lm_0 dX10_keep_10 rfl ?_
  refine jx_callSv [] h (c_X10_copies hG N 1 rfl 3 rfl s1) ml_X10_332 (Nat.le_of_ble_eq_true rfl) (Nat.le_of_ble_eq_true rfl) dX10_keep_13 (Nat.le_of_ble_eq_true rfl) rfl (fun s2 => ?_)
  refine jx_aload_n h dX10_keep_16 rfl 0 rfl ?_
  refine jx_get (v := .ref (Ga G 1)) h fa_X10_7 lm_0 dX10_keep_17 rfl ?_
  refine jx_sipush h dX10_keep_20 ks_147 ?_
  refine jx_iaload h lm_1 dX10_keep_23 ?_
  exact jx_iret h dX10_keep_24
noncomputable def f_X10_undo (N : Nat)  (s : Mem) : Option (Int32 × Mem) :=
  if (gi s 0 55) = 0 then (some (0, s)) else chk 145 151 (lt (gi s 1 (ix (145 : Int32))) (fun v1 => bd (f_X10_copies N 3 1 s) (fun _ s2 => chk 145 151 (lt (si s2 1 (ix (145 : Int32)) v1) (fun s4 => some (1, s4))))))
set_option maxRecDepth 20000 in
theorem c_X10_undo {G : Gx} (hG : Gok G ∧ IsG G layM fsoM) (N : Nat)  (s : Mem) : Ct G yX10_undo cX10_undo 2 (some .boolean) 1 [.ref (Ga G 0)] tvI s (f_X10_undo N s) := by
  refine Ct.of hG (by decide) (Nat.le_of_ble_eq_true rfl) (fun P h => ?_)
  show P _ 0 [(0, .ref (Ga G 0))] [] s
  unfold f_X10_undo
  refine jx_aload_n h dX10_undo_0 rfl 0 rfl ?_
  refine jx_get (v := .int (gi s 0 55)) h fa_X10_424 lm_0 dX10_undo_1 rfl ?_
  refine jx_if_ne (tgt := 9) h dX10_undo_4 rfl ?_ ?_
  · refine jx_aload_n h dX10_undo_9 rfl 0 rfl ?_
    refine jx_get (v := .ref (Ga G 1)) h fa_X10_7 lm_0 dX10_undo_10 rfl ?_
    refine jx_sipush h dX10_undo_13 ks_145 ?_
    refine jx_iaload h lm_1 dX10_undo_16 ?_
    refine jx_lti (fun v1 => ?_)
    refine jx_istore_n (lv' := [(1, .int v1), (0, .ref (Ga G 0))]) h dX10_undo_17 rfl (Nat.le_of_ble_eq_true rfl) rfl ?_
    refine jx_aload_n h dX10_undo_18 rfl 1 rfl ?_
    refine jx_get (v := .ref (Ga G 3)) h fa_X10_16 lm_0 dX10_undo_19 rfl ?_
    refine jx_aload_n h dX10_undo_22 rfl 1 rfl ?_
    refine jx_get (v := .ref (Ga G 1)) h fa_X10_7 lm_0 dX10_undo_23 rfl ?_
    refine jx_callSv [] h (c_X10_copies hG N 3 rfl 1 rfl s) ml_X10_332 (Nat.le_of_ble_eq_true rfl) (Nat.le_of_ble_eq_true rfl) dX10_undo_26 (Nat.le_of_ble_eq_true rfl) rfl (fun s2 => ?_)
    refine jx_aload_n h dX10_undo_29 rfl 1 rfl ?_
    refine jx_get (v := .ref (Ga G 1)) h fa_X10_7 lm_0 dX10_undo_30 rfl ?_
    refine jx_sipush h dX10_undo_33 ks_145 ?_
    refine jx_iload_n h dX10_undo_36 rfl 0 rfl ?_
    refine jx_iastore h lm_1 dX10_undo_37 (fun s4 => ?_)
    refine jx_iconst h dX10_undo_38 ki_1 ?_
    exact jx_zret h rfl dX10_undo_39
  · refine jx_iconst h dX10_undo_7 ki_0 ?_
    exact jx_zret h rfl dX10_undo_8
noncomputable def st_X10_check_28 (N : Nat) (x1 : Int32)  (rec : Int32 → Mem → Option (Int32 × Mem)) (x2 : Int32) (s0 : Mem) : Option (Int32 × Mem) :=
  if x1 ≤ x2 then (some ((-1), s0)) else bd (f_X10_octet N x2 s0) (fun r5 s4 => bd (f_X10_isParish N x2 s4) (fun r7 s6 => lt (fun (t9 : Int32) (s8 : Mem) => if r5 = t9 then (lt (x2 + 1) (fun x2_10 => rec x2_10 s8)) else some (x2, s8)) (fun j58 => if r7 = 0 then (j58 0 s6) else chk ((0 : Int32) + x2) 151 (j58 (gi s6 1 (ix ((0 : Int32) + x2))) s6))))
noncomputable def f_X10_check (N : Nat) (x1 : Int32) (s : Mem) : Option (Int32 × Mem) :=
  bd (f_X10_in N x1 0 12 s) (fun r2 s1 => if r2 = 0 then (some ((-2), s1)) else if x1 ≤ (gi s1 0 5) then (lt (si s1 0 5 0) (fun s3 => itr (fun _ _ => none) (st_X10_check_28 N x1) N 0 s3)) else some ((-2), s1))
set_option maxRecDepth 20000 in
theorem w_X10_check_28 {G : Gx} (hG : Gok G ∧ IsG G layM fsoM) {P : Option (Int32 × Mem) → Nat → List (Nat × Value) → List Value → Mem → Prop} (h : Jk G layM fsoM RX10 cX10_check 3 (some .int) 2 tvI P) (N : Nat) (x1 : Int32) {rec : Int32 → Mem → Option (Int32 × Mem)} (ih : ∀ (x2 : Int32) (s : Mem), P (rec x2 s) 28 [(0, .ref (Ga G 0)), (1, .int x1), (2, .int x2)] [] s) : ∀ (x2 : Int32) (s : Mem), P (st_X10_check_28 N x1 rec x2 s) 28 [(0, .ref (Ga G 0)), (1, .int x1), (2, .int x2)] [] s := by
  intro x2 s0
  unfold st_X10_check_28
  refine jx_iload_n h dX10_check_28 rfl 2 rfl ?_
  refine jx_iload_n h dX10_check_29 rfl 1 rfl ?_
  refine jx_icmp_ge (tgt := 69) h dX10_check_30 rfl ?_ ?_
  · refine jx_iconst h dX10_check_69 ki_m1 ?_
    exact jx_iret h dX10_check_70
  · refine jx_aload_n h dX10_check_33 rfl 0 rfl ?_
    refine jx_iload_n h dX10_check_34 rfl 2 rfl ?_
    refine jx_callVi [] h lm_0 (c_X10_octet hG N x2 s0) ml_X10_388 (Nat.le_of_ble_eq_true rfl) (Nat.le_of_ble_eq_true rfl) dX10_check_35 (Nat.le_of_ble_eq_true rfl) rfl (fun r5 s4 => ?_)
    refine jx_aload_n h dX10_check_38 rfl 0 rfl ?_
    refine jx_iload_n h dX10_check_39 rfl 2 rfl ?_
    refine jx_callVi [.int r5] h lm_0 (c_X10_isParish hG N x2 s4) ml_X10_146 (Nat.le_of_ble_eq_true rfl) (Nat.le_of_ble_eq_true rfl) dX10_check_40 (Nat.le_of_ble_eq_true rfl) rfl (fun r7 s6 => ?_)
    refine jx_join (fun (j : Int32 → Mem → Option (Int32 × Mem)) => ∀ (t9 : Int32) (s8 : Mem), P (j t9 s8) 58 [(0, .ref (Ga G 0)), (1, .int x1), (2, .int x2)] [.int t9, .int r5] s8) (fun t9 s8 => ?_) (fun j58 hj58 => ?_)
    · refine jx_icmp_eq (tgt := 63) h dX10_check_58 rfl ?_ ?_
      · refine jx_iincl (L := fun w => [(2, .int w), (0, .ref (Ga G 0)), (1, .int x1)]) h dX10_check_63 2 rfl (kn_1 _) (Nat.le_of_ble_eq_true rfl) (fun _ => rfl) (fun x2_10 => ?_)
        refine jx_goto (tgt := 28) h dX10_check_66 rfl ?_
        exact jx_subk [1, 2, 0] h (ih x2_10 s8) rfl
      · refine jx_iload_n h dX10_check_61 rfl 2 rfl ?_
        exact jx_iret h dX10_check_62
    · refine jx_if_eq (tgt := 57) h dX10_check_43 rfl ?_ ?_
      · refine jx_iconst h dX10_check_57 ki_0 ?_
        exact hj58 0 s6
      · refine jx_aload_n h dX10_check_46 rfl 0 rfl ?_
        refine jx_get (v := .ref (Ga G 1)) h fa_X10_7 lm_0 dX10_check_47 rfl ?_
        refine jx_iconst h dX10_check_50 ki_0 ?_
        refine jx_iload_n h dX10_check_51 rfl 2 rfl ?_
        refine jx_iadd h dX10_check_52 ?_
        refine jx_iaload h lm_1 dX10_check_53 ?_
        refine jx_goto (tgt := 58) h dX10_check_54 rfl ?_
        exact hj58 (gi s6 1 (ix ((0 : Int32) + x2))) s6
set_option maxRecDepth 20000 in
theorem c_X10_check {G : Gx} (hG : Gok G ∧ IsG G layM fsoM) (N : Nat) (x1 : Int32) (s : Mem) : Ct G yX10_check cX10_check 3 (some .int) 2 [.ref (Ga G 0), .int x1] tvI s (f_X10_check N x1 s) := by
  refine Ct.of hG (by decide) (Nat.le_of_ble_eq_true rfl) (fun P h => ?_)
  show P _ 0 [(0, .ref (Ga G 0)), (1, .int x1)] [] s
  unfold f_X10_check
  refine jx_iload_n h dX10_check_0 rfl 1 rfl ?_
  refine jx_iconst h dX10_check_1 ki_0 ?_
  refine jx_bipush h dX10_check_2 kb_12 ?_
  refine jx_callSi [] h (c_X10_in hG N x1 0 12 s) ml_X10_134 (Nat.le_of_ble_eq_true rfl) (Nat.le_of_ble_eq_true rfl) dX10_check_4 (Nat.le_of_ble_eq_true rfl) rfl (fun r2 s1 => ?_)
  refine jx_if_eq (tgt := 18) h dX10_check_7 rfl ?_ ?_
  · refine jx_bipush h dX10_check_18 kb_m2 ?_
    exact jx_iret h dX10_check_20
  · refine jx_iload_n h dX10_check_10 rfl 1 rfl ?_
    refine jx_aload_n h dX10_check_11 rfl 0 rfl ?_
    refine jx_get (v := .int (gi s1 0 5)) h fa_X10_150 lm_0 dX10_check_12 rfl ?_
    refine jx_icmp_le (tgt := 21) h dX10_check_15 rfl ?_ ?_
    · refine jx_aload_n h dX10_check_21 rfl 0 rfl ?_
      refine jx_iconst h dX10_check_22 ki_0 ?_
      refine jx_put h fa_X10_150 fp_X10_5 lm_0 rfl rfl dX10_check_23 (fu_X10_5 _ _ _ _) (fun s3 => ?_)
      refine jx_iconst h dX10_check_26 ki_0 ?_
      refine jx_istore_n (lv' := [(2, .int 0), (0, .ref (Ga G 0)), (1, .int x1)]) h dX10_check_27 rfl (Nat.le_of_ble_eq_true rfl) rfl ?_
      refine jx_subk [1, 2, 0] h (itr_ind (Q := (fun (f : Int32 → Mem → Option (Int32 × Mem)) => ∀ (x2 : Int32) (s : Mem), P (f x2 s) 28 [(0, .ref (Ga G 0)), (1, .int x1), (2, .int x2)] [] s)) (fun _ _ => jx_none h) (fun r28 ih28 => ?_) N 0 s3) rfl
      refine w_X10_check_28 hG h N x1  ih28
    · refine jx_bipush h dX10_check_18 kb_m2 ?_
      exact jx_iret h dX10_check_20
noncomputable def st_X10_count_131 (N : Nat)  (rec : Int32 → Int32 → Mem → Option (Int32 × Mem)) (x2 : Int32) (x3 : Int32) (s0 : Mem) : Option (Int32 × Mem) :=
  if 6 ≤ x3 then (some (x2, s0)) else chk x3 7 (if (gi s0 34 (ix x3)) ≤ 0 then (lt (x2 ||| 0) (fun v3 => lt (x3 + 1) (fun x3_4 => rec v3 x3_4 s0))) else lt (x2 ||| ((1 : Int32) <<< (x3 &&& 31))) (fun v5 => lt (x3 + 1) (fun x3_6 => rec v5 x3_6 s0)))
noncomputable def f_X10_count (N : Nat) (x1 : Int32) (s : Mem) : Option (Int32 × Mem) :=
  if x1 = 0 then (chk 147 151 (some (gi s 1 (ix (147 : Int32)), s))) else if x1 = 1 then (chk 148 151 (some (gi s 1 (ix (148 : Int32)), s))) else if x1 = 2 then (chk 149 151 (some (gi s 1 (ix (149 : Int32)), s))) else if x1 = 3 then (chk 145 151 (some (gi s 1 (ix (145 : Int32)), s))) else if x1 = 4 then (chk 146 151 (some (gi s 1 (ix (146 : Int32)), s))) else if x1 = 5 then (chk 144 151 (some (gi s 1 (ix (144 : Int32)), s))) else if x1 = 6 then (some (gi s 0 14, s)) else if x1 = 7 then (some (gi s 0 5, s)) else if x1 = 8 then (chk 150 151 (some (gi s 1 (ix (150 : Int32)), s))) else if x1 = 9 then (itr (fun _ _ _ => none) (st_X10_count_131 N) N 0 0 s) else bd (f_X10_in N x1 10 15 s) (fun r2 s1 => if r2 = 0 then (some ((-1), s1)) else chk (x1 - 10) 7 (if (gi s1 34 (ix (x1 - 10))) ≤ 0 then (some ((-1), s1)) else chk (x1 - 10) 7 (some (gi s1 34 (ix (x1 - 10)), s1))))
set_option maxRecDepth 20000 in
theorem w_X10_count_131 {G : Gx} (hG : Gok G ∧ IsG G layM fsoM) {P : Option (Int32 × Mem) → Nat → List (Nat × Value) → List Value → Mem → Prop} (h : Jk G layM fsoM RX10 cX10_count 4 (some .int) 1 tvI P) (N : Nat) {rec : Int32 → Int32 → Mem → Option (Int32 × Mem)} (ih : ∀ (x2 : Int32) (x3 : Int32) (s : Mem), P (rec x2 x3 s) 131 [(0, .ref (Ga G 0)), (2, .int x2), (3, .int x3)] [] s) : ∀ (x2 : Int32) (x3 : Int32) (s : Mem), P (st_X10_count_131 N rec x2 x3 s) 131 [(0, .ref (Ga G 0)), (2, .int x2), (3, .int x3)] [] s := by
  intro x2 x3 s0
  unfold st_X10_count_131
  refine jx_iload_n h dX10_count_131 rfl 2 rfl ?_
  refine jx_bipush h dX10_count_132 kb_6 ?_
  refine jx_icmp_ge (tgt := 162) h dX10_count_134 rfl ?_ ?_
  · refine jx_iload_n h dX10_count_162 rfl 1 rfl ?_
    exact jx_iret h dX10_count_163
  · refine jx_iload_n h dX10_count_137 rfl 1 rfl ?_
    refine jx_aload_n h dX10_count_138 rfl 0 rfl ?_
    refine jx_get (v := .ref (Ga G 34)) h fa_X10_110 lm_0 dX10_count_139 rfl ?_
    refine jx_iload_n h dX10_count_142 rfl 2 rfl ?_
    refine jx_iaload h lm_34 dX10_count_143 ?_
    refine jx_if_le (tgt := 153) h dX10_count_144 rfl ?_ ?_
    · refine jx_iconst h dX10_count_153 ki_0 ?_
      refine jx_ior h dX10_count_154 ?_
      refine jx_lti (fun v3 => ?_)
      refine jx_istore_n (lv' := [(2, .int v3), (0, .ref (Ga G 0)), (3, .int x3)]) h dX10_count_155 rfl (Nat.le_of_ble_eq_true rfl) rfl ?_
      refine jx_iincl (L := fun w => [(3, .int w), (2, .int v3), (0, .ref (Ga G 0))]) h dX10_count_156 2 rfl (kn_1 _) (Nat.le_of_ble_eq_true rfl) (fun _ => rfl) (fun x3_4 => ?_)
      refine jx_goto (tgt := 131) h dX10_count_159 rfl ?_
      exact jx_subk [2, 1, 0] h (ih v3 x3_4 s0) rfl
    · refine jx_iconst h dX10_count_147 ki_1 ?_
      refine jx_iload_n h dX10_count_148 rfl 2 rfl ?_
      refine jx_ishl h dX10_count_149 ?_
      refine jx_goto (tgt := 154) h dX10_count_150 rfl ?_
      refine jx_ior h dX10_count_154 ?_
      refine jx_lti (fun v5 => ?_)
      refine jx_istore_n (lv' := [(2, .int v5), (0, .ref (Ga G 0)), (3, .int x3)]) h dX10_count_155 rfl (Nat.le_of_ble_eq_true rfl) rfl ?_
      refine jx_iincl (L := fun w => [(3, .int w), (2, .int v5), (0, .ref (Ga G 0))]) h dX10_count_156 2 rfl (kn_1 _) (Nat.le_of_ble_eq_true rfl) (fun _ => rfl) (fun x3_6 => ?_)
      refine jx_goto (tgt := 131) h dX10_count_159 rfl ?_
      exact jx_subk [2, 1, 0] h (ih v5 x3_6 s0) rfl
set_option maxRecDepth 20000 in
theorem c_X10_count {G : Gx} (hG : Gok G ∧ IsG G layM fsoM) (N : Nat) (x1 : Int32) (s : Mem) : Ct G yX10_count cX10_count 4 (some .int) 1 [.ref (Ga G 0), .int x1] tvI s (f_X10_count N x1 s) := by
  refine Ct.of hG (by decide) (Nat.le_of_ble_eq_true rfl) (fun P h => ?_)
  show P _ 0 [(0, .ref (Ga G 0)), (1, .int x1)] [] s
  unfold f_X10_count
  refine jx_iconst h dX10_count_0 ki_0 ?_
  refine jx_istore_n (lv' := [(2, .int 0), (0, .ref (Ga G 0)), (1, .int x1)]) h dX10_count_1 rfl (Nat.le_of_ble_eq_true rfl) rfl ?_
  refine jx_iload_n h dX10_count_2 rfl 2 rfl ?_
  refine jx_tcase (off := 53) (tgt := 56) h dX10_count_3 (by decide) (by decide) (by decide) rfl ?_ (fun n3_0 => ?_)
  · refine jx_aload_n h dX10_count_56 rfl 1 rfl ?_
    refine jx_get (v := .ref (Ga G 1)) h fa_X10_7 lm_0 dX10_count_57 rfl ?_
    refine jx_sipush h dX10_count_60 ks_147 ?_
    refine jx_iaload h lm_1 dX10_count_63 ?_
    exact jx_iret h dX10_count_64
  · refine jx_tcase (off := 62) (tgt := 65) h dX10_count_3 (by decide) (by decide) (by decide) rfl ?_ (fun n3_1 => ?_)
    · refine jx_aload_n h dX10_count_65 rfl 1 rfl ?_
      refine jx_get (v := .ref (Ga G 1)) h fa_X10_7 lm_0 dX10_count_66 rfl ?_
      refine jx_sipush h dX10_count_69 ks_148 ?_
      refine jx_iaload h lm_1 dX10_count_72 ?_
      exact jx_iret h dX10_count_73
    · refine jx_tcase (off := 71) (tgt := 74) h dX10_count_3 (by decide) (by decide) (by decide) rfl ?_ (fun n3_2 => ?_)
      · refine jx_aload_n h dX10_count_74 rfl 1 rfl ?_
        refine jx_get (v := .ref (Ga G 1)) h fa_X10_7 lm_0 dX10_count_75 rfl ?_
        refine jx_sipush h dX10_count_78 ks_149 ?_
        refine jx_iaload h lm_1 dX10_count_81 ?_
        exact jx_iret h dX10_count_82
      · refine jx_tcase (off := 80) (tgt := 83) h dX10_count_3 (by decide) (by decide) (by decide) rfl ?_ (fun n3_3 => ?_)
        · refine jx_aload_n h dX10_count_83 rfl 1 rfl ?_
          refine jx_get (v := .ref (Ga G 1)) h fa_X10_7 lm_0 dX10_count_84 rfl ?_
          refine jx_sipush h dX10_count_87 ks_145 ?_
          refine jx_iaload h lm_1 dX10_count_90 ?_
          exact jx_iret h dX10_count_91
        · refine jx_tcase (off := 89) (tgt := 92) h dX10_count_3 (by decide) (by decide) (by decide) rfl ?_ (fun n3_4 => ?_)
          · refine jx_aload_n h dX10_count_92 rfl 1 rfl ?_
            refine jx_get (v := .ref (Ga G 1)) h fa_X10_7 lm_0 dX10_count_93 rfl ?_
            refine jx_sipush h dX10_count_96 ks_146 ?_
            refine jx_iaload h lm_1 dX10_count_99 ?_
            exact jx_iret h dX10_count_100
          · refine jx_tcase (off := 98) (tgt := 101) h dX10_count_3 (by decide) (by decide) (by decide) rfl ?_ (fun n3_5 => ?_)
            · refine jx_aload_n h dX10_count_101 rfl 1 rfl ?_
              refine jx_get (v := .ref (Ga G 1)) h fa_X10_7 lm_0 dX10_count_102 rfl ?_
              refine jx_sipush h dX10_count_105 ks_144 ?_
              refine jx_iaload h lm_1 dX10_count_108 ?_
              exact jx_iret h dX10_count_109
            · refine jx_tcase (off := 107) (tgt := 110) h dX10_count_3 (by decide) (by decide) (by decide) rfl ?_ (fun n3_6 => ?_)
              · refine jx_aload_n h dX10_count_110 rfl 1 rfl ?_
                refine jx_get (v := .int (gi s 0 14)) h fa_X10_251 lm_0 dX10_count_111 rfl ?_
                exact jx_iret h dX10_count_114
              · refine jx_tcase (off := 112) (tgt := 115) h dX10_count_3 (by decide) (by decide) (by decide) rfl ?_ (fun n3_7 => ?_)
                · refine jx_aload_n h dX10_count_115 rfl 1 rfl ?_
                  refine jx_get (v := .int (gi s 0 5)) h fa_X10_150 lm_0 dX10_count_116 rfl ?_
                  exact jx_iret h dX10_count_119
                · refine jx_tcase (off := 117) (tgt := 120) h dX10_count_3 (by decide) (by decide) (by decide) rfl ?_ (fun n3_8 => ?_)
                  · refine jx_aload_n h dX10_count_120 rfl 1 rfl ?_
                    refine jx_get (v := .ref (Ga G 1)) h fa_X10_7 lm_0 dX10_count_121 rfl ?_
                    refine jx_sipush h dX10_count_124 ks_150 ?_
                    refine jx_iaload h lm_1 dX10_count_127 ?_
                    exact jx_iret h dX10_count_128
                  · refine jx_tcase (off := 126) (tgt := 129) h dX10_count_3 (by decide) (by decide) (by decide) rfl ?_ (fun n3_9 => ?_)
                    · refine jx_iconst h dX10_count_129 ki_0 ?_
                      refine jx_istore_n (lv' := [(3, .int 0), (2, .int 0), (0, .ref (Ga G 0)), (1, .int x1)]) h dX10_count_130 rfl (Nat.le_of_ble_eq_true rfl) rfl ?_
                      refine jx_subk [2, 1, 0] h (itr_ind (Q := (fun (f : Int32 → Int32 → Mem → Option (Int32 × Mem)) => ∀ (x2 : Int32) (x3 : Int32) (s : Mem), P (f x2 x3 s) 131 [(0, .ref (Ga G 0)), (2, .int x2), (3, .int x3)] [] s)) (fun _ _ _ => jx_none h) (fun r131 ih131 => ?_) N 0 0 s) rfl
                      refine w_X10_count_131 hG h N   ih131
                    · have hsw : (x1.toInt < 0 ∨ 9 < x1.toInt) ∨ (¬ x1.toInt < 0 ∧ ¬ 9 < x1.toInt ∧ (#[53, 62, 71, 80, 89, 98, 107, 112, 117, 126] : Array Int)[(x1.toInt - 0).toNat]? = some 161) := by
                        have a0 := i32ne n3_0 (k := 0) rfl; have a1 := i32ne n3_1 (k := 1) rfl; have a2 := i32ne n3_2 (k := 2) rfl; have a3 := i32ne n3_3 (k := 3) rfl; have a4 := i32ne n3_4 (k := 4) rfl; have a5 := i32ne n3_5 (k := 5) rfl; have a6 := i32ne n3_6 (k := 6) rfl; have a7 := i32ne n3_7 (k := 7) rfl; have a8 := i32ne n3_8 (k := 8) rfl; have a9 := i32ne n3_9 (k := 9) rfl; rcases (show x1.toInt < 0 ∨ 9 < x1.toInt by omega) with h9 | h9
                        · exact Or.inl (Or.inl h9)
                        · exact Or.inl (Or.inr h9)
                      refine jx_tdef2 (tgt := 164) h dX10_count_3 hsw rfl ?_
                      refine jx_iload_n h dX10_count_164 rfl 2 rfl ?_
                      refine jx_bipush h dX10_count_165 kb_10 ?_
                      refine jx_bipush h dX10_count_167 kb_15 ?_
                      refine jx_callSi [] h (c_X10_in hG N x1 10 15 s) ml_X10_134 (Nat.le_of_ble_eq_true rfl) (Nat.le_of_ble_eq_true rfl) dX10_count_169 (Nat.le_of_ble_eq_true rfl) rfl (fun r2 s1 => ?_)
                      refine jx_if_eq (tgt := 199) h dX10_count_172 rfl ?_ ?_
                      · refine jx_iconst h dX10_count_199 ki_m1 ?_
                        exact jx_iret h dX10_count_200
                      · refine jx_aload_n h dX10_count_175 rfl 1 rfl ?_
                        refine jx_get (v := .ref (Ga G 34)) h fa_X10_110 lm_0 dX10_count_176 rfl ?_
                        refine jx_iload_n h dX10_count_179 rfl 2 rfl ?_
                        refine jx_bipush h dX10_count_180 kb_10 ?_
                        refine jx_isub h dX10_count_182 ?_
                        refine jx_iaload h lm_34 dX10_count_183 ?_
                        refine jx_if_le (tgt := 199) h dX10_count_184 rfl ?_ ?_
                        · refine jx_iconst h dX10_count_199 ki_m1 ?_
                          exact jx_iret h dX10_count_200
                        · refine jx_aload_n h dX10_count_187 rfl 1 rfl ?_
                          refine jx_get (v := .ref (Ga G 34)) h fa_X10_110 lm_0 dX10_count_188 rfl ?_
                          refine jx_iload_n h dX10_count_191 rfl 2 rfl ?_
                          refine jx_bipush h dX10_count_192 kb_10 ?_
                          refine jx_isub h dX10_count_194 ?_
                          refine jx_iaload h lm_34 dX10_count_195 ?_
                          refine jx_goto (tgt := 200) h dX10_count_196 rfl ?_
                          exact jx_iret h dX10_count_200
