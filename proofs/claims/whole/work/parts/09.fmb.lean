noncomputable def st_X10_report_35 (N : Nat) (k75 : Int32 → Mem → Option (Int32 × Mem)) (rec : Int32 → Mem → Option (Int32 × Mem)) (x2 : Int32) (s0 : Mem) : Option (Int32 × Mem) :=
  if x2 = 0 then (k75 x2 s0) else if (gi s0 0 7) ≤ (gi s0 0 6) then (k75 x2 s0) else bd (f_X10_takes N 59 s0) (fun r9 s8 => if r9 = 0 then (rec 0 s8) else bd (f_X10_readsLine N s8) (fun r11 s10 => if r11 = 0 then (rec 0 s10) else rec 1 s10))
noncomputable def st_X10_report_91 (N : Nat)  (rec : Int32 → Mem → Option (Int32 × Mem)) (x3 : Int32) (s0 : Mem) : Option (Int32 × Mem) :=
  if (gi s0 0 32) ≤ x3 then (some (gi s0 0 32, s0)) else bd (f_X10_doesLine N x3 s0) (fun _ s15 => lt (x3 + 1) (fun x3_17 => rec x3_17 s15))
noncomputable def f_X10_report (N : Nat) (x1 : Int32) (s : Mem) : Option (Int32 × Mem) :=
  bd (f_X10_in N x1 1 120 s) (fun r2 s1 => if r2 = 0 then (some ((-1), s1)) else if x1 ≤ (gi s1 0 5) then (bd (f_X10_beginsText N x1 s1) (fun _ s3 => lt (si s3 0 32 0) (fun s5 => bd (f_X10_readsLine N s5) (fun r7 s6 => itr (fun _ _ => none) (st_X10_report_35 N (fun (x2_13 : Int32) (s12 : Mem) => lt (si s12 0 5 0) (fun s14 => if x2_13 = 0 then (some (gi s14 0 8, s14)) else itr (fun _ _ => none) (st_X10_report_91 N) N 0 s14))) N r7 s6)))) else some ((-1), s1))
set_option maxRecDepth 20000 in
theorem w_X10_report_35 {G : Gx} (hG : Gok G ∧ IsG G layM fsoM) {P : Option (Int32 × Mem) → Nat → List (Nat × Value) → List Value → Mem → Prop} (h : Jk G layM fsoM RX10 cX10_report 4 (some .int) 4 tvI P) (N : Nat) {k75 : Int32 → Mem → Option (Int32 × Mem)} (hk75 : ∀ (x2 : Int32) (s : Mem), P (k75 x2 s) 75 [(0, .ref (Ga G 0)), (2, .int x2)] [] s) {rec : Int32 → Mem → Option (Int32 × Mem)} (ih : ∀ (x2 : Int32) (s : Mem), P (rec x2 s) 35 [(0, .ref (Ga G 0)), (2, .int x2)] [] s) : ∀ (x2 : Int32) (s : Mem), P (st_X10_report_35 N k75 rec x2 s) 35 [(0, .ref (Ga G 0)), (2, .int x2)] [] s := by
  intro x2 s0
  unfold st_X10_report_35
  refine jx_iload_n h dX10_report_35 rfl 1 rfl ?_
  refine jx_if_eq (tgt := 75) h dX10_report_36 rfl ?_ ?_
  · exact hk75 x2 s0
  · refine jx_aload_n h dX10_report_39 rfl 0 rfl ?_
    refine jx_get (v := .int (gi s0 0 6)) h fa_X10_158 lm_0 dX10_report_40 rfl ?_
    refine jx_aload_n h dX10_report_43 rfl 0 rfl ?_
    refine jx_get (v := .int (gi s0 0 7)) h fa_X10_161 lm_0 dX10_report_44 rfl ?_
    refine jx_icmp_ge (tgt := 75) h dX10_report_47 rfl ?_ ?_
    · exact hk75 x2 s0
    · refine jx_aload_n h dX10_report_50 rfl 0 rfl ?_
      refine jx_bipush h dX10_report_51 kb_59 ?_
      refine jx_callVi [] h lm_0 (c_X10_takes hG N 59 s0) ml_X10_248 (Nat.le_of_ble_eq_true rfl) (Nat.le_of_ble_eq_true rfl) dX10_report_53 (Nat.le_of_ble_eq_true rfl) rfl (fun r9 s8 => ?_)
      refine jx_if_eq (tgt := 70) h dX10_report_56 rfl ?_ ?_
      · refine jx_iconst h dX10_report_70 ki_0 ?_
        refine jx_istore_n (lv' := [(2, .int 0), (0, .ref (Ga G 0))]) h dX10_report_71 rfl (Nat.le_of_ble_eq_true rfl) rfl ?_
        refine jx_goto (tgt := 35) h dX10_report_72 rfl ?_
        exact jx_subk [1, 0] h (ih 0 s8) rfl
      · refine jx_aload_n h dX10_report_59 rfl 0 rfl ?_
        refine jx_callVi [] h lm_0 (c_X10_readsLine hG N  s8) ml_X10_278 (Nat.le_of_ble_eq_true rfl) (Nat.le_of_ble_eq_true rfl) dX10_report_60 (Nat.le_of_ble_eq_true rfl) rfl (fun r11 s10 => ?_)
        refine jx_if_eq (tgt := 70) h dX10_report_63 rfl ?_ ?_
        · refine jx_iconst h dX10_report_70 ki_0 ?_
          refine jx_istore_n (lv' := [(2, .int 0), (0, .ref (Ga G 0))]) h dX10_report_71 rfl (Nat.le_of_ble_eq_true rfl) rfl ?_
          refine jx_goto (tgt := 35) h dX10_report_72 rfl ?_
          exact jx_subk [1, 0] h (ih 0 s10) rfl
        · refine jx_iconst h dX10_report_66 ki_1 ?_
          refine jx_goto (tgt := 71) h dX10_report_67 rfl ?_
          refine jx_istore_n (lv' := [(2, .int 1), (0, .ref (Ga G 0))]) h dX10_report_71 rfl (Nat.le_of_ble_eq_true rfl) rfl ?_
          refine jx_goto (tgt := 35) h dX10_report_72 rfl ?_
          exact jx_subk [1, 0] h (ih 1 s10) rfl
set_option maxRecDepth 20000 in
theorem w_X10_report_91 {G : Gx} (hG : Gok G ∧ IsG G layM fsoM) {P : Option (Int32 × Mem) → Nat → List (Nat × Value) → List Value → Mem → Prop} (h : Jk G layM fsoM RX10 cX10_report 4 (some .int) 4 tvI P) (N : Nat) {rec : Int32 → Mem → Option (Int32 × Mem)} (ih : ∀ (x3 : Int32) (s : Mem), P (rec x3 s) 91 [(0, .ref (Ga G 0)), (3, .int x3)] [] s) : ∀ (x3 : Int32) (s : Mem), P (st_X10_report_91 N rec x3 s) 91 [(0, .ref (Ga G 0)), (3, .int x3)] [] s := by
  intro x3 s0
  unfold st_X10_report_91
  refine jx_iload_n h dX10_report_91 rfl 1 rfl ?_
  refine jx_aload_n h dX10_report_92 rfl 0 rfl ?_
  refine jx_get (v := .int (gi s0 0 32)) h fa_X10_261 lm_0 dX10_report_93 rfl ?_
  refine jx_icmp_ge (tgt := 110) h dX10_report_96 rfl ?_ ?_
  · refine jx_aload_n h dX10_report_110 rfl 0 rfl ?_
    refine jx_get (v := .int (gi s0 0 32)) h fa_X10_261 lm_0 dX10_report_111 rfl ?_
    exact jx_iret h dX10_report_114
  · refine jx_aload_n h dX10_report_99 rfl 0 rfl ?_
    refine jx_iload_n h dX10_report_100 rfl 1 rfl ?_
    refine jx_callVv [] h lm_0 (c_X10_doesLine hG N x3 s0) ml_X10_281 (Nat.le_of_ble_eq_true rfl) (Nat.le_of_ble_eq_true rfl) dX10_report_101 (Nat.le_of_ble_eq_true rfl) rfl (fun s15 => ?_)
    refine jx_iincl (L := fun w => [(3, .int w), (0, .ref (Ga G 0))]) h dX10_report_104 1 rfl (kn_1 _) (Nat.le_of_ble_eq_true rfl) (fun _ => rfl) (fun x3_17 => ?_)
    refine jx_goto (tgt := 91) h dX10_report_107 rfl ?_
    exact jx_subk [1, 0] h (ih x3_17 s15) rfl
set_option maxRecDepth 20000 in
theorem c_X10_report {G : Gx} (hG : Gok G ∧ IsG G layM fsoM) (N : Nat) (x1 : Int32) (s : Mem) : Ct G yX10_report cX10_report 4 (some .int) 4 [.ref (Ga G 0), .int x1] tvI s (f_X10_report N x1 s) := by
  refine Ct.of hG (by decide) (Nat.le_of_ble_eq_true rfl) (fun P h => ?_)
  show P _ 0 [(0, .ref (Ga G 0)), (1, .int x1)] [] s
  unfold f_X10_report
  refine jx_iload_n h dX10_report_0 rfl 1 rfl ?_
  refine jx_iconst h dX10_report_1 ki_1 ?_
  refine jx_bipush h dX10_report_2 kb_120 ?_
  refine jx_callSi [] h (c_X10_in hG N x1 1 120 s) ml_X10_134 (Nat.le_of_ble_eq_true rfl) (Nat.le_of_ble_eq_true rfl) dX10_report_4 (Nat.le_of_ble_eq_true rfl) rfl (fun r2 s1 => ?_)
  refine jx_if_eq (tgt := 18) h dX10_report_7 rfl ?_ ?_
  · refine jx_iconst h dX10_report_18 ki_m1 ?_
    exact jx_iret h dX10_report_19
  · refine jx_iload_n h dX10_report_10 rfl 1 rfl ?_
    refine jx_aload_n h dX10_report_11 rfl 0 rfl ?_
    refine jx_get (v := .int (gi s1 0 5)) h fa_X10_150 lm_0 dX10_report_12 rfl ?_
    refine jx_icmp_le (tgt := 20) h dX10_report_15 rfl ?_ ?_
    · refine jx_aload_n h dX10_report_20 rfl 0 rfl ?_
      refine jx_iload_n h dX10_report_21 rfl 1 rfl ?_
      refine jx_callVv [] h lm_0 (c_X10_beginsText hG N x1 s1) ml_X10_242 (Nat.le_of_ble_eq_true rfl) (Nat.le_of_ble_eq_true rfl) dX10_report_22 (Nat.le_of_ble_eq_true rfl) rfl (fun s3 => ?_)
      refine jx_aload_n h dX10_report_25 rfl 0 rfl ?_
      refine jx_iconst h dX10_report_26 ki_0 ?_
      refine jx_put h fa_X10_261 fp_X10_32 lm_0 rfl rfl dX10_report_27 (fu_X10_32 _ _ _ _) (fun s5 => ?_)
      refine jx_aload_n h dX10_report_30 rfl 0 rfl ?_
      refine jx_callVi [] h lm_0 (c_X10_readsLine hG N  s5) ml_X10_278 (Nat.le_of_ble_eq_true rfl) (Nat.le_of_ble_eq_true rfl) dX10_report_31 (Nat.le_of_ble_eq_true rfl) rfl (fun r7 s6 => ?_)
      refine jx_istore_n (lv' := [(2, .int r7), (0, .ref (Ga G 0)), (1, .int x1)]) h dX10_report_34 rfl (Nat.le_of_ble_eq_true rfl) rfl ?_
      refine jx_subk [1, 0] h (itr_ind (Q := (fun (f : Int32 → Mem → Option (Int32 × Mem)) => ∀ (x2 : Int32) (s : Mem), P (f x2 s) 35 [(0, .ref (Ga G 0)), (2, .int x2)] [] s)) (fun _ _ => jx_none h) (fun r35 ih35 => ?_) N r7 s6) rfl
      refine w_X10_report_35 hG h N  ?_ ih35
      intro x2_13 s12
      refine jx_aload_n h dX10_report_75 rfl 0 rfl ?_
      refine jx_iconst h dX10_report_76 ki_0 ?_
      refine jx_put h fa_X10_150 fp_X10_5 lm_0 rfl rfl dX10_report_77 (fu_X10_5 _ _ _ _) (fun s14 => ?_)
      refine jx_iload_n h dX10_report_80 rfl 1 rfl ?_
      refine jx_if_ne (tgt := 89) h dX10_report_81 rfl ?_ ?_
      · refine jx_iconst h dX10_report_89 ki_0 ?_
        refine jx_istore_n (lv' := [(3, .int 0), (0, .ref (Ga G 0)), (2, .int x2_13)]) h dX10_report_90 rfl (Nat.le_of_ble_eq_true rfl) rfl ?_
        refine jx_subk [1, 0] h (itr_ind (Q := (fun (f : Int32 → Mem → Option (Int32 × Mem)) => ∀ (x3 : Int32) (s : Mem), P (f x3 s) 91 [(0, .ref (Ga G 0)), (3, .int x3)] [] s)) (fun _ _ => jx_none h) (fun r91 ih91 => ?_) N 0 s14) rfl
        refine w_X10_report_91 hG h N   ih91
      · refine jx_aload_n h dX10_report_84 rfl 0 rfl ?_
        refine jx_get (v := .int (gi s14 0 8)) h fa_X10_168 lm_0 dX10_report_85 rfl ?_
        exact jx_iret h dX10_report_88
    · refine jx_iconst h dX10_report_18 ki_m1 ?_
      exact jx_iret h dX10_report_19
noncomputable def st_X10_hearsFrom_6 (N : Nat) (x1 : Int32) (x2 : Int32) (x3 : Int32)  (rec : Int32 → Int32 → Mem → Option (Int32 × Mem)) (x4 : Int32) (x5 : Int32) (s0 : Mem) : Option (Int32 × Mem) :=
  if 12 ≤ x5 then (some (x4, s0)) else chk (((12 : Int32) * x5) + x2) 144 (lt (gi s0 4 (ix (((12 : Int32) * x5) + x2))) (fun v1 => if v1 = 0 then (lt (x5 + 1) (fun x5_2 => rec x4 x5_2 s0)) else bd (f_X10_isKnown N x1 x5 s0) (fun r4 s3 => if r4 = 0 then (lt (x5 + 1) (fun x5_5 => rec x4 x5_5 s3)) else lt (fun  (s6 : Mem) => bd (f_X10_known N x1 x5 s6) (fun r8 s7 => chk r8 151 (bd (f_X10_tired N x2 s7) (fun r10 s9 => bd (f_X10_feels N x2 x1 (gi s7 1 (ix r8)) v1 r10 x3 s9) (fun _ s11 => bd (f_X10_holdsAny N 120 s11) (fun r14 s13 => if r14 = 0 then (lt (x5 + 1) (fun x5_16 => rec x5 x5_16 s13)) else lt (x5 + 1) (fun x5_15 => rec x4 x5_15 s13))))))) (fun j68 => if x4 = (-1) then (j68 s3) else chk (((12 : Int32) * x4) + x2) 144 (if v1 < (gi s3 4 (ix (((12 : Int32) * x4) + x2))) then (j68 s3) else lt (x5 + 1) (fun x5_17 => rec x4 x5_17 s3))))))
noncomputable def f_X10_hearsFrom (N : Nat) (x1 : Int32) (x2 : Int32) (x3 : Int32) (s : Mem) : Option (Int32 × Mem) :=
  itr (fun _ _ _ => none) (st_X10_hearsFrom_6 N x1 x2 x3) N (-1) 0 s
set_option maxRecDepth 20000 in
theorem w_X10_hearsFrom_6 {G : Gx} (hG : Gok G ∧ IsG G layM fsoM) {P : Option (Int32 × Mem) → Nat → List (Nat × Value) → List Value → Mem → Prop} (h : Jk G layM fsoM RX10 cX10_hearsFrom 7 (some .int) 3 tvI P) (N : Nat) (x1 : Int32) (x2 : Int32) (x3 : Int32) {rec : Int32 → Int32 → Mem → Option (Int32 × Mem)} (ih : ∀ (x4 : Int32) (x5 : Int32) (s : Mem), P (rec x4 x5 s) 6 [(0, .ref (Ga G 0)), (1, .int x1), (2, .int x2), (3, .int x3), (4, .int x4), (5, .int x5)] [] s) : ∀ (x4 : Int32) (x5 : Int32) (s : Mem), P (st_X10_hearsFrom_6 N x1 x2 x3 rec x4 x5 s) 6 [(0, .ref (Ga G 0)), (1, .int x1), (2, .int x2), (3, .int x3), (4, .int x4), (5, .int x5)] [] s := by
  intro x4 x5 s0
  unfold st_X10_hearsFrom_6
  refine jx_iload h dX10_hearsFrom_6 5 rfl ?_
  refine jx_bipush h dX10_hearsFrom_8 kb_12 ?_
  refine jx_icmp_ge (tgt := 112) h dX10_hearsFrom_10 rfl ?_ ?_
  · refine jx_iload h dX10_hearsFrom_112 4 rfl ?_
    exact jx_iret h dX10_hearsFrom_114
  · refine jx_aload_n h dX10_hearsFrom_13 rfl 0 rfl ?_
    refine jx_get (v := .ref (Ga G 4)) h fa_X10_19 lm_0 dX10_hearsFrom_14 rfl ?_
    refine jx_bipush h dX10_hearsFrom_17 kb_12 ?_
    refine jx_iload h dX10_hearsFrom_19 5 rfl ?_
    refine jx_imul h dX10_hearsFrom_21 ?_
    refine jx_iload_n h dX10_hearsFrom_22 rfl 2 rfl ?_
    refine jx_iadd h dX10_hearsFrom_23 ?_
    refine jx_iaload h lm_4 dX10_hearsFrom_24 ?_
    refine jx_lti (fun v1 => ?_)
    refine jx_istore (lv' := [(6, .int v1), (0, .ref (Ga G 0)), (1, .int x1), (2, .int x2), (3, .int x3), (4, .int x4), (5, .int x5)]) h dX10_hearsFrom_25 (Nat.le_of_ble_eq_true rfl) rfl ?_
    refine jx_iload h dX10_hearsFrom_27 0 rfl ?_
    refine jx_if_eq (tgt := 106) h dX10_hearsFrom_29 rfl ?_ ?_
    · refine jx_iincl (L := fun w => [(5, .int w), (6, .int v1), (0, .ref (Ga G 0)), (1, .int x1), (2, .int x2), (3, .int x3), (4, .int x4)]) h dX10_hearsFrom_106 6 rfl (kn_1 _) (Nat.le_of_ble_eq_true rfl) (fun _ => rfl) (fun x5_2 => ?_)
      refine jx_goto (tgt := 6) h dX10_hearsFrom_109 rfl ?_
      exact jx_subk [2, 3, 4, 5, 6, 0] h (ih x4 x5_2 s0) rfl
    · refine jx_aload_n h dX10_hearsFrom_32 rfl 1 rfl ?_
      refine jx_iload_n h dX10_hearsFrom_33 rfl 2 rfl ?_
      refine jx_iload h dX10_hearsFrom_34 6 rfl ?_
      refine jx_callVi [] h lm_0 (c_X10_isKnown hG N x1 x5 s0) ml_X10_284 (Nat.le_of_ble_eq_true rfl) (Nat.le_of_ble_eq_true rfl) dX10_hearsFrom_36 (Nat.le_of_ble_eq_true rfl) rfl (fun r4 s3 => ?_)
      refine jx_if_eq (tgt := 106) h dX10_hearsFrom_39 rfl ?_ ?_
      · refine jx_iincl (L := fun w => [(5, .int w), (6, .int v1), (0, .ref (Ga G 0)), (1, .int x1), (2, .int x2), (3, .int x3), (4, .int x4)]) h dX10_hearsFrom_106 6 rfl (kn_1 _) (Nat.le_of_ble_eq_true rfl) (fun _ => rfl) (fun x5_5 => ?_)
        refine jx_goto (tgt := 6) h dX10_hearsFrom_109 rfl ?_
        exact jx_subk [2, 3, 4, 5, 6, 0] h (ih x4 x5_5 s3) rfl
      · refine jx_iload h dX10_hearsFrom_42 5 rfl ?_
        refine jx_iconst h dX10_hearsFrom_44 ki_m1 ?_
        refine jx_join (fun (j : Mem → Option (Int32 × Mem)) => ∀  (s6 : Mem), P (j  s6) 68 [(0, .ref (Ga G 0)), (1, .int x1), (2, .int x2), (3, .int x3), (4, .int x4), (5, .int x5), (6, .int v1)] [] s6) (fun  s6 => ?_) (fun j68 hj68 => ?_)
        · refine jx_aload_n h dX10_hearsFrom_68 rfl 0 rfl ?_
          refine jx_iload_n h dX10_hearsFrom_69 rfl 2 rfl ?_
          refine jx_iload_n h dX10_hearsFrom_70 rfl 1 rfl ?_
          refine jx_aload_n h dX10_hearsFrom_71 rfl 0 rfl ?_
          refine jx_get (v := .ref (Ga G 1)) h fa_X10_7 lm_0 dX10_hearsFrom_72 rfl ?_
          refine jx_iload_n h dX10_hearsFrom_75 rfl 1 rfl ?_
          refine jx_iload h dX10_hearsFrom_76 5 rfl ?_
          refine jx_callSi [.ref (Ga G 1), .int x1, .int x2, .ref (Ga G 0)] h (c_X10_known hG N x1 x5 s6) ml_X10_142 (Nat.le_of_ble_eq_true rfl) (Nat.le_of_ble_eq_true rfl) dX10_hearsFrom_78 (Nat.le_of_ble_eq_true rfl) rfl (fun r8 s7 => ?_)
          refine jx_iaload h lm_1 dX10_hearsFrom_81 ?_
          refine jx_iload h dX10_hearsFrom_82 6 rfl ?_
          refine jx_aload_n h dX10_hearsFrom_84 rfl 0 rfl ?_
          refine jx_iload_n h dX10_hearsFrom_85 rfl 2 rfl ?_
          refine jx_callVi [.int v1, .int (gi s7 1 (ix r8)), .int x1, .int x2, .ref (Ga G 0)] h lm_0 (c_X10_tired hG N x2 s7) ml_X10_287 (Nat.le_of_ble_eq_true rfl) (Nat.le_of_ble_eq_true rfl) dX10_hearsFrom_86 (Nat.le_of_ble_eq_true rfl) rfl (fun r10 s9 => ?_)
          refine jx_iload_n h dX10_hearsFrom_89 rfl 3 rfl ?_
          refine jx_callVv [] h lm_0 (c_X10_feels hG N x2 x1 (gi s7 1 (ix r8)) v1 r10 x3 s9) ml_X10_290 (Nat.le_of_ble_eq_true rfl) (Nat.le_of_ble_eq_true rfl) dX10_hearsFrom_90 (Nat.le_of_ble_eq_true rfl) rfl (fun s11 => ?_)
          refine jx_aload_n h dX10_hearsFrom_93 rfl 0 rfl ?_
          refine jx_bipush h dX10_hearsFrom_94 kb_120 ?_
          refine jx_callVi [] h lm_0 (c_X10_holdsAny hG N 120 s11) ml_X10_294 (Nat.le_of_ble_eq_true rfl) (Nat.le_of_ble_eq_true rfl) dX10_hearsFrom_96 (Nat.le_of_ble_eq_true rfl) rfl (fun r14 s13 => ?_)
          refine jx_if_ne (tgt := 106) h dX10_hearsFrom_99 rfl ?_ ?_
          · refine jx_iincl (L := fun w => [(5, .int w), (0, .ref (Ga G 0)), (1, .int x1), (2, .int x2), (3, .int x3), (4, .int x4), (6, .int v1)]) h dX10_hearsFrom_106 5 rfl (kn_1 _) (Nat.le_of_ble_eq_true rfl) (fun _ => rfl) (fun x5_15 => ?_)
            refine jx_goto (tgt := 6) h dX10_hearsFrom_109 rfl ?_
            exact jx_subk [1, 2, 3, 4, 5, 0] h (ih x4 x5_15 s13) rfl
          · refine jx_iload h dX10_hearsFrom_102 5 rfl ?_
            refine jx_istore (lv' := [(4, .int x5), (0, .ref (Ga G 0)), (1, .int x1), (2, .int x2), (3, .int x3), (5, .int x5), (6, .int v1)]) h dX10_hearsFrom_104 (Nat.le_of_ble_eq_true rfl) rfl ?_
            refine jx_iincl (L := fun w => [(5, .int w), (4, .int x5), (0, .ref (Ga G 0)), (1, .int x1), (2, .int x2), (3, .int x3), (6, .int v1)]) h dX10_hearsFrom_106 5 rfl (kn_1 _) (Nat.le_of_ble_eq_true rfl) (fun _ => rfl) (fun x5_16 => ?_)
            refine jx_goto (tgt := 6) h dX10_hearsFrom_109 rfl ?_
            exact jx_subk [2, 3, 4, 5, 1, 0] h (ih x5 x5_16 s13) rfl
        · refine jx_icmp_eq (tgt := 68) h dX10_hearsFrom_45 rfl ?_ ?_
          · exact jx_subk [1, 2, 3, 4, 5, 6, 0] h (hj68 s3) rfl
          · refine jx_iload h dX10_hearsFrom_48 0 rfl ?_
            refine jx_aload_n h dX10_hearsFrom_50 rfl 1 rfl ?_
            refine jx_get (v := .ref (Ga G 4)) h fa_X10_19 lm_0 dX10_hearsFrom_51 rfl ?_
            refine jx_bipush h dX10_hearsFrom_54 kb_12 ?_
            refine jx_iload h dX10_hearsFrom_56 5 rfl ?_
            refine jx_imul h dX10_hearsFrom_58 ?_
            refine jx_iload_n h dX10_hearsFrom_59 rfl 3 rfl ?_
            refine jx_iadd h dX10_hearsFrom_60 ?_
            refine jx_iaload h lm_4 dX10_hearsFrom_61 ?_
            refine jx_icmp_lt (tgt := 68) h dX10_hearsFrom_62 rfl ?_ ?_
            · exact jx_subk [1, 2, 3, 4, 5, 6, 0] h (hj68 s3) rfl
            · refine jx_goto (tgt := 106) h dX10_hearsFrom_65 rfl ?_
              refine jx_iincl (L := fun w => [(5, .int w), (6, .int v1), (0, .ref (Ga G 0)), (1, .int x1), (2, .int x2), (3, .int x3), (4, .int x4)]) h dX10_hearsFrom_106 6 rfl (kn_1 _) (Nat.le_of_ble_eq_true rfl) (fun _ => rfl) (fun x5_17 => ?_)
              refine jx_goto (tgt := 6) h dX10_hearsFrom_109 rfl ?_
              exact jx_subk [2, 3, 4, 5, 6, 0] h (ih x4 x5_17 s3) rfl
set_option maxRecDepth 20000 in
theorem c_X10_hearsFrom {G : Gx} (hG : Gok G ∧ IsG G layM fsoM) (N : Nat) (x1 : Int32) (x2 : Int32) (x3 : Int32) (s : Mem) : Ct G yX10_hearsFrom cX10_hearsFrom 7 (some .int) 3 [.ref (Ga G 0), .int x1, .int x2, .int x3] tvI s (f_X10_hearsFrom N x1 x2 x3 s) := by
  refine Ct.of hG (by decide) (Nat.le_of_ble_eq_true rfl) (fun P h => ?_)
  show P _ 0 [(0, .ref (Ga G 0)), (1, .int x1), (2, .int x2), (3, .int x3)] [] s
  unfold f_X10_hearsFrom
  refine jx_iconst h dX10_hearsFrom_0 ki_m1 ?_
  refine jx_istore (lv' := [(4, .int (-1)), (0, .ref (Ga G 0)), (1, .int x1), (2, .int x2), (3, .int x3)]) h dX10_hearsFrom_1 (Nat.le_of_ble_eq_true rfl) rfl ?_
  refine jx_iconst h dX10_hearsFrom_3 ki_0 ?_
  refine jx_istore (lv' := [(5, .int 0), (4, .int (-1)), (0, .ref (Ga G 0)), (1, .int x1), (2, .int x2), (3, .int x3)]) h dX10_hearsFrom_4 (Nat.le_of_ble_eq_true rfl) rfl ?_
  refine jx_subk [2, 3, 4, 5, 1, 0] h (itr_ind (Q := (fun (f : Int32 → Int32 → Mem → Option (Int32 × Mem)) => ∀ (x4 : Int32) (x5 : Int32) (s : Mem), P (f x4 x5 s) 6 [(0, .ref (Ga G 0)), (1, .int x1), (2, .int x2), (3, .int x3), (4, .int x4), (5, .int x5)] [] s)) (fun _ _ _ => jx_none h) (fun r6 ih6 => ?_) N (-1) 0 s) rfl
  refine w_X10_hearsFrom_6 hG h N x1 x2 x3  ih6
noncomputable def st_X10_goesOn_5 (N : Nat) (x1 : Int32) (x2 : Int32) (k141 : Int32 → Mem → Option (Int32 × Mem)) (rec : Int32 → Int32 → Mem → Option (Int32 × Mem)) (x3 : Int32) (x4 : Int32) (s0 : Mem) : Option (Int32 × Mem) :=
  if 12 ≤ x4 then (k141 x3 s0) else chk x4 12 (lt (si s0 23 (ix x4) (-1)) (fun s1 => bd (f_X10_isParish N x4 s1) (fun r3 s2 => if r3 = 0 then (lt (x4 + 1) (fun x4_4 => rec x3 x4_4 s2)) else bd (f_X10_isKnown N x1 x4 s2) (fun r6 s5 => if r6 = 0 then (bd (f_X10_hearsFrom N x1 x4 x2 s5) (fun r8 s7 => if r8 = (-1) then (lt (x4 + 1) (fun x4_23 => rec x3 x4_23 s7)) else bd (f_X10_known N x1 r8 s7) (fun r10 s9 => chk r10 151 (chk (((12 : Int32) * r8) + x4) 144 (bd (f_X10_tired N x4 s9) (fun r12 s11 => bd (f_X10_feels N x4 x1 (gi s9 1 (ix r10)) (gi s9 4 (ix (((12 : Int32) * r8) + x4))) r12 x2 s11) (fun _ s13 => bd (f_X10_known N x1 r8 s13) (fun r16 s15 => chk r16 151 (bd (f_X10_byLaw N 116 999 s15) (fun r18 s17 => bd (f_X10_min N 99999 ((gi s15 1 (ix r16)) + r18) s17) (fun r20 s19 => chk x4 12 (lt (si s19 23 (ix x4) r20) (fun s21 => lt (x4 + 1) (fun x4_22 => rec 1 x4_22 s21)))))))))))))) else lt (x4 + 1) (fun x4_24 => rec x3 x4_24 s5)))))
noncomputable def st_X10_goesOn_144 (N : Nat) (x1 : Int32) (x3 : Int32)  (rec : Int32 → Mem → Option (Int32 × Mem)) (x4 : Int32) (s0 : Mem) : Option (Int32 × Mem) :=
  if 12 ≤ x4 then (ckz x3 (some (x3, s0))) else chk x4 12 (if (gi s0 23 (ix x4)) = (-1) then (lt (x4 + 1) (fun x4_27 => rec x4_27 s0)) else bd (f_X10_known N x1 x4 s0) (fun r29 s28 => chk x4 12 (chk r29 151 (lt (si s28 1 (ix r29) (gi s28 23 (ix x4))) (fun s30 => lt (x4 + 1) (fun x4_31 => rec x4_31 s30))))))
noncomputable def f_X10_goesOn (N : Nat) (x1 : Int32) (x2 : Int32) (s : Mem) : Option (Int32 × Mem) :=
  itr (fun _ _ _ => none) (st_X10_goesOn_5 N x1 x2 (fun (x3_26 : Int32) (s25 : Mem) => itr (fun _ _ => none) (st_X10_goesOn_144 N x1 x3_26) N 0 s25)) N 0 0 s
set_option maxRecDepth 20000 in
theorem w_X10_goesOn_5 {G : Gx} (hG : Gok G ∧ IsG G layM fsoM) {P : Option (Int32 × Mem) → Nat → List (Nat × Value) → List Value → Mem → Prop} (h : Jk G layM fsoM RX10 cX10_goesOn 6 (some .boolean) 4 tvI P) (N : Nat) (x1 : Int32) (x2 : Int32) {k141 : Int32 → Mem → Option (Int32 × Mem)} (hk141 : ∀ (x3 : Int32) (s : Mem), P (k141 x3 s) 141 [(0, .ref (Ga G 0)), (1, .int x1), (3, .int x3)] [] s) {rec : Int32 → Int32 → Mem → Option (Int32 × Mem)} (ih : ∀ (x3 : Int32) (x4 : Int32) (s : Mem), P (rec x3 x4 s) 5 [(0, .ref (Ga G 0)), (1, .int x1), (2, .int x2), (3, .int x3), (4, .int x4)] [] s) : ∀ (x3 : Int32) (x4 : Int32) (s : Mem), P (st_X10_goesOn_5 N x1 x2 k141 rec x3 x4 s) 5 [(0, .ref (Ga G 0)), (1, .int x1), (2, .int x2), (3, .int x3), (4, .int x4)] [] s := by
  intro x3 x4 s0
  unfold st_X10_goesOn_5
  refine jx_iload h dX10_goesOn_5 4 rfl ?_
  refine jx_bipush h dX10_goesOn_7 kb_12 ?_
  refine jx_icmp_ge (tgt := 141) h dX10_goesOn_9 rfl ?_ ?_
  · exact jx_subk [0, 1, 3] h (hk141 x3 s0) rfl
  · refine jx_aload_n h dX10_goesOn_12 rfl 0 rfl ?_
    refine jx_get (v := .ref (Ga G 23)) h fa_X10_77 lm_0 dX10_goesOn_13 rfl ?_
    refine jx_iload h dX10_goesOn_16 4 rfl ?_
    refine jx_iconst h dX10_goesOn_18 ki_m1 ?_
    refine jx_iastore h lm_23 dX10_goesOn_19 (fun s1 => ?_)
    refine jx_aload_n h dX10_goesOn_20 rfl 0 rfl ?_
    refine jx_iload h dX10_goesOn_21 4 rfl ?_
    refine jx_callVi [] h lm_0 (c_X10_isParish hG N x4 s1) ml_X10_146 (Nat.le_of_ble_eq_true rfl) (Nat.le_of_ble_eq_true rfl) dX10_goesOn_23 (Nat.le_of_ble_eq_true rfl) rfl (fun r3 s2 => ?_)
    refine jx_if_eq (tgt := 135) h dX10_goesOn_26 rfl ?_ ?_
    · refine jx_iincl (L := fun w => [(4, .int w), (0, .ref (Ga G 0)), (1, .int x1), (2, .int x2), (3, .int x3)]) h dX10_goesOn_135 4 rfl (kn_1 _) (Nat.le_of_ble_eq_true rfl) (fun _ => rfl) (fun x4_4 => ?_)
      refine jx_goto (tgt := 5) h dX10_goesOn_138 rfl ?_
      exact jx_subk [1, 2, 3, 4, 0] h (ih x3 x4_4 s2) rfl
    · refine jx_aload_n h dX10_goesOn_29 rfl 0 rfl ?_
      refine jx_iload_n h dX10_goesOn_30 rfl 1 rfl ?_
      refine jx_iload h dX10_goesOn_31 4 rfl ?_
      refine jx_callVi [] h lm_0 (c_X10_isKnown hG N x1 x4 s2) ml_X10_284 (Nat.le_of_ble_eq_true rfl) (Nat.le_of_ble_eq_true rfl) dX10_goesOn_33 (Nat.le_of_ble_eq_true rfl) rfl (fun r6 s5 => ?_)
      refine jx_if_eq (tgt := 42) h dX10_goesOn_36 rfl ?_ ?_
      · refine jx_aload_n h dX10_goesOn_42 rfl 0 rfl ?_
        refine jx_iload_n h dX10_goesOn_43 rfl 1 rfl ?_
        refine jx_iload h dX10_goesOn_44 4 rfl ?_
        refine jx_iload_n h dX10_goesOn_46 rfl 2 rfl ?_
        refine jx_callVi [] h lm_0 (c_X10_hearsFrom hG N x1 x4 x2 s5) ml_X10_297 (Nat.le_of_ble_eq_true rfl) (Nat.le_of_ble_eq_true rfl) dX10_goesOn_47 (Nat.le_of_ble_eq_true rfl) rfl (fun r8 s7 => ?_)
        refine jx_istore (lv' := [(5, .int r8), (0, .ref (Ga G 0)), (1, .int x1), (2, .int x2), (3, .int x3), (4, .int x4)]) h dX10_goesOn_50 (Nat.le_of_ble_eq_true rfl) rfl ?_
        refine jx_iload h dX10_goesOn_52 0 rfl ?_
        refine jx_iconst h dX10_goesOn_54 ki_m1 ?_
        refine jx_icmp_ne (tgt := 61) h dX10_goesOn_55 rfl ?_ ?_
        · refine jx_aload_n h dX10_goesOn_61 rfl 1 rfl ?_
          refine jx_iload h dX10_goesOn_62 5 rfl ?_
          refine jx_iload_n h dX10_goesOn_64 rfl 2 rfl ?_
          refine jx_aload_n h dX10_goesOn_65 rfl 1 rfl ?_
          refine jx_get (v := .ref (Ga G 1)) h fa_X10_7 lm_0 dX10_goesOn_66 rfl ?_
          refine jx_iload_n h dX10_goesOn_69 rfl 2 rfl ?_
          refine jx_iload h dX10_goesOn_70 0 rfl ?_
          refine jx_callSi [.ref (Ga G 1), .int x1, .int x4, .ref (Ga G 0)] h (c_X10_known hG N x1 r8 s7) ml_X10_142 (Nat.le_of_ble_eq_true rfl) (Nat.le_of_ble_eq_true rfl) dX10_goesOn_72 (Nat.le_of_ble_eq_true rfl) rfl (fun r10 s9 => ?_)
          refine jx_iaload h lm_1 dX10_goesOn_75 ?_
          refine jx_aload_n h dX10_goesOn_76 rfl 1 rfl ?_
          refine jx_get (v := .ref (Ga G 4)) h fa_X10_19 lm_0 dX10_goesOn_77 rfl ?_
          refine jx_bipush h dX10_goesOn_80 kb_12 ?_
          refine jx_iload h dX10_goesOn_82 0 rfl ?_
          refine jx_imul h dX10_goesOn_84 ?_
          refine jx_iload h dX10_goesOn_85 5 rfl ?_
          refine jx_iadd h dX10_goesOn_87 ?_
          refine jx_iaload h lm_4 dX10_goesOn_88 ?_
          refine jx_aload_n h dX10_goesOn_89 rfl 1 rfl ?_
          refine jx_iload h dX10_goesOn_90 5 rfl ?_
          refine jx_callVi [.int (gi s9 4 (ix (((12 : Int32) * r8) + x4))), .int (gi s9 1 (ix r10)), .int x1, .int x4, .ref (Ga G 0)] h lm_0 (c_X10_tired hG N x4 s9) ml_X10_287 (Nat.le_of_ble_eq_true rfl) (Nat.le_of_ble_eq_true rfl) dX10_goesOn_92 (Nat.le_of_ble_eq_true rfl) rfl (fun r12 s11 => ?_)
          refine jx_iload_n h dX10_goesOn_95 rfl 3 rfl ?_
          refine jx_callVv [] h lm_0 (c_X10_feels hG N x4 x1 (gi s9 1 (ix r10)) (gi s9 4 (ix (((12 : Int32) * r8) + x4))) r12 x2 s11) ml_X10_290 (Nat.le_of_ble_eq_true rfl) (Nat.le_of_ble_eq_true rfl) dX10_goesOn_96 (Nat.le_of_ble_eq_true rfl) rfl (fun s13 => ?_)
          refine jx_aload_n h dX10_goesOn_99 rfl 1 rfl ?_
          refine jx_get (v := .ref (Ga G 23)) h fa_X10_77 lm_0 dX10_goesOn_100 rfl ?_
          refine jx_iload h dX10_goesOn_103 5 rfl ?_
          refine jx_ldcw h dX10_goesOn_105 kw_X10_300 ?_
          refine jx_aload_n h dX10_goesOn_108 rfl 1 rfl ?_
          refine jx_get (v := .ref (Ga G 1)) h fa_X10_7 lm_0 dX10_goesOn_109 rfl ?_
          refine jx_iload_n h dX10_goesOn_112 rfl 2 rfl ?_
          refine jx_iload h dX10_goesOn_113 0 rfl ?_
          refine jx_callSi [.ref (Ga G 1), .int 99999, .int x4, .ref (Ga G 23)] h (c_X10_known hG N x1 r8 s13) ml_X10_142 (Nat.le_of_ble_eq_true rfl) (Nat.le_of_ble_eq_true rfl) dX10_goesOn_115 (Nat.le_of_ble_eq_true rfl) rfl (fun r16 s15 => ?_)
          refine jx_iaload h lm_1 dX10_goesOn_118 ?_
          refine jx_aload_n h dX10_goesOn_119 rfl 1 rfl ?_
          refine jx_bipush h dX10_goesOn_120 kb_116 ?_
          refine jx_sipush h dX10_goesOn_122 ks_999 ?_
          refine jx_callVi [.int (gi s15 1 (ix r16)), .int 99999, .int x4, .ref (Ga G 23)] h lm_0 (c_X10_byLaw hG N 116 999 s15) ml_X10_301 (Nat.le_of_ble_eq_true rfl) (Nat.le_of_ble_eq_true rfl) dX10_goesOn_125 (Nat.le_of_ble_eq_true rfl) rfl (fun r18 s17 => ?_)
          refine jx_iadd h dX10_goesOn_128 ?_
          refine jx_callSi [.int x4, .ref (Ga G 23)] h (c_X10_min hG N 99999 ((gi s15 1 (ix r16)) + r18) s17) ml_X10_271 (Nat.le_of_ble_eq_true rfl) (Nat.le_of_ble_eq_true rfl) dX10_goesOn_129 (Nat.le_of_ble_eq_true rfl) rfl (fun r20 s19 => ?_)
          refine jx_iastore h lm_23 dX10_goesOn_132 (fun s21 => ?_)
          refine jx_iconst h dX10_goesOn_133 ki_1 ?_
          refine jx_istore_n (lv' := [(3, .int 1), (5, .int r8), (0, .ref (Ga G 0)), (1, .int x1), (2, .int x2), (4, .int x4)]) h dX10_goesOn_134 rfl (Nat.le_of_ble_eq_true rfl) rfl ?_
          refine jx_iincl (L := fun w => [(4, .int w), (3, .int 1), (5, .int r8), (0, .ref (Ga G 0)), (1, .int x1), (2, .int x2)]) h dX10_goesOn_135 5 rfl (kn_1 _) (Nat.le_of_ble_eq_true rfl) (fun _ => rfl) (fun x4_22 => ?_)
          refine jx_goto (tgt := 5) h dX10_goesOn_138 rfl ?_
          exact jx_subk [3, 4, 5, 1, 0] h (ih 1 x4_22 s21) rfl
        · refine jx_goto (tgt := 135) h dX10_goesOn_58 rfl ?_
          refine jx_iincl (L := fun w => [(4, .int w), (5, .int r8), (0, .ref (Ga G 0)), (1, .int x1), (2, .int x2), (3, .int x3)]) h dX10_goesOn_135 5 rfl (kn_1 _) (Nat.le_of_ble_eq_true rfl) (fun _ => rfl) (fun x4_23 => ?_)
          refine jx_goto (tgt := 5) h dX10_goesOn_138 rfl ?_
          exact jx_subk [2, 3, 4, 5, 0] h (ih x3 x4_23 s7) rfl
      · refine jx_goto (tgt := 135) h dX10_goesOn_39 rfl ?_
        refine jx_iincl (L := fun w => [(4, .int w), (0, .ref (Ga G 0)), (1, .int x1), (2, .int x2), (3, .int x3)]) h dX10_goesOn_135 4 rfl (kn_1 _) (Nat.le_of_ble_eq_true rfl) (fun _ => rfl) (fun x4_24 => ?_)
        refine jx_goto (tgt := 5) h dX10_goesOn_138 rfl ?_
        exact jx_subk [1, 2, 3, 4, 0] h (ih x3 x4_24 s5) rfl
set_option maxRecDepth 20000 in
theorem w_X10_goesOn_144 {G : Gx} (hG : Gok G ∧ IsG G layM fsoM) {P : Option (Int32 × Mem) → Nat → List (Nat × Value) → List Value → Mem → Prop} (h : Jk G layM fsoM RX10 cX10_goesOn 6 (some .boolean) 4 tvI P) (N : Nat) (x1 : Int32) (x3 : Int32) {rec : Int32 → Mem → Option (Int32 × Mem)} (ih : ∀ (x4 : Int32) (s : Mem), P (rec x4 s) 144 [(0, .ref (Ga G 0)), (1, .int x1), (3, .int x3), (4, .int x4)] [] s) : ∀ (x4 : Int32) (s : Mem), P (st_X10_goesOn_144 N x1 x3 rec x4 s) 144 [(0, .ref (Ga G 0)), (1, .int x1), (3, .int x3), (4, .int x4)] [] s := by
  intro x4 s0
  unfold st_X10_goesOn_144
  refine jx_iload h dX10_goesOn_144 3 rfl ?_
  refine jx_bipush h dX10_goesOn_146 kb_12 ?_
  refine jx_icmp_ge (tgt := 186) h dX10_goesOn_148 rfl ?_ ?_
  · refine jx_iload_n h dX10_goesOn_186 rfl 2 rfl ?_
    exact jx_zretc h dX10_goesOn_187
  · refine jx_aload_n h dX10_goesOn_151 rfl 0 rfl ?_
    refine jx_get (v := .ref (Ga G 23)) h fa_X10_77 lm_0 dX10_goesOn_152 rfl ?_
    refine jx_iload h dX10_goesOn_155 3 rfl ?_
    refine jx_iaload h lm_23 dX10_goesOn_157 ?_
    refine jx_iconst h dX10_goesOn_158 ki_m1 ?_
    refine jx_icmp_eq (tgt := 180) h dX10_goesOn_159 rfl ?_ ?_
    · refine jx_iincl (L := fun w => [(4, .int w), (0, .ref (Ga G 0)), (1, .int x1), (3, .int x3)]) h dX10_goesOn_180 3 rfl (kn_1 _) (Nat.le_of_ble_eq_true rfl) (fun _ => rfl) (fun x4_27 => ?_)
      refine jx_goto (tgt := 144) h dX10_goesOn_183 rfl ?_
      exact jx_subk [1, 2, 3, 0] h (ih x4_27 s0) rfl
    · refine jx_aload_n h dX10_goesOn_162 rfl 0 rfl ?_
      refine jx_get (v := .ref (Ga G 1)) h fa_X10_7 lm_0 dX10_goesOn_163 rfl ?_
      refine jx_iload_n h dX10_goesOn_166 rfl 1 rfl ?_
      refine jx_iload h dX10_goesOn_167 3 rfl ?_
      refine jx_callSi [.ref (Ga G 1)] h (c_X10_known hG N x1 x4 s0) ml_X10_142 (Nat.le_of_ble_eq_true rfl) (Nat.le_of_ble_eq_true rfl) dX10_goesOn_169 (Nat.le_of_ble_eq_true rfl) rfl (fun r29 s28 => ?_)
      refine jx_aload_n h dX10_goesOn_172 rfl 0 rfl ?_
      refine jx_get (v := .ref (Ga G 23)) h fa_X10_77 lm_0 dX10_goesOn_173 rfl ?_
      refine jx_iload h dX10_goesOn_176 3 rfl ?_
      refine jx_iaload h lm_23 dX10_goesOn_178 ?_
      refine jx_iastore h lm_1 dX10_goesOn_179 (fun s30 => ?_)
      refine jx_iincl (L := fun w => [(4, .int w), (0, .ref (Ga G 0)), (1, .int x1), (3, .int x3)]) h dX10_goesOn_180 3 rfl (kn_1 _) (Nat.le_of_ble_eq_true rfl) (fun _ => rfl) (fun x4_31 => ?_)
      refine jx_goto (tgt := 144) h dX10_goesOn_183 rfl ?_
      exact jx_subk [1, 2, 3, 0] h (ih x4_31 s30) rfl
set_option maxRecDepth 20000 in
theorem c_X10_goesOn {G : Gx} (hG : Gok G ∧ IsG G layM fsoM) (N : Nat) (x1 : Int32) (x2 : Int32) (s : Mem) : Ct G yX10_goesOn cX10_goesOn 6 (some .boolean) 4 [.ref (Ga G 0), .int x1, .int x2] tvI s (f_X10_goesOn N x1 x2 s) := by
  refine Ct.of hG (by decide) (Nat.le_of_ble_eq_true rfl) (fun P h => ?_)
  show P _ 0 [(0, .ref (Ga G 0)), (1, .int x1), (2, .int x2)] [] s
  unfold f_X10_goesOn
  refine jx_iconst h dX10_goesOn_0 ki_0 ?_
  refine jx_istore_n (lv' := [(3, .int 0), (0, .ref (Ga G 0)), (1, .int x1), (2, .int x2)]) h dX10_goesOn_1 rfl (Nat.le_of_ble_eq_true rfl) rfl ?_
  refine jx_iconst h dX10_goesOn_2 ki_0 ?_
  refine jx_istore (lv' := [(4, .int 0), (3, .int 0), (0, .ref (Ga G 0)), (1, .int x1), (2, .int x2)]) h dX10_goesOn_3 (Nat.le_of_ble_eq_true rfl) rfl ?_
  refine jx_subk [2, 3, 4, 1, 0] h (itr_ind (Q := (fun (f : Int32 → Int32 → Mem → Option (Int32 × Mem)) => ∀ (x3 : Int32) (x4 : Int32) (s : Mem), P (f x3 x4 s) 5 [(0, .ref (Ga G 0)), (1, .int x1), (2, .int x2), (3, .int x3), (4, .int x4)] [] s)) (fun _ _ _ => jx_none h) (fun r5 ih5 => ?_) N 0 0 s) rfl
  refine w_X10_goesOn_5 hG h N x1 x2 ?_ ih5
  intro x3_26 s25
  refine jx_iconst h dX10_goesOn_141 ki_0 ?_
  refine jx_istore (lv' := [(4, .int 0), (0, .ref (Ga G 0)), (1, .int x1), (3, .int x3_26)]) h dX10_goesOn_142 (Nat.le_of_ble_eq_true rfl) rfl ?_
  refine jx_subk [1, 2, 3, 0] h (itr_ind (Q := (fun (f : Int32 → Mem → Option (Int32 × Mem)) => ∀ (x4 : Int32) (s : Mem), P (f x4 s) 144 [(0, .ref (Ga G 0)), (1, .int x1), (3, .int x3_26), (4, .int x4)] [] s)) (fun _ _ => jx_none h) (fun r144 ih144 => ?_) N 0 s25) rfl
  refine w_X10_goesOn_144 hG h N x1 x3_26  ih144
noncomputable def st_X10_readsNext_2 (N : Nat) (x1 : Int32)  (rec : Int32 → Mem → Option (Int32 × Mem)) (x2 : Int32) (s0 : Mem) : Option (Int32 × Mem) :=
  if 6 ≤ x2 then (some ((-1), s0)) else chk 144 151 (bd (f_X10_has N (gi s0 1 (ix (144 : Int32))) x2 s0) (fun r2 s1 => if r2 = 0 then (lt (x2 + 1) (fun x2_3 => rec x2_3 s1)) else bd (f_X10_isKnown N x2 x1 s1) (fun r5 s4 => if r5 = 0 then (lt (x2 + 1) (fun x2_6 => rec x2_6 s4)) else chk ((84 : Int32) + x2) 151 (bd (f_X10_has N (gi s4 1 (ix ((84 : Int32) + x2))) x1 s4) (fun r8 s7 => if r8 = 0 then (some (x2, s7)) else lt (x2 + 1) (fun x2_9 => rec x2_9 s7))))))
noncomputable def f_X10_readsNext (N : Nat) (x1 : Int32) (s : Mem) : Option (Int32 × Mem) :=
  itr (fun _ _ => none) (st_X10_readsNext_2 N x1) N 0 s
set_option maxRecDepth 20000 in
theorem w_X10_readsNext_2 {G : Gx} (hG : Gok G ∧ IsG G layM fsoM) {P : Option (Int32 × Mem) → Nat → List (Nat × Value) → List Value → Mem → Prop} (h : Jk G layM fsoM RX10 cX10_readsNext 3 (some .int) 2 tvI P) (N : Nat) (x1 : Int32) {rec : Int32 → Mem → Option (Int32 × Mem)} (ih : ∀ (x2 : Int32) (s : Mem), P (rec x2 s) 2 [(0, .ref (Ga G 0)), (1, .int x1), (2, .int x2)] [] s) : ∀ (x2 : Int32) (s : Mem), P (st_X10_readsNext_2 N x1 rec x2 s) 2 [(0, .ref (Ga G 0)), (1, .int x1), (2, .int x2)] [] s := by
  intro x2 s0
  unfold st_X10_readsNext_2
  refine jx_iload_n h dX10_readsNext_2 rfl 2 rfl ?_
  refine jx_bipush h dX10_readsNext_3 kb_6 ?_
  refine jx_icmp_ge (tgt := 56) h dX10_readsNext_5 rfl ?_ ?_
  · refine jx_iconst h dX10_readsNext_56 ki_m1 ?_
    exact jx_iret h dX10_readsNext_57
  · refine jx_aload_n h dX10_readsNext_8 rfl 0 rfl ?_
    refine jx_get (v := .ref (Ga G 1)) h fa_X10_7 lm_0 dX10_readsNext_9 rfl ?_
    refine jx_sipush h dX10_readsNext_12 ks_144 ?_
    refine jx_iaload h lm_1 dX10_readsNext_15 ?_
    refine jx_iload_n h dX10_readsNext_16 rfl 2 rfl ?_
    refine jx_callSi [] h (c_X10_has hG N (gi s0 1 (ix (144 : Int32))) x2 s0) ml_X10_138 (Nat.le_of_ble_eq_true rfl) (Nat.le_of_ble_eq_true rfl) dX10_readsNext_17 (Nat.le_of_ble_eq_true rfl) rfl (fun r2 s1 => ?_)
    refine jx_if_eq (tgt := 50) h dX10_readsNext_20 rfl ?_ ?_
    · refine jx_iincl (L := fun w => [(2, .int w), (0, .ref (Ga G 0)), (1, .int x1)]) h dX10_readsNext_50 2 rfl (kn_1 _) (Nat.le_of_ble_eq_true rfl) (fun _ => rfl) (fun x2_3 => ?_)
      refine jx_goto (tgt := 2) h dX10_readsNext_53 rfl ?_
      exact jx_subk [1, 2, 0] h (ih x2_3 s1) rfl
    · refine jx_aload_n h dX10_readsNext_23 rfl 0 rfl ?_
      refine jx_iload_n h dX10_readsNext_24 rfl 2 rfl ?_
      refine jx_iload_n h dX10_readsNext_25 rfl 1 rfl ?_
      refine jx_callVi [] h lm_0 (c_X10_isKnown hG N x2 x1 s1) ml_X10_284 (Nat.le_of_ble_eq_true rfl) (Nat.le_of_ble_eq_true rfl) dX10_readsNext_26 (Nat.le_of_ble_eq_true rfl) rfl (fun r5 s4 => ?_)
      refine jx_if_eq (tgt := 50) h dX10_readsNext_29 rfl ?_ ?_
      · refine jx_iincl (L := fun w => [(2, .int w), (0, .ref (Ga G 0)), (1, .int x1)]) h dX10_readsNext_50 2 rfl (kn_1 _) (Nat.le_of_ble_eq_true rfl) (fun _ => rfl) (fun x2_6 => ?_)
        refine jx_goto (tgt := 2) h dX10_readsNext_53 rfl ?_
        exact jx_subk [1, 2, 0] h (ih x2_6 s4) rfl
      · refine jx_aload_n h dX10_readsNext_32 rfl 0 rfl ?_
        refine jx_get (v := .ref (Ga G 1)) h fa_X10_7 lm_0 dX10_readsNext_33 rfl ?_
        refine jx_bipush h dX10_readsNext_36 kb_84 ?_
        refine jx_iload_n h dX10_readsNext_38 rfl 2 rfl ?_
        refine jx_iadd h dX10_readsNext_39 ?_
        refine jx_iaload h lm_1 dX10_readsNext_40 ?_
        refine jx_iload_n h dX10_readsNext_41 rfl 1 rfl ?_
        refine jx_callSi [] h (c_X10_has hG N (gi s4 1 (ix ((84 : Int32) + x2))) x1 s4) ml_X10_138 (Nat.le_of_ble_eq_true rfl) (Nat.le_of_ble_eq_true rfl) dX10_readsNext_42 (Nat.le_of_ble_eq_true rfl) rfl (fun r8 s7 => ?_)
        refine jx_if_ne (tgt := 50) h dX10_readsNext_45 rfl ?_ ?_
        · refine jx_iincl (L := fun w => [(2, .int w), (0, .ref (Ga G 0)), (1, .int x1)]) h dX10_readsNext_50 2 rfl (kn_1 _) (Nat.le_of_ble_eq_true rfl) (fun _ => rfl) (fun x2_9 => ?_)
          refine jx_goto (tgt := 2) h dX10_readsNext_53 rfl ?_
          exact jx_subk [1, 2, 0] h (ih x2_9 s7) rfl
        · refine jx_iload_n h dX10_readsNext_48 rfl 2 rfl ?_
          exact jx_iret h dX10_readsNext_49
set_option maxRecDepth 20000 in
theorem c_X10_readsNext {G : Gx} (hG : Gok G ∧ IsG G layM fsoM) (N : Nat) (x1 : Int32) (s : Mem) : Ct G yX10_readsNext cX10_readsNext 3 (some .int) 2 [.ref (Ga G 0), .int x1] tvI s (f_X10_readsNext N x1 s) := by
  refine Ct.of hG (by decide) (Nat.le_of_ble_eq_true rfl) (fun P h => ?_)
  show P _ 0 [(0, .ref (Ga G 0)), (1, .int x1)] [] s
  unfold f_X10_readsNext
  refine jx_iconst h dX10_readsNext_0 ki_0 ?_
  refine jx_istore_n (lv' := [(2, .int 0), (0, .ref (Ga G 0)), (1, .int x1)]) h dX10_readsNext_1 rfl (Nat.le_of_ble_eq_true rfl) rfl ?_
  refine jx_subk [1, 2, 0] h (itr_ind (Q := (fun (f : Int32 → Mem → Option (Int32 × Mem)) => ∀ (x2 : Int32) (s : Mem), P (f x2 s) 2 [(0, .ref (Ga G 0)), (1, .int x1), (2, .int x2)] [] s)) (fun _ _ => jx_none h) (fun r2 ih2 => ?_) N 0 s) rfl
  refine w_X10_readsNext_2 hG h N x1  ih2
noncomputable def f_X10_reads (N : Nat) (x1 : Int32) (s : Mem) : Option (Int32 × Mem) :=
  bd (f_X10_readsNext N x1 s) (fun r2 s1 => if r2 = (-1) then (some (0, s1)) else bd (f_X10_known N r2 x1 s1) (fun r4 s3 => chk r4 151 (bd (f_X10_tired N x1 s3) (fun r6 s5 => chk 147 151 (bd (f_X10_feels N x1 r2 (gi s3 1 (ix r4)) 0 r6 (gi s5 1 (ix (147 : Int32))) s5) (fun _ s7 => bd (f_X10_byLaw N 104 10 s7) (fun r10 s9 => bd (f_X10_byLaw N 103 999 s9) (fun r12 s11 => chk 150 151 (chk 150 151 (lt (si s11 1 (ix (150 : Int32)) ((((25173 : Int32) * (gi s11 1 (ix (150 : Int32)))) + 13849) - (((25173 : Int32) * (gi s11 1 (ix (150 : Int32)))) + 13849) / 65536 * 65536)) (fun s13 => chk 150 151 (if r10 ≤ ((gi s13 1 (ix (150 : Int32))) - (gi s13 1 (ix (150 : Int32))) / 10 * 10) then (bd (f_X10_gives N r2 x1 r12 s13) (fun _ s14 => lt (si s14 0 34 ((gi s14 0 34) + 1)) (fun s16 => some (1, s16)))) else lt (si s13 0 35 ((gi s13 0 35) + 1)) (fun s17 => some (0, s17))))))))))))))
set_option maxRecDepth 20000 in
theorem c_X10_reads {G : Gx} (hG : Gok G ∧ IsG G layM fsoM) (N : Nat) (x1 : Int32) (s : Mem) : Ct G yX10_reads cX10_reads 5 (some .int) 3 [.ref (Ga G 0), .int x1] tvI s (f_X10_reads N x1 s) := by
  refine Ct.of hG (by decide) (Nat.le_of_ble_eq_true rfl) (fun P h => ?_)
  show P _ 0 [(0, .ref (Ga G 0)), (1, .int x1)] [] s
  unfold f_X10_reads
  refine jx_aload_n h dX10_reads_0 rfl 0 rfl ?_
  refine jx_iload_n h dX10_reads_1 rfl 1 rfl ?_
  refine jx_callVi [] h lm_0 (c_X10_readsNext hG N x1 s) ml_X10_304 (Nat.le_of_ble_eq_true rfl) (Nat.le_of_ble_eq_true rfl) dX10_reads_2 (Nat.le_of_ble_eq_true rfl) rfl (fun r2 s1 => ?_)
  refine jx_istore_n (lv' := [(2, .int r2), (0, .ref (Ga G 0)), (1, .int x1)]) h dX10_reads_5 rfl (Nat.le_of_ble_eq_true rfl) rfl ?_
  refine jx_iload_n h dX10_reads_6 rfl 0 rfl ?_
  refine jx_iconst h dX10_reads_7 ki_m1 ?_
  refine jx_icmp_ne (tgt := 13) h dX10_reads_8 rfl ?_ ?_
  · refine jx_aload_n h dX10_reads_13 rfl 1 rfl ?_
    refine jx_iload_n h dX10_reads_14 rfl 2 rfl ?_
    refine jx_iload_n h dX10_reads_15 rfl 0 rfl ?_
    refine jx_aload_n h dX10_reads_16 rfl 1 rfl ?_
    refine jx_get (v := .ref (Ga G 1)) h fa_X10_7 lm_0 dX10_reads_17 rfl ?_
    refine jx_iload_n h dX10_reads_20 rfl 0 rfl ?_
    refine jx_iload_n h dX10_reads_21 rfl 2 rfl ?_
    refine jx_callSi [.ref (Ga G 1), .int r2, .int x1, .ref (Ga G 0)] h (c_X10_known hG N r2 x1 s1) ml_X10_142 (Nat.le_of_ble_eq_true rfl) (Nat.le_of_ble_eq_true rfl) dX10_reads_22 (Nat.le_of_ble_eq_true rfl) rfl (fun r4 s3 => ?_)
    refine jx_iaload h lm_1 dX10_reads_25 ?_
    refine jx_iconst h dX10_reads_26 ki_0 ?_
    refine jx_aload_n h dX10_reads_27 rfl 1 rfl ?_
    refine jx_iload_n h dX10_reads_28 rfl 2 rfl ?_
    refine jx_callVi [.int 0, .int (gi s3 1 (ix r4)), .int r2, .int x1, .ref (Ga G 0)] h lm_0 (c_X10_tired hG N x1 s3) ml_X10_287 (Nat.le_of_ble_eq_true rfl) (Nat.le_of_ble_eq_true rfl) dX10_reads_29 (Nat.le_of_ble_eq_true rfl) rfl (fun r6 s5 => ?_)
    refine jx_aload_n h dX10_reads_32 rfl 1 rfl ?_
    refine jx_get (v := .ref (Ga G 1)) h fa_X10_7 lm_0 dX10_reads_33 rfl ?_
    refine jx_sipush h dX10_reads_36 ks_147 ?_
    refine jx_iaload h lm_1 dX10_reads_39 ?_
    refine jx_callVv [] h lm_0 (c_X10_feels hG N x1 r2 (gi s3 1 (ix r4)) 0 r6 (gi s5 1 (ix (147 : Int32))) s5) ml_X10_290 (Nat.le_of_ble_eq_true rfl) (Nat.le_of_ble_eq_true rfl) dX10_reads_40 (Nat.le_of_ble_eq_true rfl) rfl (fun s7 => ?_)
    refine jx_aload_n h dX10_reads_43 rfl 1 rfl ?_
    refine jx_bipush h dX10_reads_44 kb_104 ?_
    refine jx_bipush h dX10_reads_46 kb_10 ?_
    refine jx_callVi [] h lm_0 (c_X10_byLaw hG N 104 10 s7) ml_X10_301 (Nat.le_of_ble_eq_true rfl) (Nat.le_of_ble_eq_true rfl) dX10_reads_48 (Nat.le_of_ble_eq_true rfl) rfl (fun r10 s9 => ?_)
    refine jx_istore_n (lv' := [(3, .int r10), (2, .int r2), (0, .ref (Ga G 0)), (1, .int x1)]) h dX10_reads_51 rfl (Nat.le_of_ble_eq_true rfl) rfl ?_
    refine jx_aload_n h dX10_reads_52 rfl 2 rfl ?_
    refine jx_bipush h dX10_reads_53 kb_103 ?_
    refine jx_sipush h dX10_reads_55 ks_999 ?_
    refine jx_callVi [] h lm_0 (c_X10_byLaw hG N 103 999 s9) ml_X10_301 (Nat.le_of_ble_eq_true rfl) (Nat.le_of_ble_eq_true rfl) dX10_reads_58 (Nat.le_of_ble_eq_true rfl) rfl (fun r12 s11 => ?_)
    refine jx_istore (lv' := [(4, .int r12), (3, .int r10), (2, .int r2), (0, .ref (Ga G 0)), (1, .int x1)]) h dX10_reads_61 (Nat.le_of_ble_eq_true rfl) rfl ?_
    refine jx_aload_n h dX10_reads_63 rfl 3 rfl ?_
    refine jx_get (v := .ref (Ga G 1)) h fa_X10_7 lm_0 dX10_reads_64 rfl ?_
    refine jx_sipush h dX10_reads_67 ks_150 ?_
    refine jx_sipush h dX10_reads_70 ks_25173 ?_
    refine jx_aload_n h dX10_reads_73 rfl 3 rfl ?_
    refine jx_get (v := .ref (Ga G 1)) h fa_X10_7 lm_0 dX10_reads_74 rfl ?_
    refine jx_sipush h dX10_reads_77 ks_150 ?_
    refine jx_iaload h lm_1 dX10_reads_80 ?_
    refine jx_imul h dX10_reads_81 ?_
    refine jx_sipush h dX10_reads_82 ks_13849 ?_
    refine jx_iadd h dX10_reads_85 ?_
    refine jx_ldcw h dX10_reads_86 kw_X10_307 ?_
    refine jx_iremc h (by decide) dX10_reads_89 ?_
    refine jx_iastore h lm_1 dX10_reads_90 (fun s13 => ?_)
    refine jx_aload_n h dX10_reads_91 rfl 3 rfl ?_
    refine jx_get (v := .ref (Ga G 1)) h fa_X10_7 lm_0 dX10_reads_92 rfl ?_
    refine jx_sipush h dX10_reads_95 ks_150 ?_
    refine jx_iaload h lm_1 dX10_reads_98 ?_
    refine jx_bipush h dX10_reads_99 kb_10 ?_
    refine jx_iremc h (by decide) dX10_reads_101 ?_
    refine jx_iload_n h dX10_reads_102 rfl 1 rfl ?_
    refine jx_icmp_ge (tgt := 118) h dX10_reads_103 rfl ?_ ?_
    · refine jx_aload_n h dX10_reads_118 rfl 3 rfl ?_
      refine jx_iload_n h dX10_reads_119 rfl 2 rfl ?_
      refine jx_iload_n h dX10_reads_120 rfl 4 rfl ?_
      refine jx_iload h dX10_reads_121 0 rfl ?_
      refine jx_callVv [] h lm_0 (c_X10_gives hG N r2 x1 r12 s13) ml_X10_274 (Nat.le_of_ble_eq_true rfl) (Nat.le_of_ble_eq_true rfl) dX10_reads_123 (Nat.le_of_ble_eq_true rfl) rfl (fun s14 => ?_)
      refine jx_aload_n h dX10_reads_126 rfl 3 rfl ?_
      refine jx_aload_n h dX10_reads_127 rfl 3 rfl ?_
      refine jx_get (v := .int (gi s14 0 34)) h fa_X10_311 lm_0 dX10_reads_128 rfl ?_
      refine jx_iconst h dX10_reads_131 ki_1 ?_
      refine jx_iadd h dX10_reads_132 ?_
      refine jx_put h fa_X10_311 fp_X10_34 lm_0 rfl rfl dX10_reads_133 (fu_X10_34 _ _ _ _) (fun s16 => ?_)
      refine jx_iconst h dX10_reads_136 ki_1 ?_
      exact jx_iret h dX10_reads_137
    · refine jx_aload_n h dX10_reads_106 rfl 3 rfl ?_
      refine jx_aload_n h dX10_reads_107 rfl 3 rfl ?_
      refine jx_get (v := .int (gi s13 0 35)) h fa_X10_308 lm_0 dX10_reads_108 rfl ?_
      refine jx_iconst h dX10_reads_111 ki_1 ?_
      refine jx_iadd h dX10_reads_112 ?_
      refine jx_put h fa_X10_308 fp_X10_35 lm_0 rfl rfl dX10_reads_113 (fu_X10_35 _ _ _ _) (fun s17 => ?_)
      refine jx_iconst h dX10_reads_116 ki_0 ?_
      exact jx_iret h dX10_reads_117
  · refine jx_iconst h dX10_reads_11 ki_0 ?_
    exact jx_iret h dX10_reads_12
noncomputable def f_X10_remembers (N : Nat) (x1 : Int32) (x2 : Int32) (s : Mem) : Option (Unit × Mem) :=
  chk (((90 : Int32) + ((3 : Int32) * x1)) + 1) 151 (chk (((90 : Int32) + ((3 : Int32) * x1)) + 2) 151 (lt (si s 1 (ix (((90 : Int32) + ((3 : Int32) * x1)) + 2)) (gi s 1 (ix (((90 : Int32) + ((3 : Int32) * x1)) + 1)))) (fun s1 => chk ((90 : Int32) + ((3 : Int32) * x1)) 151 (chk (((90 : Int32) + ((3 : Int32) * x1)) + 1) 151 (lt (si s1 1 (ix (((90 : Int32) + ((3 : Int32) * x1)) + 1)) (gi s1 1 (ix ((90 : Int32) + ((3 : Int32) * x1))))) (fun s2 => chk ((90 : Int32) + ((3 : Int32) * x1)) 151 (lt (si s2 1 (ix ((90 : Int32) + ((3 : Int32) * x1))) x2) (fun s3 => some ((), s3)))))))))
set_option maxRecDepth 20000 in
theorem c_X10_remembers {G : Gx} (hG : Gok G ∧ IsG G layM fsoM) (N : Nat) (x1 : Int32) (x2 : Int32) (s : Mem) : Ct G yX10_remembers cX10_remembers 3 none 0 [.ref (Ga G 0), .int x1, .int x2] tvV s (f_X10_remembers N x1 x2 s) := by
  refine Ct.of hG (by decide) (Nat.le_of_ble_eq_true rfl) (fun P h => ?_)
  show P _ 0 [(0, .ref (Ga G 0)), (1, .int x1), (2, .int x2)] [] s
  unfold f_X10_remembers
  refine jx_aload_n h dX10_remembers_0 rfl 0 rfl ?_
  refine jx_get (v := .ref (Ga G 1)) h fa_X10_7 lm_0 dX10_remembers_1 rfl ?_
  refine jx_bipush h dX10_remembers_4 kb_90 ?_
  refine jx_iconst h dX10_remembers_6 ki_3 ?_
  refine jx_iload_n h dX10_remembers_7 rfl 1 rfl ?_
  refine jx_imul h dX10_remembers_8 ?_
  refine jx_iadd h dX10_remembers_9 ?_
  refine jx_iconst h dX10_remembers_10 ki_2 ?_
  refine jx_iadd h dX10_remembers_11 ?_
  refine jx_aload_n h dX10_remembers_12 rfl 0 rfl ?_
  refine jx_get (v := .ref (Ga G 1)) h fa_X10_7 lm_0 dX10_remembers_13 rfl ?_
  refine jx_bipush h dX10_remembers_16 kb_90 ?_
  refine jx_iconst h dX10_remembers_18 ki_3 ?_
  refine jx_iload_n h dX10_remembers_19 rfl 1 rfl ?_
  refine jx_imul h dX10_remembers_20 ?_
  refine jx_iadd h dX10_remembers_21 ?_
  refine jx_iconst h dX10_remembers_22 ki_1 ?_
  refine jx_iadd h dX10_remembers_23 ?_
  refine jx_iaload h lm_1 dX10_remembers_24 ?_
  refine jx_iastore h lm_1 dX10_remembers_25 (fun s1 => ?_)
  refine jx_aload_n h dX10_remembers_26 rfl 0 rfl ?_
  refine jx_get (v := .ref (Ga G 1)) h fa_X10_7 lm_0 dX10_remembers_27 rfl ?_
  refine jx_bipush h dX10_remembers_30 kb_90 ?_
  refine jx_iconst h dX10_remembers_32 ki_3 ?_
  refine jx_iload_n h dX10_remembers_33 rfl 1 rfl ?_
  refine jx_imul h dX10_remembers_34 ?_
  refine jx_iadd h dX10_remembers_35 ?_
  refine jx_iconst h dX10_remembers_36 ki_1 ?_
  refine jx_iadd h dX10_remembers_37 ?_
  refine jx_aload_n h dX10_remembers_38 rfl 0 rfl ?_
  refine jx_get (v := .ref (Ga G 1)) h fa_X10_7 lm_0 dX10_remembers_39 rfl ?_
  refine jx_bipush h dX10_remembers_42 kb_90 ?_
  refine jx_iconst h dX10_remembers_44 ki_3 ?_
  refine jx_iload_n h dX10_remembers_45 rfl 1 rfl ?_
  refine jx_imul h dX10_remembers_46 ?_
  refine jx_iadd h dX10_remembers_47 ?_
  refine jx_iaload h lm_1 dX10_remembers_48 ?_
  refine jx_iastore h lm_1 dX10_remembers_49 (fun s2 => ?_)
  refine jx_aload_n h dX10_remembers_50 rfl 0 rfl ?_
  refine jx_get (v := .ref (Ga G 1)) h fa_X10_7 lm_0 dX10_remembers_51 rfl ?_
  refine jx_bipush h dX10_remembers_54 kb_90 ?_
  refine jx_iconst h dX10_remembers_56 ki_3 ?_
  refine jx_iload_n h dX10_remembers_57 rfl 1 rfl ?_
  refine jx_imul h dX10_remembers_58 ?_
  refine jx_iadd h dX10_remembers_59 ?_
  refine jx_iload_n h dX10_remembers_60 rfl 2 rfl ?_
  refine jx_iastore h lm_1 dX10_remembers_61 (fun s3 => ?_)
  exact jx_vret h dX10_remembers_62
noncomputable def st_X10_monthGoes_2 (N : Nat) (k43 : Mem → Option (Unit × Mem)) (rec : Int32 → Mem → Option (Unit × Mem)) (x1 : Int32) (s0 : Mem) : Option (Unit × Mem) :=
  if 6 ≤ x1 then (k43 s0) else chk 144 151 (bd (f_X10_has N (gi s0 1 (ix (144 : Int32))) x1 s0) (fun r2 s1 => if r2 = 0 then (lt (x1 + 1) (fun x1_3 => rec x1_3 s1)) else chk 147 151 (bd (f_X10_goesOn N x1 (gi s1 1 (ix (147 : Int32))) s1) (fun r5 s4 => lt (x1 + 1) (fun x1_6 => rec x1_6 s4)))))
noncomputable def st_X10_monthGoes_45 (N : Nat) (k75 : Mem → Option (Unit × Mem)) (rec : Int32 → Mem → Option (Unit × Mem)) (x1 : Int32) (s0 : Mem) : Option (Unit × Mem) :=
  if 12 ≤ x1 then (k75 s0) else bd (f_X10_isParish N x1 s0) (fun r9 s8 => if r9 = 0 then (lt (x1 + 1) (fun x1_10 => rec x1_10 s8)) else bd (f_X10_reads N x1 s8) (fun r12 s11 => bd (f_X10_remembers N x1 r12 s11) (fun _ s13 => lt (x1 + 1) (fun x1_15 => rec x1_15 s13))))
noncomputable def st_X10_monthGoes_77 (N : Nat) (k180 : Mem → Option (Unit × Mem)) (rec : Int32 → Mem → Option (Unit × Mem)) (x1 : Int32) (s0 : Mem) : Option (Unit × Mem) :=
  if 6 ≤ x1 then (k180 s0) else chk 144 151 (bd (f_X10_has N (gi s0 1 (ix (144 : Int32))) x1 s0) (fun r18 s17 => if r18 = 0 then (lt (x1 + 1) (fun x1_19 => rec x1_19 s17)) else chk ((138 : Int32) + x1) 151 (chk ((132 : Int32) + x1) 151 (if (gi s17 1 (ix ((132 : Int32) + x1))) ≤ (gi s17 1 (ix ((138 : Int32) + x1))) then (chk 144 151 (chk 144 151 (lt (si s17 1 (ix (144 : Int32)) ((gi s17 1 (ix (144 : Int32))) &&& (((1 : Int32) <<< (x1 &&& 31)) ^^^ (-1)))) (fun s20 => chk 148 151 (chk 148 151 (lt (si s20 1 (ix (148 : Int32)) ((gi s20 1 (ix (148 : Int32))) + 1)) (fun s21 => lt (si s21 0 36 ((gi s21 0 36) + 1)) (fun s22 => lt (x1 + 1) (fun x1_23 => rec x1_23 s22))))))))) else lt (x1 + 1) (fun x1_24 => rec x1_24 s17)))))
noncomputable def f_X10_monthGoes (N : Nat)  (s : Mem) : Option (Unit × Mem) :=
  itr (fun _ _ => none) (st_X10_monthGoes_2 N (fun  (s7 : Mem) => itr (fun _ _ => none) (st_X10_monthGoes_45 N (fun  (s16 : Mem) => itr (fun _ _ => none) (st_X10_monthGoes_77 N (fun  (s25 : Mem) => chk 147 151 (chk 147 151 (lt (si s25 1 (ix (147 : Int32)) ((gi s25 1 (ix (147 : Int32))) + 1)) (fun s26 => some ((), s26)))))) N 0 s16)) N 0 s7)) N 0 s
set_option maxRecDepth 20000 in
theorem w_X10_monthGoes_2 {G : Gx} (hG : Gok G ∧ IsG G layM fsoM) {P : Option (Unit × Mem) → Nat → List (Nat × Value) → List Value → Mem → Prop} (h : Jk G layM fsoM RX10 cX10_monthGoes 2 none 5 tvV P) (N : Nat) {k43 : Mem → Option (Unit × Mem)} (hk43 : ∀  (s : Mem), P (k43 s) 43 [(0, .ref (Ga G 0))] [] s) {rec : Int32 → Mem → Option (Unit × Mem)} (ih : ∀ (x1 : Int32) (s : Mem), P (rec x1 s) 2 [(0, .ref (Ga G 0)), (1, .int x1)] [] s) : ∀ (x1 : Int32) (s : Mem), P (st_X10_monthGoes_2 N k43 rec x1 s) 2 [(0, .ref (Ga G 0)), (1, .int x1)] [] s := by
  intro x1 s0
  unfold st_X10_monthGoes_2
  refine jx_iload_n h dX10_monthGoes_2 rfl 1 rfl ?_
  refine jx_bipush h dX10_monthGoes_3 kb_6 ?_
  refine jx_icmp_ge (tgt := 43) h dX10_monthGoes_5 rfl ?_ ?_
  · exact jx_subk [0] h (hk43 s0) rfl
  · refine jx_aload_n h dX10_monthGoes_8 rfl 0 rfl ?_
    refine jx_get (v := .ref (Ga G 1)) h fa_X10_7 lm_0 dX10_monthGoes_9 rfl ?_
    refine jx_sipush h dX10_monthGoes_12 ks_144 ?_
    refine jx_iaload h lm_1 dX10_monthGoes_15 ?_
    refine jx_iload_n h dX10_monthGoes_16 rfl 1 rfl ?_
    refine jx_callSi [] h (c_X10_has hG N (gi s0 1 (ix (144 : Int32))) x1 s0) ml_X10_138 (Nat.le_of_ble_eq_true rfl) (Nat.le_of_ble_eq_true rfl) dX10_monthGoes_17 (Nat.le_of_ble_eq_true rfl) rfl (fun r2 s1 => ?_)
    refine jx_if_eq (tgt := 37) h dX10_monthGoes_20 rfl ?_ ?_
    · refine jx_iincl (L := fun w => [(1, .int w), (0, .ref (Ga G 0))]) h dX10_monthGoes_37 1 rfl (kn_1 _) (Nat.le_of_ble_eq_true rfl) (fun _ => rfl) (fun x1_3 => ?_)
      refine jx_goto (tgt := 2) h dX10_monthGoes_40 rfl ?_
      exact jx_subk [1, 0] h (ih x1_3 s1) rfl
    · refine jx_aload_n h dX10_monthGoes_23 rfl 0 rfl ?_
      refine jx_iload_n h dX10_monthGoes_24 rfl 1 rfl ?_
      refine jx_aload_n h dX10_monthGoes_25 rfl 0 rfl ?_
      refine jx_get (v := .ref (Ga G 1)) h fa_X10_7 lm_0 dX10_monthGoes_26 rfl ?_
      refine jx_sipush h dX10_monthGoes_29 ks_147 ?_
      refine jx_iaload h lm_1 dX10_monthGoes_32 ?_
      refine jx_callVi [] h lm_0 (c_X10_goesOn hG N x1 (gi s1 1 (ix (147 : Int32))) s1) ml_X10_314 (Nat.le_of_ble_eq_true rfl) (Nat.le_of_ble_eq_true rfl) dX10_monthGoes_33 (Nat.le_of_ble_eq_true rfl) rfl (fun r5 s4 => ?_)
      refine jx_pop h dX10_monthGoes_36 rfl ?_
      refine jx_iincl (L := fun w => [(1, .int w), (0, .ref (Ga G 0))]) h dX10_monthGoes_37 1 rfl (kn_1 _) (Nat.le_of_ble_eq_true rfl) (fun _ => rfl) (fun x1_6 => ?_)
      refine jx_goto (tgt := 2) h dX10_monthGoes_40 rfl ?_
      exact jx_subk [1, 0] h (ih x1_6 s4) rfl
set_option maxRecDepth 20000 in
theorem w_X10_monthGoes_45 {G : Gx} (hG : Gok G ∧ IsG G layM fsoM) {P : Option (Unit × Mem) → Nat → List (Nat × Value) → List Value → Mem → Prop} (h : Jk G layM fsoM RX10 cX10_monthGoes 2 none 5 tvV P) (N : Nat) {k75 : Mem → Option (Unit × Mem)} (hk75 : ∀  (s : Mem), P (k75 s) 75 [(0, .ref (Ga G 0))] [] s) {rec : Int32 → Mem → Option (Unit × Mem)} (ih : ∀ (x1 : Int32) (s : Mem), P (rec x1 s) 45 [(0, .ref (Ga G 0)), (1, .int x1)] [] s) : ∀ (x1 : Int32) (s : Mem), P (st_X10_monthGoes_45 N k75 rec x1 s) 45 [(0, .ref (Ga G 0)), (1, .int x1)] [] s := by
  intro x1 s0
  unfold st_X10_monthGoes_45
  refine jx_iload_n h dX10_monthGoes_45 rfl 1 rfl ?_
  refine jx_bipush h dX10_monthGoes_46 kb_12 ?_
  refine jx_icmp_ge (tgt := 75) h dX10_monthGoes_48 rfl ?_ ?_
  · exact jx_subk [0] h (hk75 s0) rfl
  · refine jx_aload_n h dX10_monthGoes_51 rfl 0 rfl ?_
    refine jx_iload_n h dX10_monthGoes_52 rfl 1 rfl ?_
    refine jx_callVi [] h lm_0 (c_X10_isParish hG N x1 s0) ml_X10_146 (Nat.le_of_ble_eq_true rfl) (Nat.le_of_ble_eq_true rfl) dX10_monthGoes_53 (Nat.le_of_ble_eq_true rfl) rfl (fun r9 s8 => ?_)
    refine jx_if_eq (tgt := 69) h dX10_monthGoes_56 rfl ?_ ?_
    · refine jx_iincl (L := fun w => [(1, .int w), (0, .ref (Ga G 0))]) h dX10_monthGoes_69 1 rfl (kn_1 _) (Nat.le_of_ble_eq_true rfl) (fun _ => rfl) (fun x1_10 => ?_)
      refine jx_goto (tgt := 45) h dX10_monthGoes_72 rfl ?_
      exact jx_subk [1, 0] h (ih x1_10 s8) rfl
    · refine jx_aload_n h dX10_monthGoes_59 rfl 0 rfl ?_
      refine jx_iload_n h dX10_monthGoes_60 rfl 1 rfl ?_
      refine jx_aload_n h dX10_monthGoes_61 rfl 0 rfl ?_
      refine jx_iload_n h dX10_monthGoes_62 rfl 1 rfl ?_
      refine jx_callVi [.int x1, .ref (Ga G 0)] h lm_0 (c_X10_reads hG N x1 s8) ml_X10_317 (Nat.le_of_ble_eq_true rfl) (Nat.le_of_ble_eq_true rfl) dX10_monthGoes_63 (Nat.le_of_ble_eq_true rfl) rfl (fun r12 s11 => ?_)
      refine jx_callVv [] h lm_0 (c_X10_remembers hG N x1 r12 s11) ml_X10_320 (Nat.le_of_ble_eq_true rfl) (Nat.le_of_ble_eq_true rfl) dX10_monthGoes_66 (Nat.le_of_ble_eq_true rfl) rfl (fun s13 => ?_)
      refine jx_iincl (L := fun w => [(1, .int w), (0, .ref (Ga G 0))]) h dX10_monthGoes_69 1 rfl (kn_1 _) (Nat.le_of_ble_eq_true rfl) (fun _ => rfl) (fun x1_15 => ?_)
      refine jx_goto (tgt := 45) h dX10_monthGoes_72 rfl ?_
      exact jx_subk [1, 0] h (ih x1_15 s13) rfl
set_option maxRecDepth 20000 in
theorem w_X10_monthGoes_77 {G : Gx} (hG : Gok G ∧ IsG G layM fsoM) {P : Option (Unit × Mem) → Nat → List (Nat × Value) → List Value → Mem → Prop} (h : Jk G layM fsoM RX10 cX10_monthGoes 2 none 5 tvV P) (N : Nat) {k180 : Mem → Option (Unit × Mem)} (hk180 : ∀  (s : Mem), P (k180 s) 180 [(0, .ref (Ga G 0))] [] s) {rec : Int32 → Mem → Option (Unit × Mem)} (ih : ∀ (x1 : Int32) (s : Mem), P (rec x1 s) 77 [(0, .ref (Ga G 0)), (1, .int x1)] [] s) : ∀ (x1 : Int32) (s : Mem), P (st_X10_monthGoes_77 N k180 rec x1 s) 77 [(0, .ref (Ga G 0)), (1, .int x1)] [] s := by
  intro x1 s0
  unfold st_X10_monthGoes_77
  refine jx_iload_n h dX10_monthGoes_77 rfl 1 rfl ?_
  refine jx_bipush h dX10_monthGoes_78 kb_6 ?_
  refine jx_icmp_ge (tgt := 180) h dX10_monthGoes_80 rfl ?_ ?_
  · exact jx_subk [0] h (hk180 s0) rfl
  · refine jx_aload_n h dX10_monthGoes_83 rfl 0 rfl ?_
    refine jx_get (v := .ref (Ga G 1)) h fa_X10_7 lm_0 dX10_monthGoes_84 rfl ?_
    refine jx_sipush h dX10_monthGoes_87 ks_144 ?_
    refine jx_iaload h lm_1 dX10_monthGoes_90 ?_
    refine jx_iload_n h dX10_monthGoes_91 rfl 1 rfl ?_
    refine jx_callSi [] h (c_X10_has hG N (gi s0 1 (ix (144 : Int32))) x1 s0) ml_X10_138 (Nat.le_of_ble_eq_true rfl) (Nat.le_of_ble_eq_true rfl) dX10_monthGoes_92 (Nat.le_of_ble_eq_true rfl) rfl (fun r18 s17 => ?_)
    refine jx_if_eq (tgt := 174) h dX10_monthGoes_95 rfl ?_ ?_
    · refine jx_iincl (L := fun w => [(1, .int w), (0, .ref (Ga G 0))]) h dX10_monthGoes_174 1 rfl (kn_1 _) (Nat.le_of_ble_eq_true rfl) (fun _ => rfl) (fun x1_19 => ?_)
      refine jx_goto (tgt := 77) h dX10_monthGoes_177 rfl ?_
      exact jx_subk [1, 0] h (ih x1_19 s17) rfl
    · refine jx_aload_n h dX10_monthGoes_98 rfl 0 rfl ?_
      refine jx_get (v := .ref (Ga G 1)) h fa_X10_7 lm_0 dX10_monthGoes_99 rfl ?_
      refine jx_sipush h dX10_monthGoes_102 ks_138 ?_
      refine jx_iload_n h dX10_monthGoes_105 rfl 1 rfl ?_
      refine jx_iadd h dX10_monthGoes_106 ?_
      refine jx_iaload h lm_1 dX10_monthGoes_107 ?_
      refine jx_aload_n h dX10_monthGoes_108 rfl 0 rfl ?_
      refine jx_get (v := .ref (Ga G 1)) h fa_X10_7 lm_0 dX10_monthGoes_109 rfl ?_
      refine jx_sipush h dX10_monthGoes_112 ks_132 ?_
      refine jx_iload_n h dX10_monthGoes_115 rfl 1 rfl ?_
      refine jx_iadd h dX10_monthGoes_116 ?_
      refine jx_iaload h lm_1 dX10_monthGoes_117 ?_
      refine jx_icmp_ge (tgt := 124) h dX10_monthGoes_118 rfl ?_ ?_
      · refine jx_aload_n h dX10_monthGoes_124 rfl 0 rfl ?_
        refine jx_get (v := .ref (Ga G 1)) h fa_X10_7 lm_0 dX10_monthGoes_125 rfl ?_
        refine jx_sipush h dX10_monthGoes_128 ks_144 ?_
        refine jx_aload_n h dX10_monthGoes_131 rfl 0 rfl ?_
        refine jx_get (v := .ref (Ga G 1)) h fa_X10_7 lm_0 dX10_monthGoes_132 rfl ?_
        refine jx_sipush h dX10_monthGoes_135 ks_144 ?_
        refine jx_iaload h lm_1 dX10_monthGoes_138 ?_
        refine jx_iconst h dX10_monthGoes_139 ki_1 ?_
        refine jx_iload_n h dX10_monthGoes_140 rfl 1 rfl ?_
        refine jx_ishl h dX10_monthGoes_141 ?_
        refine jx_iconst h dX10_monthGoes_142 ki_m1 ?_
        refine jx_ixor h dX10_monthGoes_143 ?_
        refine jx_iand h dX10_monthGoes_144 ?_
        refine jx_iastore h lm_1 dX10_monthGoes_145 (fun s20 => ?_)
        refine jx_aload_n h dX10_monthGoes_146 rfl 0 rfl ?_
        refine jx_get (v := .ref (Ga G 1)) h fa_X10_7 lm_0 dX10_monthGoes_147 rfl ?_
        refine jx_sipush h dX10_monthGoes_150 ks_148 ?_
        refine jx_aload_n h dX10_monthGoes_153 rfl 0 rfl ?_
        refine jx_get (v := .ref (Ga G 1)) h fa_X10_7 lm_0 dX10_monthGoes_154 rfl ?_
        refine jx_sipush h dX10_monthGoes_157 ks_148 ?_
        refine jx_iaload h lm_1 dX10_monthGoes_160 ?_
        refine jx_iconst h dX10_monthGoes_161 ki_1 ?_
        refine jx_iadd h dX10_monthGoes_162 ?_
        refine jx_iastore h lm_1 dX10_monthGoes_163 (fun s21 => ?_)
        refine jx_aload_n h dX10_monthGoes_164 rfl 0 rfl ?_
        refine jx_aload_n h dX10_monthGoes_165 rfl 0 rfl ?_
        refine jx_get (v := .int (gi s21 0 36)) h fa_X10_323 lm_0 dX10_monthGoes_166 rfl ?_
        refine jx_iconst h dX10_monthGoes_169 ki_1 ?_
        refine jx_iadd h dX10_monthGoes_170 ?_
        refine jx_put h fa_X10_323 fp_X10_36 lm_0 rfl rfl dX10_monthGoes_171 (fu_X10_36 _ _ _ _) (fun s22 => ?_)
        refine jx_iincl (L := fun w => [(1, .int w), (0, .ref (Ga G 0))]) h dX10_monthGoes_174 1 rfl (kn_1 _) (Nat.le_of_ble_eq_true rfl) (fun _ => rfl) (fun x1_23 => ?_)
        refine jx_goto (tgt := 77) h dX10_monthGoes_177 rfl ?_
        exact jx_subk [1, 0] h (ih x1_23 s22) rfl
      · refine jx_goto (tgt := 174) h dX10_monthGoes_121 rfl ?_
        refine jx_iincl (L := fun w => [(1, .int w), (0, .ref (Ga G 0))]) h dX10_monthGoes_174 1 rfl (kn_1 _) (Nat.le_of_ble_eq_true rfl) (fun _ => rfl) (fun x1_24 => ?_)
        refine jx_goto (tgt := 77) h dX10_monthGoes_177 rfl ?_
        exact jx_subk [1, 0] h (ih x1_24 s17) rfl
set_option maxRecDepth 20000 in
theorem c_X10_monthGoes {G : Gx} (hG : Gok G ∧ IsG G layM fsoM) (N : Nat)  (s : Mem) : Ct G yX10_monthGoes cX10_monthGoes 2 none 5 [.ref (Ga G 0)] tvV s (f_X10_monthGoes N s) := by
  refine Ct.of hG (by decide) (Nat.le_of_ble_eq_true rfl) (fun P h => ?_)
  show P _ 0 [(0, .ref (Ga G 0))] [] s
  unfold f_X10_monthGoes
  refine jx_iconst h dX10_monthGoes_0 ki_0 ?_
  refine jx_istore_n (lv' := [(1, .int 0), (0, .ref (Ga G 0))]) h dX10_monthGoes_1 rfl (Nat.le_of_ble_eq_true rfl) rfl ?_
  refine jx_subk [1, 0] h (itr_ind (Q := (fun (f : Int32 → Mem → Option (Unit × Mem)) => ∀ (x1 : Int32) (s : Mem), P (f x1 s) 2 [(0, .ref (Ga G 0)), (1, .int x1)] [] s)) (fun _ _ => jx_none h) (fun r2 ih2 => ?_) N 0 s) rfl
  refine w_X10_monthGoes_2 hG h N  ?_ ih2
  intro s7
  refine jx_iconst h dX10_monthGoes_43 ki_0 ?_
  refine jx_istore_n (lv' := [(1, .int 0), (0, .ref (Ga G 0))]) h dX10_monthGoes_44 rfl (Nat.le_of_ble_eq_true rfl) rfl ?_
  refine jx_subk [1, 0] h (itr_ind (Q := (fun (f : Int32 → Mem → Option (Unit × Mem)) => ∀ (x1 : Int32) (s : Mem), P (f x1 s) 45 [(0, .ref (Ga G 0)), (1, .int x1)] [] s)) (fun _ _ => jx_none h) (fun r45 ih45 => ?_) N 0 s7) rfl
  refine w_X10_monthGoes_45 hG h N  ?_ ih45
  intro s16
  refine jx_iconst h dX10_monthGoes_75 ki_0 ?_
  refine jx_istore_n (lv' := [(1, .int 0), (0, .ref (Ga G 0))]) h dX10_monthGoes_76 rfl (Nat.le_of_ble_eq_true rfl) rfl ?_
  refine jx_subk [1, 0] h (itr_ind (Q := (fun (f : Int32 → Mem → Option (Unit × Mem)) => ∀ (x1 : Int32) (s : Mem), P (f x1 s) 77 [(0, .ref (Ga G 0)), (1, .int x1)] [] s)) (fun _ _ => jx_none h) (fun r77 ih77 => ?_) N 0 s16) rfl
  refine w_X10_monthGoes_77 hG h N  ?_ ih77
  intro s25
  refine jx_aload_n h dX10_monthGoes_180 rfl 0 rfl ?_
  refine jx_get (v := .ref (Ga G 1)) h fa_X10_7 lm_0 dX10_monthGoes_181 rfl ?_
  refine jx_sipush h dX10_monthGoes_184 ks_147 ?_
  refine jx_aload_n h dX10_monthGoes_187 rfl 0 rfl ?_
  refine jx_get (v := .ref (Ga G 1)) h fa_X10_7 lm_0 dX10_monthGoes_188 rfl ?_
  refine jx_sipush h dX10_monthGoes_191 ks_147 ?_
  refine jx_iaload h lm_1 dX10_monthGoes_194 ?_
  refine jx_iconst h dX10_monthGoes_195 ki_1 ?_
  refine jx_iadd h dX10_monthGoes_196 ?_
  refine jx_iastore h lm_1 dX10_monthGoes_197 (fun s26 => ?_)
  exact jx_vret h dX10_monthGoes_198
noncomputable def st_X10_monthsGo_17 (N : Nat) (x1 : Int32)  (rec : Int32 → Mem → Option (Unit × Mem)) (x2 : Int32) (s0 : Mem) : Option (Unit × Mem) :=
  if x1 ≤ x2 then (some ((), s0)) else chk 147 151 (if 9999 ≤ (gi s0 1 (ix (147 : Int32))) then (some ((), s0)) else bd (f_X10_monthGoes N s0) (fun _ s4 => lt (x2 + 1) (fun x2_6 => rec x2_6 s4)))
noncomputable def f_X10_monthsGo (N : Nat) (x1 : Int32) (s : Mem) : Option (Unit × Mem) :=
  lt (si s 0 34 0) (fun s1 => lt (si s1 0 35 0) (fun s2 => lt (si s2 0 36 0) (fun s3 => itr (fun _ _ => none) (st_X10_monthsGo_17 N x1) N 0 s3)))
set_option maxRecDepth 20000 in
theorem w_X10_monthsGo_17 {G : Gx} (hG : Gok G ∧ IsG G layM fsoM) {P : Option (Unit × Mem) → Nat → List (Nat × Value) → List Value → Mem → Prop} (h : Jk G layM fsoM RX10 cX10_monthsGo 3 none 6 tvV P) (N : Nat) (x1 : Int32) {rec : Int32 → Mem → Option (Unit × Mem)} (ih : ∀ (x2 : Int32) (s : Mem), P (rec x2 s) 17 [(0, .ref (Ga G 0)), (1, .int x1), (2, .int x2)] [] s) : ∀ (x2 : Int32) (s : Mem), P (st_X10_monthsGo_17 N x1 rec x2 s) 17 [(0, .ref (Ga G 0)), (1, .int x1), (2, .int x2)] [] s := by
  intro x2 s0
  unfold st_X10_monthsGo_17
  refine jx_iload_n h dX10_monthsGo_17 rfl 2 rfl ?_
  refine jx_iload_n h dX10_monthsGo_18 rfl 1 rfl ?_
  refine jx_icmp_ge (tgt := 46) h dX10_monthsGo_19 rfl ?_ ?_
  · exact jx_vret h dX10_monthsGo_46
  · refine jx_aload_n h dX10_monthsGo_22 rfl 0 rfl ?_
    refine jx_get (v := .ref (Ga G 1)) h fa_X10_7 lm_0 dX10_monthsGo_23 rfl ?_
    refine jx_sipush h dX10_monthsGo_26 ks_147 ?_
    refine jx_iaload h lm_1 dX10_monthsGo_29 ?_
    refine jx_sipush h dX10_monthsGo_30 ks_9999 ?_
    refine jx_icmp_ge (tgt := 46) h dX10_monthsGo_33 rfl ?_ ?_
    · exact jx_vret h dX10_monthsGo_46
    · refine jx_aload_n h dX10_monthsGo_36 rfl 0 rfl ?_
      refine jx_callVv [] h lm_0 (c_X10_monthGoes hG N  s0) ml_X10_326 (Nat.le_of_ble_eq_true rfl) (Nat.le_of_ble_eq_true rfl) dX10_monthsGo_37 (Nat.le_of_ble_eq_true rfl) rfl (fun s4 => ?_)
      refine jx_iincl (L := fun w => [(2, .int w), (0, .ref (Ga G 0)), (1, .int x1)]) h dX10_monthsGo_40 2 rfl (kn_1 _) (Nat.le_of_ble_eq_true rfl) (fun _ => rfl) (fun x2_6 => ?_)
      refine jx_goto (tgt := 17) h dX10_monthsGo_43 rfl ?_
      exact jx_subk [1, 2, 0] h (ih x2_6 s4) rfl
set_option maxRecDepth 20000 in
theorem c_X10_monthsGo {G : Gx} (hG : Gok G ∧ IsG G layM fsoM) (N : Nat) (x1 : Int32) (s : Mem) : Ct G yX10_monthsGo cX10_monthsGo 3 none 6 [.ref (Ga G 0), .int x1] tvV s (f_X10_monthsGo N x1 s) := by
  refine Ct.of hG (by decide) (Nat.le_of_ble_eq_true rfl) (fun P h => ?_)
  show P _ 0 [(0, .ref (Ga G 0)), (1, .int x1)] [] s
  unfold f_X10_monthsGo
  refine jx_aload_n h dX10_monthsGo_0 rfl 0 rfl ?_
  refine jx_iconst h dX10_monthsGo_1 ki_0 ?_
  refine jx_put h fa_X10_311 fp_X10_34 lm_0 rfl rfl dX10_monthsGo_2 (fu_X10_34 _ _ _ _) (fun s1 => ?_)
  refine jx_aload_n h dX10_monthsGo_5 rfl 0 rfl ?_
  refine jx_iconst h dX10_monthsGo_6 ki_0 ?_
  refine jx_put h fa_X10_308 fp_X10_35 lm_0 rfl rfl dX10_monthsGo_7 (fu_X10_35 _ _ _ _) (fun s2 => ?_)
  refine jx_aload_n h dX10_monthsGo_10 rfl 0 rfl ?_
  refine jx_iconst h dX10_monthsGo_11 ki_0 ?_
  refine jx_put h fa_X10_323 fp_X10_36 lm_0 rfl rfl dX10_monthsGo_12 (fu_X10_36 _ _ _ _) (fun s3 => ?_)
  refine jx_iconst h dX10_monthsGo_15 ki_0 ?_
  refine jx_istore_n (lv' := [(2, .int 0), (0, .ref (Ga G 0)), (1, .int x1)]) h dX10_monthsGo_16 rfl (Nat.le_of_ble_eq_true rfl) rfl ?_
  refine jx_subk [1, 2, 0] h (itr_ind (Q := (fun (f : Int32 → Mem → Option (Unit × Mem)) => ∀ (x2 : Int32) (s : Mem), P (f x2 s) 17 [(0, .ref (Ga G 0)), (1, .int x1), (2, .int x2)] [] s)) (fun _ _ => jx_none h) (fun r17 ih17 => ?_) N 0 s3) rfl
  refine w_X10_monthsGo_17 hG h N x1  ih17
noncomputable def f_X10_months (N : Nat) (x1 : Int32) (s : Mem) : Option (Int32 × Mem) :=
  bd (f_X10_in N x1 1 60 s) (fun r2 s1 => if r2 = 0 then (some ((-1), s1)) else bd (f_X10_monthsGo N x1 s1) (fun _ s3 => some (gi s3 0 34, s3)))
set_option maxRecDepth 20000 in
theorem c_X10_months {G : Gx} (hG : Gok G ∧ IsG G layM fsoM) (N : Nat) (x1 : Int32) (s : Mem) : Ct G yX10_months cX10_months 2 (some .int) 7 [.ref (Ga G 0), .int x1] tvI s (f_X10_months N x1 s) := by
  refine Ct.of hG (by decide) (Nat.le_of_ble_eq_true rfl) (fun P h => ?_)
  show P _ 0 [(0, .ref (Ga G 0)), (1, .int x1)] [] s
  unfold f_X10_months
  refine jx_iload_n h dX10_months_0 rfl 1 rfl ?_
  refine jx_iconst h dX10_months_1 ki_1 ?_
  refine jx_bipush h dX10_months_2 kb_60 ?_
  refine jx_callSi [] h (c_X10_in hG N x1 1 60 s) ml_X10_134 (Nat.le_of_ble_eq_true rfl) (Nat.le_of_ble_eq_true rfl) dX10_months_4 (Nat.le_of_ble_eq_true rfl) rfl (fun r2 s1 => ?_)
  refine jx_if_ne (tgt := 12) h dX10_months_7 rfl ?_ ?_
  · refine jx_aload_n h dX10_months_12 rfl 0 rfl ?_
    refine jx_iload_n h dX10_months_13 rfl 1 rfl ?_
    refine jx_callVv [] h lm_0 (c_X10_monthsGo hG N x1 s1) ml_X10_329 (Nat.le_of_ble_eq_true rfl) (Nat.le_of_ble_eq_true rfl) dX10_months_14 (Nat.le_of_ble_eq_true rfl) rfl (fun s3 => ?_)
    refine jx_aload_n h dX10_months_17 rfl 0 rfl ?_
    refine jx_get (v := .int (gi s3 0 34)) h fa_X10_311 lm_0 dX10_months_18 rfl ?_
    exact jx_iret h dX10_months_21
  · refine jx_iconst h dX10_months_10 ki_m1 ?_
    exact jx_iret h dX10_months_11
noncomputable def f_X10_tried (N : Nat) (x1 : Int32) (x2 : Int32) (s : Mem) : Option (Int32 × Mem) :=
  bd (f_X10_in N x1 1 60 s) (fun r2 s1 => if r2 = 0 then (some ((-1), s1)) else bd (f_X10_in N x2 0 3 s1) (fun r4 s3 => lt (fun  (s5 : Mem) => bd (f_X10_copies N 1 2 s5) (fun _ s6 => bd (f_X10_monthsGo N x1 s6) (fun _ s8 => lt (fun (t11 : Int32) (s10 : Mem) => bd (f_X10_copies N 2 1 s10) (fun _ s12 => some (t11, s12))) (fun j132 => if x2 = 0 then (j132 (gi s8 0 34) s8) else if x2 = 1 then (j132 (gi s8 0 35) s8) else if x2 = 2 then (chk 149 151 (chk 149 151 (j132 ((gi s8 1 (ix (149 : Int32))) - (gi s8 2 (ix (149 : Int32)))) s8))) else if x2 = 3 then (j132 (gi s8 0 36) s8) else chk (((138 : Int32) + x2) - 10) 151 (j132 (gi s8 1 (ix (((138 : Int32) + x2) - 10))) s8))))) (fun j43 => if r4 = 0 then (bd (f_X10_in N x2 10 15 s3) (fun r15 s14 => if r15 = 0 then (some ((-1), s14)) else bd (f_X10_isLetter N (x2 - 10) s14) (fun r17 s16 => if r17 = 0 then (some ((-1), s16)) else j43 s16))) else j43 s3)))
set_option maxRecDepth 20000 in
theorem c_X10_tried {G : Gx} (hG : Gok G ∧ IsG G layM fsoM) (N : Nat) (x1 : Int32) (x2 : Int32) (s : Mem) : Ct G yX10_tried cX10_tried 4 (some .int) 7 [.ref (Ga G 0), .int x1, .int x2] tvI s (f_X10_tried N x1 x2 s) := by
  refine Ct.of hG (by decide) (Nat.le_of_ble_eq_true rfl) (fun P h => ?_)
  show P _ 0 [(0, .ref (Ga G 0)), (1, .int x1), (2, .int x2)] [] s
  unfold f_X10_tried
  refine jx_iload_n h dX10_tried_0 rfl 1 rfl ?_
  refine jx_iconst h dX10_tried_1 ki_1 ?_
  refine jx_bipush h dX10_tried_2 kb_60 ?_
  refine jx_callSi [] h (c_X10_in hG N x1 1 60 s) ml_X10_134 (Nat.le_of_ble_eq_true rfl) (Nat.le_of_ble_eq_true rfl) dX10_tried_4 (Nat.le_of_ble_eq_true rfl) rfl (fun r2 s1 => ?_)
  refine jx_if_eq (tgt := 41) h dX10_tried_7 rfl ?_ ?_
  · refine jx_iconst h dX10_tried_41 ki_m1 ?_
    exact jx_iret h dX10_tried_42
  · refine jx_iload_n h dX10_tried_10 rfl 2 rfl ?_
    refine jx_iconst h dX10_tried_11 ki_0 ?_
    refine jx_iconst h dX10_tried_12 ki_3 ?_
    refine jx_callSi [] h (c_X10_in hG N x2 0 3 s1) ml_X10_134 (Nat.le_of_ble_eq_true rfl) (Nat.le_of_ble_eq_true rfl) dX10_tried_13 (Nat.le_of_ble_eq_true rfl) rfl (fun r4 s3 => ?_)
    refine jx_join (fun (j : Mem → Option (Int32 × Mem)) => ∀  (s5 : Mem), P (j  s5) 43 [(0, .ref (Ga G 0)), (1, .int x1), (2, .int x2)] [] s5) (fun  s5 => ?_) (fun j43 hj43 => ?_)
    · refine jx_aload_n h dX10_tried_43 rfl 0 rfl ?_
      refine jx_get (v := .ref (Ga G 1)) h fa_X10_7 lm_0 dX10_tried_44 rfl ?_
      refine jx_aload_n h dX10_tried_47 rfl 0 rfl ?_
      refine jx_get (v := .ref (Ga G 2)) h fa_X10_13 lm_0 dX10_tried_48 rfl ?_
      refine jx_callSv [] h (c_X10_copies hG N 1 rfl 2 rfl s5) ml_X10_332 (Nat.le_of_ble_eq_true rfl) (Nat.le_of_ble_eq_true rfl) dX10_tried_51 (Nat.le_of_ble_eq_true rfl) rfl (fun s6 => ?_)
      refine jx_aload_n h dX10_tried_54 rfl 0 rfl ?_
      refine jx_iload_n h dX10_tried_55 rfl 1 rfl ?_
      refine jx_callVv [] h lm_0 (c_X10_monthsGo hG N x1 s6) ml_X10_329 (Nat.le_of_ble_eq_true rfl) (Nat.le_of_ble_eq_true rfl) dX10_tried_56 (Nat.le_of_ble_eq_true rfl) rfl (fun s8 => ?_)
      refine jx_iload_n h dX10_tried_59 rfl 2 rfl ?_
      refine jx_join (fun (j : Int32 → Mem → Option (Int32 × Mem)) => ∀ (t11 : Int32) (s10 : Mem), P (j t11 s10) 132 [(0, .ref (Ga G 0))] [.int t11] s10) (fun t11 s10 => ?_) (fun j132 hj132 => ?_)
      · refine jx_istore_n (lv' := [(3, .int t11), (0, .ref (Ga G 0))]) h dX10_tried_132 rfl (Nat.le_of_ble_eq_true rfl) rfl ?_
        refine jx_aload_n h dX10_tried_133 rfl 1 rfl ?_
        refine jx_get (v := .ref (Ga G 2)) h fa_X10_13 lm_0 dX10_tried_134 rfl ?_
        refine jx_aload_n h dX10_tried_137 rfl 1 rfl ?_
        refine jx_get (v := .ref (Ga G 1)) h fa_X10_7 lm_0 dX10_tried_138 rfl ?_
        refine jx_callSv [] h (c_X10_copies hG N 2 rfl 1 rfl s10) ml_X10_332 (Nat.le_of_ble_eq_true rfl) (Nat.le_of_ble_eq_true rfl) dX10_tried_141 (Nat.le_of_ble_eq_true rfl) rfl (fun s12 => ?_)
        refine jx_iload_n h dX10_tried_144 rfl 0 rfl ?_
        exact jx_iret h dX10_tried_145
      · refine jx_if_ne (tgt := 70) h dX10_tried_60 rfl ?_ ?_
        · refine jx_iload_n h dX10_tried_70 rfl 2 rfl ?_
          refine jx_iconst h dX10_tried_71 ki_1 ?_
          refine jx_icmp_ne (tgt := 82) h dX10_tried_72 rfl ?_ ?_
          · refine jx_iload_n h dX10_tried_82 rfl 2 rfl ?_
            refine jx_iconst h dX10_tried_83 ki_2 ?_
            refine jx_icmp_ne (tgt := 107) h dX10_tried_84 rfl ?_ ?_
            · refine jx_iload_n h dX10_tried_107 rfl 2 rfl ?_
              refine jx_iconst h dX10_tried_108 ki_3 ?_
              refine jx_icmp_ne (tgt := 119) h dX10_tried_109 rfl ?_ ?_
              · refine jx_aload_n h dX10_tried_119 rfl 0 rfl ?_
                refine jx_get (v := .ref (Ga G 1)) h fa_X10_7 lm_0 dX10_tried_120 rfl ?_
                refine jx_sipush h dX10_tried_123 ks_138 ?_
                refine jx_iload_n h dX10_tried_126 rfl 2 rfl ?_
                refine jx_iadd h dX10_tried_127 ?_
                refine jx_bipush h dX10_tried_128 kb_10 ?_
                refine jx_isub h dX10_tried_130 ?_
                refine jx_iaload h lm_1 dX10_tried_131 ?_
                exact jx_subk [0] h (hj132 (gi s8 1 (ix (((138 : Int32) + x2) - 10))) s8) rfl
              · refine jx_aload_n h dX10_tried_112 rfl 0 rfl ?_
                refine jx_get (v := .int (gi s8 0 36)) h fa_X10_323 lm_0 dX10_tried_113 rfl ?_
                refine jx_goto (tgt := 132) h dX10_tried_116 rfl ?_
                exact jx_subk [0] h (hj132 (gi s8 0 36) s8) rfl
            · refine jx_aload_n h dX10_tried_87 rfl 0 rfl ?_
              refine jx_get (v := .ref (Ga G 1)) h fa_X10_7 lm_0 dX10_tried_88 rfl ?_
              refine jx_sipush h dX10_tried_91 ks_149 ?_
              refine jx_iaload h lm_1 dX10_tried_94 ?_
              refine jx_aload_n h dX10_tried_95 rfl 0 rfl ?_
              refine jx_get (v := .ref (Ga G 2)) h fa_X10_13 lm_0 dX10_tried_96 rfl ?_
              refine jx_sipush h dX10_tried_99 ks_149 ?_
              refine jx_iaload h lm_2 dX10_tried_102 ?_
              refine jx_isub h dX10_tried_103 ?_
              refine jx_goto (tgt := 132) h dX10_tried_104 rfl ?_
              exact jx_subk [0] h (hj132 ((gi s8 1 (ix (149 : Int32))) - (gi s8 2 (ix (149 : Int32)))) s8) rfl
          · refine jx_aload_n h dX10_tried_75 rfl 0 rfl ?_
            refine jx_get (v := .int (gi s8 0 35)) h fa_X10_308 lm_0 dX10_tried_76 rfl ?_
            refine jx_goto (tgt := 132) h dX10_tried_79 rfl ?_
            exact jx_subk [0] h (hj132 (gi s8 0 35) s8) rfl
        · refine jx_aload_n h dX10_tried_63 rfl 0 rfl ?_
          refine jx_get (v := .int (gi s8 0 34)) h fa_X10_311 lm_0 dX10_tried_64 rfl ?_
          refine jx_goto (tgt := 132) h dX10_tried_67 rfl ?_
          exact jx_subk [0] h (hj132 (gi s8 0 34) s8) rfl
    · refine jx_if_ne (tgt := 43) h dX10_tried_16 rfl ?_ ?_
      · exact hj43 s3
      · refine jx_iload_n h dX10_tried_19 rfl 2 rfl ?_
        refine jx_bipush h dX10_tried_20 kb_10 ?_
        refine jx_bipush h dX10_tried_22 kb_15 ?_
        refine jx_callSi [] h (c_X10_in hG N x2 10 15 s3) ml_X10_134 (Nat.le_of_ble_eq_true rfl) (Nat.le_of_ble_eq_true rfl) dX10_tried_24 (Nat.le_of_ble_eq_true rfl) rfl (fun r15 s14 => ?_)
        refine jx_if_eq (tgt := 41) h dX10_tried_27 rfl ?_ ?_
        · refine jx_iconst h dX10_tried_41 ki_m1 ?_
          exact jx_iret h dX10_tried_42
        · refine jx_aload_n h dX10_tried_30 rfl 0 rfl ?_
          refine jx_iload_n h dX10_tried_31 rfl 2 rfl ?_
          refine jx_bipush h dX10_tried_32 kb_10 ?_
          refine jx_isub h dX10_tried_34 ?_
          refine jx_callVi [] h lm_0 (c_X10_isLetter hG N (x2 - 10) s14) ml_X10_264 (Nat.le_of_ble_eq_true rfl) (Nat.le_of_ble_eq_true rfl) dX10_tried_35 (Nat.le_of_ble_eq_true rfl) rfl (fun r17 s16 => ?_)
          refine jx_if_ne (tgt := 43) h dX10_tried_38 rfl ?_ ?_
          · exact hj43 s16
          · refine jx_iconst h dX10_tried_41 ki_m1 ?_
            exact jx_iret h dX10_tried_42
noncomputable def st_X10_knownSet_4 (N : Nat) (x1 : Int32)  (rec : Int32 → Int32 → Mem → Option (Int32 × Mem)) (x2 : Int32) (x3 : Int32) (s0 : Mem) : Option (Int32 × Mem) :=
  if 12 ≤ x3 then (some (x2, s0)) else bd (f_X10_isKnown N x1 x3 s0) (fun r2 s1 => if r2 = 0 then (lt (x2 ||| 0) (fun v3 => lt (x3 + 1) (fun x3_4 => rec v3 x3_4 s1))) else lt (x2 ||| ((1 : Int32) <<< (x3 &&& 31))) (fun v5 => lt (x3 + 1) (fun x3_6 => rec v5 x3_6 s1)))
noncomputable def f_X10_knownSet (N : Nat) (x1 : Int32) (s : Mem) : Option (Int32 × Mem) :=
  itr (fun _ _ _ => none) (st_X10_knownSet_4 N x1) N 0 0 s
set_option maxRecDepth 20000 in
theorem w_X10_knownSet_4 {G : Gx} (hG : Gok G ∧ IsG G layM fsoM) {P : Option (Int32 × Mem) → Nat → List (Nat × Value) → List Value → Mem → Prop} (h : Jk G layM fsoM RX10 cX10_knownSet 4 (some .int) 2 tvI P) (N : Nat) (x1 : Int32) {rec : Int32 → Int32 → Mem → Option (Int32 × Mem)} (ih : ∀ (x2 : Int32) (x3 : Int32) (s : Mem), P (rec x2 x3 s) 4 [(0, .ref (Ga G 0)), (1, .int x1), (2, .int x2), (3, .int x3)] [] s) : ∀ (x2 : Int32) (x3 : Int32) (s : Mem), P (st_X10_knownSet_4 N x1 rec x2 x3 s) 4 [(0, .ref (Ga G 0)), (1, .int x1), (2, .int x2), (3, .int x3)] [] s := by
  intro x2 x3 s0
  unfold st_X10_knownSet_4
  refine jx_iload_n h dX10_knownSet_4 rfl 3 rfl ?_
  refine jx_bipush h dX10_knownSet_5 kb_12 ?_
  refine jx_icmp_ge (tgt := 35) h dX10_knownSet_7 rfl ?_ ?_
  · refine jx_iload_n h dX10_knownSet_35 rfl 2 rfl ?_
    exact jx_iret h dX10_knownSet_36
  · refine jx_iload_n h dX10_knownSet_10 rfl 2 rfl ?_
    refine jx_aload_n h dX10_knownSet_11 rfl 0 rfl ?_
    refine jx_iload_n h dX10_knownSet_12 rfl 1 rfl ?_
    refine jx_iload_n h dX10_knownSet_13 rfl 3 rfl ?_
    refine jx_callVi [.int x2] h lm_0 (c_X10_isKnown hG N x1 x3 s0) ml_X10_284 (Nat.le_of_ble_eq_true rfl) (Nat.le_of_ble_eq_true rfl) dX10_knownSet_14 (Nat.le_of_ble_eq_true rfl) rfl (fun r2 s1 => ?_)
    refine jx_if_eq (tgt := 26) h dX10_knownSet_17 rfl ?_ ?_
    · refine jx_iconst h dX10_knownSet_26 ki_0 ?_
      refine jx_ior h dX10_knownSet_27 ?_
      refine jx_lti (fun v3 => ?_)
      refine jx_istore_n (lv' := [(2, .int v3), (0, .ref (Ga G 0)), (1, .int x1), (3, .int x3)]) h dX10_knownSet_28 rfl (Nat.le_of_ble_eq_true rfl) rfl ?_
      refine jx_iincl (L := fun w => [(3, .int w), (2, .int v3), (0, .ref (Ga G 0)), (1, .int x1)]) h dX10_knownSet_29 3 rfl (kn_1 _) (Nat.le_of_ble_eq_true rfl) (fun _ => rfl) (fun x3_4 => ?_)
      refine jx_goto (tgt := 4) h dX10_knownSet_32 rfl ?_
      exact jx_subk [2, 3, 1, 0] h (ih v3 x3_4 s1) rfl
    · refine jx_iconst h dX10_knownSet_20 ki_1 ?_
      refine jx_iload_n h dX10_knownSet_21 rfl 3 rfl ?_
      refine jx_ishl h dX10_knownSet_22 ?_
      refine jx_goto (tgt := 27) h dX10_knownSet_23 rfl ?_
      refine jx_ior h dX10_knownSet_27 ?_
      refine jx_lti (fun v5 => ?_)
      refine jx_istore_n (lv' := [(2, .int v5), (0, .ref (Ga G 0)), (1, .int x1), (3, .int x3)]) h dX10_knownSet_28 rfl (Nat.le_of_ble_eq_true rfl) rfl ?_
      refine jx_iincl (L := fun w => [(3, .int w), (2, .int v5), (0, .ref (Ga G 0)), (1, .int x1)]) h dX10_knownSet_29 3 rfl (kn_1 _) (Nat.le_of_ble_eq_true rfl) (fun _ => rfl) (fun x3_6 => ?_)
      refine jx_goto (tgt := 4) h dX10_knownSet_32 rfl ?_
      exact jx_subk [2, 3, 1, 0] h (ih v5 x3_6 s1) rfl
set_option maxRecDepth 20000 in
theorem c_X10_knownSet {G : Gx} (hG : Gok G ∧ IsG G layM fsoM) (N : Nat) (x1 : Int32) (s : Mem) : Ct G yX10_knownSet cX10_knownSet 4 (some .int) 2 [.ref (Ga G 0), .int x1] tvI s (f_X10_knownSet N x1 s) := by
  refine Ct.of hG (by decide) (Nat.le_of_ble_eq_true rfl) (fun P h => ?_)
  show P _ 0 [(0, .ref (Ga G 0)), (1, .int x1)] [] s
  unfold f_X10_knownSet
  refine jx_iconst h dX10_knownSet_0 ki_0 ?_
  refine jx_istore_n (lv' := [(2, .int 0), (0, .ref (Ga G 0)), (1, .int x1)]) h dX10_knownSet_1 rfl (Nat.le_of_ble_eq_true rfl) rfl ?_
  refine jx_iconst h dX10_knownSet_2 ki_0 ?_
  refine jx_istore_n (lv' := [(3, .int 0), (2, .int 0), (0, .ref (Ga G 0)), (1, .int x1)]) h dX10_knownSet_3 rfl (Nat.le_of_ble_eq_true rfl) rfl ?_
  refine jx_subk [2, 3, 1, 0] h (itr_ind (Q := (fun (f : Int32 → Int32 → Mem → Option (Int32 × Mem)) => ∀ (x2 : Int32) (x3 : Int32) (s : Mem), P (f x2 x3 s) 4 [(0, .ref (Ga G 0)), (1, .int x1), (2, .int x2), (3, .int x3)] [] s)) (fun _ _ _ => jx_none h) (fun r4 ih4 => ?_) N 0 0 s) rfl
  refine w_X10_knownSet_4 hG h N x1  ih4
noncomputable def st_X10_parishIs_50 (N : Nat) (x1 : Int32) (x2 : Int32)  (rec : Int32 → Int32 → Mem → Option (Int32 × Mem)) (x3 : Int32) (x4 : Int32) (s0 : Mem) : Option (Int32 × Mem) :=
  if 6 ≤ x4 then (some (x3, s0)) else lt (fun (t6 : Int32) (s5 : Mem) => bd (f_X10_isLetter N x4 s5) (fun r8 s7 => if r8 = 0 then (lt (x4 + 1) (fun x4_9 => rec x3 x4_9 s7)) else if t6 = 0 then (lt (x4 + 1) (fun x4_10 => rec x3 x4_10 s7)) else lt (x3 ||| ((1 : Int32) <<< (x4 &&& 31))) (fun v11 => lt (x4 + 1) (fun x4_12 => rec v11 x4_12 s7)))) (fun j86 => if x2 = 2 then (bd (f_X10_isKnown N x4 x1 s0) (fun r16 s15 => j86 r16 s15)) else chk ((84 : Int32) + x4) 151 (bd (f_X10_has N (gi s0 1 (ix ((84 : Int32) + x4))) x1 s0) (fun r14 s13 => j86 r14 s13)))
noncomputable def f_X10_parishIs (N : Nat) (x1 : Int32) (x2 : Int32) (s : Mem) : Option (Int32 × Mem) :=
  bd (f_X10_isParish N x1 s) (fun r2 s1 => if r2 = 0 then (some ((-1), s1)) else bd (f_X10_in N x2 0 3 s1) (fun r4 s3 => if r4 = 0 then (some ((-1), s3)) else if 2 ≤ x2 then (itr (fun _ _ _ => none) (st_X10_parishIs_50 N x1 x2) N 0 0 s3) else if x2 = 0 then (chk ((0 : Int32) + x1) 151 (some (gi s3 1 (ix ((0 : Int32) + x1)), s3))) else bd (f_X10_tired N x1 s3) (fun r18 s17 => some (r18, s17))))
set_option maxRecDepth 20000 in
theorem w_X10_parishIs_50 {G : Gx} (hG : Gok G ∧ IsG G layM fsoM) {P : Option (Int32 × Mem) → Nat → List (Nat × Value) → List Value → Mem → Prop} (h : Jk G layM fsoM RX10 cX10_parishIs 6 (some .int) 2 tvI P) (N : Nat) (x1 : Int32) (x2 : Int32) {rec : Int32 → Int32 → Mem → Option (Int32 × Mem)} (ih : ∀ (x3 : Int32) (x4 : Int32) (s : Mem), P (rec x3 x4 s) 50 [(0, .ref (Ga G 0)), (1, .int x1), (2, .int x2), (3, .int x3), (4, .int x4)] [] s) : ∀ (x3 : Int32) (x4 : Int32) (s : Mem), P (st_X10_parishIs_50 N x1 x2 rec x3 x4 s) 50 [(0, .ref (Ga G 0)), (1, .int x1), (2, .int x2), (3, .int x3), (4, .int x4)] [] s := by
  intro x3 x4 s0
  unfold st_X10_parishIs_50
  refine jx_iload h dX10_parishIs_50 4 rfl ?_
  refine jx_bipush h dX10_parishIs_52 kb_6 ?_
  refine jx_icmp_ge (tgt := 115) h dX10_parishIs_54 rfl ?_ ?_
  · refine jx_iload_n h dX10_parishIs_115 rfl 3 rfl ?_
    exact jx_iret h dX10_parishIs_116
  · refine jx_iload_n h dX10_parishIs_57 rfl 2 rfl ?_
    refine jx_iconst h dX10_parishIs_58 ki_2 ?_
    refine jx_join (fun (j : Int32 → Mem → Option (Int32 × Mem)) => ∀ (t6 : Int32) (s5 : Mem), P (j t6 s5) 86 [(0, .ref (Ga G 0)), (1, .int x1), (2, .int x2), (3, .int x3), (4, .int x4)] [.int t6] s5) (fun t6 s5 => ?_) (fun j86 hj86 => ?_)
    · refine jx_istore (lv' := [(5, .int t6), (0, .ref (Ga G 0)), (1, .int x1), (2, .int x2), (3, .int x3), (4, .int x4)]) h dX10_parishIs_86 (Nat.le_of_ble_eq_true rfl) rfl ?_
      refine jx_aload_n h dX10_parishIs_88 rfl 1 rfl ?_
      refine jx_iload h dX10_parishIs_89 5 rfl ?_
      refine jx_callVi [] h lm_0 (c_X10_isLetter hG N x4 s5) ml_X10_264 (Nat.le_of_ble_eq_true rfl) (Nat.le_of_ble_eq_true rfl) dX10_parishIs_91 (Nat.le_of_ble_eq_true rfl) rfl (fun r8 s7 => ?_)
      refine jx_if_eq (tgt := 109) h dX10_parishIs_94 rfl ?_ ?_
      · refine jx_iincl (L := fun w => [(4, .int w), (5, .int t6), (0, .ref (Ga G 0)), (1, .int x1), (2, .int x2), (3, .int x3)]) h dX10_parishIs_109 5 rfl (kn_1 _) (Nat.le_of_ble_eq_true rfl) (fun _ => rfl) (fun x4_9 => ?_)
        refine jx_goto (tgt := 50) h dX10_parishIs_112 rfl ?_
        exact jx_subk [2, 3, 4, 5, 0] h (ih x3 x4_9 s7) rfl
      · refine jx_iload h dX10_parishIs_97 0 rfl ?_
        refine jx_if_eq (tgt := 109) h dX10_parishIs_99 rfl ?_ ?_
        · refine jx_iincl (L := fun w => [(4, .int w), (5, .int t6), (0, .ref (Ga G 0)), (1, .int x1), (2, .int x2), (3, .int x3)]) h dX10_parishIs_109 5 rfl (kn_1 _) (Nat.le_of_ble_eq_true rfl) (fun _ => rfl) (fun x4_10 => ?_)
          refine jx_goto (tgt := 50) h dX10_parishIs_112 rfl ?_
          exact jx_subk [2, 3, 4, 5, 0] h (ih x3 x4_10 s7) rfl
        · refine jx_iload_n h dX10_parishIs_102 rfl 4 rfl ?_
          refine jx_iconst h dX10_parishIs_103 ki_1 ?_
          refine jx_iload h dX10_parishIs_104 5 rfl ?_
          refine jx_ishl h dX10_parishIs_106 ?_
          refine jx_ior h dX10_parishIs_107 ?_
          refine jx_lti (fun v11 => ?_)
          refine jx_istore_n (lv' := [(3, .int v11), (5, .int t6), (0, .ref (Ga G 0)), (1, .int x1), (2, .int x2), (4, .int x4)]) h dX10_parishIs_108 rfl (Nat.le_of_ble_eq_true rfl) rfl ?_
          refine jx_iincl (L := fun w => [(4, .int w), (3, .int v11), (5, .int t6), (0, .ref (Ga G 0)), (1, .int x1), (2, .int x2)]) h dX10_parishIs_109 5 rfl (kn_1 _) (Nat.le_of_ble_eq_true rfl) (fun _ => rfl) (fun x4_12 => ?_)
          refine jx_goto (tgt := 50) h dX10_parishIs_112 rfl ?_
          exact jx_subk [3, 4, 5, 1, 0] h (ih v11 x4_12 s7) rfl
    · refine jx_icmp_ne (tgt := 72) h dX10_parishIs_59 rfl ?_ ?_
      · refine jx_aload_n h dX10_parishIs_72 rfl 0 rfl ?_
        refine jx_get (v := .ref (Ga G 1)) h fa_X10_7 lm_0 dX10_parishIs_73 rfl ?_
        refine jx_bipush h dX10_parishIs_76 kb_84 ?_
        refine jx_iload h dX10_parishIs_78 4 rfl ?_
        refine jx_iadd h dX10_parishIs_80 ?_
        refine jx_iaload h lm_1 dX10_parishIs_81 ?_
        refine jx_iload_n h dX10_parishIs_82 rfl 1 rfl ?_
        refine jx_callSi [] h (c_X10_has hG N (gi s0 1 (ix ((84 : Int32) + x4))) x1 s0) ml_X10_138 (Nat.le_of_ble_eq_true rfl) (Nat.le_of_ble_eq_true rfl) dX10_parishIs_83 (Nat.le_of_ble_eq_true rfl) rfl (fun r14 s13 => ?_)
        exact hj86 r14 s13
      · refine jx_aload_n h dX10_parishIs_62 rfl 0 rfl ?_
        refine jx_iload h dX10_parishIs_63 4 rfl ?_
        refine jx_iload_n h dX10_parishIs_65 rfl 1 rfl ?_
        refine jx_callVi [] h lm_0 (c_X10_isKnown hG N x4 x1 s0) ml_X10_284 (Nat.le_of_ble_eq_true rfl) (Nat.le_of_ble_eq_true rfl) dX10_parishIs_66 (Nat.le_of_ble_eq_true rfl) rfl (fun r16 s15 => ?_)
        refine jx_goto (tgt := 86) h dX10_parishIs_69 rfl ?_
        exact hj86 r16 s15
set_option maxRecDepth 20000 in
theorem c_X10_parishIs {G : Gx} (hG : Gok G ∧ IsG G layM fsoM) (N : Nat) (x1 : Int32) (x2 : Int32) (s : Mem) : Ct G yX10_parishIs cX10_parishIs 6 (some .int) 2 [.ref (Ga G 0), .int x1, .int x2] tvI s (f_X10_parishIs N x1 x2 s) := by
  refine Ct.of hG (by decide) (Nat.le_of_ble_eq_true rfl) (fun P h => ?_)
  show P _ 0 [(0, .ref (Ga G 0)), (1, .int x1), (2, .int x2)] [] s
  unfold f_X10_parishIs
  refine jx_aload_n h dX10_parishIs_0 rfl 0 rfl ?_
  refine jx_iload_n h dX10_parishIs_1 rfl 1 rfl ?_
  refine jx_callVi [] h lm_0 (c_X10_isParish hG N x1 s) ml_X10_146 (Nat.le_of_ble_eq_true rfl) (Nat.le_of_ble_eq_true rfl) dX10_parishIs_2 (Nat.le_of_ble_eq_true rfl) rfl (fun r2 s1 => ?_)
  refine jx_if_eq (tgt := 17) h dX10_parishIs_5 rfl ?_ ?_
  · refine jx_iconst h dX10_parishIs_17 ki_m1 ?_
    exact jx_iret h dX10_parishIs_18
  · refine jx_iload_n h dX10_parishIs_8 rfl 2 rfl ?_
    refine jx_iconst h dX10_parishIs_9 ki_0 ?_
    refine jx_iconst h dX10_parishIs_10 ki_3 ?_
    refine jx_callSi [] h (c_X10_in hG N x2 0 3 s1) ml_X10_134 (Nat.le_of_ble_eq_true rfl) (Nat.le_of_ble_eq_true rfl) dX10_parishIs_11 (Nat.le_of_ble_eq_true rfl) rfl (fun r4 s3 => ?_)
    refine jx_if_ne (tgt := 19) h dX10_parishIs_14 rfl ?_ ?_
    · refine jx_iload_n h dX10_parishIs_19 rfl 2 rfl ?_
      refine jx_iconst h dX10_parishIs_20 ki_2 ?_
      refine jx_icmp_ge (tgt := 45) h dX10_parishIs_21 rfl ?_ ?_
      · refine jx_iconst h dX10_parishIs_45 ki_0 ?_
        refine jx_istore_n (lv' := [(3, .int 0), (0, .ref (Ga G 0)), (1, .int x1), (2, .int x2)]) h dX10_parishIs_46 rfl (Nat.le_of_ble_eq_true rfl) rfl ?_
        refine jx_iconst h dX10_parishIs_47 ki_0 ?_
        refine jx_istore (lv' := [(4, .int 0), (3, .int 0), (0, .ref (Ga G 0)), (1, .int x1), (2, .int x2)]) h dX10_parishIs_48 (Nat.le_of_ble_eq_true rfl) rfl ?_
        refine jx_subk [2, 3, 4, 1, 0] h (itr_ind (Q := (fun (f : Int32 → Int32 → Mem → Option (Int32 × Mem)) => ∀ (x3 : Int32) (x4 : Int32) (s : Mem), P (f x3 x4 s) 50 [(0, .ref (Ga G 0)), (1, .int x1), (2, .int x2), (3, .int x3), (4, .int x4)] [] s)) (fun _ _ _ => jx_none h) (fun r50 ih50 => ?_) N 0 0 s3) rfl
        refine w_X10_parishIs_50 hG h N x1 x2  ih50
      · refine jx_iload_n h dX10_parishIs_24 rfl 2 rfl ?_
        refine jx_if_ne (tgt := 39) h dX10_parishIs_25 rfl ?_ ?_
        · refine jx_aload_n h dX10_parishIs_39 rfl 0 rfl ?_
          refine jx_iload_n h dX10_parishIs_40 rfl 1 rfl ?_
          refine jx_callVi [] h lm_0 (c_X10_tired hG N x1 s3) ml_X10_287 (Nat.le_of_ble_eq_true rfl) (Nat.le_of_ble_eq_true rfl) dX10_parishIs_41 (Nat.le_of_ble_eq_true rfl) rfl (fun r18 s17 => ?_)
          exact jx_iret h dX10_parishIs_44
        · refine jx_aload_n h dX10_parishIs_28 rfl 0 rfl ?_
          refine jx_get (v := .ref (Ga G 1)) h fa_X10_7 lm_0 dX10_parishIs_29 rfl ?_
          refine jx_iconst h dX10_parishIs_32 ki_0 ?_
          refine jx_iload_n h dX10_parishIs_33 rfl 1 rfl ?_
          refine jx_iadd h dX10_parishIs_34 ?_
          refine jx_iaload h lm_1 dX10_parishIs_35 ?_
          refine jx_goto (tgt := 44) h dX10_parishIs_36 rfl ?_
          exact jx_iret h dX10_parishIs_44
    · refine jx_iconst h dX10_parishIs_17 ki_m1 ?_
      exact jx_iret h dX10_parishIs_18
noncomputable def f_X10_letterIs (N : Nat) (x1 : Int32) (x2 : Int32) (s : Mem) : Option (Int32 × Mem) :=
  bd (f_X10_isLetter N x1 s) (fun r2 s1 => if r2 = 0 then (some ((-1), s1)) else if x2 = 0 then (chk ((126 : Int32) + x1) 151 (some (gi s1 1 (ix ((126 : Int32) + x1)), s1))) else if x2 = 1 then (chk ((132 : Int32) + x1) 151 (some (gi s1 1 (ix ((132 : Int32) + x1)), s1))) else if x2 = 2 then (chk ((138 : Int32) + x1) 151 (some (gi s1 1 (ix ((138 : Int32) + x1)), s1))) else if x2 = 3 then (chk 144 151 (bd (f_X10_has N (gi s1 1 (ix (144 : Int32))) x1 s1) (fun r6 s5 => if r6 = 0 then (some (0, s5)) else some (1, s5)))) else if x2 = 4 then (bd (f_X10_knownSet N x1 s1) (fun r4 s3 => some (r4, s3))) else if x2 = 5 then (chk ((84 : Int32) + x1) 151 (some (gi s1 1 (ix ((84 : Int32) + x1)), s1))) else some ((-1), s1))
set_option maxRecDepth 20000 in
theorem c_X10_letterIs {G : Gx} (hG : Gok G ∧ IsG G layM fsoM) (N : Nat) (x1 : Int32) (x2 : Int32) (s : Mem) : Ct G yX10_letterIs cX10_letterIs 3 (some .int) 3 [.ref (Ga G 0), .int x1, .int x2] tvI s (f_X10_letterIs N x1 x2 s) := by
  refine Ct.of hG (by decide) (Nat.le_of_ble_eq_true rfl) (fun P h => ?_)
  show P _ 0 [(0, .ref (Ga G 0)), (1, .int x1), (2, .int x2)] [] s
  unfold f_X10_letterIs
  refine jx_aload_n h dX10_letterIs_0 rfl 0 rfl ?_
  refine jx_iload_n h dX10_letterIs_1 rfl 1 rfl ?_
  refine jx_callVi [] h lm_0 (c_X10_isLetter hG N x1 s) ml_X10_264 (Nat.le_of_ble_eq_true rfl) (Nat.le_of_ble_eq_true rfl) dX10_letterIs_2 (Nat.le_of_ble_eq_true rfl) rfl (fun r2 s1 => ?_)
  refine jx_if_ne (tgt := 10) h dX10_letterIs_5 rfl ?_ ?_
  · refine jx_iload_n h dX10_letterIs_10 rfl 2 rfl ?_
    refine jx_tcase (off := 37) (tgt := 48) h dX10_letterIs_11 (by decide) (by decide) (by decide) rfl ?_ (fun n11_0 => ?_)
    · refine jx_aload_n h dX10_letterIs_48 rfl 0 rfl ?_
      refine jx_get (v := .ref (Ga G 1)) h fa_X10_7 lm_0 dX10_letterIs_49 rfl ?_
      refine jx_bipush h dX10_letterIs_52 kb_126 ?_
      refine jx_iload_n h dX10_letterIs_54 rfl 1 rfl ?_
      refine jx_iadd h dX10_letterIs_55 ?_
      refine jx_iaload h lm_1 dX10_letterIs_56 ?_
      exact jx_iret h dX10_letterIs_57
    · refine jx_tcase (off := 47) (tgt := 58) h dX10_letterIs_11 (by decide) (by decide) (by decide) rfl ?_ (fun n11_1 => ?_)
      · refine jx_aload_n h dX10_letterIs_58 rfl 0 rfl ?_
        refine jx_get (v := .ref (Ga G 1)) h fa_X10_7 lm_0 dX10_letterIs_59 rfl ?_
        refine jx_sipush h dX10_letterIs_62 ks_132 ?_
        refine jx_iload_n h dX10_letterIs_65 rfl 1 rfl ?_
        refine jx_iadd h dX10_letterIs_66 ?_
        refine jx_iaload h lm_1 dX10_letterIs_67 ?_
        exact jx_iret h dX10_letterIs_68
      · refine jx_tcase (off := 58) (tgt := 69) h dX10_letterIs_11 (by decide) (by decide) (by decide) rfl ?_ (fun n11_2 => ?_)
        · refine jx_aload_n h dX10_letterIs_69 rfl 0 rfl ?_
          refine jx_get (v := .ref (Ga G 1)) h fa_X10_7 lm_0 dX10_letterIs_70 rfl ?_
          refine jx_sipush h dX10_letterIs_73 ks_138 ?_
          refine jx_iload_n h dX10_letterIs_76 rfl 1 rfl ?_
          refine jx_iadd h dX10_letterIs_77 ?_
          refine jx_iaload h lm_1 dX10_letterIs_78 ?_
          exact jx_iret h dX10_letterIs_79
        · refine jx_tcase (off := 69) (tgt := 80) h dX10_letterIs_11 (by decide) (by decide) (by decide) rfl ?_ (fun n11_3 => ?_)
          · refine jx_aload_n h dX10_letterIs_80 rfl 0 rfl ?_
            refine jx_get (v := .ref (Ga G 1)) h fa_X10_7 lm_0 dX10_letterIs_81 rfl ?_
            refine jx_sipush h dX10_letterIs_84 ks_144 ?_
            refine jx_iaload h lm_1 dX10_letterIs_87 ?_
            refine jx_iload_n h dX10_letterIs_88 rfl 1 rfl ?_
            refine jx_callSi [] h (c_X10_has hG N (gi s1 1 (ix (144 : Int32))) x1 s1) ml_X10_138 (Nat.le_of_ble_eq_true rfl) (Nat.le_of_ble_eq_true rfl) dX10_letterIs_89 (Nat.le_of_ble_eq_true rfl) rfl (fun r6 s5 => ?_)
            refine jx_if_eq (tgt := 99) h dX10_letterIs_92 rfl ?_ ?_
            · refine jx_iconst h dX10_letterIs_99 ki_0 ?_
              exact jx_iret h dX10_letterIs_100
            · refine jx_iconst h dX10_letterIs_95 ki_1 ?_
              refine jx_goto (tgt := 100) h dX10_letterIs_96 rfl ?_
              exact jx_iret h dX10_letterIs_100
          · refine jx_tcase (off := 90) (tgt := 101) h dX10_letterIs_11 (by decide) (by decide) (by decide) rfl ?_ (fun n11_4 => ?_)
            · refine jx_aload_n h dX10_letterIs_101 rfl 0 rfl ?_
              refine jx_iload_n h dX10_letterIs_102 rfl 1 rfl ?_
              refine jx_callVi [] h lm_0 (c_X10_knownSet hG N x1 s1) ml_X10_336 (Nat.le_of_ble_eq_true rfl) (Nat.le_of_ble_eq_true rfl) dX10_letterIs_103 (Nat.le_of_ble_eq_true rfl) rfl (fun r4 s3 => ?_)
              exact jx_iret h dX10_letterIs_106
            · refine jx_tcase (off := 96) (tgt := 107) h dX10_letterIs_11 (by decide) (by decide) (by decide) rfl ?_ (fun n11_5 => ?_)
              · refine jx_aload_n h dX10_letterIs_107 rfl 0 rfl ?_
                refine jx_get (v := .ref (Ga G 1)) h fa_X10_7 lm_0 dX10_letterIs_108 rfl ?_
                refine jx_bipush h dX10_letterIs_111 kb_84 ?_
                refine jx_iload_n h dX10_letterIs_113 rfl 1 rfl ?_
                refine jx_iadd h dX10_letterIs_114 ?_
                refine jx_iaload h lm_1 dX10_letterIs_115 ?_
                exact jx_iret h dX10_letterIs_116
              · have hsw : (x2.toInt < 0 ∨ 5 < x2.toInt) ∨ (¬ x2.toInt < 0 ∧ ¬ 5 < x2.toInt ∧ (#[37, 47, 58, 69, 90, 96] : Array Int)[(x2.toInt - 0).toNat]? = some 106) := by
                  have a0 := i32ne n11_0 (k := 0) rfl; have a1 := i32ne n11_1 (k := 1) rfl; have a2 := i32ne n11_2 (k := 2) rfl; have a3 := i32ne n11_3 (k := 3) rfl; have a4 := i32ne n11_4 (k := 4) rfl; have a5 := i32ne n11_5 (k := 5) rfl; rcases (show x2.toInt < 0 ∨ 5 < x2.toInt by omega) with h9 | h9
                  · exact Or.inl (Or.inl h9)
                  · exact Or.inl (Or.inr h9)
                refine jx_tdef2 (tgt := 117) h dX10_letterIs_11 hsw rfl ?_
                refine jx_iconst h dX10_letterIs_117 ki_m1 ?_
                exact jx_iret h dX10_letterIs_118
  · refine jx_iconst h dX10_letterIs_8 ki_m1 ?_
    exact jx_iret h dX10_letterIs_9
noncomputable def f_X10_toldAt (N : Nat) (x1 : Int32) (x2 : Int32) (s : Mem) : Option (Int32 × Mem) :=
  bd (f_X10_isLetter N x1 s) (fun r2 s1 => if r2 = 0 then (some ((-1), s1)) else bd (f_X10_isParish N x2 s1) (fun r4 s3 => if r4 = 0 then (some ((-1), s3)) else bd (f_X10_isKnown N x1 x2 s3) (fun r6 s5 => if r6 = 0 then (some ((-2), s5)) else bd (f_X10_known N x1 x2 s5) (fun r8 s7 => chk r8 151 (some (gi s7 1 (ix r8), s7))))))
set_option maxRecDepth 20000 in
theorem c_X10_toldAt {G : Gx} (hG : Gok G ∧ IsG G layM fsoM) (N : Nat) (x1 : Int32) (x2 : Int32) (s : Mem) : Ct G yX10_toldAt cX10_toldAt 3 (some .int) 2 [.ref (Ga G 0), .int x1, .int x2] tvI s (f_X10_toldAt N x1 x2 s) := by
  refine Ct.of hG (by decide) (Nat.le_of_ble_eq_true rfl) (fun P h => ?_)
  show P _ 0 [(0, .ref (Ga G 0)), (1, .int x1), (2, .int x2)] [] s
  unfold f_X10_toldAt
  refine jx_aload_n h dX10_toldAt_0 rfl 0 rfl ?_
  refine jx_iload_n h dX10_toldAt_1 rfl 1 rfl ?_
  refine jx_callVi [] h lm_0 (c_X10_isLetter hG N x1 s) ml_X10_264 (Nat.le_of_ble_eq_true rfl) (Nat.le_of_ble_eq_true rfl) dX10_toldAt_2 (Nat.le_of_ble_eq_true rfl) rfl (fun r2 s1 => ?_)
  refine jx_if_eq (tgt := 16) h dX10_toldAt_5 rfl ?_ ?_
  · refine jx_iconst h dX10_toldAt_16 ki_m1 ?_
    exact jx_iret h dX10_toldAt_17
  · refine jx_aload_n h dX10_toldAt_8 rfl 0 rfl ?_
    refine jx_iload_n h dX10_toldAt_9 rfl 2 rfl ?_
    refine jx_callVi [] h lm_0 (c_X10_isParish hG N x2 s1) ml_X10_146 (Nat.le_of_ble_eq_true rfl) (Nat.le_of_ble_eq_true rfl) dX10_toldAt_10 (Nat.le_of_ble_eq_true rfl) rfl (fun r4 s3 => ?_)
    refine jx_if_ne (tgt := 18) h dX10_toldAt_13 rfl ?_ ?_
    · refine jx_aload_n h dX10_toldAt_18 rfl 0 rfl ?_
      refine jx_iload_n h dX10_toldAt_19 rfl 1 rfl ?_
      refine jx_iload_n h dX10_toldAt_20 rfl 2 rfl ?_
      refine jx_callVi [] h lm_0 (c_X10_isKnown hG N x1 x2 s3) ml_X10_284 (Nat.le_of_ble_eq_true rfl) (Nat.le_of_ble_eq_true rfl) dX10_toldAt_21 (Nat.le_of_ble_eq_true rfl) rfl (fun r6 s5 => ?_)
      refine jx_if_eq (tgt := 40) h dX10_toldAt_24 rfl ?_ ?_
      · refine jx_bipush h dX10_toldAt_40 kb_m2 ?_
        exact jx_iret h dX10_toldAt_42
      · refine jx_aload_n h dX10_toldAt_27 rfl 0 rfl ?_
        refine jx_get (v := .ref (Ga G 1)) h fa_X10_7 lm_0 dX10_toldAt_28 rfl ?_
        refine jx_iload_n h dX10_toldAt_31 rfl 1 rfl ?_
        refine jx_iload_n h dX10_toldAt_32 rfl 2 rfl ?_
        refine jx_callSi [.ref (Ga G 1)] h (c_X10_known hG N x1 x2 s5) ml_X10_142 (Nat.le_of_ble_eq_true rfl) (Nat.le_of_ble_eq_true rfl) dX10_toldAt_33 (Nat.le_of_ble_eq_true rfl) rfl (fun r8 s7 => ?_)
        refine jx_iaload h lm_1 dX10_toldAt_36 ?_
        refine jx_goto (tgt := 42) h dX10_toldAt_37 rfl ?_
        exact jx_iret h dX10_toldAt_42
    · refine jx_iconst h dX10_toldAt_16 ki_m1 ?_
      exact jx_iret h dX10_toldAt_17
noncomputable def st_X10_spreads_60 (N : Nat) (x1 : Int32) (x2 : Int32) (k93 : Mem → Option (Int32 × Mem)) (rec : Int32 → Mem → Option (Int32 × Mem)) (x3 : Int32) (s0 : Mem) : Option (Int32 × Mem) :=
  if 12 ≤ x3 then (k93 s0) else bd (f_X10_isKnown N x1 x3 s0) (fun r11 s10 => if r11 = 0 then (chk x3 12 (lt (si s10 24 (ix x3) (-2)) (fun s12 => lt (x3 + 1) (fun x3_13 => rec x3_13 s12)))) else chk x3 12 (lt (si s10 24 (ix x3) 0) (fun s14 => lt (x3 + 1) (fun x3_15 => rec x3_15 s14))))
noncomputable def st_X10_spreads_122 (N : Nat) (x1 : Int32) (x2 : Int32) (x3 : Int32) (k165 : Mem → Option (Int32 × Mem)) (rec : Int32 → Mem → Option (Int32 × Mem)) (x4 : Int32) (s0 : Mem) : Option (Int32 × Mem) :=
  if 12 ≤ x4 then (k165 s0) else chk x4 12 (if (gi s0 24 (ix x4)) = (-2) then (bd (f_X10_isKnown N x1 x4 s0) (fun r21 s20 => if r21 = 0 then (lt (x4 + 1) (fun x4_22 => rec x4_22 s20)) else chk x4 12 (lt (si s20 24 (ix x4) x3) (fun s23 => lt (x4 + 1) (fun x4_24 => rec x4_24 s23))))) else lt (x4 + 1) (fun x4_19 => rec x4_19 s0))
noncomputable def st_X10_spreads_95 (N : Nat) (x1 : Int32) (x2 : Int32) (k171 : Mem → Option (Int32 × Mem)) (rec : Int32 → Mem → Option (Int32 × Mem)) (x3 : Int32) (s0 : Mem) : Option (Int32 × Mem) :=
  if 100 < x3 then (k171 s0) else chk 147 151 (bd (f_X10_goesOn N x1 (((gi s0 1 (ix (147 : Int32))) + x3) - 1) s0) (fun r18 s17 => itr (fun _ _ => none) (st_X10_spreads_122 N x1 x2 x3 (fun  (s25 : Mem) => lt (x3 + 1) (fun x3_26 => rec x3_26 s25))) N 0 s17))
noncomputable def st_X10_spreads_208 (N : Nat) (x2 : Int32) (k268 : Int32 → Int32 → Int32 → Mem → Option (Int32 × Mem)) (rec : Int32 → Int32 → Int32 → Int32 → Mem → Option (Int32 × Mem)) (x3 : Int32) (x4 : Int32) (x5 : Int32) (x6 : Int32) (s0 : Mem) : Option (Int32 × Mem) :=
  if 12 ≤ x6 then (k268 x3 x4 x5 s0) else chk x6 12 (if (gi s0 24 (ix x6)) = (-2) then (lt (x6 + 1) (fun x6_34 => rec x3 x4 x5 x6_34 s0)) else lt (x3 + 1) (fun v30 => chk x6 12 (if x4 < (gi s0 24 (ix x6)) then (chk x6 12 (lt (gi s0 24 (ix x6)) (fun v31 => lt (x6 + 1) (fun x6_32 => rec v30 v31 x6 x6_32 s0)))) else lt (x6 + 1) (fun x6_33 => rec v30 x4 x5 x6_33 s0))))
noncomputable def f_X10_spreads (N : Nat) (x1 : Int32) (x2 : Int32) (s : Mem) : Option (Int32 × Mem) :=
  bd (f_X10_isLetter N x1 s) (fun r2 s1 => if r2 = 0 then (some ((-1), s1)) else bd (f_X10_in N x2 100 102 s1) (fun r4 s3 => lt (fun  (s5 : Mem) => chk 144 151 (bd (f_X10_has N (gi s5 1 (ix (144 : Int32))) x1 s5) (fun r7 s6 => if r7 = 0 then (some ((-3), s6)) else bd (f_X10_copies N 1 2 s6) (fun _ s8 => itr (fun _ _ => none) (st_X10_spreads_60 N x1 x2 (fun  (s16 : Mem) => itr (fun _ _ => none) (st_X10_spreads_95 N x1 x2 (fun  (s27 : Mem) => bd (f_X10_copies N 2 1 s27) (fun _ s28 => if 100 ≤ x2 then (itr (fun _ _ _ _ _ => none) (st_X10_spreads_208 N x2 (fun (x3_36 : Int32) (x4_37 : Int32) (x5_38 : Int32) (s35 : Mem) => if x2 = 100 then (some (x3_36, s35)) else if x2 = 101 then (some (x4_37, s35)) else some (x5_38, s35))) N 0 (-2) (-2) 0 s28) else chk x2 12 (some (gi s28 24 (ix x2), s28))))) N 1 s16)) N 0 s8)))) (fun j29 => if r4 = 0 then (bd (f_X10_isParish N x2 s3) (fun r40 s39 => if r40 = 0 then (some ((-1), s39)) else j29 s39)) else j29 s3)))
set_option maxRecDepth 20000 in
theorem w_X10_spreads_60 {G : Gx} (hG : Gok G ∧ IsG G layM fsoM) {P : Option (Int32 × Mem) → Nat → List (Nat × Value) → List Value → Mem → Prop} (h : Jk G layM fsoM RX10 cX10_spreads 7 (some .int) 5 tvI P) (N : Nat) (x1 : Int32) (x2 : Int32) {k93 : Mem → Option (Int32 × Mem)} (hk93 : ∀  (s : Mem), P (k93 s) 93 [(0, .ref (Ga G 0)), (1, .int x1), (2, .int x2)] [] s) {rec : Int32 → Mem → Option (Int32 × Mem)} (ih : ∀ (x3 : Int32) (s : Mem), P (rec x3 s) 60 [(0, .ref (Ga G 0)), (1, .int x1), (2, .int x2), (3, .int x3)] [] s) : ∀ (x3 : Int32) (s : Mem), P (st_X10_spreads_60 N x1 x2 k93 rec x3 s) 60 [(0, .ref (Ga G 0)), (1, .int x1), (2, .int x2), (3, .int x3)] [] s := by
  intro x3 s0
  unfold st_X10_spreads_60
  refine jx_iload_n h dX10_spreads_60 rfl 3 rfl ?_
  refine jx_bipush h dX10_spreads_61 kb_12 ?_
  refine jx_icmp_ge (tgt := 93) h dX10_spreads_63 rfl ?_ ?_
  · exact jx_subk [0, 1, 2] h (hk93 s0) rfl
  · refine jx_aload_n h dX10_spreads_66 rfl 0 rfl ?_
    refine jx_get (v := .ref (Ga G 24)) h fa_X10_80 lm_0 dX10_spreads_67 rfl ?_
    refine jx_iload_n h dX10_spreads_70 rfl 3 rfl ?_
    refine jx_aload_n h dX10_spreads_71 rfl 0 rfl ?_
    refine jx_iload_n h dX10_spreads_72 rfl 1 rfl ?_
    refine jx_iload_n h dX10_spreads_73 rfl 3 rfl ?_
    refine jx_callVi [.int x3, .ref (Ga G 24)] h lm_0 (c_X10_isKnown hG N x1 x3 s0) ml_X10_284 (Nat.le_of_ble_eq_true rfl) (Nat.le_of_ble_eq_true rfl) dX10_spreads_74 (Nat.le_of_ble_eq_true rfl) rfl (fun r11 s10 => ?_)
    refine jx_if_eq (tgt := 84) h dX10_spreads_77 rfl ?_ ?_
    · refine jx_bipush h dX10_spreads_84 kb_m2 ?_
      refine jx_iastore h lm_24 dX10_spreads_86 (fun s12 => ?_)
      refine jx_iincl (L := fun w => [(3, .int w), (0, .ref (Ga G 0)), (1, .int x1), (2, .int x2)]) h dX10_spreads_87 3 rfl (kn_1 _) (Nat.le_of_ble_eq_true rfl) (fun _ => rfl) (fun x3_13 => ?_)
      refine jx_goto (tgt := 60) h dX10_spreads_90 rfl ?_
      exact jx_subk [1, 2, 3, 0] h (ih x3_13 s12) rfl
    · refine jx_iconst h dX10_spreads_80 ki_0 ?_
      refine jx_goto (tgt := 86) h dX10_spreads_81 rfl ?_
      refine jx_iastore h lm_24 dX10_spreads_86 (fun s14 => ?_)
      refine jx_iincl (L := fun w => [(3, .int w), (0, .ref (Ga G 0)), (1, .int x1), (2, .int x2)]) h dX10_spreads_87 3 rfl (kn_1 _) (Nat.le_of_ble_eq_true rfl) (fun _ => rfl) (fun x3_15 => ?_)
      refine jx_goto (tgt := 60) h dX10_spreads_90 rfl ?_
      exact jx_subk [1, 2, 3, 0] h (ih x3_15 s14) rfl
set_option maxRecDepth 20000 in
theorem w_X10_spreads_122 {G : Gx} (hG : Gok G ∧ IsG G layM fsoM) {P : Option (Int32 × Mem) → Nat → List (Nat × Value) → List Value → Mem → Prop} (h : Jk G layM fsoM RX10 cX10_spreads 7 (some .int) 5 tvI P) (N : Nat) (x1 : Int32) (x2 : Int32) (x3 : Int32) {k165 : Mem → Option (Int32 × Mem)} (hk165 : ∀  (s : Mem), P (k165 s) 165 [(0, .ref (Ga G 0)), (1, .int x1), (2, .int x2), (3, .int x3)] [] s) {rec : Int32 → Mem → Option (Int32 × Mem)} (ih : ∀ (x4 : Int32) (s : Mem), P (rec x4 s) 122 [(0, .ref (Ga G 0)), (1, .int x1), (2, .int x2), (3, .int x3), (4, .int x4)] [] s) : ∀ (x4 : Int32) (s : Mem), P (st_X10_spreads_122 N x1 x2 x3 k165 rec x4 s) 122 [(0, .ref (Ga G 0)), (1, .int x1), (2, .int x2), (3, .int x3), (4, .int x4)] [] s := by
  intro x4 s0
  unfold st_X10_spreads_122
  refine jx_iload h dX10_spreads_122 4 rfl ?_
  refine jx_bipush h dX10_spreads_124 kb_12 ?_
  refine jx_icmp_ge (tgt := 165) h dX10_spreads_126 rfl ?_ ?_
  · exact jx_subk [0, 1, 2, 3] h (hk165 s0) rfl
  · refine jx_aload_n h dX10_spreads_129 rfl 0 rfl ?_
    refine jx_get (v := .ref (Ga G 24)) h fa_X10_80 lm_0 dX10_spreads_130 rfl ?_
    refine jx_iload h dX10_spreads_133 4 rfl ?_
    refine jx_iaload h lm_24 dX10_spreads_135 ?_
    refine jx_bipush h dX10_spreads_136 kb_m2 ?_
    refine jx_icmp_ne (tgt := 159) h dX10_spreads_138 rfl ?_ ?_
    · refine jx_iincl (L := fun w => [(4, .int w), (0, .ref (Ga G 0)), (1, .int x1), (2, .int x2), (3, .int x3)]) h dX10_spreads_159 4 rfl (kn_1 _) (Nat.le_of_ble_eq_true rfl) (fun _ => rfl) (fun x4_19 => ?_)
      refine jx_goto (tgt := 122) h dX10_spreads_162 rfl ?_
      exact jx_subk [1, 2, 3, 4, 0] h (ih x4_19 s0) rfl
    · refine jx_aload_n h dX10_spreads_141 rfl 0 rfl ?_
      refine jx_iload_n h dX10_spreads_142 rfl 1 rfl ?_
      refine jx_iload h dX10_spreads_143 4 rfl ?_
      refine jx_callVi [] h lm_0 (c_X10_isKnown hG N x1 x4 s0) ml_X10_284 (Nat.le_of_ble_eq_true rfl) (Nat.le_of_ble_eq_true rfl) dX10_spreads_145 (Nat.le_of_ble_eq_true rfl) rfl (fun r21 s20 => ?_)
      refine jx_if_eq (tgt := 159) h dX10_spreads_148 rfl ?_ ?_
      · refine jx_iincl (L := fun w => [(4, .int w), (0, .ref (Ga G 0)), (1, .int x1), (2, .int x2), (3, .int x3)]) h dX10_spreads_159 4 rfl (kn_1 _) (Nat.le_of_ble_eq_true rfl) (fun _ => rfl) (fun x4_22 => ?_)
        refine jx_goto (tgt := 122) h dX10_spreads_162 rfl ?_
        exact jx_subk [1, 2, 3, 4, 0] h (ih x4_22 s20) rfl
      · refine jx_aload_n h dX10_spreads_151 rfl 0 rfl ?_
        refine jx_get (v := .ref (Ga G 24)) h fa_X10_80 lm_0 dX10_spreads_152 rfl ?_
        refine jx_iload h dX10_spreads_155 4 rfl ?_
        refine jx_iload_n h dX10_spreads_157 rfl 3 rfl ?_
        refine jx_iastore h lm_24 dX10_spreads_158 (fun s23 => ?_)
        refine jx_iincl (L := fun w => [(4, .int w), (0, .ref (Ga G 0)), (1, .int x1), (2, .int x2), (3, .int x3)]) h dX10_spreads_159 4 rfl (kn_1 _) (Nat.le_of_ble_eq_true rfl) (fun _ => rfl) (fun x4_24 => ?_)
        refine jx_goto (tgt := 122) h dX10_spreads_162 rfl ?_
        exact jx_subk [1, 2, 3, 4, 0] h (ih x4_24 s23) rfl
set_option maxRecDepth 20000 in
theorem w_X10_spreads_95 {G : Gx} (hG : Gok G ∧ IsG G layM fsoM) {P : Option (Int32 × Mem) → Nat → List (Nat × Value) → List Value → Mem → Prop} (h : Jk G layM fsoM RX10 cX10_spreads 7 (some .int) 5 tvI P) (N : Nat) (x1 : Int32) (x2 : Int32) {k171 : Mem → Option (Int32 × Mem)} (hk171 : ∀  (s : Mem), P (k171 s) 171 [(0, .ref (Ga G 0)), (2, .int x2)] [] s) {rec : Int32 → Mem → Option (Int32 × Mem)} (ih : ∀ (x3 : Int32) (s : Mem), P (rec x3 s) 95 [(0, .ref (Ga G 0)), (1, .int x1), (2, .int x2), (3, .int x3)] [] s) : ∀ (x3 : Int32) (s : Mem), P (st_X10_spreads_95 N x1 x2 k171 rec x3 s) 95 [(0, .ref (Ga G 0)), (1, .int x1), (2, .int x2), (3, .int x3)] [] s := by
  intro x3 s0
  unfold st_X10_spreads_95
  refine jx_iload_n h dX10_spreads_95 rfl 3 rfl ?_
  refine jx_bipush h dX10_spreads_96 kb_100 ?_
  refine jx_icmp_gt (tgt := 171) h dX10_spreads_98 rfl ?_ ?_
  · exact jx_subk [0, 2] h (hk171 s0) rfl
  · refine jx_aload_n h dX10_spreads_101 rfl 0 rfl ?_
    refine jx_iload_n h dX10_spreads_102 rfl 1 rfl ?_
    refine jx_aload_n h dX10_spreads_103 rfl 0 rfl ?_
    refine jx_get (v := .ref (Ga G 1)) h fa_X10_7 lm_0 dX10_spreads_104 rfl ?_
    refine jx_sipush h dX10_spreads_107 ks_147 ?_
    refine jx_iaload h lm_1 dX10_spreads_110 ?_
    refine jx_iload_n h dX10_spreads_111 rfl 3 rfl ?_
    refine jx_iadd h dX10_spreads_112 ?_
    refine jx_iconst h dX10_spreads_113 ki_1 ?_
    refine jx_isub h dX10_spreads_114 ?_
    refine jx_callVi [] h lm_0 (c_X10_goesOn hG N x1 (((gi s0 1 (ix (147 : Int32))) + x3) - 1) s0) ml_X10_314 (Nat.le_of_ble_eq_true rfl) (Nat.le_of_ble_eq_true rfl) dX10_spreads_115 (Nat.le_of_ble_eq_true rfl) rfl (fun r18 s17 => ?_)
    refine jx_pop h dX10_spreads_118 rfl ?_
    refine jx_iconst h dX10_spreads_119 ki_0 ?_
    refine jx_istore (lv' := [(4, .int 0), (0, .ref (Ga G 0)), (1, .int x1), (2, .int x2), (3, .int x3)]) h dX10_spreads_120 (Nat.le_of_ble_eq_true rfl) rfl ?_
    refine jx_subk [1, 2, 3, 4, 0] h (itr_ind (Q := (fun (f : Int32 → Mem → Option (Int32 × Mem)) => ∀ (x4 : Int32) (s : Mem), P (f x4 s) 122 [(0, .ref (Ga G 0)), (1, .int x1), (2, .int x2), (3, .int x3), (4, .int x4)] [] s)) (fun _ _ => jx_none h) (fun r122 ih122 => ?_) N 0 s17) rfl
    refine w_X10_spreads_122 hG h N x1 x2 x3 ?_ ih122
    intro s25
    refine jx_iincl (L := fun w => [(3, .int w), (0, .ref (Ga G 0)), (1, .int x1), (2, .int x2)]) h dX10_spreads_165 3 rfl (kn_1 _) (Nat.le_of_ble_eq_true rfl) (fun _ => rfl) (fun x3_26 => ?_)
    refine jx_goto (tgt := 95) h dX10_spreads_168 rfl ?_
    exact jx_subk [1, 2, 3, 0] h (ih x3_26 s25) rfl
set_option maxRecDepth 20000 in
theorem w_X10_spreads_208 {G : Gx} (hG : Gok G ∧ IsG G layM fsoM) {P : Option (Int32 × Mem) → Nat → List (Nat × Value) → List Value → Mem → Prop} (h : Jk G layM fsoM RX10 cX10_spreads 7 (some .int) 5 tvI P) (N : Nat) (x2 : Int32) {k268 : Int32 → Int32 → Int32 → Mem → Option (Int32 × Mem)} (hk268 : ∀ (x3 : Int32) (x4 : Int32) (x5 : Int32) (s : Mem), P (k268 x3 x4 x5 s) 268 [(2, .int x2), (3, .int x3), (4, .int x4), (5, .int x5)] [] s) {rec : Int32 → Int32 → Int32 → Int32 → Mem → Option (Int32 × Mem)} (ih : ∀ (x3 : Int32) (x4 : Int32) (x5 : Int32) (x6 : Int32) (s : Mem), P (rec x3 x4 x5 x6 s) 208 [(0, .ref (Ga G 0)), (2, .int x2), (3, .int x3), (4, .int x4), (5, .int x5), (6, .int x6)] [] s) : ∀ (x3 : Int32) (x4 : Int32) (x5 : Int32) (x6 : Int32) (s : Mem), P (st_X10_spreads_208 N x2 k268 rec x3 x4 x5 x6 s) 208 [(0, .ref (Ga G 0)), (2, .int x2), (3, .int x3), (4, .int x4), (5, .int x5), (6, .int x6)] [] s := by
  intro x3 x4 x5 x6 s0
  unfold st_X10_spreads_208
  refine jx_iload h dX10_spreads_208 5 rfl ?_
  refine jx_bipush h dX10_spreads_210 kb_12 ?_
  refine jx_icmp_ge (tgt := 268) h dX10_spreads_212 rfl ?_ ?_
  · exact jx_subk [1, 2, 3, 4] h (hk268 x3 x4 x5 s0) rfl
  · refine jx_aload_n h dX10_spreads_215 rfl 0 rfl ?_
    refine jx_get (v := .ref (Ga G 24)) h fa_X10_80 lm_0 dX10_spreads_216 rfl ?_
    refine jx_iload h dX10_spreads_219 5 rfl ?_
    refine jx_iaload h lm_24 dX10_spreads_221 ?_
    refine jx_bipush h dX10_spreads_222 kb_m2 ?_
    refine jx_icmp_ne (tgt := 230) h dX10_spreads_224 rfl ?_ ?_
    · refine jx_iload_n h dX10_spreads_230 rfl 2 rfl ?_
      refine jx_iconst h dX10_spreads_231 ki_1 ?_
      refine jx_iadd h dX10_spreads_232 ?_
      refine jx_lti (fun v30 => ?_)
      refine jx_istore_n (lv' := [(3, .int v30), (0, .ref (Ga G 0)), (2, .int x2), (4, .int x4), (5, .int x5), (6, .int x6)]) h dX10_spreads_233 rfl (Nat.le_of_ble_eq_true rfl) rfl ?_
      refine jx_aload_n h dX10_spreads_234 rfl 1 rfl ?_
      refine jx_get (v := .ref (Ga G 24)) h fa_X10_80 lm_0 dX10_spreads_235 rfl ?_
      refine jx_iload h dX10_spreads_238 5 rfl ?_
      refine jx_iaload h lm_24 dX10_spreads_240 ?_
      refine jx_iload h dX10_spreads_241 3 rfl ?_
      refine jx_icmp_gt (tgt := 249) h dX10_spreads_243 rfl ?_ ?_
      · refine jx_aload_n h dX10_spreads_249 rfl 1 rfl ?_
        refine jx_get (v := .ref (Ga G 24)) h fa_X10_80 lm_0 dX10_spreads_250 rfl ?_
        refine jx_iload h dX10_spreads_253 5 rfl ?_
        refine jx_iaload h lm_24 dX10_spreads_255 ?_
        refine jx_lti (fun v31 => ?_)
        refine jx_istore (lv' := [(4, .int v31), (3, .int v30), (0, .ref (Ga G 0)), (2, .int x2), (5, .int x5), (6, .int x6)]) h dX10_spreads_256 (Nat.le_of_ble_eq_true rfl) rfl ?_
        refine jx_iload h dX10_spreads_258 5 rfl ?_
        refine jx_istore (lv' := [(5, .int x6), (4, .int v31), (3, .int v30), (0, .ref (Ga G 0)), (2, .int x2), (6, .int x6)]) h dX10_spreads_260 (Nat.le_of_ble_eq_true rfl) rfl ?_
        refine jx_iincl (L := fun w => [(6, .int w), (5, .int x6), (4, .int v31), (3, .int v30), (0, .ref (Ga G 0)), (2, .int x2)]) h dX10_spreads_262 5 rfl (kn_1 _) (Nat.le_of_ble_eq_true rfl) (fun _ => rfl) (fun x6_32 => ?_)
        refine jx_goto (tgt := 208) h dX10_spreads_265 rfl ?_
        exact jx_subk [4, 5, 3, 2, 1, 0] h (ih v30 v31 x6 x6_32 s0) rfl
      · refine jx_goto (tgt := 262) h dX10_spreads_246 rfl ?_
        refine jx_iincl (L := fun w => [(6, .int w), (3, .int v30), (0, .ref (Ga G 0)), (2, .int x2), (4, .int x4), (5, .int x5)]) h dX10_spreads_262 5 rfl (kn_1 _) (Nat.le_of_ble_eq_true rfl) (fun _ => rfl) (fun x6_33 => ?_)
        refine jx_goto (tgt := 208) h dX10_spreads_265 rfl ?_
        exact jx_subk [2, 3, 1, 4, 5, 0] h (ih v30 x4 x5 x6_33 s0) rfl
    · refine jx_goto (tgt := 262) h dX10_spreads_227 rfl ?_
      refine jx_iincl (L := fun w => [(6, .int w), (0, .ref (Ga G 0)), (2, .int x2), (3, .int x3), (4, .int x4), (5, .int x5)]) h dX10_spreads_262 5 rfl (kn_1 _) (Nat.le_of_ble_eq_true rfl) (fun _ => rfl) (fun x6_34 => ?_)
      refine jx_goto (tgt := 208) h dX10_spreads_265 rfl ?_
      exact jx_subk [1, 2, 3, 4, 5, 0] h (ih x3 x4 x5 x6_34 s0) rfl
set_option maxRecDepth 20000 in
theorem c_X10_spreads {G : Gx} (hG : Gok G ∧ IsG G layM fsoM) (N : Nat) (x1 : Int32) (x2 : Int32) (s : Mem) : Ct G yX10_spreads cX10_spreads 7 (some .int) 5 [.ref (Ga G 0), .int x1, .int x2] tvI s (f_X10_spreads N x1 x2 s) := by
  refine Ct.of hG (by decide) (Nat.le_of_ble_eq_true rfl) (fun P h => ?_)
  show P _ 0 [(0, .ref (Ga G 0)), (1, .int x1), (2, .int x2)] [] s
  unfold f_X10_spreads
  refine jx_aload_n h dX10_spreads_0 rfl 0 rfl ?_
  refine jx_iload_n h dX10_spreads_1 rfl 1 rfl ?_
  refine jx_callVi [] h lm_0 (c_X10_isLetter hG N x1 s) ml_X10_264 (Nat.le_of_ble_eq_true rfl) (Nat.le_of_ble_eq_true rfl) dX10_spreads_2 (Nat.le_of_ble_eq_true rfl) rfl (fun r2 s1 => ?_)
  refine jx_if_eq (tgt := 27) h dX10_spreads_5 rfl ?_ ?_
  · refine jx_iconst h dX10_spreads_27 ki_m1 ?_
    exact jx_iret h dX10_spreads_28
  · refine jx_iload_n h dX10_spreads_8 rfl 2 rfl ?_
    refine jx_bipush h dX10_spreads_9 kb_100 ?_
    refine jx_bipush h dX10_spreads_11 kb_102 ?_
    refine jx_callSi [] h (c_X10_in hG N x2 100 102 s1) ml_X10_134 (Nat.le_of_ble_eq_true rfl) (Nat.le_of_ble_eq_true rfl) dX10_spreads_13 (Nat.le_of_ble_eq_true rfl) rfl (fun r4 s3 => ?_)
    refine jx_join (fun (j : Mem → Option (Int32 × Mem)) => ∀  (s5 : Mem), P (j  s5) 29 [(0, .ref (Ga G 0)), (1, .int x1), (2, .int x2)] [] s5) (fun  s5 => ?_) (fun j29 hj29 => ?_)
    · refine jx_aload_n h dX10_spreads_29 rfl 0 rfl ?_
      refine jx_get (v := .ref (Ga G 1)) h fa_X10_7 lm_0 dX10_spreads_30 rfl ?_
      refine jx_sipush h dX10_spreads_33 ks_144 ?_
      refine jx_iaload h lm_1 dX10_spreads_36 ?_
      refine jx_iload_n h dX10_spreads_37 rfl 1 rfl ?_
      refine jx_callSi [] h (c_X10_has hG N (gi s5 1 (ix (144 : Int32))) x1 s5) ml_X10_138 (Nat.le_of_ble_eq_true rfl) (Nat.le_of_ble_eq_true rfl) dX10_spreads_38 (Nat.le_of_ble_eq_true rfl) rfl (fun r7 s6 => ?_)
      refine jx_if_ne (tgt := 47) h dX10_spreads_41 rfl ?_ ?_
      · refine jx_aload_n h dX10_spreads_47 rfl 0 rfl ?_
        refine jx_get (v := .ref (Ga G 1)) h fa_X10_7 lm_0 dX10_spreads_48 rfl ?_
        refine jx_aload_n h dX10_spreads_51 rfl 0 rfl ?_
        refine jx_get (v := .ref (Ga G 2)) h fa_X10_13 lm_0 dX10_spreads_52 rfl ?_
        refine jx_callSv [] h (c_X10_copies hG N 1 rfl 2 rfl s6) ml_X10_332 (Nat.le_of_ble_eq_true rfl) (Nat.le_of_ble_eq_true rfl) dX10_spreads_55 (Nat.le_of_ble_eq_true rfl) rfl (fun s8 => ?_)
        refine jx_iconst h dX10_spreads_58 ki_0 ?_
        refine jx_istore_n (lv' := [(3, .int 0), (0, .ref (Ga G 0)), (1, .int x1), (2, .int x2)]) h dX10_spreads_59 rfl (Nat.le_of_ble_eq_true rfl) rfl ?_
        refine jx_subk [1, 2, 3, 0] h (itr_ind (Q := (fun (f : Int32 → Mem → Option (Int32 × Mem)) => ∀ (x3 : Int32) (s : Mem), P (f x3 s) 60 [(0, .ref (Ga G 0)), (1, .int x1), (2, .int x2), (3, .int x3)] [] s)) (fun _ _ => jx_none h) (fun r60 ih60 => ?_) N 0 s8) rfl
        refine w_X10_spreads_60 hG h N x1 x2 ?_ ih60
        intro s16
        refine jx_iconst h dX10_spreads_93 ki_1 ?_
        refine jx_istore_n (lv' := [(3, .int 1), (0, .ref (Ga G 0)), (1, .int x1), (2, .int x2)]) h dX10_spreads_94 rfl (Nat.le_of_ble_eq_true rfl) rfl ?_
        refine jx_subk [1, 2, 3, 0] h (itr_ind (Q := (fun (f : Int32 → Mem → Option (Int32 × Mem)) => ∀ (x3 : Int32) (s : Mem), P (f x3 s) 95 [(0, .ref (Ga G 0)), (1, .int x1), (2, .int x2), (3, .int x3)] [] s)) (fun _ _ => jx_none h) (fun r95 ih95 => ?_) N 1 s16) rfl
        refine w_X10_spreads_95 hG h N x1 x2 ?_ ih95
        intro s27
        refine jx_aload_n h dX10_spreads_171 rfl 0 rfl ?_
        refine jx_get (v := .ref (Ga G 2)) h fa_X10_13 lm_0 dX10_spreads_172 rfl ?_
        refine jx_aload_n h dX10_spreads_175 rfl 0 rfl ?_
        refine jx_get (v := .ref (Ga G 1)) h fa_X10_7 lm_0 dX10_spreads_176 rfl ?_
        refine jx_callSv [] h (c_X10_copies hG N 2 rfl 1 rfl s27) ml_X10_332 (Nat.le_of_ble_eq_true rfl) (Nat.le_of_ble_eq_true rfl) dX10_spreads_179 (Nat.le_of_ble_eq_true rfl) rfl (fun s28 => ?_)
        refine jx_iload_n h dX10_spreads_182 rfl 1 rfl ?_
        refine jx_bipush h dX10_spreads_183 kb_100 ?_
        refine jx_icmp_ge (tgt := 195) h dX10_spreads_185 rfl ?_ ?_
        · refine jx_iconst h dX10_spreads_195 ki_0 ?_
          refine jx_istore_n (lv' := [(3, .int 0), (0, .ref (Ga G 0)), (2, .int x2)]) h dX10_spreads_196 rfl (Nat.le_of_ble_eq_true rfl) rfl ?_
          refine jx_bipush h dX10_spreads_197 kb_m2 ?_
          refine jx_istore (lv' := [(4, .int (-2)), (3, .int 0), (0, .ref (Ga G 0)), (2, .int x2)]) h dX10_spreads_199 (Nat.le_of_ble_eq_true rfl) rfl ?_
          refine jx_bipush h dX10_spreads_201 kb_m2 ?_
          refine jx_istore (lv' := [(5, .int (-2)), (4, .int (-2)), (3, .int 0), (0, .ref (Ga G 0)), (2, .int x2)]) h dX10_spreads_203 (Nat.le_of_ble_eq_true rfl) rfl ?_
          refine jx_iconst h dX10_spreads_205 ki_0 ?_
          refine jx_istore (lv' := [(6, .int 0), (5, .int (-2)), (4, .int (-2)), (3, .int 0), (0, .ref (Ga G 0)), (2, .int x2)]) h dX10_spreads_206 (Nat.le_of_ble_eq_true rfl) rfl ?_
          refine jx_subk [4, 5, 3, 2, 1, 0] h (itr_ind (Q := (fun (f : Int32 → Int32 → Int32 → Int32 → Mem → Option (Int32 × Mem)) => ∀ (x3 : Int32) (x4 : Int32) (x5 : Int32) (x6 : Int32) (s : Mem), P (f x3 x4 x5 x6 s) 208 [(0, .ref (Ga G 0)), (2, .int x2), (3, .int x3), (4, .int x4), (5, .int x5), (6, .int x6)] [] s)) (fun _ _ _ _ _ => jx_none h) (fun r208 ih208 => ?_) N 0 (-2) (-2) 0 s28) rfl
          refine w_X10_spreads_208 hG h N x2 ?_ ih208
          intro x3_36 x4_37 x5_38 s35
          refine jx_iload_n h dX10_spreads_268 rfl 0 rfl ?_
          refine jx_bipush h dX10_spreads_269 kb_100 ?_
          refine jx_icmp_ne (tgt := 278) h dX10_spreads_271 rfl ?_ ?_
          · refine jx_iload_n h dX10_spreads_278 rfl 0 rfl ?_
            refine jx_bipush h dX10_spreads_279 kb_101 ?_
            refine jx_icmp_ne (tgt := 289) h dX10_spreads_281 rfl ?_ ?_
            · refine jx_iload h dX10_spreads_289 3 rfl ?_
              exact jx_iret h dX10_spreads_291
            · refine jx_iload h dX10_spreads_284 2 rfl ?_
              refine jx_goto (tgt := 291) h dX10_spreads_286 rfl ?_
              exact jx_iret h dX10_spreads_291
          · refine jx_iload_n h dX10_spreads_274 rfl 1 rfl ?_
            refine jx_goto (tgt := 291) h dX10_spreads_275 rfl ?_
            exact jx_iret h dX10_spreads_291
        · refine jx_aload_n h dX10_spreads_188 rfl 0 rfl ?_
          refine jx_get (v := .ref (Ga G 24)) h fa_X10_80 lm_0 dX10_spreads_189 rfl ?_
          refine jx_iload_n h dX10_spreads_192 rfl 1 rfl ?_
          refine jx_iaload h lm_24 dX10_spreads_193 ?_
          exact jx_iret h dX10_spreads_194
      · refine jx_bipush h dX10_spreads_44 kb_m3 ?_
        exact jx_iret h dX10_spreads_46
    · refine jx_if_ne (tgt := 29) h dX10_spreads_16 rfl ?_ ?_
      · exact hj29 s3
      · refine jx_aload_n h dX10_spreads_19 rfl 0 rfl ?_
        refine jx_iload_n h dX10_spreads_20 rfl 2 rfl ?_
        refine jx_callVi [] h lm_0 (c_X10_isParish hG N x2 s3) ml_X10_146 (Nat.le_of_ble_eq_true rfl) (Nat.le_of_ble_eq_true rfl) dX10_spreads_21 (Nat.le_of_ble_eq_true rfl) rfl (fun r40 s39 => ?_)
        refine jx_if_ne (tgt := 29) h dX10_spreads_24 rfl ?_ ?_
        · exact hj29 s39
        · refine jx_iconst h dX10_spreads_27 ki_m1 ?_
          exact jx_iret h dX10_spreads_28
noncomputable def st_X10_laysWays_2 (N : Nat) (k57 : Mem → Option (Unit × Mem)) (rec : Int32 → Mem → Option (Unit × Mem)) (x1 : Int32) (s0 : Mem) : Option (Unit × Mem) :=
  if 144 ≤ x1 then (k57 s0) else if (x1 / 12) = (x1 - x1 / 12 * 12) then (chk x1 144 (lt (si s0 25 (ix x1) 0) (fun s5 => lt (x1 + 1) (fun x1_6 => rec x1_6 s5)))) else chk x1 144 (if (gi s0 4 (ix x1)) = 0 then (chk x1 144 (lt (si s0 25 (ix x1) 100000000) (fun s3 => lt (x1 + 1) (fun x1_4 => rec x1_4 s3)))) else chk x1 144 (chk x1 144 (lt (si s0 25 (ix x1) (gi s0 4 (ix x1))) (fun s1 => lt (x1 + 1) (fun x1_2 => rec x1_2 s1)))))
noncomputable def st_X10_laysWays_75 (N : Nat) (x1 : Int32) (x2 : Int32) (k135 : Mem → Option (Unit × Mem)) (rec : Int32 → Mem → Option (Unit × Mem)) (x3 : Int32) (s0 : Mem) : Option (Unit × Mem) :=
  if 12 ≤ x3 then (k135 s0) else chk (((12 : Int32) * x2) + x3) 144 (chk (((12 : Int32) * x2) + x1) 144 (chk (((12 : Int32) * x1) + x3) 144 (bd (f_X10_min N (gi s0 25 (ix (((12 : Int32) * x2) + x3))) ((gi s0 25 (ix (((12 : Int32) * x2) + x1))) + (gi s0 25 (ix (((12 : Int32) * x1) + x3)))) s0) (fun r9 s8 => chk (((12 : Int32) * x2) + x3) 144 (lt (si s8 25 (ix (((12 : Int32) * x2) + x3)) r9) (fun s10 => lt (x3 + 1) (fun x3_11 => rec x3_11 s10)))))))
noncomputable def st_X10_laysWays_67 (N : Nat) (x1 : Int32) (k141 : Mem → Option (Unit × Mem)) (rec : Int32 → Mem → Option (Unit × Mem)) (x2 : Int32) (s0 : Mem) : Option (Unit × Mem) :=
  if 12 ≤ x2 then (k141 s0) else itr (fun _ _ => none) (st_X10_laysWays_75 N x1 x2 (fun  (s12 : Mem) => lt (x2 + 1) (fun x2_13 => rec x2_13 s12))) N 0 s0
noncomputable def st_X10_laysWays_59 (N : Nat)  (rec : Int32 → Mem → Option (Unit × Mem)) (x1 : Int32) (s0 : Mem) : Option (Unit × Mem) :=
  if 12 ≤ x1 then (some ((), s0)) else itr (fun _ _ => none) (st_X10_laysWays_67 N x1 (fun  (s14 : Mem) => lt (x1 + 1) (fun x1_15 => rec x1_15 s14))) N 0 s0
noncomputable def f_X10_laysWays (N : Nat)  (s : Mem) : Option (Unit × Mem) :=
  itr (fun _ _ => none) (st_X10_laysWays_2 N (fun  (s7 : Mem) => itr (fun _ _ => none) (st_X10_laysWays_59 N) N 0 s7)) N 0 s
set_option maxRecDepth 20000 in
theorem w_X10_laysWays_2 {G : Gx} (hG : Gok G ∧ IsG G layM fsoM) {P : Option (Unit × Mem) → Nat → List (Nat × Value) → List Value → Mem → Prop} (h : Jk G layM fsoM RX10 cX10_laysWays 4 none 1 tvV P) (N : Nat) {k57 : Mem → Option (Unit × Mem)} (hk57 : ∀  (s : Mem), P (k57 s) 57 [(0, .ref (Ga G 0))] [] s) {rec : Int32 → Mem → Option (Unit × Mem)} (ih : ∀ (x1 : Int32) (s : Mem), P (rec x1 s) 2 [(0, .ref (Ga G 0)), (1, .int x1)] [] s) : ∀ (x1 : Int32) (s : Mem), P (st_X10_laysWays_2 N k57 rec x1 s) 2 [(0, .ref (Ga G 0)), (1, .int x1)] [] s := by
  intro x1 s0
  unfold st_X10_laysWays_2
  refine jx_iload_n h dX10_laysWays_2 rfl 1 rfl ?_
  refine jx_sipush h dX10_laysWays_3 ks_144 ?_
  refine jx_icmp_ge (tgt := 57) h dX10_laysWays_6 rfl ?_ ?_
  · exact jx_subk [0] h (hk57 s0) rfl
  · refine jx_aload_n h dX10_laysWays_9 rfl 0 rfl ?_
    refine jx_get (v := .ref (Ga G 25)) h fa_X10_83 lm_0 dX10_laysWays_10 rfl ?_
    refine jx_iload_n h dX10_laysWays_13 rfl 1 rfl ?_
    refine jx_iload_n h dX10_laysWays_14 rfl 1 rfl ?_
    refine jx_bipush h dX10_laysWays_15 kb_12 ?_
    refine jx_idivc h (by decide) dX10_laysWays_17 ?_
    refine jx_iload_n h dX10_laysWays_18 rfl 1 rfl ?_
    refine jx_bipush h dX10_laysWays_19 kb_12 ?_
    refine jx_iremc h (by decide) dX10_laysWays_21 ?_
    refine jx_icmp_ne (tgt := 29) h dX10_laysWays_22 rfl ?_ ?_
    · refine jx_aload_n h dX10_laysWays_29 rfl 0 rfl ?_
      refine jx_get (v := .ref (Ga G 4)) h fa_X10_19 lm_0 dX10_laysWays_30 rfl ?_
      refine jx_iload_n h dX10_laysWays_33 rfl 1 rfl ?_
      refine jx_iaload h lm_4 dX10_laysWays_34 ?_
      refine jx_if_ne (tgt := 44) h dX10_laysWays_35 rfl ?_ ?_
      · refine jx_aload_n h dX10_laysWays_44 rfl 0 rfl ?_
        refine jx_get (v := .ref (Ga G 4)) h fa_X10_19 lm_0 dX10_laysWays_45 rfl ?_
        refine jx_iload_n h dX10_laysWays_48 rfl 1 rfl ?_
        refine jx_iaload h lm_4 dX10_laysWays_49 ?_
        refine jx_iastore h lm_25 dX10_laysWays_50 (fun s1 => ?_)
        refine jx_iincl (L := fun w => [(1, .int w), (0, .ref (Ga G 0))]) h dX10_laysWays_51 1 rfl (kn_1 _) (Nat.le_of_ble_eq_true rfl) (fun _ => rfl) (fun x1_2 => ?_)
        refine jx_goto (tgt := 2) h dX10_laysWays_54 rfl ?_
        exact jx_subk [1, 0] h (ih x1_2 s1) rfl
      · refine jx_ldcw h dX10_laysWays_38 kw_X10_339 ?_
        refine jx_goto (tgt := 50) h dX10_laysWays_41 rfl ?_
        refine jx_iastore h lm_25 dX10_laysWays_50 (fun s3 => ?_)
        refine jx_iincl (L := fun w => [(1, .int w), (0, .ref (Ga G 0))]) h dX10_laysWays_51 1 rfl (kn_1 _) (Nat.le_of_ble_eq_true rfl) (fun _ => rfl) (fun x1_4 => ?_)
        refine jx_goto (tgt := 2) h dX10_laysWays_54 rfl ?_
        exact jx_subk [1, 0] h (ih x1_4 s3) rfl
    · refine jx_iconst h dX10_laysWays_25 ki_0 ?_
      refine jx_goto (tgt := 50) h dX10_laysWays_26 rfl ?_
      refine jx_iastore h lm_25 dX10_laysWays_50 (fun s5 => ?_)
      refine jx_iincl (L := fun w => [(1, .int w), (0, .ref (Ga G 0))]) h dX10_laysWays_51 1 rfl (kn_1 _) (Nat.le_of_ble_eq_true rfl) (fun _ => rfl) (fun x1_6 => ?_)
      refine jx_goto (tgt := 2) h dX10_laysWays_54 rfl ?_
      exact jx_subk [1, 0] h (ih x1_6 s5) rfl
set_option maxRecDepth 20000 in
theorem w_X10_laysWays_75 {G : Gx} (hG : Gok G ∧ IsG G layM fsoM) {P : Option (Unit × Mem) → Nat → List (Nat × Value) → List Value → Mem → Prop} (h : Jk G layM fsoM RX10 cX10_laysWays 4 none 1 tvV P) (N : Nat) (x1 : Int32) (x2 : Int32) {k135 : Mem → Option (Unit × Mem)} (hk135 : ∀  (s : Mem), P (k135 s) 135 [(0, .ref (Ga G 0)), (1, .int x1), (2, .int x2)] [] s) {rec : Int32 → Mem → Option (Unit × Mem)} (ih : ∀ (x3 : Int32) (s : Mem), P (rec x3 s) 75 [(0, .ref (Ga G 0)), (1, .int x1), (2, .int x2), (3, .int x3)] [] s) : ∀ (x3 : Int32) (s : Mem), P (st_X10_laysWays_75 N x1 x2 k135 rec x3 s) 75 [(0, .ref (Ga G 0)), (1, .int x1), (2, .int x2), (3, .int x3)] [] s := by
  intro x3 s0
  unfold st_X10_laysWays_75
  refine jx_iload_n h dX10_laysWays_75 rfl 3 rfl ?_
  refine jx_bipush h dX10_laysWays_76 kb_12 ?_
  refine jx_icmp_ge (tgt := 135) h dX10_laysWays_78 rfl ?_ ?_
  · exact jx_subk [0, 1, 2] h (hk135 s0) rfl
  · refine jx_aload_n h dX10_laysWays_81 rfl 0 rfl ?_
    refine jx_get (v := .ref (Ga G 25)) h fa_X10_83 lm_0 dX10_laysWays_82 rfl ?_
    refine jx_bipush h dX10_laysWays_85 kb_12 ?_
    refine jx_iload_n h dX10_laysWays_87 rfl 2 rfl ?_
    refine jx_imul h dX10_laysWays_88 ?_
    refine jx_iload_n h dX10_laysWays_89 rfl 3 rfl ?_
    refine jx_iadd h dX10_laysWays_90 ?_
    refine jx_aload_n h dX10_laysWays_91 rfl 0 rfl ?_
    refine jx_get (v := .ref (Ga G 25)) h fa_X10_83 lm_0 dX10_laysWays_92 rfl ?_
    refine jx_bipush h dX10_laysWays_95 kb_12 ?_
    refine jx_iload_n h dX10_laysWays_97 rfl 2 rfl ?_
    refine jx_imul h dX10_laysWays_98 ?_
    refine jx_iload_n h dX10_laysWays_99 rfl 3 rfl ?_
    refine jx_iadd h dX10_laysWays_100 ?_
    refine jx_iaload h lm_25 dX10_laysWays_101 ?_
    refine jx_aload_n h dX10_laysWays_102 rfl 0 rfl ?_
    refine jx_get (v := .ref (Ga G 25)) h fa_X10_83 lm_0 dX10_laysWays_103 rfl ?_
    refine jx_bipush h dX10_laysWays_106 kb_12 ?_
    refine jx_iload_n h dX10_laysWays_108 rfl 2 rfl ?_
    refine jx_imul h dX10_laysWays_109 ?_
    refine jx_iload_n h dX10_laysWays_110 rfl 1 rfl ?_
    refine jx_iadd h dX10_laysWays_111 ?_
    refine jx_iaload h lm_25 dX10_laysWays_112 ?_
    refine jx_aload_n h dX10_laysWays_113 rfl 0 rfl ?_
    refine jx_get (v := .ref (Ga G 25)) h fa_X10_83 lm_0 dX10_laysWays_114 rfl ?_
    refine jx_bipush h dX10_laysWays_117 kb_12 ?_
    refine jx_iload_n h dX10_laysWays_119 rfl 1 rfl ?_
    refine jx_imul h dX10_laysWays_120 ?_
    refine jx_iload_n h dX10_laysWays_121 rfl 3 rfl ?_
    refine jx_iadd h dX10_laysWays_122 ?_
    refine jx_iaload h lm_25 dX10_laysWays_123 ?_
    refine jx_iadd h dX10_laysWays_124 ?_
    refine jx_callSi [.int (((12 : Int32) * x2) + x3), .ref (Ga G 25)] h (c_X10_min hG N (gi s0 25 (ix (((12 : Int32) * x2) + x3))) ((gi s0 25 (ix (((12 : Int32) * x2) + x1))) + (gi s0 25 (ix (((12 : Int32) * x1) + x3)))) s0) ml_X10_271 (Nat.le_of_ble_eq_true rfl) (Nat.le_of_ble_eq_true rfl) dX10_laysWays_125 (Nat.le_of_ble_eq_true rfl) rfl (fun r9 s8 => ?_)
    refine jx_iastore h lm_25 dX10_laysWays_128 (fun s10 => ?_)
    refine jx_iincl (L := fun w => [(3, .int w), (0, .ref (Ga G 0)), (1, .int x1), (2, .int x2)]) h dX10_laysWays_129 3 rfl (kn_1 _) (Nat.le_of_ble_eq_true rfl) (fun _ => rfl) (fun x3_11 => ?_)
    refine jx_goto (tgt := 75) h dX10_laysWays_132 rfl ?_
    exact jx_subk [1, 2, 3, 0] h (ih x3_11 s10) rfl
set_option maxRecDepth 20000 in
theorem w_X10_laysWays_67 {G : Gx} (hG : Gok G ∧ IsG G layM fsoM) {P : Option (Unit × Mem) → Nat → List (Nat × Value) → List Value → Mem → Prop} (h : Jk G layM fsoM RX10 cX10_laysWays 4 none 1 tvV P) (N : Nat) (x1 : Int32) {k141 : Mem → Option (Unit × Mem)} (hk141 : ∀  (s : Mem), P (k141 s) 141 [(0, .ref (Ga G 0)), (1, .int x1)] [] s) {rec : Int32 → Mem → Option (Unit × Mem)} (ih : ∀ (x2 : Int32) (s : Mem), P (rec x2 s) 67 [(0, .ref (Ga G 0)), (1, .int x1), (2, .int x2)] [] s) : ∀ (x2 : Int32) (s : Mem), P (st_X10_laysWays_67 N x1 k141 rec x2 s) 67 [(0, .ref (Ga G 0)), (1, .int x1), (2, .int x2)] [] s := by
  intro x2 s0
  unfold st_X10_laysWays_67
  refine jx_iload_n h dX10_laysWays_67 rfl 2 rfl ?_
  refine jx_bipush h dX10_laysWays_68 kb_12 ?_
  refine jx_icmp_ge (tgt := 141) h dX10_laysWays_70 rfl ?_ ?_
  · exact jx_subk [0, 1] h (hk141 s0) rfl
  · refine jx_iconst h dX10_laysWays_73 ki_0 ?_
    refine jx_istore_n (lv' := [(3, .int 0), (0, .ref (Ga G 0)), (1, .int x1), (2, .int x2)]) h dX10_laysWays_74 rfl (Nat.le_of_ble_eq_true rfl) rfl ?_
    refine jx_subk [1, 2, 3, 0] h (itr_ind (Q := (fun (f : Int32 → Mem → Option (Unit × Mem)) => ∀ (x3 : Int32) (s : Mem), P (f x3 s) 75 [(0, .ref (Ga G 0)), (1, .int x1), (2, .int x2), (3, .int x3)] [] s)) (fun _ _ => jx_none h) (fun r75 ih75 => ?_) N 0 s0) rfl
    refine w_X10_laysWays_75 hG h N x1 x2 ?_ ih75
    intro s12
    refine jx_iincl (L := fun w => [(2, .int w), (0, .ref (Ga G 0)), (1, .int x1)]) h dX10_laysWays_135 2 rfl (kn_1 _) (Nat.le_of_ble_eq_true rfl) (fun _ => rfl) (fun x2_13 => ?_)
    refine jx_goto (tgt := 67) h dX10_laysWays_138 rfl ?_
    exact jx_subk [1, 2, 0] h (ih x2_13 s12) rfl
set_option maxRecDepth 20000 in
theorem w_X10_laysWays_59 {G : Gx} (hG : Gok G ∧ IsG G layM fsoM) {P : Option (Unit × Mem) → Nat → List (Nat × Value) → List Value → Mem → Prop} (h : Jk G layM fsoM RX10 cX10_laysWays 4 none 1 tvV P) (N : Nat) {rec : Int32 → Mem → Option (Unit × Mem)} (ih : ∀ (x1 : Int32) (s : Mem), P (rec x1 s) 59 [(0, .ref (Ga G 0)), (1, .int x1)] [] s) : ∀ (x1 : Int32) (s : Mem), P (st_X10_laysWays_59 N rec x1 s) 59 [(0, .ref (Ga G 0)), (1, .int x1)] [] s := by
  intro x1 s0
  unfold st_X10_laysWays_59
  refine jx_iload_n h dX10_laysWays_59 rfl 1 rfl ?_
  refine jx_bipush h dX10_laysWays_60 kb_12 ?_
  refine jx_icmp_ge (tgt := 147) h dX10_laysWays_62 rfl ?_ ?_
  · exact jx_vret h dX10_laysWays_147
  · refine jx_iconst h dX10_laysWays_65 ki_0 ?_
    refine jx_istore_n (lv' := [(2, .int 0), (0, .ref (Ga G 0)), (1, .int x1)]) h dX10_laysWays_66 rfl (Nat.le_of_ble_eq_true rfl) rfl ?_
    refine jx_subk [1, 2, 0] h (itr_ind (Q := (fun (f : Int32 → Mem → Option (Unit × Mem)) => ∀ (x2 : Int32) (s : Mem), P (f x2 s) 67 [(0, .ref (Ga G 0)), (1, .int x1), (2, .int x2)] [] s)) (fun _ _ => jx_none h) (fun r67 ih67 => ?_) N 0 s0) rfl
    refine w_X10_laysWays_67 hG h N x1 ?_ ih67
    intro s14
    refine jx_iincl (L := fun w => [(1, .int w), (0, .ref (Ga G 0))]) h dX10_laysWays_141 1 rfl (kn_1 _) (Nat.le_of_ble_eq_true rfl) (fun _ => rfl) (fun x1_15 => ?_)
    refine jx_goto (tgt := 59) h dX10_laysWays_144 rfl ?_
    exact jx_subk [1, 0] h (ih x1_15 s14) rfl
set_option maxRecDepth 20000 in
theorem c_X10_laysWays {G : Gx} (hG : Gok G ∧ IsG G layM fsoM) (N : Nat)  (s : Mem) : Ct G yX10_laysWays cX10_laysWays 4 none 1 [.ref (Ga G 0)] tvV s (f_X10_laysWays N s) := by
  refine Ct.of hG (by decide) (Nat.le_of_ble_eq_true rfl) (fun P h => ?_)
  show P _ 0 [(0, .ref (Ga G 0))] [] s
  unfold f_X10_laysWays
  refine jx_iconst h dX10_laysWays_0 ki_0 ?_
  refine jx_istore_n (lv' := [(1, .int 0), (0, .ref (Ga G 0))]) h dX10_laysWays_1 rfl (Nat.le_of_ble_eq_true rfl) rfl ?_
  refine jx_subk [1, 0] h (itr_ind (Q := (fun (f : Int32 → Mem → Option (Unit × Mem)) => ∀ (x1 : Int32) (s : Mem), P (f x1 s) 2 [(0, .ref (Ga G 0)), (1, .int x1)] [] s)) (fun _ _ => jx_none h) (fun r2 ih2 => ?_) N 0 s) rfl
  refine w_X10_laysWays_2 hG h N  ?_ ih2
  intro s7
  refine jx_iconst h dX10_laysWays_57 ki_0 ?_
  refine jx_istore_n (lv' := [(1, .int 0), (0, .ref (Ga G 0))]) h dX10_laysWays_58 rfl (Nat.le_of_ble_eq_true rfl) rfl ?_
  refine jx_subk [1, 0] h (itr_ind (Q := (fun (f : Int32 → Mem → Option (Unit × Mem)) => ∀ (x1 : Int32) (s : Mem), P (f x1 s) 59 [(0, .ref (Ga G 0)), (1, .int x1)] [] s)) (fun _ _ => jx_none h) (fun r59 ih59 => ?_) N 0 s7) rfl
  refine w_X10_laysWays_59 hG h N   ih59
noncomputable def f_X10_miles (N : Nat) (x1 : Int32) (x2 : Int32) (s : Mem) : Option (Int32 × Mem) :=
  bd (f_X10_isParish N x1 s) (fun r2 s1 => if r2 = 0 then (some ((-1), s1)) else bd (f_X10_isParish N x2 s1) (fun r4 s3 => if r4 = 0 then (some ((-1), s3)) else bd (f_X10_laysWays N s3) (fun _ s5 => chk (((12 : Int32) * x1) + x2) 144 (if (gi s5 25 (ix (((12 : Int32) * x1) + x2))) < 100000000 then (chk (((12 : Int32) * x1) + x2) 144 (some (gi s5 25 (ix (((12 : Int32) * x1) + x2)), s5))) else some ((-2), s5)))))
set_option maxRecDepth 20000 in
theorem c_X10_miles {G : Gx} (hG : Gok G ∧ IsG G layM fsoM) (N : Nat) (x1 : Int32) (x2 : Int32) (s : Mem) : Ct G yX10_miles cX10_miles 3 (some .int) 2 [.ref (Ga G 0), .int x1, .int x2] tvI s (f_X10_miles N x1 x2 s) := by
  refine Ct.of hG (by decide) (Nat.le_of_ble_eq_true rfl) (fun P h => ?_)
  show P _ 0 [(0, .ref (Ga G 0)), (1, .int x1), (2, .int x2)] [] s
  unfold f_X10_miles
  refine jx_aload_n h dX10_miles_0 rfl 0 rfl ?_
  refine jx_iload_n h dX10_miles_1 rfl 1 rfl ?_
  refine jx_callVi [] h lm_0 (c_X10_isParish hG N x1 s) ml_X10_146 (Nat.le_of_ble_eq_true rfl) (Nat.le_of_ble_eq_true rfl) dX10_miles_2 (Nat.le_of_ble_eq_true rfl) rfl (fun r2 s1 => ?_)
  refine jx_if_eq (tgt := 16) h dX10_miles_5 rfl ?_ ?_
  · refine jx_iconst h dX10_miles_16 ki_m1 ?_
    exact jx_iret h dX10_miles_17
  · refine jx_aload_n h dX10_miles_8 rfl 0 rfl ?_
    refine jx_iload_n h dX10_miles_9 rfl 2 rfl ?_
    refine jx_callVi [] h lm_0 (c_X10_isParish hG N x2 s1) ml_X10_146 (Nat.le_of_ble_eq_true rfl) (Nat.le_of_ble_eq_true rfl) dX10_miles_10 (Nat.le_of_ble_eq_true rfl) rfl (fun r4 s3 => ?_)
    refine jx_if_ne (tgt := 18) h dX10_miles_13 rfl ?_ ?_
    · refine jx_aload_n h dX10_miles_18 rfl 0 rfl ?_
      refine jx_callVv [] h lm_0 (c_X10_laysWays hG N  s3) ml_X10_340 (Nat.le_of_ble_eq_true rfl) (Nat.le_of_ble_eq_true rfl) dX10_miles_19 (Nat.le_of_ble_eq_true rfl) rfl (fun s5 => ?_)
      refine jx_aload_n h dX10_miles_22 rfl 0 rfl ?_
      refine jx_get (v := .ref (Ga G 25)) h fa_X10_83 lm_0 dX10_miles_23 rfl ?_
      refine jx_bipush h dX10_miles_26 kb_12 ?_
      refine jx_iload_n h dX10_miles_28 rfl 1 rfl ?_
      refine jx_imul h dX10_miles_29 ?_
      refine jx_iload_n h dX10_miles_30 rfl 2 rfl ?_
      refine jx_iadd h dX10_miles_31 ?_
      refine jx_iaload h lm_25 dX10_miles_32 ?_
      refine jx_ldcw h dX10_miles_33 kw_X10_339 ?_
      refine jx_icmp_lt (tgt := 44) h dX10_miles_36 rfl ?_ ?_
      · refine jx_aload_n h dX10_miles_44 rfl 0 rfl ?_
        refine jx_get (v := .ref (Ga G 25)) h fa_X10_83 lm_0 dX10_miles_45 rfl ?_
        refine jx_bipush h dX10_miles_48 kb_12 ?_
        refine jx_iload_n h dX10_miles_50 rfl 1 rfl ?_
        refine jx_imul h dX10_miles_51 ?_
        refine jx_iload_n h dX10_miles_52 rfl 2 rfl ?_
        refine jx_iadd h dX10_miles_53 ?_
        refine jx_iaload h lm_25 dX10_miles_54 ?_
        exact jx_iret h dX10_miles_55
      · refine jx_bipush h dX10_miles_39 kb_m2 ?_
        refine jx_goto (tgt := 55) h dX10_miles_41 rfl ?_
        exact jx_iret h dX10_miles_55
    · refine jx_iconst h dX10_miles_16 ki_m1 ?_
      exact jx_iret h dX10_miles_17
noncomputable def st_X10_listsOnes_4 (N : Nat) (x1 : Int32)  (rec : Int32 → Int32 → Mem → Option (Unit × Mem)) (x2 : Int32) (x3 : Int32) (s0 : Mem) : Option (Unit × Mem) :=
  if 12 ≤ x3 then (some ((), s0)) else bd (f_X10_has N x1 x3 s0) (fun r2 s1 => if r2 = 0 then (lt (x3 + 1) (fun x3_6 => rec x2 x3_6 s1)) else chk x2 7 (lt (si s1 26 (ix x2) x3) (fun s3 => lt (x2 + 1) (fun v4 => lt (x3 + 1) (fun x3_5 => rec v4 x3_5 s3)))))
noncomputable def f_X10_listsOnes (N : Nat) (x1 : Int32) (s : Mem) : Option (Unit × Mem) :=
  itr (fun _ _ _ => none) (st_X10_listsOnes_4 N x1) N 0 0 s
set_option maxRecDepth 20000 in
theorem w_X10_listsOnes_4 {G : Gx} (hG : Gok G ∧ IsG G layM fsoM) {P : Option (Unit × Mem) → Nat → List (Nat × Value) → List Value → Mem → Prop} (h : Jk G layM fsoM RX10 cX10_listsOnes 4 none 1 tvV P) (N : Nat) (x1 : Int32) {rec : Int32 → Int32 → Mem → Option (Unit × Mem)} (ih : ∀ (x2 : Int32) (x3 : Int32) (s : Mem), P (rec x2 x3 s) 4 [(0, .ref (Ga G 0)), (1, .int x1), (2, .int x2), (3, .int x3)] [] s) : ∀ (x2 : Int32) (x3 : Int32) (s : Mem), P (st_X10_listsOnes_4 N x1 rec x2 x3 s) 4 [(0, .ref (Ga G 0)), (1, .int x1), (2, .int x2), (3, .int x3)] [] s := by
  intro x2 x3 s0
  unfold st_X10_listsOnes_4
  refine jx_iload_n h dX10_listsOnes_4 rfl 3 rfl ?_
  refine jx_bipush h dX10_listsOnes_5 kb_12 ?_
  refine jx_icmp_ge (tgt := 38) h dX10_listsOnes_7 rfl ?_ ?_
  · exact jx_vret h dX10_listsOnes_38
  · refine jx_iload_n h dX10_listsOnes_10 rfl 1 rfl ?_
    refine jx_iload_n h dX10_listsOnes_11 rfl 3 rfl ?_
    refine jx_callSi [] h (c_X10_has hG N x1 x3 s0) ml_X10_138 (Nat.le_of_ble_eq_true rfl) (Nat.le_of_ble_eq_true rfl) dX10_listsOnes_12 (Nat.le_of_ble_eq_true rfl) rfl (fun r2 s1 => ?_)
    refine jx_if_ne (tgt := 21) h dX10_listsOnes_15 rfl ?_ ?_
    · refine jx_aload_n h dX10_listsOnes_21 rfl 0 rfl ?_
      refine jx_get (v := .ref (Ga G 26)) h fa_X10_86 lm_0 dX10_listsOnes_22 rfl ?_
      refine jx_iload_n h dX10_listsOnes_25 rfl 2 rfl ?_
      refine jx_iload_n h dX10_listsOnes_26 rfl 3 rfl ?_
      refine jx_iastore h lm_26 dX10_listsOnes_27 (fun s3 => ?_)
      refine jx_iload_n h dX10_listsOnes_28 rfl 2 rfl ?_
      refine jx_iconst h dX10_listsOnes_29 ki_1 ?_
      refine jx_iadd h dX10_listsOnes_30 ?_
      refine jx_lti (fun v4 => ?_)
      refine jx_istore_n (lv' := [(2, .int v4), (0, .ref (Ga G 0)), (1, .int x1), (3, .int x3)]) h dX10_listsOnes_31 rfl (Nat.le_of_ble_eq_true rfl) rfl ?_
      refine jx_iincl (L := fun w => [(3, .int w), (2, .int v4), (0, .ref (Ga G 0)), (1, .int x1)]) h dX10_listsOnes_32 3 rfl (kn_1 _) (Nat.le_of_ble_eq_true rfl) (fun _ => rfl) (fun x3_5 => ?_)
      refine jx_goto (tgt := 4) h dX10_listsOnes_35 rfl ?_
      exact jx_subk [2, 3, 1, 0] h (ih v4 x3_5 s3) rfl
    · refine jx_goto (tgt := 32) h dX10_listsOnes_18 rfl ?_
      refine jx_iincl (L := fun w => [(3, .int w), (0, .ref (Ga G 0)), (1, .int x1), (2, .int x2)]) h dX10_listsOnes_32 3 rfl (kn_1 _) (Nat.le_of_ble_eq_true rfl) (fun _ => rfl) (fun x3_6 => ?_)
      refine jx_goto (tgt := 4) h dX10_listsOnes_35 rfl ?_
      exact jx_subk [1, 2, 3, 0] h (ih x2 x3_6 s1) rfl
set_option maxRecDepth 20000 in
theorem c_X10_listsOnes {G : Gx} (hG : Gok G ∧ IsG G layM fsoM) (N : Nat) (x1 : Int32) (s : Mem) : Ct G yX10_listsOnes cX10_listsOnes 4 none 1 [.ref (Ga G 0), .int x1] tvV s (f_X10_listsOnes N x1 s) := by
  refine Ct.of hG (by decide) (Nat.le_of_ble_eq_true rfl) (fun P h => ?_)
  show P _ 0 [(0, .ref (Ga G 0)), (1, .int x1)] [] s
  unfold f_X10_listsOnes
  refine jx_iconst h dX10_listsOnes_0 ki_0 ?_
  refine jx_istore_n (lv' := [(2, .int 0), (0, .ref (Ga G 0)), (1, .int x1)]) h dX10_listsOnes_1 rfl (Nat.le_of_ble_eq_true rfl) rfl ?_
  refine jx_iconst h dX10_listsOnes_2 ki_0 ?_
  refine jx_istore_n (lv' := [(3, .int 0), (2, .int 0), (0, .ref (Ga G 0)), (1, .int x1)]) h dX10_listsOnes_3 rfl (Nat.le_of_ble_eq_true rfl) rfl ?_
  refine jx_subk [2, 3, 1, 0] h (itr_ind (Q := (fun (f : Int32 → Int32 → Mem → Option (Unit × Mem)) => ∀ (x2 : Int32) (x3 : Int32) (s : Mem), P (f x2 x3 s) 4 [(0, .ref (Ga G 0)), (1, .int x1), (2, .int x2), (3, .int x3)] [] s)) (fun _ _ _ => jx_none h) (fun r4 ih4 => ?_) N 0 0 s) rfl
  refine w_X10_listsOnes_4 hG h N x1  ih4
noncomputable def st_X10_beginsRows_2 (N : Nat) (x1 : Int32)  (rec : Int32 → Mem → Option (Unit × Mem)) (x2 : Int32) (s0 : Mem) : Option (Unit × Mem) :=
  if x1 ≤ x2 then (some ((), s0)) else chk x2 7 (lt (si s0 27 (ix x2) x2) (fun s1 => lt (x2 + 1) (fun x2_2 => rec x2_2 s1)))
noncomputable def f_X10_beginsRows (N : Nat) (x1 : Int32) (s : Mem) : Option (Unit × Mem) :=
  itr (fun _ _ => none) (st_X10_beginsRows_2 N x1) N 0 s
set_option maxRecDepth 20000 in
theorem w_X10_beginsRows_2 {G : Gx} (hG : Gok G ∧ IsG G layM fsoM) {P : Option (Unit × Mem) → Nat → List (Nat × Value) → List Value → Mem → Prop} (h : Jk G layM fsoM RX10 cX10_beginsRows 3 none 0 tvV P) (N : Nat) (x1 : Int32) {rec : Int32 → Mem → Option (Unit × Mem)} (ih : ∀ (x2 : Int32) (s : Mem), P (rec x2 s) 2 [(0, .ref (Ga G 0)), (1, .int x1), (2, .int x2)] [] s) : ∀ (x2 : Int32) (s : Mem), P (st_X10_beginsRows_2 N x1 rec x2 s) 2 [(0, .ref (Ga G 0)), (1, .int x1), (2, .int x2)] [] s := by
  intro x2 s0
  unfold st_X10_beginsRows_2
  refine jx_iload_n h dX10_beginsRows_2 rfl 2 rfl ?_
  refine jx_iload_n h dX10_beginsRows_3 rfl 1 rfl ?_
  refine jx_icmp_ge (tgt := 20) h dX10_beginsRows_4 rfl ?_ ?_
  · exact jx_vret h dX10_beginsRows_20
  · refine jx_aload_n h dX10_beginsRows_7 rfl 0 rfl ?_
    refine jx_get (v := .ref (Ga G 27)) h fa_X10_89 lm_0 dX10_beginsRows_8 rfl ?_
    refine jx_iload_n h dX10_beginsRows_11 rfl 2 rfl ?_
    refine jx_iload_n h dX10_beginsRows_12 rfl 2 rfl ?_
    refine jx_iastore h lm_27 dX10_beginsRows_13 (fun s1 => ?_)
    refine jx_iincl (L := fun w => [(2, .int w), (0, .ref (Ga G 0)), (1, .int x1)]) h dX10_beginsRows_14 2 rfl (kn_1 _) (Nat.le_of_ble_eq_true rfl) (fun _ => rfl) (fun x2_2 => ?_)
    refine jx_goto (tgt := 2) h dX10_beginsRows_17 rfl ?_
    exact jx_subk [1, 2, 0] h (ih x2_2 s1) rfl
set_option maxRecDepth 20000 in
theorem c_X10_beginsRows {G : Gx} (hG : Gok G ∧ IsG G layM fsoM) (N : Nat) (x1 : Int32) (s : Mem) : Ct G yX10_beginsRows cX10_beginsRows 3 none 0 [.ref (Ga G 0), .int x1] tvV s (f_X10_beginsRows N x1 s) := by
  refine Ct.of hG (by decide) (Nat.le_of_ble_eq_true rfl) (fun P h => ?_)
  show P _ 0 [(0, .ref (Ga G 0)), (1, .int x1)] [] s
  unfold f_X10_beginsRows
  refine jx_iconst h dX10_beginsRows_0 ki_0 ?_
  refine jx_istore_n (lv' := [(2, .int 0), (0, .ref (Ga G 0)), (1, .int x1)]) h dX10_beginsRows_1 rfl (Nat.le_of_ble_eq_true rfl) rfl ?_
  refine jx_subk [1, 2, 0] h (itr_ind (Q := (fun (f : Int32 → Mem → Option (Unit × Mem)) => ∀ (x2 : Int32) (s : Mem), P (f x2 s) 2 [(0, .ref (Ga G 0)), (1, .int x1), (2, .int x2)] [] s)) (fun _ _ => jx_none h) (fun r2 ih2 => ?_) N 0 s) rfl
  refine w_X10_beginsRows_2 hG h N x1  ih2
noncomputable def st_X10_keepsRow_2 (N : Nat) (x1 : Int32)  (rec : Int32 → Mem → Option (Unit × Mem)) (x2 : Int32) (s0 : Mem) : Option (Unit × Mem) :=
  if x1 ≤ x2 then (some ((), s0)) else chk x2 7 (chk (gi s0 27 (ix x2)) 7 (chk x2 7 (lt (si s0 28 (ix x2) (gi s0 26 (ix (gi s0 27 (ix x2))))) (fun s1 => lt (x2 + 1) (fun x2_2 => rec x2_2 s1)))))
noncomputable def f_X10_keepsRow (N : Nat) (x1 : Int32) (s : Mem) : Option (Unit × Mem) :=
  itr (fun _ _ => none) (st_X10_keepsRow_2 N x1) N 0 s
set_option maxRecDepth 20000 in
theorem w_X10_keepsRow_2 {G : Gx} (hG : Gok G ∧ IsG G layM fsoM) {P : Option (Unit × Mem) → Nat → List (Nat × Value) → List Value → Mem → Prop} (h : Jk G layM fsoM RX10 cX10_keepsRow 3 none 0 tvV P) (N : Nat) (x1 : Int32) {rec : Int32 → Mem → Option (Unit × Mem)} (ih : ∀ (x2 : Int32) (s : Mem), P (rec x2 s) 2 [(0, .ref (Ga G 0)), (1, .int x1), (2, .int x2)] [] s) : ∀ (x2 : Int32) (s : Mem), P (st_X10_keepsRow_2 N x1 rec x2 s) 2 [(0, .ref (Ga G 0)), (1, .int x1), (2, .int x2)] [] s := by
  intro x2 s0
  unfold st_X10_keepsRow_2
  refine jx_iload_n h dX10_keepsRow_2 rfl 2 rfl ?_
  refine jx_iload_n h dX10_keepsRow_3 rfl 1 rfl ?_
  refine jx_icmp_ge (tgt := 30) h dX10_keepsRow_4 rfl ?_ ?_
  · exact jx_vret h dX10_keepsRow_30
  · refine jx_aload_n h dX10_keepsRow_7 rfl 0 rfl ?_
    refine jx_get (v := .ref (Ga G 28)) h fa_X10_92 lm_0 dX10_keepsRow_8 rfl ?_
    refine jx_iload_n h dX10_keepsRow_11 rfl 2 rfl ?_
    refine jx_aload_n h dX10_keepsRow_12 rfl 0 rfl ?_
    refine jx_get (v := .ref (Ga G 26)) h fa_X10_86 lm_0 dX10_keepsRow_13 rfl ?_
    refine jx_aload_n h dX10_keepsRow_16 rfl 0 rfl ?_
    refine jx_get (v := .ref (Ga G 27)) h fa_X10_89 lm_0 dX10_keepsRow_17 rfl ?_
    refine jx_iload_n h dX10_keepsRow_20 rfl 2 rfl ?_
    refine jx_iaload h lm_27 dX10_keepsRow_21 ?_
    refine jx_iaload h lm_26 dX10_keepsRow_22 ?_
    refine jx_iastore h lm_28 dX10_keepsRow_23 (fun s1 => ?_)
    refine jx_iincl (L := fun w => [(2, .int w), (0, .ref (Ga G 0)), (1, .int x1)]) h dX10_keepsRow_24 2 rfl (kn_1 _) (Nat.le_of_ble_eq_true rfl) (fun _ => rfl) (fun x2_2 => ?_)
    refine jx_goto (tgt := 2) h dX10_keepsRow_27 rfl ?_
    exact jx_subk [1, 2, 0] h (ih x2_2 s1) rfl
set_option maxRecDepth 20000 in
theorem c_X10_keepsRow {G : Gx} (hG : Gok G ∧ IsG G layM fsoM) (N : Nat) (x1 : Int32) (s : Mem) : Ct G yX10_keepsRow cX10_keepsRow 3 none 0 [.ref (Ga G 0), .int x1] tvV s (f_X10_keepsRow N x1 s) := by
  refine Ct.of hG (by decide) (Nat.le_of_ble_eq_true rfl) (fun P h => ?_)
  show P _ 0 [(0, .ref (Ga G 0)), (1, .int x1)] [] s
  unfold f_X10_keepsRow
  refine jx_iconst h dX10_keepsRow_0 ki_0 ?_
  refine jx_istore_n (lv' := [(2, .int 0), (0, .ref (Ga G 0)), (1, .int x1)]) h dX10_keepsRow_1 rfl (Nat.le_of_ble_eq_true rfl) rfl ?_
  refine jx_subk [1, 2, 0] h (itr_ind (Q := (fun (f : Int32 → Mem → Option (Unit × Mem)) => ∀ (x2 : Int32) (s : Mem), P (f x2 s) 2 [(0, .ref (Ga G 0)), (1, .int x1), (2, .int x2)] [] s)) (fun _ _ => jx_none h) (fun r2 ih2 => ?_) N 0 s) rfl
  refine w_X10_keepsRow_2 hG h N x1  ih2
noncomputable def f_X10_changes (N : Nat) (x1 : Int32) (x2 : Int32) (s : Mem) : Option (Unit × Mem) :=
  chk x1 7 (lt (gi s 27 (ix x1)) (fun v1 => chk x2 7 (chk x1 7 (lt (si s 27 (ix x1) (gi s 27 (ix x2))) (fun s2 => chk x2 7 (lt (si s2 27 (ix x2) v1) (fun s3 => some ((), s3))))))))
set_option maxRecDepth 20000 in
theorem c_X10_changes {G : Gx} (hG : Gok G ∧ IsG G layM fsoM) (N : Nat) (x1 : Int32) (x2 : Int32) (s : Mem) : Ct G yX10_changes cX10_changes 4 none 0 [.ref (Ga G 0), .int x1, .int x2] tvV s (f_X10_changes N x1 x2 s) := by
  refine Ct.of hG (by decide) (Nat.le_of_ble_eq_true rfl) (fun P h => ?_)
  show P _ 0 [(0, .ref (Ga G 0)), (1, .int x1), (2, .int x2)] [] s
  unfold f_X10_changes
  refine jx_aload_n h dX10_changes_0 rfl 0 rfl ?_
  refine jx_get (v := .ref (Ga G 27)) h fa_X10_89 lm_0 dX10_changes_1 rfl ?_
  refine jx_iload_n h dX10_changes_4 rfl 1 rfl ?_
  refine jx_iaload h lm_27 dX10_changes_5 ?_
  refine jx_lti (fun v1 => ?_)
  refine jx_istore_n (lv' := [(3, .int v1), (0, .ref (Ga G 0)), (1, .int x1), (2, .int x2)]) h dX10_changes_6 rfl (Nat.le_of_ble_eq_true rfl) rfl ?_
  refine jx_aload_n h dX10_changes_7 rfl 1 rfl ?_
  refine jx_get (v := .ref (Ga G 27)) h fa_X10_89 lm_0 dX10_changes_8 rfl ?_
  refine jx_iload_n h dX10_changes_11 rfl 2 rfl ?_
  refine jx_aload_n h dX10_changes_12 rfl 1 rfl ?_
  refine jx_get (v := .ref (Ga G 27)) h fa_X10_89 lm_0 dX10_changes_13 rfl ?_
  refine jx_iload_n h dX10_changes_16 rfl 3 rfl ?_
  refine jx_iaload h lm_27 dX10_changes_17 ?_
  refine jx_iastore h lm_27 dX10_changes_18 (fun s2 => ?_)
  refine jx_aload_n h dX10_changes_19 rfl 1 rfl ?_
  refine jx_get (v := .ref (Ga G 27)) h fa_X10_89 lm_0 dX10_changes_20 rfl ?_
  refine jx_iload_n h dX10_changes_23 rfl 3 rfl ?_
  refine jx_iload_n h dX10_changes_24 rfl 0 rfl ?_
  refine jx_iastore h lm_27 dX10_changes_25 (fun s3 => ?_)
  exact jx_vret h dX10_changes_26
noncomputable def st_X10_nextRow_4 (N : Nat) (x1 : Int32) (k32 : Int32 → Mem → Option (Int32 × Mem)) (rec : Int32 → Mem → Option (Int32 × Mem)) (x2 : Int32) (s0 : Mem) : Option (Int32 × Mem) :=
  if x2 < 0 then (k32 x2 s0) else chk x2 7 (chk (x2 + 1) 7 (if (gi s0 27 (ix x2)) ≤ (gi s0 27 (ix (x2 + 1))) then (k32 x2 s0) else lt (x2 - 1) (fun v2 => rec v2 s0)))
noncomputable def st_X10_nextRow_42 (N : Nat) (x1 : Int32) (x2 : Int32) (k64 : Int32 → Mem → Option (Int32 × Mem)) (rec : Int32 → Mem → Option (Int32 × Mem)) (x3 : Int32) (s0 : Mem) : Option (Int32 × Mem) :=
  chk x3 7 (chk x2 7 (if (gi s0 27 (ix x2)) ≤ (gi s0 27 (ix x3)) then (k64 x3 s0) else lt (x3 - 1) (fun v6 => rec v6 s0)))
noncomputable def st_X10_nextRow_80 (N : Nat)  (rec : Int32 → Int32 → Mem → Option (Int32 × Mem)) (x4 : Int32) (x5 : Int32) (s0 : Mem) : Option (Int32 × Mem) :=
  if x5 ≤ x4 then (some (1, s0)) else bd (f_X10_changes N x4 x5 s0) (fun _ s13 => lt (x4 + 1) (fun x4_15 => lt (x5 + (-1)) (fun x5_16 => rec x4_15 x5_16 s13)))
noncomputable def f_X10_nextRow (N : Nat) (x1 : Int32) (s : Mem) : Option (Int32 × Mem) :=
  lt (x1 - 2) (fun v1 => itr (fun _ _ => none) (st_X10_nextRow_4 N x1 (fun (x2_4 : Int32) (s3 : Mem) => if 0 ≤ x2_4 then (lt (x1 - 1) (fun v5 => itr (fun _ _ => none) (st_X10_nextRow_42 N x1 x2_4 (fun (x3_8 : Int32) (s7 : Mem) => bd (f_X10_changes N x2_4 x3_8 s7) (fun _ s9 => lt (x2_4 + 1) (fun v11 => lt (x1 - 1) (fun v12 => itr (fun _ _ _ => none) (st_X10_nextRow_80 N) N v11 v12 s9))))) N v5 s3)) else some (0, s3))) N v1 s)
set_option maxRecDepth 20000 in
theorem w_X10_nextRow_4 {G : Gx} (hG : Gok G ∧ IsG G layM fsoM) {P : Option (Int32 × Mem) → Nat → List (Nat × Value) → List Value → Mem → Prop} (h : Jk G layM fsoM RX10 cX10_nextRow 6 (some .boolean) 1 tvI P) (N : Nat) (x1 : Int32) {k32 : Int32 → Mem → Option (Int32 × Mem)} (hk32 : ∀ (x2 : Int32) (s : Mem), P (k32 x2 s) 32 [(0, .ref (Ga G 0)), (1, .int x1), (2, .int x2)] [] s) {rec : Int32 → Mem → Option (Int32 × Mem)} (ih : ∀ (x2 : Int32) (s : Mem), P (rec x2 s) 4 [(0, .ref (Ga G 0)), (1, .int x1), (2, .int x2)] [] s) : ∀ (x2 : Int32) (s : Mem), P (st_X10_nextRow_4 N x1 k32 rec x2 s) 4 [(0, .ref (Ga G 0)), (1, .int x1), (2, .int x2)] [] s := by
  intro x2 s0
  unfold st_X10_nextRow_4
  refine jx_iload_n h dX10_nextRow_4 rfl 2 rfl ?_
  refine jx_if_lt (tgt := 32) h dX10_nextRow_5 rfl ?_ ?_
  · exact hk32 x2 s0
  · refine jx_aload_n h dX10_nextRow_8 rfl 0 rfl ?_
    refine jx_get (v := .ref (Ga G 27)) h fa_X10_89 lm_0 dX10_nextRow_9 rfl ?_
    refine jx_iload_n h dX10_nextRow_12 rfl 2 rfl ?_
    refine jx_iaload h lm_27 dX10_nextRow_13 ?_
    refine jx_aload_n h dX10_nextRow_14 rfl 0 rfl ?_
    refine jx_get (v := .ref (Ga G 27)) h fa_X10_89 lm_0 dX10_nextRow_15 rfl ?_
    refine jx_iload_n h dX10_nextRow_18 rfl 2 rfl ?_
    refine jx_iconst h dX10_nextRow_19 ki_1 ?_
    refine jx_iadd h dX10_nextRow_20 ?_
    refine jx_iaload h lm_27 dX10_nextRow_21 ?_
    refine jx_icmp_le (tgt := 32) h dX10_nextRow_22 rfl ?_ ?_
    · exact hk32 x2 s0
    · refine jx_iload_n h dX10_nextRow_25 rfl 2 rfl ?_
      refine jx_iconst h dX10_nextRow_26 ki_1 ?_
      refine jx_isub h dX10_nextRow_27 ?_
      refine jx_lti (fun v2 => ?_)
      refine jx_istore_n (lv' := [(2, .int v2), (0, .ref (Ga G 0)), (1, .int x1)]) h dX10_nextRow_28 rfl (Nat.le_of_ble_eq_true rfl) rfl ?_
      refine jx_goto (tgt := 4) h dX10_nextRow_29 rfl ?_
      exact jx_subk [1, 2, 0] h (ih v2 s0) rfl
set_option maxRecDepth 20000 in
theorem w_X10_nextRow_42 {G : Gx} (hG : Gok G ∧ IsG G layM fsoM) {P : Option (Int32 × Mem) → Nat → List (Nat × Value) → List Value → Mem → Prop} (h : Jk G layM fsoM RX10 cX10_nextRow 6 (some .boolean) 1 tvI P) (N : Nat) (x1 : Int32) (x2 : Int32) {k64 : Int32 → Mem → Option (Int32 × Mem)} (hk64 : ∀ (x3 : Int32) (s : Mem), P (k64 x3 s) 64 [(0, .ref (Ga G 0)), (1, .int x1), (2, .int x2), (3, .int x3)] [] s) {rec : Int32 → Mem → Option (Int32 × Mem)} (ih : ∀ (x3 : Int32) (s : Mem), P (rec x3 s) 42 [(0, .ref (Ga G 0)), (1, .int x1), (2, .int x2), (3, .int x3)] [] s) : ∀ (x3 : Int32) (s : Mem), P (st_X10_nextRow_42 N x1 x2 k64 rec x3 s) 42 [(0, .ref (Ga G 0)), (1, .int x1), (2, .int x2), (3, .int x3)] [] s := by
  intro x3 s0
  unfold st_X10_nextRow_42
  refine jx_aload_n h dX10_nextRow_42 rfl 0 rfl ?_
  refine jx_get (v := .ref (Ga G 27)) h fa_X10_89 lm_0 dX10_nextRow_43 rfl ?_
  refine jx_iload_n h dX10_nextRow_46 rfl 3 rfl ?_
  refine jx_iaload h lm_27 dX10_nextRow_47 ?_
  refine jx_aload_n h dX10_nextRow_48 rfl 0 rfl ?_
  refine jx_get (v := .ref (Ga G 27)) h fa_X10_89 lm_0 dX10_nextRow_49 rfl ?_
  refine jx_iload_n h dX10_nextRow_52 rfl 2 rfl ?_
  refine jx_iaload h lm_27 dX10_nextRow_53 ?_
  refine jx_icmp_ge (tgt := 64) h dX10_nextRow_54 rfl ?_ ?_
  · exact hk64 x3 s0
  · refine jx_iload_n h dX10_nextRow_57 rfl 3 rfl ?_
    refine jx_iconst h dX10_nextRow_58 ki_1 ?_
    refine jx_isub h dX10_nextRow_59 ?_
    refine jx_lti (fun v6 => ?_)
    refine jx_istore_n (lv' := [(3, .int v6), (0, .ref (Ga G 0)), (1, .int x1), (2, .int x2)]) h dX10_nextRow_60 rfl (Nat.le_of_ble_eq_true rfl) rfl ?_
    refine jx_goto (tgt := 42) h dX10_nextRow_61 rfl ?_
    exact jx_subk [1, 2, 3, 0] h (ih v6 s0) rfl
set_option maxRecDepth 20000 in
theorem w_X10_nextRow_80 {G : Gx} (hG : Gok G ∧ IsG G layM fsoM) {P : Option (Int32 × Mem) → Nat → List (Nat × Value) → List Value → Mem → Prop} (h : Jk G layM fsoM RX10 cX10_nextRow 6 (some .boolean) 1 tvI P) (N : Nat) {rec : Int32 → Int32 → Mem → Option (Int32 × Mem)} (ih : ∀ (x4 : Int32) (x5 : Int32) (s : Mem), P (rec x4 x5 s) 80 [(0, .ref (Ga G 0)), (4, .int x4), (5, .int x5)] [] s) : ∀ (x4 : Int32) (x5 : Int32) (s : Mem), P (st_X10_nextRow_80 N rec x4 x5 s) 80 [(0, .ref (Ga G 0)), (4, .int x4), (5, .int x5)] [] s := by
  intro x4 x5 s0
  unfold st_X10_nextRow_80
  refine jx_iload h dX10_nextRow_80 1 rfl ?_
  refine jx_iload h dX10_nextRow_82 2 rfl ?_
  refine jx_icmp_ge (tgt := 104) h dX10_nextRow_84 rfl ?_ ?_
  · refine jx_iconst h dX10_nextRow_104 ki_1 ?_
    exact jx_zret h rfl dX10_nextRow_105
  · refine jx_aload_n h dX10_nextRow_87 rfl 0 rfl ?_
    refine jx_iload h dX10_nextRow_88 1 rfl ?_
    refine jx_iload h dX10_nextRow_90 2 rfl ?_
    refine jx_callVv [] h lm_0 (c_X10_changes hG N x4 x5 s0) ml_X10_343 (Nat.le_of_ble_eq_true rfl) (Nat.le_of_ble_eq_true rfl) dX10_nextRow_92 (Nat.le_of_ble_eq_true rfl) rfl (fun s13 => ?_)
    refine jx_iincl (L := fun w => [(4, .int w), (0, .ref (Ga G 0)), (5, .int x5)]) h dX10_nextRow_95 1 rfl (kn_1 _) (Nat.le_of_ble_eq_true rfl) (fun _ => rfl) (fun x4_15 => ?_)
    refine jx_iincl (L := fun w => [(5, .int w), (4, .int x4_15), (0, .ref (Ga G 0))]) h dX10_nextRow_98 2 rfl (kn_m1 _) (Nat.le_of_ble_eq_true rfl) (fun _ => rfl) (fun x5_16 => ?_)
    refine jx_goto (tgt := 80) h dX10_nextRow_101 rfl ?_
    exact jx_subk [2, 1, 0] h (ih x4_15 x5_16 s13) rfl
set_option maxRecDepth 20000 in
theorem c_X10_nextRow {G : Gx} (hG : Gok G ∧ IsG G layM fsoM) (N : Nat) (x1 : Int32) (s : Mem) : Ct G yX10_nextRow cX10_nextRow 6 (some .boolean) 1 [.ref (Ga G 0), .int x1] tvI s (f_X10_nextRow N x1 s) := by
  refine Ct.of hG (by decide) (Nat.le_of_ble_eq_true rfl) (fun P h => ?_)
  show P _ 0 [(0, .ref (Ga G 0)), (1, .int x1)] [] s
  unfold f_X10_nextRow
  refine jx_iload_n h dX10_nextRow_0 rfl 1 rfl ?_
  refine jx_iconst h dX10_nextRow_1 ki_2 ?_
  refine jx_isub h dX10_nextRow_2 ?_
  refine jx_lti (fun v1 => ?_)
  refine jx_istore_n (lv' := [(2, .int v1), (0, .ref (Ga G 0)), (1, .int x1)]) h dX10_nextRow_3 rfl (Nat.le_of_ble_eq_true rfl) rfl ?_
  refine jx_subk [1, 2, 0] h (itr_ind (Q := (fun (f : Int32 → Mem → Option (Int32 × Mem)) => ∀ (x2 : Int32) (s : Mem), P (f x2 s) 4 [(0, .ref (Ga G 0)), (1, .int x1), (2, .int x2)] [] s)) (fun _ _ => jx_none h) (fun r4 ih4 => ?_) N v1 s) rfl
  refine w_X10_nextRow_4 hG h N x1 ?_ ih4
  intro x2_4 s3
  refine jx_iload_n h dX10_nextRow_32 rfl 2 rfl ?_
  refine jx_if_ge (tgt := 38) h dX10_nextRow_33 rfl ?_ ?_
  · refine jx_iload_n h dX10_nextRow_38 rfl 1 rfl ?_
    refine jx_iconst h dX10_nextRow_39 ki_1 ?_
    refine jx_isub h dX10_nextRow_40 ?_
    refine jx_lti (fun v5 => ?_)
    refine jx_istore_n (lv' := [(3, .int v5), (0, .ref (Ga G 0)), (1, .int x1), (2, .int x2_4)]) h dX10_nextRow_41 rfl (Nat.le_of_ble_eq_true rfl) rfl ?_
    refine jx_subk [1, 2, 3, 0] h (itr_ind (Q := (fun (f : Int32 → Mem → Option (Int32 × Mem)) => ∀ (x3 : Int32) (s : Mem), P (f x3 s) 42 [(0, .ref (Ga G 0)), (1, .int x1), (2, .int x2_4), (3, .int x3)] [] s)) (fun _ _ => jx_none h) (fun r42 ih42 => ?_) N v5 s3) rfl
    refine w_X10_nextRow_42 hG h N x1 x2_4 ?_ ih42
    intro x3_8 s7
    refine jx_aload_n h dX10_nextRow_64 rfl 0 rfl ?_
    refine jx_iload_n h dX10_nextRow_65 rfl 2 rfl ?_
    refine jx_iload_n h dX10_nextRow_66 rfl 3 rfl ?_
    refine jx_callVv [] h lm_0 (c_X10_changes hG N x2_4 x3_8 s7) ml_X10_343 (Nat.le_of_ble_eq_true rfl) (Nat.le_of_ble_eq_true rfl) dX10_nextRow_67 (Nat.le_of_ble_eq_true rfl) rfl (fun s9 => ?_)
    refine jx_iload_n h dX10_nextRow_70 rfl 2 rfl ?_
    refine jx_iconst h dX10_nextRow_71 ki_1 ?_
    refine jx_iadd h dX10_nextRow_72 ?_
    refine jx_lti (fun v11 => ?_)
    refine jx_istore (lv' := [(4, .int v11), (0, .ref (Ga G 0)), (1, .int x1), (2, .int x2_4), (3, .int x3_8)]) h dX10_nextRow_73 (Nat.le_of_ble_eq_true rfl) rfl ?_
    refine jx_iload_n h dX10_nextRow_75 rfl 2 rfl ?_
    refine jx_iconst h dX10_nextRow_76 ki_1 ?_
    refine jx_isub h dX10_nextRow_77 ?_
    refine jx_lti (fun v12 => ?_)
    refine jx_istore (lv' := [(5, .int v12), (4, .int v11), (0, .ref (Ga G 0)), (1, .int x1), (2, .int x2_4), (3, .int x3_8)]) h dX10_nextRow_78 (Nat.le_of_ble_eq_true rfl) rfl ?_
    refine jx_subk [2, 1, 0] h (itr_ind (Q := (fun (f : Int32 → Int32 → Mem → Option (Int32 × Mem)) => ∀ (x4 : Int32) (x5 : Int32) (s : Mem), P (f x4 x5 s) 80 [(0, .ref (Ga G 0)), (4, .int x4), (5, .int x5)] [] s)) (fun _ _ _ => jx_none h) (fun r80 ih80 => ?_) N v11 v12 s9) rfl
    refine w_X10_nextRow_80 hG h N   ih80
  · refine jx_iconst h dX10_nextRow_36 ki_0 ?_
    exact jx_zret h rfl dX10_nextRow_37
noncomputable def st_X10_milesOfRow_8 (N : Nat) (x1 : Int32) (x2 : Int32) (k60 : Int32 → Int32 → Mem → Option (Int32 × Mem)) (rec : Int32 → Int32 → Int32 → Mem → Option (Int32 × Mem)) (x3 : Int32) (x4 : Int32) (x5 : Int32) (s0 : Mem) : Option (Int32 × Mem) :=
  if x2 ≤ x5 then (k60 x3 x4 s0) else chk x5 7 (chk (gi s0 27 (ix x5)) 7 (lt (gi s0 26 (ix (gi s0 27 (ix x5)))) (fun v1 => chk (((12 : Int32) * x4) + v1) 144 (bd (f_X10_min N 100000000 (x3 + (gi s0 25 (ix (((12 : Int32) * x4) + v1)))) s0) (fun r3 s2 => lt (x5 + 1) (fun x5_4 => rec r3 v1 x5_4 s2))))))
noncomputable def f_X10_milesOfRow (N : Nat) (x1 : Int32) (x2 : Int32) (s : Mem) : Option (Int32 × Mem) :=
  itr (fun _ _ _ _ => none) (st_X10_milesOfRow_8 N x1 x2 (fun (x3_6 : Int32) (x4_7 : Int32) (s5 : Mem) => chk (((12 : Int32) * x4_7) + x1) 144 (bd (f_X10_min N 100000000 (x3_6 + (gi s5 25 (ix (((12 : Int32) * x4_7) + x1)))) s5) (fun r9 s8 => some (r9, s8))))) N 0 x1 0 s
set_option maxRecDepth 20000 in
theorem w_X10_milesOfRow_8 {G : Gx} (hG : Gok G ∧ IsG G layM fsoM) {P : Option (Int32 × Mem) → Nat → List (Nat × Value) → List Value → Mem → Prop} (h : Jk G layM fsoM RX10 cX10_milesOfRow 7 (some .int) 1 tvI P) (N : Nat) (x1 : Int32) (x2 : Int32) {k60 : Int32 → Int32 → Mem → Option (Int32 × Mem)} (hk60 : ∀ (x3 : Int32) (x4 : Int32) (s : Mem), P (k60 x3 x4 s) 60 [(0, .ref (Ga G 0)), (1, .int x1), (3, .int x3), (4, .int x4)] [] s) {rec : Int32 → Int32 → Int32 → Mem → Option (Int32 × Mem)} (ih : ∀ (x3 : Int32) (x4 : Int32) (x5 : Int32) (s : Mem), P (rec x3 x4 x5 s) 8 [(0, .ref (Ga G 0)), (1, .int x1), (2, .int x2), (3, .int x3), (4, .int x4), (5, .int x5)] [] s) : ∀ (x3 : Int32) (x4 : Int32) (x5 : Int32) (s : Mem), P (st_X10_milesOfRow_8 N x1 x2 k60 rec x3 x4 x5 s) 8 [(0, .ref (Ga G 0)), (1, .int x1), (2, .int x2), (3, .int x3), (4, .int x4), (5, .int x5)] [] s := by
  intro x3 x4 x5 s0
  unfold st_X10_milesOfRow_8
  refine jx_iload h dX10_milesOfRow_8 5 rfl ?_
  refine jx_iload_n h dX10_milesOfRow_10 rfl 2 rfl ?_
  refine jx_icmp_ge (tgt := 60) h dX10_milesOfRow_11 rfl ?_ ?_
  · exact jx_subk [0, 1, 3, 4] h (hk60 x3 x4 s0) rfl
  · refine jx_aload_n h dX10_milesOfRow_14 rfl 0 rfl ?_
    refine jx_get (v := .ref (Ga G 26)) h fa_X10_86 lm_0 dX10_milesOfRow_15 rfl ?_
    refine jx_aload_n h dX10_milesOfRow_18 rfl 0 rfl ?_
    refine jx_get (v := .ref (Ga G 27)) h fa_X10_89 lm_0 dX10_milesOfRow_19 rfl ?_
    refine jx_iload h dX10_milesOfRow_22 5 rfl ?_
    refine jx_iaload h lm_27 dX10_milesOfRow_24 ?_
    refine jx_iaload h lm_26 dX10_milesOfRow_25 ?_
    refine jx_lti (fun v1 => ?_)
    refine jx_istore (lv' := [(6, .int v1), (0, .ref (Ga G 0)), (1, .int x1), (2, .int x2), (3, .int x3), (4, .int x4), (5, .int x5)]) h dX10_milesOfRow_26 (Nat.le_of_ble_eq_true rfl) rfl ?_
    refine jx_ldcw h dX10_milesOfRow_28 kw_X10_339 ?_
    refine jx_iload_n h dX10_milesOfRow_31 rfl 4 rfl ?_
    refine jx_aload_n h dX10_milesOfRow_32 rfl 1 rfl ?_
    refine jx_get (v := .ref (Ga G 25)) h fa_X10_83 lm_0 dX10_milesOfRow_33 rfl ?_
    refine jx_bipush h dX10_milesOfRow_36 kb_12 ?_
    refine jx_iload h dX10_milesOfRow_38 5 rfl ?_
    refine jx_imul h dX10_milesOfRow_40 ?_
    refine jx_iload h dX10_milesOfRow_41 0 rfl ?_
    refine jx_iadd h dX10_milesOfRow_43 ?_
    refine jx_iaload h lm_25 dX10_milesOfRow_44 ?_
    refine jx_iadd h dX10_milesOfRow_45 ?_
    refine jx_callSi [] h (c_X10_min hG N 100000000 (x3 + (gi s0 25 (ix (((12 : Int32) * x4) + v1)))) s0) ml_X10_271 (Nat.le_of_ble_eq_true rfl) (Nat.le_of_ble_eq_true rfl) dX10_milesOfRow_46 (Nat.le_of_ble_eq_true rfl) rfl (fun r3 s2 => ?_)
    refine jx_istore_n (lv' := [(3, .int r3), (6, .int v1), (0, .ref (Ga G 0)), (1, .int x1), (2, .int x2), (4, .int x4), (5, .int x5)]) h dX10_milesOfRow_49 rfl (Nat.le_of_ble_eq_true rfl) rfl ?_
    refine jx_iload h dX10_milesOfRow_50 1 rfl ?_
    refine jx_istore (lv' := [(4, .int v1), (3, .int r3), (6, .int v1), (0, .ref (Ga G 0)), (1, .int x1), (2, .int x2), (5, .int x5)]) h dX10_milesOfRow_52 (Nat.le_of_ble_eq_true rfl) rfl ?_
    refine jx_iincl (L := fun w => [(5, .int w), (4, .int v1), (3, .int r3), (6, .int v1), (0, .ref (Ga G 0)), (1, .int x1), (2, .int x2)]) h dX10_milesOfRow_54 6 rfl (kn_1 _) (Nat.le_of_ble_eq_true rfl) (fun _ => rfl) (fun x5_4 => ?_)
    refine jx_goto (tgt := 8) h dX10_milesOfRow_57 rfl ?_
    exact jx_subk [4, 5, 6, 2, 1, 0] h (ih r3 v1 x5_4 s2) rfl
set_option maxRecDepth 20000 in
theorem c_X10_milesOfRow {G : Gx} (hG : Gok G ∧ IsG G layM fsoM) (N : Nat) (x1 : Int32) (x2 : Int32) (s : Mem) : Ct G yX10_milesOfRow cX10_milesOfRow 7 (some .int) 1 [.ref (Ga G 0), .int x1, .int x2] tvI s (f_X10_milesOfRow N x1 x2 s) := by
  refine Ct.of hG (by decide) (Nat.le_of_ble_eq_true rfl) (fun P h => ?_)
  show P _ 0 [(0, .ref (Ga G 0)), (1, .int x1), (2, .int x2)] [] s
  unfold f_X10_milesOfRow
  refine jx_iconst h dX10_milesOfRow_0 ki_0 ?_
  refine jx_istore_n (lv' := [(3, .int 0), (0, .ref (Ga G 0)), (1, .int x1), (2, .int x2)]) h dX10_milesOfRow_1 rfl (Nat.le_of_ble_eq_true rfl) rfl ?_
  refine jx_iload_n h dX10_milesOfRow_2 rfl 2 rfl ?_
  refine jx_istore (lv' := [(4, .int x1), (3, .int 0), (0, .ref (Ga G 0)), (1, .int x1), (2, .int x2)]) h dX10_milesOfRow_3 (Nat.le_of_ble_eq_true rfl) rfl ?_
  refine jx_iconst h dX10_milesOfRow_5 ki_0 ?_
  refine jx_istore (lv' := [(5, .int 0), (4, .int x1), (3, .int 0), (0, .ref (Ga G 0)), (1, .int x1), (2, .int x2)]) h dX10_milesOfRow_6 (Nat.le_of_ble_eq_true rfl) rfl ?_
  refine jx_subk [3, 4, 5, 2, 1, 0] h (itr_ind (Q := (fun (f : Int32 → Int32 → Int32 → Mem → Option (Int32 × Mem)) => ∀ (x3 : Int32) (x4 : Int32) (x5 : Int32) (s : Mem), P (f x3 x4 x5 s) 8 [(0, .ref (Ga G 0)), (1, .int x1), (2, .int x2), (3, .int x3), (4, .int x4), (5, .int x5)] [] s)) (fun _ _ _ _ => jx_none h) (fun r8 ih8 => ?_) N 0 x1 0 s) rfl
  refine w_X10_milesOfRow_8 hG h N x1 x2 ?_ ih8
  intro x3_6 x4_7 s5
  refine jx_ldcw h dX10_milesOfRow_60 kw_X10_339 ?_
  refine jx_iload_n h dX10_milesOfRow_63 rfl 2 rfl ?_
  refine jx_aload_n h dX10_milesOfRow_64 rfl 0 rfl ?_
  refine jx_get (v := .ref (Ga G 25)) h fa_X10_83 lm_0 dX10_milesOfRow_65 rfl ?_
  refine jx_bipush h dX10_milesOfRow_68 kb_12 ?_
  refine jx_iload h dX10_milesOfRow_70 3 rfl ?_
  refine jx_imul h dX10_milesOfRow_72 ?_
  refine jx_iload_n h dX10_milesOfRow_73 rfl 1 rfl ?_
  refine jx_iadd h dX10_milesOfRow_74 ?_
  refine jx_iaload h lm_25 dX10_milesOfRow_75 ?_
  refine jx_iadd h dX10_milesOfRow_76 ?_
  refine jx_callSi [] h (c_X10_min hG N 100000000 (x3_6 + (gi s5 25 (ix (((12 : Int32) * x4_7) + x1)))) s5) ml_X10_271 (Nat.le_of_ble_eq_true rfl) (Nat.le_of_ble_eq_true rfl) dX10_milesOfRow_77 (Nat.le_of_ble_eq_true rfl) rfl (fun r9 s8 => ?_)
  exact jx_iret h dX10_milesOfRow_80
noncomputable def st_X10_round_102 (N : Nat) (x1 : Int32) (x3 : Int32) (x4 : Int32) (k144 : Int32 → Mem → Option (Int32 × Mem)) (rec : Int32 → Int32 → Mem → Option (Int32 × Mem)) (x5 : Int32) (x6 : Int32) (s0 : Mem) : Option (Int32 × Mem) :=
  if x6 = 0 then (k144 x5 s0) else bd (f_X10_milesOfRow N x1 x4 s0) (fun r19 s18 => lt (fun (x5_21 : Int32) (s20 : Mem) => bd (f_X10_nextRow N x4 s20) (fun r23 s22 => rec x5_21 r23 s22)) (fun j133 => if x5 ≤ r19 then (j133 x5 s18) else bd (f_X10_keepsRow N x4 s18) (fun _ s24 => j133 r19 s24)))
noncomputable def f_X10_round (N : Nat) (x1 : Int32) (x2 : Int32) (x3 : Int32) (s : Mem) : Option (Int32 × Mem) :=
  bd (f_X10_isParish N x1 s) (fun r2 s1 => if r2 = 0 then (some ((-1), s1)) else bd (f_X10_in N x2 1 4095 s1) (fun r4 s3 => if r4 = 0 then (some ((-1), s3)) else chk 145 151 (if (x2 &&& ((gi s3 1 (ix (145 : Int32))) ^^^ (-1))) = 0 then (bd (f_X10_has N x2 x1 s3) (fun r6 s5 => if r6 = 0 then (bd (f_X10_bits N x2 s5) (fun r8 s7 => if r8 ≤ 7 then (bd (f_X10_bits N x2 s7) (fun r10 s9 => lt (fun  (s11 : Mem) => bd (f_X10_laysWays N s11) (fun _ s12 => bd (f_X10_listsOnes N x2 s12) (fun _ s14 => bd (f_X10_beginsRows N r10 s14) (fun _ s16 => itr (fun _ _ _ => none) (st_X10_round_102 N x1 x3 r10 (fun (x5_27 : Int32) (s26 : Mem) => if x5_27 = 100000000 then (some ((-2), s26)) else if x3 = 100 then (some (x5_27, s26)) else chk x3 7 (some (gi s26 28 (ix x3), s26)))) N 100000000 1 s16)))) (fun j79 => if x3 = 100 then (j79 s9) else bd (f_X10_in N x3 0 (r10 - 1) s9) (fun r29 s28 => if r29 = 0 then (some ((-1), s28)) else j79 s28)))) else some ((-1), s7))) else some ((-1), s5))) else some ((-1), s3))))
set_option maxRecDepth 20000 in
theorem w_X10_round_102 {G : Gx} (hG : Gok G ∧ IsG G layM fsoM) {P : Option (Int32 × Mem) → Nat → List (Nat × Value) → List Value → Mem → Prop} (h : Jk G layM fsoM RX10 cX10_round 8 (some .int) 2 tvI P) (N : Nat) (x1 : Int32) (x3 : Int32) (x4 : Int32) {k144 : Int32 → Mem → Option (Int32 × Mem)} (hk144 : ∀ (x5 : Int32) (s : Mem), P (k144 x5 s) 144 [(0, .ref (Ga G 0)), (3, .int x3), (5, .int x5)] [] s) {rec : Int32 → Int32 → Mem → Option (Int32 × Mem)} (ih : ∀ (x5 : Int32) (x6 : Int32) (s : Mem), P (rec x5 x6 s) 102 [(0, .ref (Ga G 0)), (1, .int x1), (3, .int x3), (4, .int x4), (5, .int x5), (6, .int x6)] [] s) : ∀ (x5 : Int32) (x6 : Int32) (s : Mem), P (st_X10_round_102 N x1 x3 x4 k144 rec x5 x6 s) 102 [(0, .ref (Ga G 0)), (1, .int x1), (3, .int x3), (4, .int x4), (5, .int x5), (6, .int x6)] [] s := by
  intro x5 x6 s0
  unfold st_X10_round_102
  refine jx_iload h dX10_round_102 5 rfl ?_
  refine jx_if_eq (tgt := 144) h dX10_round_104 rfl ?_ ?_
  · exact jx_subk [0, 2, 4] h (hk144 x5 s0) rfl
  · refine jx_aload_n h dX10_round_107 rfl 0 rfl ?_
    refine jx_iload_n h dX10_round_108 rfl 1 rfl ?_
    refine jx_iload h dX10_round_109 3 rfl ?_
    refine jx_callVi [] h lm_0 (c_X10_milesOfRow hG N x1 x4 s0) ml_X10_355 (Nat.le_of_ble_eq_true rfl) (Nat.le_of_ble_eq_true rfl) dX10_round_111 (Nat.le_of_ble_eq_true rfl) rfl (fun r19 s18 => ?_)
    refine jx_istore (lv' := [(7, .int r19), (0, .ref (Ga G 0)), (1, .int x1), (3, .int x3), (4, .int x4), (5, .int x5), (6, .int x6)]) h dX10_round_114 (Nat.le_of_ble_eq_true rfl) rfl ?_
    refine jx_iload h dX10_round_116 0 rfl ?_
    refine jx_iload h dX10_round_118 5 rfl ?_
    refine jx_join (fun (j : Int32 → Mem → Option (Int32 × Mem)) => ∀ (x5_21 : Int32) (s20 : Mem), P (j x5_21 s20) 133 [(0, .ref (Ga G 0)), (1, .int x1), (3, .int x3), (4, .int x4), (5, .int x5_21)] [] s20) (fun x5_21 s20 => ?_) (fun j133 hj133 => ?_)
    · refine jx_aload_n h dX10_round_133 rfl 0 rfl ?_
      refine jx_iload h dX10_round_134 3 rfl ?_
      refine jx_callVi [] h lm_0 (c_X10_nextRow hG N x4 s20) ml_X10_361 (Nat.le_of_ble_eq_true rfl) (Nat.le_of_ble_eq_true rfl) dX10_round_136 (Nat.le_of_ble_eq_true rfl) rfl (fun r23 s22 => ?_)
      refine jx_istore (lv' := [(6, .int r23), (0, .ref (Ga G 0)), (1, .int x1), (3, .int x3), (4, .int x4), (5, .int x5_21)]) h dX10_round_139 (Nat.le_of_ble_eq_true rfl) rfl ?_
      refine jx_goto (tgt := 102) h dX10_round_141 rfl ?_
      exact jx_subk [1, 2, 3, 4, 5, 0] h (ih x5_21 r23 s22) rfl
    · refine jx_icmp_ge (tgt := 133) h dX10_round_120 rfl ?_ ?_
      · exact jx_subk [1, 2, 3, 4, 5] h (hj133 x5 s18) rfl
      · refine jx_iload h dX10_round_123 0 rfl ?_
        refine jx_istore (lv' := [(5, .int r19), (7, .int r19), (0, .ref (Ga G 0)), (1, .int x1), (3, .int x3), (4, .int x4), (6, .int x6)]) h dX10_round_125 (Nat.le_of_ble_eq_true rfl) rfl ?_
        refine jx_aload_n h dX10_round_127 rfl 2 rfl ?_
        refine jx_iload h dX10_round_128 5 rfl ?_
        refine jx_callVv [] h lm_0 (c_X10_keepsRow hG N x4 s18) ml_X10_358 (Nat.le_of_ble_eq_true rfl) (Nat.le_of_ble_eq_true rfl) dX10_round_130 (Nat.le_of_ble_eq_true rfl) rfl (fun s24 => ?_)
        exact jx_subk [2, 3, 4, 5, 0] h (hj133 r19 s24) rfl
set_option maxRecDepth 20000 in
theorem c_X10_round {G : Gx} (hG : Gok G ∧ IsG G layM fsoM) (N : Nat) (x1 : Int32) (x2 : Int32) (x3 : Int32) (s : Mem) : Ct G yX10_round cX10_round 8 (some .int) 2 [.ref (Ga G 0), .int x1, .int x2, .int x3] tvI s (f_X10_round N x1 x2 x3 s) := by
  refine Ct.of hG (by decide) (Nat.le_of_ble_eq_true rfl) (fun P h => ?_)
  show P _ 0 [(0, .ref (Ga G 0)), (1, .int x1), (2, .int x2), (3, .int x3)] [] s
  unfold f_X10_round
  refine jx_aload_n h dX10_round_0 rfl 0 rfl ?_
  refine jx_iload_n h dX10_round_1 rfl 1 rfl ?_
  refine jx_callVi [] h lm_0 (c_X10_isParish hG N x1 s) ml_X10_146 (Nat.le_of_ble_eq_true rfl) (Nat.le_of_ble_eq_true rfl) dX10_round_2 (Nat.le_of_ble_eq_true rfl) rfl (fun r2 s1 => ?_)
  refine jx_if_eq (tgt := 51) h dX10_round_5 rfl ?_ ?_
  · refine jx_iconst h dX10_round_51 ki_m1 ?_
    exact jx_iret h dX10_round_52
  · refine jx_iload_n h dX10_round_8 rfl 2 rfl ?_
    refine jx_iconst h dX10_round_9 ki_1 ?_
    refine jx_sipush h dX10_round_10 ks_4095 ?_
    refine jx_callSi [] h (c_X10_in hG N x2 1 4095 s1) ml_X10_134 (Nat.le_of_ble_eq_true rfl) (Nat.le_of_ble_eq_true rfl) dX10_round_13 (Nat.le_of_ble_eq_true rfl) rfl (fun r4 s3 => ?_)
    refine jx_if_eq (tgt := 51) h dX10_round_16 rfl ?_ ?_
    · refine jx_iconst h dX10_round_51 ki_m1 ?_
      exact jx_iret h dX10_round_52
    · refine jx_iload_n h dX10_round_19 rfl 2 rfl ?_
      refine jx_aload_n h dX10_round_20 rfl 0 rfl ?_
      refine jx_get (v := .ref (Ga G 1)) h fa_X10_7 lm_0 dX10_round_21 rfl ?_
      refine jx_sipush h dX10_round_24 ks_145 ?_
      refine jx_iaload h lm_1 dX10_round_27 ?_
      refine jx_iconst h dX10_round_28 ki_m1 ?_
      refine jx_ixor h dX10_round_29 ?_
      refine jx_iand h dX10_round_30 ?_
      refine jx_if_ne (tgt := 51) h dX10_round_31 rfl ?_ ?_
      · refine jx_iconst h dX10_round_51 ki_m1 ?_
        exact jx_iret h dX10_round_52
      · refine jx_iload_n h dX10_round_34 rfl 2 rfl ?_
        refine jx_iload_n h dX10_round_35 rfl 1 rfl ?_
        refine jx_callSi [] h (c_X10_has hG N x2 x1 s3) ml_X10_138 (Nat.le_of_ble_eq_true rfl) (Nat.le_of_ble_eq_true rfl) dX10_round_36 (Nat.le_of_ble_eq_true rfl) rfl (fun r6 s5 => ?_)
        refine jx_if_ne (tgt := 51) h dX10_round_39 rfl ?_ ?_
        · refine jx_iconst h dX10_round_51 ki_m1 ?_
          exact jx_iret h dX10_round_52
        · refine jx_iload_n h dX10_round_42 rfl 2 rfl ?_
          refine jx_callSi [] h (c_X10_bits hG N x2 s5) ml_X10_346 (Nat.le_of_ble_eq_true rfl) (Nat.le_of_ble_eq_true rfl) dX10_round_43 (Nat.le_of_ble_eq_true rfl) rfl (fun r8 s7 => ?_)
          refine jx_bipush h dX10_round_46 kb_7 ?_
          refine jx_icmp_le (tgt := 53) h dX10_round_48 rfl ?_ ?_
          · refine jx_iload_n h dX10_round_53 rfl 2 rfl ?_
            refine jx_callSi [] h (c_X10_bits hG N x2 s7) ml_X10_346 (Nat.le_of_ble_eq_true rfl) (Nat.le_of_ble_eq_true rfl) dX10_round_54 (Nat.le_of_ble_eq_true rfl) rfl (fun r10 s9 => ?_)
            refine jx_istore (lv' := [(4, .int r10), (0, .ref (Ga G 0)), (1, .int x1), (2, .int x2), (3, .int x3)]) h dX10_round_57 (Nat.le_of_ble_eq_true rfl) rfl ?_
            refine jx_iload_n h dX10_round_59 rfl 4 rfl ?_
            refine jx_bipush h dX10_round_60 kb_100 ?_
            refine jx_join (fun (j : Mem → Option (Int32 × Mem)) => ∀  (s11 : Mem), P (j  s11) 79 [(0, .ref (Ga G 0)), (1, .int x1), (2, .int x2), (3, .int x3), (4, .int r10)] [] s11) (fun  s11 => ?_) (fun j79 hj79 => ?_)
            · refine jx_aload_n h dX10_round_79 rfl 0 rfl ?_
              refine jx_callVv [] h lm_0 (c_X10_laysWays hG N  s11) ml_X10_340 (Nat.le_of_ble_eq_true rfl) (Nat.le_of_ble_eq_true rfl) dX10_round_80 (Nat.le_of_ble_eq_true rfl) rfl (fun s12 => ?_)
              refine jx_aload_n h dX10_round_83 rfl 0 rfl ?_
              refine jx_iload_n h dX10_round_84 rfl 2 rfl ?_
              refine jx_callVv [] h lm_0 (c_X10_listsOnes hG N x2 s12) ml_X10_349 (Nat.le_of_ble_eq_true rfl) (Nat.le_of_ble_eq_true rfl) dX10_round_85 (Nat.le_of_ble_eq_true rfl) rfl (fun s14 => ?_)
              refine jx_aload_n h dX10_round_88 rfl 0 rfl ?_
              refine jx_iload h dX10_round_89 4 rfl ?_
              refine jx_callVv [] h lm_0 (c_X10_beginsRows hG N r10 s14) ml_X10_352 (Nat.le_of_ble_eq_true rfl) (Nat.le_of_ble_eq_true rfl) dX10_round_91 (Nat.le_of_ble_eq_true rfl) rfl (fun s16 => ?_)
              refine jx_ldcw h dX10_round_94 kw_X10_339 ?_
              refine jx_istore (lv' := [(5, .int 100000000), (0, .ref (Ga G 0)), (1, .int x1), (2, .int x2), (3, .int x3), (4, .int r10)]) h dX10_round_97 (Nat.le_of_ble_eq_true rfl) rfl ?_
              refine jx_iconst h dX10_round_99 ki_1 ?_
              refine jx_istore (lv' := [(6, .int 1), (5, .int 100000000), (0, .ref (Ga G 0)), (1, .int x1), (2, .int x2), (3, .int x3), (4, .int r10)]) h dX10_round_100 (Nat.le_of_ble_eq_true rfl) rfl ?_
              refine jx_subk [2, 3, 5, 6, 1, 0] h (itr_ind (Q := (fun (f : Int32 → Int32 → Mem → Option (Int32 × Mem)) => ∀ (x5 : Int32) (x6 : Int32) (s : Mem), P (f x5 x6 s) 102 [(0, .ref (Ga G 0)), (1, .int x1), (3, .int x3), (4, .int r10), (5, .int x5), (6, .int x6)] [] s)) (fun _ _ _ => jx_none h) (fun r102 ih102 => ?_) N 100000000 1 s16) rfl
              refine w_X10_round_102 hG h N x1 x3 r10 ?_ ih102
              intro x5_27 s26
              refine jx_iload h dX10_round_144 2 rfl ?_
              refine jx_ldcw h dX10_round_146 kw_X10_339 ?_
              refine jx_icmp_ne (tgt := 157) h dX10_round_149 rfl ?_ ?_
              · refine jx_iload_n h dX10_round_157 rfl 1 rfl ?_
                refine jx_bipush h dX10_round_158 kb_100 ?_
                refine jx_icmp_ne (tgt := 168) h dX10_round_160 rfl ?_ ?_
                · refine jx_aload_n h dX10_round_168 rfl 0 rfl ?_
                  refine jx_get (v := .ref (Ga G 28)) h fa_X10_92 lm_0 dX10_round_169 rfl ?_
                  refine jx_iload_n h dX10_round_172 rfl 1 rfl ?_
                  refine jx_iaload h lm_28 dX10_round_173 ?_
                  exact jx_iret h dX10_round_174
                · refine jx_iload h dX10_round_163 2 rfl ?_
                  refine jx_goto (tgt := 174) h dX10_round_165 rfl ?_
                  exact jx_iret h dX10_round_174
              · refine jx_bipush h dX10_round_152 kb_m2 ?_
                refine jx_goto (tgt := 174) h dX10_round_154 rfl ?_
                exact jx_iret h dX10_round_174
            · refine jx_icmp_eq (tgt := 79) h dX10_round_62 rfl ?_ ?_
              · exact jx_subk [1, 2, 3, 4, 0] h (hj79 s9) rfl
              · refine jx_iload_n h dX10_round_65 rfl 4 rfl ?_
                refine jx_iconst h dX10_round_66 ki_0 ?_
                refine jx_iload h dX10_round_67 0 rfl ?_
                refine jx_iconst h dX10_round_69 ki_1 ?_
                refine jx_isub h dX10_round_70 ?_
                refine jx_callSi [] h (c_X10_in hG N x3 0 (r10 - 1) s9) ml_X10_134 (Nat.le_of_ble_eq_true rfl) (Nat.le_of_ble_eq_true rfl) dX10_round_71 (Nat.le_of_ble_eq_true rfl) rfl (fun r29 s28 => ?_)
                refine jx_if_ne (tgt := 79) h dX10_round_74 rfl ?_ ?_
                · exact jx_subk [1, 2, 3, 4, 0] h (hj79 s28) rfl
                · refine jx_iconst h dX10_round_77 ki_m1 ?_
                  exact jx_iret h dX10_round_78
          · refine jx_iconst h dX10_round_51 ki_m1 ?_
            exact jx_iret h dX10_round_52
noncomputable def st_X10_takesPast_2 (N : Nat) (x1 : Int32)  (rec : Int32 → Mem → Option (Unit × Mem)) (x2 : Int32) (s0 : Mem) : Option (Unit × Mem) :=
  if 3 ≤ x2 then (some ((), s0)) else chk (((90 : Int32) + ((3 : Int32) * x1)) + x2) 151 (chk x2 3 (lt (si s0 29 (ix x2) (gi s0 1 (ix (((90 : Int32) + ((3 : Int32) * x1)) + x2)))) (fun s1 => lt (x2 + 1) (fun x2_2 => rec x2_2 s1))))
noncomputable def f_X10_takesPast (N : Nat) (x1 : Int32) (s : Mem) : Option (Unit × Mem) :=
  itr (fun _ _ => none) (st_X10_takesPast_2 N x1) N 0 s
set_option maxRecDepth 20000 in
theorem w_X10_takesPast_2 {G : Gx} (hG : Gok G ∧ IsG G layM fsoM) {P : Option (Unit × Mem) → Nat → List (Nat × Value) → List Value → Mem → Prop} (h : Jk G layM fsoM RX10 cX10_takesPast 3 none 0 tvV P) (N : Nat) (x1 : Int32) {rec : Int32 → Mem → Option (Unit × Mem)} (ih : ∀ (x2 : Int32) (s : Mem), P (rec x2 s) 2 [(0, .ref (Ga G 0)), (1, .int x1), (2, .int x2)] [] s) : ∀ (x2 : Int32) (s : Mem), P (st_X10_takesPast_2 N x1 rec x2 s) 2 [(0, .ref (Ga G 0)), (1, .int x1), (2, .int x2)] [] s := by
  intro x2 s0
  unfold st_X10_takesPast_2
  refine jx_iload_n h dX10_takesPast_2 rfl 2 rfl ?_
  refine jx_iconst h dX10_takesPast_3 ki_3 ?_
  refine jx_icmp_ge (tgt := 32) h dX10_takesPast_4 rfl ?_ ?_
  · exact jx_vret h dX10_takesPast_32
  · refine jx_aload_n h dX10_takesPast_7 rfl 0 rfl ?_
    refine jx_get (v := .ref (Ga G 29)) h fa_X10_95 lm_0 dX10_takesPast_8 rfl ?_
    refine jx_iload_n h dX10_takesPast_11 rfl 2 rfl ?_
    refine jx_aload_n h dX10_takesPast_12 rfl 0 rfl ?_
    refine jx_get (v := .ref (Ga G 1)) h fa_X10_7 lm_0 dX10_takesPast_13 rfl ?_
    refine jx_bipush h dX10_takesPast_16 kb_90 ?_
    refine jx_iconst h dX10_takesPast_18 ki_3 ?_
    refine jx_iload_n h dX10_takesPast_19 rfl 1 rfl ?_
    refine jx_imul h dX10_takesPast_20 ?_
    refine jx_iadd h dX10_takesPast_21 ?_
    refine jx_iload_n h dX10_takesPast_22 rfl 2 rfl ?_
    refine jx_iadd h dX10_takesPast_23 ?_
    refine jx_iaload h lm_1 dX10_takesPast_24 ?_
    refine jx_iastore h lm_29 dX10_takesPast_25 (fun s1 => ?_)
    refine jx_iincl (L := fun w => [(2, .int w), (0, .ref (Ga G 0)), (1, .int x1)]) h dX10_takesPast_26 2 rfl (kn_1 _) (Nat.le_of_ble_eq_true rfl) (fun _ => rfl) (fun x2_2 => ?_)
    refine jx_goto (tgt := 2) h dX10_takesPast_29 rfl ?_
    exact jx_subk [1, 2, 0] h (ih x2_2 s1) rfl
set_option maxRecDepth 20000 in
theorem c_X10_takesPast {G : Gx} (hG : Gok G ∧ IsG G layM fsoM) (N : Nat) (x1 : Int32) (s : Mem) : Ct G yX10_takesPast cX10_takesPast 3 none 0 [.ref (Ga G 0), .int x1] tvV s (f_X10_takesPast N x1 s) := by
  refine Ct.of hG (by decide) (Nat.le_of_ble_eq_true rfl) (fun P h => ?_)
  show P _ 0 [(0, .ref (Ga G 0)), (1, .int x1)] [] s
  unfold f_X10_takesPast
  refine jx_iconst h dX10_takesPast_0 ki_0 ?_
  refine jx_istore_n (lv' := [(2, .int 0), (0, .ref (Ga G 0)), (1, .int x1)]) h dX10_takesPast_1 rfl (Nat.le_of_ble_eq_true rfl) rfl ?_
  refine jx_subk [1, 2, 0] h (itr_ind (Q := (fun (f : Int32 → Mem → Option (Unit × Mem)) => ∀ (x2 : Int32) (s : Mem), P (f x2 s) 2 [(0, .ref (Ga G 0)), (1, .int x1), (2, .int x2)] [] s)) (fun _ _ => jx_none h) (fun r2 ih2 => ?_) N 0 s) rfl
  refine w_X10_takesPast_2 hG h N x1  ih2
noncomputable def f_X10_pastGoes (N : Nat) (x1 : Int32) (s : Mem) : Option (Unit × Mem) :=
  chk 1 3 (chk 2 3 (lt (si s 29 (ix (2 : Int32)) (gi s 29 (ix (1 : Int32)))) (fun s1 => chk 0 3 (chk 1 3 (lt (si s1 29 (ix (1 : Int32)) (gi s1 29 (ix (0 : Int32)))) (fun s2 => chk 0 3 (lt (si s2 29 (ix (0 : Int32)) x1) (fun s3 => some ((), s3)))))))))
set_option maxRecDepth 20000 in
theorem c_X10_pastGoes {G : Gx} (hG : Gok G ∧ IsG G layM fsoM) (N : Nat) (x1 : Int32) (s : Mem) : Ct G yX10_pastGoes cX10_pastGoes 2 none 0 [.ref (Ga G 0), .int x1] tvV s (f_X10_pastGoes N x1 s) := by
  refine Ct.of hG (by decide) (Nat.le_of_ble_eq_true rfl) (fun P h => ?_)
  show P _ 0 [(0, .ref (Ga G 0)), (1, .int x1)] [] s
  unfold f_X10_pastGoes
  refine jx_aload_n h dX10_pastGoes_0 rfl 0 rfl ?_
  refine jx_get (v := .ref (Ga G 29)) h fa_X10_95 lm_0 dX10_pastGoes_1 rfl ?_
  refine jx_iconst h dX10_pastGoes_4 ki_2 ?_
  refine jx_aload_n h dX10_pastGoes_5 rfl 0 rfl ?_
  refine jx_get (v := .ref (Ga G 29)) h fa_X10_95 lm_0 dX10_pastGoes_6 rfl ?_
  refine jx_iconst h dX10_pastGoes_9 ki_1 ?_
  refine jx_iaload h lm_29 dX10_pastGoes_10 ?_
  refine jx_iastore h lm_29 dX10_pastGoes_11 (fun s1 => ?_)
  refine jx_aload_n h dX10_pastGoes_12 rfl 0 rfl ?_
  refine jx_get (v := .ref (Ga G 29)) h fa_X10_95 lm_0 dX10_pastGoes_13 rfl ?_
  refine jx_iconst h dX10_pastGoes_16 ki_1 ?_
  refine jx_aload_n h dX10_pastGoes_17 rfl 0 rfl ?_
  refine jx_get (v := .ref (Ga G 29)) h fa_X10_95 lm_0 dX10_pastGoes_18 rfl ?_
  refine jx_iconst h dX10_pastGoes_21 ki_0 ?_
  refine jx_iaload h lm_29 dX10_pastGoes_22 ?_
  refine jx_iastore h lm_29 dX10_pastGoes_23 (fun s2 => ?_)
  refine jx_aload_n h dX10_pastGoes_24 rfl 0 rfl ?_
  refine jx_get (v := .ref (Ga G 29)) h fa_X10_95 lm_0 dX10_pastGoes_25 rfl ?_
  refine jx_iconst h dX10_pastGoes_28 ki_0 ?_
  refine jx_iload_n h dX10_pastGoes_29 rfl 1 rfl ?_
  refine jx_iastore h lm_29 dX10_pastGoes_30 (fun s3 => ?_)
  exact jx_vret h dX10_pastGoes_31
noncomputable def f_X10_givenIn (N : Nat) (x1 : Int32) (x2 : Int32) (x3 : Int32) (s : Mem) : Option (Int32 × Mem) :=
  bd (f_X10_isKnown N x2 x1 s) (fun r2 s1 => lt (fun (t4 : Int32) (s3 : Mem) => chk 0 3 (chk 1 3 (chk 2 3 (chk 147 151 (bd (f_X10_feels N x1 x2 t4 0 (((gi s3 29 (ix (0 : Int32))) + (gi s3 29 (ix (1 : Int32)))) + (gi s3 29 (ix (2 : Int32)))) ((gi s3 1 (ix (147 : Int32))) + x3) s3) (fun _ s5 => bd (f_X10_byLaw N 103 999 s5) (fun r8 s7 => some (r8, s7)))))))) (fun j32 => if r2 = 0 then (chk ((132 : Int32) + x2) 151 (j32 (gi s1 1 (ix ((132 : Int32) + x2))) s1)) else bd (f_X10_known N x2 x1 s1) (fun r10 s9 => chk r10 151 (j32 (gi s9 1 (ix r10)) s9))))
set_option maxRecDepth 20000 in
theorem c_X10_givenIn {G : Gx} (hG : Gok G ∧ IsG G layM fsoM) (N : Nat) (x1 : Int32) (x2 : Int32) (x3 : Int32) (s : Mem) : Ct G yX10_givenIn cX10_givenIn 5 (some .int) 3 [.ref (Ga G 0), .int x1, .int x2, .int x3] tvI s (f_X10_givenIn N x1 x2 x3 s) := by
  refine Ct.of hG (by decide) (Nat.le_of_ble_eq_true rfl) (fun P h => ?_)
  show P _ 0 [(0, .ref (Ga G 0)), (1, .int x1), (2, .int x2), (3, .int x3)] [] s
  unfold f_X10_givenIn
  refine jx_aload_n h dX10_givenIn_0 rfl 0 rfl ?_
  refine jx_iload_n h dX10_givenIn_1 rfl 2 rfl ?_
  refine jx_iload_n h dX10_givenIn_2 rfl 1 rfl ?_
  refine jx_callVi [] h lm_0 (c_X10_isKnown hG N x2 x1 s) ml_X10_284 (Nat.le_of_ble_eq_true rfl) (Nat.le_of_ble_eq_true rfl) dX10_givenIn_3 (Nat.le_of_ble_eq_true rfl) rfl (fun r2 s1 => ?_)
  refine jx_join (fun (j : Int32 → Mem → Option (Int32 × Mem)) => ∀ (t4 : Int32) (s3 : Mem), P (j t4 s3) 32 [(0, .ref (Ga G 0)), (1, .int x1), (2, .int x2), (3, .int x3)] [.int t4] s3) (fun t4 s3 => ?_) (fun j32 hj32 => ?_)
  · refine jx_istore (lv' := [(4, .int t4), (0, .ref (Ga G 0)), (1, .int x1), (2, .int x2), (3, .int x3)]) h dX10_givenIn_32 (Nat.le_of_ble_eq_true rfl) rfl ?_
    refine jx_aload_n h dX10_givenIn_34 rfl 1 rfl ?_
    refine jx_iload_n h dX10_givenIn_35 rfl 2 rfl ?_
    refine jx_iload_n h dX10_givenIn_36 rfl 3 rfl ?_
    refine jx_iload h dX10_givenIn_37 0 rfl ?_
    refine jx_iconst h dX10_givenIn_39 ki_0 ?_
    refine jx_aload_n h dX10_givenIn_40 rfl 1 rfl ?_
    refine jx_get (v := .ref (Ga G 29)) h fa_X10_95 lm_0 dX10_givenIn_41 rfl ?_
    refine jx_iconst h dX10_givenIn_44 ki_0 ?_
    refine jx_iaload h lm_29 dX10_givenIn_45 ?_
    refine jx_aload_n h dX10_givenIn_46 rfl 1 rfl ?_
    refine jx_get (v := .ref (Ga G 29)) h fa_X10_95 lm_0 dX10_givenIn_47 rfl ?_
    refine jx_iconst h dX10_givenIn_50 ki_1 ?_
    refine jx_iaload h lm_29 dX10_givenIn_51 ?_
    refine jx_iadd h dX10_givenIn_52 ?_
    refine jx_aload_n h dX10_givenIn_53 rfl 1 rfl ?_
    refine jx_get (v := .ref (Ga G 29)) h fa_X10_95 lm_0 dX10_givenIn_54 rfl ?_
    refine jx_iconst h dX10_givenIn_57 ki_2 ?_
    refine jx_iaload h lm_29 dX10_givenIn_58 ?_
    refine jx_iadd h dX10_givenIn_59 ?_
    refine jx_aload_n h dX10_givenIn_60 rfl 1 rfl ?_
    refine jx_get (v := .ref (Ga G 1)) h fa_X10_7 lm_0 dX10_givenIn_61 rfl ?_
    refine jx_sipush h dX10_givenIn_64 ks_147 ?_
    refine jx_iaload h lm_1 dX10_givenIn_67 ?_
    refine jx_iload_n h dX10_givenIn_68 rfl 4 rfl ?_
    refine jx_iadd h dX10_givenIn_69 ?_
    refine jx_callVv [] h lm_0 (c_X10_feels hG N x1 x2 t4 0 (((gi s3 29 (ix (0 : Int32))) + (gi s3 29 (ix (1 : Int32)))) + (gi s3 29 (ix (2 : Int32)))) ((gi s3 1 (ix (147 : Int32))) + x3) s3) ml_X10_290 (Nat.le_of_ble_eq_true rfl) (Nat.le_of_ble_eq_true rfl) dX10_givenIn_70 (Nat.le_of_ble_eq_true rfl) rfl (fun s5 => ?_)
    refine jx_aload_n h dX10_givenIn_73 rfl 1 rfl ?_
    refine jx_bipush h dX10_givenIn_74 kb_103 ?_
    refine jx_sipush h dX10_givenIn_76 ks_999 ?_
    refine jx_callVi [] h lm_0 (c_X10_byLaw hG N 103 999 s5) ml_X10_301 (Nat.le_of_ble_eq_true rfl) (Nat.le_of_ble_eq_true rfl) dX10_givenIn_79 (Nat.le_of_ble_eq_true rfl) rfl (fun r8 s7 => ?_)
    exact jx_iret h dX10_givenIn_82
  · refine jx_if_eq (tgt := 22) h dX10_givenIn_6 rfl ?_ ?_
    · refine jx_aload_n h dX10_givenIn_22 rfl 0 rfl ?_
      refine jx_get (v := .ref (Ga G 1)) h fa_X10_7 lm_0 dX10_givenIn_23 rfl ?_
      refine jx_sipush h dX10_givenIn_26 ks_132 ?_
      refine jx_iload_n h dX10_givenIn_29 rfl 2 rfl ?_
      refine jx_iadd h dX10_givenIn_30 ?_
      refine jx_iaload h lm_1 dX10_givenIn_31 ?_
      exact hj32 (gi s1 1 (ix ((132 : Int32) + x2))) s1
    · refine jx_aload_n h dX10_givenIn_9 rfl 0 rfl ?_
      refine jx_get (v := .ref (Ga G 1)) h fa_X10_7 lm_0 dX10_givenIn_10 rfl ?_
      refine jx_iload_n h dX10_givenIn_13 rfl 2 rfl ?_
      refine jx_iload_n h dX10_givenIn_14 rfl 1 rfl ?_
      refine jx_callSi [.ref (Ga G 1)] h (c_X10_known hG N x2 x1 s1) ml_X10_142 (Nat.le_of_ble_eq_true rfl) (Nat.le_of_ble_eq_true rfl) dX10_givenIn_15 (Nat.le_of_ble_eq_true rfl) rfl (fun r10 s9 => ?_)
      refine jx_iaload h lm_1 dX10_givenIn_18 ?_
      refine jx_goto (tgt := 32) h dX10_givenIn_19 rfl ?_
      exact hj32 (gi s9 1 (ix r10)) s9
noncomputable def st_X10_readsMost_102 (N : Nat) (x1 : Int32) (x3 : Int32) (x4 : Int32) (x5 : Int32) (k144 : Int32 → Mem → Option (Int32 × Mem)) (rec : Int32 → Int32 → Mem → Option (Int32 × Mem)) (x7 : Int32) (x8 : Int32) (s0 : Mem) : Option (Int32 × Mem) :=
  if x4 ≤ x8 then (k144 x7 s0) else chk x8 7 (chk (gi s0 27 (ix x8)) 7 (bd (f_X10_givenIn N x1 (gi s0 26 (ix (gi s0 27 (ix x8)))) x8 s0) (fun r17 s16 => lt (x7 + r17) (fun v18 => bd (f_X10_pastGoes N 1 s16) (fun _ s19 => lt (x8 + 1) (fun x8_21 => rec v18 x8_21 s19))))))
noncomputable def st_X10_readsMost_86 (N : Nat) (x1 : Int32) (x3 : Int32) (x4 : Int32) (k172 : Int32 → Mem → Option (Int32 × Mem)) (rec : Int32 → Int32 → Mem → Option (Int32 × Mem)) (x5 : Int32) (x6 : Int32) (s0 : Mem) : Option (Int32 × Mem) :=
  if x6 = 0 then (k172 x5 s0) else bd (f_X10_takesPast N x1 s0) (fun _ s14 => itr (fun _ _ _ => none) (st_X10_readsMost_102 N x1 x3 x4 x5 (fun (x7_23 : Int32) (s22 : Mem) => lt (fun (x5_25 : Int32) (s24 : Mem) => bd (f_X10_nextRow N x4 s24) (fun r27 s26 => rec x5_25 r27 s26)) (fun j161 => if x7_23 ≤ x5 then (j161 x5 s22) else bd (f_X10_keepsRow N x4 s22) (fun _ s28 => j161 x7_23 s28)))) N 0 0 s14)
noncomputable def f_X10_readsMost (N : Nat) (x1 : Int32) (x2 : Int32) (x3 : Int32) (s : Mem) : Option (Int32 × Mem) :=
  bd (f_X10_isParish N x1 s) (fun r2 s1 => if r2 = 0 then (some ((-1), s1)) else bd (f_X10_in N x2 1 63 s1) (fun r4 s3 => if r4 = 0 then (some ((-1), s3)) else chk 146 151 (if (x2 &&& ((gi s3 1 (ix (146 : Int32))) ^^^ (-1))) = 0 then (bd (f_X10_bits N x2 s3) (fun r6 s5 => if r6 ≤ 5 then (bd (f_X10_bits N x2 s5) (fun r8 s7 => lt (fun  (s9 : Mem) => bd (f_X10_listsOnes N x2 s9) (fun _ s10 => bd (f_X10_beginsRows N r8 s10) (fun _ s12 => itr (fun _ _ _ => none) (st_X10_readsMost_86 N x1 x3 r8 (fun (x5_31 : Int32) (s30 : Mem) => if x3 = 100 then (some (x5_31, s30)) else chk x3 7 (some (gi s30 28 (ix x3), s30)))) N (-1) 1 s12))) (fun j69 => if x3 = 100 then (j69 s7) else bd (f_X10_in N x3 0 (r8 - 1) s7) (fun r33 s32 => if r33 = 0 then (some ((-1), s32)) else j69 s32)))) else some ((-1), s5))) else some ((-1), s3))))
set_option maxRecDepth 20000 in
theorem w_X10_readsMost_102 {G : Gx} (hG : Gok G ∧ IsG G layM fsoM) {P : Option (Int32 × Mem) → Nat → List (Nat × Value) → List Value → Mem → Prop} (h : Jk G layM fsoM RX10 cX10_readsMost 9 (some .int) 4 tvI P) (N : Nat) (x1 : Int32) (x3 : Int32) (x4 : Int32) (x5 : Int32) {k144 : Int32 → Mem → Option (Int32 × Mem)} (hk144 : ∀ (x7 : Int32) (s : Mem), P (k144 x7 s) 144 [(0, .ref (Ga G 0)), (1, .int x1), (3, .int x3), (4, .int x4), (5, .int x5), (7, .int x7)] [] s) {rec : Int32 → Int32 → Mem → Option (Int32 × Mem)} (ih : ∀ (x7 : Int32) (x8 : Int32) (s : Mem), P (rec x7 x8 s) 102 [(0, .ref (Ga G 0)), (1, .int x1), (3, .int x3), (4, .int x4), (5, .int x5), (7, .int x7), (8, .int x8)] [] s) : ∀ (x7 : Int32) (x8 : Int32) (s : Mem), P (st_X10_readsMost_102 N x1 x3 x4 x5 k144 rec x7 x8 s) 102 [(0, .ref (Ga G 0)), (1, .int x1), (3, .int x3), (4, .int x4), (5, .int x5), (7, .int x7), (8, .int x8)] [] s := by
  intro x7 x8 s0
  unfold st_X10_readsMost_102
  refine jx_iload h dX10_readsMost_102 6 rfl ?_
  refine jx_iload h dX10_readsMost_104 3 rfl ?_
  refine jx_icmp_ge (tgt := 144) h dX10_readsMost_106 rfl ?_ ?_
  · exact jx_subk [0, 1, 2, 3, 4, 5] h (hk144 x7 s0) rfl
  · refine jx_iload h dX10_readsMost_109 5 rfl ?_
    refine jx_aload_n h dX10_readsMost_111 rfl 0 rfl ?_
    refine jx_iload_n h dX10_readsMost_112 rfl 1 rfl ?_
    refine jx_aload_n h dX10_readsMost_113 rfl 0 rfl ?_
    refine jx_get (v := .ref (Ga G 26)) h fa_X10_86 lm_0 dX10_readsMost_114 rfl ?_
    refine jx_aload_n h dX10_readsMost_117 rfl 0 rfl ?_
    refine jx_get (v := .ref (Ga G 27)) h fa_X10_89 lm_0 dX10_readsMost_118 rfl ?_
    refine jx_iload h dX10_readsMost_121 6 rfl ?_
    refine jx_iaload h lm_27 dX10_readsMost_123 ?_
    refine jx_iaload h lm_26 dX10_readsMost_124 ?_
    refine jx_iload h dX10_readsMost_125 6 rfl ?_
    refine jx_callVi [.int x7] h lm_0 (c_X10_givenIn hG N x1 (gi s0 26 (ix (gi s0 27 (ix x8)))) x8 s0) ml_X10_367 (Nat.le_of_ble_eq_true rfl) (Nat.le_of_ble_eq_true rfl) dX10_readsMost_127 (Nat.le_of_ble_eq_true rfl) rfl (fun r17 s16 => ?_)
    refine jx_iadd h dX10_readsMost_130 ?_
    refine jx_lti (fun v18 => ?_)
    refine jx_istore (lv' := [(7, .int v18), (0, .ref (Ga G 0)), (1, .int x1), (3, .int x3), (4, .int x4), (5, .int x5), (8, .int x8)]) h dX10_readsMost_131 (Nat.le_of_ble_eq_true rfl) rfl ?_
    refine jx_aload_n h dX10_readsMost_133 rfl 1 rfl ?_
    refine jx_iconst h dX10_readsMost_134 ki_1 ?_
    refine jx_callVv [] h lm_0 (c_X10_pastGoes hG N 1 s16) ml_X10_370 (Nat.le_of_ble_eq_true rfl) (Nat.le_of_ble_eq_true rfl) dX10_readsMost_135 (Nat.le_of_ble_eq_true rfl) rfl (fun s19 => ?_)
    refine jx_iincl (L := fun w => [(8, .int w), (7, .int v18), (0, .ref (Ga G 0)), (1, .int x1), (3, .int x3), (4, .int x4), (5, .int x5)]) h dX10_readsMost_138 6 rfl (kn_1 _) (Nat.le_of_ble_eq_true rfl) (fun _ => rfl) (fun x8_21 => ?_)
    refine jx_goto (tgt := 102) h dX10_readsMost_141 rfl ?_
    exact jx_subk [2, 3, 4, 5, 6, 1, 0] h (ih v18 x8_21 s19) rfl
set_option maxRecDepth 20000 in
theorem w_X10_readsMost_86 {G : Gx} (hG : Gok G ∧ IsG G layM fsoM) {P : Option (Int32 × Mem) → Nat → List (Nat × Value) → List Value → Mem → Prop} (h : Jk G layM fsoM RX10 cX10_readsMost 9 (some .int) 4 tvI P) (N : Nat) (x1 : Int32) (x3 : Int32) (x4 : Int32) {k172 : Int32 → Mem → Option (Int32 × Mem)} (hk172 : ∀ (x5 : Int32) (s : Mem), P (k172 x5 s) 172 [(0, .ref (Ga G 0)), (3, .int x3), (5, .int x5)] [] s) {rec : Int32 → Int32 → Mem → Option (Int32 × Mem)} (ih : ∀ (x5 : Int32) (x6 : Int32) (s : Mem), P (rec x5 x6 s) 86 [(0, .ref (Ga G 0)), (1, .int x1), (3, .int x3), (4, .int x4), (5, .int x5), (6, .int x6)] [] s) : ∀ (x5 : Int32) (x6 : Int32) (s : Mem), P (st_X10_readsMost_86 N x1 x3 x4 k172 rec x5 x6 s) 86 [(0, .ref (Ga G 0)), (1, .int x1), (3, .int x3), (4, .int x4), (5, .int x5), (6, .int x6)] [] s := by
  intro x5 x6 s0
  unfold st_X10_readsMost_86
  refine jx_iload h dX10_readsMost_86 5 rfl ?_
  refine jx_if_eq (tgt := 172) h dX10_readsMost_88 rfl ?_ ?_
  · exact jx_subk [0, 2, 4] h (hk172 x5 s0) rfl
  · refine jx_iconst h dX10_readsMost_91 ki_0 ?_
    refine jx_istore (lv' := [(7, .int 0), (0, .ref (Ga G 0)), (1, .int x1), (3, .int x3), (4, .int x4), (5, .int x5), (6, .int x6)]) h dX10_readsMost_92 (Nat.le_of_ble_eq_true rfl) rfl ?_
    refine jx_aload_n h dX10_readsMost_94 rfl 1 rfl ?_
    refine jx_iload_n h dX10_readsMost_95 rfl 2 rfl ?_
    refine jx_callVv [] h lm_0 (c_X10_takesPast hG N x1 s0) ml_X10_364 (Nat.le_of_ble_eq_true rfl) (Nat.le_of_ble_eq_true rfl) dX10_readsMost_96 (Nat.le_of_ble_eq_true rfl) rfl (fun s14 => ?_)
    refine jx_iconst h dX10_readsMost_99 ki_0 ?_
    refine jx_istore (lv' := [(8, .int 0), (7, .int 0), (0, .ref (Ga G 0)), (1, .int x1), (3, .int x3), (4, .int x4), (5, .int x5), (6, .int x6)]) h dX10_readsMost_100 (Nat.le_of_ble_eq_true rfl) rfl ?_
    refine jx_subk [2, 3, 4, 5, 6, 1, 0] h (itr_ind (Q := (fun (f : Int32 → Int32 → Mem → Option (Int32 × Mem)) => ∀ (x7 : Int32) (x8 : Int32) (s : Mem), P (f x7 x8 s) 102 [(0, .ref (Ga G 0)), (1, .int x1), (3, .int x3), (4, .int x4), (5, .int x5), (7, .int x7), (8, .int x8)] [] s)) (fun _ _ _ => jx_none h) (fun r102 ih102 => ?_) N 0 0 s14) rfl
    refine w_X10_readsMost_102 hG h N x1 x3 x4 x5 ?_ ih102
    intro x7_23 s22
    refine jx_iload h dX10_readsMost_144 5 rfl ?_
    refine jx_iload h dX10_readsMost_146 4 rfl ?_
    refine jx_join (fun (j : Int32 → Mem → Option (Int32 × Mem)) => ∀ (x5_25 : Int32) (s24 : Mem), P (j x5_25 s24) 161 [(0, .ref (Ga G 0)), (1, .int x1), (3, .int x3), (4, .int x4), (5, .int x5_25)] [] s24) (fun x5_25 s24 => ?_) (fun j161 hj161 => ?_)
    · refine jx_aload_n h dX10_readsMost_161 rfl 0 rfl ?_
      refine jx_iload h dX10_readsMost_162 3 rfl ?_
      refine jx_callVi [] h lm_0 (c_X10_nextRow hG N x4 s24) ml_X10_361 (Nat.le_of_ble_eq_true rfl) (Nat.le_of_ble_eq_true rfl) dX10_readsMost_164 (Nat.le_of_ble_eq_true rfl) rfl (fun r27 s26 => ?_)
      refine jx_istore (lv' := [(6, .int r27), (0, .ref (Ga G 0)), (1, .int x1), (3, .int x3), (4, .int x4), (5, .int x5_25)]) h dX10_readsMost_167 (Nat.le_of_ble_eq_true rfl) rfl ?_
      refine jx_goto (tgt := 86) h dX10_readsMost_169 rfl ?_
      exact jx_subk [1, 2, 3, 4, 5, 0] h (ih x5_25 r27 s26) rfl
    · refine jx_icmp_le (tgt := 161) h dX10_readsMost_148 rfl ?_ ?_
      · exact jx_subk [0, 1, 2, 3, 4] h (hj161 x5 s22) rfl
      · refine jx_iload h dX10_readsMost_151 5 rfl ?_
        refine jx_istore (lv' := [(5, .int x7_23), (0, .ref (Ga G 0)), (1, .int x1), (3, .int x3), (4, .int x4), (7, .int x7_23)]) h dX10_readsMost_153 (Nat.le_of_ble_eq_true rfl) rfl ?_
        refine jx_aload_n h dX10_readsMost_155 rfl 1 rfl ?_
        refine jx_iload h dX10_readsMost_156 4 rfl ?_
        refine jx_callVv [] h lm_0 (c_X10_keepsRow hG N x4 s22) ml_X10_358 (Nat.le_of_ble_eq_true rfl) (Nat.le_of_ble_eq_true rfl) dX10_readsMost_158 (Nat.le_of_ble_eq_true rfl) rfl (fun s28 => ?_)
        exact jx_subk [1, 2, 3, 4, 0] h (hj161 x7_23 s28) rfl
set_option maxRecDepth 20000 in
theorem c_X10_readsMost {G : Gx} (hG : Gok G ∧ IsG G layM fsoM) (N : Nat) (x1 : Int32) (x2 : Int32) (x3 : Int32) (s : Mem) : Ct G yX10_readsMost cX10_readsMost 9 (some .int) 4 [.ref (Ga G 0), .int x1, .int x2, .int x3] tvI s (f_X10_readsMost N x1 x2 x3 s) := by
  refine Ct.of hG (by decide) (Nat.le_of_ble_eq_true rfl) (fun P h => ?_)
  show P _ 0 [(0, .ref (Ga G 0)), (1, .int x1), (2, .int x2), (3, .int x3)] [] s
  unfold f_X10_readsMost
  refine jx_aload_n h dX10_readsMost_0 rfl 0 rfl ?_
  refine jx_iload_n h dX10_readsMost_1 rfl 1 rfl ?_
  refine jx_callVi [] h lm_0 (c_X10_isParish hG N x1 s) ml_X10_146 (Nat.le_of_ble_eq_true rfl) (Nat.le_of_ble_eq_true rfl) dX10_readsMost_2 (Nat.le_of_ble_eq_true rfl) rfl (fun r2 s1 => ?_)
  refine jx_if_eq (tgt := 41) h dX10_readsMost_5 rfl ?_ ?_
  · refine jx_iconst h dX10_readsMost_41 ki_m1 ?_
    exact jx_iret h dX10_readsMost_42
  · refine jx_iload_n h dX10_readsMost_8 rfl 2 rfl ?_
    refine jx_iconst h dX10_readsMost_9 ki_1 ?_
    refine jx_bipush h dX10_readsMost_10 kb_63 ?_
    refine jx_callSi [] h (c_X10_in hG N x2 1 63 s1) ml_X10_134 (Nat.le_of_ble_eq_true rfl) (Nat.le_of_ble_eq_true rfl) dX10_readsMost_12 (Nat.le_of_ble_eq_true rfl) rfl (fun r4 s3 => ?_)
    refine jx_if_eq (tgt := 41) h dX10_readsMost_15 rfl ?_ ?_
    · refine jx_iconst h dX10_readsMost_41 ki_m1 ?_
      exact jx_iret h dX10_readsMost_42
    · refine jx_iload_n h dX10_readsMost_18 rfl 2 rfl ?_
      refine jx_aload_n h dX10_readsMost_19 rfl 0 rfl ?_
      refine jx_get (v := .ref (Ga G 1)) h fa_X10_7 lm_0 dX10_readsMost_20 rfl ?_
      refine jx_sipush h dX10_readsMost_23 ks_146 ?_
      refine jx_iaload h lm_1 dX10_readsMost_26 ?_
      refine jx_iconst h dX10_readsMost_27 ki_m1 ?_
      refine jx_ixor h dX10_readsMost_28 ?_
      refine jx_iand h dX10_readsMost_29 ?_
      refine jx_if_ne (tgt := 41) h dX10_readsMost_30 rfl ?_ ?_
      · refine jx_iconst h dX10_readsMost_41 ki_m1 ?_
        exact jx_iret h dX10_readsMost_42
      · refine jx_iload_n h dX10_readsMost_33 rfl 2 rfl ?_
        refine jx_callSi [] h (c_X10_bits hG N x2 s3) ml_X10_346 (Nat.le_of_ble_eq_true rfl) (Nat.le_of_ble_eq_true rfl) dX10_readsMost_34 (Nat.le_of_ble_eq_true rfl) rfl (fun r6 s5 => ?_)
        refine jx_iconst h dX10_readsMost_37 ki_5 ?_
        refine jx_icmp_le (tgt := 43) h dX10_readsMost_38 rfl ?_ ?_
        · refine jx_iload_n h dX10_readsMost_43 rfl 2 rfl ?_
          refine jx_callSi [] h (c_X10_bits hG N x2 s5) ml_X10_346 (Nat.le_of_ble_eq_true rfl) (Nat.le_of_ble_eq_true rfl) dX10_readsMost_44 (Nat.le_of_ble_eq_true rfl) rfl (fun r8 s7 => ?_)
          refine jx_istore (lv' := [(4, .int r8), (0, .ref (Ga G 0)), (1, .int x1), (2, .int x2), (3, .int x3)]) h dX10_readsMost_47 (Nat.le_of_ble_eq_true rfl) rfl ?_
          refine jx_iload_n h dX10_readsMost_49 rfl 4 rfl ?_
          refine jx_bipush h dX10_readsMost_50 kb_100 ?_
          refine jx_join (fun (j : Mem → Option (Int32 × Mem)) => ∀  (s9 : Mem), P (j  s9) 69 [(0, .ref (Ga G 0)), (1, .int x1), (2, .int x2), (3, .int x3), (4, .int r8)] [] s9) (fun  s9 => ?_) (fun j69 hj69 => ?_)
          · refine jx_aload_n h dX10_readsMost_69 rfl 0 rfl ?_
            refine jx_iload_n h dX10_readsMost_70 rfl 2 rfl ?_
            refine jx_callVv [] h lm_0 (c_X10_listsOnes hG N x2 s9) ml_X10_349 (Nat.le_of_ble_eq_true rfl) (Nat.le_of_ble_eq_true rfl) dX10_readsMost_71 (Nat.le_of_ble_eq_true rfl) rfl (fun s10 => ?_)
            refine jx_aload_n h dX10_readsMost_74 rfl 0 rfl ?_
            refine jx_iload h dX10_readsMost_75 4 rfl ?_
            refine jx_callVv [] h lm_0 (c_X10_beginsRows hG N r8 s10) ml_X10_352 (Nat.le_of_ble_eq_true rfl) (Nat.le_of_ble_eq_true rfl) dX10_readsMost_77 (Nat.le_of_ble_eq_true rfl) rfl (fun s12 => ?_)
            refine jx_iconst h dX10_readsMost_80 ki_m1 ?_
            refine jx_istore (lv' := [(5, .int (-1)), (0, .ref (Ga G 0)), (1, .int x1), (2, .int x2), (3, .int x3), (4, .int r8)]) h dX10_readsMost_81 (Nat.le_of_ble_eq_true rfl) rfl ?_
            refine jx_iconst h dX10_readsMost_83 ki_1 ?_
            refine jx_istore (lv' := [(6, .int 1), (5, .int (-1)), (0, .ref (Ga G 0)), (1, .int x1), (2, .int x2), (3, .int x3), (4, .int r8)]) h dX10_readsMost_84 (Nat.le_of_ble_eq_true rfl) rfl ?_
            refine jx_subk [2, 3, 5, 6, 1, 0] h (itr_ind (Q := (fun (f : Int32 → Int32 → Mem → Option (Int32 × Mem)) => ∀ (x5 : Int32) (x6 : Int32) (s : Mem), P (f x5 x6 s) 86 [(0, .ref (Ga G 0)), (1, .int x1), (3, .int x3), (4, .int r8), (5, .int x5), (6, .int x6)] [] s)) (fun _ _ _ => jx_none h) (fun r86 ih86 => ?_) N (-1) 1 s12) rfl
            refine w_X10_readsMost_86 hG h N x1 x3 r8 ?_ ih86
            intro x5_31 s30
            refine jx_iload_n h dX10_readsMost_172 rfl 1 rfl ?_
            refine jx_bipush h dX10_readsMost_173 kb_100 ?_
            refine jx_icmp_ne (tgt := 183) h dX10_readsMost_175 rfl ?_ ?_
            · refine jx_aload_n h dX10_readsMost_183 rfl 0 rfl ?_
              refine jx_get (v := .ref (Ga G 28)) h fa_X10_92 lm_0 dX10_readsMost_184 rfl ?_
              refine jx_iload_n h dX10_readsMost_187 rfl 1 rfl ?_
              refine jx_iaload h lm_28 dX10_readsMost_188 ?_
              exact jx_iret h dX10_readsMost_189
            · refine jx_iload h dX10_readsMost_178 2 rfl ?_
              refine jx_goto (tgt := 189) h dX10_readsMost_180 rfl ?_
              exact jx_iret h dX10_readsMost_189
          · refine jx_icmp_eq (tgt := 69) h dX10_readsMost_52 rfl ?_ ?_
            · exact jx_subk [1, 2, 3, 4, 0] h (hj69 s7) rfl
            · refine jx_iload_n h dX10_readsMost_55 rfl 4 rfl ?_
              refine jx_iconst h dX10_readsMost_56 ki_0 ?_
              refine jx_iload h dX10_readsMost_57 0 rfl ?_
              refine jx_iconst h dX10_readsMost_59 ki_1 ?_
              refine jx_isub h dX10_readsMost_60 ?_
              refine jx_callSi [] h (c_X10_in hG N x3 0 (r8 - 1) s7) ml_X10_134 (Nat.le_of_ble_eq_true rfl) (Nat.le_of_ble_eq_true rfl) dX10_readsMost_61 (Nat.le_of_ble_eq_true rfl) rfl (fun r33 s32 => ?_)
              refine jx_if_ne (tgt := 69) h dX10_readsMost_64 rfl ?_ ?_
              · exact jx_subk [1, 2, 3, 4, 0] h (hj69 s32) rfl
              · refine jx_iconst h dX10_readsMost_67 ki_m1 ?_
                exact jx_iret h dX10_readsMost_68
        · refine jx_iconst h dX10_readsMost_41 ki_m1 ?_
          exact jx_iret h dX10_readsMost_42
noncomputable def st_X10_bestMonth_41 (N : Nat) (x1 : Int32) (x2 : Int32) (x3 : Int32) (k87 : Int32 → Int32 → Mem → Option (Int32 × Mem)) (rec : Int32 → Int32 → Int32 → Mem → Option (Int32 × Mem)) (x4 : Int32) (x5 : Int32) (x6 : Int32) (s0 : Mem) : Option (Int32 × Mem) :=
  if 12 ≤ x6 then (k87 x4 x5 s0) else bd (f_X10_givenIn N x1 x2 x6 s0) (fun r10 s9 => bd (f_X10_pastGoes N 0 s9) (fun _ s11 => if x5 < r10 then (lt (x6 + 1) (fun x6_13 => rec x6 r10 x6_13 s11)) else lt (x6 + 1) (fun x6_14 => rec x4 x5 x6_14 s11)))
noncomputable def f_X10_bestMonth (N : Nat) (x1 : Int32) (x2 : Int32) (x3 : Int32) (s : Mem) : Option (Int32 × Mem) :=
  bd (f_X10_isParish N x1 s) (fun r2 s1 => if r2 = 0 then (some ((-1), s1)) else bd (f_X10_isLetter N x2 s1) (fun r4 s3 => if r4 = 0 then (some ((-1), s3)) else bd (f_X10_in N x3 0 1 s3) (fun r6 s5 => if r6 = 0 then (some ((-1), s5)) else bd (f_X10_takesPast N x1 s5) (fun _ s7 => itr (fun _ _ _ _ => none) (st_X10_bestMonth_41 N x1 x2 x3 (fun (x4_16 : Int32) (x5_17 : Int32) (s15 : Mem) => if x3 = 0 then (some (x4_16, s15)) else some (x5_17, s15))) N 0 (-1) 0 s7))))
set_option maxRecDepth 20000 in
theorem w_X10_bestMonth_41 {G : Gx} (hG : Gok G ∧ IsG G layM fsoM) {P : Option (Int32 × Mem) → Nat → List (Nat × Value) → List Value → Mem → Prop} (h : Jk G layM fsoM RX10 cX10_bestMonth 8 (some .int) 4 tvI P) (N : Nat) (x1 : Int32) (x2 : Int32) (x3 : Int32) {k87 : Int32 → Int32 → Mem → Option (Int32 × Mem)} (hk87 : ∀ (x4 : Int32) (x5 : Int32) (s : Mem), P (k87 x4 x5 s) 87 [(3, .int x3), (4, .int x4), (5, .int x5)] [] s) {rec : Int32 → Int32 → Int32 → Mem → Option (Int32 × Mem)} (ih : ∀ (x4 : Int32) (x5 : Int32) (x6 : Int32) (s : Mem), P (rec x4 x5 x6 s) 41 [(0, .ref (Ga G 0)), (1, .int x1), (2, .int x2), (3, .int x3), (4, .int x4), (5, .int x5), (6, .int x6)] [] s) : ∀ (x4 : Int32) (x5 : Int32) (x6 : Int32) (s : Mem), P (st_X10_bestMonth_41 N x1 x2 x3 k87 rec x4 x5 x6 s) 41 [(0, .ref (Ga G 0)), (1, .int x1), (2, .int x2), (3, .int x3), (4, .int x4), (5, .int x5), (6, .int x6)] [] s := by
  intro x4 x5 x6 s0
  unfold st_X10_bestMonth_41
  refine jx_iload h dX10_bestMonth_41 6 rfl ?_
  refine jx_bipush h dX10_bestMonth_43 kb_12 ?_
  refine jx_icmp_ge (tgt := 87) h dX10_bestMonth_45 rfl ?_ ?_
  · exact jx_subk [3, 4, 5] h (hk87 x4 x5 s0) rfl
  · refine jx_aload_n h dX10_bestMonth_48 rfl 0 rfl ?_
    refine jx_iload_n h dX10_bestMonth_49 rfl 1 rfl ?_
    refine jx_iload_n h dX10_bestMonth_50 rfl 2 rfl ?_
    refine jx_iload h dX10_bestMonth_51 6 rfl ?_
    refine jx_callVi [] h lm_0 (c_X10_givenIn hG N x1 x2 x6 s0) ml_X10_367 (Nat.le_of_ble_eq_true rfl) (Nat.le_of_ble_eq_true rfl) dX10_bestMonth_53 (Nat.le_of_ble_eq_true rfl) rfl (fun r10 s9 => ?_)
    refine jx_istore (lv' := [(7, .int r10), (0, .ref (Ga G 0)), (1, .int x1), (2, .int x2), (3, .int x3), (4, .int x4), (5, .int x5), (6, .int x6)]) h dX10_bestMonth_56 (Nat.le_of_ble_eq_true rfl) rfl ?_
    refine jx_aload_n h dX10_bestMonth_58 rfl 1 rfl ?_
    refine jx_iconst h dX10_bestMonth_59 ki_0 ?_
    refine jx_callVv [] h lm_0 (c_X10_pastGoes hG N 0 s9) ml_X10_370 (Nat.le_of_ble_eq_true rfl) (Nat.le_of_ble_eq_true rfl) dX10_bestMonth_60 (Nat.le_of_ble_eq_true rfl) rfl (fun s11 => ?_)
    refine jx_iload h dX10_bestMonth_63 0 rfl ?_
    refine jx_iload h dX10_bestMonth_65 6 rfl ?_
    refine jx_icmp_gt (tgt := 73) h dX10_bestMonth_67 rfl ?_ ?_
    · refine jx_iload h dX10_bestMonth_73 0 rfl ?_
      refine jx_istore (lv' := [(5, .int r10), (7, .int r10), (0, .ref (Ga G 0)), (1, .int x1), (2, .int x2), (3, .int x3), (4, .int x4), (6, .int x6)]) h dX10_bestMonth_75 (Nat.le_of_ble_eq_true rfl) rfl ?_
      refine jx_iload h dX10_bestMonth_77 7 rfl ?_
      refine jx_istore (lv' := [(4, .int x6), (5, .int r10), (7, .int r10), (0, .ref (Ga G 0)), (1, .int x1), (2, .int x2), (3, .int x3), (6, .int x6)]) h dX10_bestMonth_79 (Nat.le_of_ble_eq_true rfl) rfl ?_
      refine jx_iincl (L := fun w => [(6, .int w), (4, .int x6), (5, .int r10), (7, .int r10), (0, .ref (Ga G 0)), (1, .int x1), (2, .int x2), (3, .int x3)]) h dX10_bestMonth_81 7 rfl (kn_1 _) (Nat.le_of_ble_eq_true rfl) (fun _ => rfl) (fun x6_13 => ?_)
      refine jx_goto (tgt := 41) h dX10_bestMonth_84 rfl ?_
      exact jx_subk [4, 5, 6, 7, 1, 2, 0] h (ih x6 r10 x6_13 s11) rfl
    · refine jx_goto (tgt := 81) h dX10_bestMonth_70 rfl ?_
      refine jx_iincl (L := fun w => [(6, .int w), (7, .int r10), (0, .ref (Ga G 0)), (1, .int x1), (2, .int x2), (3, .int x3), (4, .int x4), (5, .int x5)]) h dX10_bestMonth_81 7 rfl (kn_1 _) (Nat.le_of_ble_eq_true rfl) (fun _ => rfl) (fun x6_14 => ?_)
      refine jx_goto (tgt := 41) h dX10_bestMonth_84 rfl ?_
      exact jx_subk [2, 3, 4, 5, 6, 7, 0] h (ih x4 x5 x6_14 s11) rfl
set_option maxRecDepth 20000 in
theorem c_X10_bestMonth {G : Gx} (hG : Gok G ∧ IsG G layM fsoM) (N : Nat) (x1 : Int32) (x2 : Int32) (x3 : Int32) (s : Mem) : Ct G yX10_bestMonth cX10_bestMonth 8 (some .int) 4 [.ref (Ga G 0), .int x1, .int x2, .int x3] tvI s (f_X10_bestMonth N x1 x2 x3 s) := by
  refine Ct.of hG (by decide) (Nat.le_of_ble_eq_true rfl) (fun P h => ?_)
  show P _ 0 [(0, .ref (Ga G 0)), (1, .int x1), (2, .int x2), (3, .int x3)] [] s
  unfold f_X10_bestMonth
  refine jx_aload_n h dX10_bestMonth_0 rfl 0 rfl ?_
  refine jx_iload_n h dX10_bestMonth_1 rfl 1 rfl ?_
  refine jx_callVi [] h lm_0 (c_X10_isParish hG N x1 s) ml_X10_146 (Nat.le_of_ble_eq_true rfl) (Nat.le_of_ble_eq_true rfl) dX10_bestMonth_2 (Nat.le_of_ble_eq_true rfl) rfl (fun r2 s1 => ?_)
  refine jx_if_eq (tgt := 25) h dX10_bestMonth_5 rfl ?_ ?_
  · refine jx_iconst h dX10_bestMonth_25 ki_m1 ?_
    exact jx_iret h dX10_bestMonth_26
  · refine jx_aload_n h dX10_bestMonth_8 rfl 0 rfl ?_
    refine jx_iload_n h dX10_bestMonth_9 rfl 2 rfl ?_
    refine jx_callVi [] h lm_0 (c_X10_isLetter hG N x2 s1) ml_X10_264 (Nat.le_of_ble_eq_true rfl) (Nat.le_of_ble_eq_true rfl) dX10_bestMonth_10 (Nat.le_of_ble_eq_true rfl) rfl (fun r4 s3 => ?_)
    refine jx_if_eq (tgt := 25) h dX10_bestMonth_13 rfl ?_ ?_
    · refine jx_iconst h dX10_bestMonth_25 ki_m1 ?_
      exact jx_iret h dX10_bestMonth_26
    · refine jx_iload_n h dX10_bestMonth_16 rfl 3 rfl ?_
      refine jx_iconst h dX10_bestMonth_17 ki_0 ?_
      refine jx_iconst h dX10_bestMonth_18 ki_1 ?_
      refine jx_callSi [] h (c_X10_in hG N x3 0 1 s3) ml_X10_134 (Nat.le_of_ble_eq_true rfl) (Nat.le_of_ble_eq_true rfl) dX10_bestMonth_19 (Nat.le_of_ble_eq_true rfl) rfl (fun r6 s5 => ?_)
      refine jx_if_ne (tgt := 27) h dX10_bestMonth_22 rfl ?_ ?_
      · refine jx_iconst h dX10_bestMonth_27 ki_0 ?_
        refine jx_istore (lv' := [(4, .int 0), (0, .ref (Ga G 0)), (1, .int x1), (2, .int x2), (3, .int x3)]) h dX10_bestMonth_28 (Nat.le_of_ble_eq_true rfl) rfl ?_
        refine jx_iconst h dX10_bestMonth_30 ki_m1 ?_
        refine jx_istore (lv' := [(5, .int (-1)), (4, .int 0), (0, .ref (Ga G 0)), (1, .int x1), (2, .int x2), (3, .int x3)]) h dX10_bestMonth_31 (Nat.le_of_ble_eq_true rfl) rfl ?_
        refine jx_aload_n h dX10_bestMonth_33 rfl 2 rfl ?_
        refine jx_iload_n h dX10_bestMonth_34 rfl 3 rfl ?_
        refine jx_callVv [] h lm_0 (c_X10_takesPast hG N x1 s5) ml_X10_364 (Nat.le_of_ble_eq_true rfl) (Nat.le_of_ble_eq_true rfl) dX10_bestMonth_35 (Nat.le_of_ble_eq_true rfl) rfl (fun s7 => ?_)
        refine jx_iconst h dX10_bestMonth_38 ki_0 ?_
        refine jx_istore (lv' := [(6, .int 0), (5, .int (-1)), (4, .int 0), (0, .ref (Ga G 0)), (1, .int x1), (2, .int x2), (3, .int x3)]) h dX10_bestMonth_39 (Nat.le_of_ble_eq_true rfl) rfl ?_
        refine jx_subk [3, 4, 5, 6, 2, 1, 0] h (itr_ind (Q := (fun (f : Int32 → Int32 → Int32 → Mem → Option (Int32 × Mem)) => ∀ (x4 : Int32) (x5 : Int32) (x6 : Int32) (s : Mem), P (f x4 x5 x6 s) 41 [(0, .ref (Ga G 0)), (1, .int x1), (2, .int x2), (3, .int x3), (4, .int x4), (5, .int x5), (6, .int x6)] [] s)) (fun _ _ _ _ => jx_none h) (fun r41 ih41 => ?_) N 0 (-1) 0 s7) rfl
        refine w_X10_bestMonth_41 hG h N x1 x2 x3 ?_ ih41
        intro x4_16 x5_17 s15
        refine jx_iload_n h dX10_bestMonth_87 rfl 0 rfl ?_
        refine jx_if_ne (tgt := 96) h dX10_bestMonth_88 rfl ?_ ?_
        · refine jx_iload h dX10_bestMonth_96 2 rfl ?_
          exact jx_iret h dX10_bestMonth_98
        · refine jx_iload h dX10_bestMonth_91 1 rfl ?_
          refine jx_goto (tgt := 98) h dX10_bestMonth_93 rfl ?_
          exact jx_iret h dX10_bestMonth_98
      · refine jx_iconst h dX10_bestMonth_25 ki_m1 ?_
        exact jx_iret h dX10_bestMonth_26
noncomputable def st_X10_isOnWay_2 (N : Nat) (x1 : Int32) (x2 : Int32)  (rec : Int32 → Mem → Option (Int32 × Mem)) (x3 : Int32) (s0 : Mem) : Option (Int32 × Mem) :=
  if x2 < x3 then (some (0, s0)) else chk x3 5 (if (gi s0 31 (ix x3)) = x1 then (some (1, s0)) else lt (x3 + 1) (fun x3_1 => rec x3_1 s0))
noncomputable def f_X10_isOnWay (N : Nat) (x1 : Int32) (x2 : Int32) (s : Mem) : Option (Int32 × Mem) :=
  itr (fun _ _ => none) (st_X10_isOnWay_2 N x1 x2) N 0 s
set_option maxRecDepth 20000 in
theorem w_X10_isOnWay_2 {G : Gx} (hG : Gok G ∧ IsG G layM fsoM) {P : Option (Int32 × Mem) → Nat → List (Nat × Value) → List Value → Mem → Prop} (h : Jk G layM fsoM RX10 cX10_isOnWay 4 (some .boolean) 0 tvI P) (N : Nat) (x1 : Int32) (x2 : Int32) {rec : Int32 → Mem → Option (Int32 × Mem)} (ih : ∀ (x3 : Int32) (s : Mem), P (rec x3 s) 2 [(0, .ref (Ga G 0)), (1, .int x1), (2, .int x2), (3, .int x3)] [] s) : ∀ (x3 : Int32) (s : Mem), P (st_X10_isOnWay_2 N x1 x2 rec x3 s) 2 [(0, .ref (Ga G 0)), (1, .int x1), (2, .int x2), (3, .int x3)] [] s := by
  intro x3 s0
  unfold st_X10_isOnWay_2
  refine jx_iload_n h dX10_isOnWay_2 rfl 3 rfl ?_
  refine jx_iload_n h dX10_isOnWay_3 rfl 2 rfl ?_
  refine jx_icmp_gt (tgt := 25) h dX10_isOnWay_4 rfl ?_ ?_
  · refine jx_iconst h dX10_isOnWay_25 ki_0 ?_
    exact jx_zret h rfl dX10_isOnWay_26
  · refine jx_aload_n h dX10_isOnWay_7 rfl 0 rfl ?_
    refine jx_get (v := .ref (Ga G 31)) h fa_X10_101 lm_0 dX10_isOnWay_8 rfl ?_
    refine jx_iload_n h dX10_isOnWay_11 rfl 3 rfl ?_
    refine jx_iaload h lm_31 dX10_isOnWay_12 ?_
    refine jx_iload_n h dX10_isOnWay_13 rfl 1 rfl ?_
    refine jx_icmp_ne (tgt := 19) h dX10_isOnWay_14 rfl ?_ ?_
    · refine jx_iincl (L := fun w => [(3, .int w), (0, .ref (Ga G 0)), (1, .int x1), (2, .int x2)]) h dX10_isOnWay_19 3 rfl (kn_1 _) (Nat.le_of_ble_eq_true rfl) (fun _ => rfl) (fun x3_1 => ?_)
      refine jx_goto (tgt := 2) h dX10_isOnWay_22 rfl ?_
      exact jx_subk [1, 2, 3, 0] h (ih x3_1 s0) rfl
    · refine jx_iconst h dX10_isOnWay_17 ki_1 ?_
      exact jx_zret h rfl dX10_isOnWay_18
set_option maxRecDepth 20000 in
theorem c_X10_isOnWay {G : Gx} (hG : Gok G ∧ IsG G layM fsoM) (N : Nat) (x1 : Int32) (x2 : Int32) (s : Mem) : Ct G yX10_isOnWay cX10_isOnWay 4 (some .boolean) 0 [.ref (Ga G 0), .int x1, .int x2] tvI s (f_X10_isOnWay N x1 x2 s) := by
  refine Ct.of hG (by decide) (Nat.le_of_ble_eq_true rfl) (fun P h => ?_)
  show P _ 0 [(0, .ref (Ga G 0)), (1, .int x1), (2, .int x2)] [] s
  unfold f_X10_isOnWay
  refine jx_iconst h dX10_isOnWay_0 ki_0 ?_
  refine jx_istore_n (lv' := [(3, .int 0), (0, .ref (Ga G 0)), (1, .int x1), (2, .int x2)]) h dX10_isOnWay_1 rfl (Nat.le_of_ble_eq_true rfl) rfl ?_
  refine jx_subk [1, 2, 3, 0] h (itr_ind (Q := (fun (f : Int32 → Mem → Option (Int32 × Mem)) => ∀ (x3 : Int32) (s : Mem), P (f x3 s) 2 [(0, .ref (Ga G 0)), (1, .int x1), (2, .int x2), (3, .int x3)] [] s)) (fun _ _ => jx_none h) (fun r2 ih2 => ?_) N 0 s) rfl
  refine w_X10_isOnWay_2 hG h N x1 x2  ih2
noncomputable def st_X10_laysTales_2 (N : Nat) (x1 : Int32) (k21 : Mem → Option (Unit × Mem)) (rec : Int32 → Mem → Option (Unit × Mem)) (x2 : Int32) (s0 : Mem) : Option (Unit × Mem) :=
  if 12 ≤ x2 then (k21 s0) else chk x2 12 (lt (si s0 30 (ix x2) (-1)) (fun s1 => lt (x2 + 1) (fun x2_2 => rec x2_2 s1)))
noncomputable def st_X10_laysTales_85 (N : Nat) (x1 : Int32) (x2 : Int32) (x4 : Int32) (k127 : Int32 → Mem → Option (Unit × Mem)) (rec : Int32 → Mem → Option (Unit × Mem)) (x3 : Int32) (s0 : Mem) : Option (Unit × Mem) :=
  if 12 ≤ x3 then (k127 x3 s0) else if x2 = 4 then (lt (x3 + 1) (fun v8 => rec v8 s0)) else chk (((12 : Int32) * x4) + x3) 144 (if (gi s0 4 (ix (((12 : Int32) * x4) + x3))) = 0 then (lt (x3 + 1) (fun v9 => rec v9 s0)) else bd (f_X10_isOnWay N x3 x2 s0) (fun r11 s10 => if r11 = 0 then (k127 x3 s10) else lt (x3 + 1) (fun v12 => rec v12 s10)))
noncomputable def st_X10_laysTales_73 (N : Nat) (x1 : Int32)  (rec : Int32 → Int32 → Mem → Option (Unit × Mem)) (x2 : Int32) (x3 : Int32) (s0 : Mem) : Option (Unit × Mem) :=
  if x2 < 0 then (some ((), s0)) else chk x2 5 (lt (gi s0 31 (ix x2)) (fun v7 => itr (fun _ _ => none) (st_X10_laysTales_85 N x1 x2 v7 (fun (x3_14 : Int32) (s13 : Mem) => if x3_14 = 12 then (lt (v7 + 1) (fun v29 => lt (x2 - 1) (fun v30 => rec v30 v29 s13))) else chk x2 5 (chk (((12 : Int32) * v7) + x3_14) 144 (bd (f_X10_tired N x3_14 s13) (fun r16 s15 => chk 147 151 (bd (f_X10_feels N x3_14 x1 (gi s13 32 (ix x2)) (gi s13 4 (ix (((12 : Int32) * v7) + x3_14))) r16 (gi s15 1 (ix (147 : Int32))) s15) (fun _ s17 => lt (x2 + 1) (fun v19 => chk v19 5 (lt (si s17 31 (ix v19) x3_14) (fun s20 => chk (v19 - 1) 5 (bd (f_X10_byLaw N 116 999 s20) (fun r22 s21 => bd (f_X10_min N 99999 ((gi s20 32 (ix (v19 - 1))) + r22) s21) (fun r24 s23 => chk v19 5 (lt (si s23 32 (ix v19) r24) (fun s25 => chk x3_14 12 (chk v19 5 (bd (f_X10_max N (gi s25 30 (ix x3_14)) (gi s25 32 (ix v19)) s25) (fun r27 s26 => chk x3_14 12 (lt (si s26 30 (ix x3_14) r27) (fun s28 => rec v19 0 s28)))))))))))))))))))) N x3 s0))
noncomputable def f_X10_laysTales (N : Nat) (x1 : Int32) (s : Mem) : Option (Unit × Mem) :=
  itr (fun _ _ => none) (st_X10_laysTales_2 N x1 (fun  (s3 : Mem) => chk ((126 : Int32) + x1) 151 (chk 0 5 (lt (si s3 31 (ix (0 : Int32)) (gi s3 1 (ix ((126 : Int32) + x1)))) (fun s4 => chk ((132 : Int32) + x1) 151 (chk 0 5 (lt (si s4 32 (ix (0 : Int32)) (gi s4 1 (ix ((132 : Int32) + x1)))) (fun s5 => chk 0 5 (chk 0 5 (chk (gi s5 31 (ix (0 : Int32))) 12 (lt (si s5 30 (ix (gi s5 31 (ix (0 : Int32)))) (gi s5 32 (ix (0 : Int32)))) (fun s6 => itr (fun _ _ _ => none) (st_X10_laysTales_73 N x1) N 0 0 s6)))))))))))) N 0 s
set_option maxRecDepth 20000 in
theorem w_X10_laysTales_2 {G : Gx} (hG : Gok G ∧ IsG G layM fsoM) {P : Option (Unit × Mem) → Nat → List (Nat × Value) → List Value → Mem → Prop} (h : Jk G layM fsoM RX10 cX10_laysTales 5 none 3 tvV P) (N : Nat) (x1 : Int32) {k21 : Mem → Option (Unit × Mem)} (hk21 : ∀  (s : Mem), P (k21 s) 21 [(0, .ref (Ga G 0)), (1, .int x1)] [] s) {rec : Int32 → Mem → Option (Unit × Mem)} (ih : ∀ (x2 : Int32) (s : Mem), P (rec x2 s) 2 [(0, .ref (Ga G 0)), (1, .int x1), (2, .int x2)] [] s) : ∀ (x2 : Int32) (s : Mem), P (st_X10_laysTales_2 N x1 k21 rec x2 s) 2 [(0, .ref (Ga G 0)), (1, .int x1), (2, .int x2)] [] s := by
  intro x2 s0
  unfold st_X10_laysTales_2
  refine jx_iload_n h dX10_laysTales_2 rfl 2 rfl ?_
  refine jx_bipush h dX10_laysTales_3 kb_12 ?_
  refine jx_icmp_ge (tgt := 21) h dX10_laysTales_5 rfl ?_ ?_
  · exact jx_subk [0, 1] h (hk21 s0) rfl
  · refine jx_aload_n h dX10_laysTales_8 rfl 0 rfl ?_
    refine jx_get (v := .ref (Ga G 30)) h fa_X10_98 lm_0 dX10_laysTales_9 rfl ?_
    refine jx_iload_n h dX10_laysTales_12 rfl 2 rfl ?_
    refine jx_iconst h dX10_laysTales_13 ki_m1 ?_
    refine jx_iastore h lm_30 dX10_laysTales_14 (fun s1 => ?_)
    refine jx_iincl (L := fun w => [(2, .int w), (0, .ref (Ga G 0)), (1, .int x1)]) h dX10_laysTales_15 2 rfl (kn_1 _) (Nat.le_of_ble_eq_true rfl) (fun _ => rfl) (fun x2_2 => ?_)
    refine jx_goto (tgt := 2) h dX10_laysTales_18 rfl ?_
    exact jx_subk [1, 2, 0] h (ih x2_2 s1) rfl
set_option maxRecDepth 20000 in
theorem w_X10_laysTales_85 {G : Gx} (hG : Gok G ∧ IsG G layM fsoM) {P : Option (Unit × Mem) → Nat → List (Nat × Value) → List Value → Mem → Prop} (h : Jk G layM fsoM RX10 cX10_laysTales 5 none 3 tvV P) (N : Nat) (x1 : Int32) (x2 : Int32) (x4 : Int32) {k127 : Int32 → Mem → Option (Unit × Mem)} (hk127 : ∀ (x3 : Int32) (s : Mem), P (k127 x3 s) 127 [(0, .ref (Ga G 0)), (1, .int x1), (2, .int x2), (3, .int x3), (4, .int x4)] [] s) {rec : Int32 → Mem → Option (Unit × Mem)} (ih : ∀ (x3 : Int32) (s : Mem), P (rec x3 s) 85 [(0, .ref (Ga G 0)), (1, .int x1), (2, .int x2), (3, .int x3), (4, .int x4)] [] s) : ∀ (x3 : Int32) (s : Mem), P (st_X10_laysTales_85 N x1 x2 x4 k127 rec x3 s) 85 [(0, .ref (Ga G 0)), (1, .int x1), (2, .int x2), (3, .int x3), (4, .int x4)] [] s := by
  intro x3 s0
  unfold st_X10_laysTales_85
  refine jx_iload_n h dX10_laysTales_85 rfl 3 rfl ?_
  refine jx_bipush h dX10_laysTales_86 kb_12 ?_
  refine jx_icmp_ge (tgt := 127) h dX10_laysTales_88 rfl ?_ ?_
  · exact hk127 x3 s0
  · refine jx_iload_n h dX10_laysTales_91 rfl 2 rfl ?_
    refine jx_iconst h dX10_laysTales_92 ki_4 ?_
    refine jx_icmp_eq (tgt := 120) h dX10_laysTales_93 rfl ?_ ?_
    · refine jx_iload_n h dX10_laysTales_120 rfl 3 rfl ?_
      refine jx_iconst h dX10_laysTales_121 ki_1 ?_
      refine jx_iadd h dX10_laysTales_122 ?_
      refine jx_lti (fun v8 => ?_)
      refine jx_istore_n (lv' := [(3, .int v8), (0, .ref (Ga G 0)), (1, .int x1), (2, .int x2), (4, .int x4)]) h dX10_laysTales_123 rfl (Nat.le_of_ble_eq_true rfl) rfl ?_
      refine jx_goto (tgt := 85) h dX10_laysTales_124 rfl ?_
      exact jx_subk [1, 2, 3, 0, 4] h (ih v8 s0) rfl
    · refine jx_aload_n h dX10_laysTales_96 rfl 0 rfl ?_
      refine jx_get (v := .ref (Ga G 4)) h fa_X10_19 lm_0 dX10_laysTales_97 rfl ?_
      refine jx_bipush h dX10_laysTales_100 kb_12 ?_
      refine jx_iload h dX10_laysTales_102 4 rfl ?_
      refine jx_imul h dX10_laysTales_104 ?_
      refine jx_iload_n h dX10_laysTales_105 rfl 3 rfl ?_
      refine jx_iadd h dX10_laysTales_106 ?_
      refine jx_iaload h lm_4 dX10_laysTales_107 ?_
      refine jx_if_eq (tgt := 120) h dX10_laysTales_108 rfl ?_ ?_
      · refine jx_iload_n h dX10_laysTales_120 rfl 3 rfl ?_
        refine jx_iconst h dX10_laysTales_121 ki_1 ?_
        refine jx_iadd h dX10_laysTales_122 ?_
        refine jx_lti (fun v9 => ?_)
        refine jx_istore_n (lv' := [(3, .int v9), (0, .ref (Ga G 0)), (1, .int x1), (2, .int x2), (4, .int x4)]) h dX10_laysTales_123 rfl (Nat.le_of_ble_eq_true rfl) rfl ?_
        refine jx_goto (tgt := 85) h dX10_laysTales_124 rfl ?_
        exact jx_subk [1, 2, 3, 0, 4] h (ih v9 s0) rfl
      · refine jx_aload_n h dX10_laysTales_111 rfl 0 rfl ?_
        refine jx_iload_n h dX10_laysTales_112 rfl 3 rfl ?_
        refine jx_iload_n h dX10_laysTales_113 rfl 2 rfl ?_
        refine jx_callVi [] h lm_0 (c_X10_isOnWay hG N x3 x2 s0) ml_X10_373 (Nat.le_of_ble_eq_true rfl) (Nat.le_of_ble_eq_true rfl) dX10_laysTales_114 (Nat.le_of_ble_eq_true rfl) rfl (fun r11 s10 => ?_)
        refine jx_if_eq (tgt := 127) h dX10_laysTales_117 rfl ?_ ?_
        · exact hk127 x3 s10
        · refine jx_iload_n h dX10_laysTales_120 rfl 3 rfl ?_
          refine jx_iconst h dX10_laysTales_121 ki_1 ?_
          refine jx_iadd h dX10_laysTales_122 ?_
          refine jx_lti (fun v12 => ?_)
          refine jx_istore_n (lv' := [(3, .int v12), (0, .ref (Ga G 0)), (1, .int x1), (2, .int x2), (4, .int x4)]) h dX10_laysTales_123 rfl (Nat.le_of_ble_eq_true rfl) rfl ?_
          refine jx_goto (tgt := 85) h dX10_laysTales_124 rfl ?_
          exact jx_subk [1, 2, 3, 0, 4] h (ih v12 s10) rfl
set_option maxRecDepth 20000 in
theorem w_X10_laysTales_73 {G : Gx} (hG : Gok G ∧ IsG G layM fsoM) {P : Option (Unit × Mem) → Nat → List (Nat × Value) → List Value → Mem → Prop} (h : Jk G layM fsoM RX10 cX10_laysTales 5 none 3 tvV P) (N : Nat) (x1 : Int32) {rec : Int32 → Int32 → Mem → Option (Unit × Mem)} (ih : ∀ (x2 : Int32) (x3 : Int32) (s : Mem), P (rec x2 x3 s) 73 [(0, .ref (Ga G 0)), (1, .int x1), (2, .int x2), (3, .int x3)] [] s) : ∀ (x2 : Int32) (x3 : Int32) (s : Mem), P (st_X10_laysTales_73 N x1 rec x2 x3 s) 73 [(0, .ref (Ga G 0)), (1, .int x1), (2, .int x2), (3, .int x3)] [] s := by
  intro x2 x3 s0
  unfold st_X10_laysTales_73
  refine jx_iload_n h dX10_laysTales_73 rfl 2 rfl ?_
  refine jx_if_lt (tgt := 249) h dX10_laysTales_74 rfl ?_ ?_
  · exact jx_vret h dX10_laysTales_249
  · refine jx_aload_n h dX10_laysTales_77 rfl 0 rfl ?_
    refine jx_get (v := .ref (Ga G 31)) h fa_X10_101 lm_0 dX10_laysTales_78 rfl ?_
    refine jx_iload_n h dX10_laysTales_81 rfl 2 rfl ?_
    refine jx_iaload h lm_31 dX10_laysTales_82 ?_
    refine jx_lti (fun v7 => ?_)
    refine jx_istore (lv' := [(4, .int v7), (0, .ref (Ga G 0)), (1, .int x1), (2, .int x2), (3, .int x3)]) h dX10_laysTales_83 (Nat.le_of_ble_eq_true rfl) rfl ?_
    refine jx_subk [1, 2, 3, 4, 0] h (itr_ind (Q := (fun (f : Int32 → Mem → Option (Unit × Mem)) => ∀ (x3 : Int32) (s : Mem), P (f x3 s) 85 [(0, .ref (Ga G 0)), (1, .int x1), (2, .int x2), (3, .int x3), (4, .int v7)] [] s)) (fun _ _ => jx_none h) (fun r85 ih85 => ?_) N x3 s0) rfl
    refine w_X10_laysTales_85 hG h N x1 x2 v7 ?_ ih85
    intro x3_14 s13
    refine jx_iload_n h dX10_laysTales_127 rfl 3 rfl ?_
    refine jx_bipush h dX10_laysTales_128 kb_12 ?_
    refine jx_icmp_ne (tgt := 145) h dX10_laysTales_130 rfl ?_ ?_
    · refine jx_aload_n h dX10_laysTales_145 rfl 0 rfl ?_
      refine jx_iload_n h dX10_laysTales_146 rfl 3 rfl ?_
      refine jx_iload_n h dX10_laysTales_147 rfl 1 rfl ?_
      refine jx_aload_n h dX10_laysTales_148 rfl 0 rfl ?_
      refine jx_get (v := .ref (Ga G 32)) h fa_X10_104 lm_0 dX10_laysTales_149 rfl ?_
      refine jx_iload_n h dX10_laysTales_152 rfl 2 rfl ?_
      refine jx_iaload h lm_32 dX10_laysTales_153 ?_
      refine jx_aload_n h dX10_laysTales_154 rfl 0 rfl ?_
      refine jx_get (v := .ref (Ga G 4)) h fa_X10_19 lm_0 dX10_laysTales_155 rfl ?_
      refine jx_bipush h dX10_laysTales_158 kb_12 ?_
      refine jx_iload h dX10_laysTales_160 4 rfl ?_
      refine jx_imul h dX10_laysTales_162 ?_
      refine jx_iload_n h dX10_laysTales_163 rfl 3 rfl ?_
      refine jx_iadd h dX10_laysTales_164 ?_
      refine jx_iaload h lm_4 dX10_laysTales_165 ?_
      refine jx_aload_n h dX10_laysTales_166 rfl 0 rfl ?_
      refine jx_iload_n h dX10_laysTales_167 rfl 3 rfl ?_
      refine jx_callVi [.int (gi s13 4 (ix (((12 : Int32) * v7) + x3_14))), .int (gi s13 32 (ix x2)), .int x1, .int x3_14, .ref (Ga G 0)] h lm_0 (c_X10_tired hG N x3_14 s13) ml_X10_287 (Nat.le_of_ble_eq_true rfl) (Nat.le_of_ble_eq_true rfl) dX10_laysTales_168 (Nat.le_of_ble_eq_true rfl) rfl (fun r16 s15 => ?_)
      refine jx_aload_n h dX10_laysTales_171 rfl 0 rfl ?_
      refine jx_get (v := .ref (Ga G 1)) h fa_X10_7 lm_0 dX10_laysTales_172 rfl ?_
      refine jx_sipush h dX10_laysTales_175 ks_147 ?_
      refine jx_iaload h lm_1 dX10_laysTales_178 ?_
      refine jx_callVv [] h lm_0 (c_X10_feels hG N x3_14 x1 (gi s13 32 (ix x2)) (gi s13 4 (ix (((12 : Int32) * v7) + x3_14))) r16 (gi s15 1 (ix (147 : Int32))) s15) ml_X10_290 (Nat.le_of_ble_eq_true rfl) (Nat.le_of_ble_eq_true rfl) dX10_laysTales_179 (Nat.le_of_ble_eq_true rfl) rfl (fun s17 => ?_)
      refine jx_iload_n h dX10_laysTales_182 rfl 2 rfl ?_
      refine jx_iconst h dX10_laysTales_183 ki_1 ?_
      refine jx_iadd h dX10_laysTales_184 ?_
      refine jx_lti (fun v19 => ?_)
      refine jx_istore_n (lv' := [(2, .int v19), (0, .ref (Ga G 0)), (1, .int x1), (3, .int x3_14), (4, .int v7)]) h dX10_laysTales_185 rfl (Nat.le_of_ble_eq_true rfl) rfl ?_
      refine jx_aload_n h dX10_laysTales_186 rfl 1 rfl ?_
      refine jx_get (v := .ref (Ga G 31)) h fa_X10_101 lm_0 dX10_laysTales_187 rfl ?_
      refine jx_iload_n h dX10_laysTales_190 rfl 0 rfl ?_
      refine jx_iload_n h dX10_laysTales_191 rfl 3 rfl ?_
      refine jx_iastore h lm_31 dX10_laysTales_192 (fun s20 => ?_)
      refine jx_aload_n h dX10_laysTales_193 rfl 1 rfl ?_
      refine jx_get (v := .ref (Ga G 32)) h fa_X10_104 lm_0 dX10_laysTales_194 rfl ?_
      refine jx_iload_n h dX10_laysTales_197 rfl 0 rfl ?_
      refine jx_ldcw h dX10_laysTales_198 kw_X10_300 ?_
      refine jx_aload_n h dX10_laysTales_201 rfl 1 rfl ?_
      refine jx_get (v := .ref (Ga G 32)) h fa_X10_104 lm_0 dX10_laysTales_202 rfl ?_
      refine jx_iload_n h dX10_laysTales_205 rfl 0 rfl ?_
      refine jx_iconst h dX10_laysTales_206 ki_1 ?_
      refine jx_isub h dX10_laysTales_207 ?_
      refine jx_iaload h lm_32 dX10_laysTales_208 ?_
      refine jx_aload_n h dX10_laysTales_209 rfl 1 rfl ?_
      refine jx_bipush h dX10_laysTales_210 kb_116 ?_
      refine jx_sipush h dX10_laysTales_212 ks_999 ?_
      refine jx_callVi [.int (gi s20 32 (ix (v19 - 1))), .int 99999, .int v19, .ref (Ga G 32)] h lm_0 (c_X10_byLaw hG N 116 999 s20) ml_X10_301 (Nat.le_of_ble_eq_true rfl) (Nat.le_of_ble_eq_true rfl) dX10_laysTales_215 (Nat.le_of_ble_eq_true rfl) rfl (fun r22 s21 => ?_)
      refine jx_iadd h dX10_laysTales_218 ?_
      refine jx_callSi [.int v19, .ref (Ga G 32)] h (c_X10_min hG N 99999 ((gi s20 32 (ix (v19 - 1))) + r22) s21) ml_X10_271 (Nat.le_of_ble_eq_true rfl) (Nat.le_of_ble_eq_true rfl) dX10_laysTales_219 (Nat.le_of_ble_eq_true rfl) rfl (fun r24 s23 => ?_)
      refine jx_iastore h lm_32 dX10_laysTales_222 (fun s25 => ?_)
      refine jx_aload_n h dX10_laysTales_223 rfl 1 rfl ?_
      refine jx_get (v := .ref (Ga G 30)) h fa_X10_98 lm_0 dX10_laysTales_224 rfl ?_
      refine jx_iload_n h dX10_laysTales_227 rfl 3 rfl ?_
      refine jx_aload_n h dX10_laysTales_228 rfl 1 rfl ?_
      refine jx_get (v := .ref (Ga G 30)) h fa_X10_98 lm_0 dX10_laysTales_229 rfl ?_
      refine jx_iload_n h dX10_laysTales_232 rfl 3 rfl ?_
      refine jx_iaload h lm_30 dX10_laysTales_233 ?_
      refine jx_aload_n h dX10_laysTales_234 rfl 1 rfl ?_
      refine jx_get (v := .ref (Ga G 32)) h fa_X10_104 lm_0 dX10_laysTales_235 rfl ?_
      refine jx_iload_n h dX10_laysTales_238 rfl 0 rfl ?_
      refine jx_iaload h lm_32 dX10_laysTales_239 ?_
      refine jx_callSi [.int x3_14, .ref (Ga G 30)] h (c_X10_max hG N (gi s25 30 (ix x3_14)) (gi s25 32 (ix v19)) s25) ml_X10_376 (Nat.le_of_ble_eq_true rfl) (Nat.le_of_ble_eq_true rfl) dX10_laysTales_240 (Nat.le_of_ble_eq_true rfl) rfl (fun r27 s26 => ?_)
      refine jx_iastore h lm_30 dX10_laysTales_243 (fun s28 => ?_)
      refine jx_iconst h dX10_laysTales_244 ki_0 ?_
      refine jx_istore_n (lv' := [(3, .int 0), (2, .int v19), (0, .ref (Ga G 0)), (1, .int x1), (4, .int v7)]) h dX10_laysTales_245 rfl (Nat.le_of_ble_eq_true rfl) rfl ?_
      refine jx_goto (tgt := 73) h dX10_laysTales_246 rfl ?_
      exact jx_subk [2, 3, 1, 0] h (ih v19 0 s28) rfl
    · refine jx_iload h dX10_laysTales_133 4 rfl ?_
      refine jx_iconst h dX10_laysTales_135 ki_1 ?_
      refine jx_iadd h dX10_laysTales_136 ?_
      refine jx_lti (fun v29 => ?_)
      refine jx_istore_n (lv' := [(3, .int v29), (0, .ref (Ga G 0)), (1, .int x1), (2, .int x2), (4, .int v7)]) h dX10_laysTales_137 rfl (Nat.le_of_ble_eq_true rfl) rfl ?_
      refine jx_iload_n h dX10_laysTales_138 rfl 3 rfl ?_
      refine jx_iconst h dX10_laysTales_139 ki_1 ?_
      refine jx_isub h dX10_laysTales_140 ?_
      refine jx_lti (fun v30 => ?_)
      refine jx_istore_n (lv' := [(2, .int v30), (3, .int v29), (0, .ref (Ga G 0)), (1, .int x1), (4, .int v7)]) h dX10_laysTales_141 rfl (Nat.le_of_ble_eq_true rfl) rfl ?_
      refine jx_goto (tgt := 73) h dX10_laysTales_142 rfl ?_
      exact jx_subk [2, 3, 0, 1] h (ih v30 v29 s13) rfl
set_option maxRecDepth 20000 in
theorem c_X10_laysTales {G : Gx} (hG : Gok G ∧ IsG G layM fsoM) (N : Nat) (x1 : Int32) (s : Mem) : Ct G yX10_laysTales cX10_laysTales 5 none 3 [.ref (Ga G 0), .int x1] tvV s (f_X10_laysTales N x1 s) := by
  refine Ct.of hG (by decide) (Nat.le_of_ble_eq_true rfl) (fun P h => ?_)
  show P _ 0 [(0, .ref (Ga G 0)), (1, .int x1)] [] s
  unfold f_X10_laysTales
  refine jx_iconst h dX10_laysTales_0 ki_0 ?_
  refine jx_istore_n (lv' := [(2, .int 0), (0, .ref (Ga G 0)), (1, .int x1)]) h dX10_laysTales_1 rfl (Nat.le_of_ble_eq_true rfl) rfl ?_
  refine jx_subk [1, 2, 0] h (itr_ind (Q := (fun (f : Int32 → Mem → Option (Unit × Mem)) => ∀ (x2 : Int32) (s : Mem), P (f x2 s) 2 [(0, .ref (Ga G 0)), (1, .int x1), (2, .int x2)] [] s)) (fun _ _ => jx_none h) (fun r2 ih2 => ?_) N 0 s) rfl
  refine w_X10_laysTales_2 hG h N x1 ?_ ih2
  intro s3
  refine jx_aload_n h dX10_laysTales_21 rfl 0 rfl ?_
  refine jx_get (v := .ref (Ga G 31)) h fa_X10_101 lm_0 dX10_laysTales_22 rfl ?_
  refine jx_iconst h dX10_laysTales_25 ki_0 ?_
  refine jx_aload_n h dX10_laysTales_26 rfl 0 rfl ?_
  refine jx_get (v := .ref (Ga G 1)) h fa_X10_7 lm_0 dX10_laysTales_27 rfl ?_
  refine jx_bipush h dX10_laysTales_30 kb_126 ?_
  refine jx_iload_n h dX10_laysTales_32 rfl 1 rfl ?_
  refine jx_iadd h dX10_laysTales_33 ?_
  refine jx_iaload h lm_1 dX10_laysTales_34 ?_
  refine jx_iastore h lm_31 dX10_laysTales_35 (fun s4 => ?_)
  refine jx_aload_n h dX10_laysTales_36 rfl 0 rfl ?_
  refine jx_get (v := .ref (Ga G 32)) h fa_X10_104 lm_0 dX10_laysTales_37 rfl ?_
  refine jx_iconst h dX10_laysTales_40 ki_0 ?_
  refine jx_aload_n h dX10_laysTales_41 rfl 0 rfl ?_
  refine jx_get (v := .ref (Ga G 1)) h fa_X10_7 lm_0 dX10_laysTales_42 rfl ?_
  refine jx_sipush h dX10_laysTales_45 ks_132 ?_
  refine jx_iload_n h dX10_laysTales_48 rfl 1 rfl ?_
  refine jx_iadd h dX10_laysTales_49 ?_
  refine jx_iaload h lm_1 dX10_laysTales_50 ?_
  refine jx_iastore h lm_32 dX10_laysTales_51 (fun s5 => ?_)
  refine jx_aload_n h dX10_laysTales_52 rfl 0 rfl ?_
  refine jx_get (v := .ref (Ga G 30)) h fa_X10_98 lm_0 dX10_laysTales_53 rfl ?_
  refine jx_aload_n h dX10_laysTales_56 rfl 0 rfl ?_
  refine jx_get (v := .ref (Ga G 31)) h fa_X10_101 lm_0 dX10_laysTales_57 rfl ?_
  refine jx_iconst h dX10_laysTales_60 ki_0 ?_
  refine jx_iaload h lm_31 dX10_laysTales_61 ?_
  refine jx_aload_n h dX10_laysTales_62 rfl 0 rfl ?_
  refine jx_get (v := .ref (Ga G 32)) h fa_X10_104 lm_0 dX10_laysTales_63 rfl ?_
  refine jx_iconst h dX10_laysTales_66 ki_0 ?_
  refine jx_iaload h lm_32 dX10_laysTales_67 ?_
  refine jx_iastore h lm_30 dX10_laysTales_68 (fun s6 => ?_)
  refine jx_iconst h dX10_laysTales_69 ki_0 ?_
  refine jx_istore_n (lv' := [(2, .int 0), (0, .ref (Ga G 0)), (1, .int x1)]) h dX10_laysTales_70 rfl (Nat.le_of_ble_eq_true rfl) rfl ?_
  refine jx_iconst h dX10_laysTales_71 ki_0 ?_
  refine jx_istore_n (lv' := [(3, .int 0), (2, .int 0), (0, .ref (Ga G 0)), (1, .int x1)]) h dX10_laysTales_72 rfl (Nat.le_of_ble_eq_true rfl) rfl ?_
  refine jx_subk [2, 3, 1, 0] h (itr_ind (Q := (fun (f : Int32 → Int32 → Mem → Option (Unit × Mem)) => ∀ (x2 : Int32) (x3 : Int32) (s : Mem), P (f x2 x3 s) 73 [(0, .ref (Ga G 0)), (1, .int x1), (2, .int x2), (3, .int x3)] [] s)) (fun _ _ _ => jx_none h) (fun r73 ih73 => ?_) N 0 0 s6) rfl
  refine w_X10_laysTales_73 hG h N x1  ih73
noncomputable def st_X10_tales_36 (N : Nat) (x1 : Int32) (x2 : Int32) (k149 : Int32 → Int32 → Int32 → Mem → Option (Int32 × Mem)) (rec : Int32 → Int32 → Int32 → Int32 → Mem → Option (Int32 × Mem)) (x3 : Int32) (x4 : Int32) (x5 : Int32) (x6 : Int32) (s0 : Mem) : Option (Int32 × Mem) :=
  if 12 ≤ x6 then (k149 x3 x4 x5 s0) else bd (f_X10_isKnown N x1 x6 s0) (fun r8 s7 => if r8 = 0 then (lt (x6 + 1) (fun x6_19 => rec x3 x4 x5 x6_19 s7)) else bd (f_X10_known N x1 x6 s7) (fun r10 s9 => chk r10 151 (lt (gi s9 1 (ix r10)) (fun v11 => chk ((132 : Int32) + x1) 151 (lt (fun (x3_13 : Int32) (s12 : Mem) => chk ((132 : Int32) + x1) 151 (if x4 < (v11 - (gi s12 1 (ix ((132 : Int32) + x1)))) then (chk ((132 : Int32) + x1) 151 (lt (v11 - (gi s12 1 (ix ((132 : Int32) + x1)))) (fun v14 => lt (x6 + 1) (fun x6_15 => rec x3_13 v14 x6 x6_15 s12)))) else lt (x6 + 1) (fun x6_16 => rec x3_13 x4 x5 x6_16 s12))) (fun j103 => if v11 < (gi s9 1 (ix ((132 : Int32) + x1))) then (lt (x3 ||| ((1 : Int32) <<< (x6 &&& 31))) (fun v17 => j103 v17 s9)) else chk x6 12 (if v11 ≤ (gi s9 30 (ix x6)) then (j103 x3 s9) else lt (x3 ||| ((1 : Int32) <<< (x6 &&& 31))) (fun v18 => j103 v18 s9))))))))
noncomputable def f_X10_tales (N : Nat) (x1 : Int32) (x2 : Int32) (s : Mem) : Option (Int32 × Mem) :=
  bd (f_X10_isLetter N x1 s) (fun r2 s1 => if r2 = 0 then (some ((-1), s1)) else bd (f_X10_in N x2 0 2 s1) (fun r4 s3 => if r4 = 0 then (some ((-1), s3)) else bd (f_X10_laysTales N x1 s3) (fun _ s5 => itr (fun _ _ _ _ _ => none) (st_X10_tales_36 N x1 x2 (fun (x3_21 : Int32) (x4_22 : Int32) (x5_23 : Int32) (s20 : Mem) => if x2 = 0 then (some (x3_21, s20)) else if x2 = 1 then (some (x4_22, s20)) else some (x5_23, s20))) N 0 0 (-2) 0 s5)))
set_option maxRecDepth 20000 in
theorem w_X10_tales_36 {G : Gx} (hG : Gok G ∧ IsG G layM fsoM) {P : Option (Int32 × Mem) → Nat → List (Nat × Value) → List Value → Mem → Prop} (h : Jk G layM fsoM RX10 cX10_tales 8 (some .int) 4 tvI P) (N : Nat) (x1 : Int32) (x2 : Int32) {k149 : Int32 → Int32 → Int32 → Mem → Option (Int32 × Mem)} (hk149 : ∀ (x3 : Int32) (x4 : Int32) (x5 : Int32) (s : Mem), P (k149 x3 x4 x5 s) 149 [(2, .int x2), (3, .int x3), (4, .int x4), (5, .int x5)] [] s) {rec : Int32 → Int32 → Int32 → Int32 → Mem → Option (Int32 × Mem)} (ih : ∀ (x3 : Int32) (x4 : Int32) (x5 : Int32) (x6 : Int32) (s : Mem), P (rec x3 x4 x5 x6 s) 36 [(0, .ref (Ga G 0)), (1, .int x1), (2, .int x2), (3, .int x3), (4, .int x4), (5, .int x5), (6, .int x6)] [] s) : ∀ (x3 : Int32) (x4 : Int32) (x5 : Int32) (x6 : Int32) (s : Mem), P (st_X10_tales_36 N x1 x2 k149 rec x3 x4 x5 x6 s) 36 [(0, .ref (Ga G 0)), (1, .int x1), (2, .int x2), (3, .int x3), (4, .int x4), (5, .int x5), (6, .int x6)] [] s := by
  intro x3 x4 x5 x6 s0
  unfold st_X10_tales_36
  refine jx_iload h dX10_tales_36 6 rfl ?_
  refine jx_bipush h dX10_tales_38 kb_12 ?_
  refine jx_icmp_ge (tgt := 149) h dX10_tales_40 rfl ?_ ?_
  · exact jx_subk [2, 3, 4, 5] h (hk149 x3 x4 x5 s0) rfl
  · refine jx_aload_n h dX10_tales_43 rfl 0 rfl ?_
    refine jx_iload_n h dX10_tales_44 rfl 1 rfl ?_
    refine jx_iload h dX10_tales_45 6 rfl ?_
    refine jx_callVi [] h lm_0 (c_X10_isKnown hG N x1 x6 s0) ml_X10_284 (Nat.le_of_ble_eq_true rfl) (Nat.le_of_ble_eq_true rfl) dX10_tales_47 (Nat.le_of_ble_eq_true rfl) rfl (fun r8 s7 => ?_)
    refine jx_if_ne (tgt := 56) h dX10_tales_50 rfl ?_ ?_
    · refine jx_aload_n h dX10_tales_56 rfl 0 rfl ?_
      refine jx_get (v := .ref (Ga G 1)) h fa_X10_7 lm_0 dX10_tales_57 rfl ?_
      refine jx_iload_n h dX10_tales_60 rfl 1 rfl ?_
      refine jx_iload h dX10_tales_61 6 rfl ?_
      refine jx_callSi [.ref (Ga G 1)] h (c_X10_known hG N x1 x6 s7) ml_X10_142 (Nat.le_of_ble_eq_true rfl) (Nat.le_of_ble_eq_true rfl) dX10_tales_63 (Nat.le_of_ble_eq_true rfl) rfl (fun r10 s9 => ?_)
      refine jx_iaload h lm_1 dX10_tales_66 ?_
      refine jx_lti (fun v11 => ?_)
      refine jx_istore (lv' := [(7, .int v11), (0, .ref (Ga G 0)), (1, .int x1), (2, .int x2), (3, .int x3), (4, .int x4), (5, .int x5), (6, .int x6)]) h dX10_tales_67 (Nat.le_of_ble_eq_true rfl) rfl ?_
      refine jx_iload h dX10_tales_69 0 rfl ?_
      refine jx_aload_n h dX10_tales_71 rfl 1 rfl ?_
      refine jx_get (v := .ref (Ga G 1)) h fa_X10_7 lm_0 dX10_tales_72 rfl ?_
      refine jx_sipush h dX10_tales_75 ks_132 ?_
      refine jx_iload_n h dX10_tales_78 rfl 2 rfl ?_
      refine jx_iadd h dX10_tales_79 ?_
      refine jx_iaload h lm_1 dX10_tales_80 ?_
      refine jx_join (fun (j : Int32 → Mem → Option (Int32 × Mem)) => ∀ (x3_13 : Int32) (s12 : Mem), P (j x3_13 s12) 103 [(0, .ref (Ga G 0)), (1, .int x1), (2, .int x2), (3, .int x3_13), (4, .int x4), (5, .int x5), (6, .int x6), (7, .int v11)] [] s12) (fun x3_13 s12 => ?_) (fun j103 hj103 => ?_)
      · refine jx_iload h dX10_tales_103 7 rfl ?_
        refine jx_aload_n h dX10_tales_105 rfl 0 rfl ?_
        refine jx_get (v := .ref (Ga G 1)) h fa_X10_7 lm_0 dX10_tales_106 rfl ?_
        refine jx_sipush h dX10_tales_109 ks_132 ?_
        refine jx_iload_n h dX10_tales_112 rfl 1 rfl ?_
        refine jx_iadd h dX10_tales_113 ?_
        refine jx_iaload h lm_1 dX10_tales_114 ?_
        refine jx_isub h dX10_tales_115 ?_
        refine jx_iload h dX10_tales_116 4 rfl ?_
        refine jx_icmp_gt (tgt := 124) h dX10_tales_118 rfl ?_ ?_
        · refine jx_iload h dX10_tales_124 7 rfl ?_
          refine jx_aload_n h dX10_tales_126 rfl 0 rfl ?_
          refine jx_get (v := .ref (Ga G 1)) h fa_X10_7 lm_0 dX10_tales_127 rfl ?_
          refine jx_sipush h dX10_tales_130 ks_132 ?_
          refine jx_iload_n h dX10_tales_133 rfl 1 rfl ?_
          refine jx_iadd h dX10_tales_134 ?_
          refine jx_iaload h lm_1 dX10_tales_135 ?_
          refine jx_isub h dX10_tales_136 ?_
          refine jx_lti (fun v14 => ?_)
          refine jx_istore (lv' := [(4, .int v14), (0, .ref (Ga G 0)), (1, .int x1), (2, .int x2), (3, .int x3_13), (5, .int x5), (6, .int x6), (7, .int v11)]) h dX10_tales_137 (Nat.le_of_ble_eq_true rfl) rfl ?_
          refine jx_iload h dX10_tales_139 6 rfl ?_
          refine jx_istore (lv' := [(5, .int x6), (4, .int v14), (0, .ref (Ga G 0)), (1, .int x1), (2, .int x2), (3, .int x3_13), (6, .int x6), (7, .int v11)]) h dX10_tales_141 (Nat.le_of_ble_eq_true rfl) rfl ?_
          refine jx_iincl (L := fun w => [(6, .int w), (5, .int x6), (4, .int v14), (0, .ref (Ga G 0)), (1, .int x1), (2, .int x2), (3, .int x3_13), (7, .int v11)]) h dX10_tales_143 6 rfl (kn_1 _) (Nat.le_of_ble_eq_true rfl) (fun _ => rfl) (fun x6_15 => ?_)
          refine jx_goto (tgt := 36) h dX10_tales_146 rfl ?_
          exact jx_subk [3, 4, 5, 6, 2, 1, 0] h (ih x3_13 v14 x6 x6_15 s12) rfl
        · refine jx_goto (tgt := 143) h dX10_tales_121 rfl ?_
          refine jx_iincl (L := fun w => [(6, .int w), (0, .ref (Ga G 0)), (1, .int x1), (2, .int x2), (3, .int x3_13), (4, .int x4), (5, .int x5), (7, .int v11)]) h dX10_tales_143 6 rfl (kn_1 _) (Nat.le_of_ble_eq_true rfl) (fun _ => rfl) (fun x6_16 => ?_)
          refine jx_goto (tgt := 36) h dX10_tales_146 rfl ?_
          exact jx_subk [1, 2, 3, 4, 5, 6, 0] h (ih x3_13 x4 x5 x6_16 s12) rfl
      · refine jx_icmp_lt (tgt := 96) h dX10_tales_81 rfl ?_ ?_
        · refine jx_iload_n h dX10_tales_96 rfl 4 rfl ?_
          refine jx_iconst h dX10_tales_97 ki_1 ?_
          refine jx_iload h dX10_tales_98 7 rfl ?_
          refine jx_ishl h dX10_tales_100 ?_
          refine jx_ior h dX10_tales_101 ?_
          refine jx_lti (fun v17 => ?_)
          refine jx_istore_n (lv' := [(3, .int v17), (7, .int v11), (0, .ref (Ga G 0)), (1, .int x1), (2, .int x2), (4, .int x4), (5, .int x5), (6, .int x6)]) h dX10_tales_102 rfl (Nat.le_of_ble_eq_true rfl) rfl ?_
          exact jx_subk [2, 3, 4, 0, 5, 6, 7, 1] h (hj103 v17 s9) rfl
        · refine jx_iload h dX10_tales_84 0 rfl ?_
          refine jx_aload_n h dX10_tales_86 rfl 1 rfl ?_
          refine jx_get (v := .ref (Ga G 30)) h fa_X10_98 lm_0 dX10_tales_87 rfl ?_
          refine jx_iload h dX10_tales_90 7 rfl ?_
          refine jx_iaload h lm_30 dX10_tales_92 ?_
          refine jx_icmp_le (tgt := 103) h dX10_tales_93 rfl ?_ ?_
          · exact jx_subk [1, 2, 3, 4, 5, 6, 7, 0] h (hj103 x3 s9) rfl
          · refine jx_iload_n h dX10_tales_96 rfl 4 rfl ?_
            refine jx_iconst h dX10_tales_97 ki_1 ?_
            refine jx_iload h dX10_tales_98 7 rfl ?_
            refine jx_ishl h dX10_tales_100 ?_
            refine jx_ior h dX10_tales_101 ?_
            refine jx_lti (fun v18 => ?_)
            refine jx_istore_n (lv' := [(3, .int v18), (7, .int v11), (0, .ref (Ga G 0)), (1, .int x1), (2, .int x2), (4, .int x4), (5, .int x5), (6, .int x6)]) h dX10_tales_102 rfl (Nat.le_of_ble_eq_true rfl) rfl ?_
            exact jx_subk [2, 3, 4, 0, 5, 6, 7, 1] h (hj103 v18 s9) rfl
    · refine jx_goto (tgt := 143) h dX10_tales_53 rfl ?_
      refine jx_iincl (L := fun w => [(6, .int w), (0, .ref (Ga G 0)), (1, .int x1), (2, .int x2), (3, .int x3), (4, .int x4), (5, .int x5)]) h dX10_tales_143 6 rfl (kn_1 _) (Nat.le_of_ble_eq_true rfl) (fun _ => rfl) (fun x6_19 => ?_)
      refine jx_goto (tgt := 36) h dX10_tales_146 rfl ?_
      exact jx_subk [1, 2, 3, 4, 5, 6, 0] h (ih x3 x4 x5 x6_19 s7) rfl
set_option maxRecDepth 20000 in
theorem c_X10_tales {G : Gx} (hG : Gok G ∧ IsG G layM fsoM) (N : Nat) (x1 : Int32) (x2 : Int32) (s : Mem) : Ct G yX10_tales cX10_tales 8 (some .int) 4 [.ref (Ga G 0), .int x1, .int x2] tvI s (f_X10_tales N x1 x2 s) := by
  refine Ct.of hG (by decide) (Nat.le_of_ble_eq_true rfl) (fun P h => ?_)
  show P _ 0 [(0, .ref (Ga G 0)), (1, .int x1), (2, .int x2)] [] s
  unfold f_X10_tales
  refine jx_aload_n h dX10_tales_0 rfl 0 rfl ?_
  refine jx_iload_n h dX10_tales_1 rfl 1 rfl ?_
  refine jx_callVi [] h lm_0 (c_X10_isLetter hG N x1 s) ml_X10_264 (Nat.le_of_ble_eq_true rfl) (Nat.le_of_ble_eq_true rfl) dX10_tales_2 (Nat.le_of_ble_eq_true rfl) rfl (fun r2 s1 => ?_)
  refine jx_if_eq (tgt := 17) h dX10_tales_5 rfl ?_ ?_
  · refine jx_iconst h dX10_tales_17 ki_m1 ?_
    exact jx_iret h dX10_tales_18
  · refine jx_iload_n h dX10_tales_8 rfl 2 rfl ?_
    refine jx_iconst h dX10_tales_9 ki_0 ?_
    refine jx_iconst h dX10_tales_10 ki_2 ?_
    refine jx_callSi [] h (c_X10_in hG N x2 0 2 s1) ml_X10_134 (Nat.le_of_ble_eq_true rfl) (Nat.le_of_ble_eq_true rfl) dX10_tales_11 (Nat.le_of_ble_eq_true rfl) rfl (fun r4 s3 => ?_)
    refine jx_if_ne (tgt := 19) h dX10_tales_14 rfl ?_ ?_
    · refine jx_aload_n h dX10_tales_19 rfl 0 rfl ?_
      refine jx_iload_n h dX10_tales_20 rfl 1 rfl ?_
      refine jx_callVv [] h lm_0 (c_X10_laysTales hG N x1 s3) ml_X10_379 (Nat.le_of_ble_eq_true rfl) (Nat.le_of_ble_eq_true rfl) dX10_tales_21 (Nat.le_of_ble_eq_true rfl) rfl (fun s5 => ?_)
      refine jx_iconst h dX10_tales_24 ki_0 ?_
      refine jx_istore_n (lv' := [(3, .int 0), (0, .ref (Ga G 0)), (1, .int x1), (2, .int x2)]) h dX10_tales_25 rfl (Nat.le_of_ble_eq_true rfl) rfl ?_
      refine jx_iconst h dX10_tales_26 ki_0 ?_
      refine jx_istore (lv' := [(4, .int 0), (3, .int 0), (0, .ref (Ga G 0)), (1, .int x1), (2, .int x2)]) h dX10_tales_27 (Nat.le_of_ble_eq_true rfl) rfl ?_
      refine jx_bipush h dX10_tales_29 kb_m2 ?_
      refine jx_istore (lv' := [(5, .int (-2)), (4, .int 0), (3, .int 0), (0, .ref (Ga G 0)), (1, .int x1), (2, .int x2)]) h dX10_tales_31 (Nat.le_of_ble_eq_true rfl) rfl ?_
      refine jx_iconst h dX10_tales_33 ki_0 ?_
      refine jx_istore (lv' := [(6, .int 0), (5, .int (-2)), (4, .int 0), (3, .int 0), (0, .ref (Ga G 0)), (1, .int x1), (2, .int x2)]) h dX10_tales_34 (Nat.le_of_ble_eq_true rfl) rfl ?_
      refine jx_subk [4, 5, 6, 3, 2, 1, 0] h (itr_ind (Q := (fun (f : Int32 → Int32 → Int32 → Int32 → Mem → Option (Int32 × Mem)) => ∀ (x3 : Int32) (x4 : Int32) (x5 : Int32) (x6 : Int32) (s : Mem), P (f x3 x4 x5 x6 s) 36 [(0, .ref (Ga G 0)), (1, .int x1), (2, .int x2), (3, .int x3), (4, .int x4), (5, .int x5), (6, .int x6)] [] s)) (fun _ _ _ _ _ => jx_none h) (fun r36 ih36 => ?_) N 0 0 (-2) 0 s5) rfl
      refine w_X10_tales_36 hG h N x1 x2 ?_ ih36
      intro x3_21 x4_22 x5_23 s20
      refine jx_iload_n h dX10_tales_149 rfl 0 rfl ?_
      refine jx_if_ne (tgt := 157) h dX10_tales_150 rfl ?_ ?_
      · refine jx_iload_n h dX10_tales_157 rfl 0 rfl ?_
        refine jx_iconst h dX10_tales_158 ki_1 ?_
        refine jx_icmp_ne (tgt := 167) h dX10_tales_159 rfl ?_ ?_
        · refine jx_iload h dX10_tales_167 3 rfl ?_
          exact jx_iret h dX10_tales_169
        · refine jx_iload h dX10_tales_162 2 rfl ?_
          refine jx_goto (tgt := 169) h dX10_tales_164 rfl ?_
          exact jx_iret h dX10_tales_169
      · refine jx_iload_n h dX10_tales_153 rfl 1 rfl ?_
        refine jx_goto (tgt := 169) h dX10_tales_154 rfl ?_
        exact jx_iret h dX10_tales_169
    · refine jx_iconst h dX10_tales_17 ki_m1 ?_
      exact jx_iret h dX10_tales_18
