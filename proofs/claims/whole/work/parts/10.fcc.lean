noncomputable def f_X7_here (N : Nat)  (s : Mem) : Option (Int32 × Mem) :=
  if (gi s 95 6) < 0 then (some ((-1), s)) else if (gi s 95 5) ≤ (gi s 95 6) then (some ((-1), s)) else lt (ix (gi s 95 4)) (fun q1 => ckc (isAr q1) (if (nI (lenC q1)) ≤ (gi s 95 6) then (some ((-1), s)) else lt (ix (gi s 95 4)) (fun q2 => ckc (isAr q2) (chk (gi s 95 6) (lenC q2) (some (gi s q2 (ix (gi s 95 6)), s))))))
set_option maxRecDepth 20000 in
theorem c_X7_here {G : Gx} (hG : Gok G ∧ IsG G layC fsoC) (N : Nat)  (s : Mem) : Ct G yX7_here cX7_here 1 (some .int) 0 [.ref (Ga G 95)] tvI s (f_X7_here N s) := by
  refine Ct.of hG (by decide) (Nat.le_of_ble_eq_true rfl) (fun P h => ?_)
  show P _ 0 [(0, .ref (Ga G 95))] [] s
  unfold f_X7_here
  refine jx_aload_n h dX7_here_0 rfl 0 rfl ?_
  refine jx_get (v := .int (gi s 95 6)) h fa_X7_37 lc_95 dX7_here_1 rfl ?_
  refine jx_if_lt (tgt := 42) h dX7_here_4 rfl ?_ ?_
  · refine jx_iconst h dX7_here_42 ki_m1 ?_
    exact jx_iret h dX7_here_43
  · refine jx_aload_n h dX7_here_7 rfl 0 rfl ?_
    refine jx_get (v := .int (gi s 95 6)) h fa_X7_37 lc_95 dX7_here_8 rfl ?_
    refine jx_aload_n h dX7_here_11 rfl 0 rfl ?_
    refine jx_get (v := .int (gi s 95 5)) h fa_X7_33 lc_95 dX7_here_12 rfl ?_
    refine jx_icmp_ge (tgt := 42) h dX7_here_15 rfl ?_ ?_
    · refine jx_iconst h dX7_here_42 ki_m1 ?_
      exact jx_iret h dX7_here_43
    · refine jx_aload_n h dX7_here_18 rfl 0 rfl ?_
      refine jx_get (v := .int (gi s 95 6)) h fa_X7_37 lc_95 dX7_here_19 rfl ?_
      refine jx_aload_n h dX7_here_22 rfl 0 rfl ?_
      refine jx_get (v := .ref (Ga G (ix (gi s 95 4)))) h fa_X7_24 lc_95 dX7_here_23 rfl ?_
      refine jx_ltr (fun q1 => ?_)
      refine jx_ckc h (fun hq1 => ?_)
      refine jx_alen (v := (nI (lenC q1))) h (isAr_0 hq1) rfl dX7_here_26 ?_
      refine jx_icmp_ge (tgt := 42) h dX7_here_27 rfl ?_ ?_
      · refine jx_iconst h dX7_here_42 ki_m1 ?_
        exact jx_iret h dX7_here_43
      · refine jx_aload_n h dX7_here_30 rfl 0 rfl ?_
        refine jx_get (v := .ref (Ga G (ix (gi s 95 4)))) h fa_X7_24 lc_95 dX7_here_31 rfl ?_
        refine jx_ltr (fun q2 => ?_)
        refine jx_ckc h (fun hq2 => ?_)
        refine jx_aload_n h dX7_here_34 rfl 0 rfl ?_
        refine jx_get (v := .int (gi s 95 6)) h fa_X7_37 lc_95 dX7_here_35 rfl ?_
        refine jx_iaload h (isAr_0 hq2) dX7_here_38 ?_
        refine jx_goto (tgt := 43) h dX7_here_39 rfl ?_
        exact jx_iret h dX7_here_43
noncomputable def f_X7_readLetter (N : Nat) (x1 : Int32) (x2 : Int32) (s : Mem) : Option (Unit × Mem) :=
  bd (f_X7_here N s) (fun r2 s1 => lt (r2 - 65) (fun v3 => bd (f_X9_isLetter N v3 s1) (fun r5 s4 => if r5 = 0 then (bd (f_X7_fail N 1 s4) (fun _ s14 => some ((), s14))) else if x1 < 20 then (bd (f_X9_hasBit N x2 v3 s4) (fun r7 s6 => if r7 = 0 then (bd (f_X7_fail N 7 s6) (fun _ s10 => some ((), s10))) else chk x1 20 (lt (si s6 96 (ix x1) v3) (fun s8 => lt (si s8 95 6 ((gi s8 95 6) + 1)) (fun s9 => some ((), s9)))))) else bd (f_X7_fail N 4 s4) (fun _ s12 => some ((), s12)))))
set_option maxRecDepth 20000 in
theorem c_X7_readLetter {G : Gx} (hG : Gok G ∧ IsG G layC fsoC) (N : Nat) (x1 : Int32) (x2 : Int32) (s : Mem) : Ct G yX7_readLetter cX7_readLetter 4 none 2 [.ref (Ga G 95), .int x1, .int x2] tvV s (f_X7_readLetter N x1 x2 s) := by
  refine Ct.of hG (by decide) (Nat.le_of_ble_eq_true rfl) (fun P h => ?_)
  show P _ 0 [(0, .ref (Ga G 95)), (1, .int x1), (2, .int x2)] [] s
  unfold f_X7_readLetter
  refine jx_aload_n h dX7_readLetter_0 rfl 0 rfl ?_
  refine jx_callVi [] h lc_95 (c_X7_here hG N  s) ml_X7_54 (Nat.le_of_ble_eq_true rfl) (Nat.le_of_ble_eq_true rfl) dX7_readLetter_1 (Nat.le_of_ble_eq_true rfl) rfl (fun r2 s1 => ?_)
  refine jx_bipush h dX7_readLetter_4 kb_65 ?_
  refine jx_isub h dX7_readLetter_6 ?_
  refine jx_lti (fun v3 => ?_)
  refine jx_istore_n (lv' := [(3, .int v3), (0, .ref (Ga G 95)), (1, .int x1), (2, .int x2)]) h dX7_readLetter_7 rfl (Nat.le_of_ble_eq_true rfl) rfl ?_
  refine jx_iload_n h dX7_readLetter_8 rfl 0 rfl ?_
  refine jx_callSi [] h (c_X9_isLetter hG N v3 s1) ml_X7_61 (Nat.le_of_ble_eq_true rfl) (Nat.le_of_ble_eq_true rfl) dX7_readLetter_9 (Nat.le_of_ble_eq_true rfl) rfl (fun r5 s4 => ?_)
  refine jx_if_ne (tgt := 23) h dX7_readLetter_12 rfl ?_ ?_
  · refine jx_iload_n h dX7_readLetter_23 rfl 2 rfl ?_
    refine jx_bipush h dX7_readLetter_24 kb_20 ?_
    refine jx_icmp_lt (tgt := 37) h dX7_readLetter_26 rfl ?_ ?_
    · refine jx_iload_n h dX7_readLetter_37 rfl 3 rfl ?_
      refine jx_iload_n h dX7_readLetter_38 rfl 0 rfl ?_
      refine jx_callSi [] h (c_X9_hasBit hG N x2 v3 s4) ml_X7_65 (Nat.le_of_ble_eq_true rfl) (Nat.le_of_ble_eq_true rfl) dX7_readLetter_39 (Nat.le_of_ble_eq_true rfl) rfl (fun r7 s6 => ?_)
      refine jx_if_ne (tgt := 54) h dX7_readLetter_42 rfl ?_ ?_
      · refine jx_aload_n h dX7_readLetter_54 rfl 1 rfl ?_
        refine jx_get (v := .ref (Ga G 96)) h fa_X7_11 lc_95 dX7_readLetter_55 rfl ?_
        refine jx_iload_n h dX7_readLetter_58 rfl 2 rfl ?_
        refine jx_iload_n h dX7_readLetter_59 rfl 0 rfl ?_
        refine jx_iastore h lc_96 dX7_readLetter_60 (fun s8 => ?_)
        refine jx_aload_n h dX7_readLetter_61 rfl 1 rfl ?_
        refine jx_dup h dX7_readLetter_62 rfl ?_
        refine jx_get (v := .int (gi s8 95 6)) h fa_X7_37 lc_95 dX7_readLetter_63 rfl ?_
        refine jx_iconst h dX7_readLetter_66 ki_1 ?_
        refine jx_iadd h dX7_readLetter_67 ?_
        refine jx_put h fa_X7_37 fp_X7_6 lc_95 rfl rfl dX7_readLetter_68 (fu_X7_6 _ _ _ _) (fun s9 => ?_)
        exact jx_vret h dX7_readLetter_71
      · refine jx_aload_n h dX7_readLetter_45 rfl 1 rfl ?_
        refine jx_bipush h dX7_readLetter_46 kb_7 ?_
        refine jx_callVv [] h lc_95 (c_X7_fail hG N 7 s6) ml_X7_58 (Nat.le_of_ble_eq_true rfl) (Nat.le_of_ble_eq_true rfl) dX7_readLetter_48 (Nat.le_of_ble_eq_true rfl) rfl (fun s10 => ?_)
        refine jx_goto (tgt := 71) h dX7_readLetter_51 rfl ?_
        exact jx_vret h dX7_readLetter_71
    · refine jx_aload_n h dX7_readLetter_29 rfl 1 rfl ?_
      refine jx_iconst h dX7_readLetter_30 ki_4 ?_
      refine jx_callVv [] h lc_95 (c_X7_fail hG N 4 s4) ml_X7_58 (Nat.le_of_ble_eq_true rfl) (Nat.le_of_ble_eq_true rfl) dX7_readLetter_31 (Nat.le_of_ble_eq_true rfl) rfl (fun s12 => ?_)
      refine jx_goto (tgt := 71) h dX7_readLetter_34 rfl ?_
      exact jx_vret h dX7_readLetter_71
  · refine jx_aload_n h dX7_readLetter_15 rfl 1 rfl ?_
    refine jx_iconst h dX7_readLetter_16 ki_1 ?_
    refine jx_callVv [] h lc_95 (c_X7_fail hG N 1 s4) ml_X7_58 (Nat.le_of_ble_eq_true rfl) (Nat.le_of_ble_eq_true rfl) dX7_readLetter_17 (Nat.le_of_ble_eq_true rfl) rfl (fun s14 => ?_)
    refine jx_goto (tgt := 71) h dX7_readLetter_20 rfl ?_
    exact jx_vret h dX7_readLetter_71
noncomputable def f_X7_readParish (N : Nat) (x1 : Int32) (x2 : Int32) (s : Mem) : Option (Unit × Mem) :=
  if (gi s 95 7) = 0 then (if x1 < 20 then (bd (f_X7_here N s) (fun r2 s1 => lt (r2 - 97) (fun v3 => bd (f_X9_isWithin N v3 0 11 s1) (fun r5 s4 => if r5 = 0 then (bd (f_X7_fail N 1 s4) (fun _ s12 => some ((), s12))) else bd (f_X9_hasBit N x2 v3 s4) (fun r7 s6 => if r7 = 0 then (bd (f_X7_fail N 7 s6) (fun _ s10 => some ((), s10))) else chk x1 20 (lt (si s6 97 (ix x1) v3) (fun s8 => lt (si s8 95 6 ((gi s8 95 6) + 1)) (fun s9 => some ((), s9))))))))) else some ((), s)) else some ((), s)
set_option maxRecDepth 20000 in
theorem c_X7_readParish {G : Gx} (hG : Gok G ∧ IsG G layC fsoC) (N : Nat) (x1 : Int32) (x2 : Int32) (s : Mem) : Ct G yX7_readParish cX7_readParish 4 none 1 [.ref (Ga G 95), .int x1, .int x2] tvV s (f_X7_readParish N x1 x2 s) := by
  refine Ct.of hG (by decide) (Nat.le_of_ble_eq_true rfl) (fun P h => ?_)
  show P _ 0 [(0, .ref (Ga G 95)), (1, .int x1), (2, .int x2)] [] s
  unfold f_X7_readParish
  refine jx_aload_n h dX7_readParish_0 rfl 0 rfl ?_
  refine jx_get (v := .int (gi s 95 7)) h fa_X7_40 lc_95 dX7_readParish_1 rfl ?_
  refine jx_if_ne (tgt := 13) h dX7_readParish_4 rfl ?_ ?_
  · exact jx_vret h dX7_readParish_13
  · refine jx_iload_n h dX7_readParish_7 rfl 1 rfl ?_
    refine jx_bipush h dX7_readParish_8 kb_20 ?_
    refine jx_icmp_lt (tgt := 14) h dX7_readParish_10 rfl ?_ ?_
    · refine jx_aload_n h dX7_readParish_14 rfl 0 rfl ?_
      refine jx_callVi [] h lc_95 (c_X7_here hG N  s) ml_X7_54 (Nat.le_of_ble_eq_true rfl) (Nat.le_of_ble_eq_true rfl) dX7_readParish_15 (Nat.le_of_ble_eq_true rfl) rfl (fun r2 s1 => ?_)
      refine jx_bipush h dX7_readParish_18 kb_97 ?_
      refine jx_isub h dX7_readParish_20 ?_
      refine jx_lti (fun v3 => ?_)
      refine jx_istore_n (lv' := [(3, .int v3), (0, .ref (Ga G 95)), (1, .int x1), (2, .int x2)]) h dX7_readParish_21 rfl (Nat.le_of_ble_eq_true rfl) rfl ?_
      refine jx_iload_n h dX7_readParish_22 rfl 0 rfl ?_
      refine jx_iconst h dX7_readParish_23 ki_0 ?_
      refine jx_bipush h dX7_readParish_24 kb_11 ?_
      refine jx_callSi [] h (c_X9_isWithin hG N v3 0 11 s1) ml_X7_69 (Nat.le_of_ble_eq_true rfl) (Nat.le_of_ble_eq_true rfl) dX7_readParish_26 (Nat.le_of_ble_eq_true rfl) rfl (fun r5 s4 => ?_)
      refine jx_if_ne (tgt := 40) h dX7_readParish_29 rfl ?_ ?_
      · refine jx_iload_n h dX7_readParish_40 rfl 3 rfl ?_
        refine jx_iload_n h dX7_readParish_41 rfl 0 rfl ?_
        refine jx_callSi [] h (c_X9_hasBit hG N x2 v3 s4) ml_X7_65 (Nat.le_of_ble_eq_true rfl) (Nat.le_of_ble_eq_true rfl) dX7_readParish_42 (Nat.le_of_ble_eq_true rfl) rfl (fun r7 s6 => ?_)
        refine jx_if_ne (tgt := 57) h dX7_readParish_45 rfl ?_ ?_
        · refine jx_aload_n h dX7_readParish_57 rfl 1 rfl ?_
          refine jx_get (v := .ref (Ga G 97)) h fa_X7_15 lc_95 dX7_readParish_58 rfl ?_
          refine jx_iload_n h dX7_readParish_61 rfl 2 rfl ?_
          refine jx_iload_n h dX7_readParish_62 rfl 0 rfl ?_
          refine jx_iastore h lc_97 dX7_readParish_63 (fun s8 => ?_)
          refine jx_aload_n h dX7_readParish_64 rfl 1 rfl ?_
          refine jx_dup h dX7_readParish_65 rfl ?_
          refine jx_get (v := .int (gi s8 95 6)) h fa_X7_37 lc_95 dX7_readParish_66 rfl ?_
          refine jx_iconst h dX7_readParish_69 ki_1 ?_
          refine jx_iadd h dX7_readParish_70 ?_
          refine jx_put h fa_X7_37 fp_X7_6 lc_95 rfl rfl dX7_readParish_71 (fu_X7_6 _ _ _ _) (fun s9 => ?_)
          exact jx_vret h dX7_readParish_74
        · refine jx_aload_n h dX7_readParish_48 rfl 1 rfl ?_
          refine jx_bipush h dX7_readParish_49 kb_7 ?_
          refine jx_callVv [] h lc_95 (c_X7_fail hG N 7 s6) ml_X7_58 (Nat.le_of_ble_eq_true rfl) (Nat.le_of_ble_eq_true rfl) dX7_readParish_51 (Nat.le_of_ble_eq_true rfl) rfl (fun s10 => ?_)
          refine jx_goto (tgt := 74) h dX7_readParish_54 rfl ?_
          exact jx_vret h dX7_readParish_74
      · refine jx_aload_n h dX7_readParish_32 rfl 1 rfl ?_
        refine jx_iconst h dX7_readParish_33 ki_1 ?_
        refine jx_callVv [] h lc_95 (c_X7_fail hG N 1 s4) ml_X7_58 (Nat.le_of_ble_eq_true rfl) (Nat.le_of_ble_eq_true rfl) dX7_readParish_34 (Nat.le_of_ble_eq_true rfl) rfl (fun s12 => ?_)
        refine jx_goto (tgt := 74) h dX7_readParish_37 rfl ?_
        exact jx_vret h dX7_readParish_74
    · exact jx_vret h dX7_readParish_13
noncomputable def st_X7_readNumber_19 (N : Nat) (k63 : Int32 → Mem → Option (Int32 × Mem)) (rec : Int32 → Int32 → Mem → Option (Int32 × Mem)) (x1 : Int32) (x2 : Int32) (s0 : Mem) : Option (Int32 × Mem) :=
  if 4 ≤ x2 then (k63 x1 s0) else bd (f_X7_here N s0) (fun r7 s6 => bd (f_X9_isDigit N r7 s6) (fun r9 s8 => if r9 = 0 then (k63 x1 s8) else bd (f_X7_here N s8) (fun r11 s10 => lt (((x1 * 10) + r11) - 48) (fun v12 => lt (si s10 95 6 ((gi s10 95 6) + 1)) (fun s13 => lt (x2 + 1) (fun x2_14 => rec v12 x2_14 s13))))))
noncomputable def f_X7_readNumber (N : Nat)  (s : Mem) : Option (Int32 × Mem) :=
  bd (f_X7_here N s) (fun r2 s1 => bd (f_X9_isDigit N r2 s1) (fun r4 s3 => lt (fun  (s5 : Mem) => itr (fun _ _ _ => none) (st_X7_readNumber_19 N (fun (x1_16 : Int32) (s15 : Mem) => bd (f_X7_here N s15) (fun r18 s17 => bd (f_X9_isDigit N r18 s17) (fun r20 s19 => if r20 = 0 then (some (x1_16, s19)) else bd (f_X7_fail N 2 s19) (fun _ s21 => some (x1_16, s21)))))) N 0 0 s5) (fun j17 => if r4 = 0 then (bd (f_X7_fail N 1 s3) (fun _ s23 => j17 s23)) else j17 s3)))
set_option maxRecDepth 20000 in
theorem w_X7_readNumber_19 {G : Gx} (hG : Gok G ∧ IsG G layC fsoC) {P : Option (Int32 × Mem) → Nat → List (Nat × Value) → List Value → Mem → Prop} (h : Jk G layC fsoC RX7 cX7_readNumber 3 (some .int) 1 tvI P) (N : Nat) {k63 : Int32 → Mem → Option (Int32 × Mem)} (hk63 : ∀ (x1 : Int32) (s : Mem), P (k63 x1 s) 63 [(0, .ref (Ga G 95)), (1, .int x1)] [] s) {rec : Int32 → Int32 → Mem → Option (Int32 × Mem)} (ih : ∀ (x1 : Int32) (x2 : Int32) (s : Mem), P (rec x1 x2 s) 19 [(0, .ref (Ga G 95)), (1, .int x1), (2, .int x2)] [] s) : ∀ (x1 : Int32) (x2 : Int32) (s : Mem), P (st_X7_readNumber_19 N k63 rec x1 x2 s) 19 [(0, .ref (Ga G 95)), (1, .int x1), (2, .int x2)] [] s := by
  intro x1 x2 s0
  unfold st_X7_readNumber_19
  refine jx_iload_n h dX7_readNumber_19 rfl 2 rfl ?_
  refine jx_iconst h dX7_readNumber_20 ki_4 ?_
  refine jx_icmp_ge (tgt := 63) h dX7_readNumber_21 rfl ?_ ?_
  · exact jx_subk [0, 1] h (hk63 x1 s0) rfl
  · refine jx_aload_n h dX7_readNumber_24 rfl 0 rfl ?_
    refine jx_callVi [] h lc_95 (c_X7_here hG N  s0) ml_X7_54 (Nat.le_of_ble_eq_true rfl) (Nat.le_of_ble_eq_true rfl) dX7_readNumber_25 (Nat.le_of_ble_eq_true rfl) rfl (fun r7 s6 => ?_)
    refine jx_callSi [] h (c_X9_isDigit hG N r7 s6) ml_X7_76 (Nat.le_of_ble_eq_true rfl) (Nat.le_of_ble_eq_true rfl) dX7_readNumber_28 (Nat.le_of_ble_eq_true rfl) rfl (fun r9 s8 => ?_)
    refine jx_if_eq (tgt := 63) h dX7_readNumber_31 rfl ?_ ?_
    · exact jx_subk [0, 1] h (hk63 x1 s8) rfl
    · refine jx_iload_n h dX7_readNumber_34 rfl 1 rfl ?_
      refine jx_bipush h dX7_readNumber_35 kb_10 ?_
      refine jx_imul h dX7_readNumber_37 ?_
      refine jx_aload_n h dX7_readNumber_38 rfl 0 rfl ?_
      refine jx_callVi [.int (x1 * 10)] h lc_95 (c_X7_here hG N  s8) ml_X7_54 (Nat.le_of_ble_eq_true rfl) (Nat.le_of_ble_eq_true rfl) dX7_readNumber_39 (Nat.le_of_ble_eq_true rfl) rfl (fun r11 s10 => ?_)
      refine jx_iadd h dX7_readNumber_42 ?_
      refine jx_bipush h dX7_readNumber_43 kb_48 ?_
      refine jx_isub h dX7_readNumber_45 ?_
      refine jx_lti (fun v12 => ?_)
      refine jx_istore_n (lv' := [(1, .int v12), (0, .ref (Ga G 95)), (2, .int x2)]) h dX7_readNumber_46 rfl (Nat.le_of_ble_eq_true rfl) rfl ?_
      refine jx_aload_n h dX7_readNumber_47 rfl 1 rfl ?_
      refine jx_dup h dX7_readNumber_48 rfl ?_
      refine jx_get (v := .int (gi s10 95 6)) h fa_X7_37 lc_95 dX7_readNumber_49 rfl ?_
      refine jx_iconst h dX7_readNumber_52 ki_1 ?_
      refine jx_iadd h dX7_readNumber_53 ?_
      refine jx_put h fa_X7_37 fp_X7_6 lc_95 rfl rfl dX7_readNumber_54 (fu_X7_6 _ _ _ _) (fun s13 => ?_)
      refine jx_iincl (L := fun w => [(2, .int w), (1, .int v12), (0, .ref (Ga G 95))]) h dX7_readNumber_57 2 rfl (kn_1 _) (Nat.le_of_ble_eq_true rfl) (fun _ => rfl) (fun x2_14 => ?_)
      refine jx_goto (tgt := 19) h dX7_readNumber_60 rfl ?_
      exact jx_subk [2, 1, 0] h (ih v12 x2_14 s13) rfl
set_option maxRecDepth 20000 in
theorem c_X7_readNumber {G : Gx} (hG : Gok G ∧ IsG G layC fsoC) (N : Nat)  (s : Mem) : Ct G yX7_readNumber cX7_readNumber 3 (some .int) 1 [.ref (Ga G 95)] tvI s (f_X7_readNumber N s) := by
  refine Ct.of hG (by decide) (Nat.le_of_ble_eq_true rfl) (fun P h => ?_)
  show P _ 0 [(0, .ref (Ga G 95))] [] s
  unfold f_X7_readNumber
  refine jx_iconst h dX7_readNumber_0 ki_0 ?_
  refine jx_istore_n (lv' := [(1, .int 0), (0, .ref (Ga G 95))]) h dX7_readNumber_1 rfl (Nat.le_of_ble_eq_true rfl) rfl ?_
  refine jx_aload_n h dX7_readNumber_2 rfl 1 rfl ?_
  refine jx_callVi [] h lc_95 (c_X7_here hG N  s) ml_X7_54 (Nat.le_of_ble_eq_true rfl) (Nat.le_of_ble_eq_true rfl) dX7_readNumber_3 (Nat.le_of_ble_eq_true rfl) rfl (fun r2 s1 => ?_)
  refine jx_callSi [] h (c_X9_isDigit hG N r2 s1) ml_X7_76 (Nat.le_of_ble_eq_true rfl) (Nat.le_of_ble_eq_true rfl) dX7_readNumber_6 (Nat.le_of_ble_eq_true rfl) rfl (fun r4 s3 => ?_)
  refine jx_join (fun (j : Mem → Option (Int32 × Mem)) => ∀  (s5 : Mem), P (j  s5) 17 [(0, .ref (Ga G 95)), (1, .int 0)] [] s5) (fun  s5 => ?_) (fun j17 hj17 => ?_)
  · refine jx_iconst h dX7_readNumber_17 ki_0 ?_
    refine jx_istore_n (lv' := [(2, .int 0), (0, .ref (Ga G 95)), (1, .int 0)]) h dX7_readNumber_18 rfl (Nat.le_of_ble_eq_true rfl) rfl ?_
    refine jx_subk [1, 2, 0] h (itr_ind (Q := (fun (f : Int32 → Int32 → Mem → Option (Int32 × Mem)) => ∀ (x1 : Int32) (x2 : Int32) (s : Mem), P (f x1 x2 s) 19 [(0, .ref (Ga G 95)), (1, .int x1), (2, .int x2)] [] s)) (fun _ _ _ => jx_none h) (fun r19 ih19 => ?_) N 0 0 s5) rfl
    refine w_X7_readNumber_19 hG h N  ?_ ih19
    intro x1_16 s15
    refine jx_aload_n h dX7_readNumber_63 rfl 0 rfl ?_
    refine jx_callVi [] h lc_95 (c_X7_here hG N  s15) ml_X7_54 (Nat.le_of_ble_eq_true rfl) (Nat.le_of_ble_eq_true rfl) dX7_readNumber_64 (Nat.le_of_ble_eq_true rfl) rfl (fun r18 s17 => ?_)
    refine jx_callSi [] h (c_X9_isDigit hG N r18 s17) ml_X7_76 (Nat.le_of_ble_eq_true rfl) (Nat.le_of_ble_eq_true rfl) dX7_readNumber_67 (Nat.le_of_ble_eq_true rfl) rfl (fun r20 s19 => ?_)
    refine jx_if_eq (tgt := 78) h dX7_readNumber_70 rfl ?_ ?_
    · refine jx_iload_n h dX7_readNumber_78 rfl 1 rfl ?_
      exact jx_iret h dX7_readNumber_79
    · refine jx_aload_n h dX7_readNumber_73 rfl 0 rfl ?_
      refine jx_iconst h dX7_readNumber_74 ki_2 ?_
      refine jx_callVv [] h lc_95 (c_X7_fail hG N 2 s19) ml_X7_58 (Nat.le_of_ble_eq_true rfl) (Nat.le_of_ble_eq_true rfl) dX7_readNumber_75 (Nat.le_of_ble_eq_true rfl) rfl (fun s21 => ?_)
      refine jx_iload_n h dX7_readNumber_78 rfl 1 rfl ?_
      exact jx_iret h dX7_readNumber_79
  · refine jx_if_ne (tgt := 17) h dX7_readNumber_9 rfl ?_ ?_
    · exact jx_subk [1, 0] h (hj17 s3) rfl
    · refine jx_aload_n h dX7_readNumber_12 rfl 1 rfl ?_
      refine jx_iconst h dX7_readNumber_13 ki_1 ?_
      refine jx_callVv [] h lc_95 (c_X7_fail hG N 1 s3) ml_X7_58 (Nat.le_of_ble_eq_true rfl) (Nat.le_of_ble_eq_true rfl) dX7_readNumber_14 (Nat.le_of_ble_eq_true rfl) rfl (fun s23 => ?_)
      exact jx_subk [1, 0] h (hj17 s23) rfl
noncomputable def f_X7_readSaid (N : Nat) (x1 : Int32) (s : Mem) : Option (Unit × Mem) :=
  if (gi s 95 7) = 0 then (if x1 < 20 then (bd (f_X7_here N s) (fun r2 s1 => lt (fun  (s3 : Mem) => lt (si s3 95 6 ((gi s3 95 6) + 1)) (fun s4 => chk x1 20 (lt (si s4 98 (ix x1) r2) (fun s5 => if r2 = 33 then (chk x1 20 (lt (si s5 99 (ix x1) 0) (fun s9 => some ((), s9)))) else bd (f_X7_readNumber N s5) (fun r7 s6 => chk x1 20 (lt (si s6 99 (ix x1) r7) (fun s8 => some ((), s8)))))))) (fun j43 => if r2 = 58 then (j43 s1) else if r2 = 43 then (j43 s1) else if r2 = 33 then (j43 s1) else bd (f_X7_fail N 1 s1) (fun _ s10 => some ((), s10))))) else some ((), s)) else some ((), s)
set_option maxRecDepth 20000 in
theorem c_X7_readSaid {G : Gx} (hG : Gok G ∧ IsG G layC fsoC) (N : Nat) (x1 : Int32) (s : Mem) : Ct G yX7_readSaid cX7_readSaid 3 none 2 [.ref (Ga G 95), .int x1] tvV s (f_X7_readSaid N x1 s) := by
  refine Ct.of hG (by decide) (Nat.le_of_ble_eq_true rfl) (fun P h => ?_)
  show P _ 0 [(0, .ref (Ga G 95)), (1, .int x1)] [] s
  unfold f_X7_readSaid
  refine jx_aload_n h dX7_readSaid_0 rfl 0 rfl ?_
  refine jx_get (v := .int (gi s 95 7)) h fa_X7_40 lc_95 dX7_readSaid_1 rfl ?_
  refine jx_if_ne (tgt := 13) h dX7_readSaid_4 rfl ?_ ?_
  · exact jx_vret h dX7_readSaid_13
  · refine jx_iload_n h dX7_readSaid_7 rfl 1 rfl ?_
    refine jx_bipush h dX7_readSaid_8 kb_20 ?_
    refine jx_icmp_lt (tgt := 14) h dX7_readSaid_10 rfl ?_ ?_
    · refine jx_aload_n h dX7_readSaid_14 rfl 0 rfl ?_
      refine jx_callVi [] h lc_95 (c_X7_here hG N  s) ml_X7_54 (Nat.le_of_ble_eq_true rfl) (Nat.le_of_ble_eq_true rfl) dX7_readSaid_15 (Nat.le_of_ble_eq_true rfl) rfl (fun r2 s1 => ?_)
      refine jx_istore_n (lv' := [(2, .int r2), (0, .ref (Ga G 95)), (1, .int x1)]) h dX7_readSaid_18 rfl (Nat.le_of_ble_eq_true rfl) rfl ?_
      refine jx_iload_n h dX7_readSaid_19 rfl 0 rfl ?_
      refine jx_bipush h dX7_readSaid_20 kb_58 ?_
      refine jx_join (fun (j : Mem → Option (Unit × Mem)) => ∀  (s3 : Mem), P (j  s3) 43 [(0, .ref (Ga G 95)), (1, .int x1), (2, .int r2)] [] s3) (fun  s3 => ?_) (fun j43 hj43 => ?_)
      · refine jx_aload_n h dX7_readSaid_43 rfl 0 rfl ?_
        refine jx_dup h dX7_readSaid_44 rfl ?_
        refine jx_get (v := .int (gi s3 95 6)) h fa_X7_37 lc_95 dX7_readSaid_45 rfl ?_
        refine jx_iconst h dX7_readSaid_48 ki_1 ?_
        refine jx_iadd h dX7_readSaid_49 ?_
        refine jx_put h fa_X7_37 fp_X7_6 lc_95 rfl rfl dX7_readSaid_50 (fu_X7_6 _ _ _ _) (fun s4 => ?_)
        refine jx_aload_n h dX7_readSaid_53 rfl 0 rfl ?_
        refine jx_get (v := .ref (Ga G 98)) h fa_X7_18 lc_95 dX7_readSaid_54 rfl ?_
        refine jx_iload_n h dX7_readSaid_57 rfl 1 rfl ?_
        refine jx_iload_n h dX7_readSaid_58 rfl 2 rfl ?_
        refine jx_iastore h lc_98 dX7_readSaid_59 (fun s5 => ?_)
        refine jx_aload_n h dX7_readSaid_60 rfl 0 rfl ?_
        refine jx_get (v := .ref (Ga G 99)) h fa_X7_21 lc_95 dX7_readSaid_61 rfl ?_
        refine jx_iload_n h dX7_readSaid_64 rfl 1 rfl ?_
        refine jx_iload_n h dX7_readSaid_65 rfl 2 rfl ?_
        refine jx_bipush h dX7_readSaid_66 kb_33 ?_
        refine jx_icmp_ne (tgt := 75) h dX7_readSaid_68 rfl ?_ ?_
        · refine jx_aload_n h dX7_readSaid_75 rfl 0 rfl ?_
          refine jx_callVi [.int x1, .ref (Ga G 99)] h lc_95 (c_X7_readNumber hG N  s5) ml_X7_73 (Nat.le_of_ble_eq_true rfl) (Nat.le_of_ble_eq_true rfl) dX7_readSaid_76 (Nat.le_of_ble_eq_true rfl) rfl (fun r7 s6 => ?_)
          refine jx_iastore h lc_99 dX7_readSaid_79 (fun s8 => ?_)
          exact jx_vret h dX7_readSaid_80
        · refine jx_iconst h dX7_readSaid_71 ki_0 ?_
          refine jx_goto (tgt := 79) h dX7_readSaid_72 rfl ?_
          refine jx_iastore h lc_99 dX7_readSaid_79 (fun s9 => ?_)
          exact jx_vret h dX7_readSaid_80
      · refine jx_icmp_eq (tgt := 43) h dX7_readSaid_22 rfl ?_ ?_
        · exact jx_subk [1, 2, 0] h (hj43 s1) rfl
        · refine jx_iload_n h dX7_readSaid_25 rfl 0 rfl ?_
          refine jx_bipush h dX7_readSaid_26 kb_43 ?_
          refine jx_icmp_eq (tgt := 43) h dX7_readSaid_28 rfl ?_ ?_
          · exact jx_subk [1, 2, 0] h (hj43 s1) rfl
          · refine jx_iload_n h dX7_readSaid_31 rfl 0 rfl ?_
            refine jx_bipush h dX7_readSaid_32 kb_33 ?_
            refine jx_icmp_eq (tgt := 43) h dX7_readSaid_34 rfl ?_ ?_
            · exact jx_subk [1, 2, 0] h (hj43 s1) rfl
            · refine jx_aload_n h dX7_readSaid_37 rfl 1 rfl ?_
              refine jx_iconst h dX7_readSaid_38 ki_1 ?_
              refine jx_callVv [] h lc_95 (c_X7_fail hG N 1 s1) ml_X7_58 (Nat.le_of_ble_eq_true rfl) (Nat.le_of_ble_eq_true rfl) dX7_readSaid_39 (Nat.le_of_ble_eq_true rfl) rfl (fun s10 => ?_)
              exact jx_vret h dX7_readSaid_42
    · exact jx_vret h dX7_readSaid_13
noncomputable def st_X7_read_28 (N : Nat) (x3 : Int32) (x4 : Int32)  (rec : Int32 → Mem → Option (Int32 × Mem)) (x5 : Int32) (s0 : Mem) : Option (Int32 × Mem) :=
  if 20 < x5 then (some (gi s0 95 7, s0)) else bd (f_X7_readLetter N x5 x3 s0) (fun _ s5 => bd (f_X7_readParish N x5 x4 s5) (fun _ s7 => bd (f_X7_readSaid N x5 s7) (fun _ s9 => lt (fun  (s11 : Mem) => bd (f_X7_here N s11) (fun r13 s12 => lt (fun  (s14 : Mem) => if (gi s14 95 7) = 0 then (lt (si s14 95 6 ((gi s14 95 6) + 1)) (fun s15 => lt (x5 + 1) (fun x5_16 => rec x5_16 s15))) else some (gi s14 95 7, s14)) (fun j93 => if r13 = 59 then (j93 s12) else bd (f_X7_fail N 1 s12) (fun _ s17 => j93 s17)))) (fun j79 => if (gi s9 95 7) = 0 then (if (gi s9 95 6) = (gi s9 95 5) then (some (x5 + 1, s9)) else j79 s9) else j79 s9))))
noncomputable def f_X7_read (N : Nat) (x1 : Nat) (x2 : Int32) (x3 : Int32) (x4 : Int32) (s : Mem) : Option (Int32 × Mem) :=
  lt (si s 95 4 (nI x1)) (fun s1 => lt (si s1 95 5 (imin x2 (nI (lenC x1)))) (fun s2 => lt (si s2 95 6 0) (fun s3 => lt (si s3 95 7 0) (fun s4 => itr (fun _ _ => none) (st_X7_read_28 N x3 x4) N 0 s4))))
set_option maxRecDepth 20000 in
theorem w_X7_read_28 {G : Gx} (hG : Gok G ∧ IsG G layC fsoC) {P : Option (Int32 × Mem) → Nat → List (Nat × Value) → List Value → Mem → Prop} (h : Jk G layC fsoC RX7 cX7_read 6 (some .int) 3 tvI P) (N : Nat) (x3 : Int32) (x4 : Int32) {rec : Int32 → Mem → Option (Int32 × Mem)} (ih : ∀ (x5 : Int32) (s : Mem), P (rec x5 s) 28 [(0, .ref (Ga G 95)), (3, .int x3), (4, .int x4), (5, .int x5)] [] s) : ∀ (x5 : Int32) (s : Mem), P (st_X7_read_28 N x3 x4 rec x5 s) 28 [(0, .ref (Ga G 95)), (3, .int x3), (4, .int x4), (5, .int x5)] [] s := by
  intro x5 s0
  unfold st_X7_read_28
  refine jx_iload h dX7_read_28 3 rfl ?_
  refine jx_bipush h dX7_read_30 kb_20 ?_
  refine jx_icmp_gt (tgt := 121) h dX7_read_32 rfl ?_ ?_
  · refine jx_aload_n h dX7_read_121 rfl 0 rfl ?_
    refine jx_get (v := .int (gi s0 95 7)) h fa_X7_40 lc_95 dX7_read_122 rfl ?_
    exact jx_iret h dX7_read_125
  · refine jx_aload_n h dX7_read_35 rfl 0 rfl ?_
    refine jx_iload h dX7_read_36 3 rfl ?_
    refine jx_iload_n h dX7_read_38 rfl 1 rfl ?_
    refine jx_callVv [] h lc_95 (c_X7_readLetter hG N x5 x3 s0) ml_X7_43 (Nat.le_of_ble_eq_true rfl) (Nat.le_of_ble_eq_true rfl) dX7_read_39 (Nat.le_of_ble_eq_true rfl) rfl (fun s5 => ?_)
    refine jx_aload_n h dX7_read_42 rfl 0 rfl ?_
    refine jx_iload h dX7_read_43 3 rfl ?_
    refine jx_iload h dX7_read_45 2 rfl ?_
    refine jx_callVv [] h lc_95 (c_X7_readParish hG N x5 x4 s5) ml_X7_47 (Nat.le_of_ble_eq_true rfl) (Nat.le_of_ble_eq_true rfl) dX7_read_47 (Nat.le_of_ble_eq_true rfl) rfl (fun s7 => ?_)
    refine jx_aload_n h dX7_read_50 rfl 0 rfl ?_
    refine jx_iload h dX7_read_51 3 rfl ?_
    refine jx_callVv [] h lc_95 (c_X7_readSaid hG N x5 s7) ml_X7_50 (Nat.le_of_ble_eq_true rfl) (Nat.le_of_ble_eq_true rfl) dX7_read_53 (Nat.le_of_ble_eq_true rfl) rfl (fun s9 => ?_)
    refine jx_aload_n h dX7_read_56 rfl 0 rfl ?_
    refine jx_get (v := .int (gi s9 95 7)) h fa_X7_40 lc_95 dX7_read_57 rfl ?_
    refine jx_join (fun (j : Mem → Option (Int32 × Mem)) => ∀  (s11 : Mem), P (j  s11) 79 [(0, .ref (Ga G 95)), (3, .int x3), (4, .int x4), (5, .int x5)] [] s11) (fun  s11 => ?_) (fun j79 hj79 => ?_)
    · refine jx_aload_n h dX7_read_79 rfl 0 rfl ?_
      refine jx_callVi [] h lc_95 (c_X7_here hG N  s11) ml_X7_54 (Nat.le_of_ble_eq_true rfl) (Nat.le_of_ble_eq_true rfl) dX7_read_80 (Nat.le_of_ble_eq_true rfl) rfl (fun r13 s12 => ?_)
      refine jx_bipush h dX7_read_83 kb_59 ?_
      refine jx_join (fun (j : Mem → Option (Int32 × Mem)) => ∀  (s14 : Mem), P (j  s14) 93 [(0, .ref (Ga G 95)), (3, .int x3), (4, .int x4), (5, .int x5)] [] s14) (fun  s14 => ?_) (fun j93 hj93 => ?_)
      · refine jx_aload_n h dX7_read_93 rfl 0 rfl ?_
        refine jx_get (v := .int (gi s14 95 7)) h fa_X7_40 lc_95 dX7_read_94 rfl ?_
        refine jx_if_eq (tgt := 105) h dX7_read_97 rfl ?_ ?_
        · refine jx_aload_n h dX7_read_105 rfl 0 rfl ?_
          refine jx_dup h dX7_read_106 rfl ?_
          refine jx_get (v := .int (gi s14 95 6)) h fa_X7_37 lc_95 dX7_read_107 rfl ?_
          refine jx_iconst h dX7_read_110 ki_1 ?_
          refine jx_iadd h dX7_read_111 ?_
          refine jx_put h fa_X7_37 fp_X7_6 lc_95 rfl rfl dX7_read_112 (fu_X7_6 _ _ _ _) (fun s15 => ?_)
          refine jx_iincl (L := fun w => [(5, .int w), (0, .ref (Ga G 95)), (3, .int x3), (4, .int x4)]) h dX7_read_115 3 rfl (kn_1 _) (Nat.le_of_ble_eq_true rfl) (fun _ => rfl) (fun x5_16 => ?_)
          refine jx_goto (tgt := 28) h dX7_read_118 rfl ?_
          exact jx_subk [1, 2, 3, 0] h (ih x5_16 s15) rfl
        · refine jx_aload_n h dX7_read_100 rfl 0 rfl ?_
          refine jx_get (v := .int (gi s14 95 7)) h fa_X7_40 lc_95 dX7_read_101 rfl ?_
          exact jx_iret h dX7_read_104
      · refine jx_icmp_eq (tgt := 93) h dX7_read_85 rfl ?_ ?_
        · exact hj93 s12
        · refine jx_aload_n h dX7_read_88 rfl 0 rfl ?_
          refine jx_iconst h dX7_read_89 ki_1 ?_
          refine jx_callVv [] h lc_95 (c_X7_fail hG N 1 s12) ml_X7_58 (Nat.le_of_ble_eq_true rfl) (Nat.le_of_ble_eq_true rfl) dX7_read_90 (Nat.le_of_ble_eq_true rfl) rfl (fun s17 => ?_)
          exact hj93 s17
    · refine jx_if_ne (tgt := 79) h dX7_read_60 rfl ?_ ?_
      · exact hj79 s9
      · refine jx_aload_n h dX7_read_63 rfl 0 rfl ?_
        refine jx_get (v := .int (gi s9 95 6)) h fa_X7_37 lc_95 dX7_read_64 rfl ?_
        refine jx_aload_n h dX7_read_67 rfl 0 rfl ?_
        refine jx_get (v := .int (gi s9 95 5)) h fa_X7_33 lc_95 dX7_read_68 rfl ?_
        refine jx_icmp_ne (tgt := 79) h dX7_read_71 rfl ?_ ?_
        · exact hj79 s9
        · refine jx_iload h dX7_read_74 3 rfl ?_
          refine jx_iconst h dX7_read_76 ki_1 ?_
          refine jx_iadd h dX7_read_77 ?_
          exact jx_iret h dX7_read_78
set_option maxRecDepth 20000 in
theorem c_X7_read {G : Gx} (hG : Gok G ∧ IsG G layC fsoC) (N : Nat) (x1 : Nat) (hx1 : isAr x1 = true) (x2 : Int32) (x3 : Int32) (x4 : Int32) (s : Mem) : Ct G yX7_read cX7_read 6 (some .int) 3 [.ref (Ga G 95), .ref (Ga G x1), .int x2, .int x3, .int x4] tvI s (f_X7_read N x1 x2 x3 x4 s) := by
  refine Ct.of hG (by decide) (Nat.le_of_ble_eq_true rfl) (fun P h => ?_)
  show P _ 0 [(0, .ref (Ga G 95)), (1, .ref (Ga G x1)), (2, .int x2), (3, .int x3), (4, .int x4)] [] s
  unfold f_X7_read
  refine jx_aload_n h dX7_read_0 rfl 0 rfl ?_
  refine jx_aload_n h dX7_read_1 rfl 1 rfl ?_
  refine jx_put (x := nI x1) h fa_X7_24 fp_X7_4 lc_95 rfl rfl dX7_read_2 (fu_X7_4 _ _ _ (Nat.lt_trans (isAr_lt hx1) (by decide))) (fun s1 => ?_)
  refine jx_aload_n h dX7_read_5 rfl 0 rfl ?_
  refine jx_iload_n h dX7_read_6 rfl 2 rfl ?_
  refine jx_aload_n h dX7_read_7 rfl 1 rfl ?_
  refine jx_alen (v := (nI (lenC x1))) h (isAr_0 hx1) rfl dX7_read_8 ?_
  refine jx_mmin h mm_X7_27 (Nat.le_of_ble_eq_true rfl) (Nat.le_of_ble_eq_true rfl) dX7_read_9 ?_
  refine jx_put h fa_X7_33 fp_X7_5 lc_95 rfl rfl dX7_read_12 (fu_X7_5 _ _ _ _) (fun s2 => ?_)
  refine jx_aload_n h dX7_read_15 rfl 0 rfl ?_
  refine jx_iconst h dX7_read_16 ki_0 ?_
  refine jx_put h fa_X7_37 fp_X7_6 lc_95 rfl rfl dX7_read_17 (fu_X7_6 _ _ _ _) (fun s3 => ?_)
  refine jx_aload_n h dX7_read_20 rfl 0 rfl ?_
  refine jx_iconst h dX7_read_21 ki_0 ?_
  refine jx_put h fa_X7_40 fp_X7_7 lc_95 rfl rfl dX7_read_22 (fu_X7_7 _ _ _ _) (fun s4 => ?_)
  refine jx_iconst h dX7_read_25 ki_0 ?_
  refine jx_istore (lv' := [(5, .int 0), (0, .ref (Ga G 95)), (1, .ref (Ga G x1)), (2, .int x2), (3, .int x3), (4, .int x4)]) h dX7_read_26 (Nat.le_of_ble_eq_true rfl) rfl ?_
  refine jx_subk [1, 4, 5, 0] h (itr_ind (Q := (fun (f : Int32 → Mem → Option (Int32 × Mem)) => ∀ (x5 : Int32) (s : Mem), P (f x5 s) 28 [(0, .ref (Ga G 95)), (3, .int x3), (4, .int x4), (5, .int x5)] [] s)) (fun _ _ => jx_none h) (fun r28 ih28 => ?_) N 0 s4) rfl
  refine w_X7_read_28 hG h N x3 x4  ih28
noncomputable def f_X8_hasRoom (N : Nat)  (s : Mem) : Option (Int32 × Mem) :=
  if 260 < ((gi s 1 1) + 20) then (some (0, s)) else some (1, s)
set_option maxRecDepth 20000 in
theorem c_X8_hasRoom {G : Gx} (hG : Gok G ∧ IsG G layC fsoC) (N : Nat)  (s : Mem) : Ct G yX8_hasRoom cX8_hasRoom 1 (some .boolean) 0 [.ref (Ga G 1)] tvI s (f_X8_hasRoom N s) := by
  refine Ct.of hG (by decide) (Nat.le_of_ble_eq_true rfl) (fun P h => ?_)
  show P _ 0 [(0, .ref (Ga G 1))] [] s
  unfold f_X8_hasRoom
  refine jx_aload_n h dX8_hasRoom_0 rfl 0 rfl ?_
  refine jx_get (v := .int (gi s 1 1)) h fa_X8_13 lc_1 dX8_hasRoom_1 rfl ?_
  refine jx_bipush h dX8_hasRoom_4 kb_20 ?_
  refine jx_iadd h dX8_hasRoom_6 ?_
  refine jx_sipush h dX8_hasRoom_7 ks_260 ?_
  refine jx_icmp_gt (tgt := 17) h dX8_hasRoom_10 rfl ?_ ?_
  · refine jx_iconst h dX8_hasRoom_17 ki_0 ?_
    exact jx_zret h rfl dX8_hasRoom_18
  · refine jx_iconst h dX8_hasRoom_13 ki_1 ?_
    refine jx_goto (tgt := 18) h dX8_hasRoom_14 rfl ?_
    exact jx_zret h rfl dX8_hasRoom_18
noncomputable def st_X8_put_3 (N : Nat) (x1 : Int32)  (rec : Int32 → Mem → Option (Unit × Mem)) (x2 : Int32) (s0 : Mem) : Option (Unit × Mem) :=
  if x2 < 0 then (some ((), s0)) else if 260 ≤ (gi s0 1 1) then (some ((), s0)) else chk (gi s0 1 1) 260 (lt (si s0 2 (ix (gi s0 1 1)) (((x1.toUInt32 >>> (x2.toUInt32 &&& Int32.toUInt32 31)).toInt32) &&& 255)) (fun s1 => lt (si s1 1 1 ((gi s1 1 1) + 1)) (fun s2 => lt (x2 + (-8)) (fun x2_3 => rec x2_3 s2))))
noncomputable def f_X8_put (N : Nat) (x1 : Int32) (s : Mem) : Option (Unit × Mem) :=
  itr (fun _ _ => none) (st_X8_put_3 N x1) N 24 s
set_option maxRecDepth 20000 in
theorem w_X8_put_3 {G : Gx} (hG : Gok G ∧ IsG G layC fsoC) {P : Option (Unit × Mem) → Nat → List (Nat × Value) → List Value → Mem → Prop} (h : Jk G layC fsoC RX8 cX8_put 3 none 0 tvV P) (N : Nat) (x1 : Int32) {rec : Int32 → Mem → Option (Unit × Mem)} (ih : ∀ (x2 : Int32) (s : Mem), P (rec x2 s) 3 [(0, .ref (Ga G 1)), (1, .int x1), (2, .int x2)] [] s) : ∀ (x2 : Int32) (s : Mem), P (st_X8_put_3 N x1 rec x2 s) 3 [(0, .ref (Ga G 1)), (1, .int x1), (2, .int x2)] [] s := by
  intro x2 s0
  unfold st_X8_put_3
  refine jx_iload_n h dX8_put_3 rfl 2 rfl ?_
  refine jx_if_lt (tgt := 49) h dX8_put_4 rfl ?_ ?_
  · exact jx_vret h dX8_put_49
  · refine jx_aload_n h dX8_put_7 rfl 0 rfl ?_
    refine jx_get (v := .int (gi s0 1 1)) h fa_X8_13 lc_1 dX8_put_8 rfl ?_
    refine jx_sipush h dX8_put_11 ks_260 ?_
    refine jx_icmp_ge (tgt := 49) h dX8_put_14 rfl ?_ ?_
    · exact jx_vret h dX8_put_49
    · refine jx_aload_n h dX8_put_17 rfl 0 rfl ?_
      refine jx_get (v := .ref (Ga G 2)) h fa_X8_9 lc_1 dX8_put_18 rfl ?_
      refine jx_aload_n h dX8_put_21 rfl 0 rfl ?_
      refine jx_get (v := .int (gi s0 1 1)) h fa_X8_13 lc_1 dX8_put_22 rfl ?_
      refine jx_iload_n h dX8_put_25 rfl 1 rfl ?_
      refine jx_iload_n h dX8_put_26 rfl 2 rfl ?_
      refine jx_iushr h dX8_put_27 ?_
      refine jx_sipush h dX8_put_28 ks_255 ?_
      refine jx_iand h dX8_put_31 ?_
      refine jx_iastore h lc_2 dX8_put_32 (fun s1 => ?_)
      refine jx_aload_n h dX8_put_33 rfl 0 rfl ?_
      refine jx_dup h dX8_put_34 rfl ?_
      refine jx_get (v := .int (gi s1 1 1)) h fa_X8_13 lc_1 dX8_put_35 rfl ?_
      refine jx_iconst h dX8_put_38 ki_1 ?_
      refine jx_iadd h dX8_put_39 ?_
      refine jx_put h fa_X8_13 fp_X8_1 lc_1 rfl rfl dX8_put_40 (fu_X8_1 _ _ _ _) (fun s2 => ?_)
      refine jx_iincl (L := fun w => [(2, .int w), (0, .ref (Ga G 1)), (1, .int x1)]) h dX8_put_43 2 rfl (kn_m8 _) (Nat.le_of_ble_eq_true rfl) (fun _ => rfl) (fun x2_3 => ?_)
      refine jx_goto (tgt := 3) h dX8_put_46 rfl ?_
      exact jx_subk [1, 2, 0] h (ih x2_3 s2) rfl
set_option maxRecDepth 20000 in
theorem c_X8_put {G : Gx} (hG : Gok G ∧ IsG G layC fsoC) (N : Nat) (x1 : Int32) (s : Mem) : Ct G yX8_put cX8_put 3 none 0 [.ref (Ga G 1), .int x1] tvV s (f_X8_put N x1 s) := by
  refine Ct.of hG (by decide) (Nat.le_of_ble_eq_true rfl) (fun P h => ?_)
  show P _ 0 [(0, .ref (Ga G 1)), (1, .int x1)] [] s
  unfold f_X8_put
  refine jx_bipush h dX8_put_0 kb_24 ?_
  refine jx_istore_n (lv' := [(2, .int 24), (0, .ref (Ga G 1)), (1, .int x1)]) h dX8_put_2 rfl (Nat.le_of_ble_eq_true rfl) rfl ?_
  refine jx_subk [1, 2, 0] h (itr_ind (Q := (fun (f : Int32 → Mem → Option (Unit × Mem)) => ∀ (x2 : Int32) (s : Mem), P (f x2 s) 3 [(0, .ref (Ga G 1)), (1, .int x1), (2, .int x2)] [] s)) (fun _ _ => jx_none h) (fun r3 ih3 => ?_) N 24 s) rfl
  refine w_X8_put_3 hG h N x1  ih3
noncomputable def f_X8_has (N : Nat) (x1 : Int32) (x2 : Int32) (x3 : Int32) (s : Mem) : Option (Int32 × Mem) :=
  bd (f_X9_isWithin N x1 x2 x3 s) (fun r2 s1 => if r2 = 0 then (some (0, s1)) else if (gi s1 1 1) < x1 then (some (0, s1)) else some (1, s1))
set_option maxRecDepth 20000 in
theorem c_X8_has {G : Gx} (hG : Gok G ∧ IsG G layC fsoC) (N : Nat) (x1 : Int32) (x2 : Int32) (x3 : Int32) (s : Mem) : Ct G yX8_has cX8_has 4 (some .boolean) 1 [.ref (Ga G 1), .int x1, .int x2, .int x3] tvI s (f_X8_has N x1 x2 x3 s) := by
  refine Ct.of hG (by decide) (Nat.le_of_ble_eq_true rfl) (fun P h => ?_)
  show P _ 0 [(0, .ref (Ga G 1)), (1, .int x1), (2, .int x2), (3, .int x3)] [] s
  unfold f_X8_has
  refine jx_iload_n h dX8_has_0 rfl 1 rfl ?_
  refine jx_iload_n h dX8_has_1 rfl 2 rfl ?_
  refine jx_iload_n h dX8_has_2 rfl 3 rfl ?_
  refine jx_callSi [] h (c_X9_isWithin hG N x1 x2 x3 s) ml_X8_17 (Nat.le_of_ble_eq_true rfl) (Nat.le_of_ble_eq_true rfl) dX8_has_3 (Nat.le_of_ble_eq_true rfl) rfl (fun r2 s1 => ?_)
  refine jx_if_eq (tgt := 21) h dX8_has_6 rfl ?_ ?_
  · refine jx_iconst h dX8_has_21 ki_0 ?_
    exact jx_zret h rfl dX8_has_22
  · refine jx_iload_n h dX8_has_9 rfl 1 rfl ?_
    refine jx_aload_n h dX8_has_10 rfl 0 rfl ?_
    refine jx_get (v := .int (gi s1 1 1)) h fa_X8_13 lc_1 dX8_has_11 rfl ?_
    refine jx_icmp_gt (tgt := 21) h dX8_has_14 rfl ?_ ?_
    · refine jx_iconst h dX8_has_21 ki_0 ?_
      exact jx_zret h rfl dX8_has_22
    · refine jx_iconst h dX8_has_17 ki_1 ?_
      refine jx_goto (tgt := 22) h dX8_has_18 rfl ?_
      exact jx_zret h rfl dX8_has_22
noncomputable def f_X8_take (N : Nat)  (s : Mem) : Option (Nat × Mem) :=
  lt (si s 1 1 0) (fun s1 => some (2, s1))
set_option maxRecDepth 20000 in
theorem c_X8_take {G : Gx} (hG : Gok G ∧ IsG G layC fsoC) (N : Nat)  (s : Mem) : Ct G yX8_take cX8_take 1 (some (.array .int)) 0 [.ref (Ga G 1)] (tvR G) s (f_X8_take N s) := by
  refine Ct.of hG (by decide) (Nat.le_of_ble_eq_true rfl) (fun P h => ?_)
  show P _ 0 [(0, .ref (Ga G 1))] [] s
  unfold f_X8_take
  refine jx_aload_n h dX8_take_0 rfl 0 rfl ?_
  refine jx_iconst h dX8_take_1 ki_0 ?_
  refine jx_put h fa_X8_13 fp_X8_1 lc_1 rfl rfl dX8_take_2 (fu_X8_1 _ _ _ _) (fun s1 => ?_)
  refine jx_aload_n h dX8_take_5 rfl 0 rfl ?_
  refine jx_get (v := .ref (Ga G 2)) h fa_X8_9 lc_1 dX8_take_6 rfl ?_
  exact jx_aret h (by first | exact Or.inl ⟨_, rfl⟩ | exact Or.inr ⟨_, rfl⟩) dX8_take_9
noncomputable def f_X9_parish (N : Nat) (x1 : Int32) (x2 : Int32) (s : Mem) : Option (Int32 × Mem) :=
  bd (f_X9_isWithin N x1 0 11 s) (fun r2 s1 => if r2 = 0 then (some (0, s1)) else bd (f_X9_isWithin N x2 0 99 s1) (fun r4 s3 => if r4 = 0 then (some (0, s3)) else bd (f_X3_tell N x1 s3) (fun _ s5 => chk x1 12 (lt (si s5 33 (ix x1) x2) (fun s7 => some (1, s7))))))
set_option maxRecDepth 20000 in
theorem c_X9_parish {G : Gx} (hG : Gok G ∧ IsG G layC fsoC) (N : Nat) (x1 : Int32) (x2 : Int32) (s : Mem) : Ct G yX9_parish cX9_parish 3 (some .boolean) 1 [.ref (Ga G 0), .int x1, .int x2] tvI s (f_X9_parish N x1 x2 s) := by
  refine Ct.of hG (by decide) (Nat.le_of_ble_eq_true rfl) (fun P h => ?_)
  show P _ 0 [(0, .ref (Ga G 0)), (1, .int x1), (2, .int x2)] [] s
  unfold f_X9_parish
  refine jx_iload_n h dX9_parish_0 rfl 1 rfl ?_
  refine jx_iconst h dX9_parish_1 ki_0 ?_
  refine jx_bipush h dX9_parish_2 kb_11 ?_
  refine jx_callSi [] h (c_X9_isWithin hG N x1 0 11 s) ml_X9_78 (Nat.le_of_ble_eq_true rfl) (Nat.le_of_ble_eq_true rfl) dX9_parish_4 (Nat.le_of_ble_eq_true rfl) rfl (fun r2 s1 => ?_)
  refine jx_if_eq (tgt := 20) h dX9_parish_7 rfl ?_ ?_
  · refine jx_iconst h dX9_parish_20 ki_0 ?_
    exact jx_zret h rfl dX9_parish_21
  · refine jx_iload_n h dX9_parish_10 rfl 2 rfl ?_
    refine jx_iconst h dX9_parish_11 ki_0 ?_
    refine jx_bipush h dX9_parish_12 kb_99 ?_
    refine jx_callSi [] h (c_X9_isWithin hG N x2 0 99 s1) ml_X9_78 (Nat.le_of_ble_eq_true rfl) (Nat.le_of_ble_eq_true rfl) dX9_parish_14 (Nat.le_of_ble_eq_true rfl) rfl (fun r4 s3 => ?_)
    refine jx_if_ne (tgt := 22) h dX9_parish_17 rfl ?_ ?_
    · refine jx_aload_n h dX9_parish_22 rfl 0 rfl ?_
      refine jx_get (v := .ref (Ga G 3)) h fa_X9_19 lc_0 dX9_parish_23 rfl ?_
      refine jx_iload_n h dX9_parish_26 rfl 1 rfl ?_
      refine jx_callVv [] h lc_3 (c_X3_tell hG N x1 s3) ml_X9_82 (Nat.le_of_ble_eq_true rfl) (Nat.le_of_ble_eq_true rfl) dX9_parish_27 (Nat.le_of_ble_eq_true rfl) rfl (fun s5 => ?_)
      refine jx_aload_n h dX9_parish_30 rfl 0 rfl ?_
      refine jx_get (v := .ref (Ga G 32)) h fa_X9_26 lc_0 dX9_parish_31 rfl ?_
      refine jx_get (v := .ref (Ga G 33)) h fa_X9_86 lc_32 dX9_parish_34 rfl ?_
      refine jx_iload_n h dX9_parish_37 rfl 1 rfl ?_
      refine jx_iload_n h dX9_parish_38 rfl 2 rfl ?_
      refine jx_iastore h lc_33 dX9_parish_39 (fun s7 => ?_)
      refine jx_iconst h dX9_parish_40 ki_1 ?_
      exact jx_zret h rfl dX9_parish_41
    · refine jx_iconst h dX9_parish_20 ki_0 ?_
      exact jx_zret h rfl dX9_parish_21
noncomputable def f_X9_road (N : Nat) (x1 : Int32) (x2 : Int32) (x3 : Int32) (s : Mem) : Option (Int32 × Mem) :=
  bd (f_X3_isTold N x1 s) (fun r2 s1 => if r2 = 0 then (some (0, s1)) else bd (f_X3_isTold N x2 s1) (fun r4 s3 => if r4 = 0 then (some (0, s3)) else if x1 = x2 then (some (0, s3)) else bd (f_X9_isWithin N x3 0 99 s3) (fun r6 s5 => if r6 = 0 then (some (0, s5)) else bd (f_X3_lay N x1 x2 x3 s5) (fun _ s7 => some (1, s7)))))
set_option maxRecDepth 20000 in
theorem c_X9_road {G : Gx} (hG : Gok G ∧ IsG G layC fsoC) (N : Nat) (x1 : Int32) (x2 : Int32) (x3 : Int32) (s : Mem) : Ct G yX9_road cX9_road 4 (some .boolean) 2 [.ref (Ga G 0), .int x1, .int x2, .int x3] tvI s (f_X9_road N x1 x2 x3 s) := by
  refine Ct.of hG (by decide) (Nat.le_of_ble_eq_true rfl) (fun P h => ?_)
  show P _ 0 [(0, .ref (Ga G 0)), (1, .int x1), (2, .int x2), (3, .int x3)] [] s
  unfold f_X9_road
  refine jx_aload_n h dX9_road_0 rfl 0 rfl ?_
  refine jx_get (v := .ref (Ga G 3)) h fa_X9_19 lc_0 dX9_road_1 rfl ?_
  refine jx_iload_n h dX9_road_4 rfl 1 rfl ?_
  refine jx_callVi [] h lc_3 (c_X3_isTold hG N x1 s) ml_X9_90 (Nat.le_of_ble_eq_true rfl) (Nat.le_of_ble_eq_true rfl) dX9_road_5 (Nat.le_of_ble_eq_true rfl) rfl (fun r2 s1 => ?_)
  refine jx_if_eq (tgt := 37) h dX9_road_8 rfl ?_ ?_
  · refine jx_iconst h dX9_road_37 ki_0 ?_
    exact jx_zret h rfl dX9_road_38
  · refine jx_aload_n h dX9_road_11 rfl 0 rfl ?_
    refine jx_get (v := .ref (Ga G 3)) h fa_X9_19 lc_0 dX9_road_12 rfl ?_
    refine jx_iload_n h dX9_road_15 rfl 2 rfl ?_
    refine jx_callVi [] h lc_3 (c_X3_isTold hG N x2 s1) ml_X9_90 (Nat.le_of_ble_eq_true rfl) (Nat.le_of_ble_eq_true rfl) dX9_road_16 (Nat.le_of_ble_eq_true rfl) rfl (fun r4 s3 => ?_)
    refine jx_if_eq (tgt := 37) h dX9_road_19 rfl ?_ ?_
    · refine jx_iconst h dX9_road_37 ki_0 ?_
      exact jx_zret h rfl dX9_road_38
    · refine jx_iload_n h dX9_road_22 rfl 1 rfl ?_
      refine jx_iload_n h dX9_road_23 rfl 2 rfl ?_
      refine jx_icmp_eq (tgt := 37) h dX9_road_24 rfl ?_ ?_
      · refine jx_iconst h dX9_road_37 ki_0 ?_
        exact jx_zret h rfl dX9_road_38
      · refine jx_iload_n h dX9_road_27 rfl 3 rfl ?_
        refine jx_iconst h dX9_road_28 ki_0 ?_
        refine jx_bipush h dX9_road_29 kb_99 ?_
        refine jx_callSi [] h (c_X9_isWithin hG N x3 0 99 s3) ml_X9_78 (Nat.le_of_ble_eq_true rfl) (Nat.le_of_ble_eq_true rfl) dX9_road_31 (Nat.le_of_ble_eq_true rfl) rfl (fun r6 s5 => ?_)
        refine jx_if_ne (tgt := 39) h dX9_road_34 rfl ?_ ?_
        · refine jx_aload_n h dX9_road_39 rfl 0 rfl ?_
          refine jx_get (v := .ref (Ga G 3)) h fa_X9_19 lc_0 dX9_road_40 rfl ?_
          refine jx_iload_n h dX9_road_43 rfl 1 rfl ?_
          refine jx_iload_n h dX9_road_44 rfl 2 rfl ?_
          refine jx_iload_n h dX9_road_45 rfl 3 rfl ?_
          refine jx_callVv [] h lc_3 (c_X3_lay hG N x1 x2 x3 s5) ml_X9_94 (Nat.le_of_ble_eq_true rfl) (Nat.le_of_ble_eq_true rfl) dX9_road_46 (Nat.le_of_ble_eq_true rfl) rfl (fun s7 => ?_)
          refine jx_iconst h dX9_road_49 ki_1 ?_
          exact jx_zret h rfl dX9_road_50
        · refine jx_iconst h dX9_road_37 ki_0 ?_
          exact jx_zret h rfl dX9_road_38
noncomputable def f_X9_letter (N : Nat) (x1 : Int32) (x2 : Int32) (x3 : Int32) (s : Mem) : Option (Int32 × Mem) :=
  bd (f_X9_isLetter N x1 s) (fun r2 s1 => if r2 = 0 then (some (0, s1)) else bd (f_X3_isTold N x2 s1) (fun r4 s3 => if r4 = 0 then (some (0, s3)) else bd (f_X9_isWithin N x3 1 9999 s3) (fun r6 s5 => if r6 = 0 then (some (0, s5)) else bd (f_X0_begin N 32 x1 x2 x3 s5) (fun _ s7 => some (1, s7)))))
set_option maxRecDepth 20000 in
theorem c_X9_letter {G : Gx} (hG : Gok G ∧ IsG G layC fsoC) (N : Nat) (x1 : Int32) (x2 : Int32) (x3 : Int32) (s : Mem) : Ct G yX9_letter cX9_letter 4 (some .boolean) 2 [.ref (Ga G 0), .int x1, .int x2, .int x3] tvI s (f_X9_letter N x1 x2 x3 s) := by
  refine Ct.of hG (by decide) (Nat.le_of_ble_eq_true rfl) (fun P h => ?_)
  show P _ 0 [(0, .ref (Ga G 0)), (1, .int x1), (2, .int x2), (3, .int x3)] [] s
  unfold f_X9_letter
  refine jx_iload_n h dX9_letter_0 rfl 1 rfl ?_
  refine jx_callSi [] h (c_X9_isLetter hG N x1 s) ml_X9_98 (Nat.le_of_ble_eq_true rfl) (Nat.le_of_ble_eq_true rfl) dX9_letter_1 (Nat.le_of_ble_eq_true rfl) rfl (fun r2 s1 => ?_)
  refine jx_if_eq (tgt := 29) h dX9_letter_4 rfl ?_ ?_
  · refine jx_iconst h dX9_letter_29 ki_0 ?_
    exact jx_zret h rfl dX9_letter_30
  · refine jx_aload_n h dX9_letter_7 rfl 0 rfl ?_
    refine jx_get (v := .ref (Ga G 3)) h fa_X9_19 lc_0 dX9_letter_8 rfl ?_
    refine jx_iload_n h dX9_letter_11 rfl 2 rfl ?_
    refine jx_callVi [] h lc_3 (c_X3_isTold hG N x2 s1) ml_X9_90 (Nat.le_of_ble_eq_true rfl) (Nat.le_of_ble_eq_true rfl) dX9_letter_12 (Nat.le_of_ble_eq_true rfl) rfl (fun r4 s3 => ?_)
    refine jx_if_eq (tgt := 29) h dX9_letter_15 rfl ?_ ?_
    · refine jx_iconst h dX9_letter_29 ki_0 ?_
      exact jx_zret h rfl dX9_letter_30
    · refine jx_iload_n h dX9_letter_18 rfl 3 rfl ?_
      refine jx_iconst h dX9_letter_19 ki_1 ?_
      refine jx_sipush h dX9_letter_20 ks_9999 ?_
      refine jx_callSi [] h (c_X9_isWithin hG N x3 1 9999 s3) ml_X9_78 (Nat.le_of_ble_eq_true rfl) (Nat.le_of_ble_eq_true rfl) dX9_letter_23 (Nat.le_of_ble_eq_true rfl) rfl (fun r6 s5 => ?_)
      refine jx_if_ne (tgt := 31) h dX9_letter_26 rfl ?_ ?_
      · refine jx_aload_n h dX9_letter_31 rfl 0 rfl ?_
        refine jx_get (v := .ref (Ga G 32)) h fa_X9_26 lc_0 dX9_letter_32 rfl ?_
        refine jx_iload_n h dX9_letter_35 rfl 1 rfl ?_
        refine jx_iload_n h dX9_letter_36 rfl 2 rfl ?_
        refine jx_iload_n h dX9_letter_37 rfl 3 rfl ?_
        refine jx_callVv [] h lc_32 (c_X0_begin hG N 32 rfl x1 x2 x3 s5) ml_X9_101 (Nat.le_of_ble_eq_true rfl) (Nat.le_of_ble_eq_true rfl) dX9_letter_38 (Nat.le_of_ble_eq_true rfl) rfl (fun s7 => ?_)
        refine jx_iconst h dX9_letter_41 ki_1 ?_
        exact jx_zret h rfl dX9_letter_42
      · refine jx_iconst h dX9_letter_29 ki_0 ?_
        exact jx_zret h rfl dX9_letter_30
noncomputable def f_X9_feed (N : Nat) (x1 : Int32) (x2 : Int32) (x3 : Int32) (x4 : Int32) (x5 : Int32) (s : Mem) : Option (Int32 × Mem) :=
  bd (f_X8_hasRoom N s) (fun r2 s1 => if r2 = 0 then (some ((-1), s1)) else bd (f_X8_put N x1 s1) (fun _ s3 => bd (f_X8_put N x2 s3) (fun _ s5 => bd (f_X8_put N x3 s5) (fun _ s7 => bd (f_X8_put N x4 s7) (fun _ s9 => bd (f_X8_put N x5 s9) (fun _ s11 => some (gi s11 1 1, s11)))))))
set_option maxRecDepth 20000 in
theorem c_X9_feed {G : Gx} (hG : Gok G ∧ IsG G layC fsoC) (N : Nat) (x1 : Int32) (x2 : Int32) (x3 : Int32) (x4 : Int32) (x5 : Int32) (s : Mem) : Ct G yX9_feed cX9_feed 6 (some .int) 1 [.ref (Ga G 0), .int x1, .int x2, .int x3, .int x4, .int x5] tvI s (f_X9_feed N x1 x2 x3 x4 x5 s) := by
  refine Ct.of hG (by decide) (Nat.le_of_ble_eq_true rfl) (fun P h => ?_)
  show P _ 0 [(0, .ref (Ga G 0)), (1, .int x1), (2, .int x2), (3, .int x3), (4, .int x4), (5, .int x5)] [] s
  unfold f_X9_feed
  refine jx_aload_n h dX9_feed_0 rfl 0 rfl ?_
  refine jx_get (v := .ref (Ga G 1)) h fa_X9_10 lc_0 dX9_feed_1 rfl ?_
  refine jx_callVi [] h lc_1 (c_X8_hasRoom hG N  s) ml_X9_104 (Nat.le_of_ble_eq_true rfl) (Nat.le_of_ble_eq_true rfl) dX9_feed_4 (Nat.le_of_ble_eq_true rfl) rfl (fun r2 s1 => ?_)
  refine jx_if_ne (tgt := 12) h dX9_feed_7 rfl ?_ ?_
  · refine jx_aload_n h dX9_feed_12 rfl 0 rfl ?_
    refine jx_get (v := .ref (Ga G 1)) h fa_X9_10 lc_0 dX9_feed_13 rfl ?_
    refine jx_iload_n h dX9_feed_16 rfl 1 rfl ?_
    refine jx_callVv [] h lc_1 (c_X8_put hG N x1 s1) ml_X9_108 (Nat.le_of_ble_eq_true rfl) (Nat.le_of_ble_eq_true rfl) dX9_feed_17 (Nat.le_of_ble_eq_true rfl) rfl (fun s3 => ?_)
    refine jx_aload_n h dX9_feed_20 rfl 0 rfl ?_
    refine jx_get (v := .ref (Ga G 1)) h fa_X9_10 lc_0 dX9_feed_21 rfl ?_
    refine jx_iload_n h dX9_feed_24 rfl 2 rfl ?_
    refine jx_callVv [] h lc_1 (c_X8_put hG N x2 s3) ml_X9_108 (Nat.le_of_ble_eq_true rfl) (Nat.le_of_ble_eq_true rfl) dX9_feed_25 (Nat.le_of_ble_eq_true rfl) rfl (fun s5 => ?_)
    refine jx_aload_n h dX9_feed_28 rfl 0 rfl ?_
    refine jx_get (v := .ref (Ga G 1)) h fa_X9_10 lc_0 dX9_feed_29 rfl ?_
    refine jx_iload_n h dX9_feed_32 rfl 3 rfl ?_
    refine jx_callVv [] h lc_1 (c_X8_put hG N x3 s5) ml_X9_108 (Nat.le_of_ble_eq_true rfl) (Nat.le_of_ble_eq_true rfl) dX9_feed_33 (Nat.le_of_ble_eq_true rfl) rfl (fun s7 => ?_)
    refine jx_aload_n h dX9_feed_36 rfl 0 rfl ?_
    refine jx_get (v := .ref (Ga G 1)) h fa_X9_10 lc_0 dX9_feed_37 rfl ?_
    refine jx_iload h dX9_feed_40 4 rfl ?_
    refine jx_callVv [] h lc_1 (c_X8_put hG N x4 s7) ml_X9_108 (Nat.le_of_ble_eq_true rfl) (Nat.le_of_ble_eq_true rfl) dX9_feed_42 (Nat.le_of_ble_eq_true rfl) rfl (fun s9 => ?_)
    refine jx_aload_n h dX9_feed_45 rfl 0 rfl ?_
    refine jx_get (v := .ref (Ga G 1)) h fa_X9_10 lc_0 dX9_feed_46 rfl ?_
    refine jx_iload h dX9_feed_49 5 rfl ?_
    refine jx_callVv [] h lc_1 (c_X8_put hG N x5 s9) ml_X9_108 (Nat.le_of_ble_eq_true rfl) (Nat.le_of_ble_eq_true rfl) dX9_feed_51 (Nat.le_of_ble_eq_true rfl) rfl (fun s11 => ?_)
    refine jx_aload_n h dX9_feed_54 rfl 0 rfl ?_
    refine jx_get (v := .ref (Ga G 1)) h fa_X9_10 lc_0 dX9_feed_55 rfl ?_
    refine jx_get (v := .int (gi s11 1 1)) h fa_X9_111 lc_1 dX9_feed_58 rfl ?_
    exact jx_iret h dX9_feed_61
  · refine jx_iconst h dX9_feed_10 ki_m1 ?_
    exact jx_iret h dX9_feed_11
noncomputable def st_X9_report_48 (N : Nat) (x2 : Int32)  (rec : Int32 → Mem → Option (Int32 × Mem)) (x3 : Int32) (s0 : Mem) : Option (Int32 × Mem) :=
  if x2 ≤ x3 then (some (x2, s0)) else if 20 ≤ x3 then (some (x2, s0)) else chk x3 20 (chk x3 20 (chk x3 20 (chk x3 20 (bd (f_X0_note N 32 (gi s0 96 (ix x3)) (gi s0 97 (ix x3)) (gi s0 98 (ix x3)) (gi s0 99 (ix x3)) s0) (fun _ s7 => lt (x3 + 1) (fun x3_9 => rec x3_9 s7))))))
noncomputable def f_X9_report (N : Nat) (x1 : Int32) (s : Mem) : Option (Int32 × Mem) :=
  bd (f_X8_has N x1 1 120 s) (fun r2 s1 => if r2 = 0 then (some ((-1), s1)) else bd (f_X8_take N s1) (fun r4 s3 => ckc (isAr r4) (bd (f_X7_read N r4 x1 (gi s3 32 1) (gi s3 3 0) s3) (fun r6 s5 => itr (fun _ _ => none) (st_X9_report_48 N r6) N 0 s5))))
set_option maxRecDepth 20000 in
theorem w_X9_report_48 {G : Gx} (hG : Gok G ∧ IsG G layC fsoC) {P : Option (Int32 × Mem) → Nat → List (Nat × Value) → List Value → Mem → Prop} (h : Jk G layC fsoC RX9 cX9_report 4 (some .int) 4 tvI P) (N : Nat) (x2 : Int32) {rec : Int32 → Mem → Option (Int32 × Mem)} (ih : ∀ (x3 : Int32) (s : Mem), P (rec x3 s) 48 [(0, .ref (Ga G 0)), (2, .int x2), (3, .int x3)] [] s) : ∀ (x3 : Int32) (s : Mem), P (st_X9_report_48 N x2 rec x3 s) 48 [(0, .ref (Ga G 0)), (2, .int x2), (3, .int x3)] [] s := by
  intro x3 s0
  unfold st_X9_report_48
  refine jx_iload_n h dX9_report_48 rfl 2 rfl ?_
  refine jx_iload_n h dX9_report_49 rfl 1 rfl ?_
  refine jx_icmp_ge (tgt := 108) h dX9_report_50 rfl ?_ ?_
  · refine jx_iload_n h dX9_report_108 rfl 1 rfl ?_
    exact jx_iret h dX9_report_109
  · refine jx_iload_n h dX9_report_53 rfl 2 rfl ?_
    refine jx_bipush h dX9_report_54 kb_20 ?_
    refine jx_icmp_ge (tgt := 108) h dX9_report_56 rfl ?_ ?_
    · refine jx_iload_n h dX9_report_108 rfl 1 rfl ?_
      exact jx_iret h dX9_report_109
    · refine jx_aload_n h dX9_report_59 rfl 0 rfl ?_
      refine jx_get (v := .ref (Ga G 32)) h fa_X9_26 lc_0 dX9_report_60 rfl ?_
      refine jx_aload_n h dX9_report_63 rfl 0 rfl ?_
      refine jx_get (v := .ref (Ga G 95)) h fa_X9_46 lc_0 dX9_report_64 rfl ?_
      refine jx_get (v := .ref (Ga G 96)) h fa_X9_137 lc_95 dX9_report_67 rfl ?_
      refine jx_iload_n h dX9_report_70 rfl 2 rfl ?_
      refine jx_iaload h lc_96 dX9_report_71 ?_
      refine jx_aload_n h dX9_report_72 rfl 0 rfl ?_
      refine jx_get (v := .ref (Ga G 95)) h fa_X9_46 lc_0 dX9_report_73 rfl ?_
      refine jx_get (v := .ref (Ga G 97)) h fa_X9_140 lc_95 dX9_report_76 rfl ?_
      refine jx_iload_n h dX9_report_79 rfl 2 rfl ?_
      refine jx_iaload h lc_97 dX9_report_80 ?_
      refine jx_aload_n h dX9_report_81 rfl 0 rfl ?_
      refine jx_get (v := .ref (Ga G 95)) h fa_X9_46 lc_0 dX9_report_82 rfl ?_
      refine jx_get (v := .ref (Ga G 98)) h fa_X9_143 lc_95 dX9_report_85 rfl ?_
      refine jx_iload_n h dX9_report_88 rfl 2 rfl ?_
      refine jx_iaload h lc_98 dX9_report_89 ?_
      refine jx_aload_n h dX9_report_90 rfl 0 rfl ?_
      refine jx_get (v := .ref (Ga G 95)) h fa_X9_46 lc_0 dX9_report_91 rfl ?_
      refine jx_get (v := .ref (Ga G 99)) h fa_X9_146 lc_95 dX9_report_94 rfl ?_
      refine jx_iload_n h dX9_report_97 rfl 2 rfl ?_
      refine jx_iaload h lc_99 dX9_report_98 ?_
      refine jx_callVv [] h lc_32 (c_X0_note hG N 32 rfl (gi s0 96 (ix x3)) (gi s0 97 (ix x3)) (gi s0 98 (ix x3)) (gi s0 99 (ix x3)) s0) ml_X9_149 (Nat.le_of_ble_eq_true rfl) (Nat.le_of_ble_eq_true rfl) dX9_report_99 (Nat.le_of_ble_eq_true rfl) rfl (fun s7 => ?_)
      refine jx_iincl (L := fun w => [(3, .int w), (0, .ref (Ga G 0)), (2, .int x2)]) h dX9_report_102 2 rfl (kn_1 _) (Nat.le_of_ble_eq_true rfl) (fun _ => rfl) (fun x3_9 => ?_)
      refine jx_goto (tgt := 48) h dX9_report_105 rfl ?_
      exact jx_subk [1, 2, 0] h (ih x3_9 s7) rfl
set_option maxRecDepth 20000 in
theorem c_X9_report {G : Gx} (hG : Gok G ∧ IsG G layC fsoC) (N : Nat) (x1 : Int32) (s : Mem) : Ct G yX9_report cX9_report 4 (some .int) 4 [.ref (Ga G 0), .int x1] tvI s (f_X9_report N x1 s) := by
  refine Ct.of hG (by decide) (Nat.le_of_ble_eq_true rfl) (fun P h => ?_)
  show P _ 0 [(0, .ref (Ga G 0)), (1, .int x1)] [] s
  unfold f_X9_report
  refine jx_aload_n h dX9_report_0 rfl 0 rfl ?_
  refine jx_get (v := .ref (Ga G 1)) h fa_X9_10 lc_0 dX9_report_1 rfl ?_
  refine jx_iload_n h dX9_report_4 rfl 1 rfl ?_
  refine jx_iconst h dX9_report_5 ki_1 ?_
  refine jx_bipush h dX9_report_6 kb_120 ?_
  refine jx_callVi [] h lc_1 (c_X8_has hG N x1 1 120 s) ml_X9_115 (Nat.le_of_ble_eq_true rfl) (Nat.le_of_ble_eq_true rfl) dX9_report_8 (Nat.le_of_ble_eq_true rfl) rfl (fun r2 s1 => ?_)
  refine jx_if_ne (tgt := 16) h dX9_report_11 rfl ?_ ?_
  · refine jx_aload_n h dX9_report_16 rfl 0 rfl ?_
    refine jx_get (v := .ref (Ga G 95)) h fa_X9_46 lc_0 dX9_report_17 rfl ?_
    refine jx_aload_n h dX9_report_20 rfl 0 rfl ?_
    refine jx_get (v := .ref (Ga G 1)) h fa_X9_10 lc_0 dX9_report_21 rfl ?_
    refine jx_callVr [.ref (Ga G 95)] h lc_1 (c_X8_take hG N  s1) ml_X9_118 (Nat.le_of_ble_eq_true rfl) (Nat.le_of_ble_eq_true rfl) dX9_report_24 (Nat.le_of_ble_eq_true rfl) rfl (fun r4 s3 => ?_)
    refine jx_ckc h (fun hr4 => ?_)
    refine jx_iload_n h dX9_report_27 rfl 1 rfl ?_
    refine jx_aload_n h dX9_report_28 rfl 0 rfl ?_
    refine jx_get (v := .ref (Ga G 32)) h fa_X9_26 lc_0 dX9_report_29 rfl ?_
    refine jx_get (v := .int (gi s3 32 1)) h fa_X9_130 lc_32 dX9_report_32 rfl ?_
    refine jx_aload_n h dX9_report_35 rfl 0 rfl ?_
    refine jx_get (v := .ref (Ga G 3)) h fa_X9_19 lc_0 dX9_report_36 rfl ?_
    refine jx_get (v := .int (gi s3 3 0)) h fa_X9_133 lc_3 dX9_report_39 rfl ?_
    refine jx_callVi [] h lc_95 (c_X7_read hG N r4 hr4 x1 (gi s3 32 1) (gi s3 3 0) s3) ml_X9_134 (Nat.le_of_ble_eq_true rfl) (Nat.le_of_ble_eq_true rfl) dX9_report_42 (Nat.le_of_ble_eq_true rfl) rfl (fun r6 s5 => ?_)
    refine jx_istore_n (lv' := [(2, .int r6), (0, .ref (Ga G 0)), (1, .int x1)]) h dX9_report_45 rfl (Nat.le_of_ble_eq_true rfl) rfl ?_
    refine jx_iconst h dX9_report_46 ki_0 ?_
    refine jx_istore_n (lv' := [(3, .int 0), (2, .int r6), (0, .ref (Ga G 0)), (1, .int x1)]) h dX9_report_47 rfl (Nat.le_of_ble_eq_true rfl) rfl ?_
    refine jx_subk [2, 1, 0] h (itr_ind (Q := (fun (f : Int32 → Mem → Option (Int32 × Mem)) => ∀ (x3 : Int32) (s : Mem), P (f x3 s) 48 [(0, .ref (Ga G 0)), (2, .int r6), (3, .int x3)] [] s)) (fun _ _ => jx_none h) (fun r48 ih48 => ?_) N 0 s5) rfl
    refine w_X9_report_48 hG h N r6  ih48
  · refine jx_iconst h dX9_report_14 ki_m1 ?_
    exact jx_iret h dX9_report_15
noncomputable def f_X9_text (N : Nat) (x1 : Int32) (x2 : Int32) (s : Mem) : Option (Int32 × Mem) :=
  bd (f_X9_isLetter N x1 s) (fun r2 s1 => if r2 = 0 then (some (0, s1)) else bd (f_X8_has N x2 1 40 s1) (fun r4 s3 => if r4 = 0 then (some (0, s3)) else bd (f_X8_take N s3) (fun r6 s5 => ckc (isAr r6) (bd (f_X1_write N x1 r6 x2 s5) (fun _ s7 => some (1, s7))))))
set_option maxRecDepth 20000 in
theorem c_X9_text {G : Gx} (hG : Gok G ∧ IsG G layC fsoC) (N : Nat) (x1 : Int32) (x2 : Int32) (s : Mem) : Ct G yX9_text cX9_text 3 (some .boolean) 2 [.ref (Ga G 0), .int x1, .int x2] tvI s (f_X9_text N x1 x2 s) := by
  refine Ct.of hG (by decide) (Nat.le_of_ble_eq_true rfl) (fun P h => ?_)
  show P _ 0 [(0, .ref (Ga G 0)), (1, .int x1), (2, .int x2)] [] s
  unfold f_X9_text
  refine jx_iload_n h dX9_text_0 rfl 1 rfl ?_
  refine jx_callSi [] h (c_X9_isLetter hG N x1 s) ml_X9_98 (Nat.le_of_ble_eq_true rfl) (Nat.le_of_ble_eq_true rfl) dX9_text_1 (Nat.le_of_ble_eq_true rfl) rfl (fun r2 s1 => ?_)
  refine jx_if_eq (tgt := 21) h dX9_text_4 rfl ?_ ?_
  · refine jx_iconst h dX9_text_21 ki_0 ?_
    exact jx_zret h rfl dX9_text_22
  · refine jx_aload_n h dX9_text_7 rfl 0 rfl ?_
    refine jx_get (v := .ref (Ga G 1)) h fa_X9_10 lc_0 dX9_text_8 rfl ?_
    refine jx_iload_n h dX9_text_11 rfl 2 rfl ?_
    refine jx_iconst h dX9_text_12 ki_1 ?_
    refine jx_bipush h dX9_text_13 kb_40 ?_
    refine jx_callVi [] h lc_1 (c_X8_has hG N x2 1 40 s1) ml_X9_115 (Nat.le_of_ble_eq_true rfl) (Nat.le_of_ble_eq_true rfl) dX9_text_15 (Nat.le_of_ble_eq_true rfl) rfl (fun r4 s3 => ?_)
    refine jx_if_ne (tgt := 23) h dX9_text_18 rfl ?_ ?_
    · refine jx_aload_n h dX9_text_23 rfl 0 rfl ?_
      refine jx_get (v := .ref (Ga G 111)) h fa_X9_60 lc_0 dX9_text_24 rfl ?_
      refine jx_iload_n h dX9_text_27 rfl 1 rfl ?_
      refine jx_aload_n h dX9_text_28 rfl 0 rfl ?_
      refine jx_get (v := .ref (Ga G 1)) h fa_X9_10 lc_0 dX9_text_29 rfl ?_
      refine jx_callVr [.int x1, .ref (Ga G 111)] h lc_1 (c_X8_take hG N  s3) ml_X9_118 (Nat.le_of_ble_eq_true rfl) (Nat.le_of_ble_eq_true rfl) dX9_text_32 (Nat.le_of_ble_eq_true rfl) rfl (fun r6 s5 => ?_)
      refine jx_ckc h (fun hr6 => ?_)
      refine jx_iload_n h dX9_text_35 rfl 2 rfl ?_
      refine jx_callVv [] h lc_111 (c_X1_write hG N x1 r6 hr6 x2 s5) ml_X9_153 (Nat.le_of_ble_eq_true rfl) (Nat.le_of_ble_eq_true rfl) dX9_text_36 (Nat.le_of_ble_eq_true rfl) rfl (fun s7 => ?_)
      refine jx_iconst h dX9_text_39 ki_1 ?_
      exact jx_zret h rfl dX9_text_40
    · refine jx_iconst h dX9_text_21 ki_0 ?_
      exact jx_zret h rfl dX9_text_22
noncomputable def f_X9_months (N : Nat) (x1 : Int32) (s : Mem) : Option (Int32 × Mem) :=
  bd (f_X9_isWithin N x1 1 60 s) (fun r2 s1 => if r2 = 0 then (some ((-1), s1)) else lt (ix (gi s1 0 10)) (fun q3 => ckc (isLw q3) (bd (f_X0_pass N 32 x1 q3 s1) (fun _ s4 => some (gi s4 32 14, s4)))))
set_option maxRecDepth 20000 in
theorem c_X9_months {G : Gx} (hG : Gok G ∧ IsG G layC fsoC) (N : Nat) (x1 : Int32) (s : Mem) : Ct G yX9_months cX9_months 2 (some .int) 6 [.ref (Ga G 0), .int x1] tvI s (f_X9_months N x1 s) := by
  refine Ct.of hG (by decide) (Nat.le_of_ble_eq_true rfl) (fun P h => ?_)
  show P _ 0 [(0, .ref (Ga G 0)), (1, .int x1)] [] s
  unfold f_X9_months
  refine jx_iload_n h dX9_months_0 rfl 1 rfl ?_
  refine jx_iconst h dX9_months_1 ki_1 ?_
  refine jx_bipush h dX9_months_2 kb_60 ?_
  refine jx_callSi [] h (c_X9_isWithin hG N x1 1 60 s) ml_X9_78 (Nat.le_of_ble_eq_true rfl) (Nat.le_of_ble_eq_true rfl) dX9_months_4 (Nat.le_of_ble_eq_true rfl) rfl (fun r2 s1 => ?_)
  refine jx_if_ne (tgt := 12) h dX9_months_7 rfl ?_ ?_
  · refine jx_aload_n h dX9_months_12 rfl 0 rfl ?_
    refine jx_get (v := .ref (Ga G 32)) h fa_X9_26 lc_0 dX9_months_13 rfl ?_
    refine jx_iload_n h dX9_months_16 rfl 1 rfl ?_
    refine jx_aload_n h dX9_months_17 rfl 0 rfl ?_
    refine jx_get (v := .ref (Ga G 3)) h fa_X9_19 lc_0 dX9_months_18 rfl ?_
    refine jx_aload_n h dX9_months_21 rfl 0 rfl ?_
    refine jx_get (v := .ref (Ga G (ix (gi s1 0 10)))) h fa_X9_74 lc_0 dX9_months_22 rfl ?_
    refine jx_ltr (fun q3 => ?_)
    refine jx_ckc h (fun hq3 => ?_)
    refine jx_callVv [] h lc_32 (c_X0_pass hG N 32 rfl x1 q3 hq3 s1) ml_X9_157 (Nat.le_of_ble_eq_true rfl) (Nat.le_of_ble_eq_true rfl) dX9_months_25 (Nat.le_of_ble_eq_true rfl) rfl (fun s4 => ?_)
    refine jx_aload_n h dX9_months_28 rfl 0 rfl ?_
    refine jx_get (v := .ref (Ga G 32)) h fa_X9_26 lc_0 dX9_months_29 rfl ?_
    refine jx_get (v := .int (gi s4 32 14)) h fa_X9_161 lc_32 dX9_months_32 rfl ?_
    exact jx_iret h dX9_months_35
  · refine jx_iconst h dX9_months_10 ki_m1 ?_
    exact jx_iret h dX9_months_11
noncomputable def f_X9_tried (N : Nat) (x1 : Int32) (x2 : Int32) (s : Mem) : Option (Int32 × Mem) :=
  bd (f_X9_isWithin N x1 1 60 s) (fun r2 s1 => if r2 = 0 then (some ((-1), s1)) else bd (f_X9_isWithin N x2 0 3 s1) (fun r4 s3 => lt (fun  (s5 : Mem) => bd (f_X0_copy N 62 32 s5) (fun _ s6 => lt (ix (gi s6 0 10)) (fun q8 => ckc (isLw q8) (bd (f_X0_pass N 62 x1 q8 s6) (fun _ s9 => if x2 = 0 then (some (gi s9 62 14, s9)) else if x2 = 1 then (some (gi s9 62 15, s9)) else if x2 = 2 then (some ((gi s9 62 10) - (gi s9 32 10), s9)) else if x2 = 3 then (some ((gi s9 62 12) - (gi s9 32 12), s9)) else bd (f_X0_fundOf N 62 (x2 - 10) s9) (fun r12 s11 => some (r12, s11))))))) (fun j35 => if r4 = 0 then (bd (f_X0_isTold N 32 (x2 - 10) s3) (fun r14 s13 => if r14 = 0 then (some ((-1), s13)) else j35 s13)) else j35 s3)))
set_option maxRecDepth 20000 in
theorem c_X9_tried {G : Gx} (hG : Gok G ∧ IsG G layC fsoC) (N : Nat) (x1 : Int32) (x2 : Int32) (s : Mem) : Ct G yX9_tried cX9_tried 3 (some .int) 6 [.ref (Ga G 0), .int x1, .int x2] tvI s (f_X9_tried N x1 x2 s) := by
  refine Ct.of hG (by decide) (Nat.le_of_ble_eq_true rfl) (fun P h => ?_)
  show P _ 0 [(0, .ref (Ga G 0)), (1, .int x1), (2, .int x2)] [] s
  unfold f_X9_tried
  refine jx_iload_n h dX9_tried_0 rfl 1 rfl ?_
  refine jx_iconst h dX9_tried_1 ki_1 ?_
  refine jx_bipush h dX9_tried_2 kb_60 ?_
  refine jx_callSi [] h (c_X9_isWithin hG N x1 1 60 s) ml_X9_78 (Nat.le_of_ble_eq_true rfl) (Nat.le_of_ble_eq_true rfl) dX9_tried_4 (Nat.le_of_ble_eq_true rfl) rfl (fun r2 s1 => ?_)
  refine jx_if_eq (tgt := 33) h dX9_tried_7 rfl ?_ ?_
  · refine jx_iconst h dX9_tried_33 ki_m1 ?_
    exact jx_iret h dX9_tried_34
  · refine jx_iload_n h dX9_tried_10 rfl 2 rfl ?_
    refine jx_iconst h dX9_tried_11 ki_0 ?_
    refine jx_iconst h dX9_tried_12 ki_3 ?_
    refine jx_callSi [] h (c_X9_isWithin hG N x2 0 3 s1) ml_X9_78 (Nat.le_of_ble_eq_true rfl) (Nat.le_of_ble_eq_true rfl) dX9_tried_13 (Nat.le_of_ble_eq_true rfl) rfl (fun r4 s3 => ?_)
    refine jx_join (fun (j : Mem → Option (Int32 × Mem)) => ∀  (s5 : Mem), P (j  s5) 35 [(0, .ref (Ga G 0)), (1, .int x1), (2, .int x2)] [] s5) (fun  s5 => ?_) (fun j35 hj35 => ?_)
    · refine jx_aload_n h dX9_tried_35 rfl 0 rfl ?_
      refine jx_get (v := .ref (Ga G 62)) h fa_X9_33 lc_0 dX9_tried_36 rfl ?_
      refine jx_aload_n h dX9_tried_39 rfl 0 rfl ?_
      refine jx_get (v := .ref (Ga G 32)) h fa_X9_26 lc_0 dX9_tried_40 rfl ?_
      refine jx_callVv [] h lc_62 (c_X0_copy hG N 62 rfl 32 rfl s5) ml_X9_165 (Nat.le_of_ble_eq_true rfl) (Nat.le_of_ble_eq_true rfl) dX9_tried_43 (Nat.le_of_ble_eq_true rfl) rfl (fun s6 => ?_)
      refine jx_aload_n h dX9_tried_46 rfl 0 rfl ?_
      refine jx_get (v := .ref (Ga G 62)) h fa_X9_33 lc_0 dX9_tried_47 rfl ?_
      refine jx_iload_n h dX9_tried_50 rfl 1 rfl ?_
      refine jx_aload_n h dX9_tried_51 rfl 0 rfl ?_
      refine jx_get (v := .ref (Ga G 3)) h fa_X9_19 lc_0 dX9_tried_52 rfl ?_
      refine jx_aload_n h dX9_tried_55 rfl 0 rfl ?_
      refine jx_get (v := .ref (Ga G (ix (gi s6 0 10)))) h fa_X9_74 lc_0 dX9_tried_56 rfl ?_
      refine jx_ltr (fun q8 => ?_)
      refine jx_ckc h (fun hq8 => ?_)
      refine jx_callVv [] h lc_62 (c_X0_pass hG N 62 rfl x1 q8 hq8 s6) ml_X9_157 (Nat.le_of_ble_eq_true rfl) (Nat.le_of_ble_eq_true rfl) dX9_tried_59 (Nat.le_of_ble_eq_true rfl) rfl (fun s9 => ?_)
      refine jx_iload_n h dX9_tried_62 rfl 2 rfl ?_
      refine jx_tcase (off := 29) (tgt := 92) h dX9_tried_63 (by decide) (by decide) (by decide) rfl ?_ (fun n63_0 => ?_)
      · refine jx_aload_n h dX9_tried_92 rfl 0 rfl ?_
        refine jx_get (v := .ref (Ga G 62)) h fa_X9_33 lc_0 dX9_tried_93 rfl ?_
        refine jx_get (v := .int (gi s9 62 14)) h fa_X9_161 lc_62 dX9_tried_96 rfl ?_
        exact jx_iret h dX9_tried_99
      · refine jx_tcase (off := 37) (tgt := 100) h dX9_tried_63 (by decide) (by decide) (by decide) rfl ?_ (fun n63_1 => ?_)
        · refine jx_aload_n h dX9_tried_100 rfl 0 rfl ?_
          refine jx_get (v := .ref (Ga G 62)) h fa_X9_33 lc_0 dX9_tried_101 rfl ?_
          refine jx_get (v := .int (gi s9 62 15)) h fa_X9_169 lc_62 dX9_tried_104 rfl ?_
          exact jx_iret h dX9_tried_107
        · refine jx_tcase (off := 45) (tgt := 108) h dX9_tried_63 (by decide) (by decide) (by decide) rfl ?_ (fun n63_2 => ?_)
          · refine jx_aload_n h dX9_tried_108 rfl 0 rfl ?_
            refine jx_get (v := .ref (Ga G 62)) h fa_X9_33 lc_0 dX9_tried_109 rfl ?_
            refine jx_get (v := .int (gi s9 62 10)) h fa_X9_172 lc_62 dX9_tried_112 rfl ?_
            refine jx_aload_n h dX9_tried_115 rfl 0 rfl ?_
            refine jx_get (v := .ref (Ga G 32)) h fa_X9_26 lc_0 dX9_tried_116 rfl ?_
            refine jx_get (v := .int (gi s9 32 10)) h fa_X9_172 lc_32 dX9_tried_119 rfl ?_
            refine jx_isub h dX9_tried_122 ?_
            exact jx_iret h dX9_tried_123
          · refine jx_tcase (off := 61) (tgt := 124) h dX9_tried_63 (by decide) (by decide) (by decide) rfl ?_ (fun n63_3 => ?_)
            · refine jx_aload_n h dX9_tried_124 rfl 0 rfl ?_
              refine jx_get (v := .ref (Ga G 62)) h fa_X9_33 lc_0 dX9_tried_125 rfl ?_
              refine jx_get (v := .int (gi s9 62 12)) h fa_X9_175 lc_62 dX9_tried_128 rfl ?_
              refine jx_aload_n h dX9_tried_131 rfl 0 rfl ?_
              refine jx_get (v := .ref (Ga G 32)) h fa_X9_26 lc_0 dX9_tried_132 rfl ?_
              refine jx_get (v := .int (gi s9 32 12)) h fa_X9_175 lc_32 dX9_tried_135 rfl ?_
              refine jx_isub h dX9_tried_138 ?_
              exact jx_iret h dX9_tried_139
            · have hsw : (x2.toInt < 0 ∨ 3 < x2.toInt) ∨ (¬ x2.toInt < 0 ∧ ¬ 3 < x2.toInt ∧ (#[29, 37, 45, 61] : Array Int)[(x2.toInt - 0).toNat]? = some 77) := by
                have a0 := i32ne n63_0 (k := 0) rfl; have a1 := i32ne n63_1 (k := 1) rfl; have a2 := i32ne n63_2 (k := 2) rfl; have a3 := i32ne n63_3 (k := 3) rfl; rcases (show x2.toInt < 0 ∨ 3 < x2.toInt by omega) with h9 | h9
                · exact Or.inl (Or.inl h9)
                · exact Or.inl (Or.inr h9)
              refine jx_tdef2 (tgt := 140) h dX9_tried_63 hsw rfl ?_
              refine jx_aload_n h dX9_tried_140 rfl 0 rfl ?_
              refine jx_get (v := .ref (Ga G 62)) h fa_X9_33 lc_0 dX9_tried_141 rfl ?_
              refine jx_iload_n h dX9_tried_144 rfl 2 rfl ?_
              refine jx_bipush h dX9_tried_145 kb_10 ?_
              refine jx_isub h dX9_tried_147 ?_
              refine jx_callVi [] h lc_62 (c_X0_fundOf hG N 62 rfl (x2 - 10) s9) ml_X9_178 (Nat.le_of_ble_eq_true rfl) (Nat.le_of_ble_eq_true rfl) dX9_tried_148 (Nat.le_of_ble_eq_true rfl) rfl (fun r12 s11 => ?_)
              exact jx_iret h dX9_tried_151
    · refine jx_if_ne (tgt := 35) h dX9_tried_16 rfl ?_ ?_
      · exact hj35 s3
      · refine jx_aload_n h dX9_tried_19 rfl 0 rfl ?_
        refine jx_get (v := .ref (Ga G 32)) h fa_X9_26 lc_0 dX9_tried_20 rfl ?_
        refine jx_iload_n h dX9_tried_23 rfl 2 rfl ?_
        refine jx_bipush h dX9_tried_24 kb_10 ?_
        refine jx_isub h dX9_tried_26 ?_
        refine jx_callVi [] h lc_32 (c_X0_isTold hG N 32 rfl (x2 - 10) s3) ml_X9_164 (Nat.le_of_ble_eq_true rfl) (Nat.le_of_ble_eq_true rfl) dX9_tried_27 (Nat.le_of_ble_eq_true rfl) rfl (fun r14 s13 => ?_)
        refine jx_if_ne (tgt := 35) h dX9_tried_30 rfl ?_ ?_
        · exact hj35 s13
        · refine jx_iconst h dX9_tried_33 ki_m1 ?_
          exact jx_iret h dX9_tried_34
noncomputable def st_X9_lettersAt_4 (N : Nat) (x0 : Nat) (x1 : Int32)  (rec : Int32 → Int32 → Mem → Option (Int32 × Mem)) (x2 : Int32) (x3 : Int32) (s0 : Mem) : Option (Int32 × Mem) :=
  if 6 ≤ x3 then (some (x2, s0)) else if (nI (lenC x0)) ≤ x3 then (some (x2, s0)) else chk x3 (lenC x0) (bd (f_X9_hasBit N (gi s0 x0 (ix x3)) x1 s0) (fun r2 s1 => if r2 = 0 then (lt (x3 + 1) (fun x3_3 => rec x2 x3_3 s1)) else lt (x2 ||| ((1 : Int32) <<< (x3 &&& 31))) (fun v4 => lt (x3 + 1) (fun x3_5 => rec v4 x3_5 s1))))
noncomputable def f_X9_lettersAt (N : Nat) (x0 : Nat) (x1 : Int32) (s : Mem) : Option (Int32 × Mem) :=
  itr (fun _ _ _ => none) (st_X9_lettersAt_4 N x0 x1) N 0 0 s
set_option maxRecDepth 20000 in
theorem w_X9_lettersAt_4 {G : Gx} (hG : Gok G ∧ IsG G layC fsoC) {P : Option (Int32 × Mem) → Nat → List (Nat × Value) → List Value → Mem → Prop} (h : Jk G layC fsoC RX9 cX9_lettersAt 4 (some .int) 1 tvI P) (N : Nat) (x0 : Nat) (x1 : Int32) (hx0 : isAr x0 = true) {rec : Int32 → Int32 → Mem → Option (Int32 × Mem)} (ih : ∀ (x2 : Int32) (x3 : Int32) (s : Mem), P (rec x2 x3 s) 4 [(0, .ref (Ga G x0)), (1, .int x1), (2, .int x2), (3, .int x3)] [] s) : ∀ (x2 : Int32) (x3 : Int32) (s : Mem), P (st_X9_lettersAt_4 N x0 x1 rec x2 x3 s) 4 [(0, .ref (Ga G x0)), (1, .int x1), (2, .int x2), (3, .int x3)] [] s := by
  intro x2 x3 s0
  unfold st_X9_lettersAt_4
  refine jx_iload_n h dX9_lettersAt_4 rfl 3 rfl ?_
  refine jx_bipush h dX9_lettersAt_5 kb_6 ?_
  refine jx_icmp_ge (tgt := 38) h dX9_lettersAt_7 rfl ?_ ?_
  · refine jx_iload_n h dX9_lettersAt_38 rfl 2 rfl ?_
    exact jx_iret h dX9_lettersAt_39
  · refine jx_iload_n h dX9_lettersAt_10 rfl 3 rfl ?_
    refine jx_aload_n h dX9_lettersAt_11 rfl 0 rfl ?_
    refine jx_alen (v := (nI (lenC x0))) h (isAr_0 hx0) rfl dX9_lettersAt_12 ?_
    refine jx_icmp_ge (tgt := 38) h dX9_lettersAt_13 rfl ?_ ?_
    · refine jx_iload_n h dX9_lettersAt_38 rfl 2 rfl ?_
      exact jx_iret h dX9_lettersAt_39
    · refine jx_aload_n h dX9_lettersAt_16 rfl 0 rfl ?_
      refine jx_iload_n h dX9_lettersAt_17 rfl 3 rfl ?_
      refine jx_iaload h (isAr_0 hx0) dX9_lettersAt_18 ?_
      refine jx_iload_n h dX9_lettersAt_19 rfl 1 rfl ?_
      refine jx_callSi [] h (c_X9_hasBit hG N (gi s0 x0 (ix x3)) x1 s0) ml_X9_205 (Nat.le_of_ble_eq_true rfl) (Nat.le_of_ble_eq_true rfl) dX9_lettersAt_20 (Nat.le_of_ble_eq_true rfl) rfl (fun r2 s1 => ?_)
      refine jx_if_eq (tgt := 32) h dX9_lettersAt_23 rfl ?_ ?_
      · refine jx_iincl (L := fun w => [(3, .int w), (0, .ref (Ga G x0)), (1, .int x1), (2, .int x2)]) h dX9_lettersAt_32 3 rfl (kn_1 _) (Nat.le_of_ble_eq_true rfl) (fun _ => rfl) (fun x3_3 => ?_)
        refine jx_goto (tgt := 4) h dX9_lettersAt_35 rfl ?_
        exact jx_subk [1, 2, 3, 0] h (ih x2 x3_3 s1) rfl
      · refine jx_iload_n h dX9_lettersAt_26 rfl 2 rfl ?_
        refine jx_iconst h dX9_lettersAt_27 ki_1 ?_
        refine jx_iload_n h dX9_lettersAt_28 rfl 3 rfl ?_
        refine jx_ishl h dX9_lettersAt_29 ?_
        refine jx_ior h dX9_lettersAt_30 ?_
        refine jx_lti (fun v4 => ?_)
        refine jx_istore_n (lv' := [(2, .int v4), (0, .ref (Ga G x0)), (1, .int x1), (3, .int x3)]) h dX9_lettersAt_31 rfl (Nat.le_of_ble_eq_true rfl) rfl ?_
        refine jx_iincl (L := fun w => [(3, .int w), (2, .int v4), (0, .ref (Ga G x0)), (1, .int x1)]) h dX9_lettersAt_32 3 rfl (kn_1 _) (Nat.le_of_ble_eq_true rfl) (fun _ => rfl) (fun x3_5 => ?_)
        refine jx_goto (tgt := 4) h dX9_lettersAt_35 rfl ?_
        exact jx_subk [2, 3, 1, 0] h (ih v4 x3_5 s1) rfl
set_option maxRecDepth 20000 in
theorem c_X9_lettersAt {G : Gx} (hG : Gok G ∧ IsG G layC fsoC) (N : Nat) (x0 : Nat) (hx0 : isAr x0 = true) (x1 : Int32) (s : Mem) : Ct G yX9_lettersAt cX9_lettersAt 4 (some .int) 1 [.ref (Ga G x0), .int x1] tvI s (f_X9_lettersAt N x0 x1 s) := by
  refine Ct.of hG (by decide) (Nat.le_of_ble_eq_true rfl) (fun P h => ?_)
  show P _ 0 [(0, .ref (Ga G x0)), (1, .int x1)] [] s
  unfold f_X9_lettersAt
  refine jx_iconst h dX9_lettersAt_0 ki_0 ?_
  refine jx_istore_n (lv' := [(2, .int 0), (0, .ref (Ga G x0)), (1, .int x1)]) h dX9_lettersAt_1 rfl (Nat.le_of_ble_eq_true rfl) rfl ?_
  refine jx_iconst h dX9_lettersAt_2 ki_0 ?_
  refine jx_istore_n (lv' := [(3, .int 0), (2, .int 0), (0, .ref (Ga G x0)), (1, .int x1)]) h dX9_lettersAt_3 rfl (Nat.le_of_ble_eq_true rfl) rfl ?_
  refine jx_subk [2, 3, 1, 0] h (itr_ind (Q := (fun (f : Int32 → Int32 → Mem → Option (Int32 × Mem)) => ∀ (x2 : Int32) (x3 : Int32) (s : Mem), P (f x2 x3 s) 4 [(0, .ref (Ga G x0)), (1, .int x1), (2, .int x2), (3, .int x3)] [] s)) (fun _ _ _ => jx_none h) (fun r4 ih4 => ?_) N 0 0 s) rfl
  refine w_X9_lettersAt_4 hG h N x0 x1 hx0  ih4
noncomputable def f_X9_parishIs (N : Nat) (x1 : Int32) (x2 : Int32) (s : Mem) : Option (Int32 × Mem) :=
  bd (f_X3_isTold N x1 s) (fun r2 s1 => if r2 = 0 then (some ((-1), s1)) else if x2 = 0 then (chk x1 12 (some (gi s1 33 (ix x1), s1))) else if x2 = 1 then (bd (f_X0_tired N 32 x1 s1) (fun r8 s7 => some (r8, s7))) else if x2 = 2 then (bd (f_X9_lettersAt N 37 x1 s1) (fun r6 s5 => some (r6, s5))) else if x2 = 3 then (bd (f_X9_lettersAt N 38 x1 s1) (fun r4 s3 => some (r4, s3))) else some ((-1), s1))
set_option maxRecDepth 20000 in
theorem c_X9_parishIs {G : Gx} (hG : Gok G ∧ IsG G layC fsoC) (N : Nat) (x1 : Int32) (x2 : Int32) (s : Mem) : Ct G yX9_parishIs cX9_parishIs 3 (some .int) 2 [.ref (Ga G 0), .int x1, .int x2] tvI s (f_X9_parishIs N x1 x2 s) := by
  refine Ct.of hG (by decide) (Nat.le_of_ble_eq_true rfl) (fun P h => ?_)
  show P _ 0 [(0, .ref (Ga G 0)), (1, .int x1), (2, .int x2)] [] s
  unfold f_X9_parishIs
  refine jx_aload_n h dX9_parishIs_0 rfl 0 rfl ?_
  refine jx_get (v := .ref (Ga G 3)) h fa_X9_19 lc_0 dX9_parishIs_1 rfl ?_
  refine jx_iload_n h dX9_parishIs_4 rfl 1 rfl ?_
  refine jx_callVi [] h lc_3 (c_X3_isTold hG N x1 s) ml_X9_90 (Nat.le_of_ble_eq_true rfl) (Nat.le_of_ble_eq_true rfl) dX9_parishIs_5 (Nat.le_of_ble_eq_true rfl) rfl (fun r2 s1 => ?_)
  refine jx_if_ne (tgt := 13) h dX9_parishIs_8 rfl ?_ ?_
  · refine jx_iload_n h dX9_parishIs_13 rfl 2 rfl ?_
    refine jx_tcase (off := 30) (tgt := 44) h dX9_parishIs_14 (by decide) (by decide) (by decide) rfl ?_ (fun n14_0 => ?_)
    · refine jx_aload_n h dX9_parishIs_44 rfl 0 rfl ?_
      refine jx_get (v := .ref (Ga G 32)) h fa_X9_26 lc_0 dX9_parishIs_45 rfl ?_
      refine jx_get (v := .ref (Ga G 33)) h fa_X9_86 lc_32 dX9_parishIs_48 rfl ?_
      refine jx_iload_n h dX9_parishIs_51 rfl 1 rfl ?_
      refine jx_iaload h lc_33 dX9_parishIs_52 ?_
      exact jx_iret h dX9_parishIs_53
    · refine jx_tcase (off := 40) (tgt := 54) h dX9_parishIs_14 (by decide) (by decide) (by decide) rfl ?_ (fun n14_1 => ?_)
      · refine jx_aload_n h dX9_parishIs_54 rfl 0 rfl ?_
        refine jx_get (v := .ref (Ga G 32)) h fa_X9_26 lc_0 dX9_parishIs_55 rfl ?_
        refine jx_iload_n h dX9_parishIs_58 rfl 1 rfl ?_
        refine jx_callVi [] h lc_32 (c_X0_tired hG N 32 rfl x1 s1) ml_X9_182 (Nat.le_of_ble_eq_true rfl) (Nat.le_of_ble_eq_true rfl) dX9_parishIs_59 (Nat.le_of_ble_eq_true rfl) rfl (fun r8 s7 => ?_)
        exact jx_iret h dX9_parishIs_62
      · refine jx_tcase (off := 49) (tgt := 63) h dX9_parishIs_14 (by decide) (by decide) (by decide) rfl ?_ (fun n14_2 => ?_)
        · refine jx_aload_n h dX9_parishIs_63 rfl 0 rfl ?_
          refine jx_get (v := .ref (Ga G 32)) h fa_X9_26 lc_0 dX9_parishIs_64 rfl ?_
          refine jx_get (v := .ref (Ga G 37)) h fa_X9_185 lc_32 dX9_parishIs_67 rfl ?_
          refine jx_iload_n h dX9_parishIs_70 rfl 1 rfl ?_
          refine jx_callSi [] h (c_X9_lettersAt hG N 37 rfl x1 s1) ml_X9_188 (Nat.le_of_ble_eq_true rfl) (Nat.le_of_ble_eq_true rfl) dX9_parishIs_71 (Nat.le_of_ble_eq_true rfl) rfl (fun r6 s5 => ?_)
          exact jx_iret h dX9_parishIs_74
        · refine jx_tcase (off := 61) (tgt := 75) h dX9_parishIs_14 (by decide) (by decide) (by decide) rfl ?_ (fun n14_3 => ?_)
          · refine jx_aload_n h dX9_parishIs_75 rfl 0 rfl ?_
            refine jx_get (v := .ref (Ga G 32)) h fa_X9_26 lc_0 dX9_parishIs_76 rfl ?_
            refine jx_get (v := .ref (Ga G 38)) h fa_X9_191 lc_32 dX9_parishIs_79 rfl ?_
            refine jx_iload_n h dX9_parishIs_82 rfl 1 rfl ?_
            refine jx_callSi [] h (c_X9_lettersAt hG N 38 rfl x1 s1) ml_X9_188 (Nat.le_of_ble_eq_true rfl) (Nat.le_of_ble_eq_true rfl) dX9_parishIs_83 (Nat.le_of_ble_eq_true rfl) rfl (fun r4 s3 => ?_)
            exact jx_iret h dX9_parishIs_86
          · have hsw : (x2.toInt < 0 ∨ 3 < x2.toInt) ∨ (¬ x2.toInt < 0 ∧ ¬ 3 < x2.toInt ∧ (#[30, 40, 49, 61] : Array Int)[(x2.toInt - 0).toNat]? = some 73) := by
              have a0 := i32ne n14_0 (k := 0) rfl; have a1 := i32ne n14_1 (k := 1) rfl; have a2 := i32ne n14_2 (k := 2) rfl; have a3 := i32ne n14_3 (k := 3) rfl; rcases (show x2.toInt < 0 ∨ 3 < x2.toInt by omega) with h9 | h9
              · exact Or.inl (Or.inl h9)
              · exact Or.inl (Or.inr h9)
            refine jx_tdef2 (tgt := 87) h dX9_parishIs_14 hsw rfl ?_
            refine jx_iconst h dX9_parishIs_87 ki_m1 ?_
            exact jx_iret h dX9_parishIs_88
  · refine jx_iconst h dX9_parishIs_11 ki_m1 ?_
    exact jx_iret h dX9_parishIs_12
noncomputable def f_X9_letterIs (N : Nat) (x1 : Int32) (x2 : Int32) (s : Mem) : Option (Int32 × Mem) :=
  bd (f_X0_isTold N 32 x1 s) (fun r2 s1 => if r2 = 0 then (some ((-1), s1)) else if x2 = 0 then (chk x1 6 (some (gi s1 34 (ix x1), s1))) else if x2 = 1 then (chk x1 6 (some (gi s1 35 (ix x1), s1))) else if x2 = 2 then (chk x1 6 (some (gi s1 36 (ix x1), s1))) else if x2 = 3 then (bd (f_X0_isInForce N 32 x1 s1) (fun r4 s3 => if r4 = 0 then (some (0, s3)) else some (1, s3))) else if x2 = 4 then (chk x1 6 (some (gi s1 37 (ix x1), s1))) else if x2 = 5 then (chk x1 6 (some (gi s1 38 (ix x1), s1))) else some ((-1), s1))
set_option maxRecDepth 20000 in
theorem c_X9_letterIs {G : Gx} (hG : Gok G ∧ IsG G layC fsoC) (N : Nat) (x1 : Int32) (x2 : Int32) (s : Mem) : Ct G yX9_letterIs cX9_letterIs 3 (some .int) 3 [.ref (Ga G 0), .int x1, .int x2] tvI s (f_X9_letterIs N x1 x2 s) := by
  refine Ct.of hG (by decide) (Nat.le_of_ble_eq_true rfl) (fun P h => ?_)
  show P _ 0 [(0, .ref (Ga G 0)), (1, .int x1), (2, .int x2)] [] s
  unfold f_X9_letterIs
  refine jx_aload_n h dX9_letterIs_0 rfl 0 rfl ?_
  refine jx_get (v := .ref (Ga G 32)) h fa_X9_26 lc_0 dX9_letterIs_1 rfl ?_
  refine jx_iload_n h dX9_letterIs_4 rfl 1 rfl ?_
  refine jx_callVi [] h lc_32 (c_X0_isTold hG N 32 rfl x1 s) ml_X9_164 (Nat.le_of_ble_eq_true rfl) (Nat.le_of_ble_eq_true rfl) dX9_letterIs_5 (Nat.le_of_ble_eq_true rfl) rfl (fun r2 s1 => ?_)
  refine jx_if_ne (tgt := 13) h dX9_letterIs_8 rfl ?_ ?_
  · refine jx_iload_n h dX9_letterIs_13 rfl 2 rfl ?_
    refine jx_tcase (off := 38) (tgt := 52) h dX9_letterIs_14 (by decide) (by decide) (by decide) rfl ?_ (fun n14_0 => ?_)
    · refine jx_aload_n h dX9_letterIs_52 rfl 0 rfl ?_
      refine jx_get (v := .ref (Ga G 32)) h fa_X9_26 lc_0 dX9_letterIs_53 rfl ?_
      refine jx_get (v := .ref (Ga G 34)) h fa_X9_193 lc_32 dX9_letterIs_56 rfl ?_
      refine jx_iload_n h dX9_letterIs_59 rfl 1 rfl ?_
      refine jx_iaload h lc_34 dX9_letterIs_60 ?_
      exact jx_iret h dX9_letterIs_61
    · refine jx_tcase (off := 48) (tgt := 62) h dX9_letterIs_14 (by decide) (by decide) (by decide) rfl ?_ (fun n14_1 => ?_)
      · refine jx_aload_n h dX9_letterIs_62 rfl 0 rfl ?_
        refine jx_get (v := .ref (Ga G 32)) h fa_X9_26 lc_0 dX9_letterIs_63 rfl ?_
        refine jx_get (v := .ref (Ga G 35)) h fa_X9_196 lc_32 dX9_letterIs_66 rfl ?_
        refine jx_iload_n h dX9_letterIs_69 rfl 1 rfl ?_
        refine jx_iaload h lc_35 dX9_letterIs_70 ?_
        exact jx_iret h dX9_letterIs_71
      · refine jx_tcase (off := 58) (tgt := 72) h dX9_letterIs_14 (by decide) (by decide) (by decide) rfl ?_ (fun n14_2 => ?_)
        · refine jx_aload_n h dX9_letterIs_72 rfl 0 rfl ?_
          refine jx_get (v := .ref (Ga G 32)) h fa_X9_26 lc_0 dX9_letterIs_73 rfl ?_
          refine jx_get (v := .ref (Ga G 36)) h fa_X9_199 lc_32 dX9_letterIs_76 rfl ?_
          refine jx_iload_n h dX9_letterIs_79 rfl 1 rfl ?_
          refine jx_iaload h lc_36 dX9_letterIs_80 ?_
          exact jx_iret h dX9_letterIs_81
        · refine jx_tcase (off := 68) (tgt := 82) h dX9_letterIs_14 (by decide) (by decide) (by decide) rfl ?_ (fun n14_3 => ?_)
          · refine jx_aload_n h dX9_letterIs_82 rfl 0 rfl ?_
            refine jx_get (v := .ref (Ga G 32)) h fa_X9_26 lc_0 dX9_letterIs_83 rfl ?_
            refine jx_iload_n h dX9_letterIs_86 rfl 1 rfl ?_
            refine jx_callVi [] h lc_32 (c_X0_isInForce hG N 32 rfl x1 s1) ml_X9_202 (Nat.le_of_ble_eq_true rfl) (Nat.le_of_ble_eq_true rfl) dX9_letterIs_87 (Nat.le_of_ble_eq_true rfl) rfl (fun r4 s3 => ?_)
            refine jx_if_eq (tgt := 97) h dX9_letterIs_90 rfl ?_ ?_
            · refine jx_iconst h dX9_letterIs_97 ki_0 ?_
              exact jx_iret h dX9_letterIs_98
            · refine jx_iconst h dX9_letterIs_93 ki_1 ?_
              refine jx_goto (tgt := 98) h dX9_letterIs_94 rfl ?_
              exact jx_iret h dX9_letterIs_98
          · refine jx_tcase (off := 85) (tgt := 99) h dX9_letterIs_14 (by decide) (by decide) (by decide) rfl ?_ (fun n14_4 => ?_)
            · refine jx_aload_n h dX9_letterIs_99 rfl 0 rfl ?_
              refine jx_get (v := .ref (Ga G 32)) h fa_X9_26 lc_0 dX9_letterIs_100 rfl ?_
              refine jx_get (v := .ref (Ga G 37)) h fa_X9_185 lc_32 dX9_letterIs_103 rfl ?_
              refine jx_iload_n h dX9_letterIs_106 rfl 1 rfl ?_
              refine jx_iaload h lc_37 dX9_letterIs_107 ?_
              exact jx_iret h dX9_letterIs_108
            · refine jx_tcase (off := 95) (tgt := 109) h dX9_letterIs_14 (by decide) (by decide) (by decide) rfl ?_ (fun n14_5 => ?_)
              · refine jx_aload_n h dX9_letterIs_109 rfl 0 rfl ?_
                refine jx_get (v := .ref (Ga G 32)) h fa_X9_26 lc_0 dX9_letterIs_110 rfl ?_
                refine jx_get (v := .ref (Ga G 38)) h fa_X9_191 lc_32 dX9_letterIs_113 rfl ?_
                refine jx_iload_n h dX9_letterIs_116 rfl 1 rfl ?_
                refine jx_iaload h lc_38 dX9_letterIs_117 ?_
                exact jx_iret h dX9_letterIs_118
              · have hsw : (x2.toInt < 0 ∨ 5 < x2.toInt) ∨ (¬ x2.toInt < 0 ∧ ¬ 5 < x2.toInt ∧ (#[38, 48, 58, 68, 85, 95] : Array Int)[(x2.toInt - 0).toNat]? = some 105) := by
                  have a0 := i32ne n14_0 (k := 0) rfl; have a1 := i32ne n14_1 (k := 1) rfl; have a2 := i32ne n14_2 (k := 2) rfl; have a3 := i32ne n14_3 (k := 3) rfl; have a4 := i32ne n14_4 (k := 4) rfl; have a5 := i32ne n14_5 (k := 5) rfl; rcases (show x2.toInt < 0 ∨ 5 < x2.toInt by omega) with h9 | h9
                  · exact Or.inl (Or.inl h9)
                  · exact Or.inl (Or.inr h9)
                refine jx_tdef2 (tgt := 119) h dX9_letterIs_14 hsw rfl ?_
                refine jx_iconst h dX9_letterIs_119 ki_m1 ?_
                exact jx_iret h dX9_letterIs_120
  · refine jx_iconst h dX9_letterIs_11 ki_m1 ?_
    exact jx_iret h dX9_letterIs_12
noncomputable def f_X9_toldAt (N : Nat) (x1 : Int32) (x2 : Int32) (s : Mem) : Option (Int32 × Mem) :=
  bd (f_X0_isTold N 32 x1 s) (fun r2 s1 => if r2 = 0 then (some ((-1), s1)) else bd (f_X3_isTold N x2 s1) (fun r4 s3 => if r4 = 0 then (some ((-1), s3)) else chk x1 6 (bd (f_X9_hasBit N (gi s3 37 (ix x1)) x2 s3) (fun r6 s5 => if r6 = 0 then (some ((-2), s5)) else chk x1 6 (chk x2 12 (some (gi s5 (39 + 1 + ix x1) (ix x2), s5)))))))
set_option maxRecDepth 20000 in
theorem c_X9_toldAt {G : Gx} (hG : Gok G ∧ IsG G layC fsoC) (N : Nat) (x1 : Int32) (x2 : Int32) (s : Mem) : Ct G yX9_toldAt cX9_toldAt 3 (some .int) 3 [.ref (Ga G 0), .int x1, .int x2] tvI s (f_X9_toldAt N x1 x2 s) := by
  refine Ct.of hG (by decide) (Nat.le_of_ble_eq_true rfl) (fun P h => ?_)
  show P _ 0 [(0, .ref (Ga G 0)), (1, .int x1), (2, .int x2)] [] s
  unfold f_X9_toldAt
  refine jx_aload_n h dX9_toldAt_0 rfl 0 rfl ?_
  refine jx_get (v := .ref (Ga G 32)) h fa_X9_26 lc_0 dX9_toldAt_1 rfl ?_
  refine jx_iload_n h dX9_toldAt_4 rfl 1 rfl ?_
  refine jx_callVi [] h lc_32 (c_X0_isTold hG N 32 rfl x1 s) ml_X9_164 (Nat.le_of_ble_eq_true rfl) (Nat.le_of_ble_eq_true rfl) dX9_toldAt_5 (Nat.le_of_ble_eq_true rfl) rfl (fun r2 s1 => ?_)
  refine jx_if_eq (tgt := 22) h dX9_toldAt_8 rfl ?_ ?_
  · refine jx_iconst h dX9_toldAt_22 ki_m1 ?_
    exact jx_iret h dX9_toldAt_23
  · refine jx_aload_n h dX9_toldAt_11 rfl 0 rfl ?_
    refine jx_get (v := .ref (Ga G 3)) h fa_X9_19 lc_0 dX9_toldAt_12 rfl ?_
    refine jx_iload_n h dX9_toldAt_15 rfl 2 rfl ?_
    refine jx_callVi [] h lc_3 (c_X3_isTold hG N x2 s1) ml_X9_90 (Nat.le_of_ble_eq_true rfl) (Nat.le_of_ble_eq_true rfl) dX9_toldAt_16 (Nat.le_of_ble_eq_true rfl) rfl (fun r4 s3 => ?_)
    refine jx_if_ne (tgt := 24) h dX9_toldAt_19 rfl ?_ ?_
    · refine jx_aload_n h dX9_toldAt_24 rfl 0 rfl ?_
      refine jx_get (v := .ref (Ga G 32)) h fa_X9_26 lc_0 dX9_toldAt_25 rfl ?_
      refine jx_get (v := .ref (Ga G 37)) h fa_X9_185 lc_32 dX9_toldAt_28 rfl ?_
      refine jx_iload_n h dX9_toldAt_31 rfl 1 rfl ?_
      refine jx_iaload h lc_37 dX9_toldAt_32 ?_
      refine jx_iload_n h dX9_toldAt_33 rfl 2 rfl ?_
      refine jx_callSi [] h (c_X9_hasBit hG N (gi s3 37 (ix x1)) x2 s3) ml_X9_205 (Nat.le_of_ble_eq_true rfl) (Nat.le_of_ble_eq_true rfl) dX9_toldAt_34 (Nat.le_of_ble_eq_true rfl) rfl (fun r6 s5 => ?_)
      refine jx_if_eq (tgt := 54) h dX9_toldAt_37 rfl ?_ ?_
      · refine jx_bipush h dX9_toldAt_54 kb_m2 ?_
        exact jx_iret h dX9_toldAt_56
      · refine jx_aload_n h dX9_toldAt_40 rfl 0 rfl ?_
        refine jx_get (v := .ref (Ga G 32)) h fa_X9_26 lc_0 dX9_toldAt_41 rfl ?_
        refine jx_get (v := .ref (Ga G 39)) h fa_X9_209 lc_32 dX9_toldAt_44 rfl ?_
        refine jx_iload_n h dX9_toldAt_47 rfl 1 rfl ?_
        refine jx_aaload h lc_39 dX9_toldAt_48 (fun hr7 => ?_)
        refine jx_iload_n h dX9_toldAt_49 rfl 2 rfl ?_
        refine jx_iaload h (isBk_r (b := 32) rfl hr7) dX9_toldAt_50 ?_
        refine jx_goto (tgt := 56) h dX9_toldAt_51 rfl ?_
        exact jx_iret h dX9_toldAt_56
    · refine jx_iconst h dX9_toldAt_22 ki_m1 ?_
      exact jx_iret h dX9_toldAt_23
noncomputable def f_X9_spreads (N : Nat) (x1 : Int32) (x2 : Int32) (s : Mem) : Option (Int32 × Mem) :=
  bd (f_X0_isTold N 32 x1 s) (fun r2 s1 => if r2 = 0 then (some ((-1), s1)) else bd (f_X9_isWithin N x2 100 102 s1) (fun r4 s3 => lt (fun  (s5 : Mem) => bd (f_X0_isInForce N 32 x1 s5) (fun r7 s6 => if r7 = 0 then (some ((-3), s6)) else bd (f_X0_copy N 62 32 s6) (fun _ s8 => lt (ix (gi s8 0 10)) (fun q10 => ckc (isLw q10) (bd (f_X2_spread N x1 62 q10 s8) (fun _ s11 => if x2 = 100 then (bd (f_X2_howMany N s11) (fun r22 s21 => some (r22, s21))) else if x2 = 101 then (bd (f_X2_last N s11) (fun r18 s17 => bd (f_X2_behindIn N r18 s17) (fun r20 s19 => some (r20, s19)))) else if x2 = 102 then (bd (f_X2_last N s11) (fun r16 s15 => some (r16, s15))) else bd (f_X2_behindIn N x2 s11) (fun r14 s13 => some (r14, s13)))))))) (fun j35 => if r4 = 0 then (bd (f_X3_isTold N x2 s3) (fun r24 s23 => if r24 = 0 then (some ((-1), s23)) else j35 s23)) else j35 s3)))
set_option maxRecDepth 20000 in
theorem c_X9_spreads {G : Gx} (hG : Gok G ∧ IsG G layC fsoC) (N : Nat) (x1 : Int32) (x2 : Int32) (s : Mem) : Ct G yX9_spreads cX9_spreads 3 (some .int) 6 [.ref (Ga G 0), .int x1, .int x2] tvI s (f_X9_spreads N x1 x2 s) := by
  refine Ct.of hG (by decide) (Nat.le_of_ble_eq_true rfl) (fun P h => ?_)
  show P _ 0 [(0, .ref (Ga G 0)), (1, .int x1), (2, .int x2)] [] s
  unfold f_X9_spreads
  refine jx_aload_n h dX9_spreads_0 rfl 0 rfl ?_
  refine jx_get (v := .ref (Ga G 32)) h fa_X9_26 lc_0 dX9_spreads_1 rfl ?_
  refine jx_iload_n h dX9_spreads_4 rfl 1 rfl ?_
  refine jx_callVi [] h lc_32 (c_X0_isTold hG N 32 rfl x1 s) ml_X9_164 (Nat.le_of_ble_eq_true rfl) (Nat.le_of_ble_eq_true rfl) dX9_spreads_5 (Nat.le_of_ble_eq_true rfl) rfl (fun r2 s1 => ?_)
  refine jx_if_eq (tgt := 33) h dX9_spreads_8 rfl ?_ ?_
  · refine jx_iconst h dX9_spreads_33 ki_m1 ?_
    exact jx_iret h dX9_spreads_34
  · refine jx_iload_n h dX9_spreads_11 rfl 2 rfl ?_
    refine jx_bipush h dX9_spreads_12 kb_100 ?_
    refine jx_bipush h dX9_spreads_14 kb_102 ?_
    refine jx_callSi [] h (c_X9_isWithin hG N x2 100 102 s1) ml_X9_78 (Nat.le_of_ble_eq_true rfl) (Nat.le_of_ble_eq_true rfl) dX9_spreads_16 (Nat.le_of_ble_eq_true rfl) rfl (fun r4 s3 => ?_)
    refine jx_join (fun (j : Mem → Option (Int32 × Mem)) => ∀  (s5 : Mem), P (j  s5) 35 [(0, .ref (Ga G 0)), (1, .int x1), (2, .int x2)] [] s5) (fun  s5 => ?_) (fun j35 hj35 => ?_)
    · refine jx_aload_n h dX9_spreads_35 rfl 0 rfl ?_
      refine jx_get (v := .ref (Ga G 32)) h fa_X9_26 lc_0 dX9_spreads_36 rfl ?_
      refine jx_iload_n h dX9_spreads_39 rfl 1 rfl ?_
      refine jx_callVi [] h lc_32 (c_X0_isInForce hG N 32 rfl x1 s5) ml_X9_202 (Nat.le_of_ble_eq_true rfl) (Nat.le_of_ble_eq_true rfl) dX9_spreads_40 (Nat.le_of_ble_eq_true rfl) rfl (fun r7 s6 => ?_)
      refine jx_if_ne (tgt := 49) h dX9_spreads_43 rfl ?_ ?_
      · refine jx_aload_n h dX9_spreads_49 rfl 0 rfl ?_
        refine jx_get (v := .ref (Ga G 62)) h fa_X9_33 lc_0 dX9_spreads_50 rfl ?_
        refine jx_aload_n h dX9_spreads_53 rfl 0 rfl ?_
        refine jx_get (v := .ref (Ga G 32)) h fa_X9_26 lc_0 dX9_spreads_54 rfl ?_
        refine jx_callVv [] h lc_62 (c_X0_copy hG N 62 rfl 32 rfl s6) ml_X9_165 (Nat.le_of_ble_eq_true rfl) (Nat.le_of_ble_eq_true rfl) dX9_spreads_57 (Nat.le_of_ble_eq_true rfl) rfl (fun s8 => ?_)
        refine jx_aload_n h dX9_spreads_60 rfl 0 rfl ?_
        refine jx_get (v := .ref (Ga G 101)) h fa_X9_53 lc_0 dX9_spreads_61 rfl ?_
        refine jx_iload_n h dX9_spreads_64 rfl 1 rfl ?_
        refine jx_aload_n h dX9_spreads_65 rfl 0 rfl ?_
        refine jx_get (v := .ref (Ga G 62)) h fa_X9_33 lc_0 dX9_spreads_66 rfl ?_
        refine jx_aload_n h dX9_spreads_69 rfl 0 rfl ?_
        refine jx_get (v := .ref (Ga G 3)) h fa_X9_19 lc_0 dX9_spreads_70 rfl ?_
        refine jx_aload_n h dX9_spreads_73 rfl 0 rfl ?_
        refine jx_get (v := .ref (Ga G (ix (gi s8 0 10)))) h fa_X9_74 lc_0 dX9_spreads_74 rfl ?_
        refine jx_ltr (fun q10 => ?_)
        refine jx_ckc h (fun hq10 => ?_)
        refine jx_callVv [] h lc_101 (c_X2_spread hG N x1 62 rfl q10 hq10 s8) ml_X9_213 (Nat.le_of_ble_eq_true rfl) (Nat.le_of_ble_eq_true rfl) dX9_spreads_77 (Nat.le_of_ble_eq_true rfl) rfl (fun s11 => ?_)
        refine jx_iload_n h dX9_spreads_80 rfl 2 rfl ?_
        refine jx_tcase (off := 27) (tgt := 108) h dX9_spreads_81 (by decide) (by decide) (by decide) rfl ?_ (fun n81_100 => ?_)
        · refine jx_aload_n h dX9_spreads_108 rfl 0 rfl ?_
          refine jx_get (v := .ref (Ga G 101)) h fa_X9_53 lc_0 dX9_spreads_109 rfl ?_
          refine jx_callVi [] h lc_101 (c_X2_howMany hG N  s11) ml_X9_217 (Nat.le_of_ble_eq_true rfl) (Nat.le_of_ble_eq_true rfl) dX9_spreads_112 (Nat.le_of_ble_eq_true rfl) rfl (fun r22 s21 => ?_)
          exact jx_iret h dX9_spreads_115
        · refine jx_tcase (off := 35) (tgt := 116) h dX9_spreads_81 (by decide) (by decide) (by decide) rfl ?_ (fun n81_101 => ?_)
          · refine jx_aload_n h dX9_spreads_116 rfl 0 rfl ?_
            refine jx_get (v := .ref (Ga G 101)) h fa_X9_53 lc_0 dX9_spreads_117 rfl ?_
            refine jx_aload_n h dX9_spreads_120 rfl 0 rfl ?_
            refine jx_get (v := .ref (Ga G 101)) h fa_X9_53 lc_0 dX9_spreads_121 rfl ?_
            refine jx_callVi [.ref (Ga G 101)] h lc_101 (c_X2_last hG N  s11) ml_X9_221 (Nat.le_of_ble_eq_true rfl) (Nat.le_of_ble_eq_true rfl) dX9_spreads_124 (Nat.le_of_ble_eq_true rfl) rfl (fun r18 s17 => ?_)
            refine jx_callVi [] h lc_101 (c_X2_behindIn hG N r18 s17) ml_X9_224 (Nat.le_of_ble_eq_true rfl) (Nat.le_of_ble_eq_true rfl) dX9_spreads_127 (Nat.le_of_ble_eq_true rfl) rfl (fun r20 s19 => ?_)
            exact jx_iret h dX9_spreads_130
          · refine jx_tcase (off := 50) (tgt := 131) h dX9_spreads_81 (by decide) (by decide) (by decide) rfl ?_ (fun n81_102 => ?_)
            · refine jx_aload_n h dX9_spreads_131 rfl 0 rfl ?_
              refine jx_get (v := .ref (Ga G 101)) h fa_X9_53 lc_0 dX9_spreads_132 rfl ?_
              refine jx_callVi [] h lc_101 (c_X2_last hG N  s11) ml_X9_221 (Nat.le_of_ble_eq_true rfl) (Nat.le_of_ble_eq_true rfl) dX9_spreads_135 (Nat.le_of_ble_eq_true rfl) rfl (fun r16 s15 => ?_)
              exact jx_iret h dX9_spreads_138
            · have hsw : (x2.toInt < 100 ∨ 102 < x2.toInt) ∨ (¬ x2.toInt < 100 ∧ ¬ 102 < x2.toInt ∧ (#[27, 35, 50] : Array Int)[(x2.toInt - 100).toNat]? = some 58) := by
                have a0 := i32ne n81_100 (k := 100) rfl; have a1 := i32ne n81_101 (k := 101) rfl; have a2 := i32ne n81_102 (k := 102) rfl; rcases (show x2.toInt < 100 ∨ 102 < x2.toInt by omega) with h9 | h9
                · exact Or.inl (Or.inl h9)
                · exact Or.inl (Or.inr h9)
              refine jx_tdef2 (tgt := 139) h dX9_spreads_81 hsw rfl ?_
              refine jx_aload_n h dX9_spreads_139 rfl 0 rfl ?_
              refine jx_get (v := .ref (Ga G 101)) h fa_X9_53 lc_0 dX9_spreads_140 rfl ?_
              refine jx_iload_n h dX9_spreads_143 rfl 2 rfl ?_
              refine jx_callVi [] h lc_101 (c_X2_behindIn hG N x2 s11) ml_X9_224 (Nat.le_of_ble_eq_true rfl) (Nat.le_of_ble_eq_true rfl) dX9_spreads_144 (Nat.le_of_ble_eq_true rfl) rfl (fun r14 s13 => ?_)
              exact jx_iret h dX9_spreads_147
      · refine jx_bipush h dX9_spreads_46 kb_m3 ?_
        exact jx_iret h dX9_spreads_48
    · refine jx_if_ne (tgt := 35) h dX9_spreads_19 rfl ?_ ?_
      · exact hj35 s3
      · refine jx_aload_n h dX9_spreads_22 rfl 0 rfl ?_
        refine jx_get (v := .ref (Ga G 3)) h fa_X9_19 lc_0 dX9_spreads_23 rfl ?_
        refine jx_iload_n h dX9_spreads_26 rfl 2 rfl ?_
        refine jx_callVi [] h lc_3 (c_X3_isTold hG N x2 s3) ml_X9_90 (Nat.le_of_ble_eq_true rfl) (Nat.le_of_ble_eq_true rfl) dX9_spreads_27 (Nat.le_of_ble_eq_true rfl) rfl (fun r24 s23 => ?_)
        refine jx_if_ne (tgt := 35) h dX9_spreads_30 rfl ?_ ?_
        · exact hj35 s23
        · refine jx_iconst h dX9_spreads_33 ki_m1 ?_
          exact jx_iret h dX9_spreads_34
noncomputable def f_X9_miles (N : Nat) (x1 : Int32) (x2 : Int32) (s : Mem) : Option (Int32 × Mem) :=
  bd (f_X3_isTold N x1 s) (fun r2 s1 => if r2 = 0 then (some ((-1), s1)) else bd (f_X3_isTold N x2 s1) (fun r4 s3 => if r4 = 0 then (some ((-1), s3)) else bd (f_X3_way N x1 x2 s3) (fun r6 s5 => if 1000000 ≤ r6 then (some ((-2), s5)) else some (r6, s5))))
set_option maxRecDepth 20000 in
theorem c_X9_miles {G : Gx} (hG : Gok G ∧ IsG G layC fsoC) (N : Nat) (x1 : Int32) (x2 : Int32) (s : Mem) : Ct G yX9_miles cX9_miles 4 (some .int) 3 [.ref (Ga G 0), .int x1, .int x2] tvI s (f_X9_miles N x1 x2 s) := by
  refine Ct.of hG (by decide) (Nat.le_of_ble_eq_true rfl) (fun P h => ?_)
  show P _ 0 [(0, .ref (Ga G 0)), (1, .int x1), (2, .int x2)] [] s
  unfold f_X9_miles
  refine jx_aload_n h dX9_miles_0 rfl 0 rfl ?_
  refine jx_get (v := .ref (Ga G 3)) h fa_X9_19 lc_0 dX9_miles_1 rfl ?_
  refine jx_iload_n h dX9_miles_4 rfl 1 rfl ?_
  refine jx_callVi [] h lc_3 (c_X3_isTold hG N x1 s) ml_X9_90 (Nat.le_of_ble_eq_true rfl) (Nat.le_of_ble_eq_true rfl) dX9_miles_5 (Nat.le_of_ble_eq_true rfl) rfl (fun r2 s1 => ?_)
  refine jx_if_eq (tgt := 22) h dX9_miles_8 rfl ?_ ?_
  · refine jx_iconst h dX9_miles_22 ki_m1 ?_
    exact jx_iret h dX9_miles_23
  · refine jx_aload_n h dX9_miles_11 rfl 0 rfl ?_
    refine jx_get (v := .ref (Ga G 3)) h fa_X9_19 lc_0 dX9_miles_12 rfl ?_
    refine jx_iload_n h dX9_miles_15 rfl 2 rfl ?_
    refine jx_callVi [] h lc_3 (c_X3_isTold hG N x2 s1) ml_X9_90 (Nat.le_of_ble_eq_true rfl) (Nat.le_of_ble_eq_true rfl) dX9_miles_16 (Nat.le_of_ble_eq_true rfl) rfl (fun r4 s3 => ?_)
    refine jx_if_ne (tgt := 24) h dX9_miles_19 rfl ?_ ?_
    · refine jx_aload_n h dX9_miles_24 rfl 0 rfl ?_
      refine jx_get (v := .ref (Ga G 3)) h fa_X9_19 lc_0 dX9_miles_25 rfl ?_
      refine jx_iload_n h dX9_miles_28 rfl 1 rfl ?_
      refine jx_iload_n h dX9_miles_29 rfl 2 rfl ?_
      refine jx_callVi [] h lc_3 (c_X3_way hG N x1 x2 s3) ml_X9_227 (Nat.le_of_ble_eq_true rfl) (Nat.le_of_ble_eq_true rfl) dX9_miles_30 (Nat.le_of_ble_eq_true rfl) rfl (fun r6 s5 => ?_)
      refine jx_istore_n (lv' := [(3, .int r6), (0, .ref (Ga G 0)), (1, .int x1), (2, .int x2)]) h dX9_miles_33 rfl (Nat.le_of_ble_eq_true rfl) rfl ?_
      refine jx_iload_n h dX9_miles_34 rfl 0 rfl ?_
      refine jx_ldc h dX9_miles_35 kw_X9_231 ?_
      refine jx_icmp_ge (tgt := 44) h dX9_miles_37 rfl ?_ ?_
      · refine jx_bipush h dX9_miles_44 kb_m2 ?_
        exact jx_iret h dX9_miles_46
      · refine jx_iload_n h dX9_miles_40 rfl 0 rfl ?_
        refine jx_goto (tgt := 46) h dX9_miles_41 rfl ?_
        exact jx_iret h dX9_miles_46
    · refine jx_iconst h dX9_miles_22 ki_m1 ?_
      exact jx_iret h dX9_miles_23
noncomputable def f_X9_isSome (N : Nat) (x0 : Int32) (x1 : Int32) (x2 : Int32) (s : Mem) : Option (Int32 × Mem) :=
  if x0 = 0 then (some (0, s)) else if (x0 &&& (x1 ^^^ (-1))) = 0 then (bd (f_J6_bitCount_0f7a4 N x0 s) (fun r2 s1 => if x2 < r2 then (some (0, s1)) else some (1, s1))) else some (0, s)
set_option maxRecDepth 20000 in
theorem c_X9_isSome {G : Gx} (hG : Gok G ∧ IsG G layC fsoC) (N : Nat) (x0 : Int32) (x1 : Int32) (x2 : Int32) (s : Mem) : Ct G yX9_isSome cX9_isSome 3 (some .boolean) 1 [.int x0, .int x1, .int x2] tvI s (f_X9_isSome N x0 x1 x2 s) := by
  refine Ct.of hG (by decide) (Nat.le_of_ble_eq_true rfl) (fun P h => ?_)
  show P _ 0 [(0, .int x0), (1, .int x1), (2, .int x2)] [] s
  unfold f_X9_isSome
  refine jx_iload_n h dX9_isSome_0 rfl 0 rfl ?_
  refine jx_if_eq (tgt := 24) h dX9_isSome_1 rfl ?_ ?_
  · refine jx_iconst h dX9_isSome_24 ki_0 ?_
    exact jx_zret h rfl dX9_isSome_25
  · refine jx_iload_n h dX9_isSome_4 rfl 0 rfl ?_
    refine jx_iload_n h dX9_isSome_5 rfl 1 rfl ?_
    refine jx_iconst h dX9_isSome_6 ki_m1 ?_
    refine jx_ixor h dX9_isSome_7 ?_
    refine jx_iand h dX9_isSome_8 ?_
    refine jx_if_ne (tgt := 24) h dX9_isSome_9 rfl ?_ ?_
    · refine jx_iconst h dX9_isSome_24 ki_0 ?_
      exact jx_zret h rfl dX9_isSome_25
    · refine jx_iload_n h dX9_isSome_12 rfl 0 rfl ?_
      refine jx_callSi [] h (c_J6_bitCount_0f7a4 hG N x0 s) ml_X9_235 (Nat.le_of_ble_eq_true rfl) (Nat.le_of_ble_eq_true rfl) dX9_isSome_13 (Nat.le_of_ble_eq_true rfl) rfl (fun r2 s1 => ?_)
      refine jx_iload_n h dX9_isSome_16 rfl 2 rfl ?_
      refine jx_icmp_gt (tgt := 24) h dX9_isSome_17 rfl ?_ ?_
      · refine jx_iconst h dX9_isSome_24 ki_0 ?_
        exact jx_zret h rfl dX9_isSome_25
      · refine jx_iconst h dX9_isSome_20 ki_1 ?_
        refine jx_goto (tgt := 25) h dX9_isSome_21 rfl ?_
        exact jx_zret h rfl dX9_isSome_25
noncomputable def f_X9_round (N : Nat) (x1 : Int32) (x2 : Int32) (x3 : Int32) (s : Mem) : Option (Int32 × Mem) :=
  bd (f_X3_isTold N x1 s) (fun r2 s1 => if r2 = 0 then (some ((-1), s1)) else bd (f_X9_isSome N x2 (gi s1 3 0) 7 s1) (fun r4 s3 => if r4 = 0 then (some ((-1), s3)) else bd (f_X9_hasBit N x2 x1 s3) (fun r6 s5 => if r6 = 0 then (lt (fun  (s7 : Mem) => bd (f_X3_goRound N x1 x2 s7) (fun r9 s8 => if r9 < 1000000 then (if x3 = 100 then (some (r9, s8)) else bd (f_X3_stopAt N x3 s8) (fun r11 s10 => some (r11, s10))) else some ((-2), s8))) (fun j59 => if x3 = 100 then (j59 s5) else bd (f_J6_bitCount_0f7a4 N x2 s5) (fun r13 s12 => bd (f_X9_isWithin N x3 0 (r13 - 1) s12) (fun r15 s14 => if r15 = 0 then (some ((-1), s14)) else j59 s14)))) else some ((-1), s5))))
set_option maxRecDepth 20000 in
theorem c_X9_round {G : Gx} (hG : Gok G ∧ IsG G layC fsoC) (N : Nat) (x1 : Int32) (x2 : Int32) (x3 : Int32) (s : Mem) : Ct G yX9_round cX9_round 5 (some .int) 6 [.ref (Ga G 0), .int x1, .int x2, .int x3] tvI s (f_X9_round N x1 x2 x3 s) := by
  refine Ct.of hG (by decide) (Nat.le_of_ble_eq_true rfl) (fun P h => ?_)
  show P _ 0 [(0, .ref (Ga G 0)), (1, .int x1), (2, .int x2), (3, .int x3)] [] s
  unfold f_X9_round
  refine jx_aload_n h dX9_round_0 rfl 0 rfl ?_
  refine jx_get (v := .ref (Ga G 3)) h fa_X9_19 lc_0 dX9_round_1 rfl ?_
  refine jx_iload_n h dX9_round_4 rfl 1 rfl ?_
  refine jx_callVi [] h lc_3 (c_X3_isTold hG N x1 s) ml_X9_90 (Nat.le_of_ble_eq_true rfl) (Nat.le_of_ble_eq_true rfl) dX9_round_5 (Nat.le_of_ble_eq_true rfl) rfl (fun r2 s1 => ?_)
  refine jx_if_eq (tgt := 35) h dX9_round_8 rfl ?_ ?_
  · refine jx_iconst h dX9_round_35 ki_m1 ?_
    exact jx_iret h dX9_round_36
  · refine jx_iload_n h dX9_round_11 rfl 2 rfl ?_
    refine jx_aload_n h dX9_round_12 rfl 0 rfl ?_
    refine jx_get (v := .ref (Ga G 3)) h fa_X9_19 lc_0 dX9_round_13 rfl ?_
    refine jx_get (v := .int (gi s1 3 0)) h fa_X9_133 lc_3 dX9_round_16 rfl ?_
    refine jx_bipush h dX9_round_19 kb_7 ?_
    refine jx_callSi [] h (c_X9_isSome hG N x2 (gi s1 3 0) 7 s1) ml_X9_232 (Nat.le_of_ble_eq_true rfl) (Nat.le_of_ble_eq_true rfl) dX9_round_21 (Nat.le_of_ble_eq_true rfl) rfl (fun r4 s3 => ?_)
    refine jx_if_eq (tgt := 35) h dX9_round_24 rfl ?_ ?_
    · refine jx_iconst h dX9_round_35 ki_m1 ?_
      exact jx_iret h dX9_round_36
    · refine jx_iload_n h dX9_round_27 rfl 2 rfl ?_
      refine jx_iload_n h dX9_round_28 rfl 1 rfl ?_
      refine jx_callSi [] h (c_X9_hasBit hG N x2 x1 s3) ml_X9_205 (Nat.le_of_ble_eq_true rfl) (Nat.le_of_ble_eq_true rfl) dX9_round_29 (Nat.le_of_ble_eq_true rfl) rfl (fun r6 s5 => ?_)
      refine jx_if_eq (tgt := 37) h dX9_round_32 rfl ?_ ?_
      · refine jx_iload_n h dX9_round_37 rfl 3 rfl ?_
        refine jx_bipush h dX9_round_38 kb_100 ?_
        refine jx_join (fun (j : Mem → Option (Int32 × Mem)) => ∀  (s7 : Mem), P (j  s7) 59 [(0, .ref (Ga G 0)), (1, .int x1), (2, .int x2), (3, .int x3)] [] s7) (fun  s7 => ?_) (fun j59 hj59 => ?_)
        · refine jx_aload_n h dX9_round_59 rfl 0 rfl ?_
          refine jx_get (v := .ref (Ga G 3)) h fa_X9_19 lc_0 dX9_round_60 rfl ?_
          refine jx_iload_n h dX9_round_63 rfl 1 rfl ?_
          refine jx_iload_n h dX9_round_64 rfl 2 rfl ?_
          refine jx_callVi [] h lc_3 (c_X3_goRound hG N x1 x2 s7) ml_X9_240 (Nat.le_of_ble_eq_true rfl) (Nat.le_of_ble_eq_true rfl) dX9_round_65 (Nat.le_of_ble_eq_true rfl) rfl (fun r9 s8 => ?_)
          refine jx_istore (lv' := [(4, .int r9), (0, .ref (Ga G 0)), (1, .int x1), (2, .int x2), (3, .int x3)]) h dX9_round_68 (Nat.le_of_ble_eq_true rfl) rfl ?_
          refine jx_iload h dX9_round_70 0 rfl ?_
          refine jx_ldc h dX9_round_72 kw_X9_231 ?_
          refine jx_icmp_lt (tgt := 80) h dX9_round_74 rfl ?_ ?_
          · refine jx_iload_n h dX9_round_80 rfl 4 rfl ?_
            refine jx_bipush h dX9_round_81 kb_100 ?_
            refine jx_icmp_ne (tgt := 91) h dX9_round_83 rfl ?_ ?_
            · refine jx_aload_n h dX9_round_91 rfl 1 rfl ?_
              refine jx_get (v := .ref (Ga G 3)) h fa_X9_19 lc_0 dX9_round_92 rfl ?_
              refine jx_iload_n h dX9_round_95 rfl 4 rfl ?_
              refine jx_callVi [] h lc_3 (c_X3_stopAt hG N x3 s8) ml_X9_243 (Nat.le_of_ble_eq_true rfl) (Nat.le_of_ble_eq_true rfl) dX9_round_96 (Nat.le_of_ble_eq_true rfl) rfl (fun r11 s10 => ?_)
              exact jx_iret h dX9_round_99
            · refine jx_iload h dX9_round_86 0 rfl ?_
              refine jx_goto (tgt := 99) h dX9_round_88 rfl ?_
              exact jx_iret h dX9_round_99
          · refine jx_bipush h dX9_round_77 kb_m2 ?_
            exact jx_iret h dX9_round_79
        · refine jx_icmp_eq (tgt := 59) h dX9_round_40 rfl ?_ ?_
          · exact hj59 s5
          · refine jx_iload_n h dX9_round_43 rfl 3 rfl ?_
            refine jx_iconst h dX9_round_44 ki_0 ?_
            refine jx_iload_n h dX9_round_45 rfl 2 rfl ?_
            refine jx_callSi [.int 0, .int x3] h (c_J6_bitCount_0f7a4 hG N x2 s5) ml_X9_235 (Nat.le_of_ble_eq_true rfl) (Nat.le_of_ble_eq_true rfl) dX9_round_46 (Nat.le_of_ble_eq_true rfl) rfl (fun r13 s12 => ?_)
            refine jx_iconst h dX9_round_49 ki_1 ?_
            refine jx_isub h dX9_round_50 ?_
            refine jx_callSi [] h (c_X9_isWithin hG N x3 0 (r13 - 1) s12) ml_X9_78 (Nat.le_of_ble_eq_true rfl) (Nat.le_of_ble_eq_true rfl) dX9_round_51 (Nat.le_of_ble_eq_true rfl) rfl (fun r15 s14 => ?_)
            refine jx_if_ne (tgt := 59) h dX9_round_54 rfl ?_ ?_
            · exact hj59 s14
            · refine jx_iconst h dX9_round_57 ki_m1 ?_
              exact jx_iret h dX9_round_58
      · refine jx_iconst h dX9_round_35 ki_m1 ?_
        exact jx_iret h dX9_round_36
noncomputable def f_X9_readsMost (N : Nat) (x1 : Int32) (x2 : Int32) (x3 : Int32) (s : Mem) : Option (Int32 × Mem) :=
  bd (f_X3_isTold N x1 s) (fun r2 s1 => if r2 = 0 then (some ((-1), s1)) else bd (f_X9_isSome N x2 (gi s1 32 1) 5 s1) (fun r4 s3 => if r4 = 0 then (some ((-1), s3)) else lt (fun  (s5 : Mem) => lt (ix (gi s5 0 10)) (fun q6 => ckc (isLw q6) (bd (f_X2_readMost N x1 x2 32 q6 s5) (fun r8 s7 => if x3 = 100 then (some (r8, s7)) else bd (f_X2_readAt N x2 x3 s7) (fun r10 s9 => some (r10, s9)))))) (fun j50 => if x3 = 100 then (j50 s3) else bd (f_J6_bitCount_0f7a4 N x2 s3) (fun r12 s11 => bd (f_X9_isWithin N x3 0 (r12 - 1) s11) (fun r14 s13 => if r14 = 0 then (some ((-1), s13)) else j50 s13)))))
set_option maxRecDepth 20000 in
theorem c_X9_readsMost {G : Gx} (hG : Gok G ∧ IsG G layC fsoC) (N : Nat) (x1 : Int32) (x2 : Int32) (x3 : Int32) (s : Mem) : Ct G yX9_readsMost cX9_readsMost 5 (some .int) 5 [.ref (Ga G 0), .int x1, .int x2, .int x3] tvI s (f_X9_readsMost N x1 x2 x3 s) := by
  refine Ct.of hG (by decide) (Nat.le_of_ble_eq_true rfl) (fun P h => ?_)
  show P _ 0 [(0, .ref (Ga G 0)), (1, .int x1), (2, .int x2), (3, .int x3)] [] s
  unfold f_X9_readsMost
  refine jx_aload_n h dX9_readsMost_0 rfl 0 rfl ?_
  refine jx_get (v := .ref (Ga G 3)) h fa_X9_19 lc_0 dX9_readsMost_1 rfl ?_
  refine jx_iload_n h dX9_readsMost_4 rfl 1 rfl ?_
  refine jx_callVi [] h lc_3 (c_X3_isTold hG N x1 s) ml_X9_90 (Nat.le_of_ble_eq_true rfl) (Nat.le_of_ble_eq_true rfl) dX9_readsMost_5 (Nat.le_of_ble_eq_true rfl) rfl (fun r2 s1 => ?_)
  refine jx_if_eq (tgt := 26) h dX9_readsMost_8 rfl ?_ ?_
  · refine jx_iconst h dX9_readsMost_26 ki_m1 ?_
    exact jx_iret h dX9_readsMost_27
  · refine jx_iload_n h dX9_readsMost_11 rfl 2 rfl ?_
    refine jx_aload_n h dX9_readsMost_12 rfl 0 rfl ?_
    refine jx_get (v := .ref (Ga G 32)) h fa_X9_26 lc_0 dX9_readsMost_13 rfl ?_
    refine jx_get (v := .int (gi s1 32 1)) h fa_X9_130 lc_32 dX9_readsMost_16 rfl ?_
    refine jx_iconst h dX9_readsMost_19 ki_5 ?_
    refine jx_callSi [] h (c_X9_isSome hG N x2 (gi s1 32 1) 5 s1) ml_X9_232 (Nat.le_of_ble_eq_true rfl) (Nat.le_of_ble_eq_true rfl) dX9_readsMost_20 (Nat.le_of_ble_eq_true rfl) rfl (fun r4 s3 => ?_)
    refine jx_if_ne (tgt := 28) h dX9_readsMost_23 rfl ?_ ?_
    · refine jx_iload_n h dX9_readsMost_28 rfl 3 rfl ?_
      refine jx_bipush h dX9_readsMost_29 kb_100 ?_
      refine jx_join (fun (j : Mem → Option (Int32 × Mem)) => ∀  (s5 : Mem), P (j  s5) 50 [(0, .ref (Ga G 0)), (1, .int x1), (2, .int x2), (3, .int x3)] [] s5) (fun  s5 => ?_) (fun j50 hj50 => ?_)
      · refine jx_aload_n h dX9_readsMost_50 rfl 0 rfl ?_
        refine jx_get (v := .ref (Ga G 101)) h fa_X9_53 lc_0 dX9_readsMost_51 rfl ?_
        refine jx_iload_n h dX9_readsMost_54 rfl 1 rfl ?_
        refine jx_iload_n h dX9_readsMost_55 rfl 2 rfl ?_
        refine jx_aload_n h dX9_readsMost_56 rfl 0 rfl ?_
        refine jx_get (v := .ref (Ga G 32)) h fa_X9_26 lc_0 dX9_readsMost_57 rfl ?_
        refine jx_aload_n h dX9_readsMost_60 rfl 0 rfl ?_
        refine jx_get (v := .ref (Ga G (ix (gi s5 0 10)))) h fa_X9_74 lc_0 dX9_readsMost_61 rfl ?_
        refine jx_ltr (fun q6 => ?_)
        refine jx_ckc h (fun hq6 => ?_)
        refine jx_callVi [] h lc_101 (c_X2_readMost hG N x1 x2 32 rfl q6 hq6 s5) ml_X9_246 (Nat.le_of_ble_eq_true rfl) (Nat.le_of_ble_eq_true rfl) dX9_readsMost_64 (Nat.le_of_ble_eq_true rfl) rfl (fun r8 s7 => ?_)
        refine jx_istore (lv' := [(4, .int r8), (0, .ref (Ga G 0)), (1, .int x1), (2, .int x2), (3, .int x3)]) h dX9_readsMost_67 (Nat.le_of_ble_eq_true rfl) rfl ?_
        refine jx_iload_n h dX9_readsMost_69 rfl 4 rfl ?_
        refine jx_bipush h dX9_readsMost_70 kb_100 ?_
        refine jx_icmp_ne (tgt := 80) h dX9_readsMost_72 rfl ?_ ?_
        · refine jx_aload_n h dX9_readsMost_80 rfl 1 rfl ?_
          refine jx_get (v := .ref (Ga G 101)) h fa_X9_53 lc_0 dX9_readsMost_81 rfl ?_
          refine jx_iload_n h dX9_readsMost_84 rfl 3 rfl ?_
          refine jx_iload_n h dX9_readsMost_85 rfl 4 rfl ?_
          refine jx_callVi [] h lc_101 (c_X2_readAt hG N x2 x3 s7) ml_X9_250 (Nat.le_of_ble_eq_true rfl) (Nat.le_of_ble_eq_true rfl) dX9_readsMost_86 (Nat.le_of_ble_eq_true rfl) rfl (fun r10 s9 => ?_)
          exact jx_iret h dX9_readsMost_89
        · refine jx_iload h dX9_readsMost_75 0 rfl ?_
          refine jx_goto (tgt := 89) h dX9_readsMost_77 rfl ?_
          exact jx_iret h dX9_readsMost_89
      · refine jx_icmp_eq (tgt := 50) h dX9_readsMost_31 rfl ?_ ?_
        · exact hj50 s3
        · refine jx_iload_n h dX9_readsMost_34 rfl 3 rfl ?_
          refine jx_iconst h dX9_readsMost_35 ki_0 ?_
          refine jx_iload_n h dX9_readsMost_36 rfl 2 rfl ?_
          refine jx_callSi [.int 0, .int x3] h (c_J6_bitCount_0f7a4 hG N x2 s3) ml_X9_235 (Nat.le_of_ble_eq_true rfl) (Nat.le_of_ble_eq_true rfl) dX9_readsMost_37 (Nat.le_of_ble_eq_true rfl) rfl (fun r12 s11 => ?_)
          refine jx_iconst h dX9_readsMost_40 ki_1 ?_
          refine jx_isub h dX9_readsMost_41 ?_
          refine jx_callSi [] h (c_X9_isWithin hG N x3 0 (r12 - 1) s11) ml_X9_78 (Nat.le_of_ble_eq_true rfl) (Nat.le_of_ble_eq_true rfl) dX9_readsMost_42 (Nat.le_of_ble_eq_true rfl) rfl (fun r14 s13 => ?_)
          refine jx_if_ne (tgt := 50) h dX9_readsMost_45 rfl ?_ ?_
          · exact hj50 s13
          · refine jx_iconst h dX9_readsMost_48 ki_m1 ?_
            exact jx_iret h dX9_readsMost_49
    · refine jx_iconst h dX9_readsMost_26 ki_m1 ?_
      exact jx_iret h dX9_readsMost_27
noncomputable def f_X9_bestMonth (N : Nat) (x1 : Int32) (x2 : Int32) (x3 : Int32) (s : Mem) : Option (Int32 × Mem) :=
  bd (f_X3_isTold N x1 s) (fun r2 s1 => if r2 = 0 then (some ((-1), s1)) else bd (f_X0_isTold N 32 x2 s1) (fun r4 s3 => if r4 = 0 then (some ((-1), s3)) else bd (f_X9_isWithin N x3 0 1 s3) (fun r6 s5 => if r6 = 0 then (some ((-1), s5)) else lt (ix (gi s5 0 10)) (fun q7 => ckc (isLw q7) (bd (f_X2_bestOf N x1 x2 32 q7 s5) (fun r9 s8 => if x3 = 0 then (some (r9, s8)) else some (gi s8 101 3, s8)))))))
set_option maxRecDepth 20000 in
theorem c_X9_bestMonth {G : Gx} (hG : Gok G ∧ IsG G layC fsoC) (N : Nat) (x1 : Int32) (x2 : Int32) (x3 : Int32) (s : Mem) : Ct G yX9_bestMonth cX9_bestMonth 5 (some .int) 5 [.ref (Ga G 0), .int x1, .int x2, .int x3] tvI s (f_X9_bestMonth N x1 x2 x3 s) := by
  refine Ct.of hG (by decide) (Nat.le_of_ble_eq_true rfl) (fun P h => ?_)
  show P _ 0 [(0, .ref (Ga G 0)), (1, .int x1), (2, .int x2), (3, .int x3)] [] s
  unfold f_X9_bestMonth
  refine jx_aload_n h dX9_bestMonth_0 rfl 0 rfl ?_
  refine jx_get (v := .ref (Ga G 3)) h fa_X9_19 lc_0 dX9_bestMonth_1 rfl ?_
  refine jx_iload_n h dX9_bestMonth_4 rfl 1 rfl ?_
  refine jx_callVi [] h lc_3 (c_X3_isTold hG N x1 s) ml_X9_90 (Nat.le_of_ble_eq_true rfl) (Nat.le_of_ble_eq_true rfl) dX9_bestMonth_5 (Nat.le_of_ble_eq_true rfl) rfl (fun r2 s1 => ?_)
  refine jx_if_eq (tgt := 31) h dX9_bestMonth_8 rfl ?_ ?_
  · refine jx_iconst h dX9_bestMonth_31 ki_m1 ?_
    exact jx_iret h dX9_bestMonth_32
  · refine jx_aload_n h dX9_bestMonth_11 rfl 0 rfl ?_
    refine jx_get (v := .ref (Ga G 32)) h fa_X9_26 lc_0 dX9_bestMonth_12 rfl ?_
    refine jx_iload_n h dX9_bestMonth_15 rfl 2 rfl ?_
    refine jx_callVi [] h lc_32 (c_X0_isTold hG N 32 rfl x2 s1) ml_X9_164 (Nat.le_of_ble_eq_true rfl) (Nat.le_of_ble_eq_true rfl) dX9_bestMonth_16 (Nat.le_of_ble_eq_true rfl) rfl (fun r4 s3 => ?_)
    refine jx_if_eq (tgt := 31) h dX9_bestMonth_19 rfl ?_ ?_
    · refine jx_iconst h dX9_bestMonth_31 ki_m1 ?_
      exact jx_iret h dX9_bestMonth_32
    · refine jx_iload_n h dX9_bestMonth_22 rfl 3 rfl ?_
      refine jx_iconst h dX9_bestMonth_23 ki_0 ?_
      refine jx_iconst h dX9_bestMonth_24 ki_1 ?_
      refine jx_callSi [] h (c_X9_isWithin hG N x3 0 1 s3) ml_X9_78 (Nat.le_of_ble_eq_true rfl) (Nat.le_of_ble_eq_true rfl) dX9_bestMonth_25 (Nat.le_of_ble_eq_true rfl) rfl (fun r6 s5 => ?_)
      refine jx_if_ne (tgt := 33) h dX9_bestMonth_28 rfl ?_ ?_
      · refine jx_aload_n h dX9_bestMonth_33 rfl 0 rfl ?_
        refine jx_get (v := .ref (Ga G 101)) h fa_X9_53 lc_0 dX9_bestMonth_34 rfl ?_
        refine jx_iload_n h dX9_bestMonth_37 rfl 1 rfl ?_
        refine jx_iload_n h dX9_bestMonth_38 rfl 2 rfl ?_
        refine jx_aload_n h dX9_bestMonth_39 rfl 0 rfl ?_
        refine jx_get (v := .ref (Ga G 32)) h fa_X9_26 lc_0 dX9_bestMonth_40 rfl ?_
        refine jx_aload_n h dX9_bestMonth_43 rfl 0 rfl ?_
        refine jx_get (v := .ref (Ga G (ix (gi s5 0 10)))) h fa_X9_74 lc_0 dX9_bestMonth_44 rfl ?_
        refine jx_ltr (fun q7 => ?_)
        refine jx_ckc h (fun hq7 => ?_)
        refine jx_callVi [] h lc_101 (c_X2_bestOf hG N x1 x2 32 rfl q7 hq7 s5) ml_X9_253 (Nat.le_of_ble_eq_true rfl) (Nat.le_of_ble_eq_true rfl) dX9_bestMonth_47 (Nat.le_of_ble_eq_true rfl) rfl (fun r9 s8 => ?_)
        refine jx_istore (lv' := [(4, .int r9), (0, .ref (Ga G 0)), (1, .int x1), (2, .int x2), (3, .int x3)]) h dX9_bestMonth_50 (Nat.le_of_ble_eq_true rfl) rfl ?_
        refine jx_iload_n h dX9_bestMonth_52 rfl 4 rfl ?_
        refine jx_if_ne (tgt := 61) h dX9_bestMonth_53 rfl ?_ ?_
        · refine jx_aload_n h dX9_bestMonth_61 rfl 1 rfl ?_
          refine jx_get (v := .ref (Ga G 101)) h fa_X9_53 lc_0 dX9_bestMonth_62 rfl ?_
          refine jx_get (v := .int (gi s8 101 3)) h fa_X9_256 lc_101 dX9_bestMonth_65 rfl ?_
          exact jx_iret h dX9_bestMonth_68
        · refine jx_iload h dX9_bestMonth_56 0 rfl ?_
          refine jx_goto (tgt := 68) h dX9_bestMonth_58 rfl ?_
          exact jx_iret h dX9_bestMonth_68
      · refine jx_iconst h dX9_bestMonth_31 ki_m1 ?_
        exact jx_iret h dX9_bestMonth_32
noncomputable def f_X9_far (N : Nat) (x1 : Int32) (x2 : Int32) (s : Mem) : Option (Int32 × Mem) :=
  bd (f_X9_isLetter N x1 s) (fun r2 s1 => if r2 = 0 then (some ((-1), s1)) else bd (f_X9_isLetter N x2 s1) (fun r4 s3 => if r4 = 0 then (some ((-1), s3)) else bd (f_X1_isWritten N x1 s3) (fun r6 s5 => if r6 = 0 then (some ((-2), s5)) else bd (f_X1_isWritten N x2 s5) (fun r8 s7 => if r8 = 0 then (some ((-2), s7)) else bd (f_X1_apart N x1 x2 s7) (fun r10 s9 => some (r10, s9))))))
set_option maxRecDepth 20000 in
theorem c_X9_far {G : Gx} (hG : Gok G ∧ IsG G layC fsoC) (N : Nat) (x1 : Int32) (x2 : Int32) (s : Mem) : Ct G yX9_far cX9_far 3 (some .int) 3 [.ref (Ga G 0), .int x1, .int x2] tvI s (f_X9_far N x1 x2 s) := by
  refine Ct.of hG (by decide) (Nat.le_of_ble_eq_true rfl) (fun P h => ?_)
  show P _ 0 [(0, .ref (Ga G 0)), (1, .int x1), (2, .int x2)] [] s
  unfold f_X9_far
  refine jx_iload_n h dX9_far_0 rfl 1 rfl ?_
  refine jx_callSi [] h (c_X9_isLetter hG N x1 s) ml_X9_98 (Nat.le_of_ble_eq_true rfl) (Nat.le_of_ble_eq_true rfl) dX9_far_1 (Nat.le_of_ble_eq_true rfl) rfl (fun r2 s1 => ?_)
  refine jx_if_eq (tgt := 14) h dX9_far_4 rfl ?_ ?_
  · refine jx_iconst h dX9_far_14 ki_m1 ?_
    exact jx_iret h dX9_far_15
  · refine jx_iload_n h dX9_far_7 rfl 2 rfl ?_
    refine jx_callSi [] h (c_X9_isLetter hG N x2 s1) ml_X9_98 (Nat.le_of_ble_eq_true rfl) (Nat.le_of_ble_eq_true rfl) dX9_far_8 (Nat.le_of_ble_eq_true rfl) rfl (fun r4 s3 => ?_)
    refine jx_if_ne (tgt := 16) h dX9_far_11 rfl ?_ ?_
    · refine jx_aload_n h dX9_far_16 rfl 0 rfl ?_
      refine jx_get (v := .ref (Ga G 111)) h fa_X9_60 lc_0 dX9_far_17 rfl ?_
      refine jx_iload_n h dX9_far_20 rfl 1 rfl ?_
      refine jx_callVi [] h lc_111 (c_X1_isWritten hG N x1 s3) ml_X9_266 (Nat.le_of_ble_eq_true rfl) (Nat.le_of_ble_eq_true rfl) dX9_far_21 (Nat.le_of_ble_eq_true rfl) rfl (fun r6 s5 => ?_)
      refine jx_if_eq (tgt := 50) h dX9_far_24 rfl ?_ ?_
      · refine jx_bipush h dX9_far_50 kb_m2 ?_
        exact jx_iret h dX9_far_52
      · refine jx_aload_n h dX9_far_27 rfl 0 rfl ?_
        refine jx_get (v := .ref (Ga G 111)) h fa_X9_60 lc_0 dX9_far_28 rfl ?_
        refine jx_iload_n h dX9_far_31 rfl 2 rfl ?_
        refine jx_callVi [] h lc_111 (c_X1_isWritten hG N x2 s5) ml_X9_266 (Nat.le_of_ble_eq_true rfl) (Nat.le_of_ble_eq_true rfl) dX9_far_32 (Nat.le_of_ble_eq_true rfl) rfl (fun r8 s7 => ?_)
        refine jx_if_eq (tgt := 50) h dX9_far_35 rfl ?_ ?_
        · refine jx_bipush h dX9_far_50 kb_m2 ?_
          exact jx_iret h dX9_far_52
        · refine jx_aload_n h dX9_far_38 rfl 0 rfl ?_
          refine jx_get (v := .ref (Ga G 111)) h fa_X9_60 lc_0 dX9_far_39 rfl ?_
          refine jx_iload_n h dX9_far_42 rfl 1 rfl ?_
          refine jx_iload_n h dX9_far_43 rfl 2 rfl ?_
          refine jx_callVi [] h lc_111 (c_X1_apart hG N x1 x2 s7) ml_X9_269 (Nat.le_of_ble_eq_true rfl) (Nat.le_of_ble_eq_true rfl) dX9_far_44 (Nat.le_of_ble_eq_true rfl) rfl (fun r10 s9 => ?_)
          refine jx_goto (tgt := 52) h dX9_far_47 rfl ?_
          exact jx_iret h dX9_far_52
    · refine jx_iconst h dX9_far_14 ki_m1 ?_
      exact jx_iret h dX9_far_15
noncomputable def f_X9_nearest (N : Nat) (x1 : Int32) (x2 : Int32) (s : Mem) : Option (Int32 × Mem) :=
  bd (f_X9_isWithin N x2 0 1 s) (fun r2 s1 => if r2 = 0 then (some ((-1), s1)) else bd (f_X8_has N x1 1 40 s1) (fun r4 s3 => if r4 = 0 then (some ((-1), s3)) else bd (f_X8_take N s3) (fun r6 s5 => ckc (isAr r6) (bd (f_X1_nearestTo N r6 x1 s5) (fun r8 s7 => if x2 = 0 then (some (r8, s7)) else if 0 ≤ r8 then (some (gi s7 111 4, s7)) else some (r8, s7))))))
set_option maxRecDepth 20000 in
theorem c_X9_nearest {G : Gx} (hG : Gok G ∧ IsG G layC fsoC) (N : Nat) (x1 : Int32) (x2 : Int32) (s : Mem) : Ct G yX9_nearest cX9_nearest 4 (some .int) 4 [.ref (Ga G 0), .int x1, .int x2] tvI s (f_X9_nearest N x1 x2 s) := by
  refine Ct.of hG (by decide) (Nat.le_of_ble_eq_true rfl) (fun P h => ?_)
  show P _ 0 [(0, .ref (Ga G 0)), (1, .int x1), (2, .int x2)] [] s
  unfold f_X9_nearest
  refine jx_iload_n h dX9_nearest_0 rfl 2 rfl ?_
  refine jx_iconst h dX9_nearest_1 ki_0 ?_
  refine jx_iconst h dX9_nearest_2 ki_1 ?_
  refine jx_callSi [] h (c_X9_isWithin hG N x2 0 1 s) ml_X9_78 (Nat.le_of_ble_eq_true rfl) (Nat.le_of_ble_eq_true rfl) dX9_nearest_3 (Nat.le_of_ble_eq_true rfl) rfl (fun r2 s1 => ?_)
  refine jx_if_eq (tgt := 23) h dX9_nearest_6 rfl ?_ ?_
  · refine jx_iconst h dX9_nearest_23 ki_m1 ?_
    exact jx_iret h dX9_nearest_24
  · refine jx_aload_n h dX9_nearest_9 rfl 0 rfl ?_
    refine jx_get (v := .ref (Ga G 1)) h fa_X9_10 lc_0 dX9_nearest_10 rfl ?_
    refine jx_iload_n h dX9_nearest_13 rfl 1 rfl ?_
    refine jx_iconst h dX9_nearest_14 ki_1 ?_
    refine jx_bipush h dX9_nearest_15 kb_40 ?_
    refine jx_callVi [] h lc_1 (c_X8_has hG N x1 1 40 s1) ml_X9_115 (Nat.le_of_ble_eq_true rfl) (Nat.le_of_ble_eq_true rfl) dX9_nearest_17 (Nat.le_of_ble_eq_true rfl) rfl (fun r4 s3 => ?_)
    refine jx_if_ne (tgt := 25) h dX9_nearest_20 rfl ?_ ?_
    · refine jx_aload_n h dX9_nearest_25 rfl 0 rfl ?_
      refine jx_get (v := .ref (Ga G 111)) h fa_X9_60 lc_0 dX9_nearest_26 rfl ?_
      refine jx_aload_n h dX9_nearest_29 rfl 0 rfl ?_
      refine jx_get (v := .ref (Ga G 1)) h fa_X9_10 lc_0 dX9_nearest_30 rfl ?_
      refine jx_callVr [.ref (Ga G 111)] h lc_1 (c_X8_take hG N  s3) ml_X9_118 (Nat.le_of_ble_eq_true rfl) (Nat.le_of_ble_eq_true rfl) dX9_nearest_33 (Nat.le_of_ble_eq_true rfl) rfl (fun r6 s5 => ?_)
      refine jx_ckc h (fun hr6 => ?_)
      refine jx_iload_n h dX9_nearest_36 rfl 1 rfl ?_
      refine jx_callVi [] h lc_111 (c_X1_nearestTo hG N r6 hr6 x1 s5) ml_X9_272 (Nat.le_of_ble_eq_true rfl) (Nat.le_of_ble_eq_true rfl) dX9_nearest_37 (Nat.le_of_ble_eq_true rfl) rfl (fun r8 s7 => ?_)
      refine jx_istore_n (lv' := [(3, .int r8), (0, .ref (Ga G 0)), (1, .int x1), (2, .int x2)]) h dX9_nearest_40 rfl (Nat.le_of_ble_eq_true rfl) rfl ?_
      refine jx_iload_n h dX9_nearest_41 rfl 3 rfl ?_
      refine jx_if_eq (tgt := 49) h dX9_nearest_42 rfl ?_ ?_
      · refine jx_iload_n h dX9_nearest_49 rfl 0 rfl ?_
        refine jx_goto (tgt := 60) h dX9_nearest_50 rfl ?_
        exact jx_iret h dX9_nearest_60
      · refine jx_iload_n h dX9_nearest_45 rfl 0 rfl ?_
        refine jx_if_ge (tgt := 53) h dX9_nearest_46 rfl ?_ ?_
        · refine jx_aload_n h dX9_nearest_53 rfl 1 rfl ?_
          refine jx_get (v := .ref (Ga G 111)) h fa_X9_60 lc_0 dX9_nearest_54 rfl ?_
          refine jx_get (v := .int (gi s7 111 4)) h fa_X9_275 lc_111 dX9_nearest_57 rfl ?_
          exact jx_iret h dX9_nearest_60
        · refine jx_iload_n h dX9_nearest_49 rfl 0 rfl ?_
          refine jx_goto (tgt := 60) h dX9_nearest_50 rfl ?_
          exact jx_iret h dX9_nearest_60
    · refine jx_iconst h dX9_nearest_23 ki_m1 ?_
      exact jx_iret h dX9_nearest_24
noncomputable def f_X9_fromWhom (N : Nat)  (s : Mem) : Option (Int32 × Mem) :=
  bd (f_X1_tree N s) (fun r2 s1 => some (r2, s1))
set_option maxRecDepth 20000 in
theorem c_X9_fromWhom {G : Gx} (hG : Gok G ∧ IsG G layC fsoC) (N : Nat)  (s : Mem) : Ct G yX9_fromWhom cX9_fromWhom 1 (some .int) 5 [.ref (Ga G 0)] tvI s (f_X9_fromWhom N s) := by
  refine Ct.of hG (by decide) (Nat.le_of_ble_eq_true rfl) (fun P h => ?_)
  show P _ 0 [(0, .ref (Ga G 0))] [] s
  unfold f_X9_fromWhom
  refine jx_aload_n h dX9_fromWhom_0 rfl 0 rfl ?_
  refine jx_get (v := .ref (Ga G 111)) h fa_X9_60 lc_0 dX9_fromWhom_1 rfl ?_
  refine jx_callVi [] h lc_111 (c_X1_tree hG N  s) ml_X9_278 (Nat.le_of_ble_eq_true rfl) (Nat.le_of_ble_eq_true rfl) dX9_fromWhom_4 (Nat.le_of_ble_eq_true rfl) rfl (fun r2 s1 => ?_)
  exact jx_iret h dX9_fromWhom_7
noncomputable def f_X9_misspelt (N : Nat) (x1 : Int32) (x2 : Int32) (s : Mem) : Option (Int32 × Mem) :=
  bd (f_X9_isLetter N x1 s) (fun r2 s1 => if r2 = 0 then (some ((-1), s1)) else bd (f_X9_isLetter N x2 s1) (fun r4 s3 => if r4 = 0 then (some ((-1), s3)) else bd (f_X1_isWritten N x1 s3) (fun r6 s5 => if r6 = 0 then (some ((-2), s5)) else bd (f_X1_isWritten N x2 s5) (fun r8 s7 => if r8 = 0 then (some ((-2), s7)) else bd (f_X1_partAt N x1 x2 s7) (fun r10 s9 => some (r10, s9))))))
set_option maxRecDepth 20000 in
theorem c_X9_misspelt {G : Gx} (hG : Gok G ∧ IsG G layC fsoC) (N : Nat) (x1 : Int32) (x2 : Int32) (s : Mem) : Ct G yX9_misspelt cX9_misspelt 3 (some .int) 3 [.ref (Ga G 0), .int x1, .int x2] tvI s (f_X9_misspelt N x1 x2 s) := by
  refine Ct.of hG (by decide) (Nat.le_of_ble_eq_true rfl) (fun P h => ?_)
  show P _ 0 [(0, .ref (Ga G 0)), (1, .int x1), (2, .int x2)] [] s
  unfold f_X9_misspelt
  refine jx_iload_n h dX9_misspelt_0 rfl 1 rfl ?_
  refine jx_callSi [] h (c_X9_isLetter hG N x1 s) ml_X9_98 (Nat.le_of_ble_eq_true rfl) (Nat.le_of_ble_eq_true rfl) dX9_misspelt_1 (Nat.le_of_ble_eq_true rfl) rfl (fun r2 s1 => ?_)
  refine jx_if_eq (tgt := 14) h dX9_misspelt_4 rfl ?_ ?_
  · refine jx_iconst h dX9_misspelt_14 ki_m1 ?_
    exact jx_iret h dX9_misspelt_15
  · refine jx_iload_n h dX9_misspelt_7 rfl 2 rfl ?_
    refine jx_callSi [] h (c_X9_isLetter hG N x2 s1) ml_X9_98 (Nat.le_of_ble_eq_true rfl) (Nat.le_of_ble_eq_true rfl) dX9_misspelt_8 (Nat.le_of_ble_eq_true rfl) rfl (fun r4 s3 => ?_)
    refine jx_if_ne (tgt := 16) h dX9_misspelt_11 rfl ?_ ?_
    · refine jx_aload_n h dX9_misspelt_16 rfl 0 rfl ?_
      refine jx_get (v := .ref (Ga G 111)) h fa_X9_60 lc_0 dX9_misspelt_17 rfl ?_
      refine jx_iload_n h dX9_misspelt_20 rfl 1 rfl ?_
      refine jx_callVi [] h lc_111 (c_X1_isWritten hG N x1 s3) ml_X9_266 (Nat.le_of_ble_eq_true rfl) (Nat.le_of_ble_eq_true rfl) dX9_misspelt_21 (Nat.le_of_ble_eq_true rfl) rfl (fun r6 s5 => ?_)
      refine jx_if_eq (tgt := 50) h dX9_misspelt_24 rfl ?_ ?_
      · refine jx_bipush h dX9_misspelt_50 kb_m2 ?_
        exact jx_iret h dX9_misspelt_52
      · refine jx_aload_n h dX9_misspelt_27 rfl 0 rfl ?_
        refine jx_get (v := .ref (Ga G 111)) h fa_X9_60 lc_0 dX9_misspelt_28 rfl ?_
        refine jx_iload_n h dX9_misspelt_31 rfl 2 rfl ?_
        refine jx_callVi [] h lc_111 (c_X1_isWritten hG N x2 s5) ml_X9_266 (Nat.le_of_ble_eq_true rfl) (Nat.le_of_ble_eq_true rfl) dX9_misspelt_32 (Nat.le_of_ble_eq_true rfl) rfl (fun r8 s7 => ?_)
        refine jx_if_eq (tgt := 50) h dX9_misspelt_35 rfl ?_ ?_
        · refine jx_bipush h dX9_misspelt_50 kb_m2 ?_
          exact jx_iret h dX9_misspelt_52
        · refine jx_aload_n h dX9_misspelt_38 rfl 0 rfl ?_
          refine jx_get (v := .ref (Ga G 111)) h fa_X9_60 lc_0 dX9_misspelt_39 rfl ?_
          refine jx_iload_n h dX9_misspelt_42 rfl 1 rfl ?_
          refine jx_iload_n h dX9_misspelt_43 rfl 2 rfl ?_
          refine jx_callVi [] h lc_111 (c_X1_partAt hG N x1 x2 s7) ml_X9_281 (Nat.le_of_ble_eq_true rfl) (Nat.le_of_ble_eq_true rfl) dX9_misspelt_44 (Nat.le_of_ble_eq_true rfl) rfl (fun r10 s9 => ?_)
          refine jx_goto (tgt := 52) h dX9_misspelt_47 rfl ?_
          exact jx_iret h dX9_misspelt_52
    · refine jx_iconst h dX9_misspelt_14 ki_m1 ?_
      exact jx_iret h dX9_misspelt_15
noncomputable def f_X9_bids (N : Nat) (x1 : Int32) (x2 : Int32) (x3 : Int32) (s : Mem) : Option (Int32 × Mem) :=
  bd (f_X9_isWithin N x2 0 255 s) (fun r2 s1 => if r2 = 0 then (some ((-1), s1)) else bd (f_X9_isWithin N x3 0 1 s1) (fun r4 s3 => if r4 = 0 then (some ((-1), s3)) else bd (f_X8_has N x1 1 12 s3) (fun r6 s5 => if r6 = 0 then (some ((-1), s5)) else bd (f_X8_take N s5) (fun r8 s7 => ckc (isAr r8) (bd (f_X5_winner N r8 x1 s7) (fun r10 s9 => if r10 < 0 then (some ((-2), s9)) else chk r10 (lenC r8) (if x2 ≤ (gi s9 r8 (ix r10)) then (if x3 = 0 then (some (r10, s9)) else bd (f_X5_price N r8 x1 r10 x2 s9) (fun r12 s11 => some (r12, s11))) else some ((-2), s9))))))))
set_option maxRecDepth 20000 in
theorem c_X9_bids {G : Gx} (hG : Gok G ∧ IsG G layC fsoC) (N : Nat) (x1 : Int32) (x2 : Int32) (x3 : Int32) (s : Mem) : Ct G yX9_bids cX9_bids 6 (some .int) 2 [.ref (Ga G 0), .int x1, .int x2, .int x3] tvI s (f_X9_bids N x1 x2 x3 s) := by
  refine Ct.of hG (by decide) (Nat.le_of_ble_eq_true rfl) (fun P h => ?_)
  show P _ 0 [(0, .ref (Ga G 0)), (1, .int x1), (2, .int x2), (3, .int x3)] [] s
  unfold f_X9_bids
  refine jx_iload_n h dX9_bids_0 rfl 2 rfl ?_
  refine jx_iconst h dX9_bids_1 ki_0 ?_
  refine jx_sipush h dX9_bids_2 ks_255 ?_
  refine jx_callSi [] h (c_X9_isWithin hG N x2 0 255 s) ml_X9_78 (Nat.le_of_ble_eq_true rfl) (Nat.le_of_ble_eq_true rfl) dX9_bids_5 (Nat.le_of_ble_eq_true rfl) rfl (fun r2 s1 => ?_)
  refine jx_if_eq (tgt := 34) h dX9_bids_8 rfl ?_ ?_
  · refine jx_iconst h dX9_bids_34 ki_m1 ?_
    exact jx_iret h dX9_bids_35
  · refine jx_iload_n h dX9_bids_11 rfl 3 rfl ?_
    refine jx_iconst h dX9_bids_12 ki_0 ?_
    refine jx_iconst h dX9_bids_13 ki_1 ?_
    refine jx_callSi [] h (c_X9_isWithin hG N x3 0 1 s1) ml_X9_78 (Nat.le_of_ble_eq_true rfl) (Nat.le_of_ble_eq_true rfl) dX9_bids_14 (Nat.le_of_ble_eq_true rfl) rfl (fun r4 s3 => ?_)
    refine jx_if_eq (tgt := 34) h dX9_bids_17 rfl ?_ ?_
    · refine jx_iconst h dX9_bids_34 ki_m1 ?_
      exact jx_iret h dX9_bids_35
    · refine jx_aload_n h dX9_bids_20 rfl 0 rfl ?_
      refine jx_get (v := .ref (Ga G 1)) h fa_X9_10 lc_0 dX9_bids_21 rfl ?_
      refine jx_iload_n h dX9_bids_24 rfl 1 rfl ?_
      refine jx_iconst h dX9_bids_25 ki_1 ?_
      refine jx_bipush h dX9_bids_26 kb_12 ?_
      refine jx_callVi [] h lc_1 (c_X8_has hG N x1 1 12 s3) ml_X9_115 (Nat.le_of_ble_eq_true rfl) (Nat.le_of_ble_eq_true rfl) dX9_bids_28 (Nat.le_of_ble_eq_true rfl) rfl (fun r6 s5 => ?_)
      refine jx_if_ne (tgt := 36) h dX9_bids_31 rfl ?_ ?_
      · refine jx_aload_n h dX9_bids_36 rfl 0 rfl ?_
        refine jx_get (v := .ref (Ga G 1)) h fa_X9_10 lc_0 dX9_bids_37 rfl ?_
        refine jx_callVr [] h lc_1 (c_X8_take hG N  s5) ml_X9_118 (Nat.le_of_ble_eq_true rfl) (Nat.le_of_ble_eq_true rfl) dX9_bids_40 (Nat.le_of_ble_eq_true rfl) rfl (fun r8 s7 => ?_)
        refine jx_ckc h (fun hr8 => ?_)
        refine jx_astore (lv' := [(4, .ref (Ga G r8)), (0, .ref (Ga G 0)), (1, .int x1), (2, .int x2), (3, .int x3)]) h dX9_bids_43 (Nat.le_of_ble_eq_true rfl) rfl ?_
        refine jx_aload_n h dX9_bids_45 rfl 1 rfl ?_
        refine jx_get (v := .ref (Ga G 122)) h fa_X9_67 lc_0 dX9_bids_46 rfl ?_
        refine jx_aload h dX9_bids_49 0 rfl ?_
        refine jx_iload_n h dX9_bids_51 rfl 2 rfl ?_
        refine jx_callVi [] h lc_122 (c_X5_winner hG N r8 hr8 x1 s7) ml_X9_284 (Nat.le_of_ble_eq_true rfl) (Nat.le_of_ble_eq_true rfl) dX9_bids_52 (Nat.le_of_ble_eq_true rfl) rfl (fun r10 s9 => ?_)
        refine jx_istore (lv' := [(5, .int r10), (4, .ref (Ga G r8)), (0, .ref (Ga G 0)), (1, .int x1), (2, .int x2), (3, .int x3)]) h dX9_bids_55 (Nat.le_of_ble_eq_true rfl) rfl ?_
        refine jx_iload h dX9_bids_57 0 rfl ?_
        refine jx_if_lt (tgt := 71) h dX9_bids_59 rfl ?_ ?_
        · refine jx_bipush h dX9_bids_71 kb_m2 ?_
          exact jx_iret h dX9_bids_73
        · refine jx_aload h dX9_bids_62 1 rfl ?_
          refine jx_iload h dX9_bids_64 0 rfl ?_
          refine jx_iaload h (isAr_0 hr8) dX9_bids_66 ?_
          refine jx_iload_n h dX9_bids_67 rfl 4 rfl ?_
          refine jx_icmp_ge (tgt := 74) h dX9_bids_68 rfl ?_ ?_
          · refine jx_iload_n h dX9_bids_74 rfl 5 rfl ?_
            refine jx_if_ne (tgt := 83) h dX9_bids_75 rfl ?_ ?_
            · refine jx_aload_n h dX9_bids_83 rfl 2 rfl ?_
              refine jx_get (v := .ref (Ga G 122)) h fa_X9_67 lc_0 dX9_bids_84 rfl ?_
              refine jx_aload h dX9_bids_87 1 rfl ?_
              refine jx_iload_n h dX9_bids_89 rfl 3 rfl ?_
              refine jx_iload h dX9_bids_90 0 rfl ?_
              refine jx_iload_n h dX9_bids_92 rfl 4 rfl ?_
              refine jx_callVi [] h lc_122 (c_X5_price hG N r8 hr8 x1 r10 x2 s9) ml_X9_287 (Nat.le_of_ble_eq_true rfl) (Nat.le_of_ble_eq_true rfl) dX9_bids_93 (Nat.le_of_ble_eq_true rfl) rfl (fun r12 s11 => ?_)
              exact jx_iret h dX9_bids_96
            · refine jx_iload h dX9_bids_78 0 rfl ?_
              refine jx_goto (tgt := 96) h dX9_bids_80 rfl ?_
              exact jx_iret h dX9_bids_96
          · refine jx_bipush h dX9_bids_71 kb_m2 ?_
            exact jx_iret h dX9_bids_73
      · refine jx_iconst h dX9_bids_34 ki_m1 ?_
        exact jx_iret h dX9_bids_35
noncomputable def f_X9_divided (N : Nat) (x1 : Int32) (x2 : Int32) (x3 : Int32) (x4 : Int32) (s : Mem) : Option (Int32 × Mem) :=
  bd (f_X9_isWithin N x1 1 8 s) (fun r2 s1 => if r2 = 0 then (some ((-1), s1)) else bd (f_X9_isWithin N x2 0 9999 s1) (fun r4 s3 => if r4 = 0 then (some ((-1), s3)) else bd (f_X9_isWithin N x3 0 2 s3) (fun r6 s5 => if r6 = 0 then (some ((-1), s5)) else bd (f_X9_isWithin N x4 0 (x1 - 1) s5) (fun r8 s7 => if r8 = 0 then (some ((-1), s7)) else bd (f_X8_has N ((2 : Int32) * x1) 2 ((2 : Int32) * x1) s7) (fun r10 s9 => if r10 = 0 then (some ((-1), s9)) else bd (f_X8_take N s9) (fun r12 s11 => ckc (isAr r12) (bd (f_X5_takeLosses N r12 x1 s11) (fun r14 s13 => if r14 = 0 then (some ((-2), s13)) else bd (f_X5_divide N x1 x2 x3 s13) (fun _ s15 => chk x4 8 (some (gi s15 125 (ix x4), s15)))))))))))
set_option maxRecDepth 20000 in
theorem c_X9_divided {G : Gx} (hG : Gok G ∧ IsG G layC fsoC) (N : Nat) (x1 : Int32) (x2 : Int32) (x3 : Int32) (x4 : Int32) (s : Mem) : Ct G yX9_divided cX9_divided 5 (some .int) 5 [.ref (Ga G 0), .int x1, .int x2, .int x3, .int x4] tvI s (f_X9_divided N x1 x2 x3 x4 s) := by
  refine Ct.of hG (by decide) (Nat.le_of_ble_eq_true rfl) (fun P h => ?_)
  show P _ 0 [(0, .ref (Ga G 0)), (1, .int x1), (2, .int x2), (3, .int x3), (4, .int x4)] [] s
  unfold f_X9_divided
  refine jx_iload_n h dX9_divided_0 rfl 1 rfl ?_
  refine jx_iconst h dX9_divided_1 ki_1 ?_
  refine jx_bipush h dX9_divided_2 kb_8 ?_
  refine jx_callSi [] h (c_X9_isWithin hG N x1 1 8 s) ml_X9_78 (Nat.le_of_ble_eq_true rfl) (Nat.le_of_ble_eq_true rfl) dX9_divided_4 (Nat.le_of_ble_eq_true rfl) rfl (fun r2 s1 => ?_)
  refine jx_if_eq (tgt := 21) h dX9_divided_7 rfl ?_ ?_
  · refine jx_iconst h dX9_divided_21 ki_m1 ?_
    exact jx_iret h dX9_divided_22
  · refine jx_iload_n h dX9_divided_10 rfl 2 rfl ?_
    refine jx_iconst h dX9_divided_11 ki_0 ?_
    refine jx_sipush h dX9_divided_12 ks_9999 ?_
    refine jx_callSi [] h (c_X9_isWithin hG N x2 0 9999 s1) ml_X9_78 (Nat.le_of_ble_eq_true rfl) (Nat.le_of_ble_eq_true rfl) dX9_divided_15 (Nat.le_of_ble_eq_true rfl) rfl (fun r4 s3 => ?_)
    refine jx_if_ne (tgt := 23) h dX9_divided_18 rfl ?_ ?_
    · refine jx_iload_n h dX9_divided_23 rfl 3 rfl ?_
      refine jx_iconst h dX9_divided_24 ki_0 ?_
      refine jx_iconst h dX9_divided_25 ki_2 ?_
      refine jx_callSi [] h (c_X9_isWithin hG N x3 0 2 s3) ml_X9_78 (Nat.le_of_ble_eq_true rfl) (Nat.le_of_ble_eq_true rfl) dX9_divided_26 (Nat.le_of_ble_eq_true rfl) rfl (fun r6 s5 => ?_)
      refine jx_if_eq (tgt := 61) h dX9_divided_29 rfl ?_ ?_
      · refine jx_iconst h dX9_divided_61 ki_m1 ?_
        exact jx_iret h dX9_divided_62
      · refine jx_iload h dX9_divided_32 4 rfl ?_
        refine jx_iconst h dX9_divided_34 ki_0 ?_
        refine jx_iload_n h dX9_divided_35 rfl 1 rfl ?_
        refine jx_iconst h dX9_divided_36 ki_1 ?_
        refine jx_isub h dX9_divided_37 ?_
        refine jx_callSi [] h (c_X9_isWithin hG N x4 0 (x1 - 1) s5) ml_X9_78 (Nat.le_of_ble_eq_true rfl) (Nat.le_of_ble_eq_true rfl) dX9_divided_38 (Nat.le_of_ble_eq_true rfl) rfl (fun r8 s7 => ?_)
        refine jx_if_eq (tgt := 61) h dX9_divided_41 rfl ?_ ?_
        · refine jx_iconst h dX9_divided_61 ki_m1 ?_
          exact jx_iret h dX9_divided_62
        · refine jx_aload_n h dX9_divided_44 rfl 0 rfl ?_
          refine jx_get (v := .ref (Ga G 1)) h fa_X9_10 lc_0 dX9_divided_45 rfl ?_
          refine jx_iconst h dX9_divided_48 ki_2 ?_
          refine jx_iload_n h dX9_divided_49 rfl 1 rfl ?_
          refine jx_imul h dX9_divided_50 ?_
          refine jx_iconst h dX9_divided_51 ki_2 ?_
          refine jx_iconst h dX9_divided_52 ki_2 ?_
          refine jx_iload_n h dX9_divided_53 rfl 1 rfl ?_
          refine jx_imul h dX9_divided_54 ?_
          refine jx_callVi [] h lc_1 (c_X8_has hG N ((2 : Int32) * x1) 2 ((2 : Int32) * x1) s7) ml_X9_115 (Nat.le_of_ble_eq_true rfl) (Nat.le_of_ble_eq_true rfl) dX9_divided_55 (Nat.le_of_ble_eq_true rfl) rfl (fun r10 s9 => ?_)
          refine jx_if_ne (tgt := 63) h dX9_divided_58 rfl ?_ ?_
          · refine jx_aload_n h dX9_divided_63 rfl 0 rfl ?_
            refine jx_get (v := .ref (Ga G 122)) h fa_X9_67 lc_0 dX9_divided_64 rfl ?_
            refine jx_aload_n h dX9_divided_67 rfl 0 rfl ?_
            refine jx_get (v := .ref (Ga G 1)) h fa_X9_10 lc_0 dX9_divided_68 rfl ?_
            refine jx_callVr [.ref (Ga G 122)] h lc_1 (c_X8_take hG N  s9) ml_X9_118 (Nat.le_of_ble_eq_true rfl) (Nat.le_of_ble_eq_true rfl) dX9_divided_71 (Nat.le_of_ble_eq_true rfl) rfl (fun r12 s11 => ?_)
            refine jx_ckc h (fun hr12 => ?_)
            refine jx_iload_n h dX9_divided_74 rfl 1 rfl ?_
            refine jx_callVi [] h lc_122 (c_X5_takeLosses hG N r12 hr12 x1 s11) ml_X9_290 (Nat.le_of_ble_eq_true rfl) (Nat.le_of_ble_eq_true rfl) dX9_divided_75 (Nat.le_of_ble_eq_true rfl) rfl (fun r14 s13 => ?_)
            refine jx_if_ne (tgt := 84) h dX9_divided_78 rfl ?_ ?_
            · refine jx_aload_n h dX9_divided_84 rfl 0 rfl ?_
              refine jx_get (v := .ref (Ga G 122)) h fa_X9_67 lc_0 dX9_divided_85 rfl ?_
              refine jx_iload_n h dX9_divided_88 rfl 1 rfl ?_
              refine jx_iload_n h dX9_divided_89 rfl 2 rfl ?_
              refine jx_iload_n h dX9_divided_90 rfl 3 rfl ?_
              refine jx_callVv [] h lc_122 (c_X5_divide hG N x1 x2 x3 s13) ml_X9_294 (Nat.le_of_ble_eq_true rfl) (Nat.le_of_ble_eq_true rfl) dX9_divided_91 (Nat.le_of_ble_eq_true rfl) rfl (fun s15 => ?_)
              refine jx_aload_n h dX9_divided_94 rfl 0 rfl ?_
              refine jx_get (v := .ref (Ga G 122)) h fa_X9_67 lc_0 dX9_divided_95 rfl ?_
              refine jx_get (v := .ref (Ga G 125)) h fa_X9_297 lc_122 dX9_divided_98 rfl ?_
              refine jx_iload h dX9_divided_101 4 rfl ?_
              refine jx_iaload h lc_125 dX9_divided_103 ?_
              exact jx_iret h dX9_divided_104
            · refine jx_bipush h dX9_divided_81 kb_m2 ?_
              exact jx_iret h dX9_divided_83
          · refine jx_iconst h dX9_divided_61 ki_m1 ?_
            exact jx_iret h dX9_divided_62
    · refine jx_iconst h dX9_divided_21 ki_m1 ?_
      exact jx_iret h dX9_divided_22
noncomputable def f_X9_coins (N : Nat) (x1 : Int32) (x2 : Int32) (x3 : Int32) (s : Mem) : Option (Int32 × Mem) :=
  bd (f_X9_isWithin N x2 0 999 s) (fun r2 s1 => if r2 = 0 then (some ((-1), s1)) else bd (f_X9_isWithin N x3 0 2 s1) (fun r4 s3 => if r4 = 0 then (some ((-1), s3)) else bd (f_X8_has N x1 1 6 s3) (fun r6 s5 => if r6 = 0 then (some ((-1), s5)) else bd (f_X8_take N s5) (fun r8 s7 => ckc (isAr r8) (bd (f_X5_takeCoins N r8 x1 s7) (fun r10 s9 => if r10 = 0 then (some ((-3), s9)) else if x3 = 0 then (bd (f_X5_fewest N x2 s9) (fun r16 s15 => some (r16, s15))) else if x3 = 1 then (bd (f_X5_ways N x2 s9) (fun r14 s13 => some (r14, s13))) else bd (f_X5_greatestFirst N x2 s9) (fun r12 s11 => some (r12, s11))))))))
set_option maxRecDepth 20000 in
theorem c_X9_coins {G : Gx} (hG : Gok G ∧ IsG G layC fsoC) (N : Nat) (x1 : Int32) (x2 : Int32) (x3 : Int32) (s : Mem) : Ct G yX9_coins cX9_coins 4 (some .int) 3 [.ref (Ga G 0), .int x1, .int x2, .int x3] tvI s (f_X9_coins N x1 x2 x3 s) := by
  refine Ct.of hG (by decide) (Nat.le_of_ble_eq_true rfl) (fun P h => ?_)
  show P _ 0 [(0, .ref (Ga G 0)), (1, .int x1), (2, .int x2), (3, .int x3)] [] s
  unfold f_X9_coins
  refine jx_iload_n h dX9_coins_0 rfl 2 rfl ?_
  refine jx_iconst h dX9_coins_1 ki_0 ?_
  refine jx_sipush h dX9_coins_2 ks_999 ?_
  refine jx_callSi [] h (c_X9_isWithin hG N x2 0 999 s) ml_X9_78 (Nat.le_of_ble_eq_true rfl) (Nat.le_of_ble_eq_true rfl) dX9_coins_5 (Nat.le_of_ble_eq_true rfl) rfl (fun r2 s1 => ?_)
  refine jx_if_eq (tgt := 20) h dX9_coins_8 rfl ?_ ?_
  · refine jx_iconst h dX9_coins_20 ki_m1 ?_
    exact jx_iret h dX9_coins_21
  · refine jx_iload_n h dX9_coins_11 rfl 3 rfl ?_
    refine jx_iconst h dX9_coins_12 ki_0 ?_
    refine jx_iconst h dX9_coins_13 ki_2 ?_
    refine jx_callSi [] h (c_X9_isWithin hG N x3 0 2 s1) ml_X9_78 (Nat.le_of_ble_eq_true rfl) (Nat.le_of_ble_eq_true rfl) dX9_coins_14 (Nat.le_of_ble_eq_true rfl) rfl (fun r4 s3 => ?_)
    refine jx_if_ne (tgt := 22) h dX9_coins_17 rfl ?_ ?_
    · refine jx_aload_n h dX9_coins_22 rfl 0 rfl ?_
      refine jx_get (v := .ref (Ga G 1)) h fa_X9_10 lc_0 dX9_coins_23 rfl ?_
      refine jx_iload_n h dX9_coins_26 rfl 1 rfl ?_
      refine jx_iconst h dX9_coins_27 ki_1 ?_
      refine jx_bipush h dX9_coins_28 kb_6 ?_
      refine jx_callVi [] h lc_1 (c_X8_has hG N x1 1 6 s3) ml_X9_115 (Nat.le_of_ble_eq_true rfl) (Nat.le_of_ble_eq_true rfl) dX9_coins_30 (Nat.le_of_ble_eq_true rfl) rfl (fun r6 s5 => ?_)
      refine jx_if_ne (tgt := 38) h dX9_coins_33 rfl ?_ ?_
      · refine jx_aload_n h dX9_coins_38 rfl 0 rfl ?_
        refine jx_get (v := .ref (Ga G 122)) h fa_X9_67 lc_0 dX9_coins_39 rfl ?_
        refine jx_aload_n h dX9_coins_42 rfl 0 rfl ?_
        refine jx_get (v := .ref (Ga G 1)) h fa_X9_10 lc_0 dX9_coins_43 rfl ?_
        refine jx_callVr [.ref (Ga G 122)] h lc_1 (c_X8_take hG N  s5) ml_X9_118 (Nat.le_of_ble_eq_true rfl) (Nat.le_of_ble_eq_true rfl) dX9_coins_46 (Nat.le_of_ble_eq_true rfl) rfl (fun r8 s7 => ?_)
        refine jx_ckc h (fun hr8 => ?_)
        refine jx_iload_n h dX9_coins_49 rfl 1 rfl ?_
        refine jx_callVi [] h lc_122 (c_X5_takeCoins hG N r8 hr8 x1 s7) ml_X9_300 (Nat.le_of_ble_eq_true rfl) (Nat.le_of_ble_eq_true rfl) dX9_coins_50 (Nat.le_of_ble_eq_true rfl) rfl (fun r10 s9 => ?_)
        refine jx_if_ne (tgt := 59) h dX9_coins_53 rfl ?_ ?_
        · refine jx_iload_n h dX9_coins_59 rfl 3 rfl ?_
          refine jx_lookup (off := 28) (tgt := 88) h dX9_coins_60 (by decide) (by decide) rfl ?_ (fun n60_0 => ?_)
          · refine jx_aload_n h dX9_coins_88 rfl 0 rfl ?_
            refine jx_get (v := .ref (Ga G 122)) h fa_X9_67 lc_0 dX9_coins_89 rfl ?_
            refine jx_iload_n h dX9_coins_92 rfl 2 rfl ?_
            refine jx_callVi [] h lc_122 (c_X5_fewest hG N x2 s9) ml_X9_303 (Nat.le_of_ble_eq_true rfl) (Nat.le_of_ble_eq_true rfl) dX9_coins_93 (Nat.le_of_ble_eq_true rfl) rfl (fun r16 s15 => ?_)
            exact jx_iret h dX9_coins_96
          · refine jx_lookup (off := 37) (tgt := 97) h dX9_coins_60 (by decide) (by decide) rfl ?_ (fun n60_1 => ?_)
            · refine jx_aload_n h dX9_coins_97 rfl 0 rfl ?_
              refine jx_get (v := .ref (Ga G 122)) h fa_X9_67 lc_0 dX9_coins_98 rfl ?_
              refine jx_iload_n h dX9_coins_101 rfl 2 rfl ?_
              refine jx_callVi [] h lc_122 (c_X5_ways hG N x2 s9) ml_X9_306 (Nat.le_of_ble_eq_true rfl) (Nat.le_of_ble_eq_true rfl) dX9_coins_102 (Nat.le_of_ble_eq_true rfl) rfl (fun r14 s13 => ?_)
              exact jx_iret h dX9_coins_105
            · refine jx_lookdef (tgt := 106) h dX9_coins_60 (by decide) (by have a0 := i32ne n60_0 (k := 0) rfl; have a1 := i32ne n60_1 (k := 1) rfl; simp [Op.lookupswitch.offset, List.find?, a0, a0.symm, a1, a1.symm]) rfl ?_
              refine jx_aload_n h dX9_coins_106 rfl 0 rfl ?_
              refine jx_get (v := .ref (Ga G 122)) h fa_X9_67 lc_0 dX9_coins_107 rfl ?_
              refine jx_iload_n h dX9_coins_110 rfl 2 rfl ?_
              refine jx_callVi [] h lc_122 (c_X5_greatestFirst hG N x2 s9) ml_X9_309 (Nat.le_of_ble_eq_true rfl) (Nat.le_of_ble_eq_true rfl) dX9_coins_111 (Nat.le_of_ble_eq_true rfl) rfl (fun r12 s11 => ?_)
              exact jx_iret h dX9_coins_114
        · refine jx_bipush h dX9_coins_56 kb_m3 ?_
          exact jx_iret h dX9_coins_58
      · refine jx_iconst h dX9_coins_36 ki_m1 ?_
        exact jx_iret h dX9_coins_37
    · refine jx_iconst h dX9_coins_20 ki_m1 ?_
      exact jx_iret h dX9_coins_21
noncomputable def f_X9_lent (N : Nat) (x1 : Int32) (x2 : Int32) (x3 : Int32) (s : Mem) : Option (Int32 × Mem) :=
  bd (f_X0_isTold N 32 x1 s) (fun r2 s1 => if r2 = 0 then (some ((-1), s1)) else bd (f_X9_isWithin N x2 1 60 s1) (fun r4 s3 => if r4 = 0 then (some ((-1), s3)) else bd (f_X9_isWithin N x3 0 10 s3) (fun r6 s5 => if r6 = 0 then (some ((-1), s5)) else bd (f_X0_copy N 62 32 s5) (fun _ s7 => lt (ix (gi s7 0 10)) (fun q9 => ckc (isLw q9) (bd (f_X0_pass N 62 x2 q9 s7) (fun _ s10 => chk x1 6 (lt (((gi s10 66 (ix x1)) * 2) / 3) (fun v12 => lt ((((v12 * x3) * x2) + 99) / 100) (fun v13 => some (imax 0 (v12 - v13), s10)))))))))))
set_option maxRecDepth 20000 in
theorem c_X9_lent {G : Gx} (hG : Gok G ∧ IsG G layC fsoC) (N : Nat) (x1 : Int32) (x2 : Int32) (x3 : Int32) (s : Mem) : Ct G yX9_lent cX9_lent 6 (some .int) 6 [.ref (Ga G 0), .int x1, .int x2, .int x3] tvI s (f_X9_lent N x1 x2 x3 s) := by
  refine Ct.of hG (by decide) (Nat.le_of_ble_eq_true rfl) (fun P h => ?_)
  show P _ 0 [(0, .ref (Ga G 0)), (1, .int x1), (2, .int x2), (3, .int x3)] [] s
  unfold f_X9_lent
  refine jx_aload_n h dX9_lent_0 rfl 0 rfl ?_
  refine jx_get (v := .ref (Ga G 32)) h fa_X9_26 lc_0 dX9_lent_1 rfl ?_
  refine jx_iload_n h dX9_lent_4 rfl 1 rfl ?_
  refine jx_callVi [] h lc_32 (c_X0_isTold hG N 32 rfl x1 s) ml_X9_164 (Nat.le_of_ble_eq_true rfl) (Nat.le_of_ble_eq_true rfl) dX9_lent_5 (Nat.le_of_ble_eq_true rfl) rfl (fun r2 s1 => ?_)
  refine jx_if_eq (tgt := 31) h dX9_lent_8 rfl ?_ ?_
  · refine jx_iconst h dX9_lent_31 ki_m1 ?_
    exact jx_iret h dX9_lent_32
  · refine jx_iload_n h dX9_lent_11 rfl 2 rfl ?_
    refine jx_iconst h dX9_lent_12 ki_1 ?_
    refine jx_bipush h dX9_lent_13 kb_60 ?_
    refine jx_callSi [] h (c_X9_isWithin hG N x2 1 60 s1) ml_X9_78 (Nat.le_of_ble_eq_true rfl) (Nat.le_of_ble_eq_true rfl) dX9_lent_15 (Nat.le_of_ble_eq_true rfl) rfl (fun r4 s3 => ?_)
    refine jx_if_eq (tgt := 31) h dX9_lent_18 rfl ?_ ?_
    · refine jx_iconst h dX9_lent_31 ki_m1 ?_
      exact jx_iret h dX9_lent_32
    · refine jx_iload_n h dX9_lent_21 rfl 3 rfl ?_
      refine jx_iconst h dX9_lent_22 ki_0 ?_
      refine jx_bipush h dX9_lent_23 kb_10 ?_
      refine jx_callSi [] h (c_X9_isWithin hG N x3 0 10 s3) ml_X9_78 (Nat.le_of_ble_eq_true rfl) (Nat.le_of_ble_eq_true rfl) dX9_lent_25 (Nat.le_of_ble_eq_true rfl) rfl (fun r6 s5 => ?_)
      refine jx_if_ne (tgt := 33) h dX9_lent_28 rfl ?_ ?_
      · refine jx_aload_n h dX9_lent_33 rfl 0 rfl ?_
        refine jx_get (v := .ref (Ga G 62)) h fa_X9_33 lc_0 dX9_lent_34 rfl ?_
        refine jx_aload_n h dX9_lent_37 rfl 0 rfl ?_
        refine jx_get (v := .ref (Ga G 32)) h fa_X9_26 lc_0 dX9_lent_38 rfl ?_
        refine jx_callVv [] h lc_62 (c_X0_copy hG N 62 rfl 32 rfl s5) ml_X9_165 (Nat.le_of_ble_eq_true rfl) (Nat.le_of_ble_eq_true rfl) dX9_lent_41 (Nat.le_of_ble_eq_true rfl) rfl (fun s7 => ?_)
        refine jx_aload_n h dX9_lent_44 rfl 0 rfl ?_
        refine jx_get (v := .ref (Ga G 62)) h fa_X9_33 lc_0 dX9_lent_45 rfl ?_
        refine jx_iload_n h dX9_lent_48 rfl 2 rfl ?_
        refine jx_aload_n h dX9_lent_49 rfl 0 rfl ?_
        refine jx_get (v := .ref (Ga G 3)) h fa_X9_19 lc_0 dX9_lent_50 rfl ?_
        refine jx_aload_n h dX9_lent_53 rfl 0 rfl ?_
        refine jx_get (v := .ref (Ga G (ix (gi s7 0 10)))) h fa_X9_74 lc_0 dX9_lent_54 rfl ?_
        refine jx_ltr (fun q9 => ?_)
        refine jx_ckc h (fun hq9 => ?_)
        refine jx_callVv [] h lc_62 (c_X0_pass hG N 62 rfl x2 q9 hq9 s7) ml_X9_157 (Nat.le_of_ble_eq_true rfl) (Nat.le_of_ble_eq_true rfl) dX9_lent_57 (Nat.le_of_ble_eq_true rfl) rfl (fun s10 => ?_)
        refine jx_aload_n h dX9_lent_60 rfl 0 rfl ?_
        refine jx_get (v := .ref (Ga G 62)) h fa_X9_33 lc_0 dX9_lent_61 rfl ?_
        refine jx_get (v := .ref (Ga G 66)) h fa_X9_199 lc_62 dX9_lent_64 rfl ?_
        refine jx_iload_n h dX9_lent_67 rfl 1 rfl ?_
        refine jx_iaload h lc_66 dX9_lent_68 ?_
        refine jx_iconst h dX9_lent_69 ki_2 ?_
        refine jx_imul h dX9_lent_70 ?_
        refine jx_iconst h dX9_lent_71 ki_3 ?_
        refine jx_idivc h (by decide) dX9_lent_72 ?_
        refine jx_lti (fun v12 => ?_)
        refine jx_istore (lv' := [(4, .int v12), (0, .ref (Ga G 0)), (1, .int x1), (2, .int x2), (3, .int x3)]) h dX9_lent_73 (Nat.le_of_ble_eq_true rfl) rfl ?_
        refine jx_iload h dX9_lent_75 0 rfl ?_
        refine jx_iload_n h dX9_lent_77 rfl 4 rfl ?_
        refine jx_imul h dX9_lent_78 ?_
        refine jx_iload_n h dX9_lent_79 rfl 3 rfl ?_
        refine jx_imul h dX9_lent_80 ?_
        refine jx_bipush h dX9_lent_81 kb_99 ?_
        refine jx_iadd h dX9_lent_83 ?_
        refine jx_bipush h dX9_lent_84 kb_100 ?_
        refine jx_idivc h (by decide) dX9_lent_86 ?_
        refine jx_lti (fun v13 => ?_)
        refine jx_istore (lv' := [(5, .int v13), (4, .int v12), (0, .ref (Ga G 0)), (1, .int x1), (2, .int x2), (3, .int x3)]) h dX9_lent_87 (Nat.le_of_ble_eq_true rfl) rfl ?_
        refine jx_iconst h dX9_lent_89 ki_0 ?_
        refine jx_iload h dX9_lent_90 1 rfl ?_
        refine jx_iload h dX9_lent_92 0 rfl ?_
        refine jx_isub h dX9_lent_94 ?_
        refine jx_mmax h mm_X9_312 (Nat.le_of_ble_eq_true rfl) (Nat.le_of_ble_eq_true rfl) dX9_lent_95 ?_
        exact jx_iret h dX9_lent_98
      · refine jx_iconst h dX9_lent_31 ki_m1 ?_
        exact jx_iret h dX9_lent_32
noncomputable def f_X9_seed (N : Nat) (x1 : Int32) (s : Mem) : Option (Int32 × Mem) :=
  bd (f_X9_isWithin N x1 0 65535 s) (fun r2 s1 => if r2 = 0 then (some (0, s1)) else lt (si s1 32 13 x1) (fun s3 => some (1, s3)))
set_option maxRecDepth 20000 in
theorem c_X9_seed {G : Gx} (hG : Gok G ∧ IsG G layC fsoC) (N : Nat) (x1 : Int32) (s : Mem) : Ct G yX9_seed cX9_seed 2 (some .boolean) 1 [.ref (Ga G 0), .int x1] tvI s (f_X9_seed N x1 s) := by
  refine Ct.of hG (by decide) (Nat.le_of_ble_eq_true rfl) (fun P h => ?_)
  show P _ 0 [(0, .ref (Ga G 0)), (1, .int x1)] [] s
  unfold f_X9_seed
  refine jx_iload_n h dX9_seed_0 rfl 1 rfl ?_
  refine jx_iconst h dX9_seed_1 ki_0 ?_
  refine jx_ldcw h dX9_seed_2 kw_X9_317 ?_
  refine jx_callSi [] h (c_X9_isWithin hG N x1 0 65535 s) ml_X9_78 (Nat.le_of_ble_eq_true rfl) (Nat.le_of_ble_eq_true rfl) dX9_seed_5 (Nat.le_of_ble_eq_true rfl) rfl (fun r2 s1 => ?_)
  refine jx_if_ne (tgt := 13) h dX9_seed_8 rfl ?_ ?_
  · refine jx_aload_n h dX9_seed_13 rfl 0 rfl ?_
    refine jx_get (v := .ref (Ga G 32)) h fa_X9_26 lc_0 dX9_seed_14 rfl ?_
    refine jx_iload_n h dX9_seed_17 rfl 1 rfl ?_
    refine jx_put h fa_X9_318 fp_X0_13 lc_32 rfl rfl dX9_seed_18 (fu_X0_13 _ _ _ _) (fun s3 => ?_)
    refine jx_iconst h dX9_seed_21 ki_1 ?_
    exact jx_zret h rfl dX9_seed_22
  · refine jx_iconst h dX9_seed_11 ki_0 ?_
    exact jx_zret h rfl dX9_seed_12
noncomputable def f_X9_keep (N : Nat)  (s : Mem) : Option (Int32 × Mem) :=
  bd (f_X0_copy N 47 32 s) (fun _ s1 => lt (si s1 0 11 1) (fun s3 => some (gi s3 32 11, s3)))
set_option maxRecDepth 20000 in
theorem c_X9_keep {G : Gx} (hG : Gok G ∧ IsG G layC fsoC) (N : Nat)  (s : Mem) : Ct G yX9_keep cX9_keep 1 (some .int) 2 [.ref (Ga G 0)] tvI s (f_X9_keep N s) := by
  refine Ct.of hG (by decide) (Nat.le_of_ble_eq_true rfl) (fun P h => ?_)
  show P _ 0 [(0, .ref (Ga G 0))] [] s
  unfold f_X9_keep
  refine jx_aload_n h dX9_keep_0 rfl 0 rfl ?_
  refine jx_get (v := .ref (Ga G 47)) h fa_X9_30 lc_0 dX9_keep_1 rfl ?_
  refine jx_aload_n h dX9_keep_4 rfl 0 rfl ?_
  refine jx_get (v := .ref (Ga G 32)) h fa_X9_26 lc_0 dX9_keep_5 rfl ?_
  refine jx_callVv [] h lc_47 (c_X0_copy hG N 47 rfl 32 rfl s) ml_X9_165 (Nat.le_of_ble_eq_true rfl) (Nat.le_of_ble_eq_true rfl) dX9_keep_8 (Nat.le_of_ble_eq_true rfl) rfl (fun s1 => ?_)
  refine jx_aload_n h dX9_keep_11 rfl 0 rfl ?_
  refine jx_iconst h dX9_keep_12 ki_1 ?_
  refine jx_put h fa_X9_321 fp_X9_11 lc_0 (by decide) rfl dX9_keep_13 (fu_X9_11 _ _ _ _) (fun s3 => ?_)
  refine jx_aload_n h dX9_keep_16 rfl 0 rfl ?_
  refine jx_get (v := .ref (Ga G 32)) h fa_X9_26 lc_0 dX9_keep_17 rfl ?_
  refine jx_get (v := .int (gi s3 32 11)) h fa_X9_325 lc_32 dX9_keep_20 rfl ?_
  exact jx_iret h dX9_keep_23
noncomputable def f_X9_undo (N : Nat)  (s : Mem) : Option (Int32 × Mem) :=
  if (gi s 0 11) = 0 then (some (0, s)) else bd (f_X0_copy N 32 47 s) (fun _ s1 => some (1, s1))
set_option maxRecDepth 20000 in
theorem c_X9_undo {G : Gx} (hG : Gok G ∧ IsG G layC fsoC) (N : Nat)  (s : Mem) : Ct G yX9_undo cX9_undo 1 (some .boolean) 2 [.ref (Ga G 0)] tvI s (f_X9_undo N s) := by
  refine Ct.of hG (by decide) (Nat.le_of_ble_eq_true rfl) (fun P h => ?_)
  show P _ 0 [(0, .ref (Ga G 0))] [] s
  unfold f_X9_undo
  refine jx_aload_n h dX9_undo_0 rfl 0 rfl ?_
  refine jx_get (v := .int (gi s 0 11)) h fa_X9_321 lc_0 dX9_undo_1 rfl ?_
  refine jx_if_ne (tgt := 9) h dX9_undo_4 rfl ?_ ?_
  · refine jx_aload_n h dX9_undo_9 rfl 0 rfl ?_
    refine jx_get (v := .ref (Ga G 32)) h fa_X9_26 lc_0 dX9_undo_10 rfl ?_
    refine jx_aload_n h dX9_undo_13 rfl 0 rfl ?_
    refine jx_get (v := .ref (Ga G 47)) h fa_X9_30 lc_0 dX9_undo_14 rfl ?_
    refine jx_callVv [] h lc_32 (c_X0_copy hG N 32 rfl 47 rfl s) ml_X9_165 (Nat.le_of_ble_eq_true rfl) (Nat.le_of_ble_eq_true rfl) dX9_undo_17 (Nat.le_of_ble_eq_true rfl) rfl (fun s1 => ?_)
    refine jx_iconst h dX9_undo_20 ki_1 ?_
    exact jx_zret h rfl dX9_undo_21
  · refine jx_iconst h dX9_undo_7 ki_0 ?_
    exact jx_zret h rfl dX9_undo_8
noncomputable def st_X9_check_27 (N : Nat) (x1 : Int32) (x2 : Nat)  (rec : Int32 → Mem → Option (Int32 × Mem)) (x3 : Int32) (s0 : Mem) : Option (Int32 × Mem) :=
  if x1 ≤ x3 then (some ((-1), s0)) else if 12 ≤ x3 then (some ((-1), s0)) else chk x3 (lenC x2) (chk x3 12 (if (gi s0 x2 (ix x3)) = (gi s0 33 (ix x3)) then (lt (x3 + 1) (fun x3_5 => rec x3_5 s0)) else some (x3, s0)))
noncomputable def f_X9_check (N : Nat) (x1 : Int32) (s : Mem) : Option (Int32 × Mem) :=
  bd (f_X8_has N x1 0 12 s) (fun r2 s1 => if r2 = 0 then (some ((-2), s1)) else bd (f_X8_take N s1) (fun r4 s3 => ckc (isAr r4) (itr (fun _ _ => none) (st_X9_check_27 N x1 r4) N 0 s3)))
set_option maxRecDepth 20000 in
theorem w_X9_check_27 {G : Gx} (hG : Gok G ∧ IsG G layC fsoC) {P : Option (Int32 × Mem) → Nat → List (Nat × Value) → List Value → Mem → Prop} (h : Jk G layC fsoC RX9 cX9_check 4 (some .int) 2 tvI P) (N : Nat) (x1 : Int32) (x2 : Nat) (hx2 : isAr x2 = true) {rec : Int32 → Mem → Option (Int32 × Mem)} (ih : ∀ (x3 : Int32) (s : Mem), P (rec x3 s) 27 [(0, .ref (Ga G 0)), (1, .int x1), (2, .ref (Ga G x2)), (3, .int x3)] [] s) : ∀ (x3 : Int32) (s : Mem), P (st_X9_check_27 N x1 x2 rec x3 s) 27 [(0, .ref (Ga G 0)), (1, .int x1), (2, .ref (Ga G x2)), (3, .int x3)] [] s := by
  intro x3 s0
  unfold st_X9_check_27
  refine jx_iload_n h dX9_check_27 rfl 3 rfl ?_
  refine jx_iload_n h dX9_check_28 rfl 1 rfl ?_
  refine jx_icmp_ge (tgt := 61) h dX9_check_29 rfl ?_ ?_
  · refine jx_iconst h dX9_check_61 ki_m1 ?_
    exact jx_iret h dX9_check_62
  · refine jx_iload_n h dX9_check_32 rfl 3 rfl ?_
    refine jx_bipush h dX9_check_33 kb_12 ?_
    refine jx_icmp_ge (tgt := 61) h dX9_check_35 rfl ?_ ?_
    · refine jx_iconst h dX9_check_61 ki_m1 ?_
      exact jx_iret h dX9_check_62
    · refine jx_aload_n h dX9_check_38 rfl 2 rfl ?_
      refine jx_iload_n h dX9_check_39 rfl 3 rfl ?_
      refine jx_iaload h (isAr_0 hx2) dX9_check_40 ?_
      refine jx_aload_n h dX9_check_41 rfl 0 rfl ?_
      refine jx_get (v := .ref (Ga G 32)) h fa_X9_26 lc_0 dX9_check_42 rfl ?_
      refine jx_get (v := .ref (Ga G 33)) h fa_X9_86 lc_32 dX9_check_45 rfl ?_
      refine jx_iload_n h dX9_check_48 rfl 3 rfl ?_
      refine jx_iaload h lc_33 dX9_check_49 ?_
      refine jx_icmp_eq (tgt := 55) h dX9_check_50 rfl ?_ ?_
      · refine jx_iincl (L := fun w => [(3, .int w), (0, .ref (Ga G 0)), (1, .int x1), (2, .ref (Ga G x2))]) h dX9_check_55 3 rfl (kn_1 _) (Nat.le_of_ble_eq_true rfl) (fun _ => rfl) (fun x3_5 => ?_)
        refine jx_goto (tgt := 27) h dX9_check_58 rfl ?_
        exact jx_subk [1, 2, 3, 0] h (ih x3_5 s0) rfl
      · refine jx_iload_n h dX9_check_53 rfl 3 rfl ?_
        exact jx_iret h dX9_check_54
set_option maxRecDepth 20000 in
theorem c_X9_check {G : Gx} (hG : Gok G ∧ IsG G layC fsoC) (N : Nat) (x1 : Int32) (s : Mem) : Ct G yX9_check cX9_check 4 (some .int) 2 [.ref (Ga G 0), .int x1] tvI s (f_X9_check N x1 s) := by
  refine Ct.of hG (by decide) (Nat.le_of_ble_eq_true rfl) (fun P h => ?_)
  show P _ 0 [(0, .ref (Ga G 0)), (1, .int x1)] [] s
  unfold f_X9_check
  refine jx_aload_n h dX9_check_0 rfl 0 rfl ?_
  refine jx_get (v := .ref (Ga G 1)) h fa_X9_10 lc_0 dX9_check_1 rfl ?_
  refine jx_iload_n h dX9_check_4 rfl 1 rfl ?_
  refine jx_iconst h dX9_check_5 ki_0 ?_
  refine jx_bipush h dX9_check_6 kb_12 ?_
  refine jx_callVi [] h lc_1 (c_X8_has hG N x1 0 12 s) ml_X9_115 (Nat.le_of_ble_eq_true rfl) (Nat.le_of_ble_eq_true rfl) dX9_check_8 (Nat.le_of_ble_eq_true rfl) rfl (fun r2 s1 => ?_)
  refine jx_if_ne (tgt := 17) h dX9_check_11 rfl ?_ ?_
  · refine jx_aload_n h dX9_check_17 rfl 0 rfl ?_
    refine jx_get (v := .ref (Ga G 1)) h fa_X9_10 lc_0 dX9_check_18 rfl ?_
    refine jx_callVr [] h lc_1 (c_X8_take hG N  s1) ml_X9_118 (Nat.le_of_ble_eq_true rfl) (Nat.le_of_ble_eq_true rfl) dX9_check_21 (Nat.le_of_ble_eq_true rfl) rfl (fun r4 s3 => ?_)
    refine jx_ckc h (fun hr4 => ?_)
    refine jx_astore_n (lv' := [(2, .ref (Ga G r4)), (0, .ref (Ga G 0)), (1, .int x1)]) h dX9_check_24 rfl (Nat.le_of_ble_eq_true rfl) rfl ?_
    refine jx_iconst h dX9_check_25 ki_0 ?_
    refine jx_istore_n (lv' := [(3, .int 0), (2, .ref (Ga G r4)), (0, .ref (Ga G 0)), (1, .int x1)]) h dX9_check_26 rfl (Nat.le_of_ble_eq_true rfl) rfl ?_
    refine jx_subk [2, 3, 1, 0] h (itr_ind (Q := (fun (f : Int32 → Mem → Option (Int32 × Mem)) => ∀ (x3 : Int32) (s : Mem), P (f x3 s) 27 [(0, .ref (Ga G 0)), (1, .int x1), (2, .ref (Ga G r4)), (3, .int x3)] [] s)) (fun _ _ => jx_none h) (fun r27 ih27 => ?_) N 0 s3) rfl
    refine w_X9_check_27 hG h N x1 r4 hr4  ih27
  · refine jx_bipush h dX9_check_14 kb_m2 ?_
    exact jx_iret h dX9_check_16
noncomputable def f_X9_count (N : Nat) (x1 : Int32) (s : Mem) : Option (Int32 × Mem) :=
  if x1 = 0 then (some (gi s 32 11, s)) else if x1 = 1 then (some (gi s 32 12, s)) else if x1 = 2 then (some (gi s 32 10, s)) else if x1 = 3 then (some (gi s 3 0, s)) else if x1 = 4 then (some (gi s 32 1, s)) else if x1 = 5 then (some (gi s 32 2, s)) else if x1 = 6 then (lt (ix (gi s 0 10)) (fun q5 => ckc (isLw q5) (some (gi s q5 0, s)))) else if x1 = 7 then (some (gi s 1 1, s)) else if x1 = 8 then (some (gi s 32 13, s)) else if x1 = 9 then (bd (f_X1_written N s) (fun r4 s3 => some (r4, s3))) else bd (f_X1_isWritten N (x1 - 10) s) (fun r2 s1 => if r2 = 0 then (some ((-1), s1)) else chk (x1 - 10) 6 (some (gi s1 119 (ix (x1 - 10)), s1)))
set_option maxRecDepth 20000 in
theorem c_X9_count {G : Gx} (hG : Gok G ∧ IsG G layC fsoC) (N : Nat) (x1 : Int32) (s : Mem) : Ct G yX9_count cX9_count 2 (some .int) 4 [.ref (Ga G 0), .int x1] tvI s (f_X9_count N x1 s) := by
  refine Ct.of hG (by decide) (Nat.le_of_ble_eq_true rfl) (fun P h => ?_)
  show P _ 0 [(0, .ref (Ga G 0)), (1, .int x1)] [] s
  unfold f_X9_count
  refine jx_iload_n h dX9_count_0 rfl 1 rfl ?_
  refine jx_tcase (off := 55) (tgt := 56) h dX9_count_1 (by decide) (by decide) (by decide) rfl ?_ (fun n1_0 => ?_)
  · refine jx_aload_n h dX9_count_56 rfl 0 rfl ?_
    refine jx_get (v := .ref (Ga G 32)) h fa_X9_26 lc_0 dX9_count_57 rfl ?_
    refine jx_get (v := .int (gi s 32 11)) h fa_X9_325 lc_32 dX9_count_60 rfl ?_
    exact jx_iret h dX9_count_63
  · refine jx_tcase (off := 63) (tgt := 64) h dX9_count_1 (by decide) (by decide) (by decide) rfl ?_ (fun n1_1 => ?_)
    · refine jx_aload_n h dX9_count_64 rfl 0 rfl ?_
      refine jx_get (v := .ref (Ga G 32)) h fa_X9_26 lc_0 dX9_count_65 rfl ?_
      refine jx_get (v := .int (gi s 32 12)) h fa_X9_175 lc_32 dX9_count_68 rfl ?_
      exact jx_iret h dX9_count_71
    · refine jx_tcase (off := 71) (tgt := 72) h dX9_count_1 (by decide) (by decide) (by decide) rfl ?_ (fun n1_2 => ?_)
      · refine jx_aload_n h dX9_count_72 rfl 0 rfl ?_
        refine jx_get (v := .ref (Ga G 32)) h fa_X9_26 lc_0 dX9_count_73 rfl ?_
        refine jx_get (v := .int (gi s 32 10)) h fa_X9_172 lc_32 dX9_count_76 rfl ?_
        exact jx_iret h dX9_count_79
      · refine jx_tcase (off := 79) (tgt := 80) h dX9_count_1 (by decide) (by decide) (by decide) rfl ?_ (fun n1_3 => ?_)
        · refine jx_aload_n h dX9_count_80 rfl 0 rfl ?_
          refine jx_get (v := .ref (Ga G 3)) h fa_X9_19 lc_0 dX9_count_81 rfl ?_
          refine jx_get (v := .int (gi s 3 0)) h fa_X9_133 lc_3 dX9_count_84 rfl ?_
          exact jx_iret h dX9_count_87
        · refine jx_tcase (off := 87) (tgt := 88) h dX9_count_1 (by decide) (by decide) (by decide) rfl ?_ (fun n1_4 => ?_)
          · refine jx_aload_n h dX9_count_88 rfl 0 rfl ?_
            refine jx_get (v := .ref (Ga G 32)) h fa_X9_26 lc_0 dX9_count_89 rfl ?_
            refine jx_get (v := .int (gi s 32 1)) h fa_X9_130 lc_32 dX9_count_92 rfl ?_
            exact jx_iret h dX9_count_95
          · refine jx_tcase (off := 95) (tgt := 96) h dX9_count_1 (by decide) (by decide) (by decide) rfl ?_ (fun n1_5 => ?_)
            · refine jx_aload_n h dX9_count_96 rfl 0 rfl ?_
              refine jx_get (v := .ref (Ga G 32)) h fa_X9_26 lc_0 dX9_count_97 rfl ?_
              refine jx_get (v := .int (gi s 32 2)) h fa_X9_328 lc_32 dX9_count_100 rfl ?_
              exact jx_iret h dX9_count_103
            · refine jx_tcase (off := 103) (tgt := 104) h dX9_count_1 (by decide) (by decide) (by decide) rfl ?_ (fun n1_6 => ?_)
              · refine jx_aload_n h dX9_count_104 rfl 0 rfl ?_
                refine jx_get (v := .ref (Ga G (ix (gi s 0 10)))) h fa_X9_74 lc_0 dX9_count_105 rfl ?_
                refine jx_ltr (fun q5 => ?_)
                refine jx_ckc h (fun hq5 => ?_)
                refine jx_get (v := .int (gi s q5 0)) h fa_X9_331 (isLw_o hq5) dX9_count_108 rfl ?_
                exact jx_iret h dX9_count_111
              · refine jx_tcase (off := 111) (tgt := 112) h dX9_count_1 (by decide) (by decide) (by decide) rfl ?_ (fun n1_7 => ?_)
                · refine jx_aload_n h dX9_count_112 rfl 0 rfl ?_
                  refine jx_get (v := .ref (Ga G 1)) h fa_X9_10 lc_0 dX9_count_113 rfl ?_
                  refine jx_get (v := .int (gi s 1 1)) h fa_X9_111 lc_1 dX9_count_116 rfl ?_
                  exact jx_iret h dX9_count_119
                · refine jx_tcase (off := 119) (tgt := 120) h dX9_count_1 (by decide) (by decide) (by decide) rfl ?_ (fun n1_8 => ?_)
                  · refine jx_aload_n h dX9_count_120 rfl 0 rfl ?_
                    refine jx_get (v := .ref (Ga G 32)) h fa_X9_26 lc_0 dX9_count_121 rfl ?_
                    refine jx_get (v := .int (gi s 32 13)) h fa_X9_318 lc_32 dX9_count_124 rfl ?_
                    exact jx_iret h dX9_count_127
                  · refine jx_tcase (off := 127) (tgt := 128) h dX9_count_1 (by decide) (by decide) (by decide) rfl ?_ (fun n1_9 => ?_)
                    · refine jx_aload_n h dX9_count_128 rfl 0 rfl ?_
                      refine jx_get (v := .ref (Ga G 111)) h fa_X9_60 lc_0 dX9_count_129 rfl ?_
                      refine jx_callVi [] h lc_111 (c_X1_written hG N  s) ml_X9_334 (Nat.le_of_ble_eq_true rfl) (Nat.le_of_ble_eq_true rfl) dX9_count_132 (Nat.le_of_ble_eq_true rfl) rfl (fun r4 s3 => ?_)
                      exact jx_iret h dX9_count_135
                    · have hsw : (x1.toInt < 0 ∨ 9 < x1.toInt) ∨ (¬ x1.toInt < 0 ∧ ¬ 9 < x1.toInt ∧ (#[55, 63, 71, 79, 87, 95, 103, 111, 119, 127] : Array Int)[(x1.toInt - 0).toNat]? = some 135) := by
                        have a0 := i32ne n1_0 (k := 0) rfl; have a1 := i32ne n1_1 (k := 1) rfl; have a2 := i32ne n1_2 (k := 2) rfl; have a3 := i32ne n1_3 (k := 3) rfl; have a4 := i32ne n1_4 (k := 4) rfl; have a5 := i32ne n1_5 (k := 5) rfl; have a6 := i32ne n1_6 (k := 6) rfl; have a7 := i32ne n1_7 (k := 7) rfl; have a8 := i32ne n1_8 (k := 8) rfl; have a9 := i32ne n1_9 (k := 9) rfl; rcases (show x1.toInt < 0 ∨ 9 < x1.toInt by omega) with h9 | h9
                        · exact Or.inl (Or.inl h9)
                        · exact Or.inl (Or.inr h9)
                      refine jx_tdef2 (tgt := 136) h dX9_count_1 hsw rfl ?_
                      refine jx_aload_n h dX9_count_136 rfl 0 rfl ?_
                      refine jx_get (v := .ref (Ga G 111)) h fa_X9_60 lc_0 dX9_count_137 rfl ?_
                      refine jx_iload_n h dX9_count_140 rfl 1 rfl ?_
                      refine jx_bipush h dX9_count_141 kb_10 ?_
                      refine jx_isub h dX9_count_143 ?_
                      refine jx_callVi [] h lc_111 (c_X1_isWritten hG N (x1 - 10) s) ml_X9_266 (Nat.le_of_ble_eq_true rfl) (Nat.le_of_ble_eq_true rfl) dX9_count_144 (Nat.le_of_ble_eq_true rfl) rfl (fun r2 s1 => ?_)
                      refine jx_if_eq (tgt := 165) h dX9_count_147 rfl ?_ ?_
                      · refine jx_iconst h dX9_count_165 ki_m1 ?_
                        exact jx_iret h dX9_count_166
                      · refine jx_aload_n h dX9_count_150 rfl 0 rfl ?_
                        refine jx_get (v := .ref (Ga G 111)) h fa_X9_60 lc_0 dX9_count_151 rfl ?_
                        refine jx_get (v := .ref (Ga G 119)) h fa_X9_337 lc_111 dX9_count_154 rfl ?_
                        refine jx_iload_n h dX9_count_157 rfl 1 rfl ?_
                        refine jx_bipush h dX9_count_158 kb_10 ?_
                        refine jx_isub h dX9_count_160 ?_
                        refine jx_iaload h lc_119 dX9_count_161 ?_
                        refine jx_goto (tgt := 166) h dX9_count_162 rfl ?_
                        exact jx_iret h dX9_count_166
