noncomputable def f_J0_coder_7d493 (N : Nat) (b : Nat) (s : Mem) : Option (Int32 × Mem) :=
  if (1 : Int32) = 0 then (some (1, s)) else some (0, s)
set_option maxRecDepth 20000 in
theorem c_J0_coder_7d493 {G : Gx} (hG : Gok G ∧ IsG G layC fsoC) (hSt : StrOk G) (N : Nat) (b : Nat) (hb : b < 5) (s : Mem) : Ct G yJ0_coder_7d493 cJ0_coder_7d493 1 (some .byte) 0 [.ref (Ga G (1000 + b))] tvI s (f_J0_coder_7d493 N b s) := by
  refine Ct.of hG (by decide) (Nat.le_of_ble_eq_true rfl) (fun P h => ?_)
  show P _ 0 [(0, .ref (Ga G (1000 + b)))] [] s
  unfold f_J0_coder_7d493
  refine jx_getsS h hSt fs_J0_38 dJ0_coder_7d493_0 ?_
  refine jx_if_eq (tgt := 13) h dJ0_coder_7d493_3 rfl ?_ ?_
  · refine jx_iconst h dJ0_coder_7d493_13 ki_1 ?_
    exact jx_nret h (by decide) dJ0_coder_7d493_14
  · refine jx_aload_n h dJ0_coder_7d493_6 rfl 0 rfl ?_
    refine jx_getSc h hSt fs_J0_15 hb dJ0_coder_7d493_7 ?_
    refine jx_goto (tgt := 14) h dJ0_coder_7d493_10 rfl ?_
    exact jx_nret h (by decide) dJ0_coder_7d493_14
noncomputable def f_J0_isLatin1_aae02 (N : Nat) (b : Nat) (s : Mem) : Option (Int32 × Mem) :=
  if (1 : Int32) = 0 then (some (0, s)) else if (0 : Int32) = 0 then (some (1, s)) else some (0, s)
set_option maxRecDepth 20000 in
theorem c_J0_isLatin1_aae02 {G : Gx} (hG : Gok G ∧ IsG G layC fsoC) (hSt : StrOk G) (N : Nat) (b : Nat) (hb : b < 5) (s : Mem) : Ct G yJ0_isLatin1_aae02 cJ0_isLatin1_aae02 1 (some .boolean) 0 [.ref (Ga G (1000 + b))] tvI s (f_J0_isLatin1_aae02 N b s) := by
  refine Ct.of hG (by decide) (Nat.le_of_ble_eq_true rfl) (fun P h => ?_)
  show P _ 0 [(0, .ref (Ga G (1000 + b)))] [] s
  unfold f_J0_isLatin1_aae02
  refine jx_getsS h hSt fs_J0_38 dJ0_isLatin1_aae02_0 ?_
  refine jx_if_eq (tgt := 17) h dJ0_isLatin1_aae02_3 rfl ?_ ?_
  · refine jx_iconst h dJ0_isLatin1_aae02_17 ki_0 ?_
    exact jx_zret h rfl dJ0_isLatin1_aae02_18
  · refine jx_aload_n h dJ0_isLatin1_aae02_6 rfl 0 rfl ?_
    refine jx_getSc h hSt fs_J0_15 hb dJ0_isLatin1_aae02_7 ?_
    refine jx_if_ne (tgt := 17) h dJ0_isLatin1_aae02_10 rfl ?_ ?_
    · refine jx_iconst h dJ0_isLatin1_aae02_17 ki_0 ?_
      exact jx_zret h rfl dJ0_isLatin1_aae02_18
    · refine jx_iconst h dJ0_isLatin1_aae02_13 ki_1 ?_
      refine jx_goto (tgt := 18) h dJ0_isLatin1_aae02_14 rfl ?_
      exact jx_zret h rfl dJ0_isLatin1_aae02_18
noncomputable def f_J0_length_8abf5 (N : Nat) (b : Nat) (s : Mem) : Option (Int32 × Mem) :=
  bd (f_J0_coder_7d493 N b s) (fun r2 s1 => some ((nI (lenS b)) >>> (r2 &&& 31), s1))
set_option maxRecDepth 20000 in
theorem c_J0_length_8abf5 {G : Gx} (hG : Gok G ∧ IsG G layC fsoC) (hSt : StrOk G) (N : Nat) (b : Nat) (hb : b < 5) (s : Mem) : Ct G yJ0_length_8abf5 cJ0_length_8abf5 1 (some .int) 1 [.ref (Ga G (1000 + b))] tvI s (f_J0_length_8abf5 N b s) := by
  refine Ct.of hG (by decide) (Nat.le_of_ble_eq_true rfl) (fun P h => ?_)
  show P _ 0 [(0, .ref (Ga G (1000 + b)))] [] s
  unfold f_J0_length_8abf5
  refine jx_aload_n h dJ0_length_8abf5_0 rfl 0 rfl ?_
  refine jx_getSv h hSt fs_J0_9 hb dJ0_length_8abf5_1 ?_
  refine jx_alenS h hSt hb dJ0_length_8abf5_4 ?_
  refine jx_aload_n h dJ0_length_8abf5_5 rfl 0 rfl ?_
  refine jx_callTi [.int (nI (lenS b))] h hSt hb (c_J0_coder_7d493 hG hSt N b hb s) ml_J0_335 (Nat.le_of_ble_eq_true rfl) (Nat.le_of_ble_eq_true rfl) dJ0_length_8abf5_6 (Nat.le_of_ble_eq_true rfl) rfl (fun r2 s1 => ?_)
  refine jx_ishr h dJ0_length_8abf5_9 ?_
  exact jx_iret h dJ0_length_8abf5_10
noncomputable def f_J1_canEncode_9a6ad (N : Nat) (x0 : Int32) (s : Mem) : Option (Int32 × Mem) :=
  if x0 < 0 then (some (0, s)) else if 255 < x0 then (some (0, s)) else some (1, s)
set_option maxRecDepth 20000 in
theorem c_J1_canEncode_9a6ad {G : Gx} (hG : Gok G ∧ IsG G layC fsoC) (hSt : StrOk G) (N : Nat) (x0 : Int32) (s : Mem) : Ct G yJ1_canEncode_9a6ad cJ1_canEncode_9a6ad 1 (some .boolean) 0 [.int x0] tvI s (f_J1_canEncode_9a6ad N x0 s) := by
  refine Ct.of hG (by decide) (Nat.le_of_ble_eq_true rfl) (fun P h => ?_)
  show P _ 0 [(0, .int x0)] [] s
  unfold f_J1_canEncode_9a6ad
  refine jx_iload_n h dJ1_canEncode_9a6ad_0 rfl 0 rfl ?_
  refine jx_if_lt (tgt := 15) h dJ1_canEncode_9a6ad_1 rfl ?_ ?_
  · refine jx_iconst h dJ1_canEncode_9a6ad_15 ki_0 ?_
    exact jx_zret h rfl dJ1_canEncode_9a6ad_16
  · refine jx_iload_n h dJ1_canEncode_9a6ad_4 rfl 0 rfl ?_
    refine jx_sipush h dJ1_canEncode_9a6ad_5 ks_255 ?_
    refine jx_icmp_gt (tgt := 15) h dJ1_canEncode_9a6ad_8 rfl ?_ ?_
    · refine jx_iconst h dJ1_canEncode_9a6ad_15 ki_0 ?_
      exact jx_zret h rfl dJ1_canEncode_9a6ad_16
    · refine jx_iconst h dJ1_canEncode_9a6ad_11 ki_1 ?_
      refine jx_goto (tgt := 16) h dJ1_canEncode_9a6ad_12 rfl ?_
      exact jx_zret h rfl dJ1_canEncode_9a6ad_16
noncomputable def st_J1_indexOfChar_4cfef_7 (N : Nat) (x0 : Nat) (x3 : Int32) (x4 : Int32)  (rec : Int32 → Mem → Option (Int32 × Mem)) (x5 : Int32) (s0 : Mem) : Option (Int32 × Mem) :=
  if x3 ≤ x5 then (some ((-1), s0)) else chk x5 (lenS x0) (if (bytC x0 (ix x5)) = x4 then (some (x5, s0)) else lt (x5 + 1) (fun x5_2 => rec x5_2 s0))
noncomputable def f_J1_indexOfChar_4cfef (N : Nat) (x0 : Nat) (x1 : Int32) (x2 : Int32) (x3 : Int32) (s : Mem) : Option (Int32 × Mem) :=
  lt (x1.toInt8.toInt32) (fun v1 => itr (fun _ _ => none) (st_J1_indexOfChar_4cfef_7 N x0 x3 v1) N x2 s)
set_option maxRecDepth 20000 in
theorem w_J1_indexOfChar_4cfef_7 {G : Gx} (hG : Gok G ∧ IsG G layC fsoC) {P : Option (Int32 × Mem) → Nat → List (Nat × Value) → List Value → Mem → Prop} (h : Jk G layC fsoC RJ1 cJ1_indexOfChar_4cfef 6 (some .int) 0 tvI P) (N : Nat) (hSt : StrOk G) (x0 : Nat) (x3 : Int32) (x4 : Int32) (hx0 : x0 < 5) {rec : Int32 → Mem → Option (Int32 × Mem)} (ih : ∀ (x5 : Int32) (s : Mem), P (rec x5 s) 7 [(0, .ref (Ga G (1100 + x0))), (3, .int x3), (4, .int x4), (5, .int x5)] [] s) : ∀ (x5 : Int32) (s : Mem), P (st_J1_indexOfChar_4cfef_7 N x0 x3 x4 rec x5 s) 7 [(0, .ref (Ga G (1100 + x0))), (3, .int x3), (4, .int x4), (5, .int x5)] [] s := by
  intro x5 s0
  unfold st_J1_indexOfChar_4cfef_7
  refine jx_iload h dJ1_indexOfChar_4cfef_7 3 rfl ?_
  refine jx_iload_n h dJ1_indexOfChar_4cfef_9 rfl 1 rfl ?_
  refine jx_icmp_ge (tgt := 31) h dJ1_indexOfChar_4cfef_10 rfl ?_ ?_
  · refine jx_iconst h dJ1_indexOfChar_4cfef_31 ki_m1 ?_
    exact jx_iret h dJ1_indexOfChar_4cfef_32
  · refine jx_aload_n h dJ1_indexOfChar_4cfef_13 rfl 0 rfl ?_
    refine jx_iload h dJ1_indexOfChar_4cfef_14 3 rfl ?_
    refine jx_baloadS h hSt hx0 dJ1_indexOfChar_4cfef_16 ?_
    refine jx_iload h dJ1_indexOfChar_4cfef_17 2 rfl ?_
    refine jx_icmp_ne (tgt := 25) h dJ1_indexOfChar_4cfef_19 rfl ?_ ?_
    · refine jx_iincl (L := fun w => [(5, .int w), (0, .ref (Ga G (1100 + x0))), (3, .int x3), (4, .int x4)]) h dJ1_indexOfChar_4cfef_25 3 rfl (kn_1 _) (Nat.le_of_ble_eq_true rfl) (fun _ => rfl) (fun x5_2 => ?_)
      refine jx_goto (tgt := 7) h dJ1_indexOfChar_4cfef_28 rfl ?_
      exact jx_subk [1, 2, 3, 0] h (ih x5_2 s0) rfl
    · refine jx_iload h dJ1_indexOfChar_4cfef_22 3 rfl ?_
      exact jx_iret h dJ1_indexOfChar_4cfef_24
set_option maxRecDepth 20000 in
theorem c_J1_indexOfChar_4cfef {G : Gx} (hG : Gok G ∧ IsG G layC fsoC) (hSt : StrOk G) (N : Nat) (x0 : Nat) (hx0 : x0 < 5) (x1 : Int32) (x2 : Int32) (x3 : Int32) (s : Mem) : Ct G yJ1_indexOfChar_4cfef cJ1_indexOfChar_4cfef 6 (some .int) 0 [.ref (Ga G (1100 + x0)), .int x1, .int x2, .int x3] tvI s (f_J1_indexOfChar_4cfef N x0 x1 x2 x3 s) := by
  refine Ct.of hG (by decide) (Nat.le_of_ble_eq_true rfl) (fun P h => ?_)
  show P _ 0 [(0, .ref (Ga G (1100 + x0))), (1, .int x1), (2, .int x2), (3, .int x3)] [] s
  unfold f_J1_indexOfChar_4cfef
  refine jx_iload_n h dJ1_indexOfChar_4cfef_0 rfl 1 rfl ?_
  refine jx_i2b h dJ1_indexOfChar_4cfef_1 ?_
  refine jx_lti (fun v1 => ?_)
  refine jx_istore (lv' := [(4, .int v1), (0, .ref (Ga G (1100 + x0))), (1, .int x1), (2, .int x2), (3, .int x3)]) h dJ1_indexOfChar_4cfef_2 (Nat.le_of_ble_eq_true rfl) rfl ?_
  refine jx_iload_n h dJ1_indexOfChar_4cfef_4 rfl 3 rfl ?_
  refine jx_istore (lv' := [(5, .int x2), (4, .int v1), (0, .ref (Ga G (1100 + x0))), (1, .int x1), (2, .int x2), (3, .int x3)]) h dJ1_indexOfChar_4cfef_5 (Nat.le_of_ble_eq_true rfl) rfl ?_
  refine jx_subk [2, 5, 1, 0] h (itr_ind (Q := (fun (f : Int32 → Mem → Option (Int32 × Mem)) => ∀ (x5 : Int32) (s : Mem), P (f x5 s) 7 [(0, .ref (Ga G (1100 + x0))), (3, .int x3), (4, .int v1), (5, .int x5)] [] s)) (fun _ _ => jx_none h) (fun r7 ih7 => ?_) N x2 s) rfl
  refine w_J1_indexOfChar_4cfef_7 hG h N hSt x0 x3 v1 hx0  ih7
noncomputable def f_J1_indexOf_4cfef (N : Nat) (x0 : Nat) (x1 : Int32) (x2 : Int32) (x3 : Int32) (s : Mem) : Option (Int32 × Mem) :=
  bd (f_J1_canEncode_9a6ad N x1 s) (fun r2 s1 => if r2 = 0 then (some ((-1), s1)) else lt (imax x2 0) (fun v3 => lt (imin x3 (nI (lenS x0))) (fun v4 => if v3 < v4 then (bd (f_J1_indexOfChar_4cfef N x0 x1 v3 v4 s1) (fun r6 s5 => some (r6, s5))) else some ((-1), s1))))
set_option maxRecDepth 20000 in
theorem c_J1_indexOf_4cfef {G : Gx} (hG : Gok G ∧ IsG G layC fsoC) (hSt : StrOk G) (N : Nat) (x0 : Nat) (hx0 : x0 < 5) (x1 : Int32) (x2 : Int32) (x3 : Int32) (s : Mem) : Ct G yJ1_indexOf_4cfef cJ1_indexOf_4cfef 4 (some .int) 1 [.ref (Ga G (1100 + x0)), .int x1, .int x2, .int x3] tvI s (f_J1_indexOf_4cfef N x0 x1 x2 x3 s) := by
  refine Ct.of hG (by decide) (Nat.le_of_ble_eq_true rfl) (fun P h => ?_)
  show P _ 0 [(0, .ref (Ga G (1100 + x0))), (1, .int x1), (2, .int x2), (3, .int x3)] [] s
  unfold f_J1_indexOf_4cfef
  refine jx_iload_n h dJ1_indexOf_4cfef_0 rfl 1 rfl ?_
  refine jx_callSi [] h (c_J1_canEncode_9a6ad hG hSt N x1 s) ml_J1_88 (Nat.le_of_ble_eq_true rfl) (Nat.le_of_ble_eq_true rfl) dJ1_indexOf_4cfef_1 (Nat.le_of_ble_eq_true rfl) rfl (fun r2 s1 => ?_)
  refine jx_if_ne (tgt := 9) h dJ1_indexOf_4cfef_4 rfl ?_ ?_
  · refine jx_iload_n h dJ1_indexOf_4cfef_9 rfl 2 rfl ?_
    refine jx_iconst h dJ1_indexOf_4cfef_10 ki_0 ?_
    refine jx_mmax h mm_J1_92 (Nat.le_of_ble_eq_true rfl) (Nat.le_of_ble_eq_true rfl) dJ1_indexOf_4cfef_11 ?_
    refine jx_lti (fun v3 => ?_)
    refine jx_istore_n (lv' := [(2, .int v3), (0, .ref (Ga G (1100 + x0))), (1, .int x1), (3, .int x3)]) h dJ1_indexOf_4cfef_14 rfl (Nat.le_of_ble_eq_true rfl) rfl ?_
    refine jx_iload_n h dJ1_indexOf_4cfef_15 rfl 3 rfl ?_
    refine jx_aload_n h dJ1_indexOf_4cfef_16 rfl 1 rfl ?_
    refine jx_alenS h hSt hx0 dJ1_indexOf_4cfef_17 ?_
    refine jx_mmin h mm_J1_38 (Nat.le_of_ble_eq_true rfl) (Nat.le_of_ble_eq_true rfl) dJ1_indexOf_4cfef_18 ?_
    refine jx_lti (fun v4 => ?_)
    refine jx_istore_n (lv' := [(3, .int v4), (2, .int v3), (0, .ref (Ga G (1100 + x0))), (1, .int x1)]) h dJ1_indexOf_4cfef_21 rfl (Nat.le_of_ble_eq_true rfl) rfl ?_
    refine jx_iload_n h dJ1_indexOf_4cfef_22 rfl 1 rfl ?_
    refine jx_iload_n h dJ1_indexOf_4cfef_23 rfl 0 rfl ?_
    refine jx_icmp_lt (tgt := 29) h dJ1_indexOf_4cfef_24 rfl ?_ ?_
    · refine jx_aload_n h dJ1_indexOf_4cfef_29 rfl 2 rfl ?_
      refine jx_iload_n h dJ1_indexOf_4cfef_30 rfl 3 rfl ?_
      refine jx_iload_n h dJ1_indexOf_4cfef_31 rfl 1 rfl ?_
      refine jx_iload_n h dJ1_indexOf_4cfef_32 rfl 0 rfl ?_
      refine jx_callSi [] h (c_J1_indexOfChar_4cfef hG hSt N x0 hx0 x1 v3 v4 s1) ml_J1_95 (Nat.le_of_ble_eq_true rfl) (Nat.le_of_ble_eq_true rfl) dJ1_indexOf_4cfef_33 (Nat.le_of_ble_eq_true rfl) rfl (fun r6 s5 => ?_)
      exact jx_iret h dJ1_indexOf_4cfef_36
    · refine jx_iconst h dJ1_indexOf_4cfef_27 ki_m1 ?_
      exact jx_iret h dJ1_indexOf_4cfef_28
  · refine jx_iconst h dJ1_indexOf_4cfef_7 ki_m1 ?_
    exact jx_iret h dJ1_indexOf_4cfef_8
noncomputable def f_J0_indexOf_7cf53 (N : Nat) (b : Nat) (x1 : Int32) (x2 : Int32) (s : Mem) : Option (Int32 × Mem) :=
  bd (f_J0_isLatin1_aae02 N b s) (fun r2 s1 => if r2 = 0 then none else bd (f_J0_length_8abf5 N b s1) (fun r4 s3 => bd (f_J1_indexOf_4cfef N b x1 x2 r4 s3) (fun r6 s5 => some (r6, s5))))
set_option maxRecDepth 20000 in
theorem c_J0_indexOf_7cf53 {G : Gx} (hG : Gok G ∧ IsG G layC fsoC) (hSt : StrOk G) (N : Nat) (b : Nat) (hb : b < 5) (x1 : Int32) (x2 : Int32) (s : Mem) : Ct G yJ0_indexOf_7cf53 cJ0_indexOf_7cf53 3 (some .int) 2 [.ref (Ga G (1000 + b)), .int x1, .int x2] tvI s (f_J0_indexOf_7cf53 N b x1 x2 s) := by
  refine Ct.of hG (by decide) (Nat.le_of_ble_eq_true rfl) (fun P h => ?_)
  show P _ 0 [(0, .ref (Ga G (1000 + b))), (1, .int x1), (2, .int x2)] [] s
  unfold f_J0_indexOf_7cf53
  refine jx_aload_n h dJ0_indexOf_7cf53_0 rfl 0 rfl ?_
  refine jx_callTi [] h hSt hb (c_J0_isLatin1_aae02 hG hSt N b hb s) ml_J0_492 (Nat.le_of_ble_eq_true rfl) (Nat.le_of_ble_eq_true rfl) dJ0_indexOf_7cf53_1 (Nat.le_of_ble_eq_true rfl) rfl (fun r2 s1 => ?_)
  refine jx_if_eq (tgt := 23) h dJ0_indexOf_7cf53_4 rfl ?_ ?_
  · exact jx_none h
  · refine jx_aload_n h dJ0_indexOf_7cf53_7 rfl 0 rfl ?_
    refine jx_getSv h hSt fs_J0_9 hb dJ0_indexOf_7cf53_8 ?_
    refine jx_iload_n h dJ0_indexOf_7cf53_11 rfl 1 rfl ?_
    refine jx_iload_n h dJ0_indexOf_7cf53_12 rfl 2 rfl ?_
    refine jx_aload_n h dJ0_indexOf_7cf53_13 rfl 0 rfl ?_
    refine jx_callTi [.int x2, .int x1, .ref (Ga G (1100 + b))] h hSt hb (c_J0_length_8abf5 hG hSt N b hb s1) ml_J0_505 (Nat.le_of_ble_eq_true rfl) (Nat.le_of_ble_eq_true rfl) dJ0_indexOf_7cf53_14 (Nat.le_of_ble_eq_true rfl) rfl (fun r4 s3 => ?_)
    refine jx_callSi [] h (c_J1_indexOf_4cfef hG hSt N b hb x1 x2 r4 s3) ml_J0_637 (Nat.le_of_ble_eq_true rfl) (Nat.le_of_ble_eq_true rfl) dJ0_indexOf_7cf53_17 (Nat.le_of_ble_eq_true rfl) rfl (fun r6 s5 => ?_)
    refine jx_goto (tgt := 36) h dJ0_indexOf_7cf53_20 rfl ?_
    exact jx_iret h dJ0_indexOf_7cf53_36
noncomputable def f_J0_indexOf_0f7a4 (N : Nat) (b : Nat) (x1 : Int32) (s : Mem) : Option (Int32 × Mem) :=
  bd (f_J0_indexOf_7cf53 N b x1 0 s) (fun r2 s1 => some (r2, s1))
set_option maxRecDepth 20000 in
theorem c_J0_indexOf_0f7a4 {G : Gx} (hG : Gok G ∧ IsG G layC fsoC) (hSt : StrOk G) (N : Nat) (b : Nat) (hb : b < 5) (x1 : Int32) (s : Mem) : Ct G yJ0_indexOf_0f7a4 cJ0_indexOf_0f7a4 2 (some .int) 3 [.ref (Ga G (1000 + b)), .int x1] tvI s (f_J0_indexOf_0f7a4 N b x1 s) := by
  refine Ct.of hG (by decide) (Nat.le_of_ble_eq_true rfl) (fun P h => ?_)
  show P _ 0 [(0, .ref (Ga G (1000 + b))), (1, .int x1)] [] s
  unfold f_J0_indexOf_0f7a4
  refine jx_aload_n h dJ0_indexOf_0f7a4_0 rfl 0 rfl ?_
  refine jx_iload_n h dJ0_indexOf_0f7a4_1 rfl 1 rfl ?_
  refine jx_iconst h dJ0_indexOf_0f7a4_2 ki_0 ?_
  refine jx_callTi [] h hSt hb (c_J0_indexOf_7cf53 hG hSt N b hb x1 0 s) ml_J0_633 (Nat.le_of_ble_eq_true rfl) (Nat.le_of_ble_eq_true rfl) dJ0_indexOf_0f7a4_3 (Nat.le_of_ble_eq_true rfl) rfl (fun r2 s1 => ?_)
  exact jx_iret h dJ0_indexOf_0f7a4_6
noncomputable def f_X6_isOf (N : Nat) (x0 : Nat) (x1 : Int32) (s : Mem) : Option (Int32 × Mem) :=
  if x1 ≤ 0 then (some (0, s)) else bd (f_J0_indexOf_0f7a4 N x0 ((x1.toUInt32 % 65536).toInt32) s) (fun r2 s1 => if r2 < 0 then (some (0, s1)) else some (1, s1))
set_option maxRecDepth 20000 in
theorem c_X6_isOf {G : Gx} (hG : Gok G ∧ IsG G layC fsoC) (hSt : StrOk G) (N : Nat) (x0 : Nat) (hx0 : x0 < 5) (x1 : Int32) (s : Mem) : Ct G yX6_isOf cX6_isOf 2 (some .boolean) 4 [.ref (Ga G (1000 + x0)), .int x1] tvI s (f_X6_isOf N x0 x1 s) := by
  refine Ct.of hG (by decide) (Nat.le_of_ble_eq_true rfl) (fun P h => ?_)
  show P _ 0 [(0, .ref (Ga G (1000 + x0))), (1, .int x1)] [] s
  unfold f_X6_isOf
  refine jx_iload_n h dX6_isOf_0 rfl 1 rfl ?_
  refine jx_if_le (tgt := 17) h dX6_isOf_1 rfl ?_ ?_
  · refine jx_iconst h dX6_isOf_17 ki_0 ?_
    exact jx_zret h rfl dX6_isOf_18
  · refine jx_aload_n h dX6_isOf_4 rfl 0 rfl ?_
    refine jx_iload_n h dX6_isOf_5 rfl 1 rfl ?_
    refine jx_i2c h dX6_isOf_6 ?_
    refine jx_callTi [] h hSt hx0 (c_J0_indexOf_0f7a4 hG hSt N x0 hx0 ((x1.toUInt32 % 65536).toInt32) s) ml_X6_107 (Nat.le_of_ble_eq_true rfl) (Nat.le_of_ble_eq_true rfl) dX6_isOf_7 (Nat.le_of_ble_eq_true rfl) rfl (fun r2 s1 => ?_)
    refine jx_if_lt (tgt := 17) h dX6_isOf_10 rfl ?_ ?_
    · refine jx_iconst h dX6_isOf_17 ki_0 ?_
      exact jx_zret h rfl dX6_isOf_18
    · refine jx_iconst h dX6_isOf_13 ki_1 ?_
      refine jx_goto (tgt := 18) h dX6_isOf_14 rfl ?_
      exact jx_zret h rfl dX6_isOf_18
noncomputable def st_X6_readSum_42 (N : Nat) (g0 : Int32 → Int32 → Mem → Option (Unit × Mem)) (g1 : Int32 → Mem → Option (Unit × Mem)) (x1 : Int32) (x2 : Int32) (x3 : Nat)  (rec : Int32 → Mem → Option (Unit × Mem)) (x4 : Int32) (s0 : Mem) : Option (Unit × Mem) :=
  if 240 ≤ x4 then (some ((), s0)) else if (gi s0 93 3) = 0 then (bd (f_X6_here N s0) (fun r6 s5 => bd (f_X6_isOf N x3 r6 s5) (fun r8 s7 => if r8 = 0 then (some ((), s7)) else bd (f_X6_here N s7) (fun r10 s9 => lt (si s9 93 2 ((gi s9 93 2) + 1)) (fun s11 => bd (g0 (x1 + 1) x2 s11) (fun _ s12 => lt (ix (gi s12 93 4)) (fun q14 => ckc (isLw q14) (bd (f_X4_add N q14 (-r10) s12) (fun _ s15 => lt (x4 + 1) (fun x4_17 => rec x4_17 s15)))))))))) else some ((), s0)
noncomputable def f1_X6_readSum (N : Nat) (g0 : Int32 → Int32 → Mem → Option (Unit × Mem)) (g1 : Int32 → Mem → Option (Unit × Mem)) (x1 : Int32) (x2 : Int32) (s : Mem) : Option (Unit × Mem) :=
  if (gi s 93 3) = 0 then (if x1 < 2 then (lt (fun (t2 : Nat) (s1 : Mem) => bd (g0 (x1 + 1) x2 s1) (fun _ s3 => itr (fun _ _ => none) (st_X6_readSum_42 N g0 g1 x1 x2 t2) N 0 s3)) (fun j30 => if x1 = 0 then (j30 1 s) else j30 0 s)) else bd (g1 x2 s) (fun _ s18 => some ((), s18))) else some ((), s)
set_option maxRecDepth 20000 in
theorem w_X6_readSum_42 {G : Gx} (hG : Gok G ∧ IsG G layC fsoC) {q : Nat} {P : Option (Unit × Mem) → Nat → List (Nat × Value) → List Value → Mem → Prop} (h : Jk G layC fsoC RX6 cX6_readSum 6 none (5 + (q + 1)) tvV P) (N : Nat) (hSt : StrOk G) (g0 : Int32 → Int32 → Mem → Option (Unit × Mem)) (g1 : Int32 → Mem → Option (Unit × Mem)) (hg0 : ∀ (x1 : Int32) (x2 : Int32) (s : Mem), Ct G yX6_readSum cX6_readSum 6 none (5 + q) [.ref (Ga G 93), .int x1, .int x2] tvV s (g0 x1 x2 s)) (hg1 : ∀ (x1 : Int32) (s : Mem), Ct G yX6_readFactor cX6_readFactor 5 none (5 + q) [.ref (Ga G 93), .int x1] tvV s (g1 x1 s)) (x1 : Int32) (x2 : Int32) (x3 : Nat) (hx3 : x3 < 5) {rec : Int32 → Mem → Option (Unit × Mem)} (ih : ∀ (x4 : Int32) (s : Mem), P (rec x4 s) 42 [(0, .ref (Ga G 93)), (1, .int x1), (2, .int x2), (3, .ref (Ga G (1000 + x3))), (4, .int x4)] [] s) : ∀ (x4 : Int32) (s : Mem), P (st_X6_readSum_42 N g0 g1 x1 x2 x3 rec x4 s) 42 [(0, .ref (Ga G 93)), (1, .int x1), (2, .int x2), (3, .ref (Ga G (1000 + x3))), (4, .int x4)] [] s := by
  intro x4 s0
  unfold st_X6_readSum_42
  refine jx_iload h dX6_readSum_42 4 rfl ?_
  refine jx_sipush h dX6_readSum_44 ks_240 ?_
  refine jx_icmp_ge (tgt := 108) h dX6_readSum_47 rfl ?_ ?_
  · exact jx_vret h dX6_readSum_108
  · refine jx_aload_n h dX6_readSum_50 rfl 0 rfl ?_
    refine jx_get (v := .int (gi s0 93 3)) h fa_X6_35 lc_93 dX6_readSum_51 rfl ?_
    refine jx_if_ne (tgt := 108) h dX6_readSum_54 rfl ?_ ?_
    · exact jx_vret h dX6_readSum_108
    · refine jx_aload_n h dX6_readSum_57 rfl 3 rfl ?_
      refine jx_aload_n h dX6_readSum_58 rfl 0 rfl ?_
      refine jx_callVi [.ref (Ga G (1000 + x3))] h lc_93 (c_X6_here hG N  s0) ml_X6_48 (by omega) (Nat.le_of_ble_eq_true rfl) dX6_readSum_59 (Nat.le_of_ble_eq_true rfl) rfl (fun r6 s5 => ?_)
      refine jx_callSi [] h (c_X6_isOf hG hSt N x3 hx3 r6 s5) ml_X6_54 (by omega) (Nat.le_of_ble_eq_true rfl) dX6_readSum_62 (Nat.le_of_ble_eq_true rfl) rfl (fun r8 s7 => ?_)
      refine jx_if_eq (tgt := 108) h dX6_readSum_65 rfl ?_ ?_
      · exact jx_vret h dX6_readSum_108
      · refine jx_aload_n h dX6_readSum_68 rfl 0 rfl ?_
        refine jx_callVi [] h lc_93 (c_X6_here hG N  s7) ml_X6_48 (by omega) (Nat.le_of_ble_eq_true rfl) dX6_readSum_69 (Nat.le_of_ble_eq_true rfl) rfl (fun r10 s9 => ?_)
        refine jx_istore (lv' := [(5, .int r10), (0, .ref (Ga G 93)), (1, .int x1), (2, .int x2), (3, .ref (Ga G (1000 + x3))), (4, .int x4)]) h dX6_readSum_72 (Nat.le_of_ble_eq_true rfl) rfl ?_
        refine jx_aload_n h dX6_readSum_74 rfl 1 rfl ?_
        refine jx_dup h dX6_readSum_75 rfl ?_
        refine jx_get (v := .int (gi s9 93 2)) h fa_X6_32 lc_93 dX6_readSum_76 rfl ?_
        refine jx_iconst h dX6_readSum_79 ki_1 ?_
        refine jx_iadd h dX6_readSum_80 ?_
        refine jx_put h fa_X6_32 fp_X6_2 lc_93 rfl rfl dX6_readSum_81 (fu_X6_2 _ _ _ _) (fun s11 => ?_)
        refine jx_aload_n h dX6_readSum_84 rfl 1 rfl ?_
        refine jx_iload_n h dX6_readSum_85 rfl 2 rfl ?_
        refine jx_iconst h dX6_readSum_86 ki_1 ?_
        refine jx_iadd h dX6_readSum_87 ?_
        refine jx_iload_n h dX6_readSum_88 rfl 3 rfl ?_
        refine jx_callVv [] h lc_93 (hg0 (x1 + 1) x2 s11) ml_X6_73 (by omega) (Nat.le_of_ble_eq_true rfl) dX6_readSum_89 (Nat.le_of_ble_eq_true rfl) rfl (fun s12 => ?_)
        refine jx_aload_n h dX6_readSum_92 rfl 1 rfl ?_
        refine jx_get (v := .ref (Ga G (ix (gi s12 93 4)))) h fa_X6_18 lc_93 dX6_readSum_93 rfl ?_
        refine jx_ltr (fun q14 => ?_)
        refine jx_ckc h (fun hq14 => ?_)
        refine jx_iload h dX6_readSum_96 0 rfl ?_
        refine jx_ineg h dX6_readSum_98 ?_
        refine jx_callVv [] h (isLw_o hq14) (c_X4_add hG N q14 hq14 (-r10) s12) ml_X6_89 (by omega) (Nat.le_of_ble_eq_true rfl) dX6_readSum_99 (Nat.le_of_ble_eq_true rfl) rfl (fun s15 => ?_)
        refine jx_iincl (L := fun w => [(4, .int w), (5, .int r10), (0, .ref (Ga G 93)), (1, .int x1), (2, .int x2), (3, .ref (Ga G (1000 + x3)))]) h dX6_readSum_102 5 rfl (kn_1 _) (Nat.le_of_ble_eq_true rfl) (fun _ => rfl) (fun x4_17 => ?_)
        refine jx_goto (tgt := 42) h dX6_readSum_105 rfl ?_
        exact jx_subk [2, 3, 4, 5, 0] h (ih x4_17 s15) rfl
set_option maxRecDepth 20000 in
theorem c1_X6_readSum {G : Gx} (hG : Gok G ∧ IsG G layC fsoC) (hSt : StrOk G) {q : Nat} (N : Nat) (g0 : Int32 → Int32 → Mem → Option (Unit × Mem)) (g1 : Int32 → Mem → Option (Unit × Mem)) (hg0 : ∀ (x1 : Int32) (x2 : Int32) (s : Mem), Ct G yX6_readSum cX6_readSum 6 none (5 + q) [.ref (Ga G 93), .int x1, .int x2] tvV s (g0 x1 x2 s)) (hg1 : ∀ (x1 : Int32) (s : Mem), Ct G yX6_readFactor cX6_readFactor 5 none (5 + q) [.ref (Ga G 93), .int x1] tvV s (g1 x1 s)) (x1 : Int32) (x2 : Int32) (s : Mem) : Ct G yX6_readSum cX6_readSum 6 none (5 + (q + 1)) [.ref (Ga G 93), .int x1, .int x2] tvV s (f1_X6_readSum N g0 g1 x1 x2 s) := by
  refine Ct.of hG (by decide) (Nat.le_of_ble_eq_true rfl) (fun P h => ?_)
  show P _ 0 [(0, .ref (Ga G 93)), (1, .int x1), (2, .int x2)] [] s
  unfold f1_X6_readSum
  refine jx_aload_n h dX6_readSum_0 rfl 0 rfl ?_
  refine jx_get (v := .int (gi s 93 3)) h fa_X6_35 lc_93 dX6_readSum_1 rfl ?_
  refine jx_if_eq (tgt := 8) h dX6_readSum_4 rfl ?_ ?_
  · refine jx_iload_n h dX6_readSum_8 rfl 1 rfl ?_
    refine jx_iconst h dX6_readSum_9 ki_2 ?_
    refine jx_icmp_lt (tgt := 19) h dX6_readSum_10 rfl ?_ ?_
    · refine jx_iload_n h dX6_readSum_19 rfl 1 rfl ?_
      refine jx_join (fun (j : Nat → Mem → Option (Unit × Mem)) => ∀ (t2 : Nat) (ht2 : t2 < 5) (s1 : Mem), P (j t2 s1) 30 [(0, .ref (Ga G 93)), (1, .int x1), (2, .int x2)] [.ref (Ga G (1000 + t2))] s1) (fun t2 ht2 s1 => ?_) (fun j30 hj30 => ?_)
      · refine jx_astore_n (lv' := [(3, .ref (Ga G (1000 + t2))), (0, .ref (Ga G 93)), (1, .int x1), (2, .int x2)]) h dX6_readSum_30 rfl (Nat.le_of_ble_eq_true rfl) rfl ?_
        refine jx_aload_n h dX6_readSum_31 rfl 1 rfl ?_
        refine jx_iload_n h dX6_readSum_32 rfl 2 rfl ?_
        refine jx_iconst h dX6_readSum_33 ki_1 ?_
        refine jx_iadd h dX6_readSum_34 ?_
        refine jx_iload_n h dX6_readSum_35 rfl 3 rfl ?_
        refine jx_callVv [] h lc_93 (hg0 (x1 + 1) x2 s1) ml_X6_73 (by omega) (Nat.le_of_ble_eq_true rfl) dX6_readSum_36 (Nat.le_of_ble_eq_true rfl) rfl (fun s3 => ?_)
        refine jx_iconst h dX6_readSum_39 ki_0 ?_
        refine jx_istore (lv' := [(4, .int 0), (3, .ref (Ga G (1000 + t2))), (0, .ref (Ga G 93)), (1, .int x1), (2, .int x2)]) h dX6_readSum_40 (Nat.le_of_ble_eq_true rfl) rfl ?_
        refine jx_subk [2, 3, 4, 1, 0] h (itr_ind (Q := (fun (f : Int32 → Mem → Option (Unit × Mem)) => ∀ (x4 : Int32) (s : Mem), P (f x4 s) 42 [(0, .ref (Ga G 93)), (1, .int x1), (2, .int x2), (3, .ref (Ga G (1000 + t2))), (4, .int x4)] [] s)) (fun _ _ => jx_none h) (fun r42 ih42 => ?_) N 0 s3) rfl
        refine w_X6_readSum_42 hG h N hSt g0 g1 hg0 hg1 x1 x2 t2 ht2  ih42
      · refine jx_if_ne (tgt := 28) h dX6_readSum_20 rfl ?_ ?_
        · refine jx_ldcs h hSt (i := 0) (Nat.le_of_ble_eq_true rfl) dX6_readSum_28 ?_
          exact hj30 0 (Nat.le_of_ble_eq_true rfl) s
        · refine jx_ldcs h hSt (i := 1) (Nat.le_of_ble_eq_true rfl) dX6_readSum_23 ?_
          refine jx_goto (tgt := 30) h dX6_readSum_25 rfl ?_
          exact hj30 1 (Nat.le_of_ble_eq_true rfl) s
    · refine jx_aload_n h dX6_readSum_13 rfl 0 rfl ?_
      refine jx_iload_n h dX6_readSum_14 rfl 2 rfl ?_
      refine jx_callVv [] h lc_93 (hg1 x2 s) ml_X6_94 (by omega) (Nat.le_of_ble_eq_true rfl) dX6_readSum_15 (Nat.le_of_ble_eq_true rfl) rfl (fun s18 => ?_)
      exact jx_vret h dX6_readSum_18
  · exact jx_vret h dX6_readSum_7
noncomputable def st_X6_readFactor_101 (N : Nat) (g0 : Int32 → Int32 → Mem → Option (Unit × Mem)) (g1 : Int32 → Mem → Option (Unit × Mem)) (k146 : Int32 → Mem → Option (Unit × Mem)) (rec : Int32 → Int32 → Mem → Option (Unit × Mem)) (x3 : Int32) (x4 : Int32) (s0 : Mem) : Option (Unit × Mem) :=
  if 5 ≤ x4 then (k146 x3 s0) else bd (f_X6_here N s0) (fun r11 s10 => bd (f_X9_isDigit N r11 s10) (fun r13 s12 => if r13 = 0 then (k146 x3 s12) else bd (f_X6_here N s12) (fun r15 s14 => lt (((x3 * 10) + r15) - 48) (fun v16 => lt (si s14 93 2 ((gi s14 93 2) + 1)) (fun s17 => lt (x4 + 1) (fun x4_18 => rec v16 x4_18 s17))))))
noncomputable def f1_X6_readFactor (N : Nat) (g0 : Int32 → Int32 → Mem → Option (Unit × Mem)) (g1 : Int32 → Mem → Option (Unit × Mem)) (x1 : Int32) (s : Mem) : Option (Unit × Mem) :=
  bd (f_X6_here N s) (fun r2 s1 => bd (f_X6_isOf N 4 r2 s1) (fun r4 s3 => if r4 = 0 then (lt (fun  (s5 : Mem) => if r2 = 91 then (lt (si s5 93 2 ((gi s5 93 2) + 1)) (fun s30 => bd (g0 0 (x1 + 1) s30) (fun _ s31 => bd (f_X6_pass N 93 s31) (fun _ s33 => some ((), s33))))) else bd (f_X9_isDigit N r2 s5) (fun r7 s6 => if r7 = 0 then (bd (f_X6_fail N 1 s6) (fun _ s8 => some ((), s8))) else itr (fun _ _ _ => none) (st_X6_readFactor_101 N g0 g1 (fun (x3_20 : Int32) (s19 : Mem) => lt (ix (gi s19 93 4)) (fun q21 => ckc (isLw q21) (bd (f_X4_add N q21 x3_20 s19) (fun _ s22 => bd (f_X6_here N s22) (fun r25 s24 => bd (f_X9_isDigit N r25 s24) (fun r27 s26 => if r27 = 0 then (some ((), s26)) else bd (f_X6_fail N 2 s26) (fun _ s28 => some ((), s28))))))))) N 0 0 s6)) (fun j56 => if r2 = 91 then (if x1 < 6 then (j56 s3) else bd (f_X6_fail N 5 s3) (fun _ s35 => some ((), s35))) else j56 s3)) else lt (si s3 93 2 ((gi s3 93 2) + 1)) (fun s37 => lt (ix (gi s37 93 4)) (fun q38 => ckc (isLw q38) (bd (f_X4_add N q38 (-r2) s37) (fun _ s39 => some ((), s39)))))))
set_option maxRecDepth 20000 in
theorem w_X6_readFactor_101 {G : Gx} (hG : Gok G ∧ IsG G layC fsoC) {q : Nat} {P : Option (Unit × Mem) → Nat → List (Nat × Value) → List Value → Mem → Prop} (h : Jk G layC fsoC RX6 cX6_readFactor 5 none (5 + (q + 1)) tvV P) (N : Nat) (hSt : StrOk G) (g0 : Int32 → Int32 → Mem → Option (Unit × Mem)) (g1 : Int32 → Mem → Option (Unit × Mem)) (hg0 : ∀ (x1 : Int32) (x2 : Int32) (s : Mem), Ct G yX6_readSum cX6_readSum 6 none (5 + q) [.ref (Ga G 93), .int x1, .int x2] tvV s (g0 x1 x2 s)) (hg1 : ∀ (x1 : Int32) (s : Mem), Ct G yX6_readFactor cX6_readFactor 5 none (5 + q) [.ref (Ga G 93), .int x1] tvV s (g1 x1 s)) {k146 : Int32 → Mem → Option (Unit × Mem)} (hk146 : ∀ (x3 : Int32) (s : Mem), P (k146 x3 s) 146 [(0, .ref (Ga G 93)), (3, .int x3)] [] s) {rec : Int32 → Int32 → Mem → Option (Unit × Mem)} (ih : ∀ (x3 : Int32) (x4 : Int32) (s : Mem), P (rec x3 x4 s) 101 [(0, .ref (Ga G 93)), (3, .int x3), (4, .int x4)] [] s) : ∀ (x3 : Int32) (x4 : Int32) (s : Mem), P (st_X6_readFactor_101 N g0 g1 k146 rec x3 x4 s) 101 [(0, .ref (Ga G 93)), (3, .int x3), (4, .int x4)] [] s := by
  intro x3 x4 s0
  unfold st_X6_readFactor_101
  refine jx_iload h dX6_readFactor_101 2 rfl ?_
  refine jx_iconst h dX6_readFactor_103 ki_5 ?_
  refine jx_icmp_ge (tgt := 146) h dX6_readFactor_104 rfl ?_ ?_
  · exact jx_subk [0, 1] h (hk146 x3 s0) rfl
  · refine jx_aload_n h dX6_readFactor_107 rfl 0 rfl ?_
    refine jx_callVi [] h lc_93 (c_X6_here hG N  s0) ml_X6_48 (by omega) (Nat.le_of_ble_eq_true rfl) dX6_readFactor_108 (Nat.le_of_ble_eq_true rfl) rfl (fun r11 s10 => ?_)
    refine jx_callSi [] h (c_X9_isDigit hG N r11 s10) ml_X6_103 (by omega) (Nat.le_of_ble_eq_true rfl) dX6_readFactor_111 (Nat.le_of_ble_eq_true rfl) rfl (fun r13 s12 => ?_)
    refine jx_if_eq (tgt := 146) h dX6_readFactor_114 rfl ?_ ?_
    · exact jx_subk [0, 1] h (hk146 x3 s12) rfl
    · refine jx_iload_n h dX6_readFactor_117 rfl 1 rfl ?_
      refine jx_bipush h dX6_readFactor_118 kb_10 ?_
      refine jx_imul h dX6_readFactor_120 ?_
      refine jx_aload_n h dX6_readFactor_121 rfl 0 rfl ?_
      refine jx_callVi [.int (x3 * 10)] h lc_93 (c_X6_here hG N  s12) ml_X6_48 (by omega) (Nat.le_of_ble_eq_true rfl) dX6_readFactor_122 (Nat.le_of_ble_eq_true rfl) rfl (fun r15 s14 => ?_)
      refine jx_iadd h dX6_readFactor_125 ?_
      refine jx_bipush h dX6_readFactor_126 kb_48 ?_
      refine jx_isub h dX6_readFactor_128 ?_
      refine jx_lti (fun v16 => ?_)
      refine jx_istore_n (lv' := [(3, .int v16), (0, .ref (Ga G 93)), (4, .int x4)]) h dX6_readFactor_129 rfl (Nat.le_of_ble_eq_true rfl) rfl ?_
      refine jx_aload_n h dX6_readFactor_130 rfl 1 rfl ?_
      refine jx_dup h dX6_readFactor_131 rfl ?_
      refine jx_get (v := .int (gi s14 93 2)) h fa_X6_32 lc_93 dX6_readFactor_132 rfl ?_
      refine jx_iconst h dX6_readFactor_135 ki_1 ?_
      refine jx_iadd h dX6_readFactor_136 ?_
      refine jx_put h fa_X6_32 fp_X6_2 lc_93 rfl rfl dX6_readFactor_137 (fu_X6_2 _ _ _ _) (fun s17 => ?_)
      refine jx_iincl (L := fun w => [(4, .int w), (3, .int v16), (0, .ref (Ga G 93))]) h dX6_readFactor_140 2 rfl (kn_1 _) (Nat.le_of_ble_eq_true rfl) (fun _ => rfl) (fun x4_18 => ?_)
      refine jx_goto (tgt := 101) h dX6_readFactor_143 rfl ?_
      exact jx_subk [2, 1, 0] h (ih v16 x4_18 s17) rfl
set_option maxRecDepth 20000 in
theorem c1_X6_readFactor {G : Gx} (hG : Gok G ∧ IsG G layC fsoC) (hSt : StrOk G) {q : Nat} (N : Nat) (g0 : Int32 → Int32 → Mem → Option (Unit × Mem)) (g1 : Int32 → Mem → Option (Unit × Mem)) (hg0 : ∀ (x1 : Int32) (x2 : Int32) (s : Mem), Ct G yX6_readSum cX6_readSum 6 none (5 + q) [.ref (Ga G 93), .int x1, .int x2] tvV s (g0 x1 x2 s)) (hg1 : ∀ (x1 : Int32) (s : Mem), Ct G yX6_readFactor cX6_readFactor 5 none (5 + q) [.ref (Ga G 93), .int x1] tvV s (g1 x1 s)) (x1 : Int32) (s : Mem) : Ct G yX6_readFactor cX6_readFactor 5 none (5 + (q + 1)) [.ref (Ga G 93), .int x1] tvV s (f1_X6_readFactor N g0 g1 x1 s) := by
  refine Ct.of hG (by decide) (Nat.le_of_ble_eq_true rfl) (fun P h => ?_)
  show P _ 0 [(0, .ref (Ga G 93)), (1, .int x1)] [] s
  unfold f1_X6_readFactor
  refine jx_aload_n h dX6_readFactor_0 rfl 0 rfl ?_
  refine jx_callVi [] h lc_93 (c_X6_here hG N  s) ml_X6_48 (by omega) (Nat.le_of_ble_eq_true rfl) dX6_readFactor_1 (Nat.le_of_ble_eq_true rfl) rfl (fun r2 s1 => ?_)
  refine jx_istore_n (lv' := [(2, .int r2), (0, .ref (Ga G 93)), (1, .int x1)]) h dX6_readFactor_4 rfl (Nat.le_of_ble_eq_true rfl) rfl ?_
  refine jx_ldcs h hSt (i := 4) (Nat.le_of_ble_eq_true rfl) dX6_readFactor_5 ?_
  refine jx_iload_n h dX6_readFactor_7 rfl 0 rfl ?_
  refine jx_callSi [] h (c_X6_isOf hG hSt N 4 (Nat.le_of_ble_eq_true rfl) r2 s1) ml_X6_54 (by omega) (Nat.le_of_ble_eq_true rfl) dX6_readFactor_8 (Nat.le_of_ble_eq_true rfl) rfl (fun r4 s3 => ?_)
  refine jx_if_eq (tgt := 36) h dX6_readFactor_11 rfl ?_ ?_
  · refine jx_iload_n h dX6_readFactor_36 rfl 0 rfl ?_
    refine jx_bipush h dX6_readFactor_37 kb_91 ?_
    refine jx_join (fun (j : Mem → Option (Unit × Mem)) => ∀  (s5 : Mem), P (j  s5) 56 [(0, .ref (Ga G 93)), (1, .int x1), (2, .int r2)] [] s5) (fun  s5 => ?_) (fun j56 hj56 => ?_)
    · refine jx_iload_n h dX6_readFactor_56 rfl 2 rfl ?_
      refine jx_bipush h dX6_readFactor_57 kb_91 ?_
      refine jx_icmp_ne (tgt := 89) h dX6_readFactor_59 rfl ?_ ?_
      · refine jx_iload_n h dX6_readFactor_89 rfl 2 rfl ?_
        refine jx_callSi [] h (c_X9_isDigit hG N r2 s5) ml_X6_103 (by omega) (Nat.le_of_ble_eq_true rfl) dX6_readFactor_90 (Nat.le_of_ble_eq_true rfl) rfl (fun r7 s6 => ?_)
        refine jx_if_eq (tgt := 172) h dX6_readFactor_93 rfl ?_ ?_
        · refine jx_aload_n h dX6_readFactor_172 rfl 0 rfl ?_
          refine jx_iconst h dX6_readFactor_173 ki_1 ?_
          refine jx_callVv [] h lc_93 (c_X6_fail hG N 1 s6) ml_X6_58 (by omega) (Nat.le_of_ble_eq_true rfl) dX6_readFactor_174 (Nat.le_of_ble_eq_true rfl) rfl (fun s8 => ?_)
          exact jx_vret h dX6_readFactor_177
        · refine jx_iconst h dX6_readFactor_96 ki_0 ?_
          refine jx_istore_n (lv' := [(3, .int 0), (0, .ref (Ga G 93)), (1, .int x1), (2, .int r2)]) h dX6_readFactor_97 rfl (Nat.le_of_ble_eq_true rfl) rfl ?_
          refine jx_iconst h dX6_readFactor_98 ki_0 ?_
          refine jx_istore (lv' := [(4, .int 0), (3, .int 0), (0, .ref (Ga G 93)), (1, .int x1), (2, .int r2)]) h dX6_readFactor_99 (Nat.le_of_ble_eq_true rfl) rfl ?_
          refine jx_subk [2, 1, 0] h (itr_ind (Q := (fun (f : Int32 → Int32 → Mem → Option (Unit × Mem)) => ∀ (x3 : Int32) (x4 : Int32) (s : Mem), P (f x3 x4 s) 101 [(0, .ref (Ga G 93)), (3, .int x3), (4, .int x4)] [] s)) (fun _ _ _ => jx_none h) (fun r101 ih101 => ?_) N 0 0 s6) rfl
          refine w_X6_readFactor_101 hG h N hSt g0 g1 hg0 hg1  ?_ ih101
          intro x3_20 s19
          refine jx_aload_n h dX6_readFactor_146 rfl 0 rfl ?_
          refine jx_get (v := .ref (Ga G (ix (gi s19 93 4)))) h fa_X6_18 lc_93 dX6_readFactor_147 rfl ?_
          refine jx_ltr (fun q21 => ?_)
          refine jx_ckc h (fun hq21 => ?_)
          refine jx_iload_n h dX6_readFactor_150 rfl 1 rfl ?_
          refine jx_callVv [] h (isLw_o hq21) (c_X4_add hG N q21 hq21 x3_20 s19) ml_X6_89 (by omega) (Nat.le_of_ble_eq_true rfl) dX6_readFactor_151 (Nat.le_of_ble_eq_true rfl) rfl (fun s22 => ?_)
          refine jx_aload_n h dX6_readFactor_154 rfl 0 rfl ?_
          refine jx_callVi [] h lc_93 (c_X6_here hG N  s22) ml_X6_48 (by omega) (Nat.le_of_ble_eq_true rfl) dX6_readFactor_155 (Nat.le_of_ble_eq_true rfl) rfl (fun r25 s24 => ?_)
          refine jx_callSi [] h (c_X9_isDigit hG N r25 s24) ml_X6_103 (by omega) (Nat.le_of_ble_eq_true rfl) dX6_readFactor_158 (Nat.le_of_ble_eq_true rfl) rfl (fun r27 s26 => ?_)
          refine jx_if_eq (tgt := 169) h dX6_readFactor_161 rfl ?_ ?_
          · refine jx_goto (tgt := 177) h dX6_readFactor_169 rfl ?_
            exact jx_vret h dX6_readFactor_177
          · refine jx_aload_n h dX6_readFactor_164 rfl 0 rfl ?_
            refine jx_iconst h dX6_readFactor_165 ki_2 ?_
            refine jx_callVv [] h lc_93 (c_X6_fail hG N 2 s26) ml_X6_58 (by omega) (Nat.le_of_ble_eq_true rfl) dX6_readFactor_166 (Nat.le_of_ble_eq_true rfl) rfl (fun s28 => ?_)
            refine jx_goto (tgt := 177) h dX6_readFactor_169 rfl ?_
            exact jx_vret h dX6_readFactor_177
      · refine jx_aload_n h dX6_readFactor_62 rfl 0 rfl ?_
        refine jx_dup h dX6_readFactor_63 rfl ?_
        refine jx_get (v := .int (gi s5 93 2)) h fa_X6_32 lc_93 dX6_readFactor_64 rfl ?_
        refine jx_iconst h dX6_readFactor_67 ki_1 ?_
        refine jx_iadd h dX6_readFactor_68 ?_
        refine jx_put h fa_X6_32 fp_X6_2 lc_93 rfl rfl dX6_readFactor_69 (fu_X6_2 _ _ _ _) (fun s30 => ?_)
        refine jx_aload_n h dX6_readFactor_72 rfl 0 rfl ?_
        refine jx_iconst h dX6_readFactor_73 ki_0 ?_
        refine jx_iload_n h dX6_readFactor_74 rfl 1 rfl ?_
        refine jx_iconst h dX6_readFactor_75 ki_1 ?_
        refine jx_iadd h dX6_readFactor_76 ?_
        refine jx_callVv [] h lc_93 (hg0 0 (x1 + 1) s30) ml_X6_73 (by omega) (Nat.le_of_ble_eq_true rfl) dX6_readFactor_77 (Nat.le_of_ble_eq_true rfl) rfl (fun s31 => ?_)
        refine jx_aload_n h dX6_readFactor_80 rfl 0 rfl ?_
        refine jx_bipush h dX6_readFactor_81 kb_93 ?_
        refine jx_callVv [] h lc_93 (c_X6_pass hG N 93 s31) ml_X6_45 (by omega) (Nat.le_of_ble_eq_true rfl) dX6_readFactor_83 (Nat.le_of_ble_eq_true rfl) rfl (fun s33 => ?_)
        refine jx_goto (tgt := 177) h dX6_readFactor_86 rfl ?_
        exact jx_vret h dX6_readFactor_177
    · refine jx_icmp_ne (tgt := 56) h dX6_readFactor_39 rfl ?_ ?_
      · exact jx_subk [1, 2, 0] h (hj56 s3) rfl
      · refine jx_iload_n h dX6_readFactor_42 rfl 2 rfl ?_
        refine jx_bipush h dX6_readFactor_43 kb_6 ?_
        refine jx_icmp_lt (tgt := 56) h dX6_readFactor_45 rfl ?_ ?_
        · exact jx_subk [1, 2, 0] h (hj56 s3) rfl
        · refine jx_aload_n h dX6_readFactor_48 rfl 1 rfl ?_
          refine jx_iconst h dX6_readFactor_49 ki_5 ?_
          refine jx_callVv [] h lc_93 (c_X6_fail hG N 5 s3) ml_X6_58 (by omega) (Nat.le_of_ble_eq_true rfl) dX6_readFactor_50 (Nat.le_of_ble_eq_true rfl) rfl (fun s35 => ?_)
          refine jx_goto (tgt := 177) h dX6_readFactor_53 rfl ?_
          exact jx_vret h dX6_readFactor_177
  · refine jx_aload_n h dX6_readFactor_14 rfl 1 rfl ?_
    refine jx_dup h dX6_readFactor_15 rfl ?_
    refine jx_get (v := .int (gi s3 93 2)) h fa_X6_32 lc_93 dX6_readFactor_16 rfl ?_
    refine jx_iconst h dX6_readFactor_19 ki_1 ?_
    refine jx_iadd h dX6_readFactor_20 ?_
    refine jx_put h fa_X6_32 fp_X6_2 lc_93 rfl rfl dX6_readFactor_21 (fu_X6_2 _ _ _ _) (fun s37 => ?_)
    refine jx_aload_n h dX6_readFactor_24 rfl 1 rfl ?_
    refine jx_get (v := .ref (Ga G (ix (gi s37 93 4)))) h fa_X6_18 lc_93 dX6_readFactor_25 rfl ?_
    refine jx_ltr (fun q38 => ?_)
    refine jx_ckc h (fun hq38 => ?_)
    refine jx_iload_n h dX6_readFactor_28 rfl 0 rfl ?_
    refine jx_ineg h dX6_readFactor_29 ?_
    refine jx_callVv [] h (isLw_o hq38) (c_X4_add hG N q38 hq38 (-r2) s37) ml_X6_89 (by omega) (Nat.le_of_ble_eq_true rfl) dX6_readFactor_30 (Nat.le_of_ble_eq_true rfl) rfl (fun s39 => ?_)
    refine jx_goto (tgt := 177) h dX6_readFactor_33 rfl ?_
    exact jx_vret h dX6_readFactor_177
noncomputable def gr_X6_readSum (N : Nat) : Nat → (Int32 → Int32 → Mem → Option (Unit × Mem)) × (Int32 → Mem → Option (Unit × Mem)) := itr ((fun _ _ _ => none), (fun _ _ => none)) (fun r => (f1_X6_readSum N r.1 r.2, f1_X6_readFactor N r.1 r.2))
noncomputable def f_X6_readSum (N : Nat) (n : Nat) (x1 : Int32) (x2 : Int32) (s : Mem) : Option (Unit × Mem) := (gr_X6_readSum N n).1 x1 x2 s
noncomputable def f_X6_readFactor (N : Nat) (n : Nat) (x1 : Int32) (s : Mem) : Option (Unit × Mem) := (gr_X6_readSum N n).2 x1 s
theorem cg_X6_readSum {G : Gx} (hG : Gok G ∧ IsG G layC fsoC) (hSt : StrOk G) (N : Nat) : ∀ n : Nat, (fun (n : Nat) (r : (Int32 → Int32 → Mem → Option (Unit × Mem)) × (Int32 → Mem → Option (Unit × Mem))) => (∀ (x1 : Int32) (x2 : Int32) (s : Mem), Ct G yX6_readSum cX6_readSum 6 none (5 + n) [.ref (Ga G 93), .int x1, .int x2] tvV s (r.1 x1 x2 s)) ∧ (∀ (x1 : Int32) (s : Mem), Ct G yX6_readFactor cX6_readFactor 5 none (5 + n) [.ref (Ga G 93), .int x1] tvV s (r.2 x1 s))) n (gr_X6_readSum N n) := by
  intro n
  unfold gr_X6_readSum
  refine itr_indn (Q := fun (n : Nat) (r : (Int32 → Int32 → Mem → Option (Unit × Mem)) × (Int32 → Mem → Option (Unit × Mem))) => (∀ (x1 : Int32) (x2 : Int32) (s : Mem), Ct G yX6_readSum cX6_readSum 6 none (5 + n) [.ref (Ga G 93), .int x1, .int x2] tvV s (r.1 x1 x2 s)) ∧ (∀ (x1 : Int32) (s : Mem), Ct G yX6_readFactor cX6_readFactor 5 none (5 + n) [.ref (Ga G 93), .int x1] tvV s (r.2 x1 s))) ?_ ?_ n
  · exact ⟨fun x1 x2 s => Ct_none, fun x1 s => Ct_none⟩
  · intro n r ih
    exact ⟨fun x1 x2 s => c1_X6_readSum hG hSt N r.1 r.2 ih.1 ih.2 x1 x2 s, fun x1 s => c1_X6_readFactor hG hSt N r.1 r.2 ih.1 ih.2 x1 s⟩
theorem c_X6_readSum {G : Gx} (hG : Gok G ∧ IsG G layC fsoC) (hSt : StrOk G) (N n : Nat) (x1 : Int32) (x2 : Int32) (s : Mem) : Ct G yX6_readSum cX6_readSum 6 none (5 + n) [.ref (Ga G 93), .int x1, .int x2] tvV s (f_X6_readSum N n x1 x2 s) := (cg_X6_readSum hG hSt N n).1 x1 x2 s
theorem c_X6_readFactor {G : Gx} (hG : Gok G ∧ IsG G layC fsoC) (hSt : StrOk G) (N n : Nat) (x1 : Int32) (s : Mem) : Ct G yX6_readFactor cX6_readFactor 5 none (5 + n) [.ref (Ga G 93), .int x1] tvV s (f_X6_readFactor N n x1 s) := (cg_X6_readSum hG hSt N n).2 x1 s
noncomputable def st_X6_readCondition_42 (N : Nat) (g0 : Int32 → Int32 → Mem → Option (Unit × Mem)) (g1 : Int32 → Mem → Option (Unit × Mem)) (x1 : Int32) (x2 : Int32) (x3 : Int32)  (rec : Int32 → Mem → Option (Unit × Mem)) (x4 : Int32) (s0 : Mem) : Option (Unit × Mem) :=
  if 240 ≤ x4 then (some ((), s0)) else if (gi s0 93 3) = 0 then (bd (f_X6_here N s0) (fun r6 s5 => if r6 = x3 then (lt (si s5 93 2 ((gi s5 93 2) + 1)) (fun s7 => bd (g0 (x1 + 1) x2 s7) (fun _ s8 => lt (ix (gi s8 93 4)) (fun q10 => ckc (isLw q10) (bd (f_X4_add N q10 (-x3) s8) (fun _ s11 => lt (x4 + 1) (fun x4_13 => rec x4_13 s11))))))) else some ((), s5))) else some ((), s0)
noncomputable def f1_X6_readCondition (N : Nat) (g0 : Int32 → Int32 → Mem → Option (Unit × Mem)) (g1 : Int32 → Mem → Option (Unit × Mem)) (x1 : Int32) (x2 : Int32) (s : Mem) : Option (Unit × Mem) :=
  if (gi s 93 3) = 0 then (if x1 < 2 then (lt (fun (t2 : Int32) (s1 : Mem) => bd (g0 (x1 + 1) x2 s1) (fun _ s3 => itr (fun _ _ => none) (st_X6_readCondition_42 N g0 g1 x1 x2 t2) N 0 s3)) (fun j30 => if x1 = 0 then (j30 124 s) else j30 38 s)) else bd (g1 x2 s) (fun _ s14 => some ((), s14))) else some ((), s)
set_option maxRecDepth 20000 in
theorem w_X6_readCondition_42 {G : Gx} (hG : Gok G ∧ IsG G layC fsoC) {q : Nat} {P : Option (Unit × Mem) → Nat → List (Nat × Value) → List Value → Mem → Prop} (h : Jk G layC fsoC RX6 cX6_readCondition 5 none (106 + (q + 1)) tvV P) (N : Nat) (hSt : StrOk G) (g0 : Int32 → Int32 → Mem → Option (Unit × Mem)) (g1 : Int32 → Mem → Option (Unit × Mem)) (hg0 : ∀ (x1 : Int32) (x2 : Int32) (s : Mem), Ct G yX6_readCondition cX6_readCondition 5 none (106 + q) [.ref (Ga G 93), .int x1, .int x2] tvV s (g0 x1 x2 s)) (hg1 : ∀ (x1 : Int32) (s : Mem), Ct G yX6_readTest cX6_readTest 5 none (106 + q) [.ref (Ga G 93), .int x1] tvV s (g1 x1 s)) (x1 : Int32) (x2 : Int32) (x3 : Int32) {rec : Int32 → Mem → Option (Unit × Mem)} (ih : ∀ (x4 : Int32) (s : Mem), P (rec x4 s) 42 [(0, .ref (Ga G 93)), (1, .int x1), (2, .int x2), (3, .int x3), (4, .int x4)] [] s) : ∀ (x4 : Int32) (s : Mem), P (st_X6_readCondition_42 N g0 g1 x1 x2 x3 rec x4 s) 42 [(0, .ref (Ga G 93)), (1, .int x1), (2, .int x2), (3, .int x3), (4, .int x4)] [] s := by
  intro x4 s0
  unfold st_X6_readCondition_42
  refine jx_iload h dX6_readCondition_42 4 rfl ?_
  refine jx_sipush h dX6_readCondition_44 ks_240 ?_
  refine jx_icmp_ge (tgt := 98) h dX6_readCondition_47 rfl ?_ ?_
  · exact jx_vret h dX6_readCondition_98
  · refine jx_aload_n h dX6_readCondition_50 rfl 0 rfl ?_
    refine jx_get (v := .int (gi s0 93 3)) h fa_X6_35 lc_93 dX6_readCondition_51 rfl ?_
    refine jx_if_ne (tgt := 98) h dX6_readCondition_54 rfl ?_ ?_
    · exact jx_vret h dX6_readCondition_98
    · refine jx_aload_n h dX6_readCondition_57 rfl 0 rfl ?_
      refine jx_callVi [] h lc_93 (c_X6_here hG N  s0) ml_X6_48 (by omega) (Nat.le_of_ble_eq_true rfl) dX6_readCondition_58 (Nat.le_of_ble_eq_true rfl) rfl (fun r6 s5 => ?_)
      refine jx_iload_n h dX6_readCondition_61 rfl 3 rfl ?_
      refine jx_icmp_ne (tgt := 98) h dX6_readCondition_62 rfl ?_ ?_
      · exact jx_vret h dX6_readCondition_98
      · refine jx_aload_n h dX6_readCondition_65 rfl 0 rfl ?_
        refine jx_dup h dX6_readCondition_66 rfl ?_
        refine jx_get (v := .int (gi s5 93 2)) h fa_X6_32 lc_93 dX6_readCondition_67 rfl ?_
        refine jx_iconst h dX6_readCondition_70 ki_1 ?_
        refine jx_iadd h dX6_readCondition_71 ?_
        refine jx_put h fa_X6_32 fp_X6_2 lc_93 rfl rfl dX6_readCondition_72 (fu_X6_2 _ _ _ _) (fun s7 => ?_)
        refine jx_aload_n h dX6_readCondition_75 rfl 0 rfl ?_
        refine jx_iload_n h dX6_readCondition_76 rfl 1 rfl ?_
        refine jx_iconst h dX6_readCondition_77 ki_1 ?_
        refine jx_iadd h dX6_readCondition_78 ?_
        refine jx_iload_n h dX6_readCondition_79 rfl 2 rfl ?_
        refine jx_callVv [] h lc_93 (hg0 (x1 + 1) x2 s7) ml_X6_80 (by omega) (Nat.le_of_ble_eq_true rfl) dX6_readCondition_80 (Nat.le_of_ble_eq_true rfl) rfl (fun s8 => ?_)
        refine jx_aload_n h dX6_readCondition_83 rfl 0 rfl ?_
        refine jx_get (v := .ref (Ga G (ix (gi s8 93 4)))) h fa_X6_18 lc_93 dX6_readCondition_84 rfl ?_
        refine jx_ltr (fun q10 => ?_)
        refine jx_ckc h (fun hq10 => ?_)
        refine jx_iload_n h dX6_readCondition_87 rfl 3 rfl ?_
        refine jx_ineg h dX6_readCondition_88 ?_
        refine jx_callVv [] h (isLw_o hq10) (c_X4_add hG N q10 hq10 (-x3) s8) ml_X6_89 (by omega) (Nat.le_of_ble_eq_true rfl) dX6_readCondition_89 (Nat.le_of_ble_eq_true rfl) rfl (fun s11 => ?_)
        refine jx_iincl (L := fun w => [(4, .int w), (0, .ref (Ga G 93)), (1, .int x1), (2, .int x2), (3, .int x3)]) h dX6_readCondition_92 4 rfl (kn_1 _) (Nat.le_of_ble_eq_true rfl) (fun _ => rfl) (fun x4_13 => ?_)
        refine jx_goto (tgt := 42) h dX6_readCondition_95 rfl ?_
        exact jx_subk [1, 2, 3, 4, 0] h (ih x4_13 s11) rfl
set_option maxRecDepth 20000 in
theorem c1_X6_readCondition {G : Gx} (hG : Gok G ∧ IsG G layC fsoC) (hSt : StrOk G) {q : Nat} (N : Nat) (g0 : Int32 → Int32 → Mem → Option (Unit × Mem)) (g1 : Int32 → Mem → Option (Unit × Mem)) (hg0 : ∀ (x1 : Int32) (x2 : Int32) (s : Mem), Ct G yX6_readCondition cX6_readCondition 5 none (106 + q) [.ref (Ga G 93), .int x1, .int x2] tvV s (g0 x1 x2 s)) (hg1 : ∀ (x1 : Int32) (s : Mem), Ct G yX6_readTest cX6_readTest 5 none (106 + q) [.ref (Ga G 93), .int x1] tvV s (g1 x1 s)) (x1 : Int32) (x2 : Int32) (s : Mem) : Ct G yX6_readCondition cX6_readCondition 5 none (106 + (q + 1)) [.ref (Ga G 93), .int x1, .int x2] tvV s (f1_X6_readCondition N g0 g1 x1 x2 s) := by
  refine Ct.of hG (by decide) (Nat.le_of_ble_eq_true rfl) (fun P h => ?_)
  show P _ 0 [(0, .ref (Ga G 93)), (1, .int x1), (2, .int x2)] [] s
  unfold f1_X6_readCondition
  refine jx_aload_n h dX6_readCondition_0 rfl 0 rfl ?_
  refine jx_get (v := .int (gi s 93 3)) h fa_X6_35 lc_93 dX6_readCondition_1 rfl ?_
  refine jx_if_eq (tgt := 8) h dX6_readCondition_4 rfl ?_ ?_
  · refine jx_iload_n h dX6_readCondition_8 rfl 1 rfl ?_
    refine jx_iconst h dX6_readCondition_9 ki_2 ?_
    refine jx_icmp_lt (tgt := 19) h dX6_readCondition_10 rfl ?_ ?_
    · refine jx_iload_n h dX6_readCondition_19 rfl 1 rfl ?_
      refine jx_join (fun (j : Int32 → Mem → Option (Unit × Mem)) => ∀ (t2 : Int32) (s1 : Mem), P (j t2 s1) 30 [(0, .ref (Ga G 93)), (1, .int x1), (2, .int x2)] [.int t2] s1) (fun t2 s1 => ?_) (fun j30 hj30 => ?_)
      · refine jx_istore_n (lv' := [(3, .int t2), (0, .ref (Ga G 93)), (1, .int x1), (2, .int x2)]) h dX6_readCondition_30 rfl (Nat.le_of_ble_eq_true rfl) rfl ?_
        refine jx_aload_n h dX6_readCondition_31 rfl 1 rfl ?_
        refine jx_iload_n h dX6_readCondition_32 rfl 2 rfl ?_
        refine jx_iconst h dX6_readCondition_33 ki_1 ?_
        refine jx_iadd h dX6_readCondition_34 ?_
        refine jx_iload_n h dX6_readCondition_35 rfl 3 rfl ?_
        refine jx_callVv [] h lc_93 (hg0 (x1 + 1) x2 s1) ml_X6_80 (by omega) (Nat.le_of_ble_eq_true rfl) dX6_readCondition_36 (Nat.le_of_ble_eq_true rfl) rfl (fun s3 => ?_)
        refine jx_iconst h dX6_readCondition_39 ki_0 ?_
        refine jx_istore (lv' := [(4, .int 0), (3, .int t2), (0, .ref (Ga G 93)), (1, .int x1), (2, .int x2)]) h dX6_readCondition_40 (Nat.le_of_ble_eq_true rfl) rfl ?_
        refine jx_subk [2, 3, 4, 1, 0] h (itr_ind (Q := (fun (f : Int32 → Mem → Option (Unit × Mem)) => ∀ (x4 : Int32) (s : Mem), P (f x4 s) 42 [(0, .ref (Ga G 93)), (1, .int x1), (2, .int x2), (3, .int t2), (4, .int x4)] [] s)) (fun _ _ => jx_none h) (fun r42 ih42 => ?_) N 0 s3) rfl
        refine w_X6_readCondition_42 hG h N hSt g0 g1 hg0 hg1 x1 x2 t2  ih42
      · refine jx_if_ne (tgt := 28) h dX6_readCondition_20 rfl ?_ ?_
        · refine jx_bipush h dX6_readCondition_28 kb_38 ?_
          exact hj30 38 s
        · refine jx_bipush h dX6_readCondition_23 kb_124 ?_
          refine jx_goto (tgt := 30) h dX6_readCondition_25 rfl ?_
          exact hj30 124 s
    · refine jx_aload_n h dX6_readCondition_13 rfl 0 rfl ?_
      refine jx_iload_n h dX6_readCondition_14 rfl 2 rfl ?_
      refine jx_callVv [] h lc_93 (hg1 x2 s) ml_X6_86 (by omega) (Nat.le_of_ble_eq_true rfl) dX6_readCondition_15 (Nat.le_of_ble_eq_true rfl) rfl (fun s14 => ?_)
      exact jx_vret h dX6_readCondition_18
  · exact jx_vret h dX6_readCondition_7
noncomputable def f1_X6_readTest (N : Nat) (g0 : Int32 → Int32 → Mem → Option (Unit × Mem)) (g1 : Int32 → Mem → Option (Unit × Mem)) (x1 : Int32) (s : Mem) : Option (Unit × Mem) :=
  bd (f_X6_here N s) (fun r2 s1 => lt (fun (t4 : Int32) (s3 : Mem) => lt (fun  (s5 : Mem) => if r2 = 33 then (lt (si s5 93 2 ((gi s5 93 2) + 1)) (fun s27 => bd (g0 2 (x1 + 1) s27) (fun _ s28 => lt (ix (gi s28 93 4)) (fun q30 => ckc (isLw q30) (bd (f_X4_add N q30 (-r2) s28) (fun _ s31 => some ((), s31))))))) else if r2 = 40 then (lt (si s5 93 2 ((gi s5 93 2) + 1)) (fun s22 => bd (g0 0 (x1 + 1) s22) (fun _ s23 => bd (f_X6_pass N 41 s23) (fun _ s25 => some ((), s25))))) else bd (f_X6_readSum N 100 0 x1 s5) (fun _ s6 => bd (f_X6_here N s6) (fun r9 s8 => if (gi s8 93 3) = 0 then (bd (f_X6_isOf N 2 r9 s8) (fun r13 s12 => if r13 = 0 then (bd (f_X6_fail N 1 s12) (fun _ s20 => some ((), s20))) else lt (si s12 93 2 ((gi s12 93 2) + 1)) (fun s14 => bd (f_X6_readSum N 100 0 x1 s14) (fun _ s15 => lt (ix (gi s15 93 4)) (fun q17 => ckc (isLw q17) (bd (f_X4_add N q17 (-r9) s15) (fun _ s18 => some ((), s18)))))))) else bd (f_X6_fail N 1 s8) (fun _ s10 => some ((), s10))))) (fun j41 => if t4 = 0 then (j41 s3) else if x1 < 6 then (j41 s3) else bd (f_X6_fail N 5 s3) (fun _ s33 => some ((), s33)))) (fun j22 => if r2 = 33 then (j22 1 s1) else if r2 = 40 then (j22 1 s1) else j22 0 s1))
set_option maxRecDepth 20000 in
theorem c1_X6_readTest {G : Gx} (hG : Gok G ∧ IsG G layC fsoC) (hSt : StrOk G) {q : Nat} (N : Nat) (g0 : Int32 → Int32 → Mem → Option (Unit × Mem)) (g1 : Int32 → Mem → Option (Unit × Mem)) (hg0 : ∀ (x1 : Int32) (x2 : Int32) (s : Mem), Ct G yX6_readCondition cX6_readCondition 5 none (106 + q) [.ref (Ga G 93), .int x1, .int x2] tvV s (g0 x1 x2 s)) (hg1 : ∀ (x1 : Int32) (s : Mem), Ct G yX6_readTest cX6_readTest 5 none (106 + q) [.ref (Ga G 93), .int x1] tvV s (g1 x1 s)) (x1 : Int32) (s : Mem) : Ct G yX6_readTest cX6_readTest 5 none (106 + (q + 1)) [.ref (Ga G 93), .int x1] tvV s (f1_X6_readTest N g0 g1 x1 s) := by
  refine Ct.of hG (by decide) (Nat.le_of_ble_eq_true rfl) (fun P h => ?_)
  show P _ 0 [(0, .ref (Ga G 93)), (1, .int x1)] [] s
  unfold f1_X6_readTest
  refine jx_aload_n h dX6_readTest_0 rfl 0 rfl ?_
  refine jx_callVi [] h lc_93 (c_X6_here hG N  s) ml_X6_48 (by omega) (Nat.le_of_ble_eq_true rfl) dX6_readTest_1 (Nat.le_of_ble_eq_true rfl) rfl (fun r2 s1 => ?_)
  refine jx_istore_n (lv' := [(2, .int r2), (0, .ref (Ga G 93)), (1, .int x1)]) h dX6_readTest_4 rfl (Nat.le_of_ble_eq_true rfl) rfl ?_
  refine jx_iload_n h dX6_readTest_5 rfl 0 rfl ?_
  refine jx_bipush h dX6_readTest_6 kb_33 ?_
  refine jx_join (fun (j : Int32 → Mem → Option (Unit × Mem)) => ∀ (t4 : Int32) (s3 : Mem), P (j t4 s3) 22 [(0, .ref (Ga G 93)), (1, .int x1), (2, .int r2)] [.int t4] s3) (fun t4 s3 => ?_) (fun j22 hj22 => ?_)
  · refine jx_istore_n (lv' := [(3, .int t4), (0, .ref (Ga G 93)), (1, .int x1), (2, .int r2)]) h dX6_readTest_22 rfl (Nat.le_of_ble_eq_true rfl) rfl ?_
    refine jx_iload_n h dX6_readTest_23 rfl 0 rfl ?_
    refine jx_join (fun (j : Mem → Option (Unit × Mem)) => ∀  (s5 : Mem), P (j  s5) 41 [(0, .ref (Ga G 93)), (1, .int x1), (2, .int r2)] [] s5) (fun  s5 => ?_) (fun j41 hj41 => ?_)
    · refine jx_iload_n h dX6_readTest_41 rfl 2 rfl ?_
      refine jx_bipush h dX6_readTest_42 kb_33 ?_
      refine jx_icmp_ne (tgt := 77) h dX6_readTest_44 rfl ?_ ?_
      · refine jx_iload_n h dX6_readTest_77 rfl 2 rfl ?_
        refine jx_bipush h dX6_readTest_78 kb_40 ?_
        refine jx_icmp_ne (tgt := 110) h dX6_readTest_80 rfl ?_ ?_
        · refine jx_aload_n h dX6_readTest_110 rfl 0 rfl ?_
          refine jx_iconst h dX6_readTest_111 ki_0 ?_
          refine jx_iload_n h dX6_readTest_112 rfl 1 rfl ?_
          refine jx_callVv [] h lc_93 (c_X6_readSum hG hSt N 100 0 x1 s5) ml_X6_73 (by omega) (Nat.le_of_ble_eq_true rfl) dX6_readTest_113 (Nat.le_of_ble_eq_true rfl) rfl (fun s6 => ?_)
          refine jx_aload_n h dX6_readTest_116 rfl 0 rfl ?_
          refine jx_callVi [] h lc_93 (c_X6_here hG N  s6) ml_X6_48 (by omega) (Nat.le_of_ble_eq_true rfl) dX6_readTest_117 (Nat.le_of_ble_eq_true rfl) rfl (fun r9 s8 => ?_)
          refine jx_istore (lv' := [(4, .int r9), (0, .ref (Ga G 93)), (1, .int x1), (2, .int r2)]) h dX6_readTest_120 (Nat.le_of_ble_eq_true rfl) rfl ?_
          refine jx_aload_n h dX6_readTest_122 rfl 1 rfl ?_
          refine jx_get (v := .int (gi s8 93 3)) h fa_X6_35 lc_93 dX6_readTest_123 rfl ?_
          refine jx_if_ne (tgt := 139) h dX6_readTest_126 rfl ?_ ?_
          · refine jx_aload_n h dX6_readTest_139 rfl 1 rfl ?_
            refine jx_iconst h dX6_readTest_140 ki_1 ?_
            refine jx_callVv [] h lc_93 (c_X6_fail hG N 1 s8) ml_X6_58 (by omega) (Nat.le_of_ble_eq_true rfl) dX6_readTest_141 (Nat.le_of_ble_eq_true rfl) rfl (fun s10 => ?_)
            exact jx_vret h dX6_readTest_144
          · refine jx_ldcs h hSt (i := 2) (Nat.le_of_ble_eq_true rfl) dX6_readTest_129 ?_
            refine jx_iload h dX6_readTest_131 0 rfl ?_
            refine jx_callSi [] h (c_X6_isOf hG hSt N 2 (Nat.le_of_ble_eq_true rfl) r9 s8) ml_X6_54 (by omega) (Nat.le_of_ble_eq_true rfl) dX6_readTest_133 (Nat.le_of_ble_eq_true rfl) rfl (fun r13 s12 => ?_)
            refine jx_if_ne (tgt := 145) h dX6_readTest_136 rfl ?_ ?_
            · refine jx_aload_n h dX6_readTest_145 rfl 1 rfl ?_
              refine jx_dup h dX6_readTest_146 rfl ?_
              refine jx_get (v := .int (gi s12 93 2)) h fa_X6_32 lc_93 dX6_readTest_147 rfl ?_
              refine jx_iconst h dX6_readTest_150 ki_1 ?_
              refine jx_iadd h dX6_readTest_151 ?_
              refine jx_put h fa_X6_32 fp_X6_2 lc_93 rfl rfl dX6_readTest_152 (fu_X6_2 _ _ _ _) (fun s14 => ?_)
              refine jx_aload_n h dX6_readTest_155 rfl 1 rfl ?_
              refine jx_iconst h dX6_readTest_156 ki_0 ?_
              refine jx_iload_n h dX6_readTest_157 rfl 2 rfl ?_
              refine jx_callVv [] h lc_93 (c_X6_readSum hG hSt N 100 0 x1 s14) ml_X6_73 (by omega) (Nat.le_of_ble_eq_true rfl) dX6_readTest_158 (Nat.le_of_ble_eq_true rfl) rfl (fun s15 => ?_)
              refine jx_aload_n h dX6_readTest_161 rfl 1 rfl ?_
              refine jx_get (v := .ref (Ga G (ix (gi s15 93 4)))) h fa_X6_18 lc_93 dX6_readTest_162 rfl ?_
              refine jx_ltr (fun q17 => ?_)
              refine jx_ckc h (fun hq17 => ?_)
              refine jx_iload h dX6_readTest_165 0 rfl ?_
              refine jx_ineg h dX6_readTest_167 ?_
              refine jx_callVv [] h (isLw_o hq17) (c_X4_add hG N q17 hq17 (-r9) s15) ml_X6_89 (by omega) (Nat.le_of_ble_eq_true rfl) dX6_readTest_168 (Nat.le_of_ble_eq_true rfl) rfl (fun s18 => ?_)
              exact jx_vret h dX6_readTest_171
            · refine jx_aload_n h dX6_readTest_139 rfl 1 rfl ?_
              refine jx_iconst h dX6_readTest_140 ki_1 ?_
              refine jx_callVv [] h lc_93 (c_X6_fail hG N 1 s12) ml_X6_58 (by omega) (Nat.le_of_ble_eq_true rfl) dX6_readTest_141 (Nat.le_of_ble_eq_true rfl) rfl (fun s20 => ?_)
              exact jx_vret h dX6_readTest_144
        · refine jx_aload_n h dX6_readTest_83 rfl 0 rfl ?_
          refine jx_dup h dX6_readTest_84 rfl ?_
          refine jx_get (v := .int (gi s5 93 2)) h fa_X6_32 lc_93 dX6_readTest_85 rfl ?_
          refine jx_iconst h dX6_readTest_88 ki_1 ?_
          refine jx_iadd h dX6_readTest_89 ?_
          refine jx_put h fa_X6_32 fp_X6_2 lc_93 rfl rfl dX6_readTest_90 (fu_X6_2 _ _ _ _) (fun s22 => ?_)
          refine jx_aload_n h dX6_readTest_93 rfl 0 rfl ?_
          refine jx_iconst h dX6_readTest_94 ki_0 ?_
          refine jx_iload_n h dX6_readTest_95 rfl 1 rfl ?_
          refine jx_iconst h dX6_readTest_96 ki_1 ?_
          refine jx_iadd h dX6_readTest_97 ?_
          refine jx_callVv [] h lc_93 (hg0 0 (x1 + 1) s22) ml_X6_80 (by omega) (Nat.le_of_ble_eq_true rfl) dX6_readTest_98 (Nat.le_of_ble_eq_true rfl) rfl (fun s23 => ?_)
          refine jx_aload_n h dX6_readTest_101 rfl 0 rfl ?_
          refine jx_bipush h dX6_readTest_102 kb_41 ?_
          refine jx_callVv [] h lc_93 (c_X6_pass hG N 41 s23) ml_X6_45 (by omega) (Nat.le_of_ble_eq_true rfl) dX6_readTest_104 (Nat.le_of_ble_eq_true rfl) rfl (fun s25 => ?_)
          refine jx_goto (tgt := 171) h dX6_readTest_107 rfl ?_
          exact jx_vret h dX6_readTest_171
      · refine jx_aload_n h dX6_readTest_47 rfl 0 rfl ?_
        refine jx_dup h dX6_readTest_48 rfl ?_
        refine jx_get (v := .int (gi s5 93 2)) h fa_X6_32 lc_93 dX6_readTest_49 rfl ?_
        refine jx_iconst h dX6_readTest_52 ki_1 ?_
        refine jx_iadd h dX6_readTest_53 ?_
        refine jx_put h fa_X6_32 fp_X6_2 lc_93 rfl rfl dX6_readTest_54 (fu_X6_2 _ _ _ _) (fun s27 => ?_)
        refine jx_aload_n h dX6_readTest_57 rfl 0 rfl ?_
        refine jx_iconst h dX6_readTest_58 ki_2 ?_
        refine jx_iload_n h dX6_readTest_59 rfl 1 rfl ?_
        refine jx_iconst h dX6_readTest_60 ki_1 ?_
        refine jx_iadd h dX6_readTest_61 ?_
        refine jx_callVv [] h lc_93 (hg0 2 (x1 + 1) s27) ml_X6_80 (by omega) (Nat.le_of_ble_eq_true rfl) dX6_readTest_62 (Nat.le_of_ble_eq_true rfl) rfl (fun s28 => ?_)
        refine jx_aload_n h dX6_readTest_65 rfl 0 rfl ?_
        refine jx_get (v := .ref (Ga G (ix (gi s28 93 4)))) h fa_X6_18 lc_93 dX6_readTest_66 rfl ?_
        refine jx_ltr (fun q30 => ?_)
        refine jx_ckc h (fun hq30 => ?_)
        refine jx_iload_n h dX6_readTest_69 rfl 2 rfl ?_
        refine jx_ineg h dX6_readTest_70 ?_
        refine jx_callVv [] h (isLw_o hq30) (c_X4_add hG N q30 hq30 (-r2) s28) ml_X6_89 (by omega) (Nat.le_of_ble_eq_true rfl) dX6_readTest_71 (Nat.le_of_ble_eq_true rfl) rfl (fun s31 => ?_)
        refine jx_goto (tgt := 171) h dX6_readTest_74 rfl ?_
        exact jx_vret h dX6_readTest_171
    · refine jx_if_eq (tgt := 41) h dX6_readTest_24 rfl ?_ ?_
      · exact jx_subk [1, 2, 3] h (hj41 s3) rfl
      · refine jx_iload_n h dX6_readTest_27 rfl 2 rfl ?_
        refine jx_bipush h dX6_readTest_28 kb_6 ?_
        refine jx_icmp_lt (tgt := 41) h dX6_readTest_30 rfl ?_ ?_
        · exact jx_subk [1, 2, 3] h (hj41 s3) rfl
        · refine jx_aload_n h dX6_readTest_33 rfl 1 rfl ?_
          refine jx_iconst h dX6_readTest_34 ki_5 ?_
          refine jx_callVv [] h lc_93 (c_X6_fail hG N 5 s3) ml_X6_58 (by omega) (Nat.le_of_ble_eq_true rfl) dX6_readTest_35 (Nat.le_of_ble_eq_true rfl) rfl (fun s33 => ?_)
          refine jx_goto (tgt := 171) h dX6_readTest_38 rfl ?_
          exact jx_vret h dX6_readTest_171
  · refine jx_icmp_eq (tgt := 17) h dX6_readTest_8 rfl ?_ ?_
    · refine jx_iconst h dX6_readTest_17 ki_1 ?_
      refine jx_goto (tgt := 22) h dX6_readTest_18 rfl ?_
      exact jx_subk [1, 2, 0] h (hj22 1 s1) rfl
    · refine jx_iload_n h dX6_readTest_11 rfl 0 rfl ?_
      refine jx_bipush h dX6_readTest_12 kb_40 ?_
      refine jx_icmp_ne (tgt := 21) h dX6_readTest_14 rfl ?_ ?_
      · refine jx_iconst h dX6_readTest_21 ki_0 ?_
        exact jx_subk [1, 2, 0] h (hj22 0 s1) rfl
      · refine jx_iconst h dX6_readTest_17 ki_1 ?_
        refine jx_goto (tgt := 22) h dX6_readTest_18 rfl ?_
        exact jx_subk [1, 2, 0] h (hj22 1 s1) rfl
noncomputable def gr_X6_readCondition (N : Nat) : Nat → (Int32 → Int32 → Mem → Option (Unit × Mem)) × (Int32 → Mem → Option (Unit × Mem)) := itr ((fun _ _ _ => none), (fun _ _ => none)) (fun r => (f1_X6_readCondition N r.1 r.2, f1_X6_readTest N r.1 r.2))
noncomputable def f_X6_readCondition (N : Nat) (n : Nat) (x1 : Int32) (x2 : Int32) (s : Mem) : Option (Unit × Mem) := (gr_X6_readCondition N n).1 x1 x2 s
noncomputable def f_X6_readTest (N : Nat) (n : Nat) (x1 : Int32) (s : Mem) : Option (Unit × Mem) := (gr_X6_readCondition N n).2 x1 s
theorem cg_X6_readCondition {G : Gx} (hG : Gok G ∧ IsG G layC fsoC) (hSt : StrOk G) (N : Nat) : ∀ n : Nat, (fun (n : Nat) (r : (Int32 → Int32 → Mem → Option (Unit × Mem)) × (Int32 → Mem → Option (Unit × Mem))) => (∀ (x1 : Int32) (x2 : Int32) (s : Mem), Ct G yX6_readCondition cX6_readCondition 5 none (106 + n) [.ref (Ga G 93), .int x1, .int x2] tvV s (r.1 x1 x2 s)) ∧ (∀ (x1 : Int32) (s : Mem), Ct G yX6_readTest cX6_readTest 5 none (106 + n) [.ref (Ga G 93), .int x1] tvV s (r.2 x1 s))) n (gr_X6_readCondition N n) := by
  intro n
  unfold gr_X6_readCondition
  refine itr_indn (Q := fun (n : Nat) (r : (Int32 → Int32 → Mem → Option (Unit × Mem)) × (Int32 → Mem → Option (Unit × Mem))) => (∀ (x1 : Int32) (x2 : Int32) (s : Mem), Ct G yX6_readCondition cX6_readCondition 5 none (106 + n) [.ref (Ga G 93), .int x1, .int x2] tvV s (r.1 x1 x2 s)) ∧ (∀ (x1 : Int32) (s : Mem), Ct G yX6_readTest cX6_readTest 5 none (106 + n) [.ref (Ga G 93), .int x1] tvV s (r.2 x1 s))) ?_ ?_ n
  · exact ⟨fun x1 x2 s => Ct_none, fun x1 s => Ct_none⟩
  · intro n r ih
    exact ⟨fun x1 x2 s => c1_X6_readCondition hG hSt N r.1 r.2 ih.1 ih.2 x1 x2 s, fun x1 s => c1_X6_readTest hG hSt N r.1 r.2 ih.1 ih.2 x1 s⟩
theorem c_X6_readCondition {G : Gx} (hG : Gok G ∧ IsG G layC fsoC) (hSt : StrOk G) (N n : Nat) (x1 : Int32) (x2 : Int32) (s : Mem) : Ct G yX6_readCondition cX6_readCondition 5 none (106 + n) [.ref (Ga G 93), .int x1, .int x2] tvV s (f_X6_readCondition N n x1 x2 s) := (cg_X6_readCondition hG hSt N n).1 x1 x2 s
theorem c_X6_readTest {G : Gx} (hG : Gok G ∧ IsG G layC fsoC) (hSt : StrOk G) (N n : Nat) (x1 : Int32) (s : Mem) : Ct G yX6_readTest cX6_readTest 5 none (106 + n) [.ref (Ga G 93), .int x1] tvV s (f_X6_readTest N n x1 s) := (cg_X6_readCondition hG hSt N n).2 x1 s
noncomputable def f_X6_readRule (N : Nat) (x1 : Int32) (s : Mem) : Option (Unit × Mem) :=
  bd (f_X6_here N s) (fun r2 s1 => if (gi s1 93 3) = 0 then (bd (f_X6_isOf N 3 r2 s1) (fun r6 s5 => if r6 = 0 then (bd (f_X6_fail N 1 s5) (fun _ s32 => some ((), s32))) else if x1 < 16 then (lt (si s5 93 2 ((gi s5 93 2) + 1)) (fun s7 => lt (ix (gi s7 93 4)) (fun q8 => ckc (isLw q8) (lt (si s7 q8 0 (x1 + 1)) (fun s9 => lt (ix (gi s9 93 4)) (fun q10 => ckc (isLw q10) (chk x1 16 (lt (si s9 (q10 + 1) (ix x1) r2) (fun s11 => lt (ix (gi s11 93 4)) (fun q12 => ckc (isLw q12) (lt (ix (gi s11 93 4)) (fun q13 => ckc (isLw q13) (chk x1 16 (lt (si s11 (q12 + 2) (ix x1) (gi s11 q13 6)) (fun s14 => lt (fun  (s15 : Mem) => lt (ix (gi s15 93 4)) (fun q16 => ckc (isLw q16) (lt (ix (gi s15 93 4)) (fun q17 => ckc (isLw q17) (chk x1 16 (lt (si s15 (q16 + 3) (ix x1) (gi s15 q17 6)) (fun s18 => bd (f_X6_pass N 40 s18) (fun _ s19 => bd (f_X6_readCondition N 100 0 1 s19) (fun _ s21 => bd (f_X6_pass N 41 s21) (fun _ s23 => lt (ix (gi s23 93 4)) (fun q25 => ckc (isLw q25) (lt (ix (gi s23 93 4)) (fun q26 => ckc (isLw q26) (chk x1 16 (lt (si s23 (q25 + 4) (ix x1) (gi s23 q26 6)) (fun s27 => some ((), s27))))))))))))))))) (fun j97 => if r2 = 120 then (j97 s14) else bd (f_X6_readSum N 100 0 0 s14) (fun _ s28 => j97 s28))))))))))))))))) else bd (f_X6_fail N 4 s5) (fun _ s30 => some ((), s30)))) else bd (f_X6_fail N 1 s1) (fun _ s3 => some ((), s3)))
set_option maxRecDepth 20000 in
theorem c_X6_readRule {G : Gx} (hG : Gok G ∧ IsG G layC fsoC) (hSt : StrOk G) (N : Nat) (x1 : Int32) (s : Mem) : Ct G yX6_readRule cX6_readRule 3 none 207 [.ref (Ga G 93), .int x1] tvV s (f_X6_readRule N x1 s) := by
  refine Ct.of hG (by decide) (Nat.le_of_ble_eq_true rfl) (fun P h => ?_)
  show P _ 0 [(0, .ref (Ga G 93)), (1, .int x1)] [] s
  unfold f_X6_readRule
  refine jx_aload_n h dX6_readRule_0 rfl 0 rfl ?_
  refine jx_callVi [] h lc_93 (c_X6_here hG N  s) ml_X6_48 (Nat.le_of_ble_eq_true rfl) (Nat.le_of_ble_eq_true rfl) dX6_readRule_1 (Nat.le_of_ble_eq_true rfl) rfl (fun r2 s1 => ?_)
  refine jx_istore_n (lv' := [(2, .int r2), (0, .ref (Ga G 93)), (1, .int x1)]) h dX6_readRule_4 rfl (Nat.le_of_ble_eq_true rfl) rfl ?_
  refine jx_aload_n h dX6_readRule_5 rfl 1 rfl ?_
  refine jx_get (v := .int (gi s1 93 3)) h fa_X6_35 lc_93 dX6_readRule_6 rfl ?_
  refine jx_if_ne (tgt := 21) h dX6_readRule_9 rfl ?_ ?_
  · refine jx_aload_n h dX6_readRule_21 rfl 1 rfl ?_
    refine jx_iconst h dX6_readRule_22 ki_1 ?_
    refine jx_callVv [] h lc_93 (c_X6_fail hG N 1 s1) ml_X6_58 (Nat.le_of_ble_eq_true rfl) (Nat.le_of_ble_eq_true rfl) dX6_readRule_23 (Nat.le_of_ble_eq_true rfl) rfl (fun s3 => ?_)
    exact jx_vret h dX6_readRule_26
  · refine jx_ldcs h hSt (i := 3) (Nat.le_of_ble_eq_true rfl) dX6_readRule_12 ?_
    refine jx_iload_n h dX6_readRule_14 rfl 0 rfl ?_
    refine jx_callSi [] h (c_X6_isOf hG hSt N 3 (Nat.le_of_ble_eq_true rfl) r2 s1) ml_X6_54 (Nat.le_of_ble_eq_true rfl) (Nat.le_of_ble_eq_true rfl) dX6_readRule_15 (Nat.le_of_ble_eq_true rfl) rfl (fun r6 s5 => ?_)
    refine jx_if_ne (tgt := 27) h dX6_readRule_18 rfl ?_ ?_
    · refine jx_iload_n h dX6_readRule_27 rfl 2 rfl ?_
      refine jx_bipush h dX6_readRule_28 kb_16 ?_
      refine jx_icmp_lt (tgt := 39) h dX6_readRule_30 rfl ?_ ?_
      · refine jx_aload_n h dX6_readRule_39 rfl 1 rfl ?_
        refine jx_dup h dX6_readRule_40 rfl ?_
        refine jx_get (v := .int (gi s5 93 2)) h fa_X6_32 lc_93 dX6_readRule_41 rfl ?_
        refine jx_iconst h dX6_readRule_44 ki_1 ?_
        refine jx_iadd h dX6_readRule_45 ?_
        refine jx_put h fa_X6_32 fp_X6_2 lc_93 rfl rfl dX6_readRule_46 (fu_X6_2 _ _ _ _) (fun s7 => ?_)
        refine jx_aload_n h dX6_readRule_49 rfl 1 rfl ?_
        refine jx_get (v := .ref (Ga G (ix (gi s7 93 4)))) h fa_X6_18 lc_93 dX6_readRule_50 rfl ?_
        refine jx_ltr (fun q8 => ?_)
        refine jx_ckc h (fun hq8 => ?_)
        refine jx_iload_n h dX6_readRule_53 rfl 2 rfl ?_
        refine jx_iconst h dX6_readRule_54 ki_1 ?_
        refine jx_iadd h dX6_readRule_55 ?_
        refine jx_put h fa_X6_61 fp_X4_0 (isLw_o hq8) rfl rfl dX6_readRule_56 (fu_X4_0 _ _ _ _) (fun s9 => ?_)
        refine jx_aload_n h dX6_readRule_59 rfl 1 rfl ?_
        refine jx_get (v := .ref (Ga G (ix (gi s9 93 4)))) h fa_X6_18 lc_93 dX6_readRule_60 rfl ?_
        refine jx_ltr (fun q10 => ?_)
        refine jx_ckc h (fun hq10 => ?_)
        refine jx_get (v := .ref (Ga G (q10 + 1))) h fa_X6_64 (isLw_o hq10) dX6_readRule_63 rfl ?_
        refine jx_iload_n h dX6_readRule_66 rfl 2 rfl ?_
        refine jx_iload_n h dX6_readRule_67 rfl 0 rfl ?_
        refine jx_iastore h (isLw_1 hq10) dX6_readRule_68 (fun s11 => ?_)
        refine jx_aload_n h dX6_readRule_69 rfl 1 rfl ?_
        refine jx_get (v := .ref (Ga G (ix (gi s11 93 4)))) h fa_X6_18 lc_93 dX6_readRule_70 rfl ?_
        refine jx_ltr (fun q12 => ?_)
        refine jx_ckc h (fun hq12 => ?_)
        refine jx_get (v := .ref (Ga G (q12 + 2))) h fa_X6_67 (isLw_o hq12) dX6_readRule_73 rfl ?_
        refine jx_iload_n h dX6_readRule_76 rfl 2 rfl ?_
        refine jx_aload_n h dX6_readRule_77 rfl 1 rfl ?_
        refine jx_get (v := .ref (Ga G (ix (gi s11 93 4)))) h fa_X6_18 lc_93 dX6_readRule_78 rfl ?_
        refine jx_ltr (fun q13 => ?_)
        refine jx_ckc h (fun hq13 => ?_)
        refine jx_get (v := .int (gi s11 q13 6)) h fa_X6_70 (isLw_o hq13) dX6_readRule_81 rfl ?_
        refine jx_iastore h (isLw_2 hq12) dX6_readRule_84 (fun s14 => ?_)
        refine jx_iload_n h dX6_readRule_85 rfl 0 rfl ?_
        refine jx_bipush h dX6_readRule_86 kb_120 ?_
        refine jx_join (fun (j : Mem → Option (Unit × Mem)) => ∀  (s15 : Mem), P (j  s15) 97 [(0, .ref (Ga G 93)), (1, .int x1)] [] s15) (fun  s15 => ?_) (fun j97 hj97 => ?_)
        · refine jx_aload_n h dX6_readRule_97 rfl 0 rfl ?_
          refine jx_get (v := .ref (Ga G (ix (gi s15 93 4)))) h fa_X6_18 lc_93 dX6_readRule_98 rfl ?_
          refine jx_ltr (fun q16 => ?_)
          refine jx_ckc h (fun hq16 => ?_)
          refine jx_get (v := .ref (Ga G (q16 + 3))) h fa_X6_77 (isLw_o hq16) dX6_readRule_101 rfl ?_
          refine jx_iload_n h dX6_readRule_104 rfl 1 rfl ?_
          refine jx_aload_n h dX6_readRule_105 rfl 0 rfl ?_
          refine jx_get (v := .ref (Ga G (ix (gi s15 93 4)))) h fa_X6_18 lc_93 dX6_readRule_106 rfl ?_
          refine jx_ltr (fun q17 => ?_)
          refine jx_ckc h (fun hq17 => ?_)
          refine jx_get (v := .int (gi s15 q17 6)) h fa_X6_70 (isLw_o hq17) dX6_readRule_109 rfl ?_
          refine jx_iastore h (isLw_3 hq16) dX6_readRule_112 (fun s18 => ?_)
          refine jx_aload_n h dX6_readRule_113 rfl 0 rfl ?_
          refine jx_bipush h dX6_readRule_114 kb_40 ?_
          refine jx_callVv [] h lc_93 (c_X6_pass hG N 40 s18) ml_X6_45 (Nat.le_of_ble_eq_true rfl) (Nat.le_of_ble_eq_true rfl) dX6_readRule_116 (Nat.le_of_ble_eq_true rfl) rfl (fun s19 => ?_)
          refine jx_aload_n h dX6_readRule_119 rfl 0 rfl ?_
          refine jx_iconst h dX6_readRule_120 ki_0 ?_
          refine jx_iconst h dX6_readRule_121 ki_1 ?_
          refine jx_callVv [] h lc_93 (c_X6_readCondition hG hSt N 100 0 1 s19) ml_X6_80 (Nat.le_of_ble_eq_true rfl) (Nat.le_of_ble_eq_true rfl) dX6_readRule_122 (Nat.le_of_ble_eq_true rfl) rfl (fun s21 => ?_)
          refine jx_aload_n h dX6_readRule_125 rfl 0 rfl ?_
          refine jx_bipush h dX6_readRule_126 kb_41 ?_
          refine jx_callVv [] h lc_93 (c_X6_pass hG N 41 s21) ml_X6_45 (Nat.le_of_ble_eq_true rfl) (Nat.le_of_ble_eq_true rfl) dX6_readRule_128 (Nat.le_of_ble_eq_true rfl) rfl (fun s23 => ?_)
          refine jx_aload_n h dX6_readRule_131 rfl 0 rfl ?_
          refine jx_get (v := .ref (Ga G (ix (gi s23 93 4)))) h fa_X6_18 lc_93 dX6_readRule_132 rfl ?_
          refine jx_ltr (fun q25 => ?_)
          refine jx_ckc h (fun hq25 => ?_)
          refine jx_get (v := .ref (Ga G (q25 + 4))) h fa_X6_83 (isLw_o hq25) dX6_readRule_135 rfl ?_
          refine jx_iload_n h dX6_readRule_138 rfl 1 rfl ?_
          refine jx_aload_n h dX6_readRule_139 rfl 0 rfl ?_
          refine jx_get (v := .ref (Ga G (ix (gi s23 93 4)))) h fa_X6_18 lc_93 dX6_readRule_140 rfl ?_
          refine jx_ltr (fun q26 => ?_)
          refine jx_ckc h (fun hq26 => ?_)
          refine jx_get (v := .int (gi s23 q26 6)) h fa_X6_70 (isLw_o hq26) dX6_readRule_143 rfl ?_
          refine jx_iastore h (isLw_4 hq25) dX6_readRule_146 (fun s27 => ?_)
          exact jx_vret h dX6_readRule_147
        · refine jx_icmp_eq (tgt := 97) h dX6_readRule_88 rfl ?_ ?_
          · exact jx_subk [1, 2] h (hj97 s14) rfl
          · refine jx_aload_n h dX6_readRule_91 rfl 1 rfl ?_
            refine jx_iconst h dX6_readRule_92 ki_0 ?_
            refine jx_iconst h dX6_readRule_93 ki_0 ?_
            refine jx_callVv [] h lc_93 (c_X6_readSum hG hSt N 100 0 0 s14) ml_X6_73 (Nat.le_of_ble_eq_true rfl) (Nat.le_of_ble_eq_true rfl) dX6_readRule_94 (Nat.le_of_ble_eq_true rfl) rfl (fun s28 => ?_)
            exact jx_subk [1, 2] h (hj97 s28) rfl
      · refine jx_aload_n h dX6_readRule_33 rfl 1 rfl ?_
        refine jx_iconst h dX6_readRule_34 ki_4 ?_
        refine jx_callVv [] h lc_93 (c_X6_fail hG N 4 s5) ml_X6_58 (Nat.le_of_ble_eq_true rfl) (Nat.le_of_ble_eq_true rfl) dX6_readRule_35 (Nat.le_of_ble_eq_true rfl) rfl (fun s30 => ?_)
        exact jx_vret h dX6_readRule_38
    · refine jx_aload_n h dX6_readRule_21 rfl 1 rfl ?_
      refine jx_iconst h dX6_readRule_22 ki_1 ?_
      refine jx_callVv [] h lc_93 (c_X6_fail hG N 1 s5) ml_X6_58 (Nat.le_of_ble_eq_true rfl) (Nat.le_of_ble_eq_true rfl) dX6_readRule_23 (Nat.le_of_ble_eq_true rfl) rfl (fun s32 => ?_)
      exact jx_vret h dX6_readRule_26
noncomputable def st_X6_read_34 (N : Nat)  (rec : Int32 → Mem → Option (Int32 × Mem)) (x3 : Int32) (s0 : Mem) : Option (Int32 × Mem) :=
  if 16 < x3 then (some (gi s0 93 3, s0)) else bd (f_X6_readRule N x3 s0) (fun _ s8 => if (gi s8 93 3) = 0 then (if (gi s8 93 2) = (gi s8 93 1) then (some (x3 + 1, s8)) else bd (f_X6_pass N 59 s8) (fun _ s10 => lt (x3 + 1) (fun x3_12 => rec x3_12 s10))) else some (gi s8 93 3, s8))
noncomputable def f_X6_read (N : Nat) (x1 : Nat) (x2 : Int32) (s : Mem) : Option (Int32 × Mem) :=
  lt (si s 93 0 (nI x1)) (fun s1 => lt (si s1 93 1 (imin x2 (nI (lenC x1)))) (fun s2 => lt (si s2 93 2 0) (fun s3 => lt (si s3 93 3 0) (fun s4 => lt (ix (gi s4 93 4)) (fun q5 => ckc (isLw q5) (bd (f_X4_clear N q5 s4) (fun _ s6 => itr (fun _ _ => none) (st_X6_read_34 N) N 0 s6)))))))
set_option maxRecDepth 20000 in
theorem w_X6_read_34 {G : Gx} (hG : Gok G ∧ IsG G layC fsoC) {P : Option (Int32 × Mem) → Nat → List (Nat × Value) → List Value → Mem → Prop} (h : Jk G layC fsoC RX6 cX6_read 4 (some .int) 208 tvI P) (N : Nat) (hSt : StrOk G) {rec : Int32 → Mem → Option (Int32 × Mem)} (ih : ∀ (x3 : Int32) (s : Mem), P (rec x3 s) 34 [(0, .ref (Ga G 93)), (3, .int x3)] [] s) : ∀ (x3 : Int32) (s : Mem), P (st_X6_read_34 N rec x3 s) 34 [(0, .ref (Ga G 93)), (3, .int x3)] [] s := by
  intro x3 s0
  unfold st_X6_read_34
  refine jx_iload_n h dX6_read_34 rfl 1 rfl ?_
  refine jx_bipush h dX6_read_35 kb_16 ?_
  refine jx_icmp_gt (tgt := 84) h dX6_read_37 rfl ?_ ?_
  · refine jx_aload_n h dX6_read_84 rfl 0 rfl ?_
    refine jx_get (v := .int (gi s0 93 3)) h fa_X6_35 lc_93 dX6_read_85 rfl ?_
    exact jx_iret h dX6_read_88
  · refine jx_aload_n h dX6_read_40 rfl 0 rfl ?_
    refine jx_iload_n h dX6_read_41 rfl 1 rfl ?_
    refine jx_callVv [] h lc_93 (c_X6_readRule hG hSt N x3 s0) ml_X6_41 (Nat.le_of_ble_eq_true rfl) (Nat.le_of_ble_eq_true rfl) dX6_read_42 (Nat.le_of_ble_eq_true rfl) rfl (fun s8 => ?_)
    refine jx_aload_n h dX6_read_45 rfl 0 rfl ?_
    refine jx_get (v := .int (gi s8 93 3)) h fa_X6_35 lc_93 dX6_read_46 rfl ?_
    refine jx_if_eq (tgt := 57) h dX6_read_49 rfl ?_ ?_
    · refine jx_aload_n h dX6_read_57 rfl 0 rfl ?_
      refine jx_get (v := .int (gi s8 93 2)) h fa_X6_32 lc_93 dX6_read_58 rfl ?_
      refine jx_aload_n h dX6_read_61 rfl 0 rfl ?_
      refine jx_get (v := .int (gi s8 93 1)) h fa_X6_28 lc_93 dX6_read_62 rfl ?_
      refine jx_icmp_ne (tgt := 72) h dX6_read_65 rfl ?_ ?_
      · refine jx_aload_n h dX6_read_72 rfl 0 rfl ?_
        refine jx_bipush h dX6_read_73 kb_59 ?_
        refine jx_callVv [] h lc_93 (c_X6_pass hG N 59 s8) ml_X6_45 (Nat.le_of_ble_eq_true rfl) (Nat.le_of_ble_eq_true rfl) dX6_read_75 (Nat.le_of_ble_eq_true rfl) rfl (fun s10 => ?_)
        refine jx_iincl (L := fun w => [(3, .int w), (0, .ref (Ga G 93))]) h dX6_read_78 1 rfl (kn_1 _) (Nat.le_of_ble_eq_true rfl) (fun _ => rfl) (fun x3_12 => ?_)
        refine jx_goto (tgt := 34) h dX6_read_81 rfl ?_
        exact jx_subk [1, 0] h (ih x3_12 s10) rfl
      · refine jx_iload_n h dX6_read_68 rfl 1 rfl ?_
        refine jx_iconst h dX6_read_69 ki_1 ?_
        refine jx_iadd h dX6_read_70 ?_
        exact jx_iret h dX6_read_71
    · refine jx_aload_n h dX6_read_52 rfl 0 rfl ?_
      refine jx_get (v := .int (gi s8 93 3)) h fa_X6_35 lc_93 dX6_read_53 rfl ?_
      exact jx_iret h dX6_read_56
set_option maxRecDepth 20000 in
theorem c_X6_read {G : Gx} (hG : Gok G ∧ IsG G layC fsoC) (hSt : StrOk G) (N : Nat) (x1 : Nat) (hx1 : isAr x1 = true) (x2 : Int32) (s : Mem) : Ct G yX6_read cX6_read 4 (some .int) 208 [.ref (Ga G 93), .ref (Ga G x1), .int x2] tvI s (f_X6_read N x1 x2 s) := by
  refine Ct.of hG (by decide) (Nat.le_of_ble_eq_true rfl) (fun P h => ?_)
  show P _ 0 [(0, .ref (Ga G 93)), (1, .ref (Ga G x1)), (2, .int x2)] [] s
  unfold f_X6_read
  refine jx_aload_n h dX6_read_0 rfl 0 rfl ?_
  refine jx_aload_n h dX6_read_1 rfl 1 rfl ?_
  refine jx_put (x := nI x1) h fa_X6_9 fp_X6_0 lc_93 rfl rfl dX6_read_2 (fu_X6_0 _ _ _ (Nat.lt_trans (isAr_lt hx1) (by decide))) (fun s1 => ?_)
  refine jx_aload_n h dX6_read_5 rfl 0 rfl ?_
  refine jx_iload_n h dX6_read_6 rfl 2 rfl ?_
  refine jx_aload_n h dX6_read_7 rfl 1 rfl ?_
  refine jx_alen (v := (nI (lenC x1))) h (isAr_0 hx1) rfl dX6_read_8 ?_
  refine jx_mmin h mm_X6_22 (Nat.le_of_ble_eq_true rfl) (Nat.le_of_ble_eq_true rfl) dX6_read_9 ?_
  refine jx_put h fa_X6_28 fp_X6_1 lc_93 rfl rfl dX6_read_12 (fu_X6_1 _ _ _ _) (fun s2 => ?_)
  refine jx_aload_n h dX6_read_15 rfl 0 rfl ?_
  refine jx_iconst h dX6_read_16 ki_0 ?_
  refine jx_put h fa_X6_32 fp_X6_2 lc_93 rfl rfl dX6_read_17 (fu_X6_2 _ _ _ _) (fun s3 => ?_)
  refine jx_aload_n h dX6_read_20 rfl 0 rfl ?_
  refine jx_iconst h dX6_read_21 ki_0 ?_
  refine jx_put h fa_X6_35 fp_X6_3 lc_93 rfl rfl dX6_read_22 (fu_X6_3 _ _ _ _) (fun s4 => ?_)
  refine jx_aload_n h dX6_read_25 rfl 0 rfl ?_
  refine jx_get (v := .ref (Ga G (ix (gi s4 93 4)))) h fa_X6_18 lc_93 dX6_read_26 rfl ?_
  refine jx_ltr (fun q5 => ?_)
  refine jx_ckc h (fun hq5 => ?_)
  refine jx_callVv [] h (isLw_o hq5) (c_X4_clear hG N q5 hq5 s4) ml_X6_38 (Nat.le_of_ble_eq_true rfl) (Nat.le_of_ble_eq_true rfl) dX6_read_29 (Nat.le_of_ble_eq_true rfl) rfl (fun s6 => ?_)
  refine jx_iconst h dX6_read_32 ki_0 ?_
  refine jx_istore_n (lv' := [(3, .int 0), (0, .ref (Ga G 93)), (1, .ref (Ga G x1)), (2, .int x2)]) h dX6_read_33 rfl (Nat.le_of_ble_eq_true rfl) rfl ?_
  refine jx_subk [1, 0] h (itr_ind (Q := (fun (f : Int32 → Mem → Option (Int32 × Mem)) => ∀ (x3 : Int32) (s : Mem), P (f x3 s) 34 [(0, .ref (Ga G 93)), (3, .int x3)] [] s)) (fun _ _ => jx_none h) (fun r34 ih34 => ?_) N 0 s6) rfl
  refine w_X6_read_34 hG h N hSt   ih34
noncomputable def f_X9_law (N : Nat) (x1 : Int32) (s : Mem) : Option (Int32 × Mem) :=
  bd (f_X8_has N x1 1 240 s) (fun r2 s1 => if r2 = 0 then (some ((-1), s1)) else bd (f_X8_take N s1) (fun r4 s3 => ckc (isAr r4) (bd (f_X6_read N r4 x1 s3) (fun r6 s5 => if r6 ≤ 0 then (some (r6, s5)) else lt (ix (gi s5 0 10)) (fun q7 => ckc (isLw q7) (bd (f_X6_handOver N q7 s5) (fun r9 s8 => ckc (isLw r9) (lt (si s8 0 10 (nI r9)) (fun s10 => some (r6, s10))))))))))
set_option maxRecDepth 20000 in
theorem c_X9_law {G : Gx} (hG : Gok G ∧ IsG G layC fsoC) (hSt : StrOk G) (N : Nat) (x1 : Int32) (s : Mem) : Ct G yX9_law cX9_law 3 (some .int) 209 [.ref (Ga G 0), .int x1] tvI s (f_X9_law N x1 s) := by
  refine Ct.of hG (by decide) (Nat.le_of_ble_eq_true rfl) (fun P h => ?_)
  show P _ 0 [(0, .ref (Ga G 0)), (1, .int x1)] [] s
  unfold f_X9_law
  refine jx_aload_n h dX9_law_0 rfl 0 rfl ?_
  refine jx_get (v := .ref (Ga G 1)) h fa_X9_10 lc_0 dX9_law_1 rfl ?_
  refine jx_iload_n h dX9_law_4 rfl 1 rfl ?_
  refine jx_iconst h dX9_law_5 ki_1 ?_
  refine jx_sipush h dX9_law_6 ks_240 ?_
  refine jx_callVi [] h lc_1 (c_X8_has hG N x1 1 240 s) ml_X9_115 (Nat.le_of_ble_eq_true rfl) (Nat.le_of_ble_eq_true rfl) dX9_law_9 (Nat.le_of_ble_eq_true rfl) rfl (fun r2 s1 => ?_)
  refine jx_if_ne (tgt := 17) h dX9_law_12 rfl ?_ ?_
  · refine jx_aload_n h dX9_law_17 rfl 0 rfl ?_
    refine jx_get (v := .ref (Ga G 93)) h fa_X9_39 lc_0 dX9_law_18 rfl ?_
    refine jx_aload_n h dX9_law_21 rfl 0 rfl ?_
    refine jx_get (v := .ref (Ga G 1)) h fa_X9_10 lc_0 dX9_law_22 rfl ?_
    refine jx_callVr [.ref (Ga G 93)] h lc_1 (c_X8_take hG N  s1) ml_X9_118 (Nat.le_of_ble_eq_true rfl) (Nat.le_of_ble_eq_true rfl) dX9_law_25 (Nat.le_of_ble_eq_true rfl) rfl (fun r4 s3 => ?_)
    refine jx_ckc h (fun hr4 => ?_)
    refine jx_iload_n h dX9_law_28 rfl 1 rfl ?_
    refine jx_callVi [] h lc_93 (c_X6_read hG hSt N r4 hr4 x1 s3) ml_X9_122 (Nat.le_of_ble_eq_true rfl) (Nat.le_of_ble_eq_true rfl) dX9_law_29 (Nat.le_of_ble_eq_true rfl) rfl (fun r6 s5 => ?_)
    refine jx_istore_n (lv' := [(2, .int r6), (0, .ref (Ga G 0)), (1, .int x1)]) h dX9_law_32 rfl (Nat.le_of_ble_eq_true rfl) rfl ?_
    refine jx_iload_n h dX9_law_33 rfl 0 rfl ?_
    refine jx_if_le (tgt := 52) h dX9_law_34 rfl ?_ ?_
    · refine jx_iload_n h dX9_law_52 rfl 0 rfl ?_
      exact jx_iret h dX9_law_53
    · refine jx_aload_n h dX9_law_37 rfl 1 rfl ?_
      refine jx_aload_n h dX9_law_38 rfl 1 rfl ?_
      refine jx_get (v := .ref (Ga G 93)) h fa_X9_39 lc_0 dX9_law_39 rfl ?_
      refine jx_aload_n h dX9_law_42 rfl 1 rfl ?_
      refine jx_get (v := .ref (Ga G (ix (gi s5 0 10)))) h fa_X9_74 lc_0 dX9_law_43 rfl ?_
      refine jx_ltr (fun q7 => ?_)
      refine jx_ckc h (fun hq7 => ?_)
      refine jx_callVr [.ref (Ga G 0)] h lc_93 (c_X6_handOver hG N q7 hq7 s5) ml_X9_126 (Nat.le_of_ble_eq_true rfl) (Nat.le_of_ble_eq_true rfl) dX9_law_46 (Nat.le_of_ble_eq_true rfl) rfl (fun r9 s8 => ?_)
      refine jx_ckc h (fun hr9 => ?_)
      refine jx_put (x := nI r9) h fa_X9_74 fp_X9_10 lc_0 rfl rfl dX9_law_49 (fu_X9_10 _ _ _ (isLw_lt hr9)) (fun s10 => ?_)
      refine jx_iload_n h dX9_law_52 rfl 0 rfl ?_
      exact jx_iret h dX9_law_53
  · refine jx_iconst h dX9_law_15 ki_m1 ?_
    exact jx_iret h dX9_law_16
