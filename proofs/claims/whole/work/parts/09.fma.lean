noncomputable def f_X10_in (N : Nat) (x0 : Int32) (x1 : Int32) (x2 : Int32) (s : Mem) : Option (Int32 × Mem) :=
  if x0 < x1 then (some (0, s)) else if x2 < x0 then (some (0, s)) else some (1, s)
set_option maxRecDepth 20000 in
theorem c_X10_in {G : Gx} (hG : Gok G ∧ IsG G layM fsoM) (N : Nat) (x0 : Int32) (x1 : Int32) (x2 : Int32) (s : Mem) : Ct G yX10_in cX10_in 3 (some .boolean) 0 [.int x0, .int x1, .int x2] tvI s (f_X10_in N x0 x1 x2 s) := by
  refine Ct.of hG (by decide) (Nat.le_of_ble_eq_true rfl) (fun P h => ?_)
  show P _ 0 [(0, .int x0), (1, .int x1), (2, .int x2)] [] s
  unfold f_X10_in
  refine jx_iload_n h dX10_in_0 rfl 0 rfl ?_
  refine jx_iload_n h dX10_in_1 rfl 1 rfl ?_
  refine jx_icmp_lt (tgt := 14) h dX10_in_2 rfl ?_ ?_
  · refine jx_iconst h dX10_in_14 ki_0 ?_
    exact jx_zret h rfl dX10_in_15
  · refine jx_iload_n h dX10_in_5 rfl 0 rfl ?_
    refine jx_iload_n h dX10_in_6 rfl 2 rfl ?_
    refine jx_icmp_gt (tgt := 14) h dX10_in_7 rfl ?_ ?_
    · refine jx_iconst h dX10_in_14 ki_0 ?_
      exact jx_zret h rfl dX10_in_15
    · refine jx_iconst h dX10_in_10 ki_1 ?_
      refine jx_goto (tgt := 15) h dX10_in_11 rfl ?_
      exact jx_zret h rfl dX10_in_15
noncomputable def f_X10_min (N : Nat) (x0 : Int32) (x1 : Int32) (s : Mem) : Option (Int32 × Mem) :=
  if x1 ≤ x0 then (some (x1, s)) else some (x0, s)
set_option maxRecDepth 20000 in
theorem c_X10_min {G : Gx} (hG : Gok G ∧ IsG G layM fsoM) (N : Nat) (x0 : Int32) (x1 : Int32) (s : Mem) : Ct G yX10_min cX10_min 2 (some .int) 0 [.int x0, .int x1] tvI s (f_X10_min N x0 x1 s) := by
  refine Ct.of hG (by decide) (Nat.le_of_ble_eq_true rfl) (fun P h => ?_)
  show P _ 0 [(0, .int x0), (1, .int x1)] [] s
  unfold f_X10_min
  refine jx_iload_n h dX10_min_0 rfl 0 rfl ?_
  refine jx_iload_n h dX10_min_1 rfl 1 rfl ?_
  refine jx_icmp_ge (tgt := 9) h dX10_min_2 rfl ?_ ?_
  · refine jx_iload_n h dX10_min_9 rfl 1 rfl ?_
    exact jx_iret h dX10_min_10
  · refine jx_iload_n h dX10_min_5 rfl 0 rfl ?_
    refine jx_goto (tgt := 10) h dX10_min_6 rfl ?_
    exact jx_iret h dX10_min_10
noncomputable def f_X10_max (N : Nat) (x0 : Int32) (x1 : Int32) (s : Mem) : Option (Int32 × Mem) :=
  if x0 ≤ x1 then (some (x1, s)) else some (x0, s)
set_option maxRecDepth 20000 in
theorem c_X10_max {G : Gx} (hG : Gok G ∧ IsG G layM fsoM) (N : Nat) (x0 : Int32) (x1 : Int32) (s : Mem) : Ct G yX10_max cX10_max 2 (some .int) 0 [.int x0, .int x1] tvI s (f_X10_max N x0 x1 s) := by
  refine Ct.of hG (by decide) (Nat.le_of_ble_eq_true rfl) (fun P h => ?_)
  show P _ 0 [(0, .int x0), (1, .int x1)] [] s
  unfold f_X10_max
  refine jx_iload_n h dX10_max_0 rfl 0 rfl ?_
  refine jx_iload_n h dX10_max_1 rfl 1 rfl ?_
  refine jx_icmp_le (tgt := 9) h dX10_max_2 rfl ?_ ?_
  · refine jx_iload_n h dX10_max_9 rfl 1 rfl ?_
    exact jx_iret h dX10_max_10
  · refine jx_iload_n h dX10_max_5 rfl 0 rfl ?_
    refine jx_goto (tgt := 10) h dX10_max_6 rfl ?_
    exact jx_iret h dX10_max_10
noncomputable def f_X10_has (N : Nat) (x0 : Int32) (x1 : Int32) (s : Mem) : Option (Int32 × Mem) :=
  if ((x0 >>> (x1 &&& 31)) &&& 1) = 1 then (some (1, s)) else some (0, s)
set_option maxRecDepth 20000 in
theorem c_X10_has {G : Gx} (hG : Gok G ∧ IsG G layM fsoM) (N : Nat) (x0 : Int32) (x1 : Int32) (s : Mem) : Ct G yX10_has cX10_has 2 (some .boolean) 0 [.int x0, .int x1] tvI s (f_X10_has N x0 x1 s) := by
  refine Ct.of hG (by decide) (Nat.le_of_ble_eq_true rfl) (fun P h => ?_)
  show P _ 0 [(0, .int x0), (1, .int x1)] [] s
  unfold f_X10_has
  refine jx_iload_n h dX10_has_0 rfl 0 rfl ?_
  refine jx_iload_n h dX10_has_1 rfl 1 rfl ?_
  refine jx_ishr h dX10_has_2 ?_
  refine jx_iconst h dX10_has_3 ki_1 ?_
  refine jx_iand h dX10_has_4 ?_
  refine jx_iconst h dX10_has_5 ki_1 ?_
  refine jx_icmp_ne (tgt := 13) h dX10_has_6 rfl ?_ ?_
  · refine jx_iconst h dX10_has_13 ki_0 ?_
    exact jx_zret h rfl dX10_has_14
  · refine jx_iconst h dX10_has_9 ki_1 ?_
    refine jx_goto (tgt := 14) h dX10_has_10 rfl ?_
    exact jx_zret h rfl dX10_has_14
noncomputable def st_X10_bits_4 (N : Nat) (x0 : Int32)  (rec : Int32 → Int32 → Mem → Option (Int32 × Mem)) (x1 : Int32) (x2 : Int32) (s0 : Mem) : Option (Int32 × Mem) :=
  if 12 ≤ x2 then (some (x1, s0)) else lt (x1 + ((x0 >>> (x2 &&& 31)) &&& 1)) (fun v1 => lt (x2 + 1) (fun x2_2 => rec v1 x2_2 s0))
noncomputable def f_X10_bits (N : Nat) (x0 : Int32) (s : Mem) : Option (Int32 × Mem) :=
  itr (fun _ _ _ => none) (st_X10_bits_4 N x0) N 0 0 s
set_option maxRecDepth 20000 in
theorem w_X10_bits_4 {G : Gx} (hG : Gok G ∧ IsG G layM fsoM) {P : Option (Int32 × Mem) → Nat → List (Nat × Value) → List Value → Mem → Prop} (h : Jk G layM fsoM RX10 cX10_bits 3 (some .int) 0 tvI P) (N : Nat) (x0 : Int32) {rec : Int32 → Int32 → Mem → Option (Int32 × Mem)} (ih : ∀ (x1 : Int32) (x2 : Int32) (s : Mem), P (rec x1 x2 s) 4 [(0, .int x0), (1, .int x1), (2, .int x2)] [] s) : ∀ (x1 : Int32) (x2 : Int32) (s : Mem), P (st_X10_bits_4 N x0 rec x1 x2 s) 4 [(0, .int x0), (1, .int x1), (2, .int x2)] [] s := by
  intro x1 x2 s0
  unfold st_X10_bits_4
  refine jx_iload_n h dX10_bits_4 rfl 2 rfl ?_
  refine jx_bipush h dX10_bits_5 kb_12 ?_
  refine jx_icmp_ge (tgt := 24) h dX10_bits_7 rfl ?_ ?_
  · refine jx_iload_n h dX10_bits_24 rfl 1 rfl ?_
    exact jx_iret h dX10_bits_25
  · refine jx_iload_n h dX10_bits_10 rfl 1 rfl ?_
    refine jx_iload_n h dX10_bits_11 rfl 0 rfl ?_
    refine jx_iload_n h dX10_bits_12 rfl 2 rfl ?_
    refine jx_ishr h dX10_bits_13 ?_
    refine jx_iconst h dX10_bits_14 ki_1 ?_
    refine jx_iand h dX10_bits_15 ?_
    refine jx_iadd h dX10_bits_16 ?_
    refine jx_lti (fun v1 => ?_)
    refine jx_istore_n (lv' := [(1, .int v1), (0, .int x0), (2, .int x2)]) h dX10_bits_17 rfl (Nat.le_of_ble_eq_true rfl) rfl ?_
    refine jx_iincl (L := fun w => [(2, .int w), (1, .int v1), (0, .int x0)]) h dX10_bits_18 2 rfl (kn_1 _) (Nat.le_of_ble_eq_true rfl) (fun _ => rfl) (fun x2_2 => ?_)
    refine jx_goto (tgt := 4) h dX10_bits_21 rfl ?_
    exact jx_subk [2, 1, 0] h (ih v1 x2_2 s0) rfl
set_option maxRecDepth 20000 in
theorem c_X10_bits {G : Gx} (hG : Gok G ∧ IsG G layM fsoM) (N : Nat) (x0 : Int32) (s : Mem) : Ct G yX10_bits cX10_bits 3 (some .int) 0 [.int x0] tvI s (f_X10_bits N x0 s) := by
  refine Ct.of hG (by decide) (Nat.le_of_ble_eq_true rfl) (fun P h => ?_)
  show P _ 0 [(0, .int x0)] [] s
  unfold f_X10_bits
  refine jx_iconst h dX10_bits_0 ki_0 ?_
  refine jx_istore_n (lv' := [(1, .int 0), (0, .int x0)]) h dX10_bits_1 rfl (Nat.le_of_ble_eq_true rfl) rfl ?_
  refine jx_iconst h dX10_bits_2 ki_0 ?_
  refine jx_istore_n (lv' := [(2, .int 0), (1, .int 0), (0, .int x0)]) h dX10_bits_3 rfl (Nat.le_of_ble_eq_true rfl) rfl ?_
  refine jx_subk [2, 1, 0] h (itr_ind (Q := (fun (f : Int32 → Int32 → Mem → Option (Int32 × Mem)) => ∀ (x1 : Int32) (x2 : Int32) (s : Mem), P (f x1 x2 s) 4 [(0, .int x0), (1, .int x1), (2, .int x2)] [] s)) (fun _ _ _ => jx_none h) (fun r4 ih4 => ?_) N 0 0 s) rfl
  refine w_X10_bits_4 hG h N x0  ih4
noncomputable def st_X10_copies_2 (N : Nat) (x0 : Nat) (x1 : Nat)  (rec : Int32 → Mem → Option (Unit × Mem)) (x2 : Int32) (s0 : Mem) : Option (Unit × Mem) :=
  if 151 ≤ x2 then (some ((), s0)) else chk x2 (lenM x0) (chk x2 (lenM x1) (lt (si s0 x1 (ix x2) (gi s0 x0 (ix x2))) (fun s1 => lt (x2 + 1) (fun x2_2 => rec x2_2 s1))))
noncomputable def f_X10_copies (N : Nat) (x0 : Nat) (x1 : Nat) (s : Mem) : Option (Unit × Mem) :=
  itr (fun _ _ => none) (st_X10_copies_2 N x0 x1) N 0 s
set_option maxRecDepth 20000 in
theorem w_X10_copies_2 {G : Gx} (hG : Gok G ∧ IsG G layM fsoM) {P : Option (Unit × Mem) → Nat → List (Nat × Value) → List Value → Mem → Prop} (h : Jk G layM fsoM RX10 cX10_copies 3 none 0 tvV P) (N : Nat) (x0 : Nat) (x1 : Nat) (hx0 : isAm x0 = true) (hx1 : isAm x1 = true) {rec : Int32 → Mem → Option (Unit × Mem)} (ih : ∀ (x2 : Int32) (s : Mem), P (rec x2 s) 2 [(0, .ref (Ga G x0)), (1, .ref (Ga G x1)), (2, .int x2)] [] s) : ∀ (x2 : Int32) (s : Mem), P (st_X10_copies_2 N x0 x1 rec x2 s) 2 [(0, .ref (Ga G x0)), (1, .ref (Ga G x1)), (2, .int x2)] [] s := by
  intro x2 s0
  unfold st_X10_copies_2
  refine jx_iload_n h dX10_copies_2 rfl 2 rfl ?_
  refine jx_sipush h dX10_copies_3 ks_151 ?_
  refine jx_icmp_ge (tgt := 21) h dX10_copies_6 rfl ?_ ?_
  · exact jx_vret h dX10_copies_21
  · refine jx_aload_n h dX10_copies_9 rfl 1 rfl ?_
    refine jx_iload_n h dX10_copies_10 rfl 2 rfl ?_
    refine jx_aload_n h dX10_copies_11 rfl 0 rfl ?_
    refine jx_iload_n h dX10_copies_12 rfl 2 rfl ?_
    refine jx_iaload h (isAm_0 hx0) dX10_copies_13 ?_
    refine jx_iastore h (isAm_0 hx1) dX10_copies_14 (fun s1 => ?_)
    refine jx_iincl (L := fun w => [(2, .int w), (0, .ref (Ga G x0)), (1, .ref (Ga G x1))]) h dX10_copies_15 2 rfl (kn_1 _) (Nat.le_of_ble_eq_true rfl) (fun _ => rfl) (fun x2_2 => ?_)
    refine jx_goto (tgt := 2) h dX10_copies_18 rfl ?_
    exact jx_subk [1, 2, 0] h (ih x2_2 s1) rfl
set_option maxRecDepth 20000 in
theorem c_X10_copies {G : Gx} (hG : Gok G ∧ IsG G layM fsoM) (N : Nat) (x0 : Nat) (hx0 : isAm x0 = true) (x1 : Nat) (hx1 : isAm x1 = true) (s : Mem) : Ct G yX10_copies cX10_copies 3 none 0 [.ref (Ga G x0), .ref (Ga G x1)] tvV s (f_X10_copies N x0 x1 s) := by
  refine Ct.of hG (by decide) (Nat.le_of_ble_eq_true rfl) (fun P h => ?_)
  show P _ 0 [(0, .ref (Ga G x0)), (1, .ref (Ga G x1))] [] s
  unfold f_X10_copies
  refine jx_iconst h dX10_copies_0 ki_0 ?_
  refine jx_istore_n (lv' := [(2, .int 0), (0, .ref (Ga G x0)), (1, .ref (Ga G x1))]) h dX10_copies_1 rfl (Nat.le_of_ble_eq_true rfl) rfl ?_
  refine jx_subk [1, 2, 0] h (itr_ind (Q := (fun (f : Int32 → Mem → Option (Unit × Mem)) => ∀ (x2 : Int32) (s : Mem), P (f x2 s) 2 [(0, .ref (Ga G x0)), (1, .ref (Ga G x1)), (2, .int x2)] [] s)) (fun _ _ => jx_none h) (fun r2 ih2 => ?_) N 0 s) rfl
  refine w_X10_copies_2 hG h N x0 x1 hx0 hx1  ih2
noncomputable def f_X10_isParish (N : Nat) (x1 : Int32) (s : Mem) : Option (Int32 × Mem) :=
  bd (f_X10_in N x1 0 11 s) (fun r2 s1 => if r2 = 0 then (some (0, s1)) else chk 145 151 (bd (f_X10_has N (gi s1 1 (ix (145 : Int32))) x1 s1) (fun r4 s3 => if r4 = 0 then (some (0, s3)) else some (1, s3))))
set_option maxRecDepth 20000 in
theorem c_X10_isParish {G : Gx} (hG : Gok G ∧ IsG G layM fsoM) (N : Nat) (x1 : Int32) (s : Mem) : Ct G yX10_isParish cX10_isParish 2 (some .boolean) 1 [.ref (Ga G 0), .int x1] tvI s (f_X10_isParish N x1 s) := by
  refine Ct.of hG (by decide) (Nat.le_of_ble_eq_true rfl) (fun P h => ?_)
  show P _ 0 [(0, .ref (Ga G 0)), (1, .int x1)] [] s
  unfold f_X10_isParish
  refine jx_iload_n h dX10_isParish_0 rfl 1 rfl ?_
  refine jx_iconst h dX10_isParish_1 ki_0 ?_
  refine jx_bipush h dX10_isParish_2 kb_11 ?_
  refine jx_callSi [] h (c_X10_in hG N x1 0 11 s) ml_X10_134 (Nat.le_of_ble_eq_true rfl) (Nat.le_of_ble_eq_true rfl) dX10_isParish_4 (Nat.le_of_ble_eq_true rfl) rfl (fun r2 s1 => ?_)
  refine jx_if_eq (tgt := 29) h dX10_isParish_7 rfl ?_ ?_
  · refine jx_iconst h dX10_isParish_29 ki_0 ?_
    exact jx_zret h rfl dX10_isParish_30
  · refine jx_aload_n h dX10_isParish_10 rfl 0 rfl ?_
    refine jx_get (v := .ref (Ga G 1)) h fa_X10_7 lm_0 dX10_isParish_11 rfl ?_
    refine jx_sipush h dX10_isParish_14 ks_145 ?_
    refine jx_iaload h lm_1 dX10_isParish_17 ?_
    refine jx_iload_n h dX10_isParish_18 rfl 1 rfl ?_
    refine jx_callSi [] h (c_X10_has hG N (gi s1 1 (ix (145 : Int32))) x1 s1) ml_X10_138 (Nat.le_of_ble_eq_true rfl) (Nat.le_of_ble_eq_true rfl) dX10_isParish_19 (Nat.le_of_ble_eq_true rfl) rfl (fun r4 s3 => ?_)
    refine jx_if_eq (tgt := 29) h dX10_isParish_22 rfl ?_ ?_
    · refine jx_iconst h dX10_isParish_29 ki_0 ?_
      exact jx_zret h rfl dX10_isParish_30
    · refine jx_iconst h dX10_isParish_25 ki_1 ?_
      refine jx_goto (tgt := 30) h dX10_isParish_26 rfl ?_
      exact jx_zret h rfl dX10_isParish_30
noncomputable def f_X10_isLetter (N : Nat) (x1 : Int32) (s : Mem) : Option (Int32 × Mem) :=
  bd (f_X10_in N x1 0 5 s) (fun r2 s1 => if r2 = 0 then (some (0, s1)) else chk 146 151 (bd (f_X10_has N (gi s1 1 (ix (146 : Int32))) x1 s1) (fun r4 s3 => if r4 = 0 then (some (0, s3)) else some (1, s3))))
set_option maxRecDepth 20000 in
theorem c_X10_isLetter {G : Gx} (hG : Gok G ∧ IsG G layM fsoM) (N : Nat) (x1 : Int32) (s : Mem) : Ct G yX10_isLetter cX10_isLetter 2 (some .boolean) 1 [.ref (Ga G 0), .int x1] tvI s (f_X10_isLetter N x1 s) := by
  refine Ct.of hG (by decide) (Nat.le_of_ble_eq_true rfl) (fun P h => ?_)
  show P _ 0 [(0, .ref (Ga G 0)), (1, .int x1)] [] s
  unfold f_X10_isLetter
  refine jx_iload_n h dX10_isLetter_0 rfl 1 rfl ?_
  refine jx_iconst h dX10_isLetter_1 ki_0 ?_
  refine jx_iconst h dX10_isLetter_2 ki_5 ?_
  refine jx_callSi [] h (c_X10_in hG N x1 0 5 s) ml_X10_134 (Nat.le_of_ble_eq_true rfl) (Nat.le_of_ble_eq_true rfl) dX10_isLetter_3 (Nat.le_of_ble_eq_true rfl) rfl (fun r2 s1 => ?_)
  refine jx_if_eq (tgt := 28) h dX10_isLetter_6 rfl ?_ ?_
  · refine jx_iconst h dX10_isLetter_28 ki_0 ?_
    exact jx_zret h rfl dX10_isLetter_29
  · refine jx_aload_n h dX10_isLetter_9 rfl 0 rfl ?_
    refine jx_get (v := .ref (Ga G 1)) h fa_X10_7 lm_0 dX10_isLetter_10 rfl ?_
    refine jx_sipush h dX10_isLetter_13 ks_146 ?_
    refine jx_iaload h lm_1 dX10_isLetter_16 ?_
    refine jx_iload_n h dX10_isLetter_17 rfl 1 rfl ?_
    refine jx_callSi [] h (c_X10_has hG N (gi s1 1 (ix (146 : Int32))) x1 s1) ml_X10_138 (Nat.le_of_ble_eq_true rfl) (Nat.le_of_ble_eq_true rfl) dX10_isLetter_18 (Nat.le_of_ble_eq_true rfl) rfl (fun r4 s3 => ?_)
    refine jx_if_eq (tgt := 28) h dX10_isLetter_21 rfl ?_ ?_
    · refine jx_iconst h dX10_isLetter_28 ki_0 ?_
      exact jx_zret h rfl dX10_isLetter_29
    · refine jx_iconst h dX10_isLetter_24 ki_1 ?_
      refine jx_goto (tgt := 29) h dX10_isLetter_25 rfl ?_
      exact jx_zret h rfl dX10_isLetter_29
noncomputable def f_X10_known (N : Nat) (x0 : Int32) (x1 : Int32) (s : Mem) : Option (Int32 × Mem) :=
  some (((12 : Int32) + ((12 : Int32) * x0)) + x1, s)
set_option maxRecDepth 20000 in
theorem c_X10_known {G : Gx} (hG : Gok G ∧ IsG G layM fsoM) (N : Nat) (x0 : Int32) (x1 : Int32) (s : Mem) : Ct G yX10_known cX10_known 2 (some .int) 0 [.int x0, .int x1] tvI s (f_X10_known N x0 x1 s) := by
  refine Ct.of hG (by decide) (Nat.le_of_ble_eq_true rfl) (fun P h => ?_)
  show P _ 0 [(0, .int x0), (1, .int x1)] [] s
  unfold f_X10_known
  refine jx_bipush h dX10_known_0 kb_12 ?_
  refine jx_bipush h dX10_known_2 kb_12 ?_
  refine jx_iload_n h dX10_known_4 rfl 0 rfl ?_
  refine jx_imul h dX10_known_5 ?_
  refine jx_iadd h dX10_known_6 ?_
  refine jx_iload_n h dX10_known_7 rfl 1 rfl ?_
  refine jx_iadd h dX10_known_8 ?_
  exact jx_iret h dX10_known_9
noncomputable def f_X10_isKnown (N : Nat) (x1 : Int32) (x2 : Int32) (s : Mem) : Option (Int32 × Mem) :=
  bd (f_X10_known N x1 x2 s) (fun r2 s1 => chk r2 151 (if (gi s1 1 (ix r2)) = (-1) then (some (0, s1)) else some (1, s1)))
set_option maxRecDepth 20000 in
theorem c_X10_isKnown {G : Gx} (hG : Gok G ∧ IsG G layM fsoM) (N : Nat) (x1 : Int32) (x2 : Int32) (s : Mem) : Ct G yX10_isKnown cX10_isKnown 3 (some .boolean) 1 [.ref (Ga G 0), .int x1, .int x2] tvI s (f_X10_isKnown N x1 x2 s) := by
  refine Ct.of hG (by decide) (Nat.le_of_ble_eq_true rfl) (fun P h => ?_)
  show P _ 0 [(0, .ref (Ga G 0)), (1, .int x1), (2, .int x2)] [] s
  unfold f_X10_isKnown
  refine jx_aload_n h dX10_isKnown_0 rfl 0 rfl ?_
  refine jx_get (v := .ref (Ga G 1)) h fa_X10_7 lm_0 dX10_isKnown_1 rfl ?_
  refine jx_iload_n h dX10_isKnown_4 rfl 1 rfl ?_
  refine jx_iload_n h dX10_isKnown_5 rfl 2 rfl ?_
  refine jx_callSi [.ref (Ga G 1)] h (c_X10_known hG N x1 x2 s) ml_X10_142 (Nat.le_of_ble_eq_true rfl) (Nat.le_of_ble_eq_true rfl) dX10_isKnown_6 (Nat.le_of_ble_eq_true rfl) rfl (fun r2 s1 => ?_)
  refine jx_iaload h lm_1 dX10_isKnown_9 ?_
  refine jx_iconst h dX10_isKnown_10 ki_m1 ?_
  refine jx_icmp_eq (tgt := 18) h dX10_isKnown_11 rfl ?_ ?_
  · refine jx_iconst h dX10_isKnown_18 ki_0 ?_
    exact jx_zret h rfl dX10_isKnown_19
  · refine jx_iconst h dX10_isKnown_14 ki_1 ?_
    refine jx_goto (tgt := 19) h dX10_isKnown_15 rfl ?_
    exact jx_zret h rfl dX10_isKnown_19
noncomputable def f_X10_tired (N : Nat) (x1 : Int32) (s : Mem) : Option (Int32 × Mem) :=
  chk ((90 : Int32) + ((3 : Int32) * x1)) 151 (chk (((90 : Int32) + ((3 : Int32) * x1)) + 1) 151 (chk (((90 : Int32) + ((3 : Int32) * x1)) + 2) 151 (some (((gi s 1 (ix ((90 : Int32) + ((3 : Int32) * x1)))) + (gi s 1 (ix (((90 : Int32) + ((3 : Int32) * x1)) + 1)))) + (gi s 1 (ix (((90 : Int32) + ((3 : Int32) * x1)) + 2))), s))))
set_option maxRecDepth 20000 in
theorem c_X10_tired {G : Gx} (hG : Gok G ∧ IsG G layM fsoM) (N : Nat) (x1 : Int32) (s : Mem) : Ct G yX10_tired cX10_tired 2 (some .int) 0 [.ref (Ga G 0), .int x1] tvI s (f_X10_tired N x1 s) := by
  refine Ct.of hG (by decide) (Nat.le_of_ble_eq_true rfl) (fun P h => ?_)
  show P _ 0 [(0, .ref (Ga G 0)), (1, .int x1)] [] s
  unfold f_X10_tired
  refine jx_aload_n h dX10_tired_0 rfl 0 rfl ?_
  refine jx_get (v := .ref (Ga G 1)) h fa_X10_7 lm_0 dX10_tired_1 rfl ?_
  refine jx_bipush h dX10_tired_4 kb_90 ?_
  refine jx_iconst h dX10_tired_6 ki_3 ?_
  refine jx_iload_n h dX10_tired_7 rfl 1 rfl ?_
  refine jx_imul h dX10_tired_8 ?_
  refine jx_iadd h dX10_tired_9 ?_
  refine jx_iaload h lm_1 dX10_tired_10 ?_
  refine jx_aload_n h dX10_tired_11 rfl 0 rfl ?_
  refine jx_get (v := .ref (Ga G 1)) h fa_X10_7 lm_0 dX10_tired_12 rfl ?_
  refine jx_bipush h dX10_tired_15 kb_90 ?_
  refine jx_iconst h dX10_tired_17 ki_3 ?_
  refine jx_iload_n h dX10_tired_18 rfl 1 rfl ?_
  refine jx_imul h dX10_tired_19 ?_
  refine jx_iadd h dX10_tired_20 ?_
  refine jx_iconst h dX10_tired_21 ki_1 ?_
  refine jx_iadd h dX10_tired_22 ?_
  refine jx_iaload h lm_1 dX10_tired_23 ?_
  refine jx_iadd h dX10_tired_24 ?_
  refine jx_aload_n h dX10_tired_25 rfl 0 rfl ?_
  refine jx_get (v := .ref (Ga G 1)) h fa_X10_7 lm_0 dX10_tired_26 rfl ?_
  refine jx_bipush h dX10_tired_29 kb_90 ?_
  refine jx_iconst h dX10_tired_31 ki_3 ?_
  refine jx_iload_n h dX10_tired_32 rfl 1 rfl ?_
  refine jx_imul h dX10_tired_33 ?_
  refine jx_iadd h dX10_tired_34 ?_
  refine jx_iconst h dX10_tired_35 ki_2 ?_
  refine jx_iadd h dX10_tired_36 ?_
  refine jx_iaload h lm_1 dX10_tired_37 ?_
  refine jx_iadd h dX10_tired_38 ?_
  exact jx_iret h dX10_tired_39
noncomputable def f_X10_parish (N : Nat) (x1 : Int32) (x2 : Int32) (s : Mem) : Option (Int32 × Mem) :=
  bd (f_X10_in N x1 0 11 s) (fun r2 s1 => if r2 = 0 then (some (0, s1)) else bd (f_X10_in N x2 0 99 s1) (fun r4 s3 => if r4 = 0 then (some (0, s3)) else chk 145 151 (chk 145 151 (lt (si s3 1 (ix (145 : Int32)) ((gi s3 1 (ix (145 : Int32))) ||| ((1 : Int32) <<< (x1 &&& 31)))) (fun s5 => chk ((0 : Int32) + x1) 151 (lt (si s5 1 (ix ((0 : Int32) + x1)) x2) (fun s6 => some (1, s6))))))))
set_option maxRecDepth 20000 in
theorem c_X10_parish {G : Gx} (hG : Gok G ∧ IsG G layM fsoM) (N : Nat) (x1 : Int32) (x2 : Int32) (s : Mem) : Ct G yX10_parish cX10_parish 3 (some .boolean) 1 [.ref (Ga G 0), .int x1, .int x2] tvI s (f_X10_parish N x1 x2 s) := by
  refine Ct.of hG (by decide) (Nat.le_of_ble_eq_true rfl) (fun P h => ?_)
  show P _ 0 [(0, .ref (Ga G 0)), (1, .int x1), (2, .int x2)] [] s
  unfold f_X10_parish
  refine jx_iload_n h dX10_parish_0 rfl 1 rfl ?_
  refine jx_iconst h dX10_parish_1 ki_0 ?_
  refine jx_bipush h dX10_parish_2 kb_11 ?_
  refine jx_callSi [] h (c_X10_in hG N x1 0 11 s) ml_X10_134 (Nat.le_of_ble_eq_true rfl) (Nat.le_of_ble_eq_true rfl) dX10_parish_4 (Nat.le_of_ble_eq_true rfl) rfl (fun r2 s1 => ?_)
  refine jx_if_eq (tgt := 20) h dX10_parish_7 rfl ?_ ?_
  · refine jx_iconst h dX10_parish_20 ki_0 ?_
    exact jx_zret h rfl dX10_parish_21
  · refine jx_iload_n h dX10_parish_10 rfl 2 rfl ?_
    refine jx_iconst h dX10_parish_11 ki_0 ?_
    refine jx_bipush h dX10_parish_12 kb_99 ?_
    refine jx_callSi [] h (c_X10_in hG N x2 0 99 s1) ml_X10_134 (Nat.le_of_ble_eq_true rfl) (Nat.le_of_ble_eq_true rfl) dX10_parish_14 (Nat.le_of_ble_eq_true rfl) rfl (fun r4 s3 => ?_)
    refine jx_if_ne (tgt := 22) h dX10_parish_17 rfl ?_ ?_
    · refine jx_aload_n h dX10_parish_22 rfl 0 rfl ?_
      refine jx_get (v := .ref (Ga G 1)) h fa_X10_7 lm_0 dX10_parish_23 rfl ?_
      refine jx_sipush h dX10_parish_26 ks_145 ?_
      refine jx_aload_n h dX10_parish_29 rfl 0 rfl ?_
      refine jx_get (v := .ref (Ga G 1)) h fa_X10_7 lm_0 dX10_parish_30 rfl ?_
      refine jx_sipush h dX10_parish_33 ks_145 ?_
      refine jx_iaload h lm_1 dX10_parish_36 ?_
      refine jx_iconst h dX10_parish_37 ki_1 ?_
      refine jx_iload_n h dX10_parish_38 rfl 1 rfl ?_
      refine jx_ishl h dX10_parish_39 ?_
      refine jx_ior h dX10_parish_40 ?_
      refine jx_iastore h lm_1 dX10_parish_41 (fun s5 => ?_)
      refine jx_aload_n h dX10_parish_42 rfl 0 rfl ?_
      refine jx_get (v := .ref (Ga G 1)) h fa_X10_7 lm_0 dX10_parish_43 rfl ?_
      refine jx_iconst h dX10_parish_46 ki_0 ?_
      refine jx_iload_n h dX10_parish_47 rfl 1 rfl ?_
      refine jx_iadd h dX10_parish_48 ?_
      refine jx_iload_n h dX10_parish_49 rfl 2 rfl ?_
      refine jx_iastore h lm_1 dX10_parish_50 (fun s6 => ?_)
      refine jx_iconst h dX10_parish_51 ki_1 ?_
      exact jx_zret h rfl dX10_parish_52
    · refine jx_iconst h dX10_parish_20 ki_0 ?_
      exact jx_zret h rfl dX10_parish_21
noncomputable def f_X10_road (N : Nat) (x1 : Int32) (x2 : Int32) (x3 : Int32) (s : Mem) : Option (Int32 × Mem) :=
  bd (f_X10_isParish N x1 s) (fun r2 s1 => if r2 = 0 then (some (0, s1)) else bd (f_X10_isParish N x2 s1) (fun r4 s3 => if r4 = 0 then (some (0, s3)) else if x1 = x2 then (some (0, s3)) else bd (f_X10_in N x3 0 99 s3) (fun r6 s5 => if r6 = 0 then (some (0, s5)) else chk (((12 : Int32) * x1) + x2) 144 (lt (si s5 4 (ix (((12 : Int32) * x1) + x2)) x3) (fun s7 => chk (((12 : Int32) * x2) + x1) 144 (lt (si s7 4 (ix (((12 : Int32) * x2) + x1)) x3) (fun s8 => some (1, s8))))))))
set_option maxRecDepth 20000 in
theorem c_X10_road {G : Gx} (hG : Gok G ∧ IsG G layM fsoM) (N : Nat) (x1 : Int32) (x2 : Int32) (x3 : Int32) (s : Mem) : Ct G yX10_road cX10_road 4 (some .boolean) 2 [.ref (Ga G 0), .int x1, .int x2, .int x3] tvI s (f_X10_road N x1 x2 x3 s) := by
  refine Ct.of hG (by decide) (Nat.le_of_ble_eq_true rfl) (fun P h => ?_)
  show P _ 0 [(0, .ref (Ga G 0)), (1, .int x1), (2, .int x2), (3, .int x3)] [] s
  unfold f_X10_road
  refine jx_aload_n h dX10_road_0 rfl 0 rfl ?_
  refine jx_iload_n h dX10_road_1 rfl 1 rfl ?_
  refine jx_callVi [] h lm_0 (c_X10_isParish hG N x1 s) ml_X10_146 (Nat.le_of_ble_eq_true rfl) (Nat.le_of_ble_eq_true rfl) dX10_road_2 (Nat.le_of_ble_eq_true rfl) rfl (fun r2 s1 => ?_)
  refine jx_if_eq (tgt := 31) h dX10_road_5 rfl ?_ ?_
  · refine jx_iconst h dX10_road_31 ki_0 ?_
    exact jx_zret h rfl dX10_road_32
  · refine jx_aload_n h dX10_road_8 rfl 0 rfl ?_
    refine jx_iload_n h dX10_road_9 rfl 2 rfl ?_
    refine jx_callVi [] h lm_0 (c_X10_isParish hG N x2 s1) ml_X10_146 (Nat.le_of_ble_eq_true rfl) (Nat.le_of_ble_eq_true rfl) dX10_road_10 (Nat.le_of_ble_eq_true rfl) rfl (fun r4 s3 => ?_)
    refine jx_if_eq (tgt := 31) h dX10_road_13 rfl ?_ ?_
    · refine jx_iconst h dX10_road_31 ki_0 ?_
      exact jx_zret h rfl dX10_road_32
    · refine jx_iload_n h dX10_road_16 rfl 1 rfl ?_
      refine jx_iload_n h dX10_road_17 rfl 2 rfl ?_
      refine jx_icmp_eq (tgt := 31) h dX10_road_18 rfl ?_ ?_
      · refine jx_iconst h dX10_road_31 ki_0 ?_
        exact jx_zret h rfl dX10_road_32
      · refine jx_iload_n h dX10_road_21 rfl 3 rfl ?_
        refine jx_iconst h dX10_road_22 ki_0 ?_
        refine jx_bipush h dX10_road_23 kb_99 ?_
        refine jx_callSi [] h (c_X10_in hG N x3 0 99 s3) ml_X10_134 (Nat.le_of_ble_eq_true rfl) (Nat.le_of_ble_eq_true rfl) dX10_road_25 (Nat.le_of_ble_eq_true rfl) rfl (fun r6 s5 => ?_)
        refine jx_if_ne (tgt := 33) h dX10_road_28 rfl ?_ ?_
        · refine jx_aload_n h dX10_road_33 rfl 0 rfl ?_
          refine jx_get (v := .ref (Ga G 4)) h fa_X10_19 lm_0 dX10_road_34 rfl ?_
          refine jx_bipush h dX10_road_37 kb_12 ?_
          refine jx_iload_n h dX10_road_39 rfl 1 rfl ?_
          refine jx_imul h dX10_road_40 ?_
          refine jx_iload_n h dX10_road_41 rfl 2 rfl ?_
          refine jx_iadd h dX10_road_42 ?_
          refine jx_iload_n h dX10_road_43 rfl 3 rfl ?_
          refine jx_iastore h lm_4 dX10_road_44 (fun s7 => ?_)
          refine jx_aload_n h dX10_road_45 rfl 0 rfl ?_
          refine jx_get (v := .ref (Ga G 4)) h fa_X10_19 lm_0 dX10_road_46 rfl ?_
          refine jx_bipush h dX10_road_49 kb_12 ?_
          refine jx_iload_n h dX10_road_51 rfl 2 rfl ?_
          refine jx_imul h dX10_road_52 ?_
          refine jx_iload_n h dX10_road_53 rfl 1 rfl ?_
          refine jx_iadd h dX10_road_54 ?_
          refine jx_iload_n h dX10_road_55 rfl 3 rfl ?_
          refine jx_iastore h lm_4 dX10_road_56 (fun s8 => ?_)
          refine jx_iconst h dX10_road_57 ki_1 ?_
          exact jx_zret h rfl dX10_road_58
        · refine jx_iconst h dX10_road_31 ki_0 ?_
          exact jx_zret h rfl dX10_road_32
noncomputable def st_X10_letter_115 (N : Nat) (x1 : Int32) (x2 : Int32) (x3 : Int32)  (rec : Int32 → Mem → Option (Int32 × Mem)) (x4 : Int32) (s0 : Mem) : Option (Int32 × Mem) :=
  if 12 ≤ x4 then (some (1, s0)) else bd (f_X10_known N x1 x4 s0) (fun r14 s13 => if x4 = x2 then (chk r14 151 (lt (si s13 1 (ix r14) x3) (fun s17 => lt (x4 + 1) (fun x4_18 => rec x4_18 s17)))) else chk r14 151 (lt (si s13 1 (ix r14) (-1)) (fun s15 => lt (x4 + 1) (fun x4_16 => rec x4_16 s15))))
noncomputable def f_X10_letter (N : Nat) (x1 : Int32) (x2 : Int32) (x3 : Int32) (s : Mem) : Option (Int32 × Mem) :=
  bd (f_X10_in N x1 0 5 s) (fun r2 s1 => if r2 = 0 then (some (0, s1)) else bd (f_X10_isParish N x2 s1) (fun r4 s3 => if r4 = 0 then (some (0, s3)) else bd (f_X10_in N x3 1 9999 s3) (fun r6 s5 => if r6 = 0 then (some (0, s5)) else chk 146 151 (chk 146 151 (lt (si s5 1 (ix (146 : Int32)) ((gi s5 1 (ix (146 : Int32))) ||| ((1 : Int32) <<< (x1 &&& 31)))) (fun s7 => chk 144 151 (chk 144 151 (lt (si s7 1 (ix (144 : Int32)) ((gi s7 1 (ix (144 : Int32))) ||| ((1 : Int32) <<< (x1 &&& 31)))) (fun s8 => chk ((126 : Int32) + x1) 151 (lt (si s8 1 (ix ((126 : Int32) + x1)) x2) (fun s9 => chk ((132 : Int32) + x1) 151 (lt (si s9 1 (ix ((132 : Int32) + x1)) x3) (fun s10 => chk ((138 : Int32) + x1) 151 (lt (si s10 1 (ix ((138 : Int32) + x1)) 0) (fun s11 => chk ((84 : Int32) + x1) 151 (lt (si s11 1 (ix ((84 : Int32) + x1)) 0) (fun s12 => itr (fun _ _ => none) (st_X10_letter_115 N x1 x2 x3) N 0 s12)))))))))))))))))
set_option maxRecDepth 20000 in
theorem w_X10_letter_115 {G : Gx} (hG : Gok G ∧ IsG G layM fsoM) {P : Option (Int32 × Mem) → Nat → List (Nat × Value) → List Value → Mem → Prop} (h : Jk G layM fsoM RX10 cX10_letter 5 (some .boolean) 2 tvI P) (N : Nat) (x1 : Int32) (x2 : Int32) (x3 : Int32) {rec : Int32 → Mem → Option (Int32 × Mem)} (ih : ∀ (x4 : Int32) (s : Mem), P (rec x4 s) 115 [(0, .ref (Ga G 0)), (1, .int x1), (2, .int x2), (3, .int x3), (4, .int x4)] [] s) : ∀ (x4 : Int32) (s : Mem), P (st_X10_letter_115 N x1 x2 x3 rec x4 s) 115 [(0, .ref (Ga G 0)), (1, .int x1), (2, .int x2), (3, .int x3), (4, .int x4)] [] s := by
  intro x4 s0
  unfold st_X10_letter_115
  refine jx_iload h dX10_letter_115 4 rfl ?_
  refine jx_bipush h dX10_letter_117 kb_12 ?_
  refine jx_icmp_ge (tgt := 150) h dX10_letter_119 rfl ?_ ?_
  · refine jx_iconst h dX10_letter_150 ki_1 ?_
    exact jx_zret h rfl dX10_letter_151
  · refine jx_aload_n h dX10_letter_122 rfl 0 rfl ?_
    refine jx_get (v := .ref (Ga G 1)) h fa_X10_7 lm_0 dX10_letter_123 rfl ?_
    refine jx_iload_n h dX10_letter_126 rfl 1 rfl ?_
    refine jx_iload h dX10_letter_127 4 rfl ?_
    refine jx_callSi [.ref (Ga G 1)] h (c_X10_known hG N x1 x4 s0) ml_X10_142 (Nat.le_of_ble_eq_true rfl) (Nat.le_of_ble_eq_true rfl) dX10_letter_129 (Nat.le_of_ble_eq_true rfl) rfl (fun r14 s13 => ?_)
    refine jx_iload h dX10_letter_132 4 rfl ?_
    refine jx_iload_n h dX10_letter_134 rfl 2 rfl ?_
    refine jx_icmp_ne (tgt := 142) h dX10_letter_135 rfl ?_ ?_
    · refine jx_iconst h dX10_letter_142 ki_m1 ?_
      refine jx_iastore h lm_1 dX10_letter_143 (fun s15 => ?_)
      refine jx_iincl (L := fun w => [(4, .int w), (0, .ref (Ga G 0)), (1, .int x1), (2, .int x2), (3, .int x3)]) h dX10_letter_144 4 rfl (kn_1 _) (Nat.le_of_ble_eq_true rfl) (fun _ => rfl) (fun x4_16 => ?_)
      refine jx_goto (tgt := 115) h dX10_letter_147 rfl ?_
      exact jx_subk [1, 2, 3, 4, 0] h (ih x4_16 s15) rfl
    · refine jx_iload_n h dX10_letter_138 rfl 3 rfl ?_
      refine jx_goto (tgt := 143) h dX10_letter_139 rfl ?_
      refine jx_iastore h lm_1 dX10_letter_143 (fun s17 => ?_)
      refine jx_iincl (L := fun w => [(4, .int w), (0, .ref (Ga G 0)), (1, .int x1), (2, .int x2), (3, .int x3)]) h dX10_letter_144 4 rfl (kn_1 _) (Nat.le_of_ble_eq_true rfl) (fun _ => rfl) (fun x4_18 => ?_)
      refine jx_goto (tgt := 115) h dX10_letter_147 rfl ?_
      exact jx_subk [1, 2, 3, 4, 0] h (ih x4_18 s17) rfl
set_option maxRecDepth 20000 in
theorem c_X10_letter {G : Gx} (hG : Gok G ∧ IsG G layM fsoM) (N : Nat) (x1 : Int32) (x2 : Int32) (x3 : Int32) (s : Mem) : Ct G yX10_letter cX10_letter 5 (some .boolean) 2 [.ref (Ga G 0), .int x1, .int x2, .int x3] tvI s (f_X10_letter N x1 x2 x3 s) := by
  refine Ct.of hG (by decide) (Nat.le_of_ble_eq_true rfl) (fun P h => ?_)
  show P _ 0 [(0, .ref (Ga G 0)), (1, .int x1), (2, .int x2), (3, .int x3)] [] s
  unfold f_X10_letter
  refine jx_iload_n h dX10_letter_0 rfl 1 rfl ?_
  refine jx_iconst h dX10_letter_1 ki_0 ?_
  refine jx_iconst h dX10_letter_2 ki_5 ?_
  refine jx_callSi [] h (c_X10_in hG N x1 0 5 s) ml_X10_134 (Nat.le_of_ble_eq_true rfl) (Nat.le_of_ble_eq_true rfl) dX10_letter_3 (Nat.le_of_ble_eq_true rfl) rfl (fun r2 s1 => ?_)
  refine jx_if_eq (tgt := 28) h dX10_letter_6 rfl ?_ ?_
  · refine jx_iconst h dX10_letter_28 ki_0 ?_
    exact jx_zret h rfl dX10_letter_29
  · refine jx_aload_n h dX10_letter_9 rfl 0 rfl ?_
    refine jx_iload_n h dX10_letter_10 rfl 2 rfl ?_
    refine jx_callVi [] h lm_0 (c_X10_isParish hG N x2 s1) ml_X10_146 (Nat.le_of_ble_eq_true rfl) (Nat.le_of_ble_eq_true rfl) dX10_letter_11 (Nat.le_of_ble_eq_true rfl) rfl (fun r4 s3 => ?_)
    refine jx_if_eq (tgt := 28) h dX10_letter_14 rfl ?_ ?_
    · refine jx_iconst h dX10_letter_28 ki_0 ?_
      exact jx_zret h rfl dX10_letter_29
    · refine jx_iload_n h dX10_letter_17 rfl 3 rfl ?_
      refine jx_iconst h dX10_letter_18 ki_1 ?_
      refine jx_sipush h dX10_letter_19 ks_9999 ?_
      refine jx_callSi [] h (c_X10_in hG N x3 1 9999 s3) ml_X10_134 (Nat.le_of_ble_eq_true rfl) (Nat.le_of_ble_eq_true rfl) dX10_letter_22 (Nat.le_of_ble_eq_true rfl) rfl (fun r6 s5 => ?_)
      refine jx_if_ne (tgt := 30) h dX10_letter_25 rfl ?_ ?_
      · refine jx_aload_n h dX10_letter_30 rfl 0 rfl ?_
        refine jx_get (v := .ref (Ga G 1)) h fa_X10_7 lm_0 dX10_letter_31 rfl ?_
        refine jx_sipush h dX10_letter_34 ks_146 ?_
        refine jx_aload_n h dX10_letter_37 rfl 0 rfl ?_
        refine jx_get (v := .ref (Ga G 1)) h fa_X10_7 lm_0 dX10_letter_38 rfl ?_
        refine jx_sipush h dX10_letter_41 ks_146 ?_
        refine jx_iaload h lm_1 dX10_letter_44 ?_
        refine jx_iconst h dX10_letter_45 ki_1 ?_
        refine jx_iload_n h dX10_letter_46 rfl 1 rfl ?_
        refine jx_ishl h dX10_letter_47 ?_
        refine jx_ior h dX10_letter_48 ?_
        refine jx_iastore h lm_1 dX10_letter_49 (fun s7 => ?_)
        refine jx_aload_n h dX10_letter_50 rfl 0 rfl ?_
        refine jx_get (v := .ref (Ga G 1)) h fa_X10_7 lm_0 dX10_letter_51 rfl ?_
        refine jx_sipush h dX10_letter_54 ks_144 ?_
        refine jx_aload_n h dX10_letter_57 rfl 0 rfl ?_
        refine jx_get (v := .ref (Ga G 1)) h fa_X10_7 lm_0 dX10_letter_58 rfl ?_
        refine jx_sipush h dX10_letter_61 ks_144 ?_
        refine jx_iaload h lm_1 dX10_letter_64 ?_
        refine jx_iconst h dX10_letter_65 ki_1 ?_
        refine jx_iload_n h dX10_letter_66 rfl 1 rfl ?_
        refine jx_ishl h dX10_letter_67 ?_
        refine jx_ior h dX10_letter_68 ?_
        refine jx_iastore h lm_1 dX10_letter_69 (fun s8 => ?_)
        refine jx_aload_n h dX10_letter_70 rfl 0 rfl ?_
        refine jx_get (v := .ref (Ga G 1)) h fa_X10_7 lm_0 dX10_letter_71 rfl ?_
        refine jx_bipush h dX10_letter_74 kb_126 ?_
        refine jx_iload_n h dX10_letter_76 rfl 1 rfl ?_
        refine jx_iadd h dX10_letter_77 ?_
        refine jx_iload_n h dX10_letter_78 rfl 2 rfl ?_
        refine jx_iastore h lm_1 dX10_letter_79 (fun s9 => ?_)
        refine jx_aload_n h dX10_letter_80 rfl 0 rfl ?_
        refine jx_get (v := .ref (Ga G 1)) h fa_X10_7 lm_0 dX10_letter_81 rfl ?_
        refine jx_sipush h dX10_letter_84 ks_132 ?_
        refine jx_iload_n h dX10_letter_87 rfl 1 rfl ?_
        refine jx_iadd h dX10_letter_88 ?_
        refine jx_iload_n h dX10_letter_89 rfl 3 rfl ?_
        refine jx_iastore h lm_1 dX10_letter_90 (fun s10 => ?_)
        refine jx_aload_n h dX10_letter_91 rfl 0 rfl ?_
        refine jx_get (v := .ref (Ga G 1)) h fa_X10_7 lm_0 dX10_letter_92 rfl ?_
        refine jx_sipush h dX10_letter_95 ks_138 ?_
        refine jx_iload_n h dX10_letter_98 rfl 1 rfl ?_
        refine jx_iadd h dX10_letter_99 ?_
        refine jx_iconst h dX10_letter_100 ki_0 ?_
        refine jx_iastore h lm_1 dX10_letter_101 (fun s11 => ?_)
        refine jx_aload_n h dX10_letter_102 rfl 0 rfl ?_
        refine jx_get (v := .ref (Ga G 1)) h fa_X10_7 lm_0 dX10_letter_103 rfl ?_
        refine jx_bipush h dX10_letter_106 kb_84 ?_
        refine jx_iload_n h dX10_letter_108 rfl 1 rfl ?_
        refine jx_iadd h dX10_letter_109 ?_
        refine jx_iconst h dX10_letter_110 ki_0 ?_
        refine jx_iastore h lm_1 dX10_letter_111 (fun s12 => ?_)
        refine jx_iconst h dX10_letter_112 ki_0 ?_
        refine jx_istore (lv' := [(4, .int 0), (0, .ref (Ga G 0)), (1, .int x1), (2, .int x2), (3, .int x3)]) h dX10_letter_113 (Nat.le_of_ble_eq_true rfl) rfl ?_
        refine jx_subk [1, 2, 3, 4, 0] h (itr_ind (Q := (fun (f : Int32 → Mem → Option (Int32 × Mem)) => ∀ (x4 : Int32) (s : Mem), P (f x4 s) 115 [(0, .ref (Ga G 0)), (1, .int x1), (2, .int x2), (3, .int x3), (4, .int x4)] [] s)) (fun _ _ => jx_none h) (fun r115 ih115 => ?_) N 0 s12) rfl
        refine w_X10_letter_115 hG h N x1 x2 x3  ih115
      · refine jx_iconst h dX10_letter_28 ki_0 ?_
        exact jx_zret h rfl dX10_letter_29
noncomputable def st_X10_types_2 (N : Nat) (x1 : Int32)  (rec : Int32 → Mem → Option (Unit × Mem)) (x2 : Int32) (s0 : Mem) : Option (Unit × Mem) :=
  if x2 < 0 then (some ((), s0)) else chk (gi s0 0 5) 260 (lt (si s0 5 (ix (gi s0 0 5)) ((x1 >>> (((8 : Int32) * x2) &&& 31)).toInt8.toInt32).toInt8.toInt32) (fun s1 => lt (si s1 0 5 ((gi s1 0 5) + 1)) (fun s2 => lt (x2 + (-1)) (fun x2_3 => rec x2_3 s2))))
noncomputable def f_X10_types (N : Nat) (x1 : Int32) (s : Mem) : Option (Unit × Mem) :=
  itr (fun _ _ => none) (st_X10_types_2 N x1) N 3 s
set_option maxRecDepth 20000 in
theorem w_X10_types_2 {G : Gx} (hG : Gok G ∧ IsG G layM fsoM) {P : Option (Unit × Mem) → Nat → List (Nat × Value) → List Value → Mem → Prop} (h : Jk G layM fsoM RX10 cX10_types 3 none 0 tvV P) (N : Nat) (x1 : Int32) {rec : Int32 → Mem → Option (Unit × Mem)} (ih : ∀ (x2 : Int32) (s : Mem), P (rec x2 s) 2 [(0, .ref (Ga G 0)), (1, .int x1), (2, .int x2)] [] s) : ∀ (x2 : Int32) (s : Mem), P (st_X10_types_2 N x1 rec x2 s) 2 [(0, .ref (Ga G 0)), (1, .int x1), (2, .int x2)] [] s := by
  intro x2 s0
  unfold st_X10_types_2
  refine jx_iload_n h dX10_types_2 rfl 2 rfl ?_
  refine jx_if_lt (tgt := 38) h dX10_types_3 rfl ?_ ?_
  · exact jx_vret h dX10_types_38
  · refine jx_aload_n h dX10_types_6 rfl 0 rfl ?_
    refine jx_get (v := .ref (Ga G 5)) h fa_X10_22 lm_0 dX10_types_7 rfl ?_
    refine jx_aload_n h dX10_types_10 rfl 0 rfl ?_
    refine jx_get (v := .int (gi s0 0 5)) h fa_X10_150 lm_0 dX10_types_11 rfl ?_
    refine jx_iload_n h dX10_types_14 rfl 1 rfl ?_
    refine jx_bipush h dX10_types_15 kb_8 ?_
    refine jx_iload_n h dX10_types_17 rfl 2 rfl ?_
    refine jx_imul h dX10_types_18 ?_
    refine jx_ishr h dX10_types_19 ?_
    refine jx_i2b h dX10_types_20 ?_
    refine jx_bastore h lm_5 dX10_types_21 (fun s1 => ?_)
    refine jx_aload_n h dX10_types_22 rfl 0 rfl ?_
    refine jx_aload_n h dX10_types_23 rfl 0 rfl ?_
    refine jx_get (v := .int (gi s1 0 5)) h fa_X10_150 lm_0 dX10_types_24 rfl ?_
    refine jx_iconst h dX10_types_27 ki_1 ?_
    refine jx_iadd h dX10_types_28 ?_
    refine jx_put h fa_X10_150 fp_X10_5 lm_0 rfl rfl dX10_types_29 (fu_X10_5 _ _ _ _) (fun s2 => ?_)
    refine jx_iincl (L := fun w => [(2, .int w), (0, .ref (Ga G 0)), (1, .int x1)]) h dX10_types_32 2 rfl (kn_m1 _) (Nat.le_of_ble_eq_true rfl) (fun _ => rfl) (fun x2_3 => ?_)
    refine jx_goto (tgt := 2) h dX10_types_35 rfl ?_
    exact jx_subk [1, 2, 0] h (ih x2_3 s2) rfl
set_option maxRecDepth 20000 in
theorem c_X10_types {G : Gx} (hG : Gok G ∧ IsG G layM fsoM) (N : Nat) (x1 : Int32) (s : Mem) : Ct G yX10_types cX10_types 3 none 0 [.ref (Ga G 0), .int x1] tvV s (f_X10_types N x1 s) := by
  refine Ct.of hG (by decide) (Nat.le_of_ble_eq_true rfl) (fun P h => ?_)
  show P _ 0 [(0, .ref (Ga G 0)), (1, .int x1)] [] s
  unfold f_X10_types
  refine jx_iconst h dX10_types_0 ki_3 ?_
  refine jx_istore_n (lv' := [(2, .int 3), (0, .ref (Ga G 0)), (1, .int x1)]) h dX10_types_1 rfl (Nat.le_of_ble_eq_true rfl) rfl ?_
  refine jx_subk [1, 2, 0] h (itr_ind (Q := (fun (f : Int32 → Mem → Option (Unit × Mem)) => ∀ (x2 : Int32) (s : Mem), P (f x2 s) 2 [(0, .ref (Ga G 0)), (1, .int x1), (2, .int x2)] [] s)) (fun _ _ => jx_none h) (fun r2 ih2 => ?_) N 3 s) rfl
  refine w_X10_types_2 hG h N x1  ih2
noncomputable def f_X10_feed (N : Nat) (x1 : Int32) (x2 : Int32) (x3 : Int32) (x4 : Int32) (x5 : Int32) (s : Mem) : Option (Int32 × Mem) :=
  if ((gi s 0 5) + 20) ≤ 260 then (bd (f_X10_types N x1 s) (fun _ s1 => bd (f_X10_types N x2 s1) (fun _ s3 => bd (f_X10_types N x3 s3) (fun _ s5 => bd (f_X10_types N x4 s5) (fun _ s7 => bd (f_X10_types N x5 s7) (fun _ s9 => some (gi s9 0 5, s9))))))) else some ((-1), s)
set_option maxRecDepth 20000 in
theorem c_X10_feed {G : Gx} (hG : Gok G ∧ IsG G layM fsoM) (N : Nat) (x1 : Int32) (x2 : Int32) (x3 : Int32) (x4 : Int32) (x5 : Int32) (s : Mem) : Ct G yX10_feed cX10_feed 6 (some .int) 1 [.ref (Ga G 0), .int x1, .int x2, .int x3, .int x4, .int x5] tvI s (f_X10_feed N x1 x2 x3 x4 x5 s) := by
  refine Ct.of hG (by decide) (Nat.le_of_ble_eq_true rfl) (fun P h => ?_)
  show P _ 0 [(0, .ref (Ga G 0)), (1, .int x1), (2, .int x2), (3, .int x3), (4, .int x4), (5, .int x5)] [] s
  unfold f_X10_feed
  refine jx_aload_n h dX10_feed_0 rfl 0 rfl ?_
  refine jx_get (v := .int (gi s 0 5)) h fa_X10_150 lm_0 dX10_feed_1 rfl ?_
  refine jx_bipush h dX10_feed_4 kb_20 ?_
  refine jx_iadd h dX10_feed_6 ?_
  refine jx_sipush h dX10_feed_7 ks_260 ?_
  refine jx_icmp_le (tgt := 15) h dX10_feed_10 rfl ?_ ?_
  · refine jx_aload_n h dX10_feed_15 rfl 0 rfl ?_
    refine jx_iload_n h dX10_feed_16 rfl 1 rfl ?_
    refine jx_callVv [] h lm_0 (c_X10_types hG N x1 s) ml_X10_154 (Nat.le_of_ble_eq_true rfl) (Nat.le_of_ble_eq_true rfl) dX10_feed_17 (Nat.le_of_ble_eq_true rfl) rfl (fun s1 => ?_)
    refine jx_aload_n h dX10_feed_20 rfl 0 rfl ?_
    refine jx_iload_n h dX10_feed_21 rfl 2 rfl ?_
    refine jx_callVv [] h lm_0 (c_X10_types hG N x2 s1) ml_X10_154 (Nat.le_of_ble_eq_true rfl) (Nat.le_of_ble_eq_true rfl) dX10_feed_22 (Nat.le_of_ble_eq_true rfl) rfl (fun s3 => ?_)
    refine jx_aload_n h dX10_feed_25 rfl 0 rfl ?_
    refine jx_iload_n h dX10_feed_26 rfl 3 rfl ?_
    refine jx_callVv [] h lm_0 (c_X10_types hG N x3 s3) ml_X10_154 (Nat.le_of_ble_eq_true rfl) (Nat.le_of_ble_eq_true rfl) dX10_feed_27 (Nat.le_of_ble_eq_true rfl) rfl (fun s5 => ?_)
    refine jx_aload_n h dX10_feed_30 rfl 0 rfl ?_
    refine jx_iload h dX10_feed_31 4 rfl ?_
    refine jx_callVv [] h lm_0 (c_X10_types hG N x4 s5) ml_X10_154 (Nat.le_of_ble_eq_true rfl) (Nat.le_of_ble_eq_true rfl) dX10_feed_33 (Nat.le_of_ble_eq_true rfl) rfl (fun s7 => ?_)
    refine jx_aload_n h dX10_feed_36 rfl 0 rfl ?_
    refine jx_iload h dX10_feed_37 5 rfl ?_
    refine jx_callVv [] h lm_0 (c_X10_types hG N x5 s7) ml_X10_154 (Nat.le_of_ble_eq_true rfl) (Nat.le_of_ble_eq_true rfl) dX10_feed_39 (Nat.le_of_ble_eq_true rfl) rfl (fun s9 => ?_)
    refine jx_aload_n h dX10_feed_42 rfl 0 rfl ?_
    refine jx_get (v := .int (gi s9 0 5)) h fa_X10_150 lm_0 dX10_feed_43 rfl ?_
    exact jx_iret h dX10_feed_46
  · refine jx_iconst h dX10_feed_13 ki_m1 ?_
    exact jx_iret h dX10_feed_14
noncomputable def f_X10_octet (N : Nat) (x1 : Int32) (s : Mem) : Option (Int32 × Mem) :=
  chk x1 260 (some ((gi s 5 (ix x1)) &&& 255, s))
set_option maxRecDepth 20000 in
theorem c_X10_octet {G : Gx} (hG : Gok G ∧ IsG G layM fsoM) (N : Nat) (x1 : Int32) (s : Mem) : Ct G yX10_octet cX10_octet 2 (some .int) 0 [.ref (Ga G 0), .int x1] tvI s (f_X10_octet N x1 s) := by
  refine Ct.of hG (by decide) (Nat.le_of_ble_eq_true rfl) (fun P h => ?_)
  show P _ 0 [(0, .ref (Ga G 0)), (1, .int x1)] [] s
  unfold f_X10_octet
  refine jx_aload_n h dX10_octet_0 rfl 0 rfl ?_
  refine jx_get (v := .ref (Ga G 5)) h fa_X10_22 lm_0 dX10_octet_1 rfl ?_
  refine jx_iload_n h dX10_octet_4 rfl 1 rfl ?_
  refine jx_baload h lm_5 dX10_octet_5 ?_
  refine jx_sipush h dX10_octet_6 ks_255 ?_
  refine jx_iand h dX10_octet_9 ?_
  exact jx_iret h dX10_octet_10
noncomputable def f_X10_here (N : Nat)  (s : Mem) : Option (Int32 × Mem) :=
  if (gi s 0 7) ≤ (gi s 0 6) then (some ((-1), s)) else chk (gi s 0 6) 260 (some ((gi s 5 (ix (gi s 0 6))) &&& 255, s))
set_option maxRecDepth 20000 in
theorem c_X10_here {G : Gx} (hG : Gok G ∧ IsG G layM fsoM) (N : Nat)  (s : Mem) : Ct G yX10_here cX10_here 1 (some .int) 0 [.ref (Ga G 0)] tvI s (f_X10_here N s) := by
  refine Ct.of hG (by decide) (Nat.le_of_ble_eq_true rfl) (fun P h => ?_)
  show P _ 0 [(0, .ref (Ga G 0))] [] s
  unfold f_X10_here
  refine jx_aload_n h dX10_here_0 rfl 0 rfl ?_
  refine jx_get (v := .int (gi s 0 6)) h fa_X10_158 lm_0 dX10_here_1 rfl ?_
  refine jx_aload_n h dX10_here_4 rfl 0 rfl ?_
  refine jx_get (v := .int (gi s 0 7)) h fa_X10_161 lm_0 dX10_here_5 rfl ?_
  refine jx_icmp_ge (tgt := 27) h dX10_here_8 rfl ?_ ?_
  · refine jx_iconst h dX10_here_27 ki_m1 ?_
    exact jx_iret h dX10_here_28
  · refine jx_aload_n h dX10_here_11 rfl 0 rfl ?_
    refine jx_get (v := .ref (Ga G 5)) h fa_X10_22 lm_0 dX10_here_12 rfl ?_
    refine jx_aload_n h dX10_here_15 rfl 0 rfl ?_
    refine jx_get (v := .int (gi s 0 6)) h fa_X10_158 lm_0 dX10_here_16 rfl ?_
    refine jx_baload h lm_5 dX10_here_19 ?_
    refine jx_sipush h dX10_here_20 ks_255 ?_
    refine jx_iand h dX10_here_23 ?_
    refine jx_goto (tgt := 28) h dX10_here_24 rfl ?_
    exact jx_iret h dX10_here_28
noncomputable def f_X10_isDigit (N : Nat)  (s : Mem) : Option (Int32 × Mem) :=
  bd (f_X10_here N s) (fun r2 s1 => if r2 < 48 then (some (0, s1)) else bd (f_X10_here N s1) (fun r4 s3 => if 57 < r4 then (some (0, s3)) else some (1, s3)))
set_option maxRecDepth 20000 in
theorem c_X10_isDigit {G : Gx} (hG : Gok G ∧ IsG G layM fsoM) (N : Nat)  (s : Mem) : Ct G yX10_isDigit cX10_isDigit 1 (some .boolean) 1 [.ref (Ga G 0)] tvI s (f_X10_isDigit N s) := by
  refine Ct.of hG (by decide) (Nat.le_of_ble_eq_true rfl) (fun P h => ?_)
  show P _ 0 [(0, .ref (Ga G 0))] [] s
  unfold f_X10_isDigit
  refine jx_aload_n h dX10_isDigit_0 rfl 0 rfl ?_
  refine jx_callVi [] h lm_0 (c_X10_here hG N  s) ml_X10_164 (Nat.le_of_ble_eq_true rfl) (Nat.le_of_ble_eq_true rfl) dX10_isDigit_1 (Nat.le_of_ble_eq_true rfl) rfl (fun r2 s1 => ?_)
  refine jx_bipush h dX10_isDigit_4 kb_48 ?_
  refine jx_icmp_lt (tgt := 22) h dX10_isDigit_6 rfl ?_ ?_
  · refine jx_iconst h dX10_isDigit_22 ki_0 ?_
    exact jx_zret h rfl dX10_isDigit_23
  · refine jx_aload_n h dX10_isDigit_9 rfl 0 rfl ?_
    refine jx_callVi [] h lm_0 (c_X10_here hG N  s1) ml_X10_164 (Nat.le_of_ble_eq_true rfl) (Nat.le_of_ble_eq_true rfl) dX10_isDigit_10 (Nat.le_of_ble_eq_true rfl) rfl (fun r4 s3 => ?_)
    refine jx_bipush h dX10_isDigit_13 kb_57 ?_
    refine jx_icmp_gt (tgt := 22) h dX10_isDigit_15 rfl ?_ ?_
    · refine jx_iconst h dX10_isDigit_22 ki_0 ?_
      exact jx_zret h rfl dX10_isDigit_23
    · refine jx_iconst h dX10_isDigit_18 ki_1 ?_
      refine jx_goto (tgt := 23) h dX10_isDigit_19 rfl ?_
      exact jx_zret h rfl dX10_isDigit_23
noncomputable def f_X10_wrongAt (N : Nat) (x1 : Int32) (x2 : Int32) (s : Mem) : Option (Int32 × Mem) :=
  lt (si s 0 8 ((((-1000) : Int32) * x1) - x2)) (fun s1 => some (0, s1))
set_option maxRecDepth 20000 in
theorem c_X10_wrongAt {G : Gx} (hG : Gok G ∧ IsG G layM fsoM) (N : Nat) (x1 : Int32) (x2 : Int32) (s : Mem) : Ct G yX10_wrongAt cX10_wrongAt 3 (some .boolean) 0 [.ref (Ga G 0), .int x1, .int x2] tvI s (f_X10_wrongAt N x1 x2 s) := by
  refine Ct.of hG (by decide) (Nat.le_of_ble_eq_true rfl) (fun P h => ?_)
  show P _ 0 [(0, .ref (Ga G 0)), (1, .int x1), (2, .int x2)] [] s
  unfold f_X10_wrongAt
  refine jx_aload_n h dX10_wrongAt_0 rfl 0 rfl ?_
  refine jx_sipush h dX10_wrongAt_1 ks_m1000 ?_
  refine jx_iload_n h dX10_wrongAt_4 rfl 1 rfl ?_
  refine jx_imul h dX10_wrongAt_5 ?_
  refine jx_iload_n h dX10_wrongAt_6 rfl 2 rfl ?_
  refine jx_isub h dX10_wrongAt_7 ?_
  refine jx_put h fa_X10_168 fp_X10_8 lm_0 rfl rfl dX10_wrongAt_8 (fu_X10_8 _ _ _ _) (fun s1 => ?_)
  refine jx_iconst h dX10_wrongAt_11 ki_0 ?_
  exact jx_zret h rfl dX10_wrongAt_12
noncomputable def f_X10_takes (N : Nat) (x1 : Int32) (s : Mem) : Option (Int32 × Mem) :=
  bd (f_X10_here N s) (fun r2 s1 => if r2 = x1 then (lt (si s1 0 6 ((gi s1 0 6) + 1)) (fun s3 => some (1, s3))) else bd (f_X10_wrongAt N 1 (gi s1 0 6) s1) (fun r5 s4 => ckz r5 (some (r5, s4))))
set_option maxRecDepth 20000 in
theorem c_X10_takes {G : Gx} (hG : Gok G ∧ IsG G layM fsoM) (N : Nat) (x1 : Int32) (s : Mem) : Ct G yX10_takes cX10_takes 2 (some .boolean) 1 [.ref (Ga G 0), .int x1] tvI s (f_X10_takes N x1 s) := by
  refine Ct.of hG (by decide) (Nat.le_of_ble_eq_true rfl) (fun P h => ?_)
  show P _ 0 [(0, .ref (Ga G 0)), (1, .int x1)] [] s
  unfold f_X10_takes
  refine jx_aload_n h dX10_takes_0 rfl 0 rfl ?_
  refine jx_callVi [] h lm_0 (c_X10_here hG N  s) ml_X10_164 (Nat.le_of_ble_eq_true rfl) (Nat.le_of_ble_eq_true rfl) dX10_takes_1 (Nat.le_of_ble_eq_true rfl) rfl (fun r2 s1 => ?_)
  refine jx_iload_n h dX10_takes_4 rfl 1 rfl ?_
  refine jx_icmp_eq (tgt := 18) h dX10_takes_5 rfl ?_ ?_
  · refine jx_aload_n h dX10_takes_18 rfl 0 rfl ?_
    refine jx_aload_n h dX10_takes_19 rfl 0 rfl ?_
    refine jx_get (v := .int (gi s1 0 6)) h fa_X10_158 lm_0 dX10_takes_20 rfl ?_
    refine jx_iconst h dX10_takes_23 ki_1 ?_
    refine jx_iadd h dX10_takes_24 ?_
    refine jx_put h fa_X10_158 fp_X10_6 lm_0 rfl rfl dX10_takes_25 (fu_X10_6 _ _ _ _) (fun s3 => ?_)
    refine jx_iconst h dX10_takes_28 ki_1 ?_
    exact jx_zret h rfl dX10_takes_29
  · refine jx_aload_n h dX10_takes_8 rfl 0 rfl ?_
    refine jx_iconst h dX10_takes_9 ki_1 ?_
    refine jx_aload_n h dX10_takes_10 rfl 0 rfl ?_
    refine jx_get (v := .int (gi s1 0 6)) h fa_X10_158 lm_0 dX10_takes_11 rfl ?_
    refine jx_callVi [] h lm_0 (c_X10_wrongAt hG N 1 (gi s1 0 6) s1) ml_X10_171 (Nat.le_of_ble_eq_true rfl) (Nat.le_of_ble_eq_true rfl) dX10_takes_14 (Nat.le_of_ble_eq_true rfl) rfl (fun r5 s4 => ?_)
    exact jx_zretc h dX10_takes_17
noncomputable def st_X10_readsNumber_10 (N : Nat) (x1 : Int32)  (rec : Mem → Option (Int32 × Mem))  (s0 : Mem) : Option (Int32 × Mem) :=
  bd (f_X10_isDigit N s0) (fun r4 s3 => if r4 = 0 then (some (1, s3)) else if (gi s3 0 6) = (x1 + 5) then (bd (f_X10_wrongAt N 2 (gi s3 0 6) s3) (fun r10 s9 => ckz r10 (some (r10, s9)))) else bd (f_X10_here N s3) (fun r6 s5 => lt (si s5 0 9 ((((10 : Int32) * (gi s3 0 9)) + r6) - 48)) (fun s7 => lt (si s7 0 6 ((gi s7 0 6) + 1)) (fun s8 => rec s8))))
noncomputable def f_X10_readsNumber (N : Nat)  (s : Mem) : Option (Int32 × Mem) :=
  lt (gi s 0 6) (fun v1 => lt (si s 0 9 0) (fun s2 => itr (fun _ => none) (st_X10_readsNumber_10 N v1) N  s2))
set_option maxRecDepth 20000 in
theorem w_X10_readsNumber_10 {G : Gx} (hG : Gok G ∧ IsG G layM fsoM) {P : Option (Int32 × Mem) → Nat → List (Nat × Value) → List Value → Mem → Prop} (h : Jk G layM fsoM RX10 cX10_readsNumber 2 (some .boolean) 2 tvI P) (N : Nat) (x1 : Int32) {rec : Mem → Option (Int32 × Mem)} (ih : ∀  (s : Mem), P (rec  s) 10 [(0, .ref (Ga G 0)), (1, .int x1)] [] s) : ∀  (s : Mem), P (st_X10_readsNumber_10 N x1 rec s) 10 [(0, .ref (Ga G 0)), (1, .int x1)] [] s := by
  intro  s0
  unfold st_X10_readsNumber_10
  refine jx_aload_n h dX10_readsNumber_10 rfl 0 rfl ?_
  refine jx_callVi [] h lm_0 (c_X10_isDigit hG N  s0) ml_X10_177 (Nat.le_of_ble_eq_true rfl) (Nat.le_of_ble_eq_true rfl) dX10_readsNumber_11 (Nat.le_of_ble_eq_true rfl) rfl (fun r4 s3 => ?_)
  refine jx_if_eq (tgt := 69) h dX10_readsNumber_14 rfl ?_ ?_
  · refine jx_iconst h dX10_readsNumber_69 ki_1 ?_
    exact jx_zret h rfl dX10_readsNumber_70
  · refine jx_aload_n h dX10_readsNumber_17 rfl 0 rfl ?_
    refine jx_get (v := .int (gi s3 0 6)) h fa_X10_158 lm_0 dX10_readsNumber_18 rfl ?_
    refine jx_iload_n h dX10_readsNumber_21 rfl 1 rfl ?_
    refine jx_iconst h dX10_readsNumber_22 ki_5 ?_
    refine jx_iadd h dX10_readsNumber_23 ?_
    refine jx_icmp_ne (tgt := 37) h dX10_readsNumber_24 rfl ?_ ?_
    · refine jx_aload_n h dX10_readsNumber_37 rfl 0 rfl ?_
      refine jx_bipush h dX10_readsNumber_38 kb_10 ?_
      refine jx_aload_n h dX10_readsNumber_40 rfl 0 rfl ?_
      refine jx_get (v := .int (gi s3 0 9)) h fa_X10_174 lm_0 dX10_readsNumber_41 rfl ?_
      refine jx_imul h dX10_readsNumber_44 ?_
      refine jx_aload_n h dX10_readsNumber_45 rfl 0 rfl ?_
      refine jx_callVi [.int ((10 : Int32) * (gi s3 0 9)), .ref (Ga G 0)] h lm_0 (c_X10_here hG N  s3) ml_X10_164 (Nat.le_of_ble_eq_true rfl) (Nat.le_of_ble_eq_true rfl) dX10_readsNumber_46 (Nat.le_of_ble_eq_true rfl) rfl (fun r6 s5 => ?_)
      refine jx_iadd h dX10_readsNumber_49 ?_
      refine jx_bipush h dX10_readsNumber_50 kb_48 ?_
      refine jx_isub h dX10_readsNumber_52 ?_
      refine jx_put h fa_X10_174 fp_X10_9 lm_0 rfl rfl dX10_readsNumber_53 (fu_X10_9 _ _ _ _) (fun s7 => ?_)
      refine jx_aload_n h dX10_readsNumber_56 rfl 0 rfl ?_
      refine jx_aload_n h dX10_readsNumber_57 rfl 0 rfl ?_
      refine jx_get (v := .int (gi s7 0 6)) h fa_X10_158 lm_0 dX10_readsNumber_58 rfl ?_
      refine jx_iconst h dX10_readsNumber_61 ki_1 ?_
      refine jx_iadd h dX10_readsNumber_62 ?_
      refine jx_put h fa_X10_158 fp_X10_6 lm_0 rfl rfl dX10_readsNumber_63 (fu_X10_6 _ _ _ _) (fun s8 => ?_)
      refine jx_goto (tgt := 10) h dX10_readsNumber_66 rfl ?_
      exact ih s8
    · refine jx_aload_n h dX10_readsNumber_27 rfl 0 rfl ?_
      refine jx_iconst h dX10_readsNumber_28 ki_2 ?_
      refine jx_aload_n h dX10_readsNumber_29 rfl 0 rfl ?_
      refine jx_get (v := .int (gi s3 0 6)) h fa_X10_158 lm_0 dX10_readsNumber_30 rfl ?_
      refine jx_callVi [] h lm_0 (c_X10_wrongAt hG N 2 (gi s3 0 6) s3) ml_X10_171 (Nat.le_of_ble_eq_true rfl) (Nat.le_of_ble_eq_true rfl) dX10_readsNumber_33 (Nat.le_of_ble_eq_true rfl) rfl (fun r10 s9 => ?_)
      exact jx_zretc h dX10_readsNumber_36
set_option maxRecDepth 20000 in
theorem c_X10_readsNumber {G : Gx} (hG : Gok G ∧ IsG G layM fsoM) (N : Nat)  (s : Mem) : Ct G yX10_readsNumber cX10_readsNumber 2 (some .boolean) 2 [.ref (Ga G 0)] tvI s (f_X10_readsNumber N s) := by
  refine Ct.of hG (by decide) (Nat.le_of_ble_eq_true rfl) (fun P h => ?_)
  show P _ 0 [(0, .ref (Ga G 0))] [] s
  unfold f_X10_readsNumber
  refine jx_aload_n h dX10_readsNumber_0 rfl 0 rfl ?_
  refine jx_get (v := .int (gi s 0 6)) h fa_X10_158 lm_0 dX10_readsNumber_1 rfl ?_
  refine jx_lti (fun v1 => ?_)
  refine jx_istore_n (lv' := [(1, .int v1), (0, .ref (Ga G 0))]) h dX10_readsNumber_4 rfl (Nat.le_of_ble_eq_true rfl) rfl ?_
  refine jx_aload_n h dX10_readsNumber_5 rfl 1 rfl ?_
  refine jx_iconst h dX10_readsNumber_6 ki_0 ?_
  refine jx_put h fa_X10_174 fp_X10_9 lm_0 rfl rfl dX10_readsNumber_7 (fu_X10_9 _ _ _ _) (fun s2 => ?_)
  refine jx_subk [1, 0] h (itr_ind (Q := (fun (f : Mem → Option (Int32 × Mem)) => ∀  (s : Mem), P (f  s) 10 [(0, .ref (Ga G 0)), (1, .int v1)] [] s)) (fun _ => jx_none h) (fun r10 ih10 => ?_) N  s2) rfl
  refine w_X10_readsNumber_10 hG h N v1  ih10
noncomputable def f_X10_notes (N : Nat) (x1 : Int32) (x2 : Int32) (s : Mem) : Option (Unit × Mem) :=
  chk (gi s 0 11) 260 (lt (si s 6 (ix (gi s 0 11)) (((1048576 : Int32) * x1) + x2)) (fun s1 => lt (si s1 0 11 ((gi s1 0 11) + 1)) (fun s2 => some ((), s2))))
set_option maxRecDepth 20000 in
theorem c_X10_notes {G : Gx} (hG : Gok G ∧ IsG G layM fsoM) (N : Nat) (x1 : Int32) (x2 : Int32) (s : Mem) : Ct G yX10_notes cX10_notes 3 none 0 [.ref (Ga G 0), .int x1, .int x2] tvV s (f_X10_notes N x1 x2 s) := by
  refine Ct.of hG (by decide) (Nat.le_of_ble_eq_true rfl) (fun P h => ?_)
  show P _ 0 [(0, .ref (Ga G 0)), (1, .int x1), (2, .int x2)] [] s
  unfold f_X10_notes
  refine jx_aload_n h dX10_notes_0 rfl 0 rfl ?_
  refine jx_get (v := .ref (Ga G 6)) h fa_X10_26 lm_0 dX10_notes_1 rfl ?_
  refine jx_aload_n h dX10_notes_4 rfl 0 rfl ?_
  refine jx_get (v := .int (gi s 0 11)) h fa_X10_181 lm_0 dX10_notes_5 rfl ?_
  refine jx_ldc h dX10_notes_8 kw_X10_184 ?_
  refine jx_iload_n h dX10_notes_10 rfl 1 rfl ?_
  refine jx_imul h dX10_notes_11 ?_
  refine jx_iload_n h dX10_notes_12 rfl 2 rfl ?_
  refine jx_iadd h dX10_notes_13 ?_
  refine jx_iastore h lm_6 dX10_notes_14 (fun s1 => ?_)
  refine jx_aload_n h dX10_notes_15 rfl 0 rfl ?_
  refine jx_aload_n h dX10_notes_16 rfl 0 rfl ?_
  refine jx_get (v := .int (gi s1 0 11)) h fa_X10_181 lm_0 dX10_notes_17 rfl ?_
  refine jx_iconst h dX10_notes_20 ki_1 ?_
  refine jx_iadd h dX10_notes_21 ?_
  refine jx_put h fa_X10_181 fp_X10_11 lm_0 rfl rfl dX10_notes_22 (fu_X10_11 _ _ _ _) (fun s2 => ?_)
  exact jx_vret h dX10_notes_25
noncomputable def f_X10_opens (N : Nat) (x1 : Int32) (s : Mem) : Option (Int32 × Mem) :=
  if (gi s 0 10) = 6 then (bd (f_X10_wrongAt N 5 (gi s 0 6) s) (fun r6 s5 => ckz r6 (some (r6, s5)))) else lt (si s 0 10 ((gi s 0 10) + 1)) (fun s1 => chk (gi s1 0 12) 260 (lt (si s1 7 (ix (gi s1 0 12)) ((1048576 : Int32) * x1)) (fun s2 => lt (si s2 0 12 ((gi s2 0 12) + 1)) (fun s3 => lt (si s3 0 6 ((gi s3 0 6) + 1)) (fun s4 => some (1, s4))))))
set_option maxRecDepth 20000 in
theorem c_X10_opens {G : Gx} (hG : Gok G ∧ IsG G layM fsoM) (N : Nat) (x1 : Int32) (s : Mem) : Ct G yX10_opens cX10_opens 2 (some .boolean) 1 [.ref (Ga G 0), .int x1] tvI s (f_X10_opens N x1 s) := by
  refine Ct.of hG (by decide) (Nat.le_of_ble_eq_true rfl) (fun P h => ?_)
  show P _ 0 [(0, .ref (Ga G 0)), (1, .int x1)] [] s
  unfold f_X10_opens
  refine jx_aload_n h dX10_opens_0 rfl 0 rfl ?_
  refine jx_get (v := .int (gi s 0 10)) h fa_X10_185 lm_0 dX10_opens_1 rfl ?_
  refine jx_bipush h dX10_opens_4 kb_6 ?_
  refine jx_icmp_ne (tgt := 19) h dX10_opens_6 rfl ?_ ?_
  · refine jx_aload_n h dX10_opens_19 rfl 0 rfl ?_
    refine jx_aload_n h dX10_opens_20 rfl 0 rfl ?_
    refine jx_get (v := .int (gi s 0 10)) h fa_X10_185 lm_0 dX10_opens_21 rfl ?_
    refine jx_iconst h dX10_opens_24 ki_1 ?_
    refine jx_iadd h dX10_opens_25 ?_
    refine jx_put h fa_X10_185 fp_X10_10 lm_0 rfl rfl dX10_opens_26 (fu_X10_10 _ _ _ _) (fun s1 => ?_)
    refine jx_aload_n h dX10_opens_29 rfl 0 rfl ?_
    refine jx_get (v := .ref (Ga G 7)) h fa_X10_29 lm_0 dX10_opens_30 rfl ?_
    refine jx_aload_n h dX10_opens_33 rfl 0 rfl ?_
    refine jx_get (v := .int (gi s1 0 12)) h fa_X10_188 lm_0 dX10_opens_34 rfl ?_
    refine jx_ldc h dX10_opens_37 kw_X10_184 ?_
    refine jx_iload_n h dX10_opens_39 rfl 1 rfl ?_
    refine jx_imul h dX10_opens_40 ?_
    refine jx_iastore h lm_7 dX10_opens_41 (fun s2 => ?_)
    refine jx_aload_n h dX10_opens_42 rfl 0 rfl ?_
    refine jx_aload_n h dX10_opens_43 rfl 0 rfl ?_
    refine jx_get (v := .int (gi s2 0 12)) h fa_X10_188 lm_0 dX10_opens_44 rfl ?_
    refine jx_iconst h dX10_opens_47 ki_1 ?_
    refine jx_iadd h dX10_opens_48 ?_
    refine jx_put h fa_X10_188 fp_X10_12 lm_0 rfl rfl dX10_opens_49 (fu_X10_12 _ _ _ _) (fun s3 => ?_)
    refine jx_aload_n h dX10_opens_52 rfl 0 rfl ?_
    refine jx_aload_n h dX10_opens_53 rfl 0 rfl ?_
    refine jx_get (v := .int (gi s3 0 6)) h fa_X10_158 lm_0 dX10_opens_54 rfl ?_
    refine jx_iconst h dX10_opens_57 ki_1 ?_
    refine jx_iadd h dX10_opens_58 ?_
    refine jx_put h fa_X10_158 fp_X10_6 lm_0 rfl rfl dX10_opens_59 (fu_X10_6 _ _ _ _) (fun s4 => ?_)
    refine jx_iconst h dX10_opens_62 ki_1 ?_
    exact jx_zret h rfl dX10_opens_63
  · refine jx_aload_n h dX10_opens_9 rfl 0 rfl ?_
    refine jx_iconst h dX10_opens_10 ki_5 ?_
    refine jx_aload_n h dX10_opens_11 rfl 0 rfl ?_
    refine jx_get (v := .int (gi s 0 6)) h fa_X10_158 lm_0 dX10_opens_12 rfl ?_
    refine jx_callVi [] h lm_0 (c_X10_wrongAt hG N 5 (gi s 0 6) s) ml_X10_171 (Nat.le_of_ble_eq_true rfl) (Nat.le_of_ble_eq_true rfl) dX10_opens_15 (Nat.le_of_ble_eq_true rfl) rfl (fun r6 s5 => ?_)
    exact jx_zretc h dX10_opens_18
noncomputable def f_X10_waitTop (N : Nat)  (s : Mem) : Option (Int32 × Mem) :=
  if (gi s 0 12) = 0 then (some ((-1), s)) else chk ((gi s 0 12) - 1) 260 (some ((gi s 7 (ix ((gi s 0 12) - 1))) / 1048576, s))
set_option maxRecDepth 20000 in
theorem c_X10_waitTop {G : Gx} (hG : Gok G ∧ IsG G layM fsoM) (N : Nat)  (s : Mem) : Ct G yX10_waitTop cX10_waitTop 1 (some .int) 0 [.ref (Ga G 0)] tvI s (f_X10_waitTop N s) := by
  refine Ct.of hG (by decide) (Nat.le_of_ble_eq_true rfl) (fun P h => ?_)
  show P _ 0 [(0, .ref (Ga G 0))] [] s
  unfold f_X10_waitTop
  refine jx_aload_n h dX10_waitTop_0 rfl 0 rfl ?_
  refine jx_get (v := .int (gi s 0 12)) h fa_X10_188 lm_0 dX10_waitTop_1 rfl ?_
  refine jx_if_ne (tgt := 11) h dX10_waitTop_4 rfl ?_ ?_
  · refine jx_aload_n h dX10_waitTop_11 rfl 0 rfl ?_
    refine jx_get (v := .ref (Ga G 7)) h fa_X10_29 lm_0 dX10_waitTop_12 rfl ?_
    refine jx_aload_n h dX10_waitTop_15 rfl 0 rfl ?_
    refine jx_get (v := .int (gi s 0 12)) h fa_X10_188 lm_0 dX10_waitTop_16 rfl ?_
    refine jx_iconst h dX10_waitTop_19 ki_1 ?_
    refine jx_isub h dX10_waitTop_20 ?_
    refine jx_iaload h lm_7 dX10_waitTop_21 ?_
    refine jx_ldc h dX10_waitTop_22 kw_X10_184 ?_
    refine jx_idivc h (by decide) dX10_waitTop_24 ?_
    exact jx_iret h dX10_waitTop_25
  · refine jx_iconst h dX10_waitTop_7 ki_m1 ?_
    refine jx_goto (tgt := 25) h dX10_waitTop_8 rfl ?_
    exact jx_iret h dX10_waitTop_25
noncomputable def f_X10_factOf (N : Nat) (x0 : Int32) (s : Mem) : Option (Int32 × Mem) :=
  if x0 = 100 then (some (5, s)) else if x0 = 107 then (some (3, s)) else if x0 = 108 then (some (4, s)) else if x0 = 109 then (some (6, s)) else if x0 = 112 then (some (0, s)) else if x0 = 114 then (some (2, s)) else if x0 = 119 then (some (1, s)) else some ((-1), s)
set_option maxRecDepth 20000 in
theorem c_X10_factOf {G : Gx} (hG : Gok G ∧ IsG G layM fsoM) (N : Nat) (x0 : Int32) (s : Mem) : Ct G yX10_factOf cX10_factOf 1 (some .int) 0 [.int x0] tvI s (f_X10_factOf N x0 s) := by
  refine Ct.of hG (by decide) (Nat.le_of_ble_eq_true rfl) (fun P h => ?_)
  show P _ 0 [(0, .int x0)] [] s
  unfold f_X10_factOf
  refine jx_iload_n h dX10_factOf_0 rfl 0 rfl ?_
  refine jx_tcase (off := 105) (tgt := 106) h dX10_factOf_1 (by decide) (by decide) (by decide) rfl ?_ (fun n1_100 => ?_)
  · refine jx_iconst h dX10_factOf_106 ki_5 ?_
    exact jx_iret h dX10_factOf_107
  · refine jx_tcase (off := 101) (tgt := 102) h dX10_factOf_1 (by decide) (by decide) (by decide) rfl ?_ (fun n1_107 => ?_)
    · refine jx_iconst h dX10_factOf_102 ki_3 ?_
      exact jx_iret h dX10_factOf_103
    · refine jx_tcase (off := 103) (tgt := 104) h dX10_factOf_1 (by decide) (by decide) (by decide) rfl ?_ (fun n1_108 => ?_)
      · refine jx_iconst h dX10_factOf_104 ki_4 ?_
        exact jx_iret h dX10_factOf_105
      · refine jx_tcase (off := 107) (tgt := 108) h dX10_factOf_1 (by decide) (by decide) (by decide) rfl ?_ (fun n1_109 => ?_)
        · refine jx_bipush h dX10_factOf_108 kb_6 ?_
          exact jx_iret h dX10_factOf_110
        · refine jx_tcase (off := 95) (tgt := 96) h dX10_factOf_1 (by decide) (by decide) (by decide) rfl ?_ (fun n1_112 => ?_)
          · refine jx_iconst h dX10_factOf_96 ki_0 ?_
            exact jx_iret h dX10_factOf_97
          · refine jx_tcase (off := 99) (tgt := 100) h dX10_factOf_1 (by decide) (by decide) (by decide) rfl ?_ (fun n1_114 => ?_)
            · refine jx_iconst h dX10_factOf_100 ki_2 ?_
              exact jx_iret h dX10_factOf_101
            · refine jx_tcase (off := 97) (tgt := 98) h dX10_factOf_1 (by decide) (by decide) (by decide) rfl ?_ (fun n1_119 => ?_)
              · refine jx_iconst h dX10_factOf_98 ki_1 ?_
                exact jx_iret h dX10_factOf_99
              · have hsw : (x0.toInt < 100 ∨ 119 < x0.toInt) ∨ (¬ x0.toInt < 100 ∧ ¬ 119 < x0.toInt ∧ (#[105, 110, 110, 110, 110, 110, 110, 101, 103, 107, 110, 110, 95, 110, 99, 110, 110, 110, 110, 97] : Array Int)[(x0.toInt - 100).toNat]? = some 110) := by
                  have a0 := i32ne n1_100 (k := 100) rfl; have a1 := i32ne n1_107 (k := 107) rfl; have a2 := i32ne n1_108 (k := 108) rfl; have a3 := i32ne n1_109 (k := 109) rfl; have a4 := i32ne n1_112 (k := 112) rfl; have a5 := i32ne n1_114 (k := 114) rfl; have a6 := i32ne n1_119 (k := 119) rfl; rcases (show x0.toInt < 100 ∨ 119 < x0.toInt ∨ x0.toInt = 101 ∨ x0.toInt = 102 ∨ x0.toInt = 103 ∨ x0.toInt = 104 ∨ x0.toInt = 105 ∨ x0.toInt = 106 ∨ x0.toInt = 110 ∨ x0.toInt = 111 ∨ x0.toInt = 113 ∨ x0.toInt = 115 ∨ x0.toInt = 116 ∨ x0.toInt = 117 ∨ x0.toInt = 118 by omega) with h9 | h9 | h9 | h9 | h9 | h9 | h9 | h9 | h9 | h9 | h9 | h9 | h9 | h9 | h9
                  · exact Or.inl (Or.inl h9)
                  · exact Or.inl (Or.inr h9)
                  · rw [h9]; exact Or.inr ⟨by decide, by decide, by decide⟩
                  · rw [h9]; exact Or.inr ⟨by decide, by decide, by decide⟩
                  · rw [h9]; exact Or.inr ⟨by decide, by decide, by decide⟩
                  · rw [h9]; exact Or.inr ⟨by decide, by decide, by decide⟩
                  · rw [h9]; exact Or.inr ⟨by decide, by decide, by decide⟩
                  · rw [h9]; exact Or.inr ⟨by decide, by decide, by decide⟩
                  · rw [h9]; exact Or.inr ⟨by decide, by decide, by decide⟩
                  · rw [h9]; exact Or.inr ⟨by decide, by decide, by decide⟩
                  · rw [h9]; exact Or.inr ⟨by decide, by decide, by decide⟩
                  · rw [h9]; exact Or.inr ⟨by decide, by decide, by decide⟩
                  · rw [h9]; exact Or.inr ⟨by decide, by decide, by decide⟩
                  · rw [h9]; exact Or.inr ⟨by decide, by decide, by decide⟩
                  · rw [h9]; exact Or.inr ⟨by decide, by decide, by decide⟩
                refine jx_tdef2 (tgt := 111) h dX10_factOf_1 hsw rfl ?_
                refine jx_iconst h dX10_factOf_111 ki_m1 ?_
                exact jx_iret h dX10_factOf_112
noncomputable def f_X10_sumSign (N : Nat) (x0 : Int32) (s : Mem) : Option (Int32 × Mem) :=
  if x0 = 43 then (some (2, s)) else if x0 = 45 then (some (3, s)) else if x0 = 42 then (some (4, s)) else if x0 = 47 then (some (5, s)) else if x0 = 37 then (some (6, s)) else some ((-1), s)
set_option maxRecDepth 20000 in
theorem c_X10_sumSign {G : Gx} (hG : Gok G ∧ IsG G layM fsoM) (N : Nat) (x0 : Int32) (s : Mem) : Ct G yX10_sumSign cX10_sumSign 1 (some .int) 0 [.int x0] tvI s (f_X10_sumSign N x0 s) := by
  refine Ct.of hG (by decide) (Nat.le_of_ble_eq_true rfl) (fun P h => ?_)
  show P _ 0 [(0, .int x0)] [] s
  unfold f_X10_sumSign
  refine jx_iload_n h dX10_sumSign_0 rfl 0 rfl ?_
  refine jx_bipush h dX10_sumSign_1 kb_43 ?_
  refine jx_icmp_ne (tgt := 10) h dX10_sumSign_3 rfl ?_ ?_
  · refine jx_iload_n h dX10_sumSign_10 rfl 0 rfl ?_
    refine jx_bipush h dX10_sumSign_11 kb_45 ?_
    refine jx_icmp_ne (tgt := 20) h dX10_sumSign_13 rfl ?_ ?_
    · refine jx_iload_n h dX10_sumSign_20 rfl 0 rfl ?_
      refine jx_bipush h dX10_sumSign_21 kb_42 ?_
      refine jx_icmp_ne (tgt := 30) h dX10_sumSign_23 rfl ?_ ?_
      · refine jx_iload_n h dX10_sumSign_30 rfl 0 rfl ?_
        refine jx_bipush h dX10_sumSign_31 kb_47 ?_
        refine jx_icmp_ne (tgt := 40) h dX10_sumSign_33 rfl ?_ ?_
        · refine jx_iload_n h dX10_sumSign_40 rfl 0 rfl ?_
          refine jx_bipush h dX10_sumSign_41 kb_37 ?_
          refine jx_icmp_ne (tgt := 51) h dX10_sumSign_43 rfl ?_ ?_
          · refine jx_iconst h dX10_sumSign_51 ki_m1 ?_
            exact jx_iret h dX10_sumSign_52
          · refine jx_bipush h dX10_sumSign_46 kb_6 ?_
            refine jx_goto (tgt := 52) h dX10_sumSign_48 rfl ?_
            exact jx_iret h dX10_sumSign_52
        · refine jx_iconst h dX10_sumSign_36 ki_5 ?_
          refine jx_goto (tgt := 52) h dX10_sumSign_37 rfl ?_
          exact jx_iret h dX10_sumSign_52
      · refine jx_iconst h dX10_sumSign_26 ki_4 ?_
        refine jx_goto (tgt := 52) h dX10_sumSign_27 rfl ?_
        exact jx_iret h dX10_sumSign_52
    · refine jx_iconst h dX10_sumSign_16 ki_3 ?_
      refine jx_goto (tgt := 52) h dX10_sumSign_17 rfl ?_
      exact jx_iret h dX10_sumSign_52
  · refine jx_iconst h dX10_sumSign_6 ki_2 ?_
    refine jx_goto (tgt := 52) h dX10_sumSign_7 rfl ?_
    exact jx_iret h dX10_sumSign_52
noncomputable def st_X10_closesSums_0 (N : Nat) (x1 : Int32)  (rec : Mem → Option (Unit × Mem))  (s0 : Mem) : Option (Unit × Mem) :=
  bd (f_X10_waitTop N s0) (fun r2 s1 => lt (fun  (s3 : Mem) => bd (f_X10_waitTop N s3) (fun r5 s4 => bd (f_X10_notes N r5 0 s4) (fun _ s6 => lt (si s6 0 12 ((gi s6 0 12) - 1)) (fun s8 => rec s8)))) (fun j37 => lt (fun  (s9 : Mem) => if x1 = 0 then (some ((), s9)) else bd (f_X10_waitTop N s9) (fun r11 s10 => if r11 = 2 then (j37 s10) else bd (f_X10_waitTop N s10) (fun r13 s12 => if r13 = 3 then (j37 s12) else some ((), s12)))) (fun j17 => if r2 < 4 then (j17 s1) else bd (f_X10_waitTop N s1) (fun r15 s14 => if r15 ≤ 6 then (j37 s14) else j17 s14))))
noncomputable def f_X10_closesSums (N : Nat) (x1 : Int32) (s : Mem) : Option (Unit × Mem) :=
  itr (fun _ => none) (st_X10_closesSums_0 N x1) N  s
set_option maxRecDepth 20000 in
theorem w_X10_closesSums_0 {G : Gx} (hG : Gok G ∧ IsG G layM fsoM) {P : Option (Unit × Mem) → Nat → List (Nat × Value) → List Value → Mem → Prop} (h : Jk G layM fsoM RX10 cX10_closesSums 2 none 1 tvV P) (N : Nat) (x1 : Int32) {rec : Mem → Option (Unit × Mem)} (ih : ∀  (s : Mem), P (rec  s) 0 [(0, .ref (Ga G 0)), (1, .int x1)] [] s) : ∀  (s : Mem), P (st_X10_closesSums_0 N x1 rec s) 0 [(0, .ref (Ga G 0)), (1, .int x1)] [] s := by
  intro  s0
  unfold st_X10_closesSums_0
  refine jx_aload_n h dX10_closesSums_0 rfl 0 rfl ?_
  refine jx_callVi [] h lm_0 (c_X10_waitTop hG N  s0) ml_X10_191 (Nat.le_of_ble_eq_true rfl) (Nat.le_of_ble_eq_true rfl) dX10_closesSums_1 (Nat.le_of_ble_eq_true rfl) rfl (fun r2 s1 => ?_)
  refine jx_iconst h dX10_closesSums_4 ki_4 ?_
  refine jx_join (fun (j : Mem → Option (Unit × Mem)) => ∀  (s3 : Mem), P (j  s3) 37 [(0, .ref (Ga G 0)), (1, .int x1)] [] s3) (fun  s3 => ?_) (fun j37 hj37 => ?_)
  · refine jx_aload_n h dX10_closesSums_37 rfl 0 rfl ?_
    refine jx_aload_n h dX10_closesSums_38 rfl 0 rfl ?_
    refine jx_callVi [.ref (Ga G 0)] h lm_0 (c_X10_waitTop hG N  s3) ml_X10_191 (Nat.le_of_ble_eq_true rfl) (Nat.le_of_ble_eq_true rfl) dX10_closesSums_39 (Nat.le_of_ble_eq_true rfl) rfl (fun r5 s4 => ?_)
    refine jx_iconst h dX10_closesSums_42 ki_0 ?_
    refine jx_callVv [] h lm_0 (c_X10_notes hG N r5 0 s4) ml_X10_194 (Nat.le_of_ble_eq_true rfl) (Nat.le_of_ble_eq_true rfl) dX10_closesSums_43 (Nat.le_of_ble_eq_true rfl) rfl (fun s6 => ?_)
    refine jx_aload_n h dX10_closesSums_46 rfl 0 rfl ?_
    refine jx_aload_n h dX10_closesSums_47 rfl 0 rfl ?_
    refine jx_get (v := .int (gi s6 0 12)) h fa_X10_188 lm_0 dX10_closesSums_48 rfl ?_
    refine jx_iconst h dX10_closesSums_51 ki_1 ?_
    refine jx_isub h dX10_closesSums_52 ?_
    refine jx_put h fa_X10_188 fp_X10_12 lm_0 rfl rfl dX10_closesSums_53 (fu_X10_12 _ _ _ _) (fun s8 => ?_)
    refine jx_goto (tgt := 0) h dX10_closesSums_56 rfl ?_
    exact ih s8
  · refine jx_join (fun (j : Mem → Option (Unit × Mem)) => ∀  (s9 : Mem), P (j  s9) 17 [(0, .ref (Ga G 0)), (1, .int x1)] [] s9) (fun  s9 => ?_) (fun j17 hj17 => ?_)
    · refine jx_iload_n h dX10_closesSums_17 rfl 1 rfl ?_
      refine jx_if_eq (tgt := 59) h dX10_closesSums_18 rfl ?_ ?_
      · exact jx_vret h dX10_closesSums_59
      · refine jx_aload_n h dX10_closesSums_21 rfl 0 rfl ?_
        refine jx_callVi [] h lm_0 (c_X10_waitTop hG N  s9) ml_X10_191 (Nat.le_of_ble_eq_true rfl) (Nat.le_of_ble_eq_true rfl) dX10_closesSums_22 (Nat.le_of_ble_eq_true rfl) rfl (fun r11 s10 => ?_)
        refine jx_iconst h dX10_closesSums_25 ki_2 ?_
        refine jx_icmp_eq (tgt := 37) h dX10_closesSums_26 rfl ?_ ?_
        · exact hj37 s10
        · refine jx_aload_n h dX10_closesSums_29 rfl 0 rfl ?_
          refine jx_callVi [] h lm_0 (c_X10_waitTop hG N  s10) ml_X10_191 (Nat.le_of_ble_eq_true rfl) (Nat.le_of_ble_eq_true rfl) dX10_closesSums_30 (Nat.le_of_ble_eq_true rfl) rfl (fun r13 s12 => ?_)
          refine jx_iconst h dX10_closesSums_33 ki_3 ?_
          refine jx_icmp_ne (tgt := 59) h dX10_closesSums_34 rfl ?_ ?_
          · exact jx_vret h dX10_closesSums_59
          · exact hj37 s12
    · refine jx_icmp_lt (tgt := 17) h dX10_closesSums_5 rfl ?_ ?_
      · exact hj17 s1
      · refine jx_aload_n h dX10_closesSums_8 rfl 0 rfl ?_
        refine jx_callVi [] h lm_0 (c_X10_waitTop hG N  s1) ml_X10_191 (Nat.le_of_ble_eq_true rfl) (Nat.le_of_ble_eq_true rfl) dX10_closesSums_9 (Nat.le_of_ble_eq_true rfl) rfl (fun r15 s14 => ?_)
        refine jx_bipush h dX10_closesSums_12 kb_6 ?_
        refine jx_icmp_le (tgt := 37) h dX10_closesSums_14 rfl ?_ ?_
        · exact hj37 s14
        · exact hj17 s14
set_option maxRecDepth 20000 in
theorem c_X10_closesSums {G : Gx} (hG : Gok G ∧ IsG G layM fsoM) (N : Nat) (x1 : Int32) (s : Mem) : Ct G yX10_closesSums cX10_closesSums 2 none 1 [.ref (Ga G 0), .int x1] tvV s (f_X10_closesSums N x1 s) := by
  refine Ct.of hG (by decide) (Nat.le_of_ble_eq_true rfl) (fun P h => ?_)
  show P _ 0 [(0, .ref (Ga G 0)), (1, .int x1)] [] s
  unfold f_X10_closesSums
  refine itr_ind (Q := (fun (f : Mem → Option (Unit × Mem)) => ∀  (s : Mem), P (f  s) 0 [(0, .ref (Ga G 0)), (1, .int x1)] [] s)) (fun _ => jx_none h) (fun r0 ih0 => ?_) N  s
  refine w_X10_closesSums_0 hG h N x1  ih0
noncomputable def st_X10_readsFactor_0 (N : Nat) (k20 : Mem → Option (Int32 × Mem)) (rec : Mem → Option (Int32 × Mem))  (s0 : Mem) : Option (Int32 × Mem) :=
  bd (f_X10_here N s0) (fun r2 s1 => if r2 = 91 then (bd (f_X10_opens N 14 s1) (fun r4 s3 => if r4 = 0 then (some (0, s3)) else rec s3)) else k20 s1)
noncomputable def f_X10_readsFactor (N : Nat)  (s : Mem) : Option (Int32 × Mem) :=
  itr (fun _ => none) (st_X10_readsFactor_0 N (fun  (s5 : Mem) => bd (f_X10_isDigit N s5) (fun r7 s6 => if r7 = 0 then (bd (f_X10_here N s6) (fun r9 s8 => bd (f_X10_factOf N r9 s8) (fun r11 s10 => if r11 = (-1) then (bd (f_X10_wrongAt N 1 (gi s10 0 6) s10) (fun r16 s15 => ckz r16 (some (r16, s15)))) else bd (f_X10_notes N 1 r11 s10) (fun _ s12 => lt (si s12 0 6 ((gi s12 0 6) + 1)) (fun s14 => some (1, s14)))))) else bd (f_X10_readsNumber N s6) (fun r18 s17 => if r18 = 0 then (some (0, s17)) else bd (f_X10_notes N 0 (gi s17 0 9) s17) (fun _ s19 => some (1, s19)))))) N  s
set_option maxRecDepth 20000 in
theorem w_X10_readsFactor_0 {G : Gx} (hG : Gok G ∧ IsG G layM fsoM) {P : Option (Int32 × Mem) → Nat → List (Nat × Value) → List Value → Mem → Prop} (h : Jk G layM fsoM RX10 cX10_readsFactor 2 (some .boolean) 3 tvI P) (N : Nat) {k20 : Mem → Option (Int32 × Mem)} (hk20 : ∀  (s : Mem), P (k20 s) 20 [(0, .ref (Ga G 0))] [] s) {rec : Mem → Option (Int32 × Mem)} (ih : ∀  (s : Mem), P (rec  s) 0 [(0, .ref (Ga G 0))] [] s) : ∀  (s : Mem), P (st_X10_readsFactor_0 N k20 rec s) 0 [(0, .ref (Ga G 0))] [] s := by
  intro  s0
  unfold st_X10_readsFactor_0
  refine jx_aload_n h dX10_readsFactor_0 rfl 0 rfl ?_
  refine jx_callVi [] h lm_0 (c_X10_here hG N  s0) ml_X10_164 (Nat.le_of_ble_eq_true rfl) (Nat.le_of_ble_eq_true rfl) dX10_readsFactor_1 (Nat.le_of_ble_eq_true rfl) rfl (fun r2 s1 => ?_)
  refine jx_bipush h dX10_readsFactor_4 kb_91 ?_
  refine jx_icmp_ne (tgt := 20) h dX10_readsFactor_6 rfl ?_ ?_
  · exact hk20 s1
  · refine jx_aload_n h dX10_readsFactor_9 rfl 0 rfl ?_
    refine jx_bipush h dX10_readsFactor_10 kb_14 ?_
    refine jx_callVi [] h lm_0 (c_X10_opens hG N 14 s1) ml_X10_198 (Nat.le_of_ble_eq_true rfl) (Nat.le_of_ble_eq_true rfl) dX10_readsFactor_12 (Nat.le_of_ble_eq_true rfl) rfl (fun r4 s3 => ?_)
    refine jx_if_ne (tgt := 0) h dX10_readsFactor_15 rfl ?_ ?_
    · exact ih s3
    · refine jx_iconst h dX10_readsFactor_18 ki_0 ?_
      exact jx_zret h rfl dX10_readsFactor_19
set_option maxRecDepth 20000 in
theorem c_X10_readsFactor {G : Gx} (hG : Gok G ∧ IsG G layM fsoM) (N : Nat)  (s : Mem) : Ct G yX10_readsFactor cX10_readsFactor 2 (some .boolean) 3 [.ref (Ga G 0)] tvI s (f_X10_readsFactor N s) := by
  refine Ct.of hG (by decide) (Nat.le_of_ble_eq_true rfl) (fun P h => ?_)
  show P _ 0 [(0, .ref (Ga G 0))] [] s
  unfold f_X10_readsFactor
  refine itr_ind (Q := (fun (f : Mem → Option (Int32 × Mem)) => ∀  (s : Mem), P (f  s) 0 [(0, .ref (Ga G 0))] [] s)) (fun _ => jx_none h) (fun r0 ih0 => ?_) N  s
  refine w_X10_readsFactor_0 hG h N  ?_ ih0
  intro s5
  refine jx_aload_n h dX10_readsFactor_20 rfl 0 rfl ?_
  refine jx_callVi [] h lm_0 (c_X10_isDigit hG N  s5) ml_X10_177 (Nat.le_of_ble_eq_true rfl) (Nat.le_of_ble_eq_true rfl) dX10_readsFactor_21 (Nat.le_of_ble_eq_true rfl) rfl (fun r7 s6 => ?_)
  refine jx_if_eq (tgt := 47) h dX10_readsFactor_24 rfl ?_ ?_
  · refine jx_aload_n h dX10_readsFactor_47 rfl 0 rfl ?_
    refine jx_callVi [] h lm_0 (c_X10_here hG N  s6) ml_X10_164 (Nat.le_of_ble_eq_true rfl) (Nat.le_of_ble_eq_true rfl) dX10_readsFactor_48 (Nat.le_of_ble_eq_true rfl) rfl (fun r9 s8 => ?_)
    refine jx_callSi [] h (c_X10_factOf hG N r9 s8) ml_X10_204 (Nat.le_of_ble_eq_true rfl) (Nat.le_of_ble_eq_true rfl) dX10_readsFactor_51 (Nat.le_of_ble_eq_true rfl) rfl (fun r11 s10 => ?_)
    refine jx_istore_n (lv' := [(1, .int r11), (0, .ref (Ga G 0))]) h dX10_readsFactor_54 rfl (Nat.le_of_ble_eq_true rfl) rfl ?_
    refine jx_iload_n h dX10_readsFactor_55 rfl 0 rfl ?_
    refine jx_iconst h dX10_readsFactor_56 ki_m1 ?_
    refine jx_icmp_ne (tgt := 70) h dX10_readsFactor_57 rfl ?_ ?_
    · refine jx_aload_n h dX10_readsFactor_70 rfl 1 rfl ?_
      refine jx_iconst h dX10_readsFactor_71 ki_1 ?_
      refine jx_iload_n h dX10_readsFactor_72 rfl 0 rfl ?_
      refine jx_callVv [] h lm_0 (c_X10_notes hG N 1 r11 s10) ml_X10_194 (Nat.le_of_ble_eq_true rfl) (Nat.le_of_ble_eq_true rfl) dX10_readsFactor_73 (Nat.le_of_ble_eq_true rfl) rfl (fun s12 => ?_)
      refine jx_aload_n h dX10_readsFactor_76 rfl 1 rfl ?_
      refine jx_aload_n h dX10_readsFactor_77 rfl 1 rfl ?_
      refine jx_get (v := .int (gi s12 0 6)) h fa_X10_158 lm_0 dX10_readsFactor_78 rfl ?_
      refine jx_iconst h dX10_readsFactor_81 ki_1 ?_
      refine jx_iadd h dX10_readsFactor_82 ?_
      refine jx_put h fa_X10_158 fp_X10_6 lm_0 rfl rfl dX10_readsFactor_83 (fu_X10_6 _ _ _ _) (fun s14 => ?_)
      refine jx_iconst h dX10_readsFactor_86 ki_1 ?_
      exact jx_zret h rfl dX10_readsFactor_87
    · refine jx_aload_n h dX10_readsFactor_60 rfl 1 rfl ?_
      refine jx_iconst h dX10_readsFactor_61 ki_1 ?_
      refine jx_aload_n h dX10_readsFactor_62 rfl 1 rfl ?_
      refine jx_get (v := .int (gi s10 0 6)) h fa_X10_158 lm_0 dX10_readsFactor_63 rfl ?_
      refine jx_callVi [] h lm_0 (c_X10_wrongAt hG N 1 (gi s10 0 6) s10) ml_X10_171 (Nat.le_of_ble_eq_true rfl) (Nat.le_of_ble_eq_true rfl) dX10_readsFactor_66 (Nat.le_of_ble_eq_true rfl) rfl (fun r16 s15 => ?_)
      exact jx_zretc h dX10_readsFactor_69
  · refine jx_aload_n h dX10_readsFactor_27 rfl 0 rfl ?_
    refine jx_callVi [] h lm_0 (c_X10_readsNumber hG N  s6) ml_X10_201 (Nat.le_of_ble_eq_true rfl) (Nat.le_of_ble_eq_true rfl) dX10_readsFactor_28 (Nat.le_of_ble_eq_true rfl) rfl (fun r18 s17 => ?_)
    refine jx_if_ne (tgt := 36) h dX10_readsFactor_31 rfl ?_ ?_
    · refine jx_aload_n h dX10_readsFactor_36 rfl 0 rfl ?_
      refine jx_iconst h dX10_readsFactor_37 ki_0 ?_
      refine jx_aload_n h dX10_readsFactor_38 rfl 0 rfl ?_
      refine jx_get (v := .int (gi s17 0 9)) h fa_X10_174 lm_0 dX10_readsFactor_39 rfl ?_
      refine jx_callVv [] h lm_0 (c_X10_notes hG N 0 (gi s17 0 9) s17) ml_X10_194 (Nat.le_of_ble_eq_true rfl) (Nat.le_of_ble_eq_true rfl) dX10_readsFactor_42 (Nat.le_of_ble_eq_true rfl) rfl (fun s19 => ?_)
      refine jx_iconst h dX10_readsFactor_45 ki_1 ?_
      exact jx_zret h rfl dX10_readsFactor_46
    · refine jx_iconst h dX10_readsFactor_34 ki_0 ?_
      exact jx_zret h rfl dX10_readsFactor_35
noncomputable def st_X10_hasOpenSum_2 (N : Nat)  (rec : Int32 → Mem → Option (Int32 × Mem)) (x2 : Int32) (s0 : Mem) : Option (Int32 × Mem) :=
  if (gi s0 0 12) ≤ x2 then (some (0, s0)) else chk x2 260 (if ((gi s0 7 (ix x2)) / 1048576) = 14 then (some (1, s0)) else lt (x2 + 1) (fun x2_1 => rec x2_1 s0))
noncomputable def f_X10_hasOpenSum (N : Nat) (x1 : Int32) (s : Mem) : Option (Int32 × Mem) :=
  itr (fun _ _ => none) (st_X10_hasOpenSum_2 N) N x1 s
set_option maxRecDepth 20000 in
theorem w_X10_hasOpenSum_2 {G : Gx} (hG : Gok G ∧ IsG G layM fsoM) {P : Option (Int32 × Mem) → Nat → List (Nat × Value) → List Value → Mem → Prop} (h : Jk G layM fsoM RX10 cX10_hasOpenSum 3 (some .boolean) 0 tvI P) (N : Nat) {rec : Int32 → Mem → Option (Int32 × Mem)} (ih : ∀ (x2 : Int32) (s : Mem), P (rec x2 s) 2 [(0, .ref (Ga G 0)), (2, .int x2)] [] s) : ∀ (x2 : Int32) (s : Mem), P (st_X10_hasOpenSum_2 N rec x2 s) 2 [(0, .ref (Ga G 0)), (2, .int x2)] [] s := by
  intro x2 s0
  unfold st_X10_hasOpenSum_2
  refine jx_iload_n h dX10_hasOpenSum_2 rfl 1 rfl ?_
  refine jx_aload_n h dX10_hasOpenSum_3 rfl 0 rfl ?_
  refine jx_get (v := .int (gi s0 0 12)) h fa_X10_188 lm_0 dX10_hasOpenSum_4 rfl ?_
  refine jx_icmp_ge (tgt := 32) h dX10_hasOpenSum_7 rfl ?_ ?_
  · refine jx_iconst h dX10_hasOpenSum_32 ki_0 ?_
    exact jx_zret h rfl dX10_hasOpenSum_33
  · refine jx_aload_n h dX10_hasOpenSum_10 rfl 0 rfl ?_
    refine jx_get (v := .ref (Ga G 7)) h fa_X10_29 lm_0 dX10_hasOpenSum_11 rfl ?_
    refine jx_iload_n h dX10_hasOpenSum_14 rfl 1 rfl ?_
    refine jx_iaload h lm_7 dX10_hasOpenSum_15 ?_
    refine jx_ldc h dX10_hasOpenSum_16 kw_X10_184 ?_
    refine jx_idivc h (by decide) dX10_hasOpenSum_18 ?_
    refine jx_bipush h dX10_hasOpenSum_19 kb_14 ?_
    refine jx_icmp_ne (tgt := 26) h dX10_hasOpenSum_21 rfl ?_ ?_
    · refine jx_iincl (L := fun w => [(2, .int w), (0, .ref (Ga G 0))]) h dX10_hasOpenSum_26 1 rfl (kn_1 _) (Nat.le_of_ble_eq_true rfl) (fun _ => rfl) (fun x2_1 => ?_)
      refine jx_goto (tgt := 2) h dX10_hasOpenSum_29 rfl ?_
      exact jx_subk [1, 0] h (ih x2_1 s0) rfl
    · refine jx_iconst h dX10_hasOpenSum_24 ki_1 ?_
      exact jx_zret h rfl dX10_hasOpenSum_25
set_option maxRecDepth 20000 in
theorem c_X10_hasOpenSum {G : Gx} (hG : Gok G ∧ IsG G layM fsoM) (N : Nat) (x1 : Int32) (s : Mem) : Ct G yX10_hasOpenSum cX10_hasOpenSum 3 (some .boolean) 0 [.ref (Ga G 0), .int x1] tvI s (f_X10_hasOpenSum N x1 s) := by
  refine Ct.of hG (by decide) (Nat.le_of_ble_eq_true rfl) (fun P h => ?_)
  show P _ 0 [(0, .ref (Ga G 0)), (1, .int x1)] [] s
  unfold f_X10_hasOpenSum
  refine jx_iload_n h dX10_hasOpenSum_0 rfl 1 rfl ?_
  refine jx_istore_n (lv' := [(2, .int x1), (0, .ref (Ga G 0)), (1, .int x1)]) h dX10_hasOpenSum_1 rfl (Nat.le_of_ble_eq_true rfl) rfl ?_
  refine jx_subk [1, 0] h (itr_ind (Q := (fun (f : Int32 → Mem → Option (Int32 × Mem)) => ∀ (x2 : Int32) (s : Mem), P (f x2 s) 2 [(0, .ref (Ga G 0)), (2, .int x2)] [] s)) (fun _ _ => jx_none h) (fun r2 ih2 => ?_) N x1 s) rfl
  refine w_X10_hasOpenSum_2 hG h N   ih2
noncomputable def st_X10_readsSum_14 (N : Nat) (x1 : Int32) (k138 : Mem → Option (Int32 × Mem)) (rec : Mem → Option (Int32 × Mem))  (s0 : Mem) : Option (Int32 × Mem) :=
  bd (f_X10_here N s0) (fun r5 s4 => bd (f_X10_sumSign N r5 s4) (fun r7 s6 => if r7 = (-1) then (bd (f_X10_here N s6) (fun r9 s8 => if r9 = 93 then (bd (f_X10_hasOpenSum N x1 s8) (fun r11 s10 => if r11 = 0 then (k138 s10) else bd (f_X10_closesSums N 1 s10) (fun _ s12 => lt (si s12 0 12 ((gi s12 0 12) - 1)) (fun s14 => lt (si s14 0 10 ((gi s14 0 10) - 1)) (fun s15 => lt (si s15 0 6 ((gi s15 0 6) + 1)) (fun s16 => rec s16)))))) else k138 s8)) else lt (fun (t18 : Int32) (s17 : Mem) => bd (f_X10_closesSums N t18 s17) (fun _ s19 => chk (gi s19 0 12) 260 (lt (si s19 7 (ix (gi s19 0 12)) ((1048576 : Int32) * r7)) (fun s21 => lt (si s21 0 12 ((gi s21 0 12) + 1)) (fun s22 => lt (si s22 0 6 ((gi s22 0 6) + 1)) (fun s23 => bd (f_X10_readsFactor N s23) (fun r25 s24 => if r25 = 0 then (some (0, s24)) else rec s24))))))) (fun j38 => if 4 ≤ r7 then (j38 0 s6) else j38 1 s6)))
noncomputable def f_X10_readsSum (N : Nat)  (s : Mem) : Option (Int32 × Mem) :=
  lt (gi s 0 12) (fun v1 => bd (f_X10_readsFactor N s) (fun r3 s2 => if r3 = 0 then (some (0, s2)) else itr (fun _ => none) (st_X10_readsSum_14 N v1 (fun  (s26 : Mem) => bd (f_X10_hasOpenSum N v1 s26) (fun r28 s27 => if r28 = 0 then (bd (f_X10_closesSums N 1 s27) (fun _ s29 => some (1, s29))) else bd (f_X10_wrongAt N 1 (gi s27 0 6) s27) (fun r32 s31 => ckz r32 (some (r32, s31)))))) N  s2))
set_option maxRecDepth 20000 in
theorem w_X10_readsSum_14 {G : Gx} (hG : Gok G ∧ IsG G layM fsoM) {P : Option (Int32 × Mem) → Nat → List (Nat × Value) → List Value → Mem → Prop} (h : Jk G layM fsoM RX10 cX10_readsSum 3 (some .boolean) 4 tvI P) (N : Nat) (x1 : Int32) {k138 : Mem → Option (Int32 × Mem)} (hk138 : ∀  (s : Mem), P (k138 s) 138 [(0, .ref (Ga G 0)), (1, .int x1)] [] s) {rec : Mem → Option (Int32 × Mem)} (ih : ∀  (s : Mem), P (rec  s) 14 [(0, .ref (Ga G 0)), (1, .int x1)] [] s) : ∀  (s : Mem), P (st_X10_readsSum_14 N x1 k138 rec s) 14 [(0, .ref (Ga G 0)), (1, .int x1)] [] s := by
  intro  s0
  unfold st_X10_readsSum_14
  refine jx_aload_n h dX10_readsSum_14 rfl 0 rfl ?_
  refine jx_callVi [] h lm_0 (c_X10_here hG N  s0) ml_X10_164 (Nat.le_of_ble_eq_true rfl) (Nat.le_of_ble_eq_true rfl) dX10_readsSum_15 (Nat.le_of_ble_eq_true rfl) rfl (fun r5 s4 => ?_)
  refine jx_callSi [] h (c_X10_sumSign hG N r5 s4) ml_X10_211 (Nat.le_of_ble_eq_true rfl) (Nat.le_of_ble_eq_true rfl) dX10_readsSum_18 (Nat.le_of_ble_eq_true rfl) rfl (fun r7 s6 => ?_)
  refine jx_istore_n (lv' := [(2, .int r7), (0, .ref (Ga G 0)), (1, .int x1)]) h dX10_readsSum_21 rfl (Nat.le_of_ble_eq_true rfl) rfl ?_
  refine jx_iload_n h dX10_readsSum_22 rfl 0 rfl ?_
  refine jx_iconst h dX10_readsSum_23 ki_m1 ?_
  refine jx_icmp_eq (tgt := 83) h dX10_readsSum_24 rfl ?_ ?_
  · refine jx_aload_n h dX10_readsSum_83 rfl 1 rfl ?_
    refine jx_callVi [] h lm_0 (c_X10_here hG N  s6) ml_X10_164 (Nat.le_of_ble_eq_true rfl) (Nat.le_of_ble_eq_true rfl) dX10_readsSum_84 (Nat.le_of_ble_eq_true rfl) rfl (fun r9 s8 => ?_)
    refine jx_bipush h dX10_readsSum_87 kb_93 ?_
    refine jx_icmp_ne (tgt := 138) h dX10_readsSum_89 rfl ?_ ?_
    · exact jx_subk [1, 2] h (hk138 s8) rfl
    · refine jx_aload_n h dX10_readsSum_92 rfl 1 rfl ?_
      refine jx_iload_n h dX10_readsSum_93 rfl 2 rfl ?_
      refine jx_callVi [] h lm_0 (c_X10_hasOpenSum hG N x1 s8) ml_X10_218 (Nat.le_of_ble_eq_true rfl) (Nat.le_of_ble_eq_true rfl) dX10_readsSum_94 (Nat.le_of_ble_eq_true rfl) rfl (fun r11 s10 => ?_)
      refine jx_if_eq (tgt := 138) h dX10_readsSum_97 rfl ?_ ?_
      · exact jx_subk [1, 2] h (hk138 s10) rfl
      · refine jx_aload_n h dX10_readsSum_100 rfl 1 rfl ?_
        refine jx_iconst h dX10_readsSum_101 ki_1 ?_
        refine jx_callVv [] h lm_0 (c_X10_closesSums hG N 1 s10) ml_X10_214 (Nat.le_of_ble_eq_true rfl) (Nat.le_of_ble_eq_true rfl) dX10_readsSum_102 (Nat.le_of_ble_eq_true rfl) rfl (fun s12 => ?_)
        refine jx_aload_n h dX10_readsSum_105 rfl 1 rfl ?_
        refine jx_aload_n h dX10_readsSum_106 rfl 1 rfl ?_
        refine jx_get (v := .int (gi s12 0 12)) h fa_X10_188 lm_0 dX10_readsSum_107 rfl ?_
        refine jx_iconst h dX10_readsSum_110 ki_1 ?_
        refine jx_isub h dX10_readsSum_111 ?_
        refine jx_put h fa_X10_188 fp_X10_12 lm_0 rfl rfl dX10_readsSum_112 (fu_X10_12 _ _ _ _) (fun s14 => ?_)
        refine jx_aload_n h dX10_readsSum_115 rfl 1 rfl ?_
        refine jx_aload_n h dX10_readsSum_116 rfl 1 rfl ?_
        refine jx_get (v := .int (gi s14 0 10)) h fa_X10_185 lm_0 dX10_readsSum_117 rfl ?_
        refine jx_iconst h dX10_readsSum_120 ki_1 ?_
        refine jx_isub h dX10_readsSum_121 ?_
        refine jx_put h fa_X10_185 fp_X10_10 lm_0 rfl rfl dX10_readsSum_122 (fu_X10_10 _ _ _ _) (fun s15 => ?_)
        refine jx_aload_n h dX10_readsSum_125 rfl 1 rfl ?_
        refine jx_aload_n h dX10_readsSum_126 rfl 1 rfl ?_
        refine jx_get (v := .int (gi s15 0 6)) h fa_X10_158 lm_0 dX10_readsSum_127 rfl ?_
        refine jx_iconst h dX10_readsSum_130 ki_1 ?_
        refine jx_iadd h dX10_readsSum_131 ?_
        refine jx_put h fa_X10_158 fp_X10_6 lm_0 rfl rfl dX10_readsSum_132 (fu_X10_6 _ _ _ _) (fun s16 => ?_)
        refine jx_goto (tgt := 163) h dX10_readsSum_135 rfl ?_
        refine jx_goto (tgt := 14) h dX10_readsSum_163 rfl ?_
        exact jx_subk [1, 2] h (ih s16) rfl
  · refine jx_aload_n h dX10_readsSum_27 rfl 1 rfl ?_
    refine jx_iload_n h dX10_readsSum_28 rfl 0 rfl ?_
    refine jx_iconst h dX10_readsSum_29 ki_4 ?_
    refine jx_join (fun (j : Int32 → Mem → Option (Int32 × Mem)) => ∀ (t18 : Int32) (s17 : Mem), P (j t18 s17) 38 [(0, .ref (Ga G 0)), (1, .int x1), (2, .int r7)] [.int t18, .ref (Ga G 0)] s17) (fun t18 s17 => ?_) (fun j38 hj38 => ?_)
    · refine jx_callVv [] h lm_0 (c_X10_closesSums hG N t18 s17) ml_X10_214 (Nat.le_of_ble_eq_true rfl) (Nat.le_of_ble_eq_true rfl) dX10_readsSum_38 (Nat.le_of_ble_eq_true rfl) rfl (fun s19 => ?_)
      refine jx_aload_n h dX10_readsSum_41 rfl 0 rfl ?_
      refine jx_get (v := .ref (Ga G 7)) h fa_X10_29 lm_0 dX10_readsSum_42 rfl ?_
      refine jx_aload_n h dX10_readsSum_45 rfl 0 rfl ?_
      refine jx_get (v := .int (gi s19 0 12)) h fa_X10_188 lm_0 dX10_readsSum_46 rfl ?_
      refine jx_ldc h dX10_readsSum_49 kw_X10_184 ?_
      refine jx_iload_n h dX10_readsSum_51 rfl 2 rfl ?_
      refine jx_imul h dX10_readsSum_52 ?_
      refine jx_iastore h lm_7 dX10_readsSum_53 (fun s21 => ?_)
      refine jx_aload_n h dX10_readsSum_54 rfl 0 rfl ?_
      refine jx_aload_n h dX10_readsSum_55 rfl 0 rfl ?_
      refine jx_get (v := .int (gi s21 0 12)) h fa_X10_188 lm_0 dX10_readsSum_56 rfl ?_
      refine jx_iconst h dX10_readsSum_59 ki_1 ?_
      refine jx_iadd h dX10_readsSum_60 ?_
      refine jx_put h fa_X10_188 fp_X10_12 lm_0 rfl rfl dX10_readsSum_61 (fu_X10_12 _ _ _ _) (fun s22 => ?_)
      refine jx_aload_n h dX10_readsSum_64 rfl 0 rfl ?_
      refine jx_aload_n h dX10_readsSum_65 rfl 0 rfl ?_
      refine jx_get (v := .int (gi s22 0 6)) h fa_X10_158 lm_0 dX10_readsSum_66 rfl ?_
      refine jx_iconst h dX10_readsSum_69 ki_1 ?_
      refine jx_iadd h dX10_readsSum_70 ?_
      refine jx_put h fa_X10_158 fp_X10_6 lm_0 rfl rfl dX10_readsSum_71 (fu_X10_6 _ _ _ _) (fun s23 => ?_)
      refine jx_aload_n h dX10_readsSum_74 rfl 0 rfl ?_
      refine jx_callVi [] h lm_0 (c_X10_readsFactor hG N  s23) ml_X10_208 (Nat.le_of_ble_eq_true rfl) (Nat.le_of_ble_eq_true rfl) dX10_readsSum_75 (Nat.le_of_ble_eq_true rfl) rfl (fun r25 s24 => ?_)
      refine jx_if_ne (tgt := 163) h dX10_readsSum_78 rfl ?_ ?_
      · refine jx_goto (tgt := 14) h dX10_readsSum_163 rfl ?_
        exact jx_subk [0, 1] h (ih s24) rfl
      · refine jx_iconst h dX10_readsSum_81 ki_0 ?_
        exact jx_zret h rfl dX10_readsSum_82
    · refine jx_icmp_ge (tgt := 37) h dX10_readsSum_30 rfl ?_ ?_
      · refine jx_iconst h dX10_readsSum_37 ki_0 ?_
        exact jx_subk [1, 2, 0] h (hj38 0 s6) rfl
      · refine jx_iconst h dX10_readsSum_33 ki_1 ?_
        refine jx_goto (tgt := 38) h dX10_readsSum_34 rfl ?_
        exact jx_subk [1, 2, 0] h (hj38 1 s6) rfl
set_option maxRecDepth 20000 in
theorem c_X10_readsSum {G : Gx} (hG : Gok G ∧ IsG G layM fsoM) (N : Nat)  (s : Mem) : Ct G yX10_readsSum cX10_readsSum 3 (some .boolean) 4 [.ref (Ga G 0)] tvI s (f_X10_readsSum N s) := by
  refine Ct.of hG (by decide) (Nat.le_of_ble_eq_true rfl) (fun P h => ?_)
  show P _ 0 [(0, .ref (Ga G 0))] [] s
  unfold f_X10_readsSum
  refine jx_aload_n h dX10_readsSum_0 rfl 0 rfl ?_
  refine jx_get (v := .int (gi s 0 12)) h fa_X10_188 lm_0 dX10_readsSum_1 rfl ?_
  refine jx_lti (fun v1 => ?_)
  refine jx_istore_n (lv' := [(1, .int v1), (0, .ref (Ga G 0))]) h dX10_readsSum_4 rfl (Nat.le_of_ble_eq_true rfl) rfl ?_
  refine jx_aload_n h dX10_readsSum_5 rfl 1 rfl ?_
  refine jx_callVi [] h lm_0 (c_X10_readsFactor hG N  s) ml_X10_208 (Nat.le_of_ble_eq_true rfl) (Nat.le_of_ble_eq_true rfl) dX10_readsSum_6 (Nat.le_of_ble_eq_true rfl) rfl (fun r3 s2 => ?_)
  refine jx_if_ne (tgt := 14) h dX10_readsSum_9 rfl ?_ ?_
  · refine jx_subk [1, 0] h (itr_ind (Q := (fun (f : Mem → Option (Int32 × Mem)) => ∀  (s : Mem), P (f  s) 14 [(0, .ref (Ga G 0)), (1, .int v1)] [] s)) (fun _ => jx_none h) (fun r14 ih14 => ?_) N  s2) rfl
    refine w_X10_readsSum_14 hG h N v1 ?_ ih14
    intro s26
    refine jx_aload_n h dX10_readsSum_138 rfl 0 rfl ?_
    refine jx_iload_n h dX10_readsSum_139 rfl 1 rfl ?_
    refine jx_callVi [] h lm_0 (c_X10_hasOpenSum hG N v1 s26) ml_X10_218 (Nat.le_of_ble_eq_true rfl) (Nat.le_of_ble_eq_true rfl) dX10_readsSum_140 (Nat.le_of_ble_eq_true rfl) rfl (fun r28 s27 => ?_)
    refine jx_if_eq (tgt := 156) h dX10_readsSum_143 rfl ?_ ?_
    · refine jx_aload_n h dX10_readsSum_156 rfl 0 rfl ?_
      refine jx_iconst h dX10_readsSum_157 ki_1 ?_
      refine jx_callVv [] h lm_0 (c_X10_closesSums hG N 1 s27) ml_X10_214 (Nat.le_of_ble_eq_true rfl) (Nat.le_of_ble_eq_true rfl) dX10_readsSum_158 (Nat.le_of_ble_eq_true rfl) rfl (fun s29 => ?_)
      refine jx_iconst h dX10_readsSum_161 ki_1 ?_
      exact jx_zret h rfl dX10_readsSum_162
    · refine jx_aload_n h dX10_readsSum_146 rfl 0 rfl ?_
      refine jx_iconst h dX10_readsSum_147 ki_1 ?_
      refine jx_aload_n h dX10_readsSum_148 rfl 0 rfl ?_
      refine jx_get (v := .int (gi s27 0 6)) h fa_X10_158 lm_0 dX10_readsSum_149 rfl ?_
      refine jx_callVi [] h lm_0 (c_X10_wrongAt hG N 1 (gi s27 0 6) s27) ml_X10_171 (Nat.le_of_ble_eq_true rfl) (Nat.le_of_ble_eq_true rfl) dX10_readsSum_152 (Nat.le_of_ble_eq_true rfl) rfl (fun r32 s31 => ?_)
      exact jx_zretc h dX10_readsSum_155
  · refine jx_iconst h dX10_readsSum_12 ki_0 ?_
    exact jx_zret h rfl dX10_readsSum_13
noncomputable def st_X10_endsPiece_0 (N : Nat)  (rec : Mem → Option (Unit × Mem))  (s0 : Mem) : Option (Unit × Mem) :=
  bd (f_X10_waitTop N s0) (fun r2 s1 => if r2 = 10 then (bd (f_X10_notes N 10 0 s1) (fun _ s3 => lt (si s3 0 12 ((gi s3 0 12) - 1)) (fun s5 => lt (si s5 0 10 ((gi s5 0 10) - 1)) (fun s6 => rec s6)))) else some ((), s1))
noncomputable def f_X10_endsPiece (N : Nat)  (s : Mem) : Option (Unit × Mem) :=
  itr (fun _ => none) (st_X10_endsPiece_0 N) N  s
set_option maxRecDepth 20000 in
theorem w_X10_endsPiece_0 {G : Gx} (hG : Gok G ∧ IsG G layM fsoM) {P : Option (Unit × Mem) → Nat → List (Nat × Value) → List Value → Mem → Prop} (h : Jk G layM fsoM RX10 cX10_endsPiece 1 none 1 tvV P) (N : Nat) {rec : Mem → Option (Unit × Mem)} (ih : ∀  (s : Mem), P (rec  s) 0 [(0, .ref (Ga G 0))] [] s) : ∀  (s : Mem), P (st_X10_endsPiece_0 N rec s) 0 [(0, .ref (Ga G 0))] [] s := by
  intro  s0
  unfold st_X10_endsPiece_0
  refine jx_aload_n h dX10_endsPiece_0 rfl 0 rfl ?_
  refine jx_callVi [] h lm_0 (c_X10_waitTop hG N  s0) ml_X10_191 (Nat.le_of_ble_eq_true rfl) (Nat.le_of_ble_eq_true rfl) dX10_endsPiece_1 (Nat.le_of_ble_eq_true rfl) rfl (fun r2 s1 => ?_)
  refine jx_bipush h dX10_endsPiece_4 kb_10 ?_
  refine jx_icmp_ne (tgt := 39) h dX10_endsPiece_6 rfl ?_ ?_
  · exact jx_vret h dX10_endsPiece_39
  · refine jx_aload_n h dX10_endsPiece_9 rfl 0 rfl ?_
    refine jx_bipush h dX10_endsPiece_10 kb_10 ?_
    refine jx_iconst h dX10_endsPiece_12 ki_0 ?_
    refine jx_callVv [] h lm_0 (c_X10_notes hG N 10 0 s1) ml_X10_194 (Nat.le_of_ble_eq_true rfl) (Nat.le_of_ble_eq_true rfl) dX10_endsPiece_13 (Nat.le_of_ble_eq_true rfl) rfl (fun s3 => ?_)
    refine jx_aload_n h dX10_endsPiece_16 rfl 0 rfl ?_
    refine jx_aload_n h dX10_endsPiece_17 rfl 0 rfl ?_
    refine jx_get (v := .int (gi s3 0 12)) h fa_X10_188 lm_0 dX10_endsPiece_18 rfl ?_
    refine jx_iconst h dX10_endsPiece_21 ki_1 ?_
    refine jx_isub h dX10_endsPiece_22 ?_
    refine jx_put h fa_X10_188 fp_X10_12 lm_0 rfl rfl dX10_endsPiece_23 (fu_X10_12 _ _ _ _) (fun s5 => ?_)
    refine jx_aload_n h dX10_endsPiece_26 rfl 0 rfl ?_
    refine jx_aload_n h dX10_endsPiece_27 rfl 0 rfl ?_
    refine jx_get (v := .int (gi s5 0 10)) h fa_X10_185 lm_0 dX10_endsPiece_28 rfl ?_
    refine jx_iconst h dX10_endsPiece_31 ki_1 ?_
    refine jx_isub h dX10_endsPiece_32 ?_
    refine jx_put h fa_X10_185 fp_X10_10 lm_0 rfl rfl dX10_endsPiece_33 (fu_X10_10 _ _ _ _) (fun s6 => ?_)
    refine jx_goto (tgt := 0) h dX10_endsPiece_36 rfl ?_
    exact ih s6
set_option maxRecDepth 20000 in
theorem c_X10_endsPiece {G : Gx} (hG : Gok G ∧ IsG G layM fsoM) (N : Nat)  (s : Mem) : Ct G yX10_endsPiece cX10_endsPiece 1 none 1 [.ref (Ga G 0)] tvV s (f_X10_endsPiece N s) := by
  refine Ct.of hG (by decide) (Nat.le_of_ble_eq_true rfl) (fun P h => ?_)
  show P _ 0 [(0, .ref (Ga G 0))] [] s
  unfold f_X10_endsPiece
  refine itr_ind (Q := (fun (f : Mem → Option (Unit × Mem)) => ∀  (s : Mem), P (f  s) 0 [(0, .ref (Ga G 0))] [] s)) (fun _ => jx_none h) (fun r0 ih0 => ?_) N  s
  refine w_X10_endsPiece_0 hG h N   ih0
noncomputable def st_X10_lands_0 (N : Nat) (x1 : Int32)  (rec : Mem → Option (Unit × Mem))  (s0 : Mem) : Option (Unit × Mem) :=
  bd (f_X10_waitTop N s0) (fun r2 s1 => lt (fun  (s3 : Mem) => chk ((gi s3 0 12) - 1) 260 (lt ((gi s3 7 (ix ((gi s3 0 12) - 1))) - (gi s3 7 (ix ((gi s3 0 12) - 1))) / 1048576 * 1048576) (fun v4 => chk v4 260 (chk v4 260 (lt (si s3 6 (ix v4) (((1048576 : Int32) * ((gi s3 6 (ix v4)) / 1048576)) + (gi s3 0 11))) (fun s5 => lt (si s5 0 12 ((gi s5 0 12) - 1)) (fun s6 => rec s6))))))) (fun j22 => if r2 = 11 then (j22 s1) else if x1 = 0 then (some ((), s1)) else bd (f_X10_waitTop N s1) (fun r8 s7 => if r8 = 12 then (j22 s7) else some ((), s7))))
noncomputable def f_X10_lands (N : Nat) (x1 : Int32) (s : Mem) : Option (Unit × Mem) :=
  itr (fun _ => none) (st_X10_lands_0 N x1) N  s
set_option maxRecDepth 20000 in
theorem w_X10_lands_0 {G : Gx} (hG : Gok G ∧ IsG G layM fsoM) {P : Option (Unit × Mem) → Nat → List (Nat × Value) → List Value → Mem → Prop} (h : Jk G layM fsoM RX10 cX10_lands 3 none 1 tvV P) (N : Nat) (x1 : Int32) {rec : Mem → Option (Unit × Mem)} (ih : ∀  (s : Mem), P (rec  s) 0 [(0, .ref (Ga G 0)), (1, .int x1)] [] s) : ∀  (s : Mem), P (st_X10_lands_0 N x1 rec s) 0 [(0, .ref (Ga G 0)), (1, .int x1)] [] s := by
  intro  s0
  unfold st_X10_lands_0
  refine jx_aload_n h dX10_lands_0 rfl 0 rfl ?_
  refine jx_callVi [] h lm_0 (c_X10_waitTop hG N  s0) ml_X10_191 (Nat.le_of_ble_eq_true rfl) (Nat.le_of_ble_eq_true rfl) dX10_lands_1 (Nat.le_of_ble_eq_true rfl) rfl (fun r2 s1 => ?_)
  refine jx_bipush h dX10_lands_4 kb_11 ?_
  refine jx_join (fun (j : Mem → Option (Unit × Mem)) => ∀  (s3 : Mem), P (j  s3) 22 [(0, .ref (Ga G 0)), (1, .int x1)] [] s3) (fun  s3 => ?_) (fun j22 hj22 => ?_)
  · refine jx_aload_n h dX10_lands_22 rfl 0 rfl ?_
    refine jx_get (v := .ref (Ga G 7)) h fa_X10_29 lm_0 dX10_lands_23 rfl ?_
    refine jx_aload_n h dX10_lands_26 rfl 0 rfl ?_
    refine jx_get (v := .int (gi s3 0 12)) h fa_X10_188 lm_0 dX10_lands_27 rfl ?_
    refine jx_iconst h dX10_lands_30 ki_1 ?_
    refine jx_isub h dX10_lands_31 ?_
    refine jx_iaload h lm_7 dX10_lands_32 ?_
    refine jx_ldc h dX10_lands_33 kw_X10_184 ?_
    refine jx_iremc h (by decide) dX10_lands_35 ?_
    refine jx_lti (fun v4 => ?_)
    refine jx_istore_n (lv' := [(2, .int v4), (0, .ref (Ga G 0)), (1, .int x1)]) h dX10_lands_36 rfl (Nat.le_of_ble_eq_true rfl) rfl ?_
    refine jx_aload_n h dX10_lands_37 rfl 1 rfl ?_
    refine jx_get (v := .ref (Ga G 6)) h fa_X10_26 lm_0 dX10_lands_38 rfl ?_
    refine jx_iload_n h dX10_lands_41 rfl 0 rfl ?_
    refine jx_ldc h dX10_lands_42 kw_X10_184 ?_
    refine jx_aload_n h dX10_lands_44 rfl 1 rfl ?_
    refine jx_get (v := .ref (Ga G 6)) h fa_X10_26 lm_0 dX10_lands_45 rfl ?_
    refine jx_iload_n h dX10_lands_48 rfl 0 rfl ?_
    refine jx_iaload h lm_6 dX10_lands_49 ?_
    refine jx_ldc h dX10_lands_50 kw_X10_184 ?_
    refine jx_idivc h (by decide) dX10_lands_52 ?_
    refine jx_imul h dX10_lands_53 ?_
    refine jx_aload_n h dX10_lands_54 rfl 1 rfl ?_
    refine jx_get (v := .int (gi s3 0 11)) h fa_X10_181 lm_0 dX10_lands_55 rfl ?_
    refine jx_iadd h dX10_lands_58 ?_
    refine jx_iastore h lm_6 dX10_lands_59 (fun s5 => ?_)
    refine jx_aload_n h dX10_lands_60 rfl 1 rfl ?_
    refine jx_aload_n h dX10_lands_61 rfl 1 rfl ?_
    refine jx_get (v := .int (gi s5 0 12)) h fa_X10_188 lm_0 dX10_lands_62 rfl ?_
    refine jx_iconst h dX10_lands_65 ki_1 ?_
    refine jx_isub h dX10_lands_66 ?_
    refine jx_put h fa_X10_188 fp_X10_12 lm_0 rfl rfl dX10_lands_67 (fu_X10_12 _ _ _ _) (fun s6 => ?_)
    refine jx_goto (tgt := 0) h dX10_lands_70 rfl ?_
    exact jx_subk [1, 2] h (ih s6) rfl
  · refine jx_icmp_eq (tgt := 22) h dX10_lands_6 rfl ?_ ?_
    · exact hj22 s1
    · refine jx_iload_n h dX10_lands_9 rfl 1 rfl ?_
      refine jx_if_eq (tgt := 73) h dX10_lands_10 rfl ?_ ?_
      · exact jx_vret h dX10_lands_73
      · refine jx_aload_n h dX10_lands_13 rfl 0 rfl ?_
        refine jx_callVi [] h lm_0 (c_X10_waitTop hG N  s1) ml_X10_191 (Nat.le_of_ble_eq_true rfl) (Nat.le_of_ble_eq_true rfl) dX10_lands_14 (Nat.le_of_ble_eq_true rfl) rfl (fun r8 s7 => ?_)
        refine jx_bipush h dX10_lands_17 kb_12 ?_
        refine jx_icmp_ne (tgt := 73) h dX10_lands_19 rfl ?_ ?_
        · exact jx_vret h dX10_lands_73
        · exact hj22 s7
set_option maxRecDepth 20000 in
theorem c_X10_lands {G : Gx} (hG : Gok G ∧ IsG G layM fsoM) (N : Nat) (x1 : Int32) (s : Mem) : Ct G yX10_lands cX10_lands 3 none 1 [.ref (Ga G 0), .int x1] tvV s (f_X10_lands N x1 s) := by
  refine Ct.of hG (by decide) (Nat.le_of_ble_eq_true rfl) (fun P h => ?_)
  show P _ 0 [(0, .ref (Ga G 0)), (1, .int x1)] [] s
  unfold f_X10_lands
  refine itr_ind (Q := (fun (f : Mem → Option (Unit × Mem)) => ∀  (s : Mem), P (f  s) 0 [(0, .ref (Ga G 0)), (1, .int x1)] [] s)) (fun _ => jx_none h) (fun r0 ih0 => ?_) N  s
  refine w_X10_lands_0 hG h N x1  ih0
noncomputable def f_X10_jumps (N : Nat) (x1 : Int32) (s : Mem) : Option (Unit × Mem) :=
  chk (gi s 0 12) 260 (lt (si s 7 (ix (gi s 0 12)) (((1048576 : Int32) * x1) + (gi s 0 11))) (fun s1 => lt (si s1 0 12 ((gi s1 0 12) + 1)) (fun s2 => bd (f_X10_notes N x1 0 s2) (fun _ s3 => lt (si s3 0 6 ((gi s3 0 6) + 1)) (fun s5 => some ((), s5))))))
set_option maxRecDepth 20000 in
theorem c_X10_jumps {G : Gx} (hG : Gok G ∧ IsG G layM fsoM) (N : Nat) (x1 : Int32) (s : Mem) : Ct G yX10_jumps cX10_jumps 2 none 1 [.ref (Ga G 0), .int x1] tvV s (f_X10_jumps N x1 s) := by
  refine Ct.of hG (by decide) (Nat.le_of_ble_eq_true rfl) (fun P h => ?_)
  show P _ 0 [(0, .ref (Ga G 0)), (1, .int x1)] [] s
  unfold f_X10_jumps
  refine jx_aload_n h dX10_jumps_0 rfl 0 rfl ?_
  refine jx_get (v := .ref (Ga G 7)) h fa_X10_29 lm_0 dX10_jumps_1 rfl ?_
  refine jx_aload_n h dX10_jumps_4 rfl 0 rfl ?_
  refine jx_get (v := .int (gi s 0 12)) h fa_X10_188 lm_0 dX10_jumps_5 rfl ?_
  refine jx_ldc h dX10_jumps_8 kw_X10_184 ?_
  refine jx_iload_n h dX10_jumps_10 rfl 1 rfl ?_
  refine jx_imul h dX10_jumps_11 ?_
  refine jx_aload_n h dX10_jumps_12 rfl 0 rfl ?_
  refine jx_get (v := .int (gi s 0 11)) h fa_X10_181 lm_0 dX10_jumps_13 rfl ?_
  refine jx_iadd h dX10_jumps_16 ?_
  refine jx_iastore h lm_7 dX10_jumps_17 (fun s1 => ?_)
  refine jx_aload_n h dX10_jumps_18 rfl 0 rfl ?_
  refine jx_aload_n h dX10_jumps_19 rfl 0 rfl ?_
  refine jx_get (v := .int (gi s1 0 12)) h fa_X10_188 lm_0 dX10_jumps_20 rfl ?_
  refine jx_iconst h dX10_jumps_23 ki_1 ?_
  refine jx_iadd h dX10_jumps_24 ?_
  refine jx_put h fa_X10_188 fp_X10_12 lm_0 rfl rfl dX10_jumps_25 (fu_X10_12 _ _ _ _) (fun s2 => ?_)
  refine jx_aload_n h dX10_jumps_28 rfl 0 rfl ?_
  refine jx_iload_n h dX10_jumps_29 rfl 1 rfl ?_
  refine jx_iconst h dX10_jumps_30 ki_0 ?_
  refine jx_callVv [] h lm_0 (c_X10_notes hG N x1 0 s2) ml_X10_194 (Nat.le_of_ble_eq_true rfl) (Nat.le_of_ble_eq_true rfl) dX10_jumps_31 (Nat.le_of_ble_eq_true rfl) rfl (fun s3 => ?_)
  refine jx_aload_n h dX10_jumps_34 rfl 0 rfl ?_
  refine jx_aload_n h dX10_jumps_35 rfl 0 rfl ?_
  refine jx_get (v := .int (gi s3 0 6)) h fa_X10_158 lm_0 dX10_jumps_36 rfl ?_
  refine jx_iconst h dX10_jumps_39 ki_1 ?_
  refine jx_iadd h dX10_jumps_40 ?_
  refine jx_put h fa_X10_158 fp_X10_6 lm_0 rfl rfl dX10_jumps_41 (fu_X10_6 _ _ _ _) (fun s5 => ?_)
  exact jx_vret h dX10_jumps_44
noncomputable def f_X10_readsCompared (N : Nat)  (s : Mem) : Option (Int32 × Mem) :=
  bd (f_X10_readsSum N s) (fun r2 s1 => if r2 = 0 then (some (0, s1)) else bd (f_X10_here N s1) (fun r4 s3 => lt (fun (t6 : Int32) (s5 : Mem) => if t6 = (-1) then (bd (f_X10_wrongAt N 1 (gi s5 0 6) s5) (fun r15 s14 => ckz r15 (some (r15, s14)))) else lt (si s5 0 6 ((gi s5 0 6) + 1)) (fun s7 => bd (f_X10_readsSum N s7) (fun r9 s8 => if r9 = 0 then (some (0, s8)) else bd (f_X10_notes N t6 0 s8) (fun _ s10 => bd (f_X10_endsPiece N s10) (fun _ s12 => some (1, s12)))))) (fun j52 => if r4 = 60 then (j52 7 s3) else bd (f_X10_here N s3) (fun r17 s16 => if r17 = 62 then (j52 8 s16) else bd (f_X10_here N s16) (fun r19 s18 => if r19 = 61 then (j52 9 s18) else j52 (-1) s18)))))
set_option maxRecDepth 20000 in
theorem c_X10_readsCompared {G : Gx} (hG : Gok G ∧ IsG G layM fsoM) (N : Nat)  (s : Mem) : Ct G yX10_readsCompared cX10_readsCompared 2 (some .boolean) 5 [.ref (Ga G 0)] tvI s (f_X10_readsCompared N s) := by
  refine Ct.of hG (by decide) (Nat.le_of_ble_eq_true rfl) (fun P h => ?_)
  show P _ 0 [(0, .ref (Ga G 0))] [] s
  unfold f_X10_readsCompared
  refine jx_aload_n h dX10_readsCompared_0 rfl 0 rfl ?_
  refine jx_callVi [] h lm_0 (c_X10_readsSum hG N  s) ml_X10_221 (Nat.le_of_ble_eq_true rfl) (Nat.le_of_ble_eq_true rfl) dX10_readsCompared_1 (Nat.le_of_ble_eq_true rfl) rfl (fun r2 s1 => ?_)
  refine jx_if_ne (tgt := 9) h dX10_readsCompared_4 rfl ?_ ?_
  · refine jx_aload_n h dX10_readsCompared_9 rfl 0 rfl ?_
    refine jx_callVi [] h lm_0 (c_X10_here hG N  s1) ml_X10_164 (Nat.le_of_ble_eq_true rfl) (Nat.le_of_ble_eq_true rfl) dX10_readsCompared_10 (Nat.le_of_ble_eq_true rfl) rfl (fun r4 s3 => ?_)
    refine jx_bipush h dX10_readsCompared_13 kb_60 ?_
    refine jx_join (fun (j : Int32 → Mem → Option (Int32 × Mem)) => ∀ (t6 : Int32) (s5 : Mem), P (j t6 s5) 52 [(0, .ref (Ga G 0))] [.int t6] s5) (fun t6 s5 => ?_) (fun j52 hj52 => ?_)
    · refine jx_istore_n (lv' := [(1, .int t6), (0, .ref (Ga G 0))]) h dX10_readsCompared_52 rfl (Nat.le_of_ble_eq_true rfl) rfl ?_
      refine jx_iload_n h dX10_readsCompared_53 rfl 0 rfl ?_
      refine jx_iconst h dX10_readsCompared_54 ki_m1 ?_
      refine jx_icmp_ne (tgt := 68) h dX10_readsCompared_55 rfl ?_ ?_
      · refine jx_aload_n h dX10_readsCompared_68 rfl 1 rfl ?_
        refine jx_aload_n h dX10_readsCompared_69 rfl 1 rfl ?_
        refine jx_get (v := .int (gi s5 0 6)) h fa_X10_158 lm_0 dX10_readsCompared_70 rfl ?_
        refine jx_iconst h dX10_readsCompared_73 ki_1 ?_
        refine jx_iadd h dX10_readsCompared_74 ?_
        refine jx_put h fa_X10_158 fp_X10_6 lm_0 rfl rfl dX10_readsCompared_75 (fu_X10_6 _ _ _ _) (fun s7 => ?_)
        refine jx_aload_n h dX10_readsCompared_78 rfl 1 rfl ?_
        refine jx_callVi [] h lm_0 (c_X10_readsSum hG N  s7) ml_X10_221 (Nat.le_of_ble_eq_true rfl) (Nat.le_of_ble_eq_true rfl) dX10_readsCompared_79 (Nat.le_of_ble_eq_true rfl) rfl (fun r9 s8 => ?_)
        refine jx_if_ne (tgt := 87) h dX10_readsCompared_82 rfl ?_ ?_
        · refine jx_aload_n h dX10_readsCompared_87 rfl 1 rfl ?_
          refine jx_iload_n h dX10_readsCompared_88 rfl 0 rfl ?_
          refine jx_iconst h dX10_readsCompared_89 ki_0 ?_
          refine jx_callVv [] h lm_0 (c_X10_notes hG N t6 0 s8) ml_X10_194 (Nat.le_of_ble_eq_true rfl) (Nat.le_of_ble_eq_true rfl) dX10_readsCompared_90 (Nat.le_of_ble_eq_true rfl) rfl (fun s10 => ?_)
          refine jx_aload_n h dX10_readsCompared_93 rfl 1 rfl ?_
          refine jx_callVv [] h lm_0 (c_X10_endsPiece hG N  s10) ml_X10_224 (Nat.le_of_ble_eq_true rfl) (Nat.le_of_ble_eq_true rfl) dX10_readsCompared_94 (Nat.le_of_ble_eq_true rfl) rfl (fun s12 => ?_)
          refine jx_iconst h dX10_readsCompared_97 ki_1 ?_
          exact jx_zret h rfl dX10_readsCompared_98
        · refine jx_iconst h dX10_readsCompared_85 ki_0 ?_
          exact jx_zret h rfl dX10_readsCompared_86
      · refine jx_aload_n h dX10_readsCompared_58 rfl 1 rfl ?_
        refine jx_iconst h dX10_readsCompared_59 ki_1 ?_
        refine jx_aload_n h dX10_readsCompared_60 rfl 1 rfl ?_
        refine jx_get (v := .int (gi s5 0 6)) h fa_X10_158 lm_0 dX10_readsCompared_61 rfl ?_
        refine jx_callVi [] h lm_0 (c_X10_wrongAt hG N 1 (gi s5 0 6) s5) ml_X10_171 (Nat.le_of_ble_eq_true rfl) (Nat.le_of_ble_eq_true rfl) dX10_readsCompared_64 (Nat.le_of_ble_eq_true rfl) rfl (fun r15 s14 => ?_)
        exact jx_zretc h dX10_readsCompared_67
    · refine jx_icmp_ne (tgt := 23) h dX10_readsCompared_15 rfl ?_ ?_
      · refine jx_aload_n h dX10_readsCompared_23 rfl 0 rfl ?_
        refine jx_callVi [] h lm_0 (c_X10_here hG N  s3) ml_X10_164 (Nat.le_of_ble_eq_true rfl) (Nat.le_of_ble_eq_true rfl) dX10_readsCompared_24 (Nat.le_of_ble_eq_true rfl) rfl (fun r17 s16 => ?_)
        refine jx_bipush h dX10_readsCompared_27 kb_62 ?_
        refine jx_icmp_ne (tgt := 37) h dX10_readsCompared_29 rfl ?_ ?_
        · refine jx_aload_n h dX10_readsCompared_37 rfl 0 rfl ?_
          refine jx_callVi [] h lm_0 (c_X10_here hG N  s16) ml_X10_164 (Nat.le_of_ble_eq_true rfl) (Nat.le_of_ble_eq_true rfl) dX10_readsCompared_38 (Nat.le_of_ble_eq_true rfl) rfl (fun r19 s18 => ?_)
          refine jx_bipush h dX10_readsCompared_41 kb_61 ?_
          refine jx_icmp_ne (tgt := 51) h dX10_readsCompared_43 rfl ?_ ?_
          · refine jx_iconst h dX10_readsCompared_51 ki_m1 ?_
            exact hj52 (-1) s18
          · refine jx_bipush h dX10_readsCompared_46 kb_9 ?_
            refine jx_goto (tgt := 52) h dX10_readsCompared_48 rfl ?_
            exact hj52 9 s18
        · refine jx_bipush h dX10_readsCompared_32 kb_8 ?_
          refine jx_goto (tgt := 52) h dX10_readsCompared_34 rfl ?_
          exact hj52 8 s16
      · refine jx_bipush h dX10_readsCompared_18 kb_7 ?_
        refine jx_goto (tgt := 52) h dX10_readsCompared_20 rfl ?_
        exact hj52 7 s3
  · refine jx_iconst h dX10_readsCompared_7 ki_0 ?_
    exact jx_zret h rfl dX10_readsCompared_8
noncomputable def st_X10_readsCondition_92 (N : Nat) (k152 : Mem → Option (Int32 × Mem)) (rec : Mem → Option (Int32 × Mem))  (s0 : Mem) : Option (Int32 × Mem) :=
  bd (f_X10_here N s0) (fun r21 s20 => if r21 = 41 then (bd (f_X10_lands N 1 s20) (fun _ s22 => lt (si s22 0 12 ((gi s22 0 12) - 1)) (fun s24 => lt (si s24 0 10 ((gi s24 0 10) - 1)) (fun s25 => lt (si s25 0 6 ((gi s25 0 6) + 1)) (fun s26 => if (gi s26 0 12) = 0 then (some (1, s26)) else bd (f_X10_endsPiece N s26) (fun _ s27 => rec s27)))))) else k152 s20)
noncomputable def st_X10_readsCondition_40 (N : Nat)  (rec : Mem → Option (Int32 × Mem))  (s0 : Mem) : Option (Int32 × Mem) :=
  bd (f_X10_here N s0) (fun r8 s7 => lt (fun  (s9 : Mem) => bd (f_X10_here N s9) (fun r11 s10 => lt (fun (t13 : Int32) (s12 : Mem) => bd (f_X10_opens N t13 s12) (fun r15 s14 => if r15 = 0 then (some (0, s14)) else rec s14)) (fun j75 => if r11 = 33 then (j75 10 s10) else j75 13 s10))) (fun j58 => if r8 = 33 then (j58 s7) else bd (f_X10_here N s7) (fun r17 s16 => if r17 = 40 then (j58 s16) else bd (f_X10_readsCompared N s16) (fun r19 s18 => if r19 = 0 then (some (0, s18)) else itr (fun _ => none) (st_X10_readsCondition_92 N (fun  (s29 : Mem) => bd (f_X10_here N s29) (fun r31 s30 => lt (fun  (s32 : Mem) => bd (f_X10_here N s32) (fun r34 s33 => lt (fun (t36 : Int32) (s35 : Mem) => bd (f_X10_lands N t36 s35) (fun _ s37 => bd (f_X10_here N s37) (fun r40 s39 => if r40 = 38 then (bd (f_X10_jumps N 11 s39) (fun _ s43 => rec s43)) else bd (f_X10_jumps N 12 s39) (fun _ s41 => rec s41)))) (fun j195 => if r34 = 124 then (j195 1 s33) else j195 0 s33))) (fun j180 => if r31 = 38 then (j180 s30) else bd (f_X10_here N s30) (fun r46 s45 => if r46 = 124 then (j180 s45) else bd (f_X10_wrongAt N 1 (gi s45 0 6) s45) (fun r48 s47 => ckz r48 (some (r48, s47)))))))) N  s18))))
noncomputable def f_X10_readsCondition (N : Nat)  (s : Mem) : Option (Int32 × Mem) :=
  bd (f_X10_here N s) (fun r2 s1 => if r2 = 40 then (lt (si s1 0 10 0) (fun s3 => lt (si s3 0 12 0) (fun s4 => bd (f_X10_opens N 13 s4) (fun r6 s5 => if r6 = 0 then (some (0, s5)) else itr (fun _ => none) (st_X10_readsCondition_40 N) N  s5)))) else bd (f_X10_wrongAt N 1 (gi s1 0 6) s1) (fun r50 s49 => ckz r50 (some (r50, s49))))
set_option maxRecDepth 20000 in
theorem w_X10_readsCondition_92 {G : Gx} (hG : Gok G ∧ IsG G layM fsoM) {P : Option (Int32 × Mem) → Nat → List (Nat × Value) → List Value → Mem → Prop} (h : Jk G layM fsoM RX10 cX10_readsCondition 1 (some .boolean) 6 tvI P) (N : Nat) {k152 : Mem → Option (Int32 × Mem)} (hk152 : ∀  (s : Mem), P (k152 s) 152 [(0, .ref (Ga G 0))] [] s) {rec : Mem → Option (Int32 × Mem)} (ih : ∀  (s : Mem), P (rec  s) 92 [(0, .ref (Ga G 0))] [] s) : ∀  (s : Mem), P (st_X10_readsCondition_92 N k152 rec s) 92 [(0, .ref (Ga G 0))] [] s := by
  intro  s0
  unfold st_X10_readsCondition_92
  refine jx_aload_n h dX10_readsCondition_92 rfl 0 rfl ?_
  refine jx_callVi [] h lm_0 (c_X10_here hG N  s0) ml_X10_164 (Nat.le_of_ble_eq_true rfl) (Nat.le_of_ble_eq_true rfl) dX10_readsCondition_93 (Nat.le_of_ble_eq_true rfl) rfl (fun r21 s20 => ?_)
  refine jx_bipush h dX10_readsCondition_96 kb_41 ?_
  refine jx_icmp_ne (tgt := 152) h dX10_readsCondition_98 rfl ?_ ?_
  · exact hk152 s20
  · refine jx_aload_n h dX10_readsCondition_101 rfl 0 rfl ?_
    refine jx_iconst h dX10_readsCondition_102 ki_1 ?_
    refine jx_callVv [] h lm_0 (c_X10_lands hG N 1 s20) ml_X10_230 (Nat.le_of_ble_eq_true rfl) (Nat.le_of_ble_eq_true rfl) dX10_readsCondition_103 (Nat.le_of_ble_eq_true rfl) rfl (fun s22 => ?_)
    refine jx_aload_n h dX10_readsCondition_106 rfl 0 rfl ?_
    refine jx_aload_n h dX10_readsCondition_107 rfl 0 rfl ?_
    refine jx_get (v := .int (gi s22 0 12)) h fa_X10_188 lm_0 dX10_readsCondition_108 rfl ?_
    refine jx_iconst h dX10_readsCondition_111 ki_1 ?_
    refine jx_isub h dX10_readsCondition_112 ?_
    refine jx_put h fa_X10_188 fp_X10_12 lm_0 rfl rfl dX10_readsCondition_113 (fu_X10_12 _ _ _ _) (fun s24 => ?_)
    refine jx_aload_n h dX10_readsCondition_116 rfl 0 rfl ?_
    refine jx_aload_n h dX10_readsCondition_117 rfl 0 rfl ?_
    refine jx_get (v := .int (gi s24 0 10)) h fa_X10_185 lm_0 dX10_readsCondition_118 rfl ?_
    refine jx_iconst h dX10_readsCondition_121 ki_1 ?_
    refine jx_isub h dX10_readsCondition_122 ?_
    refine jx_put h fa_X10_185 fp_X10_10 lm_0 rfl rfl dX10_readsCondition_123 (fu_X10_10 _ _ _ _) (fun s25 => ?_)
    refine jx_aload_n h dX10_readsCondition_126 rfl 0 rfl ?_
    refine jx_aload_n h dX10_readsCondition_127 rfl 0 rfl ?_
    refine jx_get (v := .int (gi s25 0 6)) h fa_X10_158 lm_0 dX10_readsCondition_128 rfl ?_
    refine jx_iconst h dX10_readsCondition_131 ki_1 ?_
    refine jx_iadd h dX10_readsCondition_132 ?_
    refine jx_put h fa_X10_158 fp_X10_6 lm_0 rfl rfl dX10_readsCondition_133 (fu_X10_6 _ _ _ _) (fun s26 => ?_)
    refine jx_aload_n h dX10_readsCondition_136 rfl 0 rfl ?_
    refine jx_get (v := .int (gi s26 0 12)) h fa_X10_188 lm_0 dX10_readsCondition_137 rfl ?_
    refine jx_if_ne (tgt := 145) h dX10_readsCondition_140 rfl ?_ ?_
    · refine jx_aload_n h dX10_readsCondition_145 rfl 0 rfl ?_
      refine jx_callVv [] h lm_0 (c_X10_endsPiece hG N  s26) ml_X10_224 (Nat.le_of_ble_eq_true rfl) (Nat.le_of_ble_eq_true rfl) dX10_readsCondition_146 (Nat.le_of_ble_eq_true rfl) rfl (fun s27 => ?_)
      refine jx_goto (tgt := 92) h dX10_readsCondition_149 rfl ?_
      exact ih s27
    · refine jx_iconst h dX10_readsCondition_143 ki_1 ?_
      exact jx_zret h rfl dX10_readsCondition_144
set_option maxRecDepth 20000 in
theorem w_X10_readsCondition_40 {G : Gx} (hG : Gok G ∧ IsG G layM fsoM) {P : Option (Int32 × Mem) → Nat → List (Nat × Value) → List Value → Mem → Prop} (h : Jk G layM fsoM RX10 cX10_readsCondition 1 (some .boolean) 6 tvI P) (N : Nat) {rec : Mem → Option (Int32 × Mem)} (ih : ∀  (s : Mem), P (rec  s) 40 [(0, .ref (Ga G 0))] [] s) : ∀  (s : Mem), P (st_X10_readsCondition_40 N rec s) 40 [(0, .ref (Ga G 0))] [] s := by
  intro  s0
  unfold st_X10_readsCondition_40
  refine jx_aload_n h dX10_readsCondition_40 rfl 0 rfl ?_
  refine jx_callVi [] h lm_0 (c_X10_here hG N  s0) ml_X10_164 (Nat.le_of_ble_eq_true rfl) (Nat.le_of_ble_eq_true rfl) dX10_readsCondition_41 (Nat.le_of_ble_eq_true rfl) rfl (fun r8 s7 => ?_)
  refine jx_bipush h dX10_readsCondition_44 kb_33 ?_
  refine jx_join (fun (j : Mem → Option (Int32 × Mem)) => ∀  (s9 : Mem), P (j  s9) 58 [(0, .ref (Ga G 0))] [] s9) (fun  s9 => ?_) (fun j58 hj58 => ?_)
  · refine jx_aload_n h dX10_readsCondition_58 rfl 0 rfl ?_
    refine jx_aload_n h dX10_readsCondition_59 rfl 0 rfl ?_
    refine jx_callVi [.ref (Ga G 0)] h lm_0 (c_X10_here hG N  s9) ml_X10_164 (Nat.le_of_ble_eq_true rfl) (Nat.le_of_ble_eq_true rfl) dX10_readsCondition_60 (Nat.le_of_ble_eq_true rfl) rfl (fun r11 s10 => ?_)
    refine jx_bipush h dX10_readsCondition_63 kb_33 ?_
    refine jx_join (fun (j : Int32 → Mem → Option (Int32 × Mem)) => ∀ (t13 : Int32) (s12 : Mem), P (j t13 s12) 75 [(0, .ref (Ga G 0))] [.int t13, .ref (Ga G 0)] s12) (fun t13 s12 => ?_) (fun j75 hj75 => ?_)
    · refine jx_callVi [] h lm_0 (c_X10_opens hG N t13 s12) ml_X10_198 (Nat.le_of_ble_eq_true rfl) (Nat.le_of_ble_eq_true rfl) dX10_readsCondition_75 (Nat.le_of_ble_eq_true rfl) rfl (fun r15 s14 => ?_)
      refine jx_if_ne (tgt := 40) h dX10_readsCondition_78 rfl ?_ ?_
      · exact ih s14
      · refine jx_iconst h dX10_readsCondition_81 ki_0 ?_
        exact jx_zret h rfl dX10_readsCondition_82
    · refine jx_icmp_ne (tgt := 73) h dX10_readsCondition_65 rfl ?_ ?_
      · refine jx_bipush h dX10_readsCondition_73 kb_13 ?_
        exact hj75 13 s10
      · refine jx_bipush h dX10_readsCondition_68 kb_10 ?_
        refine jx_goto (tgt := 75) h dX10_readsCondition_70 rfl ?_
        exact hj75 10 s10
  · refine jx_icmp_eq (tgt := 58) h dX10_readsCondition_46 rfl ?_ ?_
    · exact hj58 s7
    · refine jx_aload_n h dX10_readsCondition_49 rfl 0 rfl ?_
      refine jx_callVi [] h lm_0 (c_X10_here hG N  s7) ml_X10_164 (Nat.le_of_ble_eq_true rfl) (Nat.le_of_ble_eq_true rfl) dX10_readsCondition_50 (Nat.le_of_ble_eq_true rfl) rfl (fun r17 s16 => ?_)
      refine jx_bipush h dX10_readsCondition_53 kb_40 ?_
      refine jx_icmp_ne (tgt := 83) h dX10_readsCondition_55 rfl ?_ ?_
      · refine jx_aload_n h dX10_readsCondition_83 rfl 0 rfl ?_
        refine jx_callVi [] h lm_0 (c_X10_readsCompared hG N  s16) ml_X10_227 (Nat.le_of_ble_eq_true rfl) (Nat.le_of_ble_eq_true rfl) dX10_readsCondition_84 (Nat.le_of_ble_eq_true rfl) rfl (fun r19 s18 => ?_)
        refine jx_if_ne (tgt := 92) h dX10_readsCondition_87 rfl ?_ ?_
        · refine itr_ind (Q := (fun (f : Mem → Option (Int32 × Mem)) => ∀  (s : Mem), P (f  s) 92 [(0, .ref (Ga G 0))] [] s)) (fun _ => jx_none h) (fun r92 ih92 => ?_) N  s18
          refine w_X10_readsCondition_92 hG h N  ?_ ih92
          intro s29
          refine jx_aload_n h dX10_readsCondition_152 rfl 0 rfl ?_
          refine jx_callVi [] h lm_0 (c_X10_here hG N  s29) ml_X10_164 (Nat.le_of_ble_eq_true rfl) (Nat.le_of_ble_eq_true rfl) dX10_readsCondition_153 (Nat.le_of_ble_eq_true rfl) rfl (fun r31 s30 => ?_)
          refine jx_bipush h dX10_readsCondition_156 kb_38 ?_
          refine jx_join (fun (j : Mem → Option (Int32 × Mem)) => ∀  (s32 : Mem), P (j  s32) 180 [(0, .ref (Ga G 0))] [] s32) (fun  s32 => ?_) (fun j180 hj180 => ?_)
          · refine jx_aload_n h dX10_readsCondition_180 rfl 0 rfl ?_
            refine jx_aload_n h dX10_readsCondition_181 rfl 0 rfl ?_
            refine jx_callVi [.ref (Ga G 0)] h lm_0 (c_X10_here hG N  s32) ml_X10_164 (Nat.le_of_ble_eq_true rfl) (Nat.le_of_ble_eq_true rfl) dX10_readsCondition_182 (Nat.le_of_ble_eq_true rfl) rfl (fun r34 s33 => ?_)
            refine jx_bipush h dX10_readsCondition_185 kb_124 ?_
            refine jx_join (fun (j : Int32 → Mem → Option (Int32 × Mem)) => ∀ (t36 : Int32) (s35 : Mem), P (j t36 s35) 195 [(0, .ref (Ga G 0))] [.int t36, .ref (Ga G 0)] s35) (fun t36 s35 => ?_) (fun j195 hj195 => ?_)
            · refine jx_callVv [] h lm_0 (c_X10_lands hG N t36 s35) ml_X10_230 (Nat.le_of_ble_eq_true rfl) (Nat.le_of_ble_eq_true rfl) dX10_readsCondition_195 (Nat.le_of_ble_eq_true rfl) rfl (fun s37 => ?_)
              refine jx_aload_n h dX10_readsCondition_198 rfl 0 rfl ?_
              refine jx_aload_n h dX10_readsCondition_199 rfl 0 rfl ?_
              refine jx_callVi [.ref (Ga G 0)] h lm_0 (c_X10_here hG N  s37) ml_X10_164 (Nat.le_of_ble_eq_true rfl) (Nat.le_of_ble_eq_true rfl) dX10_readsCondition_200 (Nat.le_of_ble_eq_true rfl) rfl (fun r40 s39 => ?_)
              refine jx_bipush h dX10_readsCondition_203 kb_38 ?_
              refine jx_icmp_ne (tgt := 213) h dX10_readsCondition_205 rfl ?_ ?_
              · refine jx_bipush h dX10_readsCondition_213 kb_12 ?_
                refine jx_callVv [] h lm_0 (c_X10_jumps hG N 12 s39) ml_X10_233 (Nat.le_of_ble_eq_true rfl) (Nat.le_of_ble_eq_true rfl) dX10_readsCondition_215 (Nat.le_of_ble_eq_true rfl) rfl (fun s41 => ?_)
                refine jx_goto (tgt := 40) h dX10_readsCondition_218 rfl ?_
                exact ih s41
              · refine jx_bipush h dX10_readsCondition_208 kb_11 ?_
                refine jx_goto (tgt := 215) h dX10_readsCondition_210 rfl ?_
                refine jx_callVv [] h lm_0 (c_X10_jumps hG N 11 s39) ml_X10_233 (Nat.le_of_ble_eq_true rfl) (Nat.le_of_ble_eq_true rfl) dX10_readsCondition_215 (Nat.le_of_ble_eq_true rfl) rfl (fun s43 => ?_)
                refine jx_goto (tgt := 40) h dX10_readsCondition_218 rfl ?_
                exact ih s43
            · refine jx_icmp_ne (tgt := 194) h dX10_readsCondition_187 rfl ?_ ?_
              · refine jx_iconst h dX10_readsCondition_194 ki_0 ?_
                exact hj195 0 s33
              · refine jx_iconst h dX10_readsCondition_190 ki_1 ?_
                refine jx_goto (tgt := 195) h dX10_readsCondition_191 rfl ?_
                exact hj195 1 s33
          · refine jx_icmp_eq (tgt := 180) h dX10_readsCondition_158 rfl ?_ ?_
            · exact hj180 s30
            · refine jx_aload_n h dX10_readsCondition_161 rfl 0 rfl ?_
              refine jx_callVi [] h lm_0 (c_X10_here hG N  s30) ml_X10_164 (Nat.le_of_ble_eq_true rfl) (Nat.le_of_ble_eq_true rfl) dX10_readsCondition_162 (Nat.le_of_ble_eq_true rfl) rfl (fun r46 s45 => ?_)
              refine jx_bipush h dX10_readsCondition_165 kb_124 ?_
              refine jx_icmp_eq (tgt := 180) h dX10_readsCondition_167 rfl ?_ ?_
              · exact hj180 s45
              · refine jx_aload_n h dX10_readsCondition_170 rfl 0 rfl ?_
                refine jx_iconst h dX10_readsCondition_171 ki_1 ?_
                refine jx_aload_n h dX10_readsCondition_172 rfl 0 rfl ?_
                refine jx_get (v := .int (gi s45 0 6)) h fa_X10_158 lm_0 dX10_readsCondition_173 rfl ?_
                refine jx_callVi [] h lm_0 (c_X10_wrongAt hG N 1 (gi s45 0 6) s45) ml_X10_171 (Nat.le_of_ble_eq_true rfl) (Nat.le_of_ble_eq_true rfl) dX10_readsCondition_176 (Nat.le_of_ble_eq_true rfl) rfl (fun r48 s47 => ?_)
                exact jx_zretc h dX10_readsCondition_179
        · refine jx_iconst h dX10_readsCondition_90 ki_0 ?_
          exact jx_zret h rfl dX10_readsCondition_91
      · exact hj58 s16
set_option maxRecDepth 20000 in
theorem c_X10_readsCondition {G : Gx} (hG : Gok G ∧ IsG G layM fsoM) (N : Nat)  (s : Mem) : Ct G yX10_readsCondition cX10_readsCondition 1 (some .boolean) 6 [.ref (Ga G 0)] tvI s (f_X10_readsCondition N s) := by
  refine Ct.of hG (by decide) (Nat.le_of_ble_eq_true rfl) (fun P h => ?_)
  show P _ 0 [(0, .ref (Ga G 0))] [] s
  unfold f_X10_readsCondition
  refine jx_aload_n h dX10_readsCondition_0 rfl 0 rfl ?_
  refine jx_callVi [] h lm_0 (c_X10_here hG N  s) ml_X10_164 (Nat.le_of_ble_eq_true rfl) (Nat.le_of_ble_eq_true rfl) dX10_readsCondition_1 (Nat.le_of_ble_eq_true rfl) rfl (fun r2 s1 => ?_)
  refine jx_bipush h dX10_readsCondition_4 kb_40 ?_
  refine jx_icmp_eq (tgt := 19) h dX10_readsCondition_6 rfl ?_ ?_
  · refine jx_aload_n h dX10_readsCondition_19 rfl 0 rfl ?_
    refine jx_iconst h dX10_readsCondition_20 ki_0 ?_
    refine jx_put h fa_X10_185 fp_X10_10 lm_0 rfl rfl dX10_readsCondition_21 (fu_X10_10 _ _ _ _) (fun s3 => ?_)
    refine jx_aload_n h dX10_readsCondition_24 rfl 0 rfl ?_
    refine jx_iconst h dX10_readsCondition_25 ki_0 ?_
    refine jx_put h fa_X10_188 fp_X10_12 lm_0 rfl rfl dX10_readsCondition_26 (fu_X10_12 _ _ _ _) (fun s4 => ?_)
    refine jx_aload_n h dX10_readsCondition_29 rfl 0 rfl ?_
    refine jx_bipush h dX10_readsCondition_30 kb_13 ?_
    refine jx_callVi [] h lm_0 (c_X10_opens hG N 13 s4) ml_X10_198 (Nat.le_of_ble_eq_true rfl) (Nat.le_of_ble_eq_true rfl) dX10_readsCondition_32 (Nat.le_of_ble_eq_true rfl) rfl (fun r6 s5 => ?_)
    refine jx_if_ne (tgt := 40) h dX10_readsCondition_35 rfl ?_ ?_
    · refine itr_ind (Q := (fun (f : Mem → Option (Int32 × Mem)) => ∀  (s : Mem), P (f  s) 40 [(0, .ref (Ga G 0))] [] s)) (fun _ => jx_none h) (fun r40 ih40 => ?_) N  s5
      refine w_X10_readsCondition_40 hG h N   ih40
    · refine jx_iconst h dX10_readsCondition_38 ki_0 ?_
      exact jx_zret h rfl dX10_readsCondition_39
  · refine jx_aload_n h dX10_readsCondition_9 rfl 0 rfl ?_
    refine jx_iconst h dX10_readsCondition_10 ki_1 ?_
    refine jx_aload_n h dX10_readsCondition_11 rfl 0 rfl ?_
    refine jx_get (v := .int (gi s1 0 6)) h fa_X10_158 lm_0 dX10_readsCondition_12 rfl ?_
    refine jx_callVi [] h lm_0 (c_X10_wrongAt hG N 1 (gi s1 0 6) s1) ml_X10_171 (Nat.le_of_ble_eq_true rfl) (Nat.le_of_ble_eq_true rfl) dX10_readsCondition_15 (Nat.le_of_ble_eq_true rfl) rfl (fun r50 s49 => ?_)
    exact jx_zretc h dX10_readsCondition_18
noncomputable def f_X10_readsRule (N : Nat)  (s : Mem) : Option (Int32 × Mem) :=
  bd (f_X10_here N s) (fun r2 s1 => lt (fun  (s3 : Mem) => if (gi s3 0 13) = 16 then (bd (f_X10_wrongAt N 4 (gi s3 0 6) s3) (fun r18 s17 => ckz r18 (some (r18, s17)))) else chk (gi s3 0 13) 16 (lt (si s3 8 (ix (gi s3 0 13)) r2) (fun s4 => lt (si s4 0 6 ((gi s4 0 6) + 1)) (fun s5 => chk (gi s5 0 13) 16 (lt (si s5 9 (ix (gi s5 0 13)) (gi s5 0 11)) (fun s6 => lt (si s6 0 10 0) (fun s7 => lt (si s7 0 12 0) (fun s8 => lt (fun  (s9 : Mem) => chk (gi s9 0 13) 16 (lt (si s9 10 (ix (gi s9 0 13)) (gi s9 0 11)) (fun s10 => bd (f_X10_readsCondition N s10) (fun r12 s11 => if r12 = 0 then (some (0, s11)) else chk (gi s11 0 13) 16 (lt (si s11 11 (ix (gi s11 0 13)) (gi s11 0 11)) (fun s13 => lt (si s13 0 13 ((gi s13 0 13) + 1)) (fun s14 => some (1, s14)))))))) (fun j116 => if r2 = 120 then (j116 s8) else bd (f_X10_readsSum N s8) (fun r16 s15 => if r16 = 0 then (some (0, s15)) else j116 s15)))))))))) (fun j39 => if r2 = 103 then (j39 s1) else if r2 = 116 then (j39 s1) else if r2 = 104 then (j39 s1) else if r2 = 120 then (j39 s1) else bd (f_X10_wrongAt N 1 (gi s1 0 6) s1) (fun r20 s19 => ckz r20 (some (r20, s19)))))
set_option maxRecDepth 20000 in
theorem c_X10_readsRule {G : Gx} (hG : Gok G ∧ IsG G layM fsoM) (N : Nat)  (s : Mem) : Ct G yX10_readsRule cX10_readsRule 2 (some .boolean) 7 [.ref (Ga G 0)] tvI s (f_X10_readsRule N s) := by
  refine Ct.of hG (by decide) (Nat.le_of_ble_eq_true rfl) (fun P h => ?_)
  show P _ 0 [(0, .ref (Ga G 0))] [] s
  unfold f_X10_readsRule
  refine jx_aload_n h dX10_readsRule_0 rfl 0 rfl ?_
  refine jx_callVi [] h lm_0 (c_X10_here hG N  s) ml_X10_164 (Nat.le_of_ble_eq_true rfl) (Nat.le_of_ble_eq_true rfl) dX10_readsRule_1 (Nat.le_of_ble_eq_true rfl) rfl (fun r2 s1 => ?_)
  refine jx_istore_n (lv' := [(1, .int r2), (0, .ref (Ga G 0))]) h dX10_readsRule_4 rfl (Nat.le_of_ble_eq_true rfl) rfl ?_
  refine jx_iload_n h dX10_readsRule_5 rfl 0 rfl ?_
  refine jx_bipush h dX10_readsRule_6 kb_103 ?_
  refine jx_join (fun (j : Mem → Option (Int32 × Mem)) => ∀  (s3 : Mem), P (j  s3) 39 [(0, .ref (Ga G 0)), (1, .int r2)] [] s3) (fun  s3 => ?_) (fun j39 hj39 => ?_)
  · refine jx_aload_n h dX10_readsRule_39 rfl 0 rfl ?_
    refine jx_get (v := .int (gi s3 0 13)) h fa_X10_236 lm_0 dX10_readsRule_40 rfl ?_
    refine jx_bipush h dX10_readsRule_43 kb_16 ?_
    refine jx_icmp_ne (tgt := 58) h dX10_readsRule_45 rfl ?_ ?_
    · refine jx_aload_n h dX10_readsRule_58 rfl 0 rfl ?_
      refine jx_get (v := .ref (Ga G 8)) h fa_X10_32 lm_0 dX10_readsRule_59 rfl ?_
      refine jx_aload_n h dX10_readsRule_62 rfl 0 rfl ?_
      refine jx_get (v := .int (gi s3 0 13)) h fa_X10_236 lm_0 dX10_readsRule_63 rfl ?_
      refine jx_iload_n h dX10_readsRule_66 rfl 1 rfl ?_
      refine jx_iastore h lm_8 dX10_readsRule_67 (fun s4 => ?_)
      refine jx_aload_n h dX10_readsRule_68 rfl 0 rfl ?_
      refine jx_aload_n h dX10_readsRule_69 rfl 0 rfl ?_
      refine jx_get (v := .int (gi s4 0 6)) h fa_X10_158 lm_0 dX10_readsRule_70 rfl ?_
      refine jx_iconst h dX10_readsRule_73 ki_1 ?_
      refine jx_iadd h dX10_readsRule_74 ?_
      refine jx_put h fa_X10_158 fp_X10_6 lm_0 rfl rfl dX10_readsRule_75 (fu_X10_6 _ _ _ _) (fun s5 => ?_)
      refine jx_aload_n h dX10_readsRule_78 rfl 0 rfl ?_
      refine jx_get (v := .ref (Ga G 9)) h fa_X10_35 lm_0 dX10_readsRule_79 rfl ?_
      refine jx_aload_n h dX10_readsRule_82 rfl 0 rfl ?_
      refine jx_get (v := .int (gi s5 0 13)) h fa_X10_236 lm_0 dX10_readsRule_83 rfl ?_
      refine jx_aload_n h dX10_readsRule_86 rfl 0 rfl ?_
      refine jx_get (v := .int (gi s5 0 11)) h fa_X10_181 lm_0 dX10_readsRule_87 rfl ?_
      refine jx_iastore h lm_9 dX10_readsRule_90 (fun s6 => ?_)
      refine jx_aload_n h dX10_readsRule_91 rfl 0 rfl ?_
      refine jx_iconst h dX10_readsRule_92 ki_0 ?_
      refine jx_put h fa_X10_185 fp_X10_10 lm_0 rfl rfl dX10_readsRule_93 (fu_X10_10 _ _ _ _) (fun s7 => ?_)
      refine jx_aload_n h dX10_readsRule_96 rfl 0 rfl ?_
      refine jx_iconst h dX10_readsRule_97 ki_0 ?_
      refine jx_put h fa_X10_188 fp_X10_12 lm_0 rfl rfl dX10_readsRule_98 (fu_X10_12 _ _ _ _) (fun s8 => ?_)
      refine jx_iload_n h dX10_readsRule_101 rfl 1 rfl ?_
      refine jx_bipush h dX10_readsRule_102 kb_120 ?_
      refine jx_join (fun (j : Mem → Option (Int32 × Mem)) => ∀  (s9 : Mem), P (j  s9) 116 [(0, .ref (Ga G 0))] [] s9) (fun  s9 => ?_) (fun j116 hj116 => ?_)
      · refine jx_aload_n h dX10_readsRule_116 rfl 0 rfl ?_
        refine jx_get (v := .ref (Ga G 10)) h fa_X10_38 lm_0 dX10_readsRule_117 rfl ?_
        refine jx_aload_n h dX10_readsRule_120 rfl 0 rfl ?_
        refine jx_get (v := .int (gi s9 0 13)) h fa_X10_236 lm_0 dX10_readsRule_121 rfl ?_
        refine jx_aload_n h dX10_readsRule_124 rfl 0 rfl ?_
        refine jx_get (v := .int (gi s9 0 11)) h fa_X10_181 lm_0 dX10_readsRule_125 rfl ?_
        refine jx_iastore h lm_10 dX10_readsRule_128 (fun s10 => ?_)
        refine jx_aload_n h dX10_readsRule_129 rfl 0 rfl ?_
        refine jx_callVi [] h lm_0 (c_X10_readsCondition hG N  s10) ml_X10_239 (Nat.le_of_ble_eq_true rfl) (Nat.le_of_ble_eq_true rfl) dX10_readsRule_130 (Nat.le_of_ble_eq_true rfl) rfl (fun r12 s11 => ?_)
        refine jx_if_ne (tgt := 138) h dX10_readsRule_133 rfl ?_ ?_
        · refine jx_aload_n h dX10_readsRule_138 rfl 0 rfl ?_
          refine jx_get (v := .ref (Ga G 11)) h fa_X10_41 lm_0 dX10_readsRule_139 rfl ?_
          refine jx_aload_n h dX10_readsRule_142 rfl 0 rfl ?_
          refine jx_get (v := .int (gi s11 0 13)) h fa_X10_236 lm_0 dX10_readsRule_143 rfl ?_
          refine jx_aload_n h dX10_readsRule_146 rfl 0 rfl ?_
          refine jx_get (v := .int (gi s11 0 11)) h fa_X10_181 lm_0 dX10_readsRule_147 rfl ?_
          refine jx_iastore h lm_11 dX10_readsRule_150 (fun s13 => ?_)
          refine jx_aload_n h dX10_readsRule_151 rfl 0 rfl ?_
          refine jx_aload_n h dX10_readsRule_152 rfl 0 rfl ?_
          refine jx_get (v := .int (gi s13 0 13)) h fa_X10_236 lm_0 dX10_readsRule_153 rfl ?_
          refine jx_iconst h dX10_readsRule_156 ki_1 ?_
          refine jx_iadd h dX10_readsRule_157 ?_
          refine jx_put h fa_X10_236 fp_X10_13 lm_0 rfl rfl dX10_readsRule_158 (fu_X10_13 _ _ _ _) (fun s14 => ?_)
          refine jx_iconst h dX10_readsRule_161 ki_1 ?_
          exact jx_zret h rfl dX10_readsRule_162
        · refine jx_iconst h dX10_readsRule_136 ki_0 ?_
          exact jx_zret h rfl dX10_readsRule_137
      · refine jx_icmp_eq (tgt := 116) h dX10_readsRule_104 rfl ?_ ?_
        · exact jx_subk [0] h (hj116 s8) rfl
        · refine jx_aload_n h dX10_readsRule_107 rfl 0 rfl ?_
          refine jx_callVi [] h lm_0 (c_X10_readsSum hG N  s8) ml_X10_221 (Nat.le_of_ble_eq_true rfl) (Nat.le_of_ble_eq_true rfl) dX10_readsRule_108 (Nat.le_of_ble_eq_true rfl) rfl (fun r16 s15 => ?_)
          refine jx_if_ne (tgt := 116) h dX10_readsRule_111 rfl ?_ ?_
          · exact jx_subk [0] h (hj116 s15) rfl
          · refine jx_iconst h dX10_readsRule_114 ki_0 ?_
            exact jx_zret h rfl dX10_readsRule_115
    · refine jx_aload_n h dX10_readsRule_48 rfl 0 rfl ?_
      refine jx_iconst h dX10_readsRule_49 ki_4 ?_
      refine jx_aload_n h dX10_readsRule_50 rfl 0 rfl ?_
      refine jx_get (v := .int (gi s3 0 6)) h fa_X10_158 lm_0 dX10_readsRule_51 rfl ?_
      refine jx_callVi [] h lm_0 (c_X10_wrongAt hG N 4 (gi s3 0 6) s3) ml_X10_171 (Nat.le_of_ble_eq_true rfl) (Nat.le_of_ble_eq_true rfl) dX10_readsRule_54 (Nat.le_of_ble_eq_true rfl) rfl (fun r18 s17 => ?_)
      exact jx_zretc h dX10_readsRule_57
  · refine jx_icmp_eq (tgt := 39) h dX10_readsRule_8 rfl ?_ ?_
    · exact jx_subk [1, 0] h (hj39 s1) rfl
    · refine jx_iload_n h dX10_readsRule_11 rfl 0 rfl ?_
      refine jx_bipush h dX10_readsRule_12 kb_116 ?_
      refine jx_icmp_eq (tgt := 39) h dX10_readsRule_14 rfl ?_ ?_
      · exact jx_subk [1, 0] h (hj39 s1) rfl
      · refine jx_iload_n h dX10_readsRule_17 rfl 0 rfl ?_
        refine jx_bipush h dX10_readsRule_18 kb_104 ?_
        refine jx_icmp_eq (tgt := 39) h dX10_readsRule_20 rfl ?_ ?_
        · exact jx_subk [1, 0] h (hj39 s1) rfl
        · refine jx_iload_n h dX10_readsRule_23 rfl 0 rfl ?_
          refine jx_bipush h dX10_readsRule_24 kb_120 ?_
          refine jx_icmp_eq (tgt := 39) h dX10_readsRule_26 rfl ?_ ?_
          · exact jx_subk [1, 0] h (hj39 s1) rfl
          · refine jx_aload_n h dX10_readsRule_29 rfl 1 rfl ?_
            refine jx_iconst h dX10_readsRule_30 ki_1 ?_
            refine jx_aload_n h dX10_readsRule_31 rfl 1 rfl ?_
            refine jx_get (v := .int (gi s1 0 6)) h fa_X10_158 lm_0 dX10_readsRule_32 rfl ?_
            refine jx_callVi [] h lm_0 (c_X10_wrongAt hG N 1 (gi s1 0 6) s1) ml_X10_171 (Nat.le_of_ble_eq_true rfl) (Nat.le_of_ble_eq_true rfl) dX10_readsRule_35 (Nat.le_of_ble_eq_true rfl) rfl (fun r20 s19 => ?_)
            exact jx_zretc h dX10_readsRule_38
noncomputable def f_X10_beginsText (N : Nat) (x1 : Int32) (s : Mem) : Option (Unit × Mem) :=
  lt (si s 0 6 0) (fun s1 => lt (si s1 0 7 x1) (fun s2 => lt (si s2 0 11 0) (fun s3 => lt (si s3 0 13 0) (fun s4 => some ((), s4)))))
set_option maxRecDepth 20000 in
theorem c_X10_beginsText {G : Gx} (hG : Gok G ∧ IsG G layM fsoM) (N : Nat) (x1 : Int32) (s : Mem) : Ct G yX10_beginsText cX10_beginsText 2 none 0 [.ref (Ga G 0), .int x1] tvV s (f_X10_beginsText N x1 s) := by
  refine Ct.of hG (by decide) (Nat.le_of_ble_eq_true rfl) (fun P h => ?_)
  show P _ 0 [(0, .ref (Ga G 0)), (1, .int x1)] [] s
  unfold f_X10_beginsText
  refine jx_aload_n h dX10_beginsText_0 rfl 0 rfl ?_
  refine jx_iconst h dX10_beginsText_1 ki_0 ?_
  refine jx_put h fa_X10_158 fp_X10_6 lm_0 rfl rfl dX10_beginsText_2 (fu_X10_6 _ _ _ _) (fun s1 => ?_)
  refine jx_aload_n h dX10_beginsText_5 rfl 0 rfl ?_
  refine jx_iload_n h dX10_beginsText_6 rfl 1 rfl ?_
  refine jx_put h fa_X10_161 fp_X10_7 lm_0 rfl rfl dX10_beginsText_7 (fu_X10_7 _ _ _ _) (fun s2 => ?_)
  refine jx_aload_n h dX10_beginsText_10 rfl 0 rfl ?_
  refine jx_iconst h dX10_beginsText_11 ki_0 ?_
  refine jx_put h fa_X10_181 fp_X10_11 lm_0 rfl rfl dX10_beginsText_12 (fu_X10_11 _ _ _ _) (fun s3 => ?_)
  refine jx_aload_n h dX10_beginsText_15 rfl 0 rfl ?_
  refine jx_iconst h dX10_beginsText_16 ki_0 ?_
  refine jx_put h fa_X10_236 fp_X10_13 lm_0 rfl rfl dX10_beginsText_17 (fu_X10_13 _ _ _ _) (fun s4 => ?_)
  exact jx_vret h dX10_beginsText_20
noncomputable def st_X10_law_31 (N : Nat) (k71 : Int32 → Mem → Option (Int32 × Mem)) (rec : Int32 → Mem → Option (Int32 × Mem)) (x2 : Int32) (s0 : Mem) : Option (Int32 × Mem) :=
  if x2 = 0 then (k71 x2 s0) else if (gi s0 0 7) ≤ (gi s0 0 6) then (k71 x2 s0) else bd (f_X10_takes N 59 s0) (fun r8 s7 => if r8 = 0 then (rec 0 s7) else bd (f_X10_readsRule N s7) (fun r10 s9 => if r10 = 0 then (rec 0 s9) else rec 1 s9))
noncomputable def st_X10_law_95 (N : Nat) (k121 : Mem → Option (Int32 × Mem)) (rec : Int32 → Mem → Option (Int32 × Mem)) (x3 : Int32) (s0 : Mem) : Option (Int32 × Mem) :=
  if (gi s0 0 11) ≤ x3 then (k121 s0) else chk x3 260 (chk x3 260 (lt (si s0 12 (ix x3) (gi s0 6 (ix x3))) (fun s15 => lt (x3 + 1) (fun x3_16 => rec x3_16 s15))))
noncomputable def st_X10_law_123 (N : Nat)  (rec : Int32 → Mem → Option (Int32 × Mem)) (x3 : Int32) (s0 : Mem) : Option (Int32 × Mem) :=
  if (gi s0 0 13) ≤ x3 then (some (gi s0 0 13, s0)) else chk x3 16 (chk x3 16 (lt (si s0 13 (ix x3) (gi s0 8 (ix x3))) (fun s18 => chk x3 16 (chk x3 16 (lt (si s18 14 (ix x3) (gi s18 9 (ix x3))) (fun s19 => chk x3 16 (chk x3 16 (lt (si s19 15 (ix x3) (gi s19 10 (ix x3))) (fun s20 => chk x3 16 (chk x3 16 (lt (si s20 16 (ix x3) (gi s20 11 (ix x3))) (fun s21 => lt (x3 + 1) (fun x3_22 => rec x3_22 s21)))))))))))))
noncomputable def f_X10_law (N : Nat) (x1 : Int32) (s : Mem) : Option (Int32 × Mem) :=
  bd (f_X10_in N x1 1 240 s) (fun r2 s1 => if r2 = 0 then (some ((-1), s1)) else if x1 ≤ (gi s1 0 5) then (bd (f_X10_beginsText N x1 s1) (fun _ s3 => bd (f_X10_readsRule N s3) (fun r6 s5 => itr (fun _ _ => none) (st_X10_law_31 N (fun (x2_12 : Int32) (s11 : Mem) => lt (si s11 0 5 0) (fun s13 => if x2_12 = 0 then (some (gi s13 0 8, s13)) else lt (si s13 0 14 (gi s13 0 13)) (fun s14 => itr (fun _ _ => none) (st_X10_law_95 N (fun  (s17 : Mem) => itr (fun _ _ => none) (st_X10_law_123 N) N 0 s17)) N 0 s14)))) N r6 s5))) else some ((-1), s1))
set_option maxRecDepth 20000 in
theorem w_X10_law_31 {G : Gx} (hG : Gok G ∧ IsG G layM fsoM) {P : Option (Int32 × Mem) → Nat → List (Nat × Value) → List Value → Mem → Prop} (h : Jk G layM fsoM RX10 cX10_law 4 (some .int) 8 tvI P) (N : Nat) {k71 : Int32 → Mem → Option (Int32 × Mem)} (hk71 : ∀ (x2 : Int32) (s : Mem), P (k71 x2 s) 71 [(0, .ref (Ga G 0)), (2, .int x2)] [] s) {rec : Int32 → Mem → Option (Int32 × Mem)} (ih : ∀ (x2 : Int32) (s : Mem), P (rec x2 s) 31 [(0, .ref (Ga G 0)), (2, .int x2)] [] s) : ∀ (x2 : Int32) (s : Mem), P (st_X10_law_31 N k71 rec x2 s) 31 [(0, .ref (Ga G 0)), (2, .int x2)] [] s := by
  intro x2 s0
  unfold st_X10_law_31
  refine jx_iload_n h dX10_law_31 rfl 1 rfl ?_
  refine jx_if_eq (tgt := 71) h dX10_law_32 rfl ?_ ?_
  · exact hk71 x2 s0
  · refine jx_aload_n h dX10_law_35 rfl 0 rfl ?_
    refine jx_get (v := .int (gi s0 0 6)) h fa_X10_158 lm_0 dX10_law_36 rfl ?_
    refine jx_aload_n h dX10_law_39 rfl 0 rfl ?_
    refine jx_get (v := .int (gi s0 0 7)) h fa_X10_161 lm_0 dX10_law_40 rfl ?_
    refine jx_icmp_ge (tgt := 71) h dX10_law_43 rfl ?_ ?_
    · exact hk71 x2 s0
    · refine jx_aload_n h dX10_law_46 rfl 0 rfl ?_
      refine jx_bipush h dX10_law_47 kb_59 ?_
      refine jx_callVi [] h lm_0 (c_X10_takes hG N 59 s0) ml_X10_248 (Nat.le_of_ble_eq_true rfl) (Nat.le_of_ble_eq_true rfl) dX10_law_49 (Nat.le_of_ble_eq_true rfl) rfl (fun r8 s7 => ?_)
      refine jx_if_eq (tgt := 66) h dX10_law_52 rfl ?_ ?_
      · refine jx_iconst h dX10_law_66 ki_0 ?_
        refine jx_istore_n (lv' := [(2, .int 0), (0, .ref (Ga G 0))]) h dX10_law_67 rfl (Nat.le_of_ble_eq_true rfl) rfl ?_
        refine jx_goto (tgt := 31) h dX10_law_68 rfl ?_
        exact jx_subk [1, 0] h (ih 0 s7) rfl
      · refine jx_aload_n h dX10_law_55 rfl 0 rfl ?_
        refine jx_callVi [] h lm_0 (c_X10_readsRule hG N  s7) ml_X10_245 (Nat.le_of_ble_eq_true rfl) (Nat.le_of_ble_eq_true rfl) dX10_law_56 (Nat.le_of_ble_eq_true rfl) rfl (fun r10 s9 => ?_)
        refine jx_if_eq (tgt := 66) h dX10_law_59 rfl ?_ ?_
        · refine jx_iconst h dX10_law_66 ki_0 ?_
          refine jx_istore_n (lv' := [(2, .int 0), (0, .ref (Ga G 0))]) h dX10_law_67 rfl (Nat.le_of_ble_eq_true rfl) rfl ?_
          refine jx_goto (tgt := 31) h dX10_law_68 rfl ?_
          exact jx_subk [1, 0] h (ih 0 s9) rfl
        · refine jx_iconst h dX10_law_62 ki_1 ?_
          refine jx_goto (tgt := 67) h dX10_law_63 rfl ?_
          refine jx_istore_n (lv' := [(2, .int 1), (0, .ref (Ga G 0))]) h dX10_law_67 rfl (Nat.le_of_ble_eq_true rfl) rfl ?_
          refine jx_goto (tgt := 31) h dX10_law_68 rfl ?_
          exact jx_subk [1, 0] h (ih 1 s9) rfl
set_option maxRecDepth 20000 in
theorem w_X10_law_95 {G : Gx} (hG : Gok G ∧ IsG G layM fsoM) {P : Option (Int32 × Mem) → Nat → List (Nat × Value) → List Value → Mem → Prop} (h : Jk G layM fsoM RX10 cX10_law 4 (some .int) 8 tvI P) (N : Nat) {k121 : Mem → Option (Int32 × Mem)} (hk121 : ∀  (s : Mem), P (k121 s) 121 [(0, .ref (Ga G 0))] [] s) {rec : Int32 → Mem → Option (Int32 × Mem)} (ih : ∀ (x3 : Int32) (s : Mem), P (rec x3 s) 95 [(0, .ref (Ga G 0)), (3, .int x3)] [] s) : ∀ (x3 : Int32) (s : Mem), P (st_X10_law_95 N k121 rec x3 s) 95 [(0, .ref (Ga G 0)), (3, .int x3)] [] s := by
  intro x3 s0
  unfold st_X10_law_95
  refine jx_iload_n h dX10_law_95 rfl 1 rfl ?_
  refine jx_aload_n h dX10_law_96 rfl 0 rfl ?_
  refine jx_get (v := .int (gi s0 0 11)) h fa_X10_181 lm_0 dX10_law_97 rfl ?_
  refine jx_icmp_ge (tgt := 121) h dX10_law_100 rfl ?_ ?_
  · exact jx_subk [0] h (hk121 s0) rfl
  · refine jx_aload_n h dX10_law_103 rfl 0 rfl ?_
    refine jx_get (v := .ref (Ga G 12)) h fa_X10_44 lm_0 dX10_law_104 rfl ?_
    refine jx_iload_n h dX10_law_107 rfl 1 rfl ?_
    refine jx_aload_n h dX10_law_108 rfl 0 rfl ?_
    refine jx_get (v := .ref (Ga G 6)) h fa_X10_26 lm_0 dX10_law_109 rfl ?_
    refine jx_iload_n h dX10_law_112 rfl 1 rfl ?_
    refine jx_iaload h lm_6 dX10_law_113 ?_
    refine jx_iastore h lm_12 dX10_law_114 (fun s15 => ?_)
    refine jx_iincl (L := fun w => [(3, .int w), (0, .ref (Ga G 0))]) h dX10_law_115 1 rfl (kn_1 _) (Nat.le_of_ble_eq_true rfl) (fun _ => rfl) (fun x3_16 => ?_)
    refine jx_goto (tgt := 95) h dX10_law_118 rfl ?_
    exact jx_subk [1, 0] h (ih x3_16 s15) rfl
set_option maxRecDepth 20000 in
theorem w_X10_law_123 {G : Gx} (hG : Gok G ∧ IsG G layM fsoM) {P : Option (Int32 × Mem) → Nat → List (Nat × Value) → List Value → Mem → Prop} (h : Jk G layM fsoM RX10 cX10_law 4 (some .int) 8 tvI P) (N : Nat) {rec : Int32 → Mem → Option (Int32 × Mem)} (ih : ∀ (x3 : Int32) (s : Mem), P (rec x3 s) 123 [(0, .ref (Ga G 0)), (3, .int x3)] [] s) : ∀ (x3 : Int32) (s : Mem), P (st_X10_law_123 N rec x3 s) 123 [(0, .ref (Ga G 0)), (3, .int x3)] [] s := by
  intro x3 s0
  unfold st_X10_law_123
  refine jx_iload_n h dX10_law_123 rfl 1 rfl ?_
  refine jx_aload_n h dX10_law_124 rfl 0 rfl ?_
  refine jx_get (v := .int (gi s0 0 13)) h fa_X10_236 lm_0 dX10_law_125 rfl ?_
  refine jx_icmp_ge (tgt := 185) h dX10_law_128 rfl ?_ ?_
  · refine jx_aload_n h dX10_law_185 rfl 0 rfl ?_
    refine jx_get (v := .int (gi s0 0 13)) h fa_X10_236 lm_0 dX10_law_186 rfl ?_
    exact jx_iret h dX10_law_189
  · refine jx_aload_n h dX10_law_131 rfl 0 rfl ?_
    refine jx_get (v := .ref (Ga G 13)) h fa_X10_47 lm_0 dX10_law_132 rfl ?_
    refine jx_iload_n h dX10_law_135 rfl 1 rfl ?_
    refine jx_aload_n h dX10_law_136 rfl 0 rfl ?_
    refine jx_get (v := .ref (Ga G 8)) h fa_X10_32 lm_0 dX10_law_137 rfl ?_
    refine jx_iload_n h dX10_law_140 rfl 1 rfl ?_
    refine jx_iaload h lm_8 dX10_law_141 ?_
    refine jx_iastore h lm_13 dX10_law_142 (fun s18 => ?_)
    refine jx_aload_n h dX10_law_143 rfl 0 rfl ?_
    refine jx_get (v := .ref (Ga G 14)) h fa_X10_50 lm_0 dX10_law_144 rfl ?_
    refine jx_iload_n h dX10_law_147 rfl 1 rfl ?_
    refine jx_aload_n h dX10_law_148 rfl 0 rfl ?_
    refine jx_get (v := .ref (Ga G 9)) h fa_X10_35 lm_0 dX10_law_149 rfl ?_
    refine jx_iload_n h dX10_law_152 rfl 1 rfl ?_
    refine jx_iaload h lm_9 dX10_law_153 ?_
    refine jx_iastore h lm_14 dX10_law_154 (fun s19 => ?_)
    refine jx_aload_n h dX10_law_155 rfl 0 rfl ?_
    refine jx_get (v := .ref (Ga G 15)) h fa_X10_53 lm_0 dX10_law_156 rfl ?_
    refine jx_iload_n h dX10_law_159 rfl 1 rfl ?_
    refine jx_aload_n h dX10_law_160 rfl 0 rfl ?_
    refine jx_get (v := .ref (Ga G 10)) h fa_X10_38 lm_0 dX10_law_161 rfl ?_
    refine jx_iload_n h dX10_law_164 rfl 1 rfl ?_
    refine jx_iaload h lm_10 dX10_law_165 ?_
    refine jx_iastore h lm_15 dX10_law_166 (fun s20 => ?_)
    refine jx_aload_n h dX10_law_167 rfl 0 rfl ?_
    refine jx_get (v := .ref (Ga G 16)) h fa_X10_56 lm_0 dX10_law_168 rfl ?_
    refine jx_iload_n h dX10_law_171 rfl 1 rfl ?_
    refine jx_aload_n h dX10_law_172 rfl 0 rfl ?_
    refine jx_get (v := .ref (Ga G 11)) h fa_X10_41 lm_0 dX10_law_173 rfl ?_
    refine jx_iload_n h dX10_law_176 rfl 1 rfl ?_
    refine jx_iaload h lm_11 dX10_law_177 ?_
    refine jx_iastore h lm_16 dX10_law_178 (fun s21 => ?_)
    refine jx_iincl (L := fun w => [(3, .int w), (0, .ref (Ga G 0))]) h dX10_law_179 1 rfl (kn_1 _) (Nat.le_of_ble_eq_true rfl) (fun _ => rfl) (fun x3_22 => ?_)
    refine jx_goto (tgt := 123) h dX10_law_182 rfl ?_
    exact jx_subk [1, 0] h (ih x3_22 s21) rfl
set_option maxRecDepth 20000 in
theorem c_X10_law {G : Gx} (hG : Gok G ∧ IsG G layM fsoM) (N : Nat) (x1 : Int32) (s : Mem) : Ct G yX10_law cX10_law 4 (some .int) 8 [.ref (Ga G 0), .int x1] tvI s (f_X10_law N x1 s) := by
  refine Ct.of hG (by decide) (Nat.le_of_ble_eq_true rfl) (fun P h => ?_)
  show P _ 0 [(0, .ref (Ga G 0)), (1, .int x1)] [] s
  unfold f_X10_law
  refine jx_iload_n h dX10_law_0 rfl 1 rfl ?_
  refine jx_iconst h dX10_law_1 ki_1 ?_
  refine jx_sipush h dX10_law_2 ks_240 ?_
  refine jx_callSi [] h (c_X10_in hG N x1 1 240 s) ml_X10_134 (Nat.le_of_ble_eq_true rfl) (Nat.le_of_ble_eq_true rfl) dX10_law_5 (Nat.le_of_ble_eq_true rfl) rfl (fun r2 s1 => ?_)
  refine jx_if_eq (tgt := 19) h dX10_law_8 rfl ?_ ?_
  · refine jx_iconst h dX10_law_19 ki_m1 ?_
    exact jx_iret h dX10_law_20
  · refine jx_iload_n h dX10_law_11 rfl 1 rfl ?_
    refine jx_aload_n h dX10_law_12 rfl 0 rfl ?_
    refine jx_get (v := .int (gi s1 0 5)) h fa_X10_150 lm_0 dX10_law_13 rfl ?_
    refine jx_icmp_le (tgt := 21) h dX10_law_16 rfl ?_ ?_
    · refine jx_aload_n h dX10_law_21 rfl 0 rfl ?_
      refine jx_iload_n h dX10_law_22 rfl 1 rfl ?_
      refine jx_callVv [] h lm_0 (c_X10_beginsText hG N x1 s1) ml_X10_242 (Nat.le_of_ble_eq_true rfl) (Nat.le_of_ble_eq_true rfl) dX10_law_23 (Nat.le_of_ble_eq_true rfl) rfl (fun s3 => ?_)
      refine jx_aload_n h dX10_law_26 rfl 0 rfl ?_
      refine jx_callVi [] h lm_0 (c_X10_readsRule hG N  s3) ml_X10_245 (Nat.le_of_ble_eq_true rfl) (Nat.le_of_ble_eq_true rfl) dX10_law_27 (Nat.le_of_ble_eq_true rfl) rfl (fun r6 s5 => ?_)
      refine jx_istore_n (lv' := [(2, .int r6), (0, .ref (Ga G 0)), (1, .int x1)]) h dX10_law_30 rfl (Nat.le_of_ble_eq_true rfl) rfl ?_
      refine jx_subk [1, 0] h (itr_ind (Q := (fun (f : Int32 → Mem → Option (Int32 × Mem)) => ∀ (x2 : Int32) (s : Mem), P (f x2 s) 31 [(0, .ref (Ga G 0)), (2, .int x2)] [] s)) (fun _ _ => jx_none h) (fun r31 ih31 => ?_) N r6 s5) rfl
      refine w_X10_law_31 hG h N  ?_ ih31
      intro x2_12 s11
      refine jx_aload_n h dX10_law_71 rfl 0 rfl ?_
      refine jx_iconst h dX10_law_72 ki_0 ?_
      refine jx_put h fa_X10_150 fp_X10_5 lm_0 rfl rfl dX10_law_73 (fu_X10_5 _ _ _ _) (fun s13 => ?_)
      refine jx_iload_n h dX10_law_76 rfl 1 rfl ?_
      refine jx_if_ne (tgt := 85) h dX10_law_77 rfl ?_ ?_
      · refine jx_aload_n h dX10_law_85 rfl 0 rfl ?_
        refine jx_aload_n h dX10_law_86 rfl 0 rfl ?_
        refine jx_get (v := .int (gi s13 0 13)) h fa_X10_236 lm_0 dX10_law_87 rfl ?_
        refine jx_put h fa_X10_251 fp_X10_14 lm_0 rfl rfl dX10_law_90 (fu_X10_14 _ _ _ _) (fun s14 => ?_)
        refine jx_iconst h dX10_law_93 ki_0 ?_
        refine jx_istore_n (lv' := [(3, .int 0), (0, .ref (Ga G 0)), (2, .int x2_12)]) h dX10_law_94 rfl (Nat.le_of_ble_eq_true rfl) rfl ?_
        refine jx_subk [1, 0] h (itr_ind (Q := (fun (f : Int32 → Mem → Option (Int32 × Mem)) => ∀ (x3 : Int32) (s : Mem), P (f x3 s) 95 [(0, .ref (Ga G 0)), (3, .int x3)] [] s)) (fun _ _ => jx_none h) (fun r95 ih95 => ?_) N 0 s14) rfl
        refine w_X10_law_95 hG h N  ?_ ih95
        intro s17
        refine jx_iconst h dX10_law_121 ki_0 ?_
        refine jx_istore_n (lv' := [(3, .int 0), (0, .ref (Ga G 0))]) h dX10_law_122 rfl (Nat.le_of_ble_eq_true rfl) rfl ?_
        refine jx_subk [1, 0] h (itr_ind (Q := (fun (f : Int32 → Mem → Option (Int32 × Mem)) => ∀ (x3 : Int32) (s : Mem), P (f x3 s) 123 [(0, .ref (Ga G 0)), (3, .int x3)] [] s)) (fun _ _ => jx_none h) (fun r123 ih123 => ?_) N 0 s17) rfl
        refine w_X10_law_123 hG h N   ih123
      · refine jx_aload_n h dX10_law_80 rfl 0 rfl ?_
        refine jx_get (v := .int (gi s13 0 8)) h fa_X10_168 lm_0 dX10_law_81 rfl ?_
        exact jx_iret h dX10_law_84
    · refine jx_iconst h dX10_law_19 ki_m1 ?_
      exact jx_iret h dX10_law_20
noncomputable def f_X10_reckon (N : Nat) (x0 : Int32) (x1 : Int32) (x2 : Int32) (s : Mem) : Option (Int32 × Mem) :=
  if x0 = 2 then (some (x1 + x2, s)) else if x0 = 3 then (some (x1 - x2, s)) else if x0 = 4 then (some (x1 * x2, s)) else if x0 = 5 then (ckd x2 (some (x1 / x2, s))) else if x0 = 6 then (ckd x2 (some (x1 - x1 / x2 * x2, s))) else if x0 = 7 then (if x2 ≤ x1 then (some (0, s)) else some (1, s)) else if x0 = 8 then (if x1 ≤ x2 then (some (0, s)) else some (1, s)) else if x1 = x2 then (some (1, s)) else some (0, s)
set_option maxRecDepth 20000 in
theorem c_X10_reckon {G : Gx} (hG : Gok G ∧ IsG G layM fsoM) (N : Nat) (x0 : Int32) (x1 : Int32) (x2 : Int32) (s : Mem) : Ct G yX10_reckon cX10_reckon 3 (some .int) 0 [.int x0, .int x1, .int x2] tvI s (f_X10_reckon N x0 x1 x2 s) := by
  refine Ct.of hG (by decide) (Nat.le_of_ble_eq_true rfl) (fun P h => ?_)
  show P _ 0 [(0, .int x0), (1, .int x1), (2, .int x2)] [] s
  unfold f_X10_reckon
  refine jx_iload_n h dX10_reckon_0 rfl 0 rfl ?_
  refine jx_tcase (off := 43) (tgt := 44) h dX10_reckon_1 (by decide) (by decide) (by decide) rfl ?_ (fun n1_2 => ?_)
  · refine jx_iload_n h dX10_reckon_44 rfl 1 rfl ?_
    refine jx_iload_n h dX10_reckon_45 rfl 2 rfl ?_
    refine jx_iadd h dX10_reckon_46 ?_
    exact jx_iret h dX10_reckon_47
  · refine jx_tcase (off := 47) (tgt := 48) h dX10_reckon_1 (by decide) (by decide) (by decide) rfl ?_ (fun n1_3 => ?_)
    · refine jx_iload_n h dX10_reckon_48 rfl 1 rfl ?_
      refine jx_iload_n h dX10_reckon_49 rfl 2 rfl ?_
      refine jx_isub h dX10_reckon_50 ?_
      exact jx_iret h dX10_reckon_51
    · refine jx_tcase (off := 51) (tgt := 52) h dX10_reckon_1 (by decide) (by decide) (by decide) rfl ?_ (fun n1_4 => ?_)
      · refine jx_iload_n h dX10_reckon_52 rfl 1 rfl ?_
        refine jx_iload_n h dX10_reckon_53 rfl 2 rfl ?_
        refine jx_imul h dX10_reckon_54 ?_
        exact jx_iret h dX10_reckon_55
      · refine jx_tcase (off := 55) (tgt := 56) h dX10_reckon_1 (by decide) (by decide) (by decide) rfl ?_ (fun n1_5 => ?_)
        · refine jx_iload_n h dX10_reckon_56 rfl 1 rfl ?_
          refine jx_iload_n h dX10_reckon_57 rfl 2 rfl ?_
          refine jx_idiv h dX10_reckon_58 ?_
          exact jx_iret h dX10_reckon_59
        · refine jx_tcase (off := 59) (tgt := 60) h dX10_reckon_1 (by decide) (by decide) (by decide) rfl ?_ (fun n1_6 => ?_)
          · refine jx_iload_n h dX10_reckon_60 rfl 1 rfl ?_
            refine jx_iload_n h dX10_reckon_61 rfl 2 rfl ?_
            refine jx_irem h dX10_reckon_62 ?_
            exact jx_iret h dX10_reckon_63
          · refine jx_tcase (off := 63) (tgt := 64) h dX10_reckon_1 (by decide) (by decide) (by decide) rfl ?_ (fun n1_7 => ?_)
            · refine jx_iload_n h dX10_reckon_64 rfl 1 rfl ?_
              refine jx_iload_n h dX10_reckon_65 rfl 2 rfl ?_
              refine jx_icmp_ge (tgt := 73) h dX10_reckon_66 rfl ?_ ?_
              · refine jx_iconst h dX10_reckon_73 ki_0 ?_
                exact jx_iret h dX10_reckon_74
              · refine jx_iconst h dX10_reckon_69 ki_1 ?_
                refine jx_goto (tgt := 74) h dX10_reckon_70 rfl ?_
                exact jx_iret h dX10_reckon_74
            · refine jx_tcase (off := 74) (tgt := 75) h dX10_reckon_1 (by decide) (by decide) (by decide) rfl ?_ (fun n1_8 => ?_)
              · refine jx_iload_n h dX10_reckon_75 rfl 1 rfl ?_
                refine jx_iload_n h dX10_reckon_76 rfl 2 rfl ?_
                refine jx_icmp_le (tgt := 84) h dX10_reckon_77 rfl ?_ ?_
                · refine jx_iconst h dX10_reckon_84 ki_0 ?_
                  exact jx_iret h dX10_reckon_85
                · refine jx_iconst h dX10_reckon_80 ki_1 ?_
                  refine jx_goto (tgt := 85) h dX10_reckon_81 rfl ?_
                  exact jx_iret h dX10_reckon_85
              · have hsw : (x0.toInt < 2 ∨ 8 < x0.toInt) ∨ (¬ x0.toInt < 2 ∧ ¬ 8 < x0.toInt ∧ (#[43, 47, 51, 55, 59, 63, 74] : Array Int)[(x0.toInt - 2).toNat]? = some 85) := by
                  have a0 := i32ne n1_2 (k := 2) rfl; have a1 := i32ne n1_3 (k := 3) rfl; have a2 := i32ne n1_4 (k := 4) rfl; have a3 := i32ne n1_5 (k := 5) rfl; have a4 := i32ne n1_6 (k := 6) rfl; have a5 := i32ne n1_7 (k := 7) rfl; have a6 := i32ne n1_8 (k := 8) rfl; rcases (show x0.toInt < 2 ∨ 8 < x0.toInt by omega) with h9 | h9
                  · exact Or.inl (Or.inl h9)
                  · exact Or.inl (Or.inr h9)
                refine jx_tdef2 (tgt := 86) h dX10_reckon_1 hsw rfl ?_
                refine jx_iload_n h dX10_reckon_86 rfl 1 rfl ?_
                refine jx_iload_n h dX10_reckon_87 rfl 2 rfl ?_
                refine jx_icmp_ne (tgt := 95) h dX10_reckon_88 rfl ?_ ?_
                · refine jx_iconst h dX10_reckon_95 ki_0 ?_
                  exact jx_iret h dX10_reckon_96
                · refine jx_iconst h dX10_reckon_91 ki_1 ?_
                  refine jx_goto (tgt := 96) h dX10_reckon_92 rfl ?_
                  exact jx_iret h dX10_reckon_96
noncomputable def st_X10_comesTo_16 (N : Nat) (x2 : Int32) (x4 : Int32)  (rec : Int32 → Int32 → Mem → Option (Int32 × Mem)) (x3 : Int32) (x5 : Int32) (s0 : Mem) : Option (Int32 × Mem) :=
  if x2 ≤ x5 then (chk 0 260 (some (gi s0 17 (ix (0 : Int32)), s0))) else chk x5 260 (lt ((gi s0 12 (ix x5)) / 1048576) (fun v2 => chk x5 260 (lt ((gi s0 12 (ix x5)) - (gi s0 12 (ix x5)) / 1048576 * 1048576) (fun v3 => lt (x5 + 1) (fun v4 => lt (fun  (s5 : Mem) => if v2 = 0 then (chk x3 260 (lt (si s5 17 (ix x3) v3) (fun s8 => lt (x3 + 1) (fun v9 => rec v9 v4 s8)))) else chk v3 7 (chk x3 260 (lt (si s5 17 (ix x3) (gi s5 18 (ix v3))) (fun s6 => lt (x3 + 1) (fun v7 => rec v7 v4 s6))))) (fun j63 => if v2 = 0 then (j63 s0) else if v2 = 1 then (j63 s0) else if v2 = 10 then (chk (x3 - 1) 260 (chk (x3 - 1) 260 (lt (si s0 17 (ix (x3 - 1)) ((1 : Int32) - (gi s0 17 (ix (x3 - 1))))) (fun s21 => rec x3 v4 s21)))) else lt (fun  (s10 : Mem) => chk (x3 - 1) 260 (lt (fun (t12 : Int32) (s11 : Mem) => if (gi s10 17 (ix (x3 - 1))) = t12 then (lt (x4 + v3) (fun v14 => rec x3 v14 s11)) else lt (x3 - 1) (fun v13 => rec v13 v4 s11)) (fun j155 => if v2 = 12 then (j155 1 s10) else j155 0 s10))) (fun j135 => if v2 = 11 then (j135 s0) else if v2 = 12 then (j135 s0) else lt (x3 - 1) (fun v15 => lt (fun  (s16 : Mem) => chk (v15 - 1) 260 (chk v15 260 (bd (f_X10_reckon N v2 (gi s16 17 (ix (v15 - 1))) (gi s16 17 (ix v15)) s16) (fun r18 s17 => chk (v15 - 1) 260 (lt (si s17 17 (ix (v15 - 1)) r18) (fun s19 => rec v15 v4 s19)))))) (fun j203 => lt (fun  (s20 : Mem) => chk v15 260 (if (gi s20 17 (ix v15)) = 0 then (some (0, s20)) else j203 s20)) (fun j192 => if v2 = 5 then (j192 s0) else if v2 = 6 then (j192 s0) else j203 s0))))))))))
noncomputable def f_X10_comesTo (N : Nat) (x1 : Int32) (x2 : Int32) (s : Mem) : Option (Int32 × Mem) :=
  lt ((260 : Int32) * (x1 / 260)) (fun v1 => itr (fun _ _ _ => none) (st_X10_comesTo_16 N x2 v1) N 0 x1 s)
set_option maxRecDepth 20000 in
theorem w_X10_comesTo_16 {G : Gx} (hG : Gok G ∧ IsG G layM fsoM) {P : Option (Int32 × Mem) → Nat → List (Nat × Value) → List Value → Mem → Prop} (h : Jk G layM fsoM RX10 cX10_comesTo 8 (some .int) 1 tvI P) (N : Nat) (x2 : Int32) (x4 : Int32) {rec : Int32 → Int32 → Mem → Option (Int32 × Mem)} (ih : ∀ (x3 : Int32) (x5 : Int32) (s : Mem), P (rec x3 x5 s) 16 [(0, .ref (Ga G 0)), (2, .int x2), (3, .int x3), (4, .int x4), (5, .int x5)] [] s) : ∀ (x3 : Int32) (x5 : Int32) (s : Mem), P (st_X10_comesTo_16 N x2 x4 rec x3 x5 s) 16 [(0, .ref (Ga G 0)), (2, .int x2), (3, .int x3), (4, .int x4), (5, .int x5)] [] s := by
  intro x3 x5 s0
  unfold st_X10_comesTo_16
  refine jx_iload h dX10_comesTo_16 4 rfl ?_
  refine jx_iload_n h dX10_comesTo_18 rfl 1 rfl ?_
  refine jx_icmp_ge (tgt := 233) h dX10_comesTo_19 rfl ?_ ?_
  · refine jx_aload_n h dX10_comesTo_233 rfl 0 rfl ?_
    refine jx_get (v := .ref (Ga G 17)) h fa_X10_59 lm_0 dX10_comesTo_234 rfl ?_
    refine jx_iconst h dX10_comesTo_237 ki_0 ?_
    refine jx_iaload h lm_17 dX10_comesTo_238 ?_
    exact jx_iret h dX10_comesTo_239
  · refine jx_aload_n h dX10_comesTo_22 rfl 0 rfl ?_
    refine jx_get (v := .ref (Ga G 12)) h fa_X10_44 lm_0 dX10_comesTo_23 rfl ?_
    refine jx_iload h dX10_comesTo_26 4 rfl ?_
    refine jx_iaload h lm_12 dX10_comesTo_28 ?_
    refine jx_ldc h dX10_comesTo_29 kw_X10_184 ?_
    refine jx_idivc h (by decide) dX10_comesTo_31 ?_
    refine jx_lti (fun v2 => ?_)
    refine jx_istore (lv' := [(6, .int v2), (0, .ref (Ga G 0)), (2, .int x2), (3, .int x3), (4, .int x4), (5, .int x5)]) h dX10_comesTo_32 (Nat.le_of_ble_eq_true rfl) rfl ?_
    refine jx_aload_n h dX10_comesTo_34 rfl 1 rfl ?_
    refine jx_get (v := .ref (Ga G 12)) h fa_X10_44 lm_0 dX10_comesTo_35 rfl ?_
    refine jx_iload h dX10_comesTo_38 5 rfl ?_
    refine jx_iaload h lm_12 dX10_comesTo_40 ?_
    refine jx_ldc h dX10_comesTo_41 kw_X10_184 ?_
    refine jx_iremc h (by decide) dX10_comesTo_43 ?_
    refine jx_lti (fun v3 => ?_)
    refine jx_istore (lv' := [(7, .int v3), (6, .int v2), (0, .ref (Ga G 0)), (2, .int x2), (3, .int x3), (4, .int x4), (5, .int x5)]) h dX10_comesTo_44 (Nat.le_of_ble_eq_true rfl) rfl ?_
    refine jx_iload h dX10_comesTo_46 6 rfl ?_
    refine jx_iconst h dX10_comesTo_48 ki_1 ?_
    refine jx_iadd h dX10_comesTo_49 ?_
    refine jx_lti (fun v4 => ?_)
    refine jx_istore (lv' := [(5, .int v4), (7, .int v3), (6, .int v2), (0, .ref (Ga G 0)), (2, .int x2), (3, .int x3), (4, .int x4)]) h dX10_comesTo_50 (Nat.le_of_ble_eq_true rfl) rfl ?_
    refine jx_iload h dX10_comesTo_52 2 rfl ?_
    refine jx_join (fun (j : Mem → Option (Int32 × Mem)) => ∀  (s5 : Mem), P (j  s5) 63 [(0, .ref (Ga G 0)), (2, .int x2), (3, .int x3), (4, .int x4), (5, .int v4), (6, .int v2), (7, .int v3)] [] s5) (fun  s5 => ?_) (fun j63 hj63 => ?_)
    · refine jx_aload_n h dX10_comesTo_63 rfl 0 rfl ?_
      refine jx_get (v := .ref (Ga G 17)) h fa_X10_59 lm_0 dX10_comesTo_64 rfl ?_
      refine jx_iload_n h dX10_comesTo_67 rfl 2 rfl ?_
      refine jx_iload h dX10_comesTo_68 5 rfl ?_
      refine jx_if_ne (tgt := 78) h dX10_comesTo_70 rfl ?_ ?_
      · refine jx_aload_n h dX10_comesTo_78 rfl 0 rfl ?_
        refine jx_get (v := .ref (Ga G 18)) h fa_X10_62 lm_0 dX10_comesTo_79 rfl ?_
        refine jx_iload h dX10_comesTo_82 6 rfl ?_
        refine jx_iaload h lm_18 dX10_comesTo_84 ?_
        refine jx_iastore h lm_17 dX10_comesTo_85 (fun s6 => ?_)
        refine jx_iload_n h dX10_comesTo_86 rfl 2 rfl ?_
        refine jx_iconst h dX10_comesTo_87 ki_1 ?_
        refine jx_iadd h dX10_comesTo_88 ?_
        refine jx_lti (fun v7 => ?_)
        refine jx_istore_n (lv' := [(3, .int v7), (0, .ref (Ga G 0)), (2, .int x2), (4, .int x4), (5, .int v4), (6, .int v2), (7, .int v3)]) h dX10_comesTo_89 rfl (Nat.le_of_ble_eq_true rfl) rfl ?_
        refine jx_goto (tgt := 230) h dX10_comesTo_90 rfl ?_
        refine jx_goto (tgt := 16) h dX10_comesTo_230 rfl ?_
        exact jx_subk [1, 2, 0, 3, 4] h (ih v7 v4 s6) rfl
      · refine jx_iload h dX10_comesTo_73 6 rfl ?_
        refine jx_goto (tgt := 85) h dX10_comesTo_75 rfl ?_
        refine jx_iastore h lm_17 dX10_comesTo_85 (fun s8 => ?_)
        refine jx_iload_n h dX10_comesTo_86 rfl 2 rfl ?_
        refine jx_iconst h dX10_comesTo_87 ki_1 ?_
        refine jx_iadd h dX10_comesTo_88 ?_
        refine jx_lti (fun v9 => ?_)
        refine jx_istore_n (lv' := [(3, .int v9), (0, .ref (Ga G 0)), (2, .int x2), (4, .int x4), (5, .int v4), (6, .int v2), (7, .int v3)]) h dX10_comesTo_89 rfl (Nat.le_of_ble_eq_true rfl) rfl ?_
        refine jx_goto (tgt := 230) h dX10_comesTo_90 rfl ?_
        refine jx_goto (tgt := 16) h dX10_comesTo_230 rfl ?_
        exact jx_subk [1, 2, 0, 3, 4] h (ih v9 v4 s8) rfl
    · refine jx_if_eq (tgt := 63) h dX10_comesTo_54 rfl ?_ ?_
      · exact jx_subk [3, 4, 5, 6, 0, 2, 1] h (hj63 s0) rfl
      · refine jx_iload h dX10_comesTo_57 2 rfl ?_
        refine jx_iconst h dX10_comesTo_59 ki_1 ?_
        refine jx_icmp_ne (tgt := 93) h dX10_comesTo_60 rfl ?_ ?_
        · refine jx_iload h dX10_comesTo_93 2 rfl ?_
          refine jx_bipush h dX10_comesTo_95 kb_10 ?_
          refine jx_icmp_ne (tgt := 121) h dX10_comesTo_97 rfl ?_ ?_
          · refine jx_iload h dX10_comesTo_121 2 rfl ?_
            refine jx_bipush h dX10_comesTo_123 kb_11 ?_
            refine jx_join (fun (j : Mem → Option (Int32 × Mem)) => ∀  (s10 : Mem), P (j  s10) 135 [(0, .ref (Ga G 0)), (2, .int x2), (3, .int x3), (4, .int x4), (5, .int v4), (6, .int v2), (7, .int v3)] [] s10) (fun  s10 => ?_) (fun j135 hj135 => ?_)
            · refine jx_aload_n h dX10_comesTo_135 rfl 0 rfl ?_
              refine jx_get (v := .ref (Ga G 17)) h fa_X10_59 lm_0 dX10_comesTo_136 rfl ?_
              refine jx_iload_n h dX10_comesTo_139 rfl 2 rfl ?_
              refine jx_iconst h dX10_comesTo_140 ki_1 ?_
              refine jx_isub h dX10_comesTo_141 ?_
              refine jx_iaload h lm_17 dX10_comesTo_142 ?_
              refine jx_iload h dX10_comesTo_143 5 rfl ?_
              refine jx_bipush h dX10_comesTo_145 kb_12 ?_
              refine jx_join (fun (j : Int32 → Mem → Option (Int32 × Mem)) => ∀ (t12 : Int32) (s11 : Mem), P (j t12 s11) 155 [(0, .ref (Ga G 0)), (2, .int x2), (3, .int x3), (4, .int x4), (5, .int v4), (7, .int v3)] [.int t12, .int (gi s10 17 (ix (x3 - 1)))] s11) (fun t12 s11 => ?_) (fun j155 hj155 => ?_)
              · refine jx_icmp_ne (tgt := 168) h dX10_comesTo_155 rfl ?_ ?_
                · refine jx_iload_n h dX10_comesTo_168 rfl 2 rfl ?_
                  refine jx_iconst h dX10_comesTo_169 ki_1 ?_
                  refine jx_isub h dX10_comesTo_170 ?_
                  refine jx_lti (fun v13 => ?_)
                  refine jx_istore_n (lv' := [(3, .int v13), (0, .ref (Ga G 0)), (2, .int x2), (4, .int x4), (5, .int v4), (7, .int v3)]) h dX10_comesTo_171 rfl (Nat.le_of_ble_eq_true rfl) rfl ?_
                  refine jx_goto (tgt := 230) h dX10_comesTo_172 rfl ?_
                  refine jx_goto (tgt := 16) h dX10_comesTo_230 rfl ?_
                  exact jx_subk [1, 2, 0, 3, 4] h (ih v13 v4 s11) rfl
                · refine jx_iload h dX10_comesTo_158 3 rfl ?_
                  refine jx_iload h dX10_comesTo_160 5 rfl ?_
                  refine jx_iadd h dX10_comesTo_162 ?_
                  refine jx_lti (fun v14 => ?_)
                  refine jx_istore (lv' := [(5, .int v14), (0, .ref (Ga G 0)), (2, .int x2), (3, .int x3), (4, .int x4), (7, .int v3)]) h dX10_comesTo_163 (Nat.le_of_ble_eq_true rfl) rfl ?_
                  refine jx_goto (tgt := 230) h dX10_comesTo_165 rfl ?_
                  refine jx_goto (tgt := 16) h dX10_comesTo_230 rfl ?_
                  exact jx_subk [1, 2, 3, 4, 0] h (ih x3 v14 s11) rfl
              · refine jx_icmp_ne (tgt := 154) h dX10_comesTo_147 rfl ?_ ?_
                · refine jx_iconst h dX10_comesTo_154 ki_0 ?_
                  exact jx_subk [0, 1, 2, 3, 4, 6] h (hj155 0 s10) rfl
                · refine jx_iconst h dX10_comesTo_150 ki_1 ?_
                  refine jx_goto (tgt := 155) h dX10_comesTo_151 rfl ?_
                  exact jx_subk [0, 1, 2, 3, 4, 6] h (hj155 1 s10) rfl
            · refine jx_icmp_eq (tgt := 135) h dX10_comesTo_125 rfl ?_ ?_
              · exact jx_subk [3, 4, 5, 6, 0, 2, 1] h (hj135 s0) rfl
              · refine jx_iload h dX10_comesTo_128 2 rfl ?_
                refine jx_bipush h dX10_comesTo_130 kb_12 ?_
                refine jx_icmp_ne (tgt := 175) h dX10_comesTo_132 rfl ?_ ?_
                · refine jx_iload_n h dX10_comesTo_175 rfl 5 rfl ?_
                  refine jx_iconst h dX10_comesTo_176 ki_1 ?_
                  refine jx_isub h dX10_comesTo_177 ?_
                  refine jx_lti (fun v15 => ?_)
                  refine jx_istore_n (lv' := [(3, .int v15), (5, .int v4), (7, .int v3), (6, .int v2), (0, .ref (Ga G 0)), (2, .int x2), (4, .int x4)]) h dX10_comesTo_178 rfl (Nat.le_of_ble_eq_true rfl) rfl ?_
                  refine jx_iload h dX10_comesTo_179 3 rfl ?_
                  refine jx_iconst h dX10_comesTo_181 ki_5 ?_
                  refine jx_join (fun (j : Mem → Option (Int32 × Mem)) => ∀  (s16 : Mem), P (j  s16) 203 [(0, .ref (Ga G 0)), (2, .int x2), (3, .int v15), (4, .int x4), (5, .int v4), (6, .int v2)] [] s16) (fun  s16 => ?_) (fun j203 hj203 => ?_)
                  · refine jx_aload_n h dX10_comesTo_203 rfl 0 rfl ?_
                    refine jx_get (v := .ref (Ga G 17)) h fa_X10_59 lm_0 dX10_comesTo_204 rfl ?_
                    refine jx_iload_n h dX10_comesTo_207 rfl 2 rfl ?_
                    refine jx_iconst h dX10_comesTo_208 ki_1 ?_
                    refine jx_isub h dX10_comesTo_209 ?_
                    refine jx_iload h dX10_comesTo_210 5 rfl ?_
                    refine jx_aload_n h dX10_comesTo_212 rfl 0 rfl ?_
                    refine jx_get (v := .ref (Ga G 17)) h fa_X10_59 lm_0 dX10_comesTo_213 rfl ?_
                    refine jx_iload_n h dX10_comesTo_216 rfl 2 rfl ?_
                    refine jx_iconst h dX10_comesTo_217 ki_1 ?_
                    refine jx_isub h dX10_comesTo_218 ?_
                    refine jx_iaload h lm_17 dX10_comesTo_219 ?_
                    refine jx_aload_n h dX10_comesTo_220 rfl 0 rfl ?_
                    refine jx_get (v := .ref (Ga G 17)) h fa_X10_59 lm_0 dX10_comesTo_221 rfl ?_
                    refine jx_iload_n h dX10_comesTo_224 rfl 2 rfl ?_
                    refine jx_iaload h lm_17 dX10_comesTo_225 ?_
                    refine jx_callSi [.int (v15 - 1), .ref (Ga G 17)] h (c_X10_reckon hG N v2 (gi s16 17 (ix (v15 - 1))) (gi s16 17 (ix v15)) s16) ml_X10_254 (Nat.le_of_ble_eq_true rfl) (Nat.le_of_ble_eq_true rfl) dX10_comesTo_226 (Nat.le_of_ble_eq_true rfl) rfl (fun r18 s17 => ?_)
                    refine jx_iastore h lm_17 dX10_comesTo_229 (fun s19 => ?_)
                    refine jx_goto (tgt := 16) h dX10_comesTo_230 rfl ?_
                    exact jx_subk [0, 1, 2, 3, 4] h (ih v15 v4 s19) rfl
                  · refine jx_join (fun (j : Mem → Option (Int32 × Mem)) => ∀  (s20 : Mem), P (j  s20) 192 [(0, .ref (Ga G 0)), (2, .int x2), (3, .int v15), (4, .int x4), (5, .int v4), (6, .int v2)] [] s20) (fun  s20 => ?_) (fun j192 hj192 => ?_)
                    · refine jx_aload_n h dX10_comesTo_192 rfl 0 rfl ?_
                      refine jx_get (v := .ref (Ga G 17)) h fa_X10_59 lm_0 dX10_comesTo_193 rfl ?_
                      refine jx_iload_n h dX10_comesTo_196 rfl 2 rfl ?_
                      refine jx_iaload h lm_17 dX10_comesTo_197 ?_
                      refine jx_if_ne (tgt := 203) h dX10_comesTo_198 rfl ?_ ?_
                      · exact hj203 s20
                      · refine jx_iconst h dX10_comesTo_201 ki_0 ?_
                        exact jx_iret h dX10_comesTo_202
                    · refine jx_icmp_eq (tgt := 192) h dX10_comesTo_182 rfl ?_ ?_
                      · exact jx_subk [4, 5, 0, 6, 1, 3] h (hj192 s0) rfl
                      · refine jx_iload h dX10_comesTo_185 3 rfl ?_
                        refine jx_bipush h dX10_comesTo_187 kb_6 ?_
                        refine jx_icmp_ne (tgt := 203) h dX10_comesTo_189 rfl ?_ ?_
                        · exact jx_subk [4, 5, 0, 6, 1, 3] h (hj203 s0) rfl
                        · exact jx_subk [4, 5, 0, 6, 1, 3] h (hj192 s0) rfl
                · exact jx_subk [3, 4, 5, 6, 0, 2, 1] h (hj135 s0) rfl
          · refine jx_aload_n h dX10_comesTo_100 rfl 3 rfl ?_
            refine jx_get (v := .ref (Ga G 17)) h fa_X10_59 lm_0 dX10_comesTo_101 rfl ?_
            refine jx_iload_n h dX10_comesTo_104 rfl 5 rfl ?_
            refine jx_iconst h dX10_comesTo_105 ki_1 ?_
            refine jx_isub h dX10_comesTo_106 ?_
            refine jx_iconst h dX10_comesTo_107 ki_1 ?_
            refine jx_aload_n h dX10_comesTo_108 rfl 3 rfl ?_
            refine jx_get (v := .ref (Ga G 17)) h fa_X10_59 lm_0 dX10_comesTo_109 rfl ?_
            refine jx_iload_n h dX10_comesTo_112 rfl 5 rfl ?_
            refine jx_iconst h dX10_comesTo_113 ki_1 ?_
            refine jx_isub h dX10_comesTo_114 ?_
            refine jx_iaload h lm_17 dX10_comesTo_115 ?_
            refine jx_isub h dX10_comesTo_116 ?_
            refine jx_iastore h lm_17 dX10_comesTo_117 (fun s21 => ?_)
            refine jx_goto (tgt := 230) h dX10_comesTo_118 rfl ?_
            refine jx_goto (tgt := 16) h dX10_comesTo_230 rfl ?_
            exact jx_subk [3, 4, 5, 6, 0] h (ih x3 v4 s21) rfl
        · exact jx_subk [3, 4, 5, 6, 0, 2, 1] h (hj63 s0) rfl
set_option maxRecDepth 20000 in
theorem c_X10_comesTo {G : Gx} (hG : Gok G ∧ IsG G layM fsoM) (N : Nat) (x1 : Int32) (x2 : Int32) (s : Mem) : Ct G yX10_comesTo cX10_comesTo 8 (some .int) 1 [.ref (Ga G 0), .int x1, .int x2] tvI s (f_X10_comesTo N x1 x2 s) := by
  refine Ct.of hG (by decide) (Nat.le_of_ble_eq_true rfl) (fun P h => ?_)
  show P _ 0 [(0, .ref (Ga G 0)), (1, .int x1), (2, .int x2)] [] s
  unfold f_X10_comesTo
  refine jx_iconst h dX10_comesTo_0 ki_0 ?_
  refine jx_istore_n (lv' := [(3, .int 0), (0, .ref (Ga G 0)), (1, .int x1), (2, .int x2)]) h dX10_comesTo_1 rfl (Nat.le_of_ble_eq_true rfl) rfl ?_
  refine jx_sipush h dX10_comesTo_2 ks_260 ?_
  refine jx_iload_n h dX10_comesTo_5 rfl 2 rfl ?_
  refine jx_sipush h dX10_comesTo_6 ks_260 ?_
  refine jx_idivc h (by decide) dX10_comesTo_9 ?_
  refine jx_imul h dX10_comesTo_10 ?_
  refine jx_lti (fun v1 => ?_)
  refine jx_istore (lv' := [(4, .int v1), (3, .int 0), (0, .ref (Ga G 0)), (1, .int x1), (2, .int x2)]) h dX10_comesTo_11 (Nat.le_of_ble_eq_true rfl) rfl ?_
  refine jx_iload_n h dX10_comesTo_13 rfl 3 rfl ?_
  refine jx_istore (lv' := [(5, .int x1), (4, .int v1), (3, .int 0), (0, .ref (Ga G 0)), (1, .int x1), (2, .int x2)]) h dX10_comesTo_14 (Nat.le_of_ble_eq_true rfl) rfl ?_
  refine jx_subk [3, 5, 2, 1, 0] h (itr_ind (Q := (fun (f : Int32 → Int32 → Mem → Option (Int32 × Mem)) => ∀ (x3 : Int32) (x5 : Int32) (s : Mem), P (f x3 x5 s) 16 [(0, .ref (Ga G 0)), (2, .int x2), (3, .int x3), (4, .int v1), (5, .int x5)] [] s)) (fun _ _ _ => jx_none h) (fun r16 ih16 => ?_) N 0 x1 s) rfl
  refine w_X10_comesTo_16 hG h N x2 v1  ih16
noncomputable def st_X10_byLaw_2 (N : Nat) (x1 : Int32) (x2 : Int32) (k43 : Int32 → Mem → Option (Int32 × Mem)) (rec : Int32 → Mem → Option (Int32 × Mem)) (x3 : Int32) (s0 : Mem) : Option (Int32 × Mem) :=
  if (gi s0 0 14) ≤ x3 then (some (0, s0)) else chk x3 16 (if (gi s0 13 (ix x3)) = x1 then (chk x3 16 (chk x3 16 (bd (f_X10_comesTo N (gi s0 15 (ix x3)) (gi s0 16 (ix x3)) s0) (fun r3 s2 => if r3 = 1 then (k43 x3 s2) else lt (x3 + 1) (fun x3_4 => rec x3_4 s2))))) else lt (x3 + 1) (fun x3_1 => rec x3_1 s0))
noncomputable def f_X10_byLaw (N : Nat) (x1 : Int32) (x2 : Int32) (s : Mem) : Option (Int32 × Mem) :=
  itr (fun _ _ => none) (st_X10_byLaw_2 N x1 x2 (fun (x3_6 : Int32) (s5 : Mem) => chk x3_6 16 (chk x3_6 16 (bd (f_X10_comesTo N (gi s5 14 (ix x3_6)) (gi s5 15 (ix x3_6)) s5) (fun r8 s7 => if 0 ≤ r8 then (if r8 ≤ x2 then (some (r8, s7)) else some (x2, s7)) else some (0, s7)))))) N 0 s
set_option maxRecDepth 20000 in
theorem w_X10_byLaw_2 {G : Gx} (hG : Gok G ∧ IsG G layM fsoM) {P : Option (Int32 × Mem) → Nat → List (Nat × Value) → List Value → Mem → Prop} (h : Jk G layM fsoM RX10 cX10_byLaw 5 (some .int) 2 tvI P) (N : Nat) (x1 : Int32) (x2 : Int32) {k43 : Int32 → Mem → Option (Int32 × Mem)} (hk43 : ∀ (x3 : Int32) (s : Mem), P (k43 x3 s) 43 [(0, .ref (Ga G 0)), (2, .int x2), (3, .int x3)] [] s) {rec : Int32 → Mem → Option (Int32 × Mem)} (ih : ∀ (x3 : Int32) (s : Mem), P (rec x3 s) 2 [(0, .ref (Ga G 0)), (1, .int x1), (2, .int x2), (3, .int x3)] [] s) : ∀ (x3 : Int32) (s : Mem), P (st_X10_byLaw_2 N x1 x2 k43 rec x3 s) 2 [(0, .ref (Ga G 0)), (1, .int x1), (2, .int x2), (3, .int x3)] [] s := by
  intro x3 s0
  unfold st_X10_byLaw_2
  refine jx_iload_n h dX10_byLaw_2 rfl 3 rfl ?_
  refine jx_aload_n h dX10_byLaw_3 rfl 0 rfl ?_
  refine jx_get (v := .int (gi s0 0 14)) h fa_X10_251 lm_0 dX10_byLaw_4 rfl ?_
  refine jx_icmp_ge (tgt := 89) h dX10_byLaw_7 rfl ?_ ?_
  · refine jx_iconst h dX10_byLaw_89 ki_0 ?_
    exact jx_iret h dX10_byLaw_90
  · refine jx_aload_n h dX10_byLaw_10 rfl 0 rfl ?_
    refine jx_get (v := .ref (Ga G 13)) h fa_X10_47 lm_0 dX10_byLaw_11 rfl ?_
    refine jx_iload_n h dX10_byLaw_14 rfl 3 rfl ?_
    refine jx_iaload h lm_13 dX10_byLaw_15 ?_
    refine jx_iload_n h dX10_byLaw_16 rfl 1 rfl ?_
    refine jx_icmp_ne (tgt := 83) h dX10_byLaw_17 rfl ?_ ?_
    · refine jx_iincl (L := fun w => [(3, .int w), (0, .ref (Ga G 0)), (1, .int x1), (2, .int x2)]) h dX10_byLaw_83 3 rfl (kn_1 _) (Nat.le_of_ble_eq_true rfl) (fun _ => rfl) (fun x3_1 => ?_)
      refine jx_goto (tgt := 2) h dX10_byLaw_86 rfl ?_
      exact jx_subk [1, 2, 3, 0] h (ih x3_1 s0) rfl
    · refine jx_aload_n h dX10_byLaw_20 rfl 0 rfl ?_
      refine jx_aload_n h dX10_byLaw_21 rfl 0 rfl ?_
      refine jx_get (v := .ref (Ga G 15)) h fa_X10_53 lm_0 dX10_byLaw_22 rfl ?_
      refine jx_iload_n h dX10_byLaw_25 rfl 3 rfl ?_
      refine jx_iaload h lm_15 dX10_byLaw_26 ?_
      refine jx_aload_n h dX10_byLaw_27 rfl 0 rfl ?_
      refine jx_get (v := .ref (Ga G 16)) h fa_X10_56 lm_0 dX10_byLaw_28 rfl ?_
      refine jx_iload_n h dX10_byLaw_31 rfl 3 rfl ?_
      refine jx_iaload h lm_16 dX10_byLaw_32 ?_
      refine jx_callVi [] h lm_0 (c_X10_comesTo hG N (gi s0 15 (ix x3)) (gi s0 16 (ix x3)) s0) ml_X10_258 (Nat.le_of_ble_eq_true rfl) (Nat.le_of_ble_eq_true rfl) dX10_byLaw_33 (Nat.le_of_ble_eq_true rfl) rfl (fun r3 s2 => ?_)
      refine jx_iconst h dX10_byLaw_36 ki_1 ?_
      refine jx_icmp_eq (tgt := 43) h dX10_byLaw_37 rfl ?_ ?_
      · exact jx_subk [0, 2, 3] h (hk43 x3 s2) rfl
      · refine jx_goto (tgt := 83) h dX10_byLaw_40 rfl ?_
        refine jx_iincl (L := fun w => [(3, .int w), (0, .ref (Ga G 0)), (1, .int x1), (2, .int x2)]) h dX10_byLaw_83 3 rfl (kn_1 _) (Nat.le_of_ble_eq_true rfl) (fun _ => rfl) (fun x3_4 => ?_)
        refine jx_goto (tgt := 2) h dX10_byLaw_86 rfl ?_
        exact jx_subk [1, 2, 3, 0] h (ih x3_4 s2) rfl
set_option maxRecDepth 20000 in
theorem c_X10_byLaw {G : Gx} (hG : Gok G ∧ IsG G layM fsoM) (N : Nat) (x1 : Int32) (x2 : Int32) (s : Mem) : Ct G yX10_byLaw cX10_byLaw 5 (some .int) 2 [.ref (Ga G 0), .int x1, .int x2] tvI s (f_X10_byLaw N x1 x2 s) := by
  refine Ct.of hG (by decide) (Nat.le_of_ble_eq_true rfl) (fun P h => ?_)
  show P _ 0 [(0, .ref (Ga G 0)), (1, .int x1), (2, .int x2)] [] s
  unfold f_X10_byLaw
  refine jx_iconst h dX10_byLaw_0 ki_0 ?_
  refine jx_istore_n (lv' := [(3, .int 0), (0, .ref (Ga G 0)), (1, .int x1), (2, .int x2)]) h dX10_byLaw_1 rfl (Nat.le_of_ble_eq_true rfl) rfl ?_
  refine jx_subk [1, 2, 3, 0] h (itr_ind (Q := (fun (f : Int32 → Mem → Option (Int32 × Mem)) => ∀ (x3 : Int32) (s : Mem), P (f x3 s) 2 [(0, .ref (Ga G 0)), (1, .int x1), (2, .int x2), (3, .int x3)] [] s)) (fun _ _ => jx_none h) (fun r2 ih2 => ?_) N 0 s) rfl
  refine w_X10_byLaw_2 hG h N x1 x2 ?_ ih2
  intro x3_6 s5
  refine jx_aload_n h dX10_byLaw_43 rfl 0 rfl ?_
  refine jx_aload_n h dX10_byLaw_44 rfl 0 rfl ?_
  refine jx_get (v := .ref (Ga G 14)) h fa_X10_50 lm_0 dX10_byLaw_45 rfl ?_
  refine jx_iload_n h dX10_byLaw_48 rfl 2 rfl ?_
  refine jx_iaload h lm_14 dX10_byLaw_49 ?_
  refine jx_aload_n h dX10_byLaw_50 rfl 0 rfl ?_
  refine jx_get (v := .ref (Ga G 15)) h fa_X10_53 lm_0 dX10_byLaw_51 rfl ?_
  refine jx_iload_n h dX10_byLaw_54 rfl 2 rfl ?_
  refine jx_iaload h lm_15 dX10_byLaw_55 ?_
  refine jx_callVi [] h lm_0 (c_X10_comesTo hG N (gi s5 14 (ix x3_6)) (gi s5 15 (ix x3_6)) s5) ml_X10_258 (Nat.le_of_ble_eq_true rfl) (Nat.le_of_ble_eq_true rfl) dX10_byLaw_56 (Nat.le_of_ble_eq_true rfl) rfl (fun r8 s7 => ?_)
  refine jx_istore (lv' := [(4, .int r8), (0, .ref (Ga G 0)), (2, .int x2), (3, .int x3_6)]) h dX10_byLaw_59 (Nat.le_of_ble_eq_true rfl) rfl ?_
  refine jx_iload h dX10_byLaw_61 0 rfl ?_
  refine jx_if_ge (tgt := 70) h dX10_byLaw_63 rfl ?_ ?_
  · refine jx_iload h dX10_byLaw_70 0 rfl ?_
    refine jx_iload_n h dX10_byLaw_72 rfl 2 rfl ?_
    refine jx_icmp_le (tgt := 80) h dX10_byLaw_73 rfl ?_ ?_
    · refine jx_iload h dX10_byLaw_80 0 rfl ?_
      exact jx_iret h dX10_byLaw_82
    · refine jx_iload_n h dX10_byLaw_76 rfl 2 rfl ?_
      refine jx_goto (tgt := 82) h dX10_byLaw_77 rfl ?_
      exact jx_iret h dX10_byLaw_82
  · refine jx_iconst h dX10_byLaw_66 ki_0 ?_
    refine jx_goto (tgt := 82) h dX10_byLaw_67 rfl ?_
    exact jx_iret h dX10_byLaw_82
noncomputable def st_X10_holdsAny_2 (N : Nat) (x1 : Int32)  (rec : Int32 → Mem → Option (Int32 × Mem)) (x2 : Int32) (s0 : Mem) : Option (Int32 × Mem) :=
  if (gi s0 0 14) ≤ x2 then (some (0, s0)) else chk x2 16 (if (gi s0 13 (ix x2)) = x1 then (chk x2 16 (chk x2 16 (bd (f_X10_comesTo N (gi s0 15 (ix x2)) (gi s0 16 (ix x2)) s0) (fun r3 s2 => if r3 = 1 then (some (1, s2)) else lt (x2 + 1) (fun x2_4 => rec x2_4 s2))))) else lt (x2 + 1) (fun x2_1 => rec x2_1 s0))
noncomputable def f_X10_holdsAny (N : Nat) (x1 : Int32) (s : Mem) : Option (Int32 × Mem) :=
  itr (fun _ _ => none) (st_X10_holdsAny_2 N x1) N 0 s
set_option maxRecDepth 20000 in
theorem w_X10_holdsAny_2 {G : Gx} (hG : Gok G ∧ IsG G layM fsoM) {P : Option (Int32 × Mem) → Nat → List (Nat × Value) → List Value → Mem → Prop} (h : Jk G layM fsoM RX10 cX10_holdsAny 3 (some .boolean) 2 tvI P) (N : Nat) (x1 : Int32) {rec : Int32 → Mem → Option (Int32 × Mem)} (ih : ∀ (x2 : Int32) (s : Mem), P (rec x2 s) 2 [(0, .ref (Ga G 0)), (1, .int x1), (2, .int x2)] [] s) : ∀ (x2 : Int32) (s : Mem), P (st_X10_holdsAny_2 N x1 rec x2 s) 2 [(0, .ref (Ga G 0)), (1, .int x1), (2, .int x2)] [] s := by
  intro x2 s0
  unfold st_X10_holdsAny_2
  refine jx_iload_n h dX10_holdsAny_2 rfl 2 rfl ?_
  refine jx_aload_n h dX10_holdsAny_3 rfl 0 rfl ?_
  refine jx_get (v := .int (gi s0 0 14)) h fa_X10_251 lm_0 dX10_holdsAny_4 rfl ?_
  refine jx_icmp_ge (tgt := 48) h dX10_holdsAny_7 rfl ?_ ?_
  · refine jx_iconst h dX10_holdsAny_48 ki_0 ?_
    exact jx_zret h rfl dX10_holdsAny_49
  · refine jx_aload_n h dX10_holdsAny_10 rfl 0 rfl ?_
    refine jx_get (v := .ref (Ga G 13)) h fa_X10_47 lm_0 dX10_holdsAny_11 rfl ?_
    refine jx_iload_n h dX10_holdsAny_14 rfl 2 rfl ?_
    refine jx_iaload h lm_13 dX10_holdsAny_15 ?_
    refine jx_iload_n h dX10_holdsAny_16 rfl 1 rfl ?_
    refine jx_icmp_ne (tgt := 42) h dX10_holdsAny_17 rfl ?_ ?_
    · refine jx_iincl (L := fun w => [(2, .int w), (0, .ref (Ga G 0)), (1, .int x1)]) h dX10_holdsAny_42 2 rfl (kn_1 _) (Nat.le_of_ble_eq_true rfl) (fun _ => rfl) (fun x2_1 => ?_)
      refine jx_goto (tgt := 2) h dX10_holdsAny_45 rfl ?_
      exact jx_subk [1, 2, 0] h (ih x2_1 s0) rfl
    · refine jx_aload_n h dX10_holdsAny_20 rfl 0 rfl ?_
      refine jx_aload_n h dX10_holdsAny_21 rfl 0 rfl ?_
      refine jx_get (v := .ref (Ga G 15)) h fa_X10_53 lm_0 dX10_holdsAny_22 rfl ?_
      refine jx_iload_n h dX10_holdsAny_25 rfl 2 rfl ?_
      refine jx_iaload h lm_15 dX10_holdsAny_26 ?_
      refine jx_aload_n h dX10_holdsAny_27 rfl 0 rfl ?_
      refine jx_get (v := .ref (Ga G 16)) h fa_X10_56 lm_0 dX10_holdsAny_28 rfl ?_
      refine jx_iload_n h dX10_holdsAny_31 rfl 2 rfl ?_
      refine jx_iaload h lm_16 dX10_holdsAny_32 ?_
      refine jx_callVi [] h lm_0 (c_X10_comesTo hG N (gi s0 15 (ix x2)) (gi s0 16 (ix x2)) s0) ml_X10_258 (Nat.le_of_ble_eq_true rfl) (Nat.le_of_ble_eq_true rfl) dX10_holdsAny_33 (Nat.le_of_ble_eq_true rfl) rfl (fun r3 s2 => ?_)
      refine jx_iconst h dX10_holdsAny_36 ki_1 ?_
      refine jx_icmp_ne (tgt := 42) h dX10_holdsAny_37 rfl ?_ ?_
      · refine jx_iincl (L := fun w => [(2, .int w), (0, .ref (Ga G 0)), (1, .int x1)]) h dX10_holdsAny_42 2 rfl (kn_1 _) (Nat.le_of_ble_eq_true rfl) (fun _ => rfl) (fun x2_4 => ?_)
        refine jx_goto (tgt := 2) h dX10_holdsAny_45 rfl ?_
        exact jx_subk [1, 2, 0] h (ih x2_4 s2) rfl
      · refine jx_iconst h dX10_holdsAny_40 ki_1 ?_
        exact jx_zret h rfl dX10_holdsAny_41
set_option maxRecDepth 20000 in
theorem c_X10_holdsAny {G : Gx} (hG : Gok G ∧ IsG G layM fsoM) (N : Nat) (x1 : Int32) (s : Mem) : Ct G yX10_holdsAny cX10_holdsAny 3 (some .boolean) 2 [.ref (Ga G 0), .int x1] tvI s (f_X10_holdsAny N x1 s) := by
  refine Ct.of hG (by decide) (Nat.le_of_ble_eq_true rfl) (fun P h => ?_)
  show P _ 0 [(0, .ref (Ga G 0)), (1, .int x1)] [] s
  unfold f_X10_holdsAny
  refine jx_iconst h dX10_holdsAny_0 ki_0 ?_
  refine jx_istore_n (lv' := [(2, .int 0), (0, .ref (Ga G 0)), (1, .int x1)]) h dX10_holdsAny_1 rfl (Nat.le_of_ble_eq_true rfl) rfl ?_
  refine jx_subk [1, 2, 0] h (itr_ind (Q := (fun (f : Int32 → Mem → Option (Int32 × Mem)) => ∀ (x2 : Int32) (s : Mem), P (f x2 s) 2 [(0, .ref (Ga G 0)), (1, .int x1), (2, .int x2)] [] s)) (fun _ _ => jx_none h) (fun r2 ih2 => ?_) N 0 s) rfl
  refine w_X10_holdsAny_2 hG h N x1  ih2
noncomputable def f_X10_feels (N : Nat) (x1 : Int32) (x2 : Int32) (x3 : Int32) (x4 : Int32) (x5 : Int32) (x6 : Int32) (s : Mem) : Option (Unit × Mem) :=
  chk 0 7 (lt (si s 18 (ix (0 : Int32)) x1) (fun s1 => chk ((0 : Int32) + x1) 151 (chk 1 7 (lt (si s1 18 (ix (1 : Int32)) (gi s1 1 (ix ((0 : Int32) + x1)))) (fun s2 => chk 2 7 (lt (si s2 18 (ix (2 : Int32)) x5) (fun s3 => chk 3 7 (lt (si s3 18 (ix (3 : Int32)) x2) (fun s4 => chk 4 7 (lt (si s4 18 (ix (4 : Int32)) x3) (fun s5 => chk 5 7 (lt (si s5 18 (ix (5 : Int32)) x4) (fun s6 => chk 6 7 (lt (si s6 18 (ix (6 : Int32)) (x6 - x6 / 12 * 12)) (fun s7 => some ((), s7))))))))))))))))
set_option maxRecDepth 20000 in
theorem c_X10_feels {G : Gx} (hG : Gok G ∧ IsG G layM fsoM) (N : Nat) (x1 : Int32) (x2 : Int32) (x3 : Int32) (x4 : Int32) (x5 : Int32) (x6 : Int32) (s : Mem) : Ct G yX10_feels cX10_feels 7 none 0 [.ref (Ga G 0), .int x1, .int x2, .int x3, .int x4, .int x5, .int x6] tvV s (f_X10_feels N x1 x2 x3 x4 x5 x6 s) := by
  refine Ct.of hG (by decide) (Nat.le_of_ble_eq_true rfl) (fun P h => ?_)
  show P _ 0 [(0, .ref (Ga G 0)), (1, .int x1), (2, .int x2), (3, .int x3), (4, .int x4), (5, .int x5), (6, .int x6)] [] s
  unfold f_X10_feels
  refine jx_aload_n h dX10_feels_0 rfl 0 rfl ?_
  refine jx_get (v := .ref (Ga G 18)) h fa_X10_62 lm_0 dX10_feels_1 rfl ?_
  refine jx_iconst h dX10_feels_4 ki_0 ?_
  refine jx_iload_n h dX10_feels_5 rfl 1 rfl ?_
  refine jx_iastore h lm_18 dX10_feels_6 (fun s1 => ?_)
  refine jx_aload_n h dX10_feels_7 rfl 0 rfl ?_
  refine jx_get (v := .ref (Ga G 18)) h fa_X10_62 lm_0 dX10_feels_8 rfl ?_
  refine jx_iconst h dX10_feels_11 ki_1 ?_
  refine jx_aload_n h dX10_feels_12 rfl 0 rfl ?_
  refine jx_get (v := .ref (Ga G 1)) h fa_X10_7 lm_0 dX10_feels_13 rfl ?_
  refine jx_iconst h dX10_feels_16 ki_0 ?_
  refine jx_iload_n h dX10_feels_17 rfl 1 rfl ?_
  refine jx_iadd h dX10_feels_18 ?_
  refine jx_iaload h lm_1 dX10_feels_19 ?_
  refine jx_iastore h lm_18 dX10_feels_20 (fun s2 => ?_)
  refine jx_aload_n h dX10_feels_21 rfl 0 rfl ?_
  refine jx_get (v := .ref (Ga G 18)) h fa_X10_62 lm_0 dX10_feels_22 rfl ?_
  refine jx_iconst h dX10_feels_25 ki_2 ?_
  refine jx_iload h dX10_feels_26 5 rfl ?_
  refine jx_iastore h lm_18 dX10_feels_28 (fun s3 => ?_)
  refine jx_aload_n h dX10_feels_29 rfl 0 rfl ?_
  refine jx_get (v := .ref (Ga G 18)) h fa_X10_62 lm_0 dX10_feels_30 rfl ?_
  refine jx_iconst h dX10_feels_33 ki_3 ?_
  refine jx_iload_n h dX10_feels_34 rfl 2 rfl ?_
  refine jx_iastore h lm_18 dX10_feels_35 (fun s4 => ?_)
  refine jx_aload_n h dX10_feels_36 rfl 0 rfl ?_
  refine jx_get (v := .ref (Ga G 18)) h fa_X10_62 lm_0 dX10_feels_37 rfl ?_
  refine jx_iconst h dX10_feels_40 ki_4 ?_
  refine jx_iload_n h dX10_feels_41 rfl 3 rfl ?_
  refine jx_iastore h lm_18 dX10_feels_42 (fun s5 => ?_)
  refine jx_aload_n h dX10_feels_43 rfl 0 rfl ?_
  refine jx_get (v := .ref (Ga G 18)) h fa_X10_62 lm_0 dX10_feels_44 rfl ?_
  refine jx_iconst h dX10_feels_47 ki_5 ?_
  refine jx_iload h dX10_feels_48 4 rfl ?_
  refine jx_iastore h lm_18 dX10_feels_50 (fun s6 => ?_)
  refine jx_aload_n h dX10_feels_51 rfl 0 rfl ?_
  refine jx_get (v := .ref (Ga G 18)) h fa_X10_62 lm_0 dX10_feels_52 rfl ?_
  refine jx_bipush h dX10_feels_55 kb_6 ?_
  refine jx_iload h dX10_feels_57 6 rfl ?_
  refine jx_bipush h dX10_feels_59 kb_12 ?_
  refine jx_iremc h (by decide) dX10_feels_61 ?_
  refine jx_iastore h lm_18 dX10_feels_62 (fun s7 => ?_)
  exact jx_vret h dX10_feels_63
noncomputable def st_X10_readsAmount_27 (N : Nat) (x1 : Int32)  (rec : Mem → Option (Int32 × Mem))  (s0 : Mem) : Option (Int32 × Mem) :=
  bd (f_X10_isDigit N s0) (fun r6 s5 => if r6 = 0 then (some (1, s5)) else if (gi s5 0 6) = (x1 + 4) then (bd (f_X10_wrongAt N 2 (gi s5 0 6) s5) (fun r12 s11 => ckz r12 (some (r12, s11)))) else bd (f_X10_here N s5) (fun r8 s7 => lt (si s7 0 9 ((((10 : Int32) * (gi s5 0 9)) + r8) - 48)) (fun s9 => lt (si s9 0 6 ((gi s9 0 6) + 1)) (fun s10 => rec s10))))
noncomputable def f_X10_readsAmount (N : Nat)  (s : Mem) : Option (Int32 × Mem) :=
  lt (gi s 0 6) (fun v1 => bd (f_X10_isDigit N s) (fun r3 s2 => if r3 = 0 then (bd (f_X10_wrongAt N 1 (gi s2 0 6) s2) (fun r14 s13 => ckz r14 (some (r14, s13)))) else lt (si s2 0 9 0) (fun s4 => itr (fun _ => none) (st_X10_readsAmount_27 N v1) N  s4)))
set_option maxRecDepth 20000 in
theorem w_X10_readsAmount_27 {G : Gx} (hG : Gok G ∧ IsG G layM fsoM) {P : Option (Int32 × Mem) → Nat → List (Nat × Value) → List Value → Mem → Prop} (h : Jk G layM fsoM RX10 cX10_readsAmount 2 (some .boolean) 2 tvI P) (N : Nat) (x1 : Int32) {rec : Mem → Option (Int32 × Mem)} (ih : ∀  (s : Mem), P (rec  s) 27 [(0, .ref (Ga G 0)), (1, .int x1)] [] s) : ∀  (s : Mem), P (st_X10_readsAmount_27 N x1 rec s) 27 [(0, .ref (Ga G 0)), (1, .int x1)] [] s := by
  intro  s0
  unfold st_X10_readsAmount_27
  refine jx_aload_n h dX10_readsAmount_27 rfl 0 rfl ?_
  refine jx_callVi [] h lm_0 (c_X10_isDigit hG N  s0) ml_X10_177 (Nat.le_of_ble_eq_true rfl) (Nat.le_of_ble_eq_true rfl) dX10_readsAmount_28 (Nat.le_of_ble_eq_true rfl) rfl (fun r6 s5 => ?_)
  refine jx_if_eq (tgt := 86) h dX10_readsAmount_31 rfl ?_ ?_
  · refine jx_iconst h dX10_readsAmount_86 ki_1 ?_
    exact jx_zret h rfl dX10_readsAmount_87
  · refine jx_aload_n h dX10_readsAmount_34 rfl 0 rfl ?_
    refine jx_get (v := .int (gi s5 0 6)) h fa_X10_158 lm_0 dX10_readsAmount_35 rfl ?_
    refine jx_iload_n h dX10_readsAmount_38 rfl 1 rfl ?_
    refine jx_iconst h dX10_readsAmount_39 ki_4 ?_
    refine jx_iadd h dX10_readsAmount_40 ?_
    refine jx_icmp_ne (tgt := 54) h dX10_readsAmount_41 rfl ?_ ?_
    · refine jx_aload_n h dX10_readsAmount_54 rfl 0 rfl ?_
      refine jx_bipush h dX10_readsAmount_55 kb_10 ?_
      refine jx_aload_n h dX10_readsAmount_57 rfl 0 rfl ?_
      refine jx_get (v := .int (gi s5 0 9)) h fa_X10_174 lm_0 dX10_readsAmount_58 rfl ?_
      refine jx_imul h dX10_readsAmount_61 ?_
      refine jx_aload_n h dX10_readsAmount_62 rfl 0 rfl ?_
      refine jx_callVi [.int ((10 : Int32) * (gi s5 0 9)), .ref (Ga G 0)] h lm_0 (c_X10_here hG N  s5) ml_X10_164 (Nat.le_of_ble_eq_true rfl) (Nat.le_of_ble_eq_true rfl) dX10_readsAmount_63 (Nat.le_of_ble_eq_true rfl) rfl (fun r8 s7 => ?_)
      refine jx_iadd h dX10_readsAmount_66 ?_
      refine jx_bipush h dX10_readsAmount_67 kb_48 ?_
      refine jx_isub h dX10_readsAmount_69 ?_
      refine jx_put h fa_X10_174 fp_X10_9 lm_0 rfl rfl dX10_readsAmount_70 (fu_X10_9 _ _ _ _) (fun s9 => ?_)
      refine jx_aload_n h dX10_readsAmount_73 rfl 0 rfl ?_
      refine jx_aload_n h dX10_readsAmount_74 rfl 0 rfl ?_
      refine jx_get (v := .int (gi s9 0 6)) h fa_X10_158 lm_0 dX10_readsAmount_75 rfl ?_
      refine jx_iconst h dX10_readsAmount_78 ki_1 ?_
      refine jx_iadd h dX10_readsAmount_79 ?_
      refine jx_put h fa_X10_158 fp_X10_6 lm_0 rfl rfl dX10_readsAmount_80 (fu_X10_6 _ _ _ _) (fun s10 => ?_)
      refine jx_goto (tgt := 27) h dX10_readsAmount_83 rfl ?_
      exact ih s10
    · refine jx_aload_n h dX10_readsAmount_44 rfl 0 rfl ?_
      refine jx_iconst h dX10_readsAmount_45 ki_2 ?_
      refine jx_aload_n h dX10_readsAmount_46 rfl 0 rfl ?_
      refine jx_get (v := .int (gi s5 0 6)) h fa_X10_158 lm_0 dX10_readsAmount_47 rfl ?_
      refine jx_callVi [] h lm_0 (c_X10_wrongAt hG N 2 (gi s5 0 6) s5) ml_X10_171 (Nat.le_of_ble_eq_true rfl) (Nat.le_of_ble_eq_true rfl) dX10_readsAmount_50 (Nat.le_of_ble_eq_true rfl) rfl (fun r12 s11 => ?_)
      exact jx_zretc h dX10_readsAmount_53
set_option maxRecDepth 20000 in
theorem c_X10_readsAmount {G : Gx} (hG : Gok G ∧ IsG G layM fsoM) (N : Nat)  (s : Mem) : Ct G yX10_readsAmount cX10_readsAmount 2 (some .boolean) 2 [.ref (Ga G 0)] tvI s (f_X10_readsAmount N s) := by
  refine Ct.of hG (by decide) (Nat.le_of_ble_eq_true rfl) (fun P h => ?_)
  show P _ 0 [(0, .ref (Ga G 0))] [] s
  unfold f_X10_readsAmount
  refine jx_aload_n h dX10_readsAmount_0 rfl 0 rfl ?_
  refine jx_get (v := .int (gi s 0 6)) h fa_X10_158 lm_0 dX10_readsAmount_1 rfl ?_
  refine jx_lti (fun v1 => ?_)
  refine jx_istore_n (lv' := [(1, .int v1), (0, .ref (Ga G 0))]) h dX10_readsAmount_4 rfl (Nat.le_of_ble_eq_true rfl) rfl ?_
  refine jx_aload_n h dX10_readsAmount_5 rfl 1 rfl ?_
  refine jx_callVi [] h lm_0 (c_X10_isDigit hG N  s) ml_X10_177 (Nat.le_of_ble_eq_true rfl) (Nat.le_of_ble_eq_true rfl) dX10_readsAmount_6 (Nat.le_of_ble_eq_true rfl) rfl (fun r3 s2 => ?_)
  refine jx_if_ne (tgt := 22) h dX10_readsAmount_9 rfl ?_ ?_
  · refine jx_aload_n h dX10_readsAmount_22 rfl 1 rfl ?_
    refine jx_iconst h dX10_readsAmount_23 ki_0 ?_
    refine jx_put h fa_X10_174 fp_X10_9 lm_0 rfl rfl dX10_readsAmount_24 (fu_X10_9 _ _ _ _) (fun s4 => ?_)
    refine jx_subk [1, 0] h (itr_ind (Q := (fun (f : Mem → Option (Int32 × Mem)) => ∀  (s : Mem), P (f  s) 27 [(0, .ref (Ga G 0)), (1, .int v1)] [] s)) (fun _ => jx_none h) (fun r27 ih27 => ?_) N  s4) rfl
    refine w_X10_readsAmount_27 hG h N v1  ih27
  · refine jx_aload_n h dX10_readsAmount_12 rfl 1 rfl ?_
    refine jx_iconst h dX10_readsAmount_13 ki_1 ?_
    refine jx_aload_n h dX10_readsAmount_14 rfl 1 rfl ?_
    refine jx_get (v := .int (gi s2 0 6)) h fa_X10_158 lm_0 dX10_readsAmount_15 rfl ?_
    refine jx_callVi [] h lm_0 (c_X10_wrongAt hG N 1 (gi s2 0 6) s2) ml_X10_171 (Nat.le_of_ble_eq_true rfl) (Nat.le_of_ble_eq_true rfl) dX10_readsAmount_18 (Nat.le_of_ble_eq_true rfl) rfl (fun r14 s13 => ?_)
    exact jx_zretc h dX10_readsAmount_21
noncomputable def f_X10_readsLine (N : Nat)  (s : Mem) : Option (Int32 × Mem) :=
  bd (f_X10_here N s) (fun r2 s1 => lt (r2 - 65) (fun v3 => bd (f_X10_in N v3 0 5 s1) (fun r5 s4 => if r5 = 0 then (bd (f_X10_wrongAt N 1 (gi s4 0 6) s4) (fun r41 s40 => ckz r41 (some (r41, s40)))) else if (gi s4 0 32) = 20 then (bd (f_X10_wrongAt N 4 (gi s4 0 6) s4) (fun r39 s38 => ckz r39 (some (r39, s38)))) else bd (f_X10_isLetter N v3 s4) (fun r7 s6 => if r7 = 0 then (bd (f_X10_wrongAt N 7 (gi s6 0 6) s6) (fun r37 s36 => ckz r37 (some (r37, s36)))) else lt (si s6 0 6 ((gi s6 0 6) + 1)) (fun s8 => bd (f_X10_here N s8) (fun r10 s9 => lt (r10 - 97) (fun v11 => bd (f_X10_in N v11 0 11 s9) (fun r13 s12 => if r13 = 0 then (bd (f_X10_wrongAt N 1 (gi s12 0 6) s12) (fun r35 s34 => ckz r35 (some (r35, s34)))) else bd (f_X10_isParish N v11 s12) (fun r15 s14 => if r15 = 0 then (bd (f_X10_wrongAt N 7 (gi s14 0 6) s14) (fun r33 s32 => ckz r33 (some (r33, s32)))) else lt (si s14 0 6 ((gi s14 0 6) + 1)) (fun s16 => bd (f_X10_here N s16) (fun r18 s17 => lt (fun  (s19 : Mem) => lt (si s19 0 6 ((gi s19 0 6) + 1)) (fun s20 => lt (si s20 0 9 0) (fun s21 => lt (fun  (s22 : Mem) => chk (gi s22 0 32) 20 (lt (si s22 19 (ix (gi s22 0 32)) v3) (fun s23 => chk (gi s23 0 32) 20 (lt (si s23 20 (ix (gi s23 0 32)) v11) (fun s24 => chk (gi s24 0 32) 20 (lt (si s24 21 (ix (gi s24 0 32)) r18) (fun s25 => chk (gi s25 0 32) 20 (lt (si s25 22 (ix (gi s25 0 32)) (gi s25 0 9)) (fun s26 => lt (si s26 0 32 ((gi s26 0 32) + 1)) (fun s27 => some (1, s27))))))))))) (fun j195 => if r18 = 33 then (j195 s21) else bd (f_X10_readsAmount N s21) (fun r29 s28 => if r29 = 0 then (some (0, s28)) else j195 s28))))) (fun j165 => if r18 = 58 then (j165 s17) else if r18 = 43 then (j165 s17) else if r18 = 33 then (j165 s17) else bd (f_X10_wrongAt N 1 (gi s17 0 6) s17) (fun r31 s30 => ckz r31 (some (r31, s30)))))))))))))))
set_option maxRecDepth 20000 in
theorem c_X10_readsLine {G : Gx} (hG : Gok G ∧ IsG G layM fsoM) (N : Nat)  (s : Mem) : Ct G yX10_readsLine cX10_readsLine 4 (some .boolean) 3 [.ref (Ga G 0)] tvI s (f_X10_readsLine N s) := by
  refine Ct.of hG (by decide) (Nat.le_of_ble_eq_true rfl) (fun P h => ?_)
  show P _ 0 [(0, .ref (Ga G 0))] [] s
  unfold f_X10_readsLine
  refine jx_aload_n h dX10_readsLine_0 rfl 0 rfl ?_
  refine jx_callVi [] h lm_0 (c_X10_here hG N  s) ml_X10_164 (Nat.le_of_ble_eq_true rfl) (Nat.le_of_ble_eq_true rfl) dX10_readsLine_1 (Nat.le_of_ble_eq_true rfl) rfl (fun r2 s1 => ?_)
  refine jx_bipush h dX10_readsLine_4 kb_65 ?_
  refine jx_isub h dX10_readsLine_6 ?_
  refine jx_lti (fun v3 => ?_)
  refine jx_istore_n (lv' := [(1, .int v3), (0, .ref (Ga G 0))]) h dX10_readsLine_7 rfl (Nat.le_of_ble_eq_true rfl) rfl ?_
  refine jx_iload_n h dX10_readsLine_8 rfl 0 rfl ?_
  refine jx_iconst h dX10_readsLine_9 ki_0 ?_
  refine jx_iconst h dX10_readsLine_10 ki_5 ?_
  refine jx_callSi [] h (c_X10_in hG N v3 0 5 s1) ml_X10_134 (Nat.le_of_ble_eq_true rfl) (Nat.le_of_ble_eq_true rfl) dX10_readsLine_11 (Nat.le_of_ble_eq_true rfl) rfl (fun r5 s4 => ?_)
  refine jx_if_ne (tgt := 27) h dX10_readsLine_14 rfl ?_ ?_
  · refine jx_aload_n h dX10_readsLine_27 rfl 1 rfl ?_
    refine jx_get (v := .int (gi s4 0 32)) h fa_X10_261 lm_0 dX10_readsLine_28 rfl ?_
    refine jx_bipush h dX10_readsLine_31 kb_20 ?_
    refine jx_icmp_ne (tgt := 46) h dX10_readsLine_33 rfl ?_ ?_
    · refine jx_aload_n h dX10_readsLine_46 rfl 1 rfl ?_
      refine jx_iload_n h dX10_readsLine_47 rfl 0 rfl ?_
      refine jx_callVi [] h lm_0 (c_X10_isLetter hG N v3 s4) ml_X10_264 (Nat.le_of_ble_eq_true rfl) (Nat.le_of_ble_eq_true rfl) dX10_readsLine_48 (Nat.le_of_ble_eq_true rfl) rfl (fun r7 s6 => ?_)
      refine jx_if_ne (tgt := 65) h dX10_readsLine_51 rfl ?_ ?_
      · refine jx_aload_n h dX10_readsLine_65 rfl 1 rfl ?_
        refine jx_aload_n h dX10_readsLine_66 rfl 1 rfl ?_
        refine jx_get (v := .int (gi s6 0 6)) h fa_X10_158 lm_0 dX10_readsLine_67 rfl ?_
        refine jx_iconst h dX10_readsLine_70 ki_1 ?_
        refine jx_iadd h dX10_readsLine_71 ?_
        refine jx_put h fa_X10_158 fp_X10_6 lm_0 rfl rfl dX10_readsLine_72 (fu_X10_6 _ _ _ _) (fun s8 => ?_)
        refine jx_aload_n h dX10_readsLine_75 rfl 1 rfl ?_
        refine jx_callVi [] h lm_0 (c_X10_here hG N  s8) ml_X10_164 (Nat.le_of_ble_eq_true rfl) (Nat.le_of_ble_eq_true rfl) dX10_readsLine_76 (Nat.le_of_ble_eq_true rfl) rfl (fun r10 s9 => ?_)
        refine jx_bipush h dX10_readsLine_79 kb_97 ?_
        refine jx_isub h dX10_readsLine_81 ?_
        refine jx_lti (fun v11 => ?_)
        refine jx_istore_n (lv' := [(2, .int v11), (1, .int v3), (0, .ref (Ga G 0))]) h dX10_readsLine_82 rfl (Nat.le_of_ble_eq_true rfl) rfl ?_
        refine jx_iload_n h dX10_readsLine_83 rfl 0 rfl ?_
        refine jx_iconst h dX10_readsLine_84 ki_0 ?_
        refine jx_bipush h dX10_readsLine_85 kb_11 ?_
        refine jx_callSi [] h (c_X10_in hG N v11 0 11 s9) ml_X10_134 (Nat.le_of_ble_eq_true rfl) (Nat.le_of_ble_eq_true rfl) dX10_readsLine_87 (Nat.le_of_ble_eq_true rfl) rfl (fun r13 s12 => ?_)
        refine jx_if_ne (tgt := 103) h dX10_readsLine_90 rfl ?_ ?_
        · refine jx_aload_n h dX10_readsLine_103 rfl 2 rfl ?_
          refine jx_iload_n h dX10_readsLine_104 rfl 0 rfl ?_
          refine jx_callVi [] h lm_0 (c_X10_isParish hG N v11 s12) ml_X10_146 (Nat.le_of_ble_eq_true rfl) (Nat.le_of_ble_eq_true rfl) dX10_readsLine_105 (Nat.le_of_ble_eq_true rfl) rfl (fun r15 s14 => ?_)
          refine jx_if_ne (tgt := 122) h dX10_readsLine_108 rfl ?_ ?_
          · refine jx_aload_n h dX10_readsLine_122 rfl 2 rfl ?_
            refine jx_aload_n h dX10_readsLine_123 rfl 2 rfl ?_
            refine jx_get (v := .int (gi s14 0 6)) h fa_X10_158 lm_0 dX10_readsLine_124 rfl ?_
            refine jx_iconst h dX10_readsLine_127 ki_1 ?_
            refine jx_iadd h dX10_readsLine_128 ?_
            refine jx_put h fa_X10_158 fp_X10_6 lm_0 rfl rfl dX10_readsLine_129 (fu_X10_6 _ _ _ _) (fun s16 => ?_)
            refine jx_aload_n h dX10_readsLine_132 rfl 2 rfl ?_
            refine jx_callVi [] h lm_0 (c_X10_here hG N  s16) ml_X10_164 (Nat.le_of_ble_eq_true rfl) (Nat.le_of_ble_eq_true rfl) dX10_readsLine_133 (Nat.le_of_ble_eq_true rfl) rfl (fun r18 s17 => ?_)
            refine jx_istore_n (lv' := [(3, .int r18), (2, .int v11), (1, .int v3), (0, .ref (Ga G 0))]) h dX10_readsLine_136 rfl (Nat.le_of_ble_eq_true rfl) rfl ?_
            refine jx_iload_n h dX10_readsLine_137 rfl 0 rfl ?_
            refine jx_bipush h dX10_readsLine_138 kb_58 ?_
            refine jx_join (fun (j : Mem → Option (Int32 × Mem)) => ∀  (s19 : Mem), P (j  s19) 165 [(0, .ref (Ga G 0)), (1, .int v3), (2, .int v11), (3, .int r18)] [] s19) (fun  s19 => ?_) (fun j165 hj165 => ?_)
            · refine jx_aload_n h dX10_readsLine_165 rfl 0 rfl ?_
              refine jx_aload_n h dX10_readsLine_166 rfl 0 rfl ?_
              refine jx_get (v := .int (gi s19 0 6)) h fa_X10_158 lm_0 dX10_readsLine_167 rfl ?_
              refine jx_iconst h dX10_readsLine_170 ki_1 ?_
              refine jx_iadd h dX10_readsLine_171 ?_
              refine jx_put h fa_X10_158 fp_X10_6 lm_0 rfl rfl dX10_readsLine_172 (fu_X10_6 _ _ _ _) (fun s20 => ?_)
              refine jx_aload_n h dX10_readsLine_175 rfl 0 rfl ?_
              refine jx_iconst h dX10_readsLine_176 ki_0 ?_
              refine jx_put h fa_X10_174 fp_X10_9 lm_0 rfl rfl dX10_readsLine_177 (fu_X10_9 _ _ _ _) (fun s21 => ?_)
              refine jx_iload_n h dX10_readsLine_180 rfl 3 rfl ?_
              refine jx_bipush h dX10_readsLine_181 kb_33 ?_
              refine jx_join (fun (j : Mem → Option (Int32 × Mem)) => ∀  (s22 : Mem), P (j  s22) 195 [(0, .ref (Ga G 0)), (1, .int v3), (2, .int v11), (3, .int r18)] [] s22) (fun  s22 => ?_) (fun j195 hj195 => ?_)
              · refine jx_aload_n h dX10_readsLine_195 rfl 0 rfl ?_
                refine jx_get (v := .ref (Ga G 19)) h fa_X10_65 lm_0 dX10_readsLine_196 rfl ?_
                refine jx_aload_n h dX10_readsLine_199 rfl 0 rfl ?_
                refine jx_get (v := .int (gi s22 0 32)) h fa_X10_261 lm_0 dX10_readsLine_200 rfl ?_
                refine jx_iload_n h dX10_readsLine_203 rfl 1 rfl ?_
                refine jx_iastore h lm_19 dX10_readsLine_204 (fun s23 => ?_)
                refine jx_aload_n h dX10_readsLine_205 rfl 0 rfl ?_
                refine jx_get (v := .ref (Ga G 20)) h fa_X10_68 lm_0 dX10_readsLine_206 rfl ?_
                refine jx_aload_n h dX10_readsLine_209 rfl 0 rfl ?_
                refine jx_get (v := .int (gi s23 0 32)) h fa_X10_261 lm_0 dX10_readsLine_210 rfl ?_
                refine jx_iload_n h dX10_readsLine_213 rfl 2 rfl ?_
                refine jx_iastore h lm_20 dX10_readsLine_214 (fun s24 => ?_)
                refine jx_aload_n h dX10_readsLine_215 rfl 0 rfl ?_
                refine jx_get (v := .ref (Ga G 21)) h fa_X10_71 lm_0 dX10_readsLine_216 rfl ?_
                refine jx_aload_n h dX10_readsLine_219 rfl 0 rfl ?_
                refine jx_get (v := .int (gi s24 0 32)) h fa_X10_261 lm_0 dX10_readsLine_220 rfl ?_
                refine jx_iload_n h dX10_readsLine_223 rfl 3 rfl ?_
                refine jx_iastore h lm_21 dX10_readsLine_224 (fun s25 => ?_)
                refine jx_aload_n h dX10_readsLine_225 rfl 0 rfl ?_
                refine jx_get (v := .ref (Ga G 22)) h fa_X10_74 lm_0 dX10_readsLine_226 rfl ?_
                refine jx_aload_n h dX10_readsLine_229 rfl 0 rfl ?_
                refine jx_get (v := .int (gi s25 0 32)) h fa_X10_261 lm_0 dX10_readsLine_230 rfl ?_
                refine jx_aload_n h dX10_readsLine_233 rfl 0 rfl ?_
                refine jx_get (v := .int (gi s25 0 9)) h fa_X10_174 lm_0 dX10_readsLine_234 rfl ?_
                refine jx_iastore h lm_22 dX10_readsLine_237 (fun s26 => ?_)
                refine jx_aload_n h dX10_readsLine_238 rfl 0 rfl ?_
                refine jx_aload_n h dX10_readsLine_239 rfl 0 rfl ?_
                refine jx_get (v := .int (gi s26 0 32)) h fa_X10_261 lm_0 dX10_readsLine_240 rfl ?_
                refine jx_iconst h dX10_readsLine_243 ki_1 ?_
                refine jx_iadd h dX10_readsLine_244 ?_
                refine jx_put h fa_X10_261 fp_X10_32 lm_0 rfl rfl dX10_readsLine_245 (fu_X10_32 _ _ _ _) (fun s27 => ?_)
                refine jx_iconst h dX10_readsLine_248 ki_1 ?_
                exact jx_zret h rfl dX10_readsLine_249
              · refine jx_icmp_eq (tgt := 195) h dX10_readsLine_183 rfl ?_ ?_
                · exact hj195 s21
                · refine jx_aload_n h dX10_readsLine_186 rfl 0 rfl ?_
                  refine jx_callVi [] h lm_0 (c_X10_readsAmount hG N  s21) ml_X10_267 (Nat.le_of_ble_eq_true rfl) (Nat.le_of_ble_eq_true rfl) dX10_readsLine_187 (Nat.le_of_ble_eq_true rfl) rfl (fun r29 s28 => ?_)
                  refine jx_if_ne (tgt := 195) h dX10_readsLine_190 rfl ?_ ?_
                  · exact hj195 s28
                  · refine jx_iconst h dX10_readsLine_193 ki_0 ?_
                    exact jx_zret h rfl dX10_readsLine_194
            · refine jx_icmp_eq (tgt := 165) h dX10_readsLine_140 rfl ?_ ?_
              · exact jx_subk [3, 2, 1, 0] h (hj165 s17) rfl
              · refine jx_iload_n h dX10_readsLine_143 rfl 0 rfl ?_
                refine jx_bipush h dX10_readsLine_144 kb_43 ?_
                refine jx_icmp_eq (tgt := 165) h dX10_readsLine_146 rfl ?_ ?_
                · exact jx_subk [3, 2, 1, 0] h (hj165 s17) rfl
                · refine jx_iload_n h dX10_readsLine_149 rfl 0 rfl ?_
                  refine jx_bipush h dX10_readsLine_150 kb_33 ?_
                  refine jx_icmp_eq (tgt := 165) h dX10_readsLine_152 rfl ?_ ?_
                  · exact jx_subk [3, 2, 1, 0] h (hj165 s17) rfl
                  · refine jx_aload_n h dX10_readsLine_155 rfl 3 rfl ?_
                    refine jx_iconst h dX10_readsLine_156 ki_1 ?_
                    refine jx_aload_n h dX10_readsLine_157 rfl 3 rfl ?_
                    refine jx_get (v := .int (gi s17 0 6)) h fa_X10_158 lm_0 dX10_readsLine_158 rfl ?_
                    refine jx_callVi [] h lm_0 (c_X10_wrongAt hG N 1 (gi s17 0 6) s17) ml_X10_171 (Nat.le_of_ble_eq_true rfl) (Nat.le_of_ble_eq_true rfl) dX10_readsLine_161 (Nat.le_of_ble_eq_true rfl) rfl (fun r31 s30 => ?_)
                    exact jx_zretc h dX10_readsLine_164
          · refine jx_aload_n h dX10_readsLine_111 rfl 2 rfl ?_
            refine jx_bipush h dX10_readsLine_112 kb_7 ?_
            refine jx_aload_n h dX10_readsLine_114 rfl 2 rfl ?_
            refine jx_get (v := .int (gi s14 0 6)) h fa_X10_158 lm_0 dX10_readsLine_115 rfl ?_
            refine jx_callVi [] h lm_0 (c_X10_wrongAt hG N 7 (gi s14 0 6) s14) ml_X10_171 (Nat.le_of_ble_eq_true rfl) (Nat.le_of_ble_eq_true rfl) dX10_readsLine_118 (Nat.le_of_ble_eq_true rfl) rfl (fun r33 s32 => ?_)
            exact jx_zretc h dX10_readsLine_121
        · refine jx_aload_n h dX10_readsLine_93 rfl 2 rfl ?_
          refine jx_iconst h dX10_readsLine_94 ki_1 ?_
          refine jx_aload_n h dX10_readsLine_95 rfl 2 rfl ?_
          refine jx_get (v := .int (gi s12 0 6)) h fa_X10_158 lm_0 dX10_readsLine_96 rfl ?_
          refine jx_callVi [] h lm_0 (c_X10_wrongAt hG N 1 (gi s12 0 6) s12) ml_X10_171 (Nat.le_of_ble_eq_true rfl) (Nat.le_of_ble_eq_true rfl) dX10_readsLine_99 (Nat.le_of_ble_eq_true rfl) rfl (fun r35 s34 => ?_)
          exact jx_zretc h dX10_readsLine_102
      · refine jx_aload_n h dX10_readsLine_54 rfl 1 rfl ?_
        refine jx_bipush h dX10_readsLine_55 kb_7 ?_
        refine jx_aload_n h dX10_readsLine_57 rfl 1 rfl ?_
        refine jx_get (v := .int (gi s6 0 6)) h fa_X10_158 lm_0 dX10_readsLine_58 rfl ?_
        refine jx_callVi [] h lm_0 (c_X10_wrongAt hG N 7 (gi s6 0 6) s6) ml_X10_171 (Nat.le_of_ble_eq_true rfl) (Nat.le_of_ble_eq_true rfl) dX10_readsLine_61 (Nat.le_of_ble_eq_true rfl) rfl (fun r37 s36 => ?_)
        exact jx_zretc h dX10_readsLine_64
    · refine jx_aload_n h dX10_readsLine_36 rfl 1 rfl ?_
      refine jx_iconst h dX10_readsLine_37 ki_4 ?_
      refine jx_aload_n h dX10_readsLine_38 rfl 1 rfl ?_
      refine jx_get (v := .int (gi s4 0 6)) h fa_X10_158 lm_0 dX10_readsLine_39 rfl ?_
      refine jx_callVi [] h lm_0 (c_X10_wrongAt hG N 4 (gi s4 0 6) s4) ml_X10_171 (Nat.le_of_ble_eq_true rfl) (Nat.le_of_ble_eq_true rfl) dX10_readsLine_42 (Nat.le_of_ble_eq_true rfl) rfl (fun r39 s38 => ?_)
      exact jx_zretc h dX10_readsLine_45
  · refine jx_aload_n h dX10_readsLine_17 rfl 1 rfl ?_
    refine jx_iconst h dX10_readsLine_18 ki_1 ?_
    refine jx_aload_n h dX10_readsLine_19 rfl 1 rfl ?_
    refine jx_get (v := .int (gi s4 0 6)) h fa_X10_158 lm_0 dX10_readsLine_20 rfl ?_
    refine jx_callVi [] h lm_0 (c_X10_wrongAt hG N 1 (gi s4 0 6) s4) ml_X10_171 (Nat.le_of_ble_eq_true rfl) (Nat.le_of_ble_eq_true rfl) dX10_readsLine_23 (Nat.le_of_ble_eq_true rfl) rfl (fun r41 s40 => ?_)
    exact jx_zretc h dX10_readsLine_26
noncomputable def f_X10_gives (N : Nat) (x1 : Int32) (x2 : Int32) (x3 : Int32) (s : Mem) : Option (Unit × Mem) :=
  lt ((((2 : Int32) * x3) + 2) / 3) (fun v1 => chk ((138 : Int32) + x1) 151 (bd (f_X10_min N 999999 ((gi s 1 (ix ((138 : Int32) + x1))) + v1) s) (fun r3 s2 => chk ((138 : Int32) + x1) 151 (lt (si s2 1 (ix ((138 : Int32) + x1)) r3) (fun s4 => chk 149 151 (bd (f_X10_min N 999999 (((gi s4 1 (ix (149 : Int32))) + x3) - v1) s4) (fun r6 s5 => chk 149 151 (lt (si s5 1 (ix (149 : Int32)) r6) (fun s7 => chk ((84 : Int32) + x1) 151 (chk ((84 : Int32) + x1) 151 (lt (si s7 1 (ix ((84 : Int32) + x1)) ((gi s7 1 (ix ((84 : Int32) + x1))) ||| ((1 : Int32) <<< (x2 &&& 31)))) (fun s8 => some ((), s8)))))))))))))
set_option maxRecDepth 20000 in
theorem c_X10_gives {G : Gx} (hG : Gok G ∧ IsG G layM fsoM) (N : Nat) (x1 : Int32) (x2 : Int32) (x3 : Int32) (s : Mem) : Ct G yX10_gives cX10_gives 5 none 1 [.ref (Ga G 0), .int x1, .int x2, .int x3] tvV s (f_X10_gives N x1 x2 x3 s) := by
  refine Ct.of hG (by decide) (Nat.le_of_ble_eq_true rfl) (fun P h => ?_)
  show P _ 0 [(0, .ref (Ga G 0)), (1, .int x1), (2, .int x2), (3, .int x3)] [] s
  unfold f_X10_gives
  refine jx_iconst h dX10_gives_0 ki_2 ?_
  refine jx_iload_n h dX10_gives_1 rfl 3 rfl ?_
  refine jx_imul h dX10_gives_2 ?_
  refine jx_iconst h dX10_gives_3 ki_2 ?_
  refine jx_iadd h dX10_gives_4 ?_
  refine jx_iconst h dX10_gives_5 ki_3 ?_
  refine jx_idivc h (by decide) dX10_gives_6 ?_
  refine jx_lti (fun v1 => ?_)
  refine jx_istore (lv' := [(4, .int v1), (0, .ref (Ga G 0)), (1, .int x1), (2, .int x2), (3, .int x3)]) h dX10_gives_7 (Nat.le_of_ble_eq_true rfl) rfl ?_
  refine jx_aload_n h dX10_gives_9 rfl 1 rfl ?_
  refine jx_get (v := .ref (Ga G 1)) h fa_X10_7 lm_0 dX10_gives_10 rfl ?_
  refine jx_sipush h dX10_gives_13 ks_138 ?_
  refine jx_iload_n h dX10_gives_16 rfl 2 rfl ?_
  refine jx_iadd h dX10_gives_17 ?_
  refine jx_ldcw h dX10_gives_18 kw_X10_270 ?_
  refine jx_aload_n h dX10_gives_21 rfl 1 rfl ?_
  refine jx_get (v := .ref (Ga G 1)) h fa_X10_7 lm_0 dX10_gives_22 rfl ?_
  refine jx_sipush h dX10_gives_25 ks_138 ?_
  refine jx_iload_n h dX10_gives_28 rfl 2 rfl ?_
  refine jx_iadd h dX10_gives_29 ?_
  refine jx_iaload h lm_1 dX10_gives_30 ?_
  refine jx_iload h dX10_gives_31 0 rfl ?_
  refine jx_iadd h dX10_gives_33 ?_
  refine jx_callSi [.int ((138 : Int32) + x1), .ref (Ga G 1)] h (c_X10_min hG N 999999 ((gi s 1 (ix ((138 : Int32) + x1))) + v1) s) ml_X10_271 (Nat.le_of_ble_eq_true rfl) (Nat.le_of_ble_eq_true rfl) dX10_gives_34 (Nat.le_of_ble_eq_true rfl) rfl (fun r3 s2 => ?_)
  refine jx_iastore h lm_1 dX10_gives_37 (fun s4 => ?_)
  refine jx_aload_n h dX10_gives_38 rfl 1 rfl ?_
  refine jx_get (v := .ref (Ga G 1)) h fa_X10_7 lm_0 dX10_gives_39 rfl ?_
  refine jx_sipush h dX10_gives_42 ks_149 ?_
  refine jx_ldcw h dX10_gives_45 kw_X10_270 ?_
  refine jx_aload_n h dX10_gives_48 rfl 1 rfl ?_
  refine jx_get (v := .ref (Ga G 1)) h fa_X10_7 lm_0 dX10_gives_49 rfl ?_
  refine jx_sipush h dX10_gives_52 ks_149 ?_
  refine jx_iaload h lm_1 dX10_gives_55 ?_
  refine jx_iload_n h dX10_gives_56 rfl 4 rfl ?_
  refine jx_iadd h dX10_gives_57 ?_
  refine jx_iload h dX10_gives_58 0 rfl ?_
  refine jx_isub h dX10_gives_60 ?_
  refine jx_callSi [.int 149, .ref (Ga G 1)] h (c_X10_min hG N 999999 (((gi s4 1 (ix (149 : Int32))) + x3) - v1) s4) ml_X10_271 (Nat.le_of_ble_eq_true rfl) (Nat.le_of_ble_eq_true rfl) dX10_gives_61 (Nat.le_of_ble_eq_true rfl) rfl (fun r6 s5 => ?_)
  refine jx_iastore h lm_1 dX10_gives_64 (fun s7 => ?_)
  refine jx_aload_n h dX10_gives_65 rfl 1 rfl ?_
  refine jx_get (v := .ref (Ga G 1)) h fa_X10_7 lm_0 dX10_gives_66 rfl ?_
  refine jx_bipush h dX10_gives_69 kb_84 ?_
  refine jx_iload_n h dX10_gives_71 rfl 2 rfl ?_
  refine jx_iadd h dX10_gives_72 ?_
  refine jx_aload_n h dX10_gives_73 rfl 1 rfl ?_
  refine jx_get (v := .ref (Ga G 1)) h fa_X10_7 lm_0 dX10_gives_74 rfl ?_
  refine jx_bipush h dX10_gives_77 kb_84 ?_
  refine jx_iload_n h dX10_gives_79 rfl 2 rfl ?_
  refine jx_iadd h dX10_gives_80 ?_
  refine jx_iaload h lm_1 dX10_gives_81 ?_
  refine jx_iconst h dX10_gives_82 ki_1 ?_
  refine jx_iload_n h dX10_gives_83 rfl 3 rfl ?_
  refine jx_ishl h dX10_gives_84 ?_
  refine jx_ior h dX10_gives_85 ?_
  refine jx_iastore h lm_1 dX10_gives_86 (fun s8 => ?_)
  exact jx_vret h dX10_gives_87
noncomputable def f_X10_doesLine (N : Nat) (x1 : Int32) (s : Mem) : Option (Unit × Mem) :=
  chk x1 20 (lt (gi s 19 (ix x1)) (fun v1 => chk x1 20 (lt (gi s 20 (ix x1)) (fun v2 => chk x1 20 (if (gi s 21 (ix x1)) = 58 then (bd (f_X10_known N v1 v2 s) (fun r10 s9 => chk x1 20 (chk r10 151 (lt (si s9 1 (ix r10) (gi s9 22 (ix x1))) (fun s11 => some ((), s11)))))) else chk x1 20 (if (gi s 21 (ix x1)) = 43 then (chk x1 20 (bd (f_X10_gives N v1 v2 (gi s 22 (ix x1)) s) (fun _ s7 => some ((), s7)))) else bd (f_X10_known N v1 v2 s) (fun r4 s3 => chk r4 151 (lt (si s3 1 (ix r4) (-1)) (fun s5 => chk ((84 : Int32) + v1) 151 (chk ((84 : Int32) + v1) 151 (lt (si s5 1 (ix ((84 : Int32) + v1)) ((gi s5 1 (ix ((84 : Int32) + v1))) &&& (((1 : Int32) <<< (v2 &&& 31)) ^^^ (-1)))) (fun s6 => some ((), s6)))))))))))))
set_option maxRecDepth 20000 in
theorem c_X10_doesLine {G : Gx} (hG : Gok G ∧ IsG G layM fsoM) (N : Nat) (x1 : Int32) (s : Mem) : Ct G yX10_doesLine cX10_doesLine 4 none 2 [.ref (Ga G 0), .int x1] tvV s (f_X10_doesLine N x1 s) := by
  refine Ct.of hG (by decide) (Nat.le_of_ble_eq_true rfl) (fun P h => ?_)
  show P _ 0 [(0, .ref (Ga G 0)), (1, .int x1)] [] s
  unfold f_X10_doesLine
  refine jx_aload_n h dX10_doesLine_0 rfl 0 rfl ?_
  refine jx_get (v := .ref (Ga G 19)) h fa_X10_65 lm_0 dX10_doesLine_1 rfl ?_
  refine jx_iload_n h dX10_doesLine_4 rfl 1 rfl ?_
  refine jx_iaload h lm_19 dX10_doesLine_5 ?_
  refine jx_lti (fun v1 => ?_)
  refine jx_istore_n (lv' := [(2, .int v1), (0, .ref (Ga G 0)), (1, .int x1)]) h dX10_doesLine_6 rfl (Nat.le_of_ble_eq_true rfl) rfl ?_
  refine jx_aload_n h dX10_doesLine_7 rfl 1 rfl ?_
  refine jx_get (v := .ref (Ga G 20)) h fa_X10_68 lm_0 dX10_doesLine_8 rfl ?_
  refine jx_iload_n h dX10_doesLine_11 rfl 2 rfl ?_
  refine jx_iaload h lm_20 dX10_doesLine_12 ?_
  refine jx_lti (fun v2 => ?_)
  refine jx_istore_n (lv' := [(3, .int v2), (2, .int v1), (0, .ref (Ga G 0)), (1, .int x1)]) h dX10_doesLine_13 rfl (Nat.le_of_ble_eq_true rfl) rfl ?_
  refine jx_aload_n h dX10_doesLine_14 rfl 2 rfl ?_
  refine jx_get (v := .ref (Ga G 21)) h fa_X10_71 lm_0 dX10_doesLine_15 rfl ?_
  refine jx_iload_n h dX10_doesLine_18 rfl 3 rfl ?_
  refine jx_iaload h lm_21 dX10_doesLine_19 ?_
  refine jx_bipush h dX10_doesLine_20 kb_58 ?_
  refine jx_icmp_ne (tgt := 44) h dX10_doesLine_22 rfl ?_ ?_
  · refine jx_aload_n h dX10_doesLine_44 rfl 2 rfl ?_
    refine jx_get (v := .ref (Ga G 21)) h fa_X10_71 lm_0 dX10_doesLine_45 rfl ?_
    refine jx_iload_n h dX10_doesLine_48 rfl 3 rfl ?_
    refine jx_iaload h lm_21 dX10_doesLine_49 ?_
    refine jx_bipush h dX10_doesLine_50 kb_43 ?_
    refine jx_icmp_ne (tgt := 70) h dX10_doesLine_52 rfl ?_ ?_
    · refine jx_aload_n h dX10_doesLine_70 rfl 2 rfl ?_
      refine jx_get (v := .ref (Ga G 1)) h fa_X10_7 lm_0 dX10_doesLine_71 rfl ?_
      refine jx_iload_n h dX10_doesLine_74 rfl 1 rfl ?_
      refine jx_iload_n h dX10_doesLine_75 rfl 0 rfl ?_
      refine jx_callSi [.ref (Ga G 1)] h (c_X10_known hG N v1 v2 s) ml_X10_142 (Nat.le_of_ble_eq_true rfl) (Nat.le_of_ble_eq_true rfl) dX10_doesLine_76 (Nat.le_of_ble_eq_true rfl) rfl (fun r4 s3 => ?_)
      refine jx_iconst h dX10_doesLine_79 ki_m1 ?_
      refine jx_iastore h lm_1 dX10_doesLine_80 (fun s5 => ?_)
      refine jx_aload_n h dX10_doesLine_81 rfl 2 rfl ?_
      refine jx_get (v := .ref (Ga G 1)) h fa_X10_7 lm_0 dX10_doesLine_82 rfl ?_
      refine jx_bipush h dX10_doesLine_85 kb_84 ?_
      refine jx_iload_n h dX10_doesLine_87 rfl 1 rfl ?_
      refine jx_iadd h dX10_doesLine_88 ?_
      refine jx_aload_n h dX10_doesLine_89 rfl 2 rfl ?_
      refine jx_get (v := .ref (Ga G 1)) h fa_X10_7 lm_0 dX10_doesLine_90 rfl ?_
      refine jx_bipush h dX10_doesLine_93 kb_84 ?_
      refine jx_iload_n h dX10_doesLine_95 rfl 1 rfl ?_
      refine jx_iadd h dX10_doesLine_96 ?_
      refine jx_iaload h lm_1 dX10_doesLine_97 ?_
      refine jx_iconst h dX10_doesLine_98 ki_1 ?_
      refine jx_iload_n h dX10_doesLine_99 rfl 0 rfl ?_
      refine jx_ishl h dX10_doesLine_100 ?_
      refine jx_iconst h dX10_doesLine_101 ki_m1 ?_
      refine jx_ixor h dX10_doesLine_102 ?_
      refine jx_iand h dX10_doesLine_103 ?_
      refine jx_iastore h lm_1 dX10_doesLine_104 (fun s6 => ?_)
      exact jx_vret h dX10_doesLine_105
    · refine jx_aload_n h dX10_doesLine_55 rfl 2 rfl ?_
      refine jx_iload_n h dX10_doesLine_56 rfl 1 rfl ?_
      refine jx_iload_n h dX10_doesLine_57 rfl 0 rfl ?_
      refine jx_aload_n h dX10_doesLine_58 rfl 2 rfl ?_
      refine jx_get (v := .ref (Ga G 22)) h fa_X10_74 lm_0 dX10_doesLine_59 rfl ?_
      refine jx_iload_n h dX10_doesLine_62 rfl 3 rfl ?_
      refine jx_iaload h lm_22 dX10_doesLine_63 ?_
      refine jx_callVv [] h lm_0 (c_X10_gives hG N v1 v2 (gi s 22 (ix x1)) s) ml_X10_274 (Nat.le_of_ble_eq_true rfl) (Nat.le_of_ble_eq_true rfl) dX10_doesLine_64 (Nat.le_of_ble_eq_true rfl) rfl (fun s7 => ?_)
      refine jx_goto (tgt := 105) h dX10_doesLine_67 rfl ?_
      exact jx_vret h dX10_doesLine_105
  · refine jx_aload_n h dX10_doesLine_25 rfl 2 rfl ?_
    refine jx_get (v := .ref (Ga G 1)) h fa_X10_7 lm_0 dX10_doesLine_26 rfl ?_
    refine jx_iload_n h dX10_doesLine_29 rfl 1 rfl ?_
    refine jx_iload_n h dX10_doesLine_30 rfl 0 rfl ?_
    refine jx_callSi [.ref (Ga G 1)] h (c_X10_known hG N v1 v2 s) ml_X10_142 (Nat.le_of_ble_eq_true rfl) (Nat.le_of_ble_eq_true rfl) dX10_doesLine_31 (Nat.le_of_ble_eq_true rfl) rfl (fun r10 s9 => ?_)
    refine jx_aload_n h dX10_doesLine_34 rfl 2 rfl ?_
    refine jx_get (v := .ref (Ga G 22)) h fa_X10_74 lm_0 dX10_doesLine_35 rfl ?_
    refine jx_iload_n h dX10_doesLine_38 rfl 3 rfl ?_
    refine jx_iaload h lm_22 dX10_doesLine_39 ?_
    refine jx_iastore h lm_1 dX10_doesLine_40 (fun s11 => ?_)
    refine jx_goto (tgt := 105) h dX10_doesLine_41 rfl ?_
    exact jx_vret h dX10_doesLine_105
