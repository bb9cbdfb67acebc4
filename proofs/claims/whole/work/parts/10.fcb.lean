noncomputable def st_X2_spread_3 (N : Nat) (x1 : Int32) (x2 : Nat) (x4 : Nat) (k43 : Mem → Option (Unit × Mem)) (rec : Int32 → Mem → Option (Unit × Mem)) (x5 : Int32) (s0 : Mem) : Option (Unit × Mem) :=
  if 12 ≤ x5 then (k43 s0) else chk x1 6 (bd (f_X9_hasBit N (gi s0 (x2 + 5) (ix x1)) x5 s0) (fun r2 s1 => if r2 = 0 then (chk x5 12 (lt (si s1 102 (ix x5) (-2)) (fun s3 => lt (x5 + 1) (fun x5_4 => rec x5_4 s3)))) else chk x5 12 (lt (si s1 102 (ix x5) 0) (fun s5 => lt (x5 + 1) (fun x5_6 => rec x5_6 s5)))))
noncomputable def st_X2_spread_113 (N : Nat) (x1 : Int32) (x2 : Nat) (x4 : Nat) (x5 : Int32) (x6 : Int32) (x7 : Int32) (k154 : Mem → Option (Unit × Mem)) (rec : Int32 → Mem → Option (Unit × Mem)) (x8 : Int32) (s0 : Mem) : Option (Unit × Mem) :=
  if 12 ≤ x8 then (k154 s0) else chk x1 6 (bd (f_X9_hasBit N ((gi s0 (x2 + 5) (ix x1)) &&& (x7 ^^^ (-1))) x8 s0) (fun r15 s14 => if r15 = 0 then (lt (x8 + 1) (fun x8_16 => rec x8_16 s14)) else chk x8 12 (lt (si s14 102 (ix x8) x6) (fun s17 => lt (x8 + 1) (fun x8_18 => rec x8_18 s17)))))
noncomputable def st_X2_spread_49 (N : Nat) (x1 : Int32) (x2 : Nat) (x4 : Nat)  (rec : Int32 → Int32 → Mem → Option (Unit × Mem)) (x5 : Int32) (x6 : Int32) (s0 : Mem) : Option (Unit × Mem) :=
  if 100 < x6 then (some ((), s0)) else if 12 ≤ x5 then (some ((), s0)) else chk x1 6 (lt (gi s0 (x2 + 5) (ix x1)) (fun v8 => bd (f_X0_spread N x2 x1 x4 s0) (fun _ s9 => lt (si s9 x2 11 ((gi s9 x2 11) + 1)) (fun s11 => chk x1 6 (lt (fun (t13 : Int32) (s12 : Mem) => itr (fun _ _ => none) (st_X2_spread_113 N x1 x2 x4 t13 x6 v8 (fun  (s19 : Mem) => lt (x6 + 1) (fun x6_20 => rec t13 x6_20 s19))) N 0 s12) (fun j108 => if (gi s11 (x2 + 5) (ix x1)) = v8 then (j108 (x5 + 1) s11) else j108 0 s11))))))
noncomputable def f_X2_spread (N : Nat) (x1 : Int32) (x2 : Nat) (x4 : Nat) (s : Mem) : Option (Unit × Mem) :=
  itr (fun _ _ => none) (st_X2_spread_3 N x1 x2 x4 (fun  (s7 : Mem) => itr (fun _ _ _ => none) (st_X2_spread_49 N x1 x2 x4) N 0 1 s7)) N 0 s
set_option maxRecDepth 20000 in
theorem w_X2_spread_3 {G : Gx} (hG : Gok G ∧ IsG G layC fsoC) {P : Option (Unit × Mem) → Nat → List (Nat × Value) → List Value → Mem → Prop} (h : Jk G layC fsoC RX2 cX2_spread 9 none 5 tvV P) (N : Nat) (x1 : Int32) (x2 : Nat) (x4 : Nat) (hx2 : isBk x2 = true) (hx4 : isLw x4 = true) {k43 : Mem → Option (Unit × Mem)} (hk43 : ∀  (s : Mem), P (k43 s) 43 [(0, .ref (Ga G 101)), (1, .int x1), (2, .ref (Ga G x2)), (3, .ref (Ga G 3)), (4, .ref (Ga G x4))] [] s) {rec : Int32 → Mem → Option (Unit × Mem)} (ih : ∀ (x5 : Int32) (s : Mem), P (rec x5 s) 3 [(0, .ref (Ga G 101)), (1, .int x1), (2, .ref (Ga G x2)), (3, .ref (Ga G 3)), (4, .ref (Ga G x4)), (5, .int x5)] [] s) : ∀ (x5 : Int32) (s : Mem), P (st_X2_spread_3 N x1 x2 x4 k43 rec x5 s) 3 [(0, .ref (Ga G 101)), (1, .int x1), (2, .ref (Ga G x2)), (3, .ref (Ga G 3)), (4, .ref (Ga G x4)), (5, .int x5)] [] s := by
  intro x5 s0
  unfold st_X2_spread_3
  refine jx_iload h dX2_spread_3 5 rfl ?_
  refine jx_bipush h dX2_spread_5 kb_12 ?_
  refine jx_icmp_ge (tgt := 43) h dX2_spread_7 rfl ?_ ?_
  · exact jx_subk [0, 1, 2, 3, 4] h (hk43 s0) rfl
  · refine jx_aload_n h dX2_spread_10 rfl 0 rfl ?_
    refine jx_get (v := .ref (Ga G 102)) h fa_X2_9 lc_101 dX2_spread_11 rfl ?_
    refine jx_iload h dX2_spread_14 5 rfl ?_
    refine jx_aload_n h dX2_spread_16 rfl 2 rfl ?_
    refine jx_get (v := .ref (Ga G (x2 + 5))) h fa_X2_23 (isBk_o hx2) dX2_spread_17 rfl ?_
    refine jx_iload_n h dX2_spread_20 rfl 1 rfl ?_
    refine jx_iaload h (isBk_5 hx2) dX2_spread_21 ?_
    refine jx_iload h dX2_spread_22 5 rfl ?_
    refine jx_callSi [.int x5, .ref (Ga G 102)] h (c_X9_hasBit hG N (gi s0 (x2 + 5) (ix x1)) x5 s0) ml_X2_28 (Nat.le_of_ble_eq_true rfl) (Nat.le_of_ble_eq_true rfl) dX2_spread_24 (Nat.le_of_ble_eq_true rfl) rfl (fun r2 s1 => ?_)
    refine jx_if_eq (tgt := 34) h dX2_spread_27 rfl ?_ ?_
    · refine jx_bipush h dX2_spread_34 kb_m2 ?_
      refine jx_iastore h lc_102 dX2_spread_36 (fun s3 => ?_)
      refine jx_iincl (L := fun w => [(5, .int w), (0, .ref (Ga G 101)), (1, .int x1), (2, .ref (Ga G x2)), (3, .ref (Ga G 3)), (4, .ref (Ga G x4))]) h dX2_spread_37 5 rfl (kn_1 _) (Nat.le_of_ble_eq_true rfl) (fun _ => rfl) (fun x5_4 => ?_)
      refine jx_goto (tgt := 3) h dX2_spread_40 rfl ?_
      exact jx_subk [1, 2, 3, 4, 5, 0] h (ih x5_4 s3) rfl
    · refine jx_iconst h dX2_spread_30 ki_0 ?_
      refine jx_goto (tgt := 36) h dX2_spread_31 rfl ?_
      refine jx_iastore h lc_102 dX2_spread_36 (fun s5 => ?_)
      refine jx_iincl (L := fun w => [(5, .int w), (0, .ref (Ga G 101)), (1, .int x1), (2, .ref (Ga G x2)), (3, .ref (Ga G 3)), (4, .ref (Ga G x4))]) h dX2_spread_37 5 rfl (kn_1 _) (Nat.le_of_ble_eq_true rfl) (fun _ => rfl) (fun x5_6 => ?_)
      refine jx_goto (tgt := 3) h dX2_spread_40 rfl ?_
      exact jx_subk [1, 2, 3, 4, 5, 0] h (ih x5_6 s5) rfl
set_option maxRecDepth 20000 in
theorem w_X2_spread_113 {G : Gx} (hG : Gok G ∧ IsG G layC fsoC) {P : Option (Unit × Mem) → Nat → List (Nat × Value) → List Value → Mem → Prop} (h : Jk G layC fsoC RX2 cX2_spread 9 none 5 tvV P) (N : Nat) (x1 : Int32) (x2 : Nat) (x4 : Nat) (x5 : Int32) (x6 : Int32) (x7 : Int32) (hx2 : isBk x2 = true) (hx4 : isLw x4 = true) {k154 : Mem → Option (Unit × Mem)} (hk154 : ∀  (s : Mem), P (k154 s) 154 [(0, .ref (Ga G 101)), (1, .int x1), (2, .ref (Ga G x2)), (3, .ref (Ga G 3)), (4, .ref (Ga G x4)), (5, .int x5), (6, .int x6)] [] s) {rec : Int32 → Mem → Option (Unit × Mem)} (ih : ∀ (x8 : Int32) (s : Mem), P (rec x8 s) 113 [(0, .ref (Ga G 101)), (1, .int x1), (2, .ref (Ga G x2)), (3, .ref (Ga G 3)), (4, .ref (Ga G x4)), (5, .int x5), (6, .int x6), (7, .int x7), (8, .int x8)] [] s) : ∀ (x8 : Int32) (s : Mem), P (st_X2_spread_113 N x1 x2 x4 x5 x6 x7 k154 rec x8 s) 113 [(0, .ref (Ga G 101)), (1, .int x1), (2, .ref (Ga G x2)), (3, .ref (Ga G 3)), (4, .ref (Ga G x4)), (5, .int x5), (6, .int x6), (7, .int x7), (8, .int x8)] [] s := by
  intro x8 s0
  unfold st_X2_spread_113
  refine jx_iload h dX2_spread_113 8 rfl ?_
  refine jx_bipush h dX2_spread_115 kb_12 ?_
  refine jx_icmp_ge (tgt := 154) h dX2_spread_117 rfl ?_ ?_
  · exact jx_subk [0, 1, 2, 3, 4, 5, 6] h (hk154 s0) rfl
  · refine jx_aload_n h dX2_spread_120 rfl 2 rfl ?_
    refine jx_get (v := .ref (Ga G (x2 + 5))) h fa_X2_23 (isBk_o hx2) dX2_spread_121 rfl ?_
    refine jx_iload_n h dX2_spread_124 rfl 1 rfl ?_
    refine jx_iaload h (isBk_5 hx2) dX2_spread_125 ?_
    refine jx_iload h dX2_spread_126 7 rfl ?_
    refine jx_iconst h dX2_spread_128 ki_m1 ?_
    refine jx_ixor h dX2_spread_129 ?_
    refine jx_iand h dX2_spread_130 ?_
    refine jx_iload h dX2_spread_131 8 rfl ?_
    refine jx_callSi [] h (c_X9_hasBit hG N ((gi s0 (x2 + 5) (ix x1)) &&& (x7 ^^^ (-1))) x8 s0) ml_X2_28 (Nat.le_of_ble_eq_true rfl) (Nat.le_of_ble_eq_true rfl) dX2_spread_133 (Nat.le_of_ble_eq_true rfl) rfl (fun r15 s14 => ?_)
    refine jx_if_eq (tgt := 148) h dX2_spread_136 rfl ?_ ?_
    · refine jx_iincl (L := fun w => [(8, .int w), (0, .ref (Ga G 101)), (1, .int x1), (2, .ref (Ga G x2)), (3, .ref (Ga G 3)), (4, .ref (Ga G x4)), (5, .int x5), (6, .int x6), (7, .int x7)]) h dX2_spread_148 8 rfl (kn_1 _) (Nat.le_of_ble_eq_true rfl) (fun _ => rfl) (fun x8_16 => ?_)
      refine jx_goto (tgt := 113) h dX2_spread_151 rfl ?_
      exact jx_subk [1, 2, 3, 4, 5, 6, 7, 8, 0] h (ih x8_16 s14) rfl
    · refine jx_aload_n h dX2_spread_139 rfl 0 rfl ?_
      refine jx_get (v := .ref (Ga G 102)) h fa_X2_9 lc_101 dX2_spread_140 rfl ?_
      refine jx_iload h dX2_spread_143 8 rfl ?_
      refine jx_iload h dX2_spread_145 6 rfl ?_
      refine jx_iastore h lc_102 dX2_spread_147 (fun s17 => ?_)
      refine jx_iincl (L := fun w => [(8, .int w), (0, .ref (Ga G 101)), (1, .int x1), (2, .ref (Ga G x2)), (3, .ref (Ga G 3)), (4, .ref (Ga G x4)), (5, .int x5), (6, .int x6), (7, .int x7)]) h dX2_spread_148 8 rfl (kn_1 _) (Nat.le_of_ble_eq_true rfl) (fun _ => rfl) (fun x8_18 => ?_)
      refine jx_goto (tgt := 113) h dX2_spread_151 rfl ?_
      exact jx_subk [1, 2, 3, 4, 5, 6, 7, 8, 0] h (ih x8_18 s17) rfl
set_option maxRecDepth 20000 in
theorem w_X2_spread_49 {G : Gx} (hG : Gok G ∧ IsG G layC fsoC) {P : Option (Unit × Mem) → Nat → List (Nat × Value) → List Value → Mem → Prop} (h : Jk G layC fsoC RX2 cX2_spread 9 none 5 tvV P) (N : Nat) (x1 : Int32) (x2 : Nat) (x4 : Nat) (hx2 : isBk x2 = true) (hx4 : isLw x4 = true) {rec : Int32 → Int32 → Mem → Option (Unit × Mem)} (ih : ∀ (x5 : Int32) (x6 : Int32) (s : Mem), P (rec x5 x6 s) 49 [(0, .ref (Ga G 101)), (1, .int x1), (2, .ref (Ga G x2)), (3, .ref (Ga G 3)), (4, .ref (Ga G x4)), (5, .int x5), (6, .int x6)] [] s) : ∀ (x5 : Int32) (x6 : Int32) (s : Mem), P (st_X2_spread_49 N x1 x2 x4 rec x5 x6 s) 49 [(0, .ref (Ga G 101)), (1, .int x1), (2, .ref (Ga G x2)), (3, .ref (Ga G 3)), (4, .ref (Ga G x4)), (5, .int x5), (6, .int x6)] [] s := by
  intro x5 x6 s0
  unfold st_X2_spread_49
  refine jx_iload h dX2_spread_49 6 rfl ?_
  refine jx_bipush h dX2_spread_51 kb_100 ?_
  refine jx_icmp_gt (tgt := 160) h dX2_spread_53 rfl ?_ ?_
  · exact jx_vret h dX2_spread_160
  · refine jx_iload h dX2_spread_56 5 rfl ?_
    refine jx_bipush h dX2_spread_58 kb_12 ?_
    refine jx_icmp_ge (tgt := 160) h dX2_spread_60 rfl ?_ ?_
    · exact jx_vret h dX2_spread_160
    · refine jx_aload_n h dX2_spread_63 rfl 2 rfl ?_
      refine jx_get (v := .ref (Ga G (x2 + 5))) h fa_X2_23 (isBk_o hx2) dX2_spread_64 rfl ?_
      refine jx_iload_n h dX2_spread_67 rfl 1 rfl ?_
      refine jx_iaload h (isBk_5 hx2) dX2_spread_68 ?_
      refine jx_lti (fun v8 => ?_)
      refine jx_istore (lv' := [(7, .int v8), (0, .ref (Ga G 101)), (1, .int x1), (2, .ref (Ga G x2)), (3, .ref (Ga G 3)), (4, .ref (Ga G x4)), (5, .int x5), (6, .int x6)]) h dX2_spread_69 (Nat.le_of_ble_eq_true rfl) rfl ?_
      refine jx_aload_n h dX2_spread_71 rfl 3 rfl ?_
      refine jx_iload_n h dX2_spread_72 rfl 2 rfl ?_
      refine jx_aload_n h dX2_spread_73 rfl 4 rfl ?_
      refine jx_aload h dX2_spread_74 5 rfl ?_
      refine jx_callVv [] h (isBk_o hx2) (c_X0_spread hG N x2 hx2 x1 x4 hx4 s0) ml_X2_32 (Nat.le_of_ble_eq_true rfl) (Nat.le_of_ble_eq_true rfl) dX2_spread_76 (Nat.le_of_ble_eq_true rfl) rfl (fun s9 => ?_)
      refine jx_aload_n h dX2_spread_79 rfl 3 rfl ?_
      refine jx_dup h dX2_spread_80 rfl ?_
      refine jx_get (v := .int (gi s9 x2 11)) h fa_X2_36 (isBk_o hx2) dX2_spread_81 rfl ?_
      refine jx_iconst h dX2_spread_84 ki_1 ?_
      refine jx_iadd h dX2_spread_85 ?_
      refine jx_put h fa_X2_36 fp_X0_11 (isBk_o hx2) rfl rfl dX2_spread_86 (fu_X0_11 _ _ _ _) (fun s11 => ?_)
      refine jx_aload_n h dX2_spread_89 rfl 3 rfl ?_
      refine jx_get (v := .ref (Ga G (x2 + 5))) h fa_X2_23 (isBk_o hx2) dX2_spread_90 rfl ?_
      refine jx_iload_n h dX2_spread_93 rfl 2 rfl ?_
      refine jx_iaload h (isBk_5 hx2) dX2_spread_94 ?_
      refine jx_iload h dX2_spread_95 0 rfl ?_
      refine jx_join (fun (j : Int32 → Mem → Option (Unit × Mem)) => ∀ (t13 : Int32) (s12 : Mem), P (j t13 s12) 108 [(0, .ref (Ga G 101)), (1, .int x1), (2, .ref (Ga G x2)), (3, .ref (Ga G 3)), (4, .ref (Ga G x4)), (6, .int x6), (7, .int v8)] [.int t13] s12) (fun t13 s12 => ?_) (fun j108 hj108 => ?_)
      · refine jx_istore (lv' := [(5, .int t13), (0, .ref (Ga G 101)), (1, .int x1), (2, .ref (Ga G x2)), (3, .ref (Ga G 3)), (4, .ref (Ga G x4)), (6, .int x6), (7, .int v8)]) h dX2_spread_108 (Nat.le_of_ble_eq_true rfl) rfl ?_
        refine jx_iconst h dX2_spread_110 ki_0 ?_
        refine jx_istore (lv' := [(8, .int 0), (5, .int t13), (0, .ref (Ga G 101)), (1, .int x1), (2, .ref (Ga G x2)), (3, .ref (Ga G 3)), (4, .ref (Ga G x4)), (6, .int x6), (7, .int v8)]) h dX2_spread_111 (Nat.le_of_ble_eq_true rfl) rfl ?_
        refine jx_subk [2, 3, 4, 5, 6, 1, 7, 8, 0] h (itr_ind (Q := (fun (f : Int32 → Mem → Option (Unit × Mem)) => ∀ (x8 : Int32) (s : Mem), P (f x8 s) 113 [(0, .ref (Ga G 101)), (1, .int x1), (2, .ref (Ga G x2)), (3, .ref (Ga G 3)), (4, .ref (Ga G x4)), (5, .int t13), (6, .int x6), (7, .int v8), (8, .int x8)] [] s)) (fun _ _ => jx_none h) (fun r113 ih113 => ?_) N 0 s12) rfl
        refine w_X2_spread_113 hG h N x1 x2 x4 t13 x6 v8 hx2 hx4 ?_ ih113
        intro s19
        refine jx_iincl (L := fun w => [(6, .int w), (0, .ref (Ga G 101)), (1, .int x1), (2, .ref (Ga G x2)), (3, .ref (Ga G 3)), (4, .ref (Ga G x4)), (5, .int t13)]) h dX2_spread_154 6 rfl (kn_1 _) (Nat.le_of_ble_eq_true rfl) (fun _ => rfl) (fun x6_20 => ?_)
        refine jx_goto (tgt := 49) h dX2_spread_157 rfl ?_
        exact jx_subk [1, 2, 3, 4, 5, 6, 0] h (ih t13 x6_20 s19) rfl
      · refine jx_icmp_ne (tgt := 107) h dX2_spread_97 rfl ?_ ?_
        · refine jx_iconst h dX2_spread_107 ki_0 ?_
          exact jx_subk [1, 2, 3, 4, 5, 7, 0] h (hj108 0 s11) rfl
        · refine jx_iload h dX2_spread_100 6 rfl ?_
          refine jx_iconst h dX2_spread_102 ki_1 ?_
          refine jx_iadd h dX2_spread_103 ?_
          refine jx_goto (tgt := 108) h dX2_spread_104 rfl ?_
          exact jx_subk [1, 2, 3, 4, 5, 7, 0] h (hj108 (x5 + 1) s11) rfl
set_option maxRecDepth 20000 in
theorem c_X2_spread {G : Gx} (hG : Gok G ∧ IsG G layC fsoC) (N : Nat) (x1 : Int32) (x2 : Nat) (hx2 : isBk x2 = true) (x4 : Nat) (hx4 : isLw x4 = true) (s : Mem) : Ct G yX2_spread cX2_spread 9 none 5 [.ref (Ga G 101), .int x1, .ref (Ga G x2), .ref (Ga G 3), .ref (Ga G x4)] tvV s (f_X2_spread N x1 x2 x4 s) := by
  refine Ct.of hG (by decide) (Nat.le_of_ble_eq_true rfl) (fun P h => ?_)
  show P _ 0 [(0, .ref (Ga G 101)), (1, .int x1), (2, .ref (Ga G x2)), (3, .ref (Ga G 3)), (4, .ref (Ga G x4))] [] s
  unfold f_X2_spread
  refine jx_iconst h dX2_spread_0 ki_0 ?_
  refine jx_istore (lv' := [(5, .int 0), (0, .ref (Ga G 101)), (1, .int x1), (2, .ref (Ga G x2)), (3, .ref (Ga G 3)), (4, .ref (Ga G x4))]) h dX2_spread_1 (Nat.le_of_ble_eq_true rfl) rfl ?_
  refine jx_subk [1, 2, 3, 4, 5, 0] h (itr_ind (Q := (fun (f : Int32 → Mem → Option (Unit × Mem)) => ∀ (x5 : Int32) (s : Mem), P (f x5 s) 3 [(0, .ref (Ga G 101)), (1, .int x1), (2, .ref (Ga G x2)), (3, .ref (Ga G 3)), (4, .ref (Ga G x4)), (5, .int x5)] [] s)) (fun _ _ => jx_none h) (fun r3 ih3 => ?_) N 0 s) rfl
  refine w_X2_spread_3 hG h N x1 x2 x4 hx2 hx4 ?_ ih3
  intro s7
  refine jx_iconst h dX2_spread_43 ki_0 ?_
  refine jx_istore (lv' := [(5, .int 0), (0, .ref (Ga G 101)), (1, .int x1), (2, .ref (Ga G x2)), (3, .ref (Ga G 3)), (4, .ref (Ga G x4))]) h dX2_spread_44 (Nat.le_of_ble_eq_true rfl) rfl ?_
  refine jx_iconst h dX2_spread_46 ki_1 ?_
  refine jx_istore (lv' := [(6, .int 1), (5, .int 0), (0, .ref (Ga G 101)), (1, .int x1), (2, .ref (Ga G x2)), (3, .ref (Ga G 3)), (4, .ref (Ga G x4))]) h dX2_spread_47 (Nat.le_of_ble_eq_true rfl) rfl ?_
  refine jx_subk [2, 3, 4, 5, 6, 1, 0] h (itr_ind (Q := (fun (f : Int32 → Int32 → Mem → Option (Unit × Mem)) => ∀ (x5 : Int32) (x6 : Int32) (s : Mem), P (f x5 x6 s) 49 [(0, .ref (Ga G 101)), (1, .int x1), (2, .ref (Ga G x2)), (3, .ref (Ga G 3)), (4, .ref (Ga G x4)), (5, .int x5), (6, .int x6)] [] s)) (fun _ _ _ => jx_none h) (fun r49 ih49 => ?_) N 0 1 s7) rfl
  refine w_X2_spread_49 hG h N x1 x2 x4 hx2 hx4  ih49
noncomputable def st_X2_howMany_4 (N : Nat)  (rec : Int32 → Int32 → Mem → Option (Int32 × Mem)) (x1 : Int32) (x2 : Int32) (s0 : Mem) : Option (Int32 × Mem) :=
  if 12 ≤ x2 then (some (x1, s0)) else chk x2 12 (if (gi s0 102 (ix x2)) < 0 then (lt (x2 + 1) (fun x2_1 => rec x1 x2_1 s0)) else lt (x1 + 1) (fun x1_2 => lt (x2 + 1) (fun x2_3 => rec x1_2 x2_3 s0)))
noncomputable def f_X2_howMany (N : Nat)  (s : Mem) : Option (Int32 × Mem) :=
  itr (fun _ _ _ => none) (st_X2_howMany_4 N) N 0 0 s
set_option maxRecDepth 20000 in
theorem w_X2_howMany_4 {G : Gx} (hG : Gok G ∧ IsG G layC fsoC) {P : Option (Int32 × Mem) → Nat → List (Nat × Value) → List Value → Mem → Prop} (h : Jk G layC fsoC RX2 cX2_howMany 3 (some .int) 0 tvI P) (N : Nat) {rec : Int32 → Int32 → Mem → Option (Int32 × Mem)} (ih : ∀ (x1 : Int32) (x2 : Int32) (s : Mem), P (rec x1 x2 s) 4 [(0, .ref (Ga G 101)), (1, .int x1), (2, .int x2)] [] s) : ∀ (x1 : Int32) (x2 : Int32) (s : Mem), P (st_X2_howMany_4 N rec x1 x2 s) 4 [(0, .ref (Ga G 101)), (1, .int x1), (2, .int x2)] [] s := by
  intro x1 x2 s0
  unfold st_X2_howMany_4
  refine jx_iload_n h dX2_howMany_4 rfl 2 rfl ?_
  refine jx_bipush h dX2_howMany_5 kb_12 ?_
  refine jx_icmp_ge (tgt := 28) h dX2_howMany_7 rfl ?_ ?_
  · refine jx_iload_n h dX2_howMany_28 rfl 1 rfl ?_
    exact jx_iret h dX2_howMany_29
  · refine jx_aload_n h dX2_howMany_10 rfl 0 rfl ?_
    refine jx_get (v := .ref (Ga G 102)) h fa_X2_9 lc_101 dX2_howMany_11 rfl ?_
    refine jx_iload_n h dX2_howMany_14 rfl 2 rfl ?_
    refine jx_iaload h lc_102 dX2_howMany_15 ?_
    refine jx_if_lt (tgt := 22) h dX2_howMany_16 rfl ?_ ?_
    · refine jx_iincl (L := fun w => [(2, .int w), (0, .ref (Ga G 101)), (1, .int x1)]) h dX2_howMany_22 2 rfl (kn_1 _) (Nat.le_of_ble_eq_true rfl) (fun _ => rfl) (fun x2_1 => ?_)
      refine jx_goto (tgt := 4) h dX2_howMany_25 rfl ?_
      exact jx_subk [1, 2, 0] h (ih x1 x2_1 s0) rfl
    · refine jx_iincl (L := fun w => [(1, .int w), (0, .ref (Ga G 101)), (2, .int x2)]) h dX2_howMany_19 1 rfl (kn_1 _) (Nat.le_of_ble_eq_true rfl) (fun _ => rfl) (fun x1_2 => ?_)
      refine jx_iincl (L := fun w => [(2, .int w), (1, .int x1_2), (0, .ref (Ga G 101))]) h dX2_howMany_22 2 rfl (kn_1 _) (Nat.le_of_ble_eq_true rfl) (fun _ => rfl) (fun x2_3 => ?_)
      refine jx_goto (tgt := 4) h dX2_howMany_25 rfl ?_
      exact jx_subk [2, 1, 0] h (ih x1_2 x2_3 s0) rfl
set_option maxRecDepth 20000 in
theorem c_X2_howMany {G : Gx} (hG : Gok G ∧ IsG G layC fsoC) (N : Nat)  (s : Mem) : Ct G yX2_howMany cX2_howMany 3 (some .int) 0 [.ref (Ga G 101)] tvI s (f_X2_howMany N s) := by
  refine Ct.of hG (by decide) (Nat.le_of_ble_eq_true rfl) (fun P h => ?_)
  show P _ 0 [(0, .ref (Ga G 101))] [] s
  unfold f_X2_howMany
  refine jx_iconst h dX2_howMany_0 ki_0 ?_
  refine jx_istore_n (lv' := [(1, .int 0), (0, .ref (Ga G 101))]) h dX2_howMany_1 rfl (Nat.le_of_ble_eq_true rfl) rfl ?_
  refine jx_iconst h dX2_howMany_2 ki_0 ?_
  refine jx_istore_n (lv' := [(2, .int 0), (1, .int 0), (0, .ref (Ga G 101))]) h dX2_howMany_3 rfl (Nat.le_of_ble_eq_true rfl) rfl ?_
  refine jx_subk [2, 1, 0] h (itr_ind (Q := (fun (f : Int32 → Int32 → Mem → Option (Int32 × Mem)) => ∀ (x1 : Int32) (x2 : Int32) (s : Mem), P (f x1 x2 s) 4 [(0, .ref (Ga G 101)), (1, .int x1), (2, .int x2)] [] s)) (fun _ _ _ => jx_none h) (fun r4 ih4 => ?_) N 0 0 s) rfl
  refine w_X2_howMany_4 hG h N   ih4
noncomputable def f_X2_behindIn (N : Nat) (x1 : Int32) (s : Mem) : Option (Int32 × Mem) :=
  bd (f_X9_isWithin N x1 0 11 s) (fun r2 s1 => if r2 = 0 then (some ((-2), s1)) else chk x1 12 (some (gi s1 102 (ix x1), s1)))
set_option maxRecDepth 20000 in
theorem c_X2_behindIn {G : Gx} (hG : Gok G ∧ IsG G layC fsoC) (N : Nat) (x1 : Int32) (s : Mem) : Ct G yX2_behindIn cX2_behindIn 2 (some .int) 1 [.ref (Ga G 101), .int x1] tvI s (f_X2_behindIn N x1 s) := by
  refine Ct.of hG (by decide) (Nat.le_of_ble_eq_true rfl) (fun P h => ?_)
  show P _ 0 [(0, .ref (Ga G 101)), (1, .int x1)] [] s
  unfold f_X2_behindIn
  refine jx_iload_n h dX2_behindIn_0 rfl 1 rfl ?_
  refine jx_iconst h dX2_behindIn_1 ki_0 ?_
  refine jx_bipush h dX2_behindIn_2 kb_11 ?_
  refine jx_callSi [] h (c_X9_isWithin hG N x1 0 11 s) ml_X2_44 (Nat.le_of_ble_eq_true rfl) (Nat.le_of_ble_eq_true rfl) dX2_behindIn_4 (Nat.le_of_ble_eq_true rfl) rfl (fun r2 s1 => ?_)
  refine jx_if_eq (tgt := 19) h dX2_behindIn_7 rfl ?_ ?_
  · refine jx_bipush h dX2_behindIn_19 kb_m2 ?_
    exact jx_iret h dX2_behindIn_21
  · refine jx_aload_n h dX2_behindIn_10 rfl 0 rfl ?_
    refine jx_get (v := .ref (Ga G 102)) h fa_X2_9 lc_101 dX2_behindIn_11 rfl ?_
    refine jx_iload_n h dX2_behindIn_14 rfl 1 rfl ?_
    refine jx_iaload h lc_102 dX2_behindIn_15 ?_
    refine jx_goto (tgt := 21) h dX2_behindIn_16 rfl ?_
    exact jx_iret h dX2_behindIn_21
noncomputable def st_X2_last_5 (N : Nat)  (rec : Int32 → Int32 → Mem → Option (Int32 × Mem)) (x1 : Int32) (x2 : Int32) (s0 : Mem) : Option (Int32 × Mem) :=
  if 12 ≤ x2 then (some (x1, s0)) else chk x2 12 (bd (f_X2_behindIn N x1 s0) (fun r2 s1 => if (gi s0 102 (ix x2)) ≤ r2 then (lt (x2 + 1) (fun x2_3 => rec x1 x2_3 s1)) else lt (x2 + 1) (fun x2_4 => rec x2 x2_4 s1)))
noncomputable def f_X2_last (N : Nat)  (s : Mem) : Option (Int32 × Mem) :=
  itr (fun _ _ _ => none) (st_X2_last_5 N) N (-2) 0 s
set_option maxRecDepth 20000 in
theorem w_X2_last_5 {G : Gx} (hG : Gok G ∧ IsG G layC fsoC) {P : Option (Int32 × Mem) → Nat → List (Nat × Value) → List Value → Mem → Prop} (h : Jk G layC fsoC RX2 cX2_last 3 (some .int) 2 tvI P) (N : Nat) {rec : Int32 → Int32 → Mem → Option (Int32 × Mem)} (ih : ∀ (x1 : Int32) (x2 : Int32) (s : Mem), P (rec x1 x2 s) 5 [(0, .ref (Ga G 101)), (1, .int x1), (2, .int x2)] [] s) : ∀ (x1 : Int32) (x2 : Int32) (s : Mem), P (st_X2_last_5 N rec x1 x2 s) 5 [(0, .ref (Ga G 101)), (1, .int x1), (2, .int x2)] [] s := by
  intro x1 x2 s0
  unfold st_X2_last_5
  refine jx_iload_n h dX2_last_5 rfl 2 rfl ?_
  refine jx_bipush h dX2_last_6 kb_12 ?_
  refine jx_icmp_ge (tgt := 33) h dX2_last_8 rfl ?_ ?_
  · refine jx_iload_n h dX2_last_33 rfl 1 rfl ?_
    exact jx_iret h dX2_last_34
  · refine jx_aload_n h dX2_last_11 rfl 0 rfl ?_
    refine jx_get (v := .ref (Ga G 102)) h fa_X2_9 lc_101 dX2_last_12 rfl ?_
    refine jx_iload_n h dX2_last_15 rfl 2 rfl ?_
    refine jx_iaload h lc_102 dX2_last_16 ?_
    refine jx_aload_n h dX2_last_17 rfl 0 rfl ?_
    refine jx_iload_n h dX2_last_18 rfl 1 rfl ?_
    refine jx_callVi [.int (gi s0 102 (ix x2))] h lc_101 (c_X2_behindIn hG N x1 s0) ml_X2_40 (Nat.le_of_ble_eq_true rfl) (Nat.le_of_ble_eq_true rfl) dX2_last_19 (Nat.le_of_ble_eq_true rfl) rfl (fun r2 s1 => ?_)
    refine jx_icmp_le (tgt := 27) h dX2_last_22 rfl ?_ ?_
    · refine jx_iincl (L := fun w => [(2, .int w), (0, .ref (Ga G 101)), (1, .int x1)]) h dX2_last_27 2 rfl (kn_1 _) (Nat.le_of_ble_eq_true rfl) (fun _ => rfl) (fun x2_3 => ?_)
      refine jx_goto (tgt := 5) h dX2_last_30 rfl ?_
      exact jx_subk [1, 2, 0] h (ih x1 x2_3 s1) rfl
    · refine jx_iload_n h dX2_last_25 rfl 2 rfl ?_
      refine jx_istore_n (lv' := [(1, .int x2), (0, .ref (Ga G 101)), (2, .int x2)]) h dX2_last_26 rfl (Nat.le_of_ble_eq_true rfl) rfl ?_
      refine jx_iincl (L := fun w => [(2, .int w), (1, .int x2), (0, .ref (Ga G 101))]) h dX2_last_27 2 rfl (kn_1 _) (Nat.le_of_ble_eq_true rfl) (fun _ => rfl) (fun x2_4 => ?_)
      refine jx_goto (tgt := 5) h dX2_last_30 rfl ?_
      exact jx_subk [2, 1, 0] h (ih x2 x2_4 s1) rfl
set_option maxRecDepth 20000 in
theorem c_X2_last {G : Gx} (hG : Gok G ∧ IsG G layC fsoC) (N : Nat)  (s : Mem) : Ct G yX2_last cX2_last 3 (some .int) 2 [.ref (Ga G 101)] tvI s (f_X2_last N s) := by
  refine Ct.of hG (by decide) (Nat.le_of_ble_eq_true rfl) (fun P h => ?_)
  show P _ 0 [(0, .ref (Ga G 101))] [] s
  unfold f_X2_last
  refine jx_bipush h dX2_last_0 kb_m2 ?_
  refine jx_istore_n (lv' := [(1, .int (-2)), (0, .ref (Ga G 101))]) h dX2_last_2 rfl (Nat.le_of_ble_eq_true rfl) rfl ?_
  refine jx_iconst h dX2_last_3 ki_0 ?_
  refine jx_istore_n (lv' := [(2, .int 0), (1, .int (-2)), (0, .ref (Ga G 101))]) h dX2_last_4 rfl (Nat.le_of_ble_eq_true rfl) rfl ?_
  refine jx_subk [2, 1, 0] h (itr_ind (Q := (fun (f : Int32 → Int32 → Mem → Option (Int32 × Mem)) => ∀ (x1 : Int32) (x2 : Int32) (s : Mem), P (f x1 x2 s) 5 [(0, .ref (Ga G 101)), (1, .int x1), (2, .int x2)] [] s)) (fun _ _ _ => jx_none h) (fun r5 ih5 => ?_) N (-2) 0 s) rfl
  refine w_X2_last_5 hG h N   ih5
noncomputable def f_J6_bitCount_0f7a4 (N : Nat) (x0 : Int32) (s : Mem) : Option (Int32 × Mem) :=
  lt (x0 - (((x0.toUInt32 >>> ((1 : Int32).toUInt32 &&& Int32.toUInt32 31)).toInt32) &&& 1431655765)) (fun v1 => lt ((v1 &&& 858993459) + (((v1.toUInt32 >>> ((2 : Int32).toUInt32 &&& Int32.toUInt32 31)).toInt32) &&& 858993459)) (fun v2 => lt ((v2 + ((v2.toUInt32 >>> ((4 : Int32).toUInt32 &&& Int32.toUInt32 31)).toInt32)) &&& 252645135) (fun v3 => lt (v3 + ((v3.toUInt32 >>> ((8 : Int32).toUInt32 &&& Int32.toUInt32 31)).toInt32)) (fun v4 => lt (v4 + ((v4.toUInt32 >>> ((16 : Int32).toUInt32 &&& Int32.toUInt32 31)).toInt32)) (fun v5 => some (v5 &&& 63, s))))))
set_option maxRecDepth 20000 in
theorem c_J6_bitCount_0f7a4 {G : Gx} (hG : Gok G ∧ IsG G layC fsoC) (N : Nat) (x0 : Int32) (s : Mem) : Ct G yJ6_bitCount_0f7a4 cJ6_bitCount_0f7a4 1 (some .int) 0 [.int x0] tvI s (f_J6_bitCount_0f7a4 N x0 s) := by
  refine Ct.of hG (by decide) (Nat.le_of_ble_eq_true rfl) (fun P h => ?_)
  show P _ 0 [(0, .int x0)] [] s
  unfold f_J6_bitCount_0f7a4
  refine jx_iload_n h dJ6_bitCount_0f7a4_0 rfl 0 rfl ?_
  refine jx_iload_n h dJ6_bitCount_0f7a4_1 rfl 0 rfl ?_
  refine jx_iconst h dJ6_bitCount_0f7a4_2 ki_1 ?_
  refine jx_iushr h dJ6_bitCount_0f7a4_3 ?_
  refine jx_ldcw h dJ6_bitCount_0f7a4_4 kw_J6_265 ?_
  refine jx_iand h dJ6_bitCount_0f7a4_7 ?_
  refine jx_isub h dJ6_bitCount_0f7a4_8 ?_
  refine jx_lti (fun v1 => ?_)
  refine jx_istore_n (lv' := [(0, .int v1)]) h dJ6_bitCount_0f7a4_9 rfl (Nat.le_of_ble_eq_true rfl) rfl ?_
  refine jx_iload_n h dJ6_bitCount_0f7a4_10 rfl 0 rfl ?_
  refine jx_ldcw h dJ6_bitCount_0f7a4_11 kw_J6_266 ?_
  refine jx_iand h dJ6_bitCount_0f7a4_14 ?_
  refine jx_iload_n h dJ6_bitCount_0f7a4_15 rfl 0 rfl ?_
  refine jx_iconst h dJ6_bitCount_0f7a4_16 ki_2 ?_
  refine jx_iushr h dJ6_bitCount_0f7a4_17 ?_
  refine jx_ldcw h dJ6_bitCount_0f7a4_18 kw_J6_266 ?_
  refine jx_iand h dJ6_bitCount_0f7a4_21 ?_
  refine jx_iadd h dJ6_bitCount_0f7a4_22 ?_
  refine jx_lti (fun v2 => ?_)
  refine jx_istore_n (lv' := [(0, .int v2)]) h dJ6_bitCount_0f7a4_23 rfl (Nat.le_of_ble_eq_true rfl) rfl ?_
  refine jx_iload_n h dJ6_bitCount_0f7a4_24 rfl 0 rfl ?_
  refine jx_iload_n h dJ6_bitCount_0f7a4_25 rfl 0 rfl ?_
  refine jx_iconst h dJ6_bitCount_0f7a4_26 ki_4 ?_
  refine jx_iushr h dJ6_bitCount_0f7a4_27 ?_
  refine jx_iadd h dJ6_bitCount_0f7a4_28 ?_
  refine jx_ldcw h dJ6_bitCount_0f7a4_29 kw_J6_267 ?_
  refine jx_iand h dJ6_bitCount_0f7a4_32 ?_
  refine jx_lti (fun v3 => ?_)
  refine jx_istore_n (lv' := [(0, .int v3)]) h dJ6_bitCount_0f7a4_33 rfl (Nat.le_of_ble_eq_true rfl) rfl ?_
  refine jx_iload_n h dJ6_bitCount_0f7a4_34 rfl 0 rfl ?_
  refine jx_iload_n h dJ6_bitCount_0f7a4_35 rfl 0 rfl ?_
  refine jx_bipush h dJ6_bitCount_0f7a4_36 kb_8 ?_
  refine jx_iushr h dJ6_bitCount_0f7a4_38 ?_
  refine jx_iadd h dJ6_bitCount_0f7a4_39 ?_
  refine jx_lti (fun v4 => ?_)
  refine jx_istore_n (lv' := [(0, .int v4)]) h dJ6_bitCount_0f7a4_40 rfl (Nat.le_of_ble_eq_true rfl) rfl ?_
  refine jx_iload_n h dJ6_bitCount_0f7a4_41 rfl 0 rfl ?_
  refine jx_iload_n h dJ6_bitCount_0f7a4_42 rfl 0 rfl ?_
  refine jx_bipush h dJ6_bitCount_0f7a4_43 kb_16 ?_
  refine jx_iushr h dJ6_bitCount_0f7a4_45 ?_
  refine jx_iadd h dJ6_bitCount_0f7a4_46 ?_
  refine jx_lti (fun v5 => ?_)
  refine jx_istore_n (lv' := [(0, .int v5)]) h dJ6_bitCount_0f7a4_47 rfl (Nat.le_of_ble_eq_true rfl) rfl ?_
  refine jx_iload_n h dJ6_bitCount_0f7a4_48 rfl 0 rfl ?_
  refine jx_bipush h dJ6_bitCount_0f7a4_49 kb_63 ?_
  refine jx_iand h dJ6_bitCount_0f7a4_51 ?_
  exact jx_iret h dJ6_bitCount_0f7a4_52
noncomputable def f_X2_giftsFrom (N : Nat) (x1 : Int32) (x2 : Int32) (x3 : Int32) (s : Mem) : Option (Int32 × Mem) :=
  bd (f_X9_isWithin N x2 0 4 s) (fun r2 s1 => if r2 = 0 then (some (0, s1)) else chk x2 5 (chk x3 6 (chk (x1 ^^^ ((1 : Int32) <<< (x3 &&& 31))) 64 (some ((gi s1 (103 + 1 + ix x2) (ix x3)) + (gi s1 109 (ix (x1 ^^^ ((1 : Int32) <<< (x3 &&& 31))))), s1)))))
set_option maxRecDepth 20000 in
theorem c_X2_giftsFrom {G : Gx} (hG : Gok G ∧ IsG G layC fsoC) (N : Nat) (x1 : Int32) (x2 : Int32) (x3 : Int32) (s : Mem) : Ct G yX2_giftsFrom cX2_giftsFrom 4 (some .int) 1 [.ref (Ga G 101), .int x1, .int x2, .int x3] tvI s (f_X2_giftsFrom N x1 x2 x3 s) := by
  refine Ct.of hG (by decide) (Nat.le_of_ble_eq_true rfl) (fun P h => ?_)
  show P _ 0 [(0, .ref (Ga G 101)), (1, .int x1), (2, .int x2), (3, .int x3)] [] s
  unfold f_X2_giftsFrom
  refine jx_iload_n h dX2_giftsFrom_0 rfl 2 rfl ?_
  refine jx_iconst h dX2_giftsFrom_1 ki_0 ?_
  refine jx_iconst h dX2_giftsFrom_2 ki_4 ?_
  refine jx_callSi [] h (c_X9_isWithin hG N x2 0 4 s) ml_X2_44 (Nat.le_of_ble_eq_true rfl) (Nat.le_of_ble_eq_true rfl) dX2_giftsFrom_3 (Nat.le_of_ble_eq_true rfl) rfl (fun r2 s1 => ?_)
  refine jx_if_eq (tgt := 31) h dX2_giftsFrom_6 rfl ?_ ?_
  · refine jx_iconst h dX2_giftsFrom_31 ki_0 ?_
    exact jx_iret h dX2_giftsFrom_32
  · refine jx_aload_n h dX2_giftsFrom_9 rfl 0 rfl ?_
    refine jx_get (v := .ref (Ga G 103)) h fa_X2_17 lc_101 dX2_giftsFrom_10 rfl ?_
    refine jx_iload_n h dX2_giftsFrom_13 rfl 2 rfl ?_
    refine jx_aaload h lc_103 dX2_giftsFrom_14 (fun hr3 => ?_)
    refine jx_iload_n h dX2_giftsFrom_15 rfl 3 rfl ?_
    refine jx_iaload h (lr_103 hr3) dX2_giftsFrom_16 ?_
    refine jx_aload_n h dX2_giftsFrom_17 rfl 0 rfl ?_
    refine jx_get (v := .ref (Ga G 109)) h fa_X2_20 lc_101 dX2_giftsFrom_18 rfl ?_
    refine jx_iload_n h dX2_giftsFrom_21 rfl 1 rfl ?_
    refine jx_iconst h dX2_giftsFrom_22 ki_1 ?_
    refine jx_iload_n h dX2_giftsFrom_23 rfl 3 rfl ?_
    refine jx_ishl h dX2_giftsFrom_24 ?_
    refine jx_ixor h dX2_giftsFrom_25 ?_
    refine jx_iaload h lc_109 dX2_giftsFrom_26 ?_
    refine jx_iadd h dX2_giftsFrom_27 ?_
    refine jx_goto (tgt := 32) h dX2_giftsFrom_28 rfl ?_
    exact jx_iret h dX2_giftsFrom_32
noncomputable def st_X2_mostOf_5 (N : Nat) (x1 : Int32) (x2 : Int32)  (rec : Int32 → Int32 → Mem → Option (Int32 × Mem)) (x3 : Int32) (x4 : Int32) (s0 : Mem) : Option (Int32 × Mem) :=
  if 6 ≤ x4 then (some (x3, s0)) else bd (f_X9_hasBit N x1 x4 s0) (fun r2 s1 => if r2 = 0 then (lt (x4 + 1) (fun x4_3 => rec x3 x4_3 s1)) else bd (f_X2_giftsFrom N x1 x2 x4 s1) (fun r5 s4 => lt (imax x3 r5) (fun v6 => lt (x4 + 1) (fun x4_7 => rec v6 x4_7 s4))))
noncomputable def f_X2_mostOf (N : Nat) (x1 : Int32) (x2 : Int32) (s : Mem) : Option (Int32 × Mem) :=
  itr (fun _ _ _ => none) (st_X2_mostOf_5 N x1 x2) N 0 0 s
set_option maxRecDepth 20000 in
theorem w_X2_mostOf_5 {G : Gx} (hG : Gok G ∧ IsG G layC fsoC) {P : Option (Int32 × Mem) → Nat → List (Nat × Value) → List Value → Mem → Prop} (h : Jk G layC fsoC RX2 cX2_mostOf 5 (some .int) 2 tvI P) (N : Nat) (x1 : Int32) (x2 : Int32) {rec : Int32 → Int32 → Mem → Option (Int32 × Mem)} (ih : ∀ (x3 : Int32) (x4 : Int32) (s : Mem), P (rec x3 x4 s) 5 [(0, .ref (Ga G 101)), (1, .int x1), (2, .int x2), (3, .int x3), (4, .int x4)] [] s) : ∀ (x3 : Int32) (x4 : Int32) (s : Mem), P (st_X2_mostOf_5 N x1 x2 rec x3 x4 s) 5 [(0, .ref (Ga G 101)), (1, .int x1), (2, .int x2), (3, .int x3), (4, .int x4)] [] s := by
  intro x3 x4 s0
  unfold st_X2_mostOf_5
  refine jx_iload h dX2_mostOf_5 4 rfl ?_
  refine jx_bipush h dX2_mostOf_7 kb_6 ?_
  refine jx_icmp_ge (tgt := 40) h dX2_mostOf_9 rfl ?_ ?_
  · refine jx_iload_n h dX2_mostOf_40 rfl 3 rfl ?_
    exact jx_iret h dX2_mostOf_41
  · refine jx_iload_n h dX2_mostOf_12 rfl 1 rfl ?_
    refine jx_iload h dX2_mostOf_13 4 rfl ?_
    refine jx_callSi [] h (c_X9_hasBit hG N x1 x4 s0) ml_X2_28 (Nat.le_of_ble_eq_true rfl) (Nat.le_of_ble_eq_true rfl) dX2_mostOf_15 (Nat.le_of_ble_eq_true rfl) rfl (fun r2 s1 => ?_)
    refine jx_if_eq (tgt := 34) h dX2_mostOf_18 rfl ?_ ?_
    · refine jx_iincl (L := fun w => [(4, .int w), (0, .ref (Ga G 101)), (1, .int x1), (2, .int x2), (3, .int x3)]) h dX2_mostOf_34 4 rfl (kn_1 _) (Nat.le_of_ble_eq_true rfl) (fun _ => rfl) (fun x4_3 => ?_)
      refine jx_goto (tgt := 5) h dX2_mostOf_37 rfl ?_
      exact jx_subk [1, 2, 3, 4, 0] h (ih x3 x4_3 s1) rfl
    · refine jx_iload_n h dX2_mostOf_21 rfl 3 rfl ?_
      refine jx_aload_n h dX2_mostOf_22 rfl 0 rfl ?_
      refine jx_iload_n h dX2_mostOf_23 rfl 1 rfl ?_
      refine jx_iload_n h dX2_mostOf_24 rfl 2 rfl ?_
      refine jx_iload h dX2_mostOf_25 4 rfl ?_
      refine jx_callVi [.int x3] h lc_101 (c_X2_giftsFrom hG N x1 x2 x4 s1) ml_X2_65 (Nat.le_of_ble_eq_true rfl) (Nat.le_of_ble_eq_true rfl) dX2_mostOf_27 (Nat.le_of_ble_eq_true rfl) rfl (fun r5 s4 => ?_)
      refine jx_mmax h mm_X2_68 (Nat.le_of_ble_eq_true rfl) (Nat.le_of_ble_eq_true rfl) dX2_mostOf_30 ?_
      refine jx_lti (fun v6 => ?_)
      refine jx_istore_n (lv' := [(3, .int v6), (0, .ref (Ga G 101)), (1, .int x1), (2, .int x2), (4, .int x4)]) h dX2_mostOf_33 rfl (Nat.le_of_ble_eq_true rfl) rfl ?_
      refine jx_iincl (L := fun w => [(4, .int w), (3, .int v6), (0, .ref (Ga G 101)), (1, .int x1), (2, .int x2)]) h dX2_mostOf_34 4 rfl (kn_1 _) (Nat.le_of_ble_eq_true rfl) (fun _ => rfl) (fun x4_7 => ?_)
      refine jx_goto (tgt := 5) h dX2_mostOf_37 rfl ?_
      exact jx_subk [2, 3, 4, 1, 0] h (ih v6 x4_7 s4) rfl
set_option maxRecDepth 20000 in
theorem c_X2_mostOf {G : Gx} (hG : Gok G ∧ IsG G layC fsoC) (N : Nat) (x1 : Int32) (x2 : Int32) (s : Mem) : Ct G yX2_mostOf cX2_mostOf 5 (some .int) 2 [.ref (Ga G 101), .int x1, .int x2] tvI s (f_X2_mostOf N x1 x2 s) := by
  refine Ct.of hG (by decide) (Nat.le_of_ble_eq_true rfl) (fun P h => ?_)
  show P _ 0 [(0, .ref (Ga G 101)), (1, .int x1), (2, .int x2)] [] s
  unfold f_X2_mostOf
  refine jx_iconst h dX2_mostOf_0 ki_0 ?_
  refine jx_istore_n (lv' := [(3, .int 0), (0, .ref (Ga G 101)), (1, .int x1), (2, .int x2)]) h dX2_mostOf_1 rfl (Nat.le_of_ble_eq_true rfl) rfl ?_
  refine jx_iconst h dX2_mostOf_2 ki_0 ?_
  refine jx_istore (lv' := [(4, .int 0), (3, .int 0), (0, .ref (Ga G 101)), (1, .int x1), (2, .int x2)]) h dX2_mostOf_3 (Nat.le_of_ble_eq_true rfl) rfl ?_
  refine jx_subk [2, 3, 4, 1, 0] h (itr_ind (Q := (fun (f : Int32 → Int32 → Mem → Option (Int32 × Mem)) => ∀ (x3 : Int32) (x4 : Int32) (s : Mem), P (f x3 x4 s) 5 [(0, .ref (Ga G 101)), (1, .int x1), (2, .int x2), (3, .int x3), (4, .int x4)] [] s)) (fun _ _ _ => jx_none h) (fun r5 ih5 => ?_) N 0 0 s) rfl
  refine w_X2_mostOf_5 hG h N x1 x2  ih5
noncomputable def st_X2_readMost_35 (N : Nat) (x1 : Int32) (x2 : Int32) (x3 : Nat) (x4 : Nat) (x5 : Int32) (x6 : Int32) (x7 : Int32) (k84 : Mem → Option (Int32 × Mem)) (rec : Int32 → Mem → Option (Int32 × Mem)) (x8 : Int32) (s0 : Mem) : Option (Int32 × Mem) :=
  if 6 ≤ x8 then (k84 s0) else chk x6 5 (bd (f_X9_hasBit N x2 x8 s0) (fun r7 s6 => if r7 = 0 then (chk x8 6 (lt (si s6 (103 + 1 + ix x6) (ix x8) 0) (fun s8 => lt (x8 + 1) (fun x8_9 => rec x8_9 s8)))) else bd (f_X0_giftBehind N x3 x6 x1 x8 x7 x4 s6) (fun r11 s10 => chk x8 6 (lt (si s10 (103 + 1 + ix x6) (ix x8) r11) (fun s12 => lt (x8 + 1) (fun x8_13 => rec x8_13 s12))))))
noncomputable def st_X2_readMost_9 (N : Nat) (x1 : Int32) (x2 : Int32) (x3 : Nat) (x4 : Nat) (x5 : Int32) (k90 : Mem → Option (Int32 × Mem)) (rec : Int32 → Mem → Option (Int32 × Mem)) (x6 : Int32) (s0 : Mem) : Option (Int32 × Mem) :=
  if x5 ≤ x6 then (k90 s0) else if 5 ≤ x6 then (k90 s0) else bd (f_X0_tiredBehind N x3 x1 x6 1 s0) (fun r4 s3 => itr (fun _ _ => none) (st_X2_readMost_35 N x1 x2 x3 x4 x5 x6 r4 (fun  (s14 : Mem) => lt (x6 + 1) (fun x6_15 => rec x6_15 s14))) N 0 s3)
noncomputable def st_X2_readMost_100 (N : Nat) (x2 : Int32) (x5 : Int32) (k152 : Mem → Option (Int32 × Mem)) (rec : Int32 → Mem → Option (Int32 × Mem)) (x6 : Int32) (s0 : Mem) : Option (Int32 × Mem) :=
  if x2 < x6 then (k152 s0) else if 64 ≤ x6 then (k152 s0) else if (x6 &&& (x2 ^^^ (-1))) = 0 then (bd (f_J6_bitCount_0f7a4 N x6 s0) (fun r20 s19 => bd (f_X2_mostOf N x6 (x5 - r20) s19) (fun r22 s21 => chk x6 64 (lt (si s21 109 (ix x6) r22) (fun s23 => lt (x6 + 1) (fun x6_24 => rec x6_24 s23)))))) else lt (x6 + 1) (fun x6_18 => rec x6_18 s0)
noncomputable def f_X2_readMost (N : Nat) (x1 : Int32) (x2 : Int32) (x3 : Nat) (x4 : Nat) (s : Mem) : Option (Int32 × Mem) :=
  bd (f_J6_bitCount_0f7a4 N x2 s) (fun r2 s1 => itr (fun _ _ => none) (st_X2_readMost_9 N x1 x2 x3 x4 r2 (fun  (s16 : Mem) => chk 0 64 (lt (si s16 109 (ix (0 : Int32)) 0) (fun s17 => itr (fun _ _ => none) (st_X2_readMost_100 N x2 r2 (fun  (s25 : Mem) => bd (f_X9_isWithin N x2 0 ((64 : Int32) - 1) s25) (fun r27 s26 => if r27 = 0 then (some (0, s26)) else chk x2 64 (some (gi s26 109 (ix x2), s26))))) N 1 s17)))) N 0 s1)
set_option maxRecDepth 20000 in
theorem w_X2_readMost_35 {G : Gx} (hG : Gok G ∧ IsG G layC fsoC) {P : Option (Int32 × Mem) → Nat → List (Nat × Value) → List Value → Mem → Prop} (h : Jk G layC fsoC RX2 cX2_readMost 9 (some .int) 4 tvI P) (N : Nat) (x1 : Int32) (x2 : Int32) (x3 : Nat) (x4 : Nat) (x5 : Int32) (x6 : Int32) (x7 : Int32) (hx3 : isBk x3 = true) (hx4 : isLw x4 = true) {k84 : Mem → Option (Int32 × Mem)} (hk84 : ∀  (s : Mem), P (k84 s) 84 [(0, .ref (Ga G 101)), (1, .int x1), (2, .int x2), (3, .ref (Ga G x3)), (4, .ref (Ga G x4)), (5, .int x5), (6, .int x6)] [] s) {rec : Int32 → Mem → Option (Int32 × Mem)} (ih : ∀ (x8 : Int32) (s : Mem), P (rec x8 s) 35 [(0, .ref (Ga G 101)), (1, .int x1), (2, .int x2), (3, .ref (Ga G x3)), (4, .ref (Ga G x4)), (5, .int x5), (6, .int x6), (7, .int x7), (8, .int x8)] [] s) : ∀ (x8 : Int32) (s : Mem), P (st_X2_readMost_35 N x1 x2 x3 x4 x5 x6 x7 k84 rec x8 s) 35 [(0, .ref (Ga G 101)), (1, .int x1), (2, .int x2), (3, .ref (Ga G x3)), (4, .ref (Ga G x4)), (5, .int x5), (6, .int x6), (7, .int x7), (8, .int x8)] [] s := by
  intro x8 s0
  unfold st_X2_readMost_35
  refine jx_iload h dX2_readMost_35 8 rfl ?_
  refine jx_bipush h dX2_readMost_37 kb_6 ?_
  refine jx_icmp_ge (tgt := 84) h dX2_readMost_39 rfl ?_ ?_
  · exact jx_subk [0, 1, 2, 3, 4, 5, 6] h (hk84 s0) rfl
  · refine jx_aload_n h dX2_readMost_42 rfl 0 rfl ?_
    refine jx_get (v := .ref (Ga G 103)) h fa_X2_17 lc_101 dX2_readMost_43 rfl ?_
    refine jx_iload h dX2_readMost_46 6 rfl ?_
    refine jx_aaload h lc_103 dX2_readMost_48 (fun hr5 => ?_)
    refine jx_iload h dX2_readMost_49 8 rfl ?_
    refine jx_iload_n h dX2_readMost_51 rfl 2 rfl ?_
    refine jx_iload h dX2_readMost_52 8 rfl ?_
    refine jx_callSi [.int x8, .ref (Ga G (103 + 1 + ix x6))] h (c_X9_hasBit hG N x2 x8 s0) ml_X2_28 (Nat.le_of_ble_eq_true rfl) (Nat.le_of_ble_eq_true rfl) dX2_readMost_54 (Nat.le_of_ble_eq_true rfl) rfl (fun r7 s6 => ?_)
    refine jx_if_eq (tgt := 76) h dX2_readMost_57 rfl ?_ ?_
    · refine jx_iconst h dX2_readMost_76 ki_0 ?_
      refine jx_iastore h (lr_103 hr5) dX2_readMost_77 (fun s8 => ?_)
      refine jx_iincl (L := fun w => [(8, .int w), (0, .ref (Ga G 101)), (1, .int x1), (2, .int x2), (3, .ref (Ga G x3)), (4, .ref (Ga G x4)), (5, .int x5), (6, .int x6), (7, .int x7)]) h dX2_readMost_78 8 rfl (kn_1 _) (Nat.le_of_ble_eq_true rfl) (fun _ => rfl) (fun x8_9 => ?_)
      refine jx_goto (tgt := 35) h dX2_readMost_81 rfl ?_
      exact jx_subk [1, 2, 3, 4, 5, 6, 7, 8, 0] h (ih x8_9 s8) rfl
    · refine jx_aload_n h dX2_readMost_60 rfl 3 rfl ?_
      refine jx_iload h dX2_readMost_61 6 rfl ?_
      refine jx_iload_n h dX2_readMost_63 rfl 1 rfl ?_
      refine jx_iload h dX2_readMost_64 8 rfl ?_
      refine jx_iload h dX2_readMost_66 7 rfl ?_
      refine jx_aload h dX2_readMost_68 4 rfl ?_
      refine jx_callVi [.int x8, .ref (Ga G (103 + 1 + ix x6))] h (isBk_o hx3) (c_X0_giftBehind hG N x3 hx3 x6 x1 x8 x7 x4 hx4 s6) ml_X2_57 (Nat.le_of_ble_eq_true rfl) (Nat.le_of_ble_eq_true rfl) dX2_readMost_70 (Nat.le_of_ble_eq_true rfl) rfl (fun r11 s10 => ?_)
      refine jx_goto (tgt := 77) h dX2_readMost_73 rfl ?_
      refine jx_iastore h (lr_103 hr5) dX2_readMost_77 (fun s12 => ?_)
      refine jx_iincl (L := fun w => [(8, .int w), (0, .ref (Ga G 101)), (1, .int x1), (2, .int x2), (3, .ref (Ga G x3)), (4, .ref (Ga G x4)), (5, .int x5), (6, .int x6), (7, .int x7)]) h dX2_readMost_78 8 rfl (kn_1 _) (Nat.le_of_ble_eq_true rfl) (fun _ => rfl) (fun x8_13 => ?_)
      refine jx_goto (tgt := 35) h dX2_readMost_81 rfl ?_
      exact jx_subk [1, 2, 3, 4, 5, 6, 7, 8, 0] h (ih x8_13 s12) rfl
set_option maxRecDepth 20000 in
theorem w_X2_readMost_9 {G : Gx} (hG : Gok G ∧ IsG G layC fsoC) {P : Option (Int32 × Mem) → Nat → List (Nat × Value) → List Value → Mem → Prop} (h : Jk G layC fsoC RX2 cX2_readMost 9 (some .int) 4 tvI P) (N : Nat) (x1 : Int32) (x2 : Int32) (x3 : Nat) (x4 : Nat) (x5 : Int32) (hx3 : isBk x3 = true) (hx4 : isLw x4 = true) {k90 : Mem → Option (Int32 × Mem)} (hk90 : ∀  (s : Mem), P (k90 s) 90 [(0, .ref (Ga G 101)), (2, .int x2), (5, .int x5)] [] s) {rec : Int32 → Mem → Option (Int32 × Mem)} (ih : ∀ (x6 : Int32) (s : Mem), P (rec x6 s) 9 [(0, .ref (Ga G 101)), (1, .int x1), (2, .int x2), (3, .ref (Ga G x3)), (4, .ref (Ga G x4)), (5, .int x5), (6, .int x6)] [] s) : ∀ (x6 : Int32) (s : Mem), P (st_X2_readMost_9 N x1 x2 x3 x4 x5 k90 rec x6 s) 9 [(0, .ref (Ga G 101)), (1, .int x1), (2, .int x2), (3, .ref (Ga G x3)), (4, .ref (Ga G x4)), (5, .int x5), (6, .int x6)] [] s := by
  intro x6 s0
  unfold st_X2_readMost_9
  refine jx_iload h dX2_readMost_9 6 rfl ?_
  refine jx_iload h dX2_readMost_11 5 rfl ?_
  refine jx_icmp_ge (tgt := 90) h dX2_readMost_13 rfl ?_ ?_
  · exact jx_subk [0, 2, 5] h (hk90 s0) rfl
  · refine jx_iload h dX2_readMost_16 6 rfl ?_
    refine jx_iconst h dX2_readMost_18 ki_5 ?_
    refine jx_icmp_ge (tgt := 90) h dX2_readMost_19 rfl ?_ ?_
    · exact jx_subk [0, 2, 5] h (hk90 s0) rfl
    · refine jx_aload_n h dX2_readMost_22 rfl 3 rfl ?_
      refine jx_iload_n h dX2_readMost_23 rfl 1 rfl ?_
      refine jx_iload h dX2_readMost_24 6 rfl ?_
      refine jx_iconst h dX2_readMost_26 ki_1 ?_
      refine jx_callVi [] h (isBk_o hx3) (c_X0_tiredBehind hG N x3 hx3 x1 x6 1 s0) ml_X2_53 (Nat.le_of_ble_eq_true rfl) (Nat.le_of_ble_eq_true rfl) dX2_readMost_27 (Nat.le_of_ble_eq_true rfl) rfl (fun r4 s3 => ?_)
      refine jx_istore (lv' := [(7, .int r4), (0, .ref (Ga G 101)), (1, .int x1), (2, .int x2), (3, .ref (Ga G x3)), (4, .ref (Ga G x4)), (5, .int x5), (6, .int x6)]) h dX2_readMost_30 (Nat.le_of_ble_eq_true rfl) rfl ?_
      refine jx_iconst h dX2_readMost_32 ki_0 ?_
      refine jx_istore (lv' := [(8, .int 0), (7, .int r4), (0, .ref (Ga G 101)), (1, .int x1), (2, .int x2), (3, .ref (Ga G x3)), (4, .ref (Ga G x4)), (5, .int x5), (6, .int x6)]) h dX2_readMost_33 (Nat.le_of_ble_eq_true rfl) rfl ?_
      refine jx_subk [2, 3, 4, 5, 6, 7, 8, 1, 0] h (itr_ind (Q := (fun (f : Int32 → Mem → Option (Int32 × Mem)) => ∀ (x8 : Int32) (s : Mem), P (f x8 s) 35 [(0, .ref (Ga G 101)), (1, .int x1), (2, .int x2), (3, .ref (Ga G x3)), (4, .ref (Ga G x4)), (5, .int x5), (6, .int x6), (7, .int r4), (8, .int x8)] [] s)) (fun _ _ => jx_none h) (fun r35 ih35 => ?_) N 0 s3) rfl
      refine w_X2_readMost_35 hG h N x1 x2 x3 x4 x5 x6 r4 hx3 hx4 ?_ ih35
      intro s14
      refine jx_iincl (L := fun w => [(6, .int w), (0, .ref (Ga G 101)), (1, .int x1), (2, .int x2), (3, .ref (Ga G x3)), (4, .ref (Ga G x4)), (5, .int x5)]) h dX2_readMost_84 6 rfl (kn_1 _) (Nat.le_of_ble_eq_true rfl) (fun _ => rfl) (fun x6_15 => ?_)
      refine jx_goto (tgt := 9) h dX2_readMost_87 rfl ?_
      exact jx_subk [1, 2, 3, 4, 5, 6, 0] h (ih x6_15 s14) rfl
set_option maxRecDepth 20000 in
theorem w_X2_readMost_100 {G : Gx} (hG : Gok G ∧ IsG G layC fsoC) {P : Option (Int32 × Mem) → Nat → List (Nat × Value) → List Value → Mem → Prop} (h : Jk G layC fsoC RX2 cX2_readMost 9 (some .int) 4 tvI P) (N : Nat) (x2 : Int32) (x5 : Int32) {k152 : Mem → Option (Int32 × Mem)} (hk152 : ∀  (s : Mem), P (k152 s) 152 [(0, .ref (Ga G 101)), (2, .int x2)] [] s) {rec : Int32 → Mem → Option (Int32 × Mem)} (ih : ∀ (x6 : Int32) (s : Mem), P (rec x6 s) 100 [(0, .ref (Ga G 101)), (2, .int x2), (5, .int x5), (6, .int x6)] [] s) : ∀ (x6 : Int32) (s : Mem), P (st_X2_readMost_100 N x2 x5 k152 rec x6 s) 100 [(0, .ref (Ga G 101)), (2, .int x2), (5, .int x5), (6, .int x6)] [] s := by
  intro x6 s0
  unfold st_X2_readMost_100
  refine jx_iload h dX2_readMost_100 3 rfl ?_
  refine jx_iload_n h dX2_readMost_102 rfl 1 rfl ?_
  refine jx_icmp_gt (tgt := 152) h dX2_readMost_103 rfl ?_ ?_
  · exact jx_subk [0, 1] h (hk152 s0) rfl
  · refine jx_iload h dX2_readMost_106 3 rfl ?_
    refine jx_aload_n h dX2_readMost_108 rfl 0 rfl ?_
    refine jx_get (v := .ref (Ga G 109)) h fa_X2_20 lc_101 dX2_readMost_109 rfl ?_
    refine jx_alen (v := 64) h lc_109 rfl dX2_readMost_112 ?_
    refine jx_icmp_ge (tgt := 152) h dX2_readMost_113 rfl ?_ ?_
    · exact jx_subk [0, 1] h (hk152 s0) rfl
    · refine jx_iload h dX2_readMost_116 3 rfl ?_
      refine jx_iload_n h dX2_readMost_118 rfl 1 rfl ?_
      refine jx_iconst h dX2_readMost_119 ki_m1 ?_
      refine jx_ixor h dX2_readMost_120 ?_
      refine jx_iand h dX2_readMost_121 ?_
      refine jx_if_ne (tgt := 146) h dX2_readMost_122 rfl ?_ ?_
      · refine jx_iincl (L := fun w => [(6, .int w), (0, .ref (Ga G 101)), (2, .int x2), (5, .int x5)]) h dX2_readMost_146 3 rfl (kn_1 _) (Nat.le_of_ble_eq_true rfl) (fun _ => rfl) (fun x6_18 => ?_)
        refine jx_goto (tgt := 100) h dX2_readMost_149 rfl ?_
        exact jx_subk [1, 2, 3, 0] h (ih x6_18 s0) rfl
      · refine jx_aload_n h dX2_readMost_125 rfl 0 rfl ?_
        refine jx_get (v := .ref (Ga G 109)) h fa_X2_20 lc_101 dX2_readMost_126 rfl ?_
        refine jx_iload h dX2_readMost_129 3 rfl ?_
        refine jx_aload_n h dX2_readMost_131 rfl 0 rfl ?_
        refine jx_iload h dX2_readMost_132 3 rfl ?_
        refine jx_iload h dX2_readMost_134 2 rfl ?_
        refine jx_iload h dX2_readMost_136 3 rfl ?_
        refine jx_callSi [.int x5, .int x6, .ref (Ga G 101), .int x6, .ref (Ga G 109)] h (c_J6_bitCount_0f7a4 hG N x6 s0) ml_X2_48 (Nat.le_of_ble_eq_true rfl) (Nat.le_of_ble_eq_true rfl) dX2_readMost_138 (Nat.le_of_ble_eq_true rfl) rfl (fun r20 s19 => ?_)
        refine jx_isub h dX2_readMost_141 ?_
        refine jx_callVi [.int x6, .ref (Ga G 109)] h lc_101 (c_X2_mostOf hG N x6 (x5 - r20) s19) ml_X2_61 (Nat.le_of_ble_eq_true rfl) (Nat.le_of_ble_eq_true rfl) dX2_readMost_142 (Nat.le_of_ble_eq_true rfl) rfl (fun r22 s21 => ?_)
        refine jx_iastore h lc_109 dX2_readMost_145 (fun s23 => ?_)
        refine jx_iincl (L := fun w => [(6, .int w), (0, .ref (Ga G 101)), (2, .int x2), (5, .int x5)]) h dX2_readMost_146 3 rfl (kn_1 _) (Nat.le_of_ble_eq_true rfl) (fun _ => rfl) (fun x6_24 => ?_)
        refine jx_goto (tgt := 100) h dX2_readMost_149 rfl ?_
        exact jx_subk [1, 2, 3, 0] h (ih x6_24 s23) rfl
set_option maxRecDepth 20000 in
theorem c_X2_readMost {G : Gx} (hG : Gok G ∧ IsG G layC fsoC) (N : Nat) (x1 : Int32) (x2 : Int32) (x3 : Nat) (hx3 : isBk x3 = true) (x4 : Nat) (hx4 : isLw x4 = true) (s : Mem) : Ct G yX2_readMost cX2_readMost 9 (some .int) 4 [.ref (Ga G 101), .int x1, .int x2, .ref (Ga G x3), .ref (Ga G x4)] tvI s (f_X2_readMost N x1 x2 x3 x4 s) := by
  refine Ct.of hG (by decide) (Nat.le_of_ble_eq_true rfl) (fun P h => ?_)
  show P _ 0 [(0, .ref (Ga G 101)), (1, .int x1), (2, .int x2), (3, .ref (Ga G x3)), (4, .ref (Ga G x4))] [] s
  unfold f_X2_readMost
  refine jx_iload_n h dX2_readMost_0 rfl 2 rfl ?_
  refine jx_callSi [] h (c_J6_bitCount_0f7a4 hG N x2 s) ml_X2_48 (Nat.le_of_ble_eq_true rfl) (Nat.le_of_ble_eq_true rfl) dX2_readMost_1 (Nat.le_of_ble_eq_true rfl) rfl (fun r2 s1 => ?_)
  refine jx_istore (lv' := [(5, .int r2), (0, .ref (Ga G 101)), (1, .int x1), (2, .int x2), (3, .ref (Ga G x3)), (4, .ref (Ga G x4))]) h dX2_readMost_4 (Nat.le_of_ble_eq_true rfl) rfl ?_
  refine jx_iconst h dX2_readMost_6 ki_0 ?_
  refine jx_istore (lv' := [(6, .int 0), (5, .int r2), (0, .ref (Ga G 101)), (1, .int x1), (2, .int x2), (3, .ref (Ga G x3)), (4, .ref (Ga G x4))]) h dX2_readMost_7 (Nat.le_of_ble_eq_true rfl) rfl ?_
  refine jx_subk [2, 3, 4, 5, 6, 1, 0] h (itr_ind (Q := (fun (f : Int32 → Mem → Option (Int32 × Mem)) => ∀ (x6 : Int32) (s : Mem), P (f x6 s) 9 [(0, .ref (Ga G 101)), (1, .int x1), (2, .int x2), (3, .ref (Ga G x3)), (4, .ref (Ga G x4)), (5, .int r2), (6, .int x6)] [] s)) (fun _ _ => jx_none h) (fun r9 ih9 => ?_) N 0 s1) rfl
  refine w_X2_readMost_9 hG h N x1 x2 x3 x4 r2 hx3 hx4 ?_ ih9
  intro s16
  refine jx_aload_n h dX2_readMost_90 rfl 0 rfl ?_
  refine jx_get (v := .ref (Ga G 109)) h fa_X2_20 lc_101 dX2_readMost_91 rfl ?_
  refine jx_iconst h dX2_readMost_94 ki_0 ?_
  refine jx_iconst h dX2_readMost_95 ki_0 ?_
  refine jx_iastore h lc_109 dX2_readMost_96 (fun s17 => ?_)
  refine jx_iconst h dX2_readMost_97 ki_1 ?_
  refine jx_istore (lv' := [(6, .int 1), (0, .ref (Ga G 101)), (2, .int x2), (5, .int r2)]) h dX2_readMost_98 (Nat.le_of_ble_eq_true rfl) rfl ?_
  refine jx_subk [1, 2, 3, 0] h (itr_ind (Q := (fun (f : Int32 → Mem → Option (Int32 × Mem)) => ∀ (x6 : Int32) (s : Mem), P (f x6 s) 100 [(0, .ref (Ga G 101)), (2, .int x2), (5, .int r2), (6, .int x6)] [] s)) (fun _ _ => jx_none h) (fun r100 ih100 => ?_) N 1 s17) rfl
  refine w_X2_readMost_100 hG h N x2 r2 ?_ ih100
  intro s25
  refine jx_iload_n h dX2_readMost_152 rfl 1 rfl ?_
  refine jx_iconst h dX2_readMost_153 ki_0 ?_
  refine jx_aload_n h dX2_readMost_154 rfl 0 rfl ?_
  refine jx_get (v := .ref (Ga G 109)) h fa_X2_20 lc_101 dX2_readMost_155 rfl ?_
  refine jx_alen (v := 64) h lc_109 rfl dX2_readMost_158 ?_
  refine jx_iconst h dX2_readMost_159 ki_1 ?_
  refine jx_isub h dX2_readMost_160 ?_
  refine jx_callSi [] h (c_X9_isWithin hG N x2 0 ((64 : Int32) - 1) s25) ml_X2_44 (Nat.le_of_ble_eq_true rfl) (Nat.le_of_ble_eq_true rfl) dX2_readMost_161 (Nat.le_of_ble_eq_true rfl) rfl (fun r27 s26 => ?_)
  refine jx_if_eq (tgt := 176) h dX2_readMost_164 rfl ?_ ?_
  · refine jx_iconst h dX2_readMost_176 ki_0 ?_
    exact jx_iret h dX2_readMost_177
  · refine jx_aload_n h dX2_readMost_167 rfl 0 rfl ?_
    refine jx_get (v := .ref (Ga G 109)) h fa_X2_20 lc_101 dX2_readMost_168 rfl ?_
    refine jx_iload_n h dX2_readMost_171 rfl 1 rfl ?_
    refine jx_iaload h lc_109 dX2_readMost_172 ?_
    refine jx_goto (tgt := 177) h dX2_readMost_173 rfl ?_
    exact jx_iret h dX2_readMost_177
noncomputable def st_X2_nextRead_2 (N : Nat) (x1 : Int32) (x2 : Int32)  (rec : Int32 → Mem → Option (Int32 × Mem)) (x3 : Int32) (s0 : Mem) : Option (Int32 × Mem) :=
  if 6 ≤ x3 then (some ((-1), s0)) else bd (f_X9_hasBit N x1 x3 s0) (fun r2 s1 => if r2 = 0 then (lt (x3 + 1) (fun x3_3 => rec x3_3 s1)) else bd (f_X2_giftsFrom N x1 x2 x3 s1) (fun r5 s4 => chk x1 64 (if r5 = (gi s4 109 (ix x1)) then (some (x3, s4)) else lt (x3 + 1) (fun x3_6 => rec x3_6 s4))))
noncomputable def f_X2_nextRead (N : Nat) (x1 : Int32) (x2 : Int32) (s : Mem) : Option (Int32 × Mem) :=
  itr (fun _ _ => none) (st_X2_nextRead_2 N x1 x2) N 0 s
set_option maxRecDepth 20000 in
theorem w_X2_nextRead_2 {G : Gx} (hG : Gok G ∧ IsG G layC fsoC) {P : Option (Int32 × Mem) → Nat → List (Nat × Value) → List Value → Mem → Prop} (h : Jk G layC fsoC RX2 cX2_nextRead 4 (some .int) 2 tvI P) (N : Nat) (x1 : Int32) (x2 : Int32) {rec : Int32 → Mem → Option (Int32 × Mem)} (ih : ∀ (x3 : Int32) (s : Mem), P (rec x3 s) 2 [(0, .ref (Ga G 101)), (1, .int x1), (2, .int x2), (3, .int x3)] [] s) : ∀ (x3 : Int32) (s : Mem), P (st_X2_nextRead_2 N x1 x2 rec x3 s) 2 [(0, .ref (Ga G 101)), (1, .int x1), (2, .int x2), (3, .int x3)] [] s := by
  intro x3 s0
  unfold st_X2_nextRead_2
  refine jx_iload_n h dX2_nextRead_2 rfl 3 rfl ?_
  refine jx_bipush h dX2_nextRead_3 kb_6 ?_
  refine jx_icmp_ge (tgt := 40) h dX2_nextRead_5 rfl ?_ ?_
  · refine jx_iconst h dX2_nextRead_40 ki_m1 ?_
    exact jx_iret h dX2_nextRead_41
  · refine jx_iload_n h dX2_nextRead_8 rfl 1 rfl ?_
    refine jx_iload_n h dX2_nextRead_9 rfl 3 rfl ?_
    refine jx_callSi [] h (c_X9_hasBit hG N x1 x3 s0) ml_X2_28 (Nat.le_of_ble_eq_true rfl) (Nat.le_of_ble_eq_true rfl) dX2_nextRead_10 (Nat.le_of_ble_eq_true rfl) rfl (fun r2 s1 => ?_)
    refine jx_if_eq (tgt := 34) h dX2_nextRead_13 rfl ?_ ?_
    · refine jx_iincl (L := fun w => [(3, .int w), (0, .ref (Ga G 101)), (1, .int x1), (2, .int x2)]) h dX2_nextRead_34 3 rfl (kn_1 _) (Nat.le_of_ble_eq_true rfl) (fun _ => rfl) (fun x3_3 => ?_)
      refine jx_goto (tgt := 2) h dX2_nextRead_37 rfl ?_
      exact jx_subk [1, 2, 3, 0] h (ih x3_3 s1) rfl
    · refine jx_aload_n h dX2_nextRead_16 rfl 0 rfl ?_
      refine jx_iload_n h dX2_nextRead_17 rfl 1 rfl ?_
      refine jx_iload_n h dX2_nextRead_18 rfl 2 rfl ?_
      refine jx_iload_n h dX2_nextRead_19 rfl 3 rfl ?_
      refine jx_callVi [] h lc_101 (c_X2_giftsFrom hG N x1 x2 x3 s1) ml_X2_65 (Nat.le_of_ble_eq_true rfl) (Nat.le_of_ble_eq_true rfl) dX2_nextRead_20 (Nat.le_of_ble_eq_true rfl) rfl (fun r5 s4 => ?_)
      refine jx_aload_n h dX2_nextRead_23 rfl 0 rfl ?_
      refine jx_get (v := .ref (Ga G 109)) h fa_X2_20 lc_101 dX2_nextRead_24 rfl ?_
      refine jx_iload_n h dX2_nextRead_27 rfl 1 rfl ?_
      refine jx_iaload h lc_109 dX2_nextRead_28 ?_
      refine jx_icmp_ne (tgt := 34) h dX2_nextRead_29 rfl ?_ ?_
      · refine jx_iincl (L := fun w => [(3, .int w), (0, .ref (Ga G 101)), (1, .int x1), (2, .int x2)]) h dX2_nextRead_34 3 rfl (kn_1 _) (Nat.le_of_ble_eq_true rfl) (fun _ => rfl) (fun x3_6 => ?_)
        refine jx_goto (tgt := 2) h dX2_nextRead_37 rfl ?_
        exact jx_subk [1, 2, 3, 0] h (ih x3_6 s4) rfl
      · refine jx_iload_n h dX2_nextRead_32 rfl 3 rfl ?_
        exact jx_iret h dX2_nextRead_33
set_option maxRecDepth 20000 in
theorem c_X2_nextRead {G : Gx} (hG : Gok G ∧ IsG G layC fsoC) (N : Nat) (x1 : Int32) (x2 : Int32) (s : Mem) : Ct G yX2_nextRead cX2_nextRead 4 (some .int) 2 [.ref (Ga G 101), .int x1, .int x2] tvI s (f_X2_nextRead N x1 x2 s) := by
  refine Ct.of hG (by decide) (Nat.le_of_ble_eq_true rfl) (fun P h => ?_)
  show P _ 0 [(0, .ref (Ga G 101)), (1, .int x1), (2, .int x2)] [] s
  unfold f_X2_nextRead
  refine jx_iconst h dX2_nextRead_0 ki_0 ?_
  refine jx_istore_n (lv' := [(3, .int 0), (0, .ref (Ga G 101)), (1, .int x1), (2, .int x2)]) h dX2_nextRead_1 rfl (Nat.le_of_ble_eq_true rfl) rfl ?_
  refine jx_subk [1, 2, 3, 0] h (itr_ind (Q := (fun (f : Int32 → Mem → Option (Int32 × Mem)) => ∀ (x3 : Int32) (s : Mem), P (f x3 s) 2 [(0, .ref (Ga G 101)), (1, .int x1), (2, .int x2), (3, .int x3)] [] s)) (fun _ _ => jx_none h) (fun r2 ih2 => ?_) N 0 s) rfl
  refine w_X2_nextRead_2 hG h N x1 x2  ih2
noncomputable def st_X2_readAt_8 (N : Nat) (x2 : Int32)  (rec : Int32 → Int32 → Int32 → Mem → Option (Int32 × Mem)) (x3 : Int32) (x4 : Int32) (x5 : Int32) (s0 : Mem) : Option (Int32 × Mem) :=
  if x2 < x5 then (some (x4, s0)) else if 5 ≤ x5 then (some (x4, s0)) else bd (f_X2_nextRead N x3 x5 s0) (fun r2 s1 => if 0 ≤ r2 then (lt (x3 ^^^ ((1 : Int32) <<< (r2 &&& 31))) (fun v3 => lt (x5 + 1) (fun x5_4 => rec v3 r2 x5_4 s1))) else some ((-1), s1))
noncomputable def f_X2_readAt (N : Nat) (x1 : Int32) (x2 : Int32) (s : Mem) : Option (Int32 × Mem) :=
  itr (fun _ _ _ _ => none) (st_X2_readAt_8 N x2) N x1 (-1) 0 s
set_option maxRecDepth 20000 in
theorem w_X2_readAt_8 {G : Gx} (hG : Gok G ∧ IsG G layC fsoC) {P : Option (Int32 × Mem) → Nat → List (Nat × Value) → List Value → Mem → Prop} (h : Jk G layC fsoC RX2 cX2_readAt 6 (some .int) 3 tvI P) (N : Nat) (x2 : Int32) {rec : Int32 → Int32 → Int32 → Mem → Option (Int32 × Mem)} (ih : ∀ (x3 : Int32) (x4 : Int32) (x5 : Int32) (s : Mem), P (rec x3 x4 x5 s) 8 [(0, .ref (Ga G 101)), (2, .int x2), (3, .int x3), (4, .int x4), (5, .int x5)] [] s) : ∀ (x3 : Int32) (x4 : Int32) (x5 : Int32) (s : Mem), P (st_X2_readAt_8 N x2 rec x3 x4 x5 s) 8 [(0, .ref (Ga G 101)), (2, .int x2), (3, .int x3), (4, .int x4), (5, .int x5)] [] s := by
  intro x3 x4 x5 s0
  unfold st_X2_readAt_8
  refine jx_iload h dX2_readAt_8 4 rfl ?_
  refine jx_iload_n h dX2_readAt_10 rfl 1 rfl ?_
  refine jx_icmp_gt (tgt := 49) h dX2_readAt_11 rfl ?_ ?_
  · refine jx_iload h dX2_readAt_49 3 rfl ?_
    exact jx_iret h dX2_readAt_51
  · refine jx_iload h dX2_readAt_14 4 rfl ?_
    refine jx_iconst h dX2_readAt_16 ki_5 ?_
    refine jx_icmp_ge (tgt := 49) h dX2_readAt_17 rfl ?_ ?_
    · refine jx_iload h dX2_readAt_49 3 rfl ?_
      exact jx_iret h dX2_readAt_51
    · refine jx_aload_n h dX2_readAt_20 rfl 0 rfl ?_
      refine jx_iload_n h dX2_readAt_21 rfl 2 rfl ?_
      refine jx_iload h dX2_readAt_22 4 rfl ?_
      refine jx_callVi [] h lc_101 (c_X2_nextRead hG N x3 x5 s0) ml_X2_73 (Nat.le_of_ble_eq_true rfl) (Nat.le_of_ble_eq_true rfl) dX2_readAt_24 (Nat.le_of_ble_eq_true rfl) rfl (fun r2 s1 => ?_)
      refine jx_istore (lv' := [(4, .int r2), (0, .ref (Ga G 101)), (2, .int x2), (3, .int x3), (5, .int x5)]) h dX2_readAt_27 (Nat.le_of_ble_eq_true rfl) rfl ?_
      refine jx_iload h dX2_readAt_29 0 rfl ?_
      refine jx_if_ge (tgt := 36) h dX2_readAt_31 rfl ?_ ?_
      · refine jx_iload_n h dX2_readAt_36 rfl 3 rfl ?_
        refine jx_iconst h dX2_readAt_37 ki_1 ?_
        refine jx_iload h dX2_readAt_38 0 rfl ?_
        refine jx_ishl h dX2_readAt_40 ?_
        refine jx_ixor h dX2_readAt_41 ?_
        refine jx_lti (fun v3 => ?_)
        refine jx_istore_n (lv' := [(3, .int v3), (4, .int r2), (0, .ref (Ga G 101)), (2, .int x2), (5, .int x5)]) h dX2_readAt_42 rfl (Nat.le_of_ble_eq_true rfl) rfl ?_
        refine jx_iincl (L := fun w => [(5, .int w), (3, .int v3), (4, .int r2), (0, .ref (Ga G 101)), (2, .int x2)]) h dX2_readAt_43 4 rfl (kn_1 _) (Nat.le_of_ble_eq_true rfl) (fun _ => rfl) (fun x5_4 => ?_)
        refine jx_goto (tgt := 8) h dX2_readAt_46 rfl ?_
        exact jx_subk [3, 4, 1, 2, 0] h (ih v3 r2 x5_4 s1) rfl
      · refine jx_iconst h dX2_readAt_34 ki_m1 ?_
        exact jx_iret h dX2_readAt_35
set_option maxRecDepth 20000 in
theorem c_X2_readAt {G : Gx} (hG : Gok G ∧ IsG G layC fsoC) (N : Nat) (x1 : Int32) (x2 : Int32) (s : Mem) : Ct G yX2_readAt cX2_readAt 6 (some .int) 3 [.ref (Ga G 101), .int x1, .int x2] tvI s (f_X2_readAt N x1 x2 s) := by
  refine Ct.of hG (by decide) (Nat.le_of_ble_eq_true rfl) (fun P h => ?_)
  show P _ 0 [(0, .ref (Ga G 101)), (1, .int x1), (2, .int x2)] [] s
  unfold f_X2_readAt
  refine jx_iload_n h dX2_readAt_0 rfl 1 rfl ?_
  refine jx_istore_n (lv' := [(3, .int x1), (0, .ref (Ga G 101)), (1, .int x1), (2, .int x2)]) h dX2_readAt_1 rfl (Nat.le_of_ble_eq_true rfl) rfl ?_
  refine jx_iconst h dX2_readAt_2 ki_m1 ?_
  refine jx_istore (lv' := [(4, .int (-1)), (3, .int x1), (0, .ref (Ga G 101)), (1, .int x1), (2, .int x2)]) h dX2_readAt_3 (Nat.le_of_ble_eq_true rfl) rfl ?_
  refine jx_iconst h dX2_readAt_5 ki_0 ?_
  refine jx_istore (lv' := [(5, .int 0), (4, .int (-1)), (3, .int x1), (0, .ref (Ga G 101)), (1, .int x1), (2, .int x2)]) h dX2_readAt_6 (Nat.le_of_ble_eq_true rfl) rfl ?_
  refine jx_subk [3, 5, 2, 1, 0] h (itr_ind (Q := (fun (f : Int32 → Int32 → Int32 → Mem → Option (Int32 × Mem)) => ∀ (x3 : Int32) (x4 : Int32) (x5 : Int32) (s : Mem), P (f x3 x4 x5 s) 8 [(0, .ref (Ga G 101)), (2, .int x2), (3, .int x3), (4, .int x4), (5, .int x5)] [] s)) (fun _ _ _ _ => jx_none h) (fun r8 ih8 => ?_) N x1 (-1) 0 s) rfl
  refine w_X2_readAt_8 hG h N x2  ih8
noncomputable def st_X2_bestOf_11 (N : Nat) (x1 : Int32) (x2 : Int32) (x3 : Nat) (x4 : Nat)  (rec : Int32 → Int32 → Mem → Option (Int32 × Mem)) (x5 : Int32) (x6 : Int32) (s0 : Mem) : Option (Int32 × Mem) :=
  if 12 ≤ x6 then (some (x5, s0)) else bd (f_X0_tiredBehind N x3 x1 x6 0 s0) (fun r3 s2 => bd (f_X0_giftBehind N x3 x6 x1 x2 r3 x4 s2) (fun r5 s4 => if r5 ≤ (gi s4 101 3) then (lt (x6 + 1) (fun x6_6 => rec x5 x6_6 s4)) else lt (si s4 101 3 r5) (fun s7 => lt (x6 + 1) (fun x6_8 => rec x6 x6_8 s7))))
noncomputable def f_X2_bestOf (N : Nat) (x1 : Int32) (x2 : Int32) (x3 : Nat) (x4 : Nat) (s : Mem) : Option (Int32 × Mem) :=
  lt (si s 101 3 (-1)) (fun s1 => itr (fun _ _ _ => none) (st_X2_bestOf_11 N x1 x2 x3 x4) N 0 0 s1)
set_option maxRecDepth 20000 in
theorem w_X2_bestOf_11 {G : Gx} (hG : Gok G ∧ IsG G layC fsoC) {P : Option (Int32 × Mem) → Nat → List (Nat × Value) → List Value → Mem → Prop} (h : Jk G layC fsoC RX2 cX2_bestOf 8 (some .int) 4 tvI P) (N : Nat) (x1 : Int32) (x2 : Int32) (x3 : Nat) (x4 : Nat) (hx3 : isBk x3 = true) (hx4 : isLw x4 = true) {rec : Int32 → Int32 → Mem → Option (Int32 × Mem)} (ih : ∀ (x5 : Int32) (x6 : Int32) (s : Mem), P (rec x5 x6 s) 11 [(0, .ref (Ga G 101)), (1, .int x1), (2, .int x2), (3, .ref (Ga G x3)), (4, .ref (Ga G x4)), (5, .int x5), (6, .int x6)] [] s) : ∀ (x5 : Int32) (x6 : Int32) (s : Mem), P (st_X2_bestOf_11 N x1 x2 x3 x4 rec x5 x6 s) 11 [(0, .ref (Ga G 101)), (1, .int x1), (2, .int x2), (3, .ref (Ga G x3)), (4, .ref (Ga G x4)), (5, .int x5), (6, .int x6)] [] s := by
  intro x5 x6 s0
  unfold st_X2_bestOf_11
  refine jx_iload h dX2_bestOf_11 6 rfl ?_
  refine jx_bipush h dX2_bestOf_13 kb_12 ?_
  refine jx_icmp_ge (tgt := 63) h dX2_bestOf_15 rfl ?_ ?_
  · refine jx_iload h dX2_bestOf_63 5 rfl ?_
    exact jx_iret h dX2_bestOf_65
  · refine jx_aload_n h dX2_bestOf_18 rfl 3 rfl ?_
    refine jx_iload h dX2_bestOf_19 6 rfl ?_
    refine jx_iload_n h dX2_bestOf_21 rfl 1 rfl ?_
    refine jx_iload_n h dX2_bestOf_22 rfl 2 rfl ?_
    refine jx_aload_n h dX2_bestOf_23 rfl 3 rfl ?_
    refine jx_iload_n h dX2_bestOf_24 rfl 1 rfl ?_
    refine jx_iload h dX2_bestOf_25 6 rfl ?_
    refine jx_iconst h dX2_bestOf_27 ki_0 ?_
    refine jx_callVi [.int x2, .int x1, .int x6, .ref (Ga G x3)] h (isBk_o hx3) (c_X0_tiredBehind hG N x3 hx3 x1 x6 0 s0) ml_X2_53 (Nat.le_of_ble_eq_true rfl) (Nat.le_of_ble_eq_true rfl) dX2_bestOf_28 (Nat.le_of_ble_eq_true rfl) rfl (fun r3 s2 => ?_)
    refine jx_aload h dX2_bestOf_31 4 rfl ?_
    refine jx_callVi [] h (isBk_o hx3) (c_X0_giftBehind hG N x3 hx3 x6 x1 x2 r3 x4 hx4 s2) ml_X2_57 (Nat.le_of_ble_eq_true rfl) (Nat.le_of_ble_eq_true rfl) dX2_bestOf_33 (Nat.le_of_ble_eq_true rfl) rfl (fun r5 s4 => ?_)
    refine jx_istore (lv' := [(7, .int r5), (0, .ref (Ga G 101)), (1, .int x1), (2, .int x2), (3, .ref (Ga G x3)), (4, .ref (Ga G x4)), (5, .int x5), (6, .int x6)]) h dX2_bestOf_36 (Nat.le_of_ble_eq_true rfl) rfl ?_
    refine jx_iload h dX2_bestOf_38 0 rfl ?_
    refine jx_aload_n h dX2_bestOf_40 rfl 1 rfl ?_
    refine jx_get (v := .int (gi s4 101 3)) h fa_X2_76 lc_101 dX2_bestOf_41 rfl ?_
    refine jx_icmp_le (tgt := 57) h dX2_bestOf_44 rfl ?_ ?_
    · refine jx_iincl (L := fun w => [(6, .int w), (7, .int r5), (0, .ref (Ga G 101)), (1, .int x1), (2, .int x2), (3, .ref (Ga G x3)), (4, .ref (Ga G x4)), (5, .int x5)]) h dX2_bestOf_57 7 rfl (kn_1 _) (Nat.le_of_ble_eq_true rfl) (fun _ => rfl) (fun x6_6 => ?_)
      refine jx_goto (tgt := 11) h dX2_bestOf_60 rfl ?_
      exact jx_subk [2, 3, 4, 5, 6, 7, 0] h (ih x5 x6_6 s4) rfl
    · refine jx_aload_n h dX2_bestOf_47 rfl 1 rfl ?_
      refine jx_iload h dX2_bestOf_48 0 rfl ?_
      refine jx_put h fa_X2_76 fp_X2_3 lc_101 rfl rfl dX2_bestOf_50 (fu_X2_3 _ _ _ _) (fun s7 => ?_)
      refine jx_iload h dX2_bestOf_53 7 rfl ?_
      refine jx_istore (lv' := [(5, .int x6), (7, .int r5), (0, .ref (Ga G 101)), (1, .int x1), (2, .int x2), (3, .ref (Ga G x3)), (4, .ref (Ga G x4)), (6, .int x6)]) h dX2_bestOf_55 (Nat.le_of_ble_eq_true rfl) rfl ?_
      refine jx_iincl (L := fun w => [(6, .int w), (5, .int x6), (7, .int r5), (0, .ref (Ga G 101)), (1, .int x1), (2, .int x2), (3, .ref (Ga G x3)), (4, .ref (Ga G x4))]) h dX2_bestOf_57 7 rfl (kn_1 _) (Nat.le_of_ble_eq_true rfl) (fun _ => rfl) (fun x6_8 => ?_)
      refine jx_goto (tgt := 11) h dX2_bestOf_60 rfl ?_
      exact jx_subk [3, 4, 5, 6, 7, 1, 0] h (ih x6 x6_8 s7) rfl
set_option maxRecDepth 20000 in
theorem c_X2_bestOf {G : Gx} (hG : Gok G ∧ IsG G layC fsoC) (N : Nat) (x1 : Int32) (x2 : Int32) (x3 : Nat) (hx3 : isBk x3 = true) (x4 : Nat) (hx4 : isLw x4 = true) (s : Mem) : Ct G yX2_bestOf cX2_bestOf 8 (some .int) 4 [.ref (Ga G 101), .int x1, .int x2, .ref (Ga G x3), .ref (Ga G x4)] tvI s (f_X2_bestOf N x1 x2 x3 x4 s) := by
  refine Ct.of hG (by decide) (Nat.le_of_ble_eq_true rfl) (fun P h => ?_)
  show P _ 0 [(0, .ref (Ga G 101)), (1, .int x1), (2, .int x2), (3, .ref (Ga G x3)), (4, .ref (Ga G x4))] [] s
  unfold f_X2_bestOf
  refine jx_iconst h dX2_bestOf_0 ki_0 ?_
  refine jx_istore (lv' := [(5, .int 0), (0, .ref (Ga G 101)), (1, .int x1), (2, .int x2), (3, .ref (Ga G x3)), (4, .ref (Ga G x4))]) h dX2_bestOf_1 (Nat.le_of_ble_eq_true rfl) rfl ?_
  refine jx_aload_n h dX2_bestOf_3 rfl 1 rfl ?_
  refine jx_iconst h dX2_bestOf_4 ki_m1 ?_
  refine jx_put h fa_X2_76 fp_X2_3 lc_101 rfl rfl dX2_bestOf_5 (fu_X2_3 _ _ _ _) (fun s1 => ?_)
  refine jx_iconst h dX2_bestOf_8 ki_0 ?_
  refine jx_istore (lv' := [(6, .int 0), (5, .int 0), (0, .ref (Ga G 101)), (1, .int x1), (2, .int x2), (3, .ref (Ga G x3)), (4, .ref (Ga G x4))]) h dX2_bestOf_9 (Nat.le_of_ble_eq_true rfl) rfl ?_
  refine jx_subk [2, 3, 4, 5, 6, 1, 0] h (itr_ind (Q := (fun (f : Int32 → Int32 → Mem → Option (Int32 × Mem)) => ∀ (x5 : Int32) (x6 : Int32) (s : Mem), P (f x5 x6 s) 11 [(0, .ref (Ga G 101)), (1, .int x1), (2, .int x2), (3, .ref (Ga G x3)), (4, .ref (Ga G x4)), (5, .int x5), (6, .int x6)] [] s)) (fun _ _ _ => jx_none h) (fun r11 ih11 => ?_) N 0 0 s1) rfl
  refine w_X2_bestOf_11 hG h N x1 x2 x3 x4 hx3 hx4  ih11
noncomputable def f_X3_tell (N : Nat) (x1 : Int32) (s : Mem) : Option (Unit × Mem) :=
  lt (si s 3 0 ((gi s 3 0) ||| ((1 : Int32) <<< (x1 &&& 31)))) (fun s1 => some ((), s1))
set_option maxRecDepth 20000 in
theorem c_X3_tell {G : Gx} (hG : Gok G ∧ IsG G layC fsoC) (N : Nat) (x1 : Int32) (s : Mem) : Ct G yX3_tell cX3_tell 2 none 0 [.ref (Ga G 3), .int x1] tvV s (f_X3_tell N x1 s) := by
  refine Ct.of hG (by decide) (Nat.le_of_ble_eq_true rfl) (fun P h => ?_)
  show P _ 0 [(0, .ref (Ga G 3)), (1, .int x1)] [] s
  unfold f_X3_tell
  refine jx_aload_n h dX3_tell_0 rfl 0 rfl ?_
  refine jx_dup h dX3_tell_1 rfl ?_
  refine jx_get (v := .int (gi s 3 0)) h fa_X3_30 lc_3 dX3_tell_2 rfl ?_
  refine jx_iconst h dX3_tell_5 ki_1 ?_
  refine jx_iload_n h dX3_tell_6 rfl 1 rfl ?_
  refine jx_ishl h dX3_tell_7 ?_
  refine jx_ior h dX3_tell_8 ?_
  refine jx_put h fa_X3_30 fp_X3_0 lc_3 rfl rfl dX3_tell_9 (fu_X3_0 _ _ _ _) (fun s1 => ?_)
  exact jx_vret h dX3_tell_12
noncomputable def f_X3_lay (N : Nat) (x1 : Int32) (x2 : Int32) (x3 : Int32) (s : Mem) : Option (Unit × Mem) :=
  chk x1 12 (chk x2 12 (lt (si s (4 + 1 + ix x1) (ix x2) x3) (fun s2 => chk x2 12 (chk x1 12 (lt (si s2 (4 + 1 + ix x2) (ix x1) x3) (fun s4 => lt (si s4 3 3 0) (fun s5 => some ((), s5))))))))
set_option maxRecDepth 20000 in
theorem c_X3_lay {G : Gx} (hG : Gok G ∧ IsG G layC fsoC) (N : Nat) (x1 : Int32) (x2 : Int32) (x3 : Int32) (s : Mem) : Ct G yX3_lay cX3_lay 4 none 0 [.ref (Ga G 3), .int x1, .int x2, .int x3] tvV s (f_X3_lay N x1 x2 x3 s) := by
  refine Ct.of hG (by decide) (Nat.le_of_ble_eq_true rfl) (fun P h => ?_)
  show P _ 0 [(0, .ref (Ga G 3)), (1, .int x1), (2, .int x2), (3, .int x3)] [] s
  unfold f_X3_lay
  refine jx_aload_n h dX3_lay_0 rfl 0 rfl ?_
  refine jx_get (v := .ref (Ga G 4)) h fa_X3_11 lc_3 dX3_lay_1 rfl ?_
  refine jx_iload_n h dX3_lay_4 rfl 1 rfl ?_
  refine jx_aaload h lc_4 dX3_lay_5 (fun hr1 => ?_)
  refine jx_iload_n h dX3_lay_6 rfl 2 rfl ?_
  refine jx_iload_n h dX3_lay_7 rfl 3 rfl ?_
  refine jx_iastore h (lr_4 hr1) dX3_lay_8 (fun s2 => ?_)
  refine jx_aload_n h dX3_lay_9 rfl 0 rfl ?_
  refine jx_get (v := .ref (Ga G 4)) h fa_X3_11 lc_3 dX3_lay_10 rfl ?_
  refine jx_iload_n h dX3_lay_13 rfl 2 rfl ?_
  refine jx_aaload h lc_4 dX3_lay_14 (fun hr3 => ?_)
  refine jx_iload_n h dX3_lay_15 rfl 1 rfl ?_
  refine jx_iload_n h dX3_lay_16 rfl 3 rfl ?_
  refine jx_iastore h (lr_4 hr3) dX3_lay_17 (fun s4 => ?_)
  refine jx_aload_n h dX3_lay_18 rfl 0 rfl ?_
  refine jx_iconst h dX3_lay_19 ki_0 ?_
  refine jx_put h fa_X3_38 fp_X3_3 lc_3 (by decide) rfl dX3_lay_20 (fu_X3_3 _ _ _ _) (fun s5 => ?_)
  exact jx_vret h dX3_lay_23
noncomputable def st_X3_findWays_10 (N : Nat) (x1 : Int32) (k54 : Mem → Option (Unit × Mem)) (rec : Int32 → Mem → Option (Unit × Mem)) (x2 : Int32) (s0 : Mem) : Option (Unit × Mem) :=
  if 12 ≤ x2 then (k54 s0) else chk x1 12 (chk x1 12 (chk x2 12 (if (gi s0 (4 + 1 + ix x1) (ix x2)) ≤ 0 then (chk x2 12 (lt (si s0 (17 + 1 + ix x1) (ix x2) 1000000) (fun s3 => lt (x2 + 1) (fun x2_4 => rec x2_4 s3)))) else chk x1 12 (chk x2 12 (chk x2 12 (lt (si s0 (17 + 1 + ix x1) (ix x2) (gi s0 (4 + 1 + ix x1) (ix x2))) (fun s6 => lt (x2 + 1) (fun x2_7 => rec x2_7 s6))))))))
noncomputable def st_X3_findWays_2 (N : Nat) (k69 : Mem → Option (Unit × Mem)) (rec : Int32 → Mem → Option (Unit × Mem)) (x1 : Int32) (s0 : Mem) : Option (Unit × Mem) :=
  if 12 ≤ x1 then (k69 s0) else itr (fun _ _ => none) (st_X3_findWays_10 N x1 (fun  (s8 : Mem) => chk x1 12 (chk x1 12 (lt (si s8 (17 + 1 + ix x1) (ix x1) 0) (fun s10 => lt (x1 + 1) (fun x1_11 => rec x1_11 s10)))))) N 0 s0
noncomputable def st_X3_findWays_87 (N : Nat) (x1 : Int32) (x2 : Int32) (k135 : Mem → Option (Unit × Mem)) (rec : Int32 → Mem → Option (Unit × Mem)) (x3 : Int32) (s0 : Mem) : Option (Unit × Mem) :=
  if 12 ≤ x3 then (k135 s0) else chk x2 12 (chk x2 12 (chk x3 12 (chk x2 12 (chk x1 12 (chk x1 12 (chk x3 12 (chk x3 12 (lt (si s0 (17 + 1 + ix x2) (ix x3) (imin (gi s0 (17 + 1 + ix x2) (ix x3)) ((gi s0 (17 + 1 + ix x2) (ix x1)) + (gi s0 (17 + 1 + ix x1) (ix x3))))) (fun s17 => lt (x3 + 1) (fun x3_18 => rec x3_18 s17))))))))))
noncomputable def st_X3_findWays_79 (N : Nat) (x1 : Int32) (k141 : Mem → Option (Unit × Mem)) (rec : Int32 → Mem → Option (Unit × Mem)) (x2 : Int32) (s0 : Mem) : Option (Unit × Mem) :=
  if 12 ≤ x2 then (k141 s0) else itr (fun _ _ => none) (st_X3_findWays_87 N x1 x2 (fun  (s19 : Mem) => lt (x2 + 1) (fun x2_20 => rec x2_20 s19))) N 0 s0
noncomputable def st_X3_findWays_71 (N : Nat)  (rec : Int32 → Mem → Option (Unit × Mem)) (x1 : Int32) (s0 : Mem) : Option (Unit × Mem) :=
  if 12 ≤ x1 then (some ((), s0)) else itr (fun _ _ => none) (st_X3_findWays_79 N x1 (fun  (s21 : Mem) => lt (x1 + 1) (fun x1_22 => rec x1_22 s21))) N 0 s0
noncomputable def f_X3_findWays (N : Nat)  (s : Mem) : Option (Unit × Mem) :=
  itr (fun _ _ => none) (st_X3_findWays_2 N (fun  (s12 : Mem) => itr (fun _ _ => none) (st_X3_findWays_71 N) N 0 s12)) N 0 s
set_option maxRecDepth 20000 in
theorem w_X3_findWays_10 {G : Gx} (hG : Gok G ∧ IsG G layC fsoC) {P : Option (Unit × Mem) → Nat → List (Nat × Value) → List Value → Mem → Prop} (h : Jk G layC fsoC RX3 cX3_findWays 4 none 1 tvV P) (N : Nat) (x1 : Int32) {k54 : Mem → Option (Unit × Mem)} (hk54 : ∀  (s : Mem), P (k54 s) 54 [(0, .ref (Ga G 3)), (1, .int x1)] [] s) {rec : Int32 → Mem → Option (Unit × Mem)} (ih : ∀ (x2 : Int32) (s : Mem), P (rec x2 s) 10 [(0, .ref (Ga G 3)), (1, .int x1), (2, .int x2)] [] s) : ∀ (x2 : Int32) (s : Mem), P (st_X3_findWays_10 N x1 k54 rec x2 s) 10 [(0, .ref (Ga G 3)), (1, .int x1), (2, .int x2)] [] s := by
  intro x2 s0
  unfold st_X3_findWays_10
  refine jx_iload_n h dX3_findWays_10 rfl 2 rfl ?_
  refine jx_bipush h dX3_findWays_11 kb_12 ?_
  refine jx_icmp_ge (tgt := 54) h dX3_findWays_13 rfl ?_ ?_
  · exact jx_subk [0, 1] h (hk54 s0) rfl
  · refine jx_aload_n h dX3_findWays_16 rfl 0 rfl ?_
    refine jx_get (v := .ref (Ga G 17)) h fa_X3_16 lc_3 dX3_findWays_17 rfl ?_
    refine jx_iload_n h dX3_findWays_20 rfl 1 rfl ?_
    refine jx_aaload h lc_17 dX3_findWays_21 (fun hr1 => ?_)
    refine jx_iload_n h dX3_findWays_22 rfl 2 rfl ?_
    refine jx_aload_n h dX3_findWays_23 rfl 0 rfl ?_
    refine jx_get (v := .ref (Ga G 4)) h fa_X3_11 lc_3 dX3_findWays_24 rfl ?_
    refine jx_iload_n h dX3_findWays_27 rfl 1 rfl ?_
    refine jx_aaload h lc_4 dX3_findWays_28 (fun hr2 => ?_)
    refine jx_iload_n h dX3_findWays_29 rfl 2 rfl ?_
    refine jx_iaload h (lr_4 hr2) dX3_findWays_30 ?_
    refine jx_if_le (tgt := 45) h dX3_findWays_31 rfl ?_ ?_
    · refine jx_ldc h dX3_findWays_45 kw_X3_45 ?_
      refine jx_iastore h (lr_17 hr1) dX3_findWays_47 (fun s3 => ?_)
      refine jx_iincl (L := fun w => [(2, .int w), (0, .ref (Ga G 3)), (1, .int x1)]) h dX3_findWays_48 2 rfl (kn_1 _) (Nat.le_of_ble_eq_true rfl) (fun _ => rfl) (fun x2_4 => ?_)
      refine jx_goto (tgt := 10) h dX3_findWays_51 rfl ?_
      exact jx_subk [1, 2, 0] h (ih x2_4 s3) rfl
    · refine jx_aload_n h dX3_findWays_34 rfl 0 rfl ?_
      refine jx_get (v := .ref (Ga G 4)) h fa_X3_11 lc_3 dX3_findWays_35 rfl ?_
      refine jx_iload_n h dX3_findWays_38 rfl 1 rfl ?_
      refine jx_aaload h lc_4 dX3_findWays_39 (fun hr5 => ?_)
      refine jx_iload_n h dX3_findWays_40 rfl 2 rfl ?_
      refine jx_iaload h (lr_4 hr5) dX3_findWays_41 ?_
      refine jx_goto (tgt := 47) h dX3_findWays_42 rfl ?_
      refine jx_iastore h (lr_17 hr1) dX3_findWays_47 (fun s6 => ?_)
      refine jx_iincl (L := fun w => [(2, .int w), (0, .ref (Ga G 3)), (1, .int x1)]) h dX3_findWays_48 2 rfl (kn_1 _) (Nat.le_of_ble_eq_true rfl) (fun _ => rfl) (fun x2_7 => ?_)
      refine jx_goto (tgt := 10) h dX3_findWays_51 rfl ?_
      exact jx_subk [1, 2, 0] h (ih x2_7 s6) rfl
set_option maxRecDepth 20000 in
theorem w_X3_findWays_2 {G : Gx} (hG : Gok G ∧ IsG G layC fsoC) {P : Option (Unit × Mem) → Nat → List (Nat × Value) → List Value → Mem → Prop} (h : Jk G layC fsoC RX3 cX3_findWays 4 none 1 tvV P) (N : Nat) {k69 : Mem → Option (Unit × Mem)} (hk69 : ∀  (s : Mem), P (k69 s) 69 [(0, .ref (Ga G 3))] [] s) {rec : Int32 → Mem → Option (Unit × Mem)} (ih : ∀ (x1 : Int32) (s : Mem), P (rec x1 s) 2 [(0, .ref (Ga G 3)), (1, .int x1)] [] s) : ∀ (x1 : Int32) (s : Mem), P (st_X3_findWays_2 N k69 rec x1 s) 2 [(0, .ref (Ga G 3)), (1, .int x1)] [] s := by
  intro x1 s0
  unfold st_X3_findWays_2
  refine jx_iload_n h dX3_findWays_2 rfl 1 rfl ?_
  refine jx_bipush h dX3_findWays_3 kb_12 ?_
  refine jx_icmp_ge (tgt := 69) h dX3_findWays_5 rfl ?_ ?_
  · exact jx_subk [0] h (hk69 s0) rfl
  · refine jx_iconst h dX3_findWays_8 ki_0 ?_
    refine jx_istore_n (lv' := [(2, .int 0), (0, .ref (Ga G 3)), (1, .int x1)]) h dX3_findWays_9 rfl (Nat.le_of_ble_eq_true rfl) rfl ?_
    refine jx_subk [1, 2, 0] h (itr_ind (Q := (fun (f : Int32 → Mem → Option (Unit × Mem)) => ∀ (x2 : Int32) (s : Mem), P (f x2 s) 10 [(0, .ref (Ga G 3)), (1, .int x1), (2, .int x2)] [] s)) (fun _ _ => jx_none h) (fun r10 ih10 => ?_) N 0 s0) rfl
    refine w_X3_findWays_10 hG h N x1 ?_ ih10
    intro s8
    refine jx_aload_n h dX3_findWays_54 rfl 0 rfl ?_
    refine jx_get (v := .ref (Ga G 17)) h fa_X3_16 lc_3 dX3_findWays_55 rfl ?_
    refine jx_iload_n h dX3_findWays_58 rfl 1 rfl ?_
    refine jx_aaload h lc_17 dX3_findWays_59 (fun hr9 => ?_)
    refine jx_iload_n h dX3_findWays_60 rfl 1 rfl ?_
    refine jx_iconst h dX3_findWays_61 ki_0 ?_
    refine jx_iastore h (lr_17 hr9) dX3_findWays_62 (fun s10 => ?_)
    refine jx_iincl (L := fun w => [(1, .int w), (0, .ref (Ga G 3))]) h dX3_findWays_63 1 rfl (kn_1 _) (Nat.le_of_ble_eq_true rfl) (fun _ => rfl) (fun x1_11 => ?_)
    refine jx_goto (tgt := 2) h dX3_findWays_66 rfl ?_
    exact jx_subk [1, 0] h (ih x1_11 s10) rfl
set_option maxRecDepth 20000 in
theorem w_X3_findWays_87 {G : Gx} (hG : Gok G ∧ IsG G layC fsoC) {P : Option (Unit × Mem) → Nat → List (Nat × Value) → List Value → Mem → Prop} (h : Jk G layC fsoC RX3 cX3_findWays 4 none 1 tvV P) (N : Nat) (x1 : Int32) (x2 : Int32) {k135 : Mem → Option (Unit × Mem)} (hk135 : ∀  (s : Mem), P (k135 s) 135 [(0, .ref (Ga G 3)), (1, .int x1), (2, .int x2)] [] s) {rec : Int32 → Mem → Option (Unit × Mem)} (ih : ∀ (x3 : Int32) (s : Mem), P (rec x3 s) 87 [(0, .ref (Ga G 3)), (1, .int x1), (2, .int x2), (3, .int x3)] [] s) : ∀ (x3 : Int32) (s : Mem), P (st_X3_findWays_87 N x1 x2 k135 rec x3 s) 87 [(0, .ref (Ga G 3)), (1, .int x1), (2, .int x2), (3, .int x3)] [] s := by
  intro x3 s0
  unfold st_X3_findWays_87
  refine jx_iload_n h dX3_findWays_87 rfl 3 rfl ?_
  refine jx_bipush h dX3_findWays_88 kb_12 ?_
  refine jx_icmp_ge (tgt := 135) h dX3_findWays_90 rfl ?_ ?_
  · exact jx_subk [0, 1, 2] h (hk135 s0) rfl
  · refine jx_aload_n h dX3_findWays_93 rfl 0 rfl ?_
    refine jx_get (v := .ref (Ga G 17)) h fa_X3_16 lc_3 dX3_findWays_94 rfl ?_
    refine jx_iload_n h dX3_findWays_97 rfl 2 rfl ?_
    refine jx_aaload h lc_17 dX3_findWays_98 (fun hr13 => ?_)
    refine jx_iload_n h dX3_findWays_99 rfl 3 rfl ?_
    refine jx_aload_n h dX3_findWays_100 rfl 0 rfl ?_
    refine jx_get (v := .ref (Ga G 17)) h fa_X3_16 lc_3 dX3_findWays_101 rfl ?_
    refine jx_iload_n h dX3_findWays_104 rfl 2 rfl ?_
    refine jx_aaload h lc_17 dX3_findWays_105 (fun hr14 => ?_)
    refine jx_iload_n h dX3_findWays_106 rfl 3 rfl ?_
    refine jx_iaload h (lr_17 hr14) dX3_findWays_107 ?_
    refine jx_aload_n h dX3_findWays_108 rfl 0 rfl ?_
    refine jx_get (v := .ref (Ga G 17)) h fa_X3_16 lc_3 dX3_findWays_109 rfl ?_
    refine jx_iload_n h dX3_findWays_112 rfl 2 rfl ?_
    refine jx_aaload h lc_17 dX3_findWays_113 (fun hr15 => ?_)
    refine jx_iload_n h dX3_findWays_114 rfl 1 rfl ?_
    refine jx_iaload h (lr_17 hr15) dX3_findWays_115 ?_
    refine jx_aload_n h dX3_findWays_116 rfl 0 rfl ?_
    refine jx_get (v := .ref (Ga G 17)) h fa_X3_16 lc_3 dX3_findWays_117 rfl ?_
    refine jx_iload_n h dX3_findWays_120 rfl 1 rfl ?_
    refine jx_aaload h lc_17 dX3_findWays_121 (fun hr16 => ?_)
    refine jx_iload_n h dX3_findWays_122 rfl 3 rfl ?_
    refine jx_iaload h (lr_17 hr16) dX3_findWays_123 ?_
    refine jx_iadd h dX3_findWays_124 ?_
    refine jx_mmin h mm_X3_46 (Nat.le_of_ble_eq_true rfl) (Nat.le_of_ble_eq_true rfl) dX3_findWays_125 ?_
    refine jx_iastore h (lr_17 hr13) dX3_findWays_128 (fun s17 => ?_)
    refine jx_iincl (L := fun w => [(3, .int w), (0, .ref (Ga G 3)), (1, .int x1), (2, .int x2)]) h dX3_findWays_129 3 rfl (kn_1 _) (Nat.le_of_ble_eq_true rfl) (fun _ => rfl) (fun x3_18 => ?_)
    refine jx_goto (tgt := 87) h dX3_findWays_132 rfl ?_
    exact jx_subk [1, 2, 3, 0] h (ih x3_18 s17) rfl
set_option maxRecDepth 20000 in
theorem w_X3_findWays_79 {G : Gx} (hG : Gok G ∧ IsG G layC fsoC) {P : Option (Unit × Mem) → Nat → List (Nat × Value) → List Value → Mem → Prop} (h : Jk G layC fsoC RX3 cX3_findWays 4 none 1 tvV P) (N : Nat) (x1 : Int32) {k141 : Mem → Option (Unit × Mem)} (hk141 : ∀  (s : Mem), P (k141 s) 141 [(0, .ref (Ga G 3)), (1, .int x1)] [] s) {rec : Int32 → Mem → Option (Unit × Mem)} (ih : ∀ (x2 : Int32) (s : Mem), P (rec x2 s) 79 [(0, .ref (Ga G 3)), (1, .int x1), (2, .int x2)] [] s) : ∀ (x2 : Int32) (s : Mem), P (st_X3_findWays_79 N x1 k141 rec x2 s) 79 [(0, .ref (Ga G 3)), (1, .int x1), (2, .int x2)] [] s := by
  intro x2 s0
  unfold st_X3_findWays_79
  refine jx_iload_n h dX3_findWays_79 rfl 2 rfl ?_
  refine jx_bipush h dX3_findWays_80 kb_12 ?_
  refine jx_icmp_ge (tgt := 141) h dX3_findWays_82 rfl ?_ ?_
  · exact jx_subk [0, 1] h (hk141 s0) rfl
  · refine jx_iconst h dX3_findWays_85 ki_0 ?_
    refine jx_istore_n (lv' := [(3, .int 0), (0, .ref (Ga G 3)), (1, .int x1), (2, .int x2)]) h dX3_findWays_86 rfl (Nat.le_of_ble_eq_true rfl) rfl ?_
    refine jx_subk [1, 2, 3, 0] h (itr_ind (Q := (fun (f : Int32 → Mem → Option (Unit × Mem)) => ∀ (x3 : Int32) (s : Mem), P (f x3 s) 87 [(0, .ref (Ga G 3)), (1, .int x1), (2, .int x2), (3, .int x3)] [] s)) (fun _ _ => jx_none h) (fun r87 ih87 => ?_) N 0 s0) rfl
    refine w_X3_findWays_87 hG h N x1 x2 ?_ ih87
    intro s19
    refine jx_iincl (L := fun w => [(2, .int w), (0, .ref (Ga G 3)), (1, .int x1)]) h dX3_findWays_135 2 rfl (kn_1 _) (Nat.le_of_ble_eq_true rfl) (fun _ => rfl) (fun x2_20 => ?_)
    refine jx_goto (tgt := 79) h dX3_findWays_138 rfl ?_
    exact jx_subk [1, 2, 0] h (ih x2_20 s19) rfl
set_option maxRecDepth 20000 in
theorem w_X3_findWays_71 {G : Gx} (hG : Gok G ∧ IsG G layC fsoC) {P : Option (Unit × Mem) → Nat → List (Nat × Value) → List Value → Mem → Prop} (h : Jk G layC fsoC RX3 cX3_findWays 4 none 1 tvV P) (N : Nat) {rec : Int32 → Mem → Option (Unit × Mem)} (ih : ∀ (x1 : Int32) (s : Mem), P (rec x1 s) 71 [(0, .ref (Ga G 3)), (1, .int x1)] [] s) : ∀ (x1 : Int32) (s : Mem), P (st_X3_findWays_71 N rec x1 s) 71 [(0, .ref (Ga G 3)), (1, .int x1)] [] s := by
  intro x1 s0
  unfold st_X3_findWays_71
  refine jx_iload_n h dX3_findWays_71 rfl 1 rfl ?_
  refine jx_bipush h dX3_findWays_72 kb_12 ?_
  refine jx_icmp_ge (tgt := 147) h dX3_findWays_74 rfl ?_ ?_
  · exact jx_vret h dX3_findWays_147
  · refine jx_iconst h dX3_findWays_77 ki_0 ?_
    refine jx_istore_n (lv' := [(2, .int 0), (0, .ref (Ga G 3)), (1, .int x1)]) h dX3_findWays_78 rfl (Nat.le_of_ble_eq_true rfl) rfl ?_
    refine jx_subk [1, 2, 0] h (itr_ind (Q := (fun (f : Int32 → Mem → Option (Unit × Mem)) => ∀ (x2 : Int32) (s : Mem), P (f x2 s) 79 [(0, .ref (Ga G 3)), (1, .int x1), (2, .int x2)] [] s)) (fun _ _ => jx_none h) (fun r79 ih79 => ?_) N 0 s0) rfl
    refine w_X3_findWays_79 hG h N x1 ?_ ih79
    intro s21
    refine jx_iincl (L := fun w => [(1, .int w), (0, .ref (Ga G 3))]) h dX3_findWays_141 1 rfl (kn_1 _) (Nat.le_of_ble_eq_true rfl) (fun _ => rfl) (fun x1_22 => ?_)
    refine jx_goto (tgt := 71) h dX3_findWays_144 rfl ?_
    exact jx_subk [1, 0] h (ih x1_22 s21) rfl
set_option maxRecDepth 20000 in
theorem c_X3_findWays {G : Gx} (hG : Gok G ∧ IsG G layC fsoC) (N : Nat)  (s : Mem) : Ct G yX3_findWays cX3_findWays 4 none 1 [.ref (Ga G 3)] tvV s (f_X3_findWays N s) := by
  refine Ct.of hG (by decide) (Nat.le_of_ble_eq_true rfl) (fun P h => ?_)
  show P _ 0 [(0, .ref (Ga G 3))] [] s
  unfold f_X3_findWays
  refine jx_iconst h dX3_findWays_0 ki_0 ?_
  refine jx_istore_n (lv' := [(1, .int 0), (0, .ref (Ga G 3))]) h dX3_findWays_1 rfl (Nat.le_of_ble_eq_true rfl) rfl ?_
  refine jx_subk [1, 0] h (itr_ind (Q := (fun (f : Int32 → Mem → Option (Unit × Mem)) => ∀ (x1 : Int32) (s : Mem), P (f x1 s) 2 [(0, .ref (Ga G 3)), (1, .int x1)] [] s)) (fun _ _ => jx_none h) (fun r2 ih2 => ?_) N 0 s) rfl
  refine w_X3_findWays_2 hG h N  ?_ ih2
  intro s12
  refine jx_iconst h dX3_findWays_69 ki_0 ?_
  refine jx_istore_n (lv' := [(1, .int 0), (0, .ref (Ga G 3))]) h dX3_findWays_70 rfl (Nat.le_of_ble_eq_true rfl) rfl ?_
  refine jx_subk [1, 0] h (itr_ind (Q := (fun (f : Int32 → Mem → Option (Unit × Mem)) => ∀ (x1 : Int32) (s : Mem), P (f x1 s) 71 [(0, .ref (Ga G 3)), (1, .int x1)] [] s)) (fun _ _ => jx_none h) (fun r71 ih71 => ?_) N 0 s12) rfl
  refine w_X3_findWays_71 hG h N   ih71
noncomputable def f_X3_way (N : Nat) (x1 : Int32) (x2 : Int32) (s : Mem) : Option (Int32 × Mem) :=
  if (gi s 3 3) = 0 then (bd (f_X3_findWays N s) (fun _ s2 => lt (si s2 3 3 1) (fun s4 => chk x1 12 (chk x2 12 (some (gi s4 (17 + 1 + ix x1) (ix x2), s4)))))) else chk x1 12 (chk x2 12 (some (gi s (17 + 1 + ix x1) (ix x2), s)))
set_option maxRecDepth 20000 in
theorem c_X3_way {G : Gx} (hG : Gok G ∧ IsG G layC fsoC) (N : Nat) (x1 : Int32) (x2 : Int32) (s : Mem) : Ct G yX3_way cX3_way 3 (some .int) 2 [.ref (Ga G 3), .int x1, .int x2] tvI s (f_X3_way N x1 x2 s) := by
  refine Ct.of hG (by decide) (Nat.le_of_ble_eq_true rfl) (fun P h => ?_)
  show P _ 0 [(0, .ref (Ga G 3)), (1, .int x1), (2, .int x2)] [] s
  unfold f_X3_way
  refine jx_aload_n h dX3_way_0 rfl 0 rfl ?_
  refine jx_get (v := .int (gi s 3 3)) h fa_X3_38 lc_3 dX3_way_1 rfl ?_
  refine jx_if_ne (tgt := 16) h dX3_way_4 rfl ?_ ?_
  · refine jx_aload_n h dX3_way_16 rfl 0 rfl ?_
    refine jx_get (v := .ref (Ga G 17)) h fa_X3_16 lc_3 dX3_way_17 rfl ?_
    refine jx_iload_n h dX3_way_20 rfl 1 rfl ?_
    refine jx_aaload h lc_17 dX3_way_21 (fun hr1 => ?_)
    refine jx_iload_n h dX3_way_22 rfl 2 rfl ?_
    refine jx_iaload h (lr_17 hr1) dX3_way_23 ?_
    exact jx_iret h dX3_way_24
  · refine jx_aload_n h dX3_way_7 rfl 0 rfl ?_
    refine jx_callVv [] h lc_3 (c_X3_findWays hG N  s) ml_X3_42 (Nat.le_of_ble_eq_true rfl) (Nat.le_of_ble_eq_true rfl) dX3_way_8 (Nat.le_of_ble_eq_true rfl) rfl (fun s2 => ?_)
    refine jx_aload_n h dX3_way_11 rfl 0 rfl ?_
    refine jx_iconst h dX3_way_12 ki_1 ?_
    refine jx_put h fa_X3_38 fp_X3_3 lc_3 (by decide) rfl dX3_way_13 (fu_X3_3 _ _ _ _) (fun s4 => ?_)
    refine jx_aload_n h dX3_way_16 rfl 0 rfl ?_
    refine jx_get (v := .ref (Ga G 17)) h fa_X3_16 lc_3 dX3_way_17 rfl ?_
    refine jx_iload_n h dX3_way_20 rfl 1 rfl ?_
    refine jx_aaload h lc_17 dX3_way_21 (fun hr5 => ?_)
    refine jx_iload_n h dX3_way_22 rfl 2 rfl ?_
    refine jx_iaload h (lr_17 hr5) dX3_way_23 ?_
    exact jx_iret h dX3_way_24
noncomputable def f_X3_aheadBy (N : Nat) (x1 : Int32) (x2 : Int32) (x3 : Int32) (s : Mem) : Option (Int32 × Mem) :=
  chk x2 8 (chk x3 8 (bd (f_X3_way N (gi s 30 (ix x2)) (gi s 30 (ix x3)) s) (fun r2 s1 => chk (((x1 ^^^ ((1 : Int32) <<< (x3 &&& 31))) * 8) + x3) 1024 (some (r2 + (gi s1 31 (ix (((x1 ^^^ ((1 : Int32) <<< (x3 &&& 31))) * 8) + x3))), s1)))))
set_option maxRecDepth 20000 in
theorem c_X3_aheadBy {G : Gx} (hG : Gok G ∧ IsG G layC fsoC) (N : Nat) (x1 : Int32) (x2 : Int32) (x3 : Int32) (s : Mem) : Ct G yX3_aheadBy cX3_aheadBy 4 (some .int) 3 [.ref (Ga G 3), .int x1, .int x2, .int x3] tvI s (f_X3_aheadBy N x1 x2 x3 s) := by
  refine Ct.of hG (by decide) (Nat.le_of_ble_eq_true rfl) (fun P h => ?_)
  show P _ 0 [(0, .ref (Ga G 3)), (1, .int x1), (2, .int x2), (3, .int x3)] [] s
  unfold f_X3_aheadBy
  refine jx_aload_n h dX3_aheadBy_0 rfl 0 rfl ?_
  refine jx_aload_n h dX3_aheadBy_1 rfl 0 rfl ?_
  refine jx_get (v := .ref (Ga G 30)) h fa_X3_19 lc_3 dX3_aheadBy_2 rfl ?_
  refine jx_iload_n h dX3_aheadBy_5 rfl 2 rfl ?_
  refine jx_iaload h lc_30 dX3_aheadBy_6 ?_
  refine jx_aload_n h dX3_aheadBy_7 rfl 0 rfl ?_
  refine jx_get (v := .ref (Ga G 30)) h fa_X3_19 lc_3 dX3_aheadBy_8 rfl ?_
  refine jx_iload_n h dX3_aheadBy_11 rfl 3 rfl ?_
  refine jx_iaload h lc_30 dX3_aheadBy_12 ?_
  refine jx_callVi [] h lc_3 (c_X3_way hG N (gi s 30 (ix x2)) (gi s 30 (ix x3)) s) ml_X3_58 (Nat.le_of_ble_eq_true rfl) (Nat.le_of_ble_eq_true rfl) dX3_aheadBy_13 (Nat.le_of_ble_eq_true rfl) rfl (fun r2 s1 => ?_)
  refine jx_aload_n h dX3_aheadBy_16 rfl 0 rfl ?_
  refine jx_get (v := .ref (Ga G 31)) h fa_X3_23 lc_3 dX3_aheadBy_17 rfl ?_
  refine jx_iload_n h dX3_aheadBy_20 rfl 1 rfl ?_
  refine jx_iconst h dX3_aheadBy_21 ki_1 ?_
  refine jx_iload_n h dX3_aheadBy_22 rfl 3 rfl ?_
  refine jx_ishl h dX3_aheadBy_23 ?_
  refine jx_ixor h dX3_aheadBy_24 ?_
  refine jx_bipush h dX3_aheadBy_25 kb_8 ?_
  refine jx_imul h dX3_aheadBy_27 ?_
  refine jx_iload_n h dX3_aheadBy_28 rfl 3 rfl ?_
  refine jx_iadd h dX3_aheadBy_29 ?_
  refine jx_iaload h lc_31 dX3_aheadBy_30 ?_
  refine jx_iadd h dX3_aheadBy_31 ?_
  exact jx_iret h dX3_aheadBy_32
noncomputable def st_X3_fewestAhead_30 (N : Nat) (x1 : Int32) (x2 : Int32)  (rec : Int32 → Int32 → Mem → Option (Int32 × Mem)) (x3 : Int32) (x4 : Int32) (s0 : Mem) : Option (Int32 × Mem) :=
  if (gi s0 3 5) ≤ x4 then (some (x3, s0)) else bd (f_X9_hasBit N x1 x4 s0) (fun r2 s1 => if r2 = 0 then (lt (x4 + 1) (fun x4_3 => rec x3 x4_3 s1)) else bd (f_X3_aheadBy N x1 x2 x4 s1) (fun r5 s4 => lt (imin x3 r5) (fun v6 => lt (x4 + 1) (fun x4_7 => rec v6 x4_7 s4))))
noncomputable def f_X3_fewestAhead (N : Nat) (x1 : Int32) (x2 : Int32) (s : Mem) : Option (Int32 × Mem) :=
  if x1 = 0 then (chk x2 8 (chk (gi s 3 5) 8 (bd (f_X3_way N (gi s 30 (ix x2)) (gi s 30 (ix (gi s 3 5))) s) (fun r9 s8 => some (r9, s8))))) else itr (fun _ _ _ => none) (st_X3_fewestAhead_30 N x1 x2) N 1000000 0 s
set_option maxRecDepth 20000 in
theorem w_X3_fewestAhead_30 {G : Gx} (hG : Gok G ∧ IsG G layC fsoC) {P : Option (Int32 × Mem) → Nat → List (Nat × Value) → List Value → Mem → Prop} (h : Jk G layC fsoC RX3 cX3_fewestAhead 5 (some .int) 4 tvI P) (N : Nat) (x1 : Int32) (x2 : Int32) {rec : Int32 → Int32 → Mem → Option (Int32 × Mem)} (ih : ∀ (x3 : Int32) (x4 : Int32) (s : Mem), P (rec x3 x4 s) 30 [(0, .ref (Ga G 3)), (1, .int x1), (2, .int x2), (3, .int x3), (4, .int x4)] [] s) : ∀ (x3 : Int32) (x4 : Int32) (s : Mem), P (st_X3_fewestAhead_30 N x1 x2 rec x3 x4 s) 30 [(0, .ref (Ga G 3)), (1, .int x1), (2, .int x2), (3, .int x3), (4, .int x4)] [] s := by
  intro x3 x4 s0
  unfold st_X3_fewestAhead_30
  refine jx_iload h dX3_fewestAhead_30 4 rfl ?_
  refine jx_aload_n h dX3_fewestAhead_32 rfl 0 rfl ?_
  refine jx_get (v := .int (gi s0 3 5)) h fa_X3_52 lc_3 dX3_fewestAhead_33 rfl ?_
  refine jx_icmp_ge (tgt := 67) h dX3_fewestAhead_36 rfl ?_ ?_
  · refine jx_iload_n h dX3_fewestAhead_67 rfl 3 rfl ?_
    exact jx_iret h dX3_fewestAhead_68
  · refine jx_iload_n h dX3_fewestAhead_39 rfl 1 rfl ?_
    refine jx_iload h dX3_fewestAhead_40 4 rfl ?_
    refine jx_callSi [] h (c_X9_hasBit hG N x1 x4 s0) ml_X3_34 (Nat.le_of_ble_eq_true rfl) (Nat.le_of_ble_eq_true rfl) dX3_fewestAhead_42 (Nat.le_of_ble_eq_true rfl) rfl (fun r2 s1 => ?_)
    refine jx_if_eq (tgt := 61) h dX3_fewestAhead_45 rfl ?_ ?_
    · refine jx_iincl (L := fun w => [(4, .int w), (0, .ref (Ga G 3)), (1, .int x1), (2, .int x2), (3, .int x3)]) h dX3_fewestAhead_61 4 rfl (kn_1 _) (Nat.le_of_ble_eq_true rfl) (fun _ => rfl) (fun x4_3 => ?_)
      refine jx_goto (tgt := 30) h dX3_fewestAhead_64 rfl ?_
      exact jx_subk [1, 2, 3, 4, 0] h (ih x3 x4_3 s1) rfl
    · refine jx_iload_n h dX3_fewestAhead_48 rfl 3 rfl ?_
      refine jx_aload_n h dX3_fewestAhead_49 rfl 0 rfl ?_
      refine jx_iload_n h dX3_fewestAhead_50 rfl 1 rfl ?_
      refine jx_iload_n h dX3_fewestAhead_51 rfl 2 rfl ?_
      refine jx_iload h dX3_fewestAhead_52 4 rfl ?_
      refine jx_callVi [.int x3] h lc_3 (c_X3_aheadBy hG N x1 x2 x4 s1) ml_X3_61 (Nat.le_of_ble_eq_true rfl) (Nat.le_of_ble_eq_true rfl) dX3_fewestAhead_54 (Nat.le_of_ble_eq_true rfl) rfl (fun r5 s4 => ?_)
      refine jx_mmin h mm_X3_46 (Nat.le_of_ble_eq_true rfl) (Nat.le_of_ble_eq_true rfl) dX3_fewestAhead_57 ?_
      refine jx_lti (fun v6 => ?_)
      refine jx_istore_n (lv' := [(3, .int v6), (0, .ref (Ga G 3)), (1, .int x1), (2, .int x2), (4, .int x4)]) h dX3_fewestAhead_60 rfl (Nat.le_of_ble_eq_true rfl) rfl ?_
      refine jx_iincl (L := fun w => [(4, .int w), (3, .int v6), (0, .ref (Ga G 3)), (1, .int x1), (2, .int x2)]) h dX3_fewestAhead_61 4 rfl (kn_1 _) (Nat.le_of_ble_eq_true rfl) (fun _ => rfl) (fun x4_7 => ?_)
      refine jx_goto (tgt := 30) h dX3_fewestAhead_64 rfl ?_
      exact jx_subk [2, 3, 4, 1, 0] h (ih v6 x4_7 s4) rfl
set_option maxRecDepth 20000 in
theorem c_X3_fewestAhead {G : Gx} (hG : Gok G ∧ IsG G layC fsoC) (N : Nat) (x1 : Int32) (x2 : Int32) (s : Mem) : Ct G yX3_fewestAhead cX3_fewestAhead 5 (some .int) 4 [.ref (Ga G 3), .int x1, .int x2] tvI s (f_X3_fewestAhead N x1 x2 s) := by
  refine Ct.of hG (by decide) (Nat.le_of_ble_eq_true rfl) (fun P h => ?_)
  show P _ 0 [(0, .ref (Ga G 3)), (1, .int x1), (2, .int x2)] [] s
  unfold f_X3_fewestAhead
  refine jx_iload_n h dX3_fewestAhead_0 rfl 1 rfl ?_
  refine jx_if_ne (tgt := 24) h dX3_fewestAhead_1 rfl ?_ ?_
  · refine jx_ldc h dX3_fewestAhead_24 kw_X3_45 ?_
    refine jx_istore_n (lv' := [(3, .int 1000000), (0, .ref (Ga G 3)), (1, .int x1), (2, .int x2)]) h dX3_fewestAhead_26 rfl (Nat.le_of_ble_eq_true rfl) rfl ?_
    refine jx_iconst h dX3_fewestAhead_27 ki_0 ?_
    refine jx_istore (lv' := [(4, .int 0), (3, .int 1000000), (0, .ref (Ga G 3)), (1, .int x1), (2, .int x2)]) h dX3_fewestAhead_28 (Nat.le_of_ble_eq_true rfl) rfl ?_
    refine jx_subk [2, 3, 4, 1, 0] h (itr_ind (Q := (fun (f : Int32 → Int32 → Mem → Option (Int32 × Mem)) => ∀ (x3 : Int32) (x4 : Int32) (s : Mem), P (f x3 x4 s) 30 [(0, .ref (Ga G 3)), (1, .int x1), (2, .int x2), (3, .int x3), (4, .int x4)] [] s)) (fun _ _ _ => jx_none h) (fun r30 ih30 => ?_) N 1000000 0 s) rfl
    refine w_X3_fewestAhead_30 hG h N x1 x2  ih30
  · refine jx_aload_n h dX3_fewestAhead_4 rfl 0 rfl ?_
    refine jx_aload_n h dX3_fewestAhead_5 rfl 0 rfl ?_
    refine jx_get (v := .ref (Ga G 30)) h fa_X3_19 lc_3 dX3_fewestAhead_6 rfl ?_
    refine jx_iload_n h dX3_fewestAhead_9 rfl 2 rfl ?_
    refine jx_iaload h lc_30 dX3_fewestAhead_10 ?_
    refine jx_aload_n h dX3_fewestAhead_11 rfl 0 rfl ?_
    refine jx_get (v := .ref (Ga G 30)) h fa_X3_19 lc_3 dX3_fewestAhead_12 rfl ?_
    refine jx_aload_n h dX3_fewestAhead_15 rfl 0 rfl ?_
    refine jx_get (v := .int (gi s 3 5)) h fa_X3_52 lc_3 dX3_fewestAhead_16 rfl ?_
    refine jx_iaload h lc_30 dX3_fewestAhead_19 ?_
    refine jx_callVi [] h lc_3 (c_X3_way hG N (gi s 30 (ix x2)) (gi s 30 (ix (gi s 3 5))) s) ml_X3_58 (Nat.le_of_ble_eq_true rfl) (Nat.le_of_ble_eq_true rfl) dX3_fewestAhead_20 (Nat.le_of_ble_eq_true rfl) rfl (fun r9 s8 => ?_)
    exact jx_iret h dX3_fewestAhead_23
noncomputable def st_X3_goRound_7 (N : Nat) (x1 : Int32) (x2 : Int32) (k56 : Mem → Option (Int32 × Mem)) (rec : Int32 → Mem → Option (Int32 × Mem)) (x3 : Int32) (s0 : Mem) : Option (Int32 × Mem) :=
  if 12 ≤ x3 then (k56 s0) else bd (f_X9_hasBit N x2 x3 s0) (fun r3 s2 => if r3 = 0 then (lt (x3 + 1) (fun x3_4 => rec x3_4 s2)) else if 7 ≤ (gi s2 3 5) then (lt (x3 + 1) (fun x3_5 => rec x3_5 s2)) else chk (gi s2 3 5) 8 (lt (si s2 30 (ix (gi s2 3 5)) x3) (fun s6 => lt (si s6 3 5 ((gi s6 3 5) + 1)) (fun s7 => lt (x3 + 1) (fun x3_8 => rec x3_8 s7)))))
noncomputable def st_X3_goRound_87 (N : Nat) (x3 : Int32) (x4 : Int32) (k123 : Mem → Option (Int32 × Mem)) (rec : Int32 → Mem → Option (Int32 × Mem)) (x5 : Int32) (s0 : Mem) : Option (Int32 × Mem) :=
  if (gi s0 3 5) < x5 then (k123 s0) else bd (f_X3_fewestAhead N x4 x5 s0) (fun r13 s12 => chk ((x4 * 8) + x5) 1024 (lt (si s12 31 (ix ((x4 * 8) + x5)) r13) (fun s14 => lt (x5 + 1) (fun x5_15 => rec x5_15 s14))))
noncomputable def st_X3_goRound_78 (N : Nat) (x3 : Int32)  (rec : Int32 → Mem → Option (Int32 × Mem)) (x4 : Int32) (s0 : Mem) : Option (Int32 × Mem) :=
  if x3 < x4 then (chk ((x3 * 8) + (gi s0 3 5)) 1024 (some (gi s0 31 (ix ((x3 * 8) + (gi s0 3 5))), s0))) else itr (fun _ _ => none) (st_X3_goRound_87 N x3 x4 (fun  (s16 : Mem) => lt (x4 + 1) (fun x4_17 => rec x4_17 s16))) N 0 s0
noncomputable def f_X3_goRound (N : Nat) (x1 : Int32) (x2 : Int32) (s : Mem) : Option (Int32 × Mem) :=
  lt (si s 3 5 0) (fun s1 => itr (fun _ _ => none) (st_X3_goRound_7 N x1 x2 (fun  (s9 : Mem) => chk (gi s9 3 5) 8 (lt (si s9 30 (ix (gi s9 3 5)) x1) (fun s10 => lt (((1 : Int32) <<< ((gi s10 3 5) &&& 31)) - 1) (fun v11 => itr (fun _ _ => none) (st_X3_goRound_78 N v11) N 0 s10))))) N 0 s1)
set_option maxRecDepth 20000 in
theorem w_X3_goRound_7 {G : Gx} (hG : Gok G ∧ IsG G layC fsoC) {P : Option (Int32 × Mem) → Nat → List (Nat × Value) → List Value → Mem → Prop} (h : Jk G layC fsoC RX3 cX3_goRound 6 (some .int) 5 tvI P) (N : Nat) (x1 : Int32) (x2 : Int32) {k56 : Mem → Option (Int32 × Mem)} (hk56 : ∀  (s : Mem), P (k56 s) 56 [(0, .ref (Ga G 3)), (1, .int x1)] [] s) {rec : Int32 → Mem → Option (Int32 × Mem)} (ih : ∀ (x3 : Int32) (s : Mem), P (rec x3 s) 7 [(0, .ref (Ga G 3)), (1, .int x1), (2, .int x2), (3, .int x3)] [] s) : ∀ (x3 : Int32) (s : Mem), P (st_X3_goRound_7 N x1 x2 k56 rec x3 s) 7 [(0, .ref (Ga G 3)), (1, .int x1), (2, .int x2), (3, .int x3)] [] s := by
  intro x3 s0
  unfold st_X3_goRound_7
  refine jx_iload_n h dX3_goRound_7 rfl 3 rfl ?_
  refine jx_bipush h dX3_goRound_8 kb_12 ?_
  refine jx_icmp_ge (tgt := 56) h dX3_goRound_10 rfl ?_ ?_
  · exact jx_subk [0, 1] h (hk56 s0) rfl
  · refine jx_iload_n h dX3_goRound_13 rfl 2 rfl ?_
    refine jx_iload_n h dX3_goRound_14 rfl 3 rfl ?_
    refine jx_callSi [] h (c_X9_hasBit hG N x2 x3 s0) ml_X3_34 (Nat.le_of_ble_eq_true rfl) (Nat.le_of_ble_eq_true rfl) dX3_goRound_15 (Nat.le_of_ble_eq_true rfl) rfl (fun r3 s2 => ?_)
    refine jx_if_eq (tgt := 50) h dX3_goRound_18 rfl ?_ ?_
    · refine jx_iincl (L := fun w => [(3, .int w), (0, .ref (Ga G 3)), (1, .int x1), (2, .int x2)]) h dX3_goRound_50 3 rfl (kn_1 _) (Nat.le_of_ble_eq_true rfl) (fun _ => rfl) (fun x3_4 => ?_)
      refine jx_goto (tgt := 7) h dX3_goRound_53 rfl ?_
      exact jx_subk [1, 2, 3, 0] h (ih x3_4 s2) rfl
    · refine jx_aload_n h dX3_goRound_21 rfl 0 rfl ?_
      refine jx_get (v := .int (gi s2 3 5)) h fa_X3_52 lc_3 dX3_goRound_22 rfl ?_
      refine jx_bipush h dX3_goRound_25 kb_7 ?_
      refine jx_icmp_ge (tgt := 50) h dX3_goRound_27 rfl ?_ ?_
      · refine jx_iincl (L := fun w => [(3, .int w), (0, .ref (Ga G 3)), (1, .int x1), (2, .int x2)]) h dX3_goRound_50 3 rfl (kn_1 _) (Nat.le_of_ble_eq_true rfl) (fun _ => rfl) (fun x3_5 => ?_)
        refine jx_goto (tgt := 7) h dX3_goRound_53 rfl ?_
        exact jx_subk [1, 2, 3, 0] h (ih x3_5 s2) rfl
      · refine jx_aload_n h dX3_goRound_30 rfl 0 rfl ?_
        refine jx_get (v := .ref (Ga G 30)) h fa_X3_19 lc_3 dX3_goRound_31 rfl ?_
        refine jx_aload_n h dX3_goRound_34 rfl 0 rfl ?_
        refine jx_get (v := .int (gi s2 3 5)) h fa_X3_52 lc_3 dX3_goRound_35 rfl ?_
        refine jx_iload_n h dX3_goRound_38 rfl 3 rfl ?_
        refine jx_iastore h lc_30 dX3_goRound_39 (fun s6 => ?_)
        refine jx_aload_n h dX3_goRound_40 rfl 0 rfl ?_
        refine jx_dup h dX3_goRound_41 rfl ?_
        refine jx_get (v := .int (gi s6 3 5)) h fa_X3_52 lc_3 dX3_goRound_42 rfl ?_
        refine jx_iconst h dX3_goRound_45 ki_1 ?_
        refine jx_iadd h dX3_goRound_46 ?_
        refine jx_put h fa_X3_52 fp_X3_5 lc_3 rfl rfl dX3_goRound_47 (fu_X3_5 _ _ _ _) (fun s7 => ?_)
        refine jx_iincl (L := fun w => [(3, .int w), (0, .ref (Ga G 3)), (1, .int x1), (2, .int x2)]) h dX3_goRound_50 3 rfl (kn_1 _) (Nat.le_of_ble_eq_true rfl) (fun _ => rfl) (fun x3_8 => ?_)
        refine jx_goto (tgt := 7) h dX3_goRound_53 rfl ?_
        exact jx_subk [1, 2, 3, 0] h (ih x3_8 s7) rfl
set_option maxRecDepth 20000 in
theorem w_X3_goRound_87 {G : Gx} (hG : Gok G ∧ IsG G layC fsoC) {P : Option (Int32 × Mem) → Nat → List (Nat × Value) → List Value → Mem → Prop} (h : Jk G layC fsoC RX3 cX3_goRound 6 (some .int) 5 tvI P) (N : Nat) (x3 : Int32) (x4 : Int32) {k123 : Mem → Option (Int32 × Mem)} (hk123 : ∀  (s : Mem), P (k123 s) 123 [(0, .ref (Ga G 3)), (3, .int x3), (4, .int x4)] [] s) {rec : Int32 → Mem → Option (Int32 × Mem)} (ih : ∀ (x5 : Int32) (s : Mem), P (rec x5 s) 87 [(0, .ref (Ga G 3)), (3, .int x3), (4, .int x4), (5, .int x5)] [] s) : ∀ (x5 : Int32) (s : Mem), P (st_X3_goRound_87 N x3 x4 k123 rec x5 s) 87 [(0, .ref (Ga G 3)), (3, .int x3), (4, .int x4), (5, .int x5)] [] s := by
  intro x5 s0
  unfold st_X3_goRound_87
  refine jx_iload h dX3_goRound_87 3 rfl ?_
  refine jx_aload_n h dX3_goRound_89 rfl 0 rfl ?_
  refine jx_get (v := .int (gi s0 3 5)) h fa_X3_52 lc_3 dX3_goRound_90 rfl ?_
  refine jx_icmp_gt (tgt := 123) h dX3_goRound_93 rfl ?_ ?_
  · exact jx_subk [0, 1, 2] h (hk123 s0) rfl
  · refine jx_aload_n h dX3_goRound_96 rfl 0 rfl ?_
    refine jx_get (v := .ref (Ga G 31)) h fa_X3_23 lc_3 dX3_goRound_97 rfl ?_
    refine jx_iload h dX3_goRound_100 2 rfl ?_
    refine jx_bipush h dX3_goRound_102 kb_8 ?_
    refine jx_imul h dX3_goRound_104 ?_
    refine jx_iload h dX3_goRound_105 3 rfl ?_
    refine jx_iadd h dX3_goRound_107 ?_
    refine jx_aload_n h dX3_goRound_108 rfl 0 rfl ?_
    refine jx_iload h dX3_goRound_109 2 rfl ?_
    refine jx_iload h dX3_goRound_111 3 rfl ?_
    refine jx_callVi [.int ((x4 * 8) + x5), .ref (Ga G 31)] h lc_3 (c_X3_fewestAhead hG N x4 x5 s0) ml_X3_55 (Nat.le_of_ble_eq_true rfl) (Nat.le_of_ble_eq_true rfl) dX3_goRound_113 (Nat.le_of_ble_eq_true rfl) rfl (fun r13 s12 => ?_)
    refine jx_iastore h lc_31 dX3_goRound_116 (fun s14 => ?_)
    refine jx_iincl (L := fun w => [(5, .int w), (0, .ref (Ga G 3)), (3, .int x3), (4, .int x4)]) h dX3_goRound_117 3 rfl (kn_1 _) (Nat.le_of_ble_eq_true rfl) (fun _ => rfl) (fun x5_15 => ?_)
    refine jx_goto (tgt := 87) h dX3_goRound_120 rfl ?_
    exact jx_subk [1, 2, 3, 0] h (ih x5_15 s14) rfl
set_option maxRecDepth 20000 in
theorem w_X3_goRound_78 {G : Gx} (hG : Gok G ∧ IsG G layC fsoC) {P : Option (Int32 × Mem) → Nat → List (Nat × Value) → List Value → Mem → Prop} (h : Jk G layC fsoC RX3 cX3_goRound 6 (some .int) 5 tvI P) (N : Nat) (x3 : Int32) {rec : Int32 → Mem → Option (Int32 × Mem)} (ih : ∀ (x4 : Int32) (s : Mem), P (rec x4 s) 78 [(0, .ref (Ga G 3)), (3, .int x3), (4, .int x4)] [] s) : ∀ (x4 : Int32) (s : Mem), P (st_X3_goRound_78 N x3 rec x4 s) 78 [(0, .ref (Ga G 3)), (3, .int x3), (4, .int x4)] [] s := by
  intro x4 s0
  unfold st_X3_goRound_78
  refine jx_iload h dX3_goRound_78 2 rfl ?_
  refine jx_iload_n h dX3_goRound_80 rfl 1 rfl ?_
  refine jx_icmp_gt (tgt := 129) h dX3_goRound_81 rfl ?_ ?_
  · refine jx_aload_n h dX3_goRound_129 rfl 0 rfl ?_
    refine jx_get (v := .ref (Ga G 31)) h fa_X3_23 lc_3 dX3_goRound_130 rfl ?_
    refine jx_iload_n h dX3_goRound_133 rfl 1 rfl ?_
    refine jx_bipush h dX3_goRound_134 kb_8 ?_
    refine jx_imul h dX3_goRound_136 ?_
    refine jx_aload_n h dX3_goRound_137 rfl 0 rfl ?_
    refine jx_get (v := .int (gi s0 3 5)) h fa_X3_52 lc_3 dX3_goRound_138 rfl ?_
    refine jx_iadd h dX3_goRound_141 ?_
    refine jx_iaload h lc_31 dX3_goRound_142 ?_
    exact jx_iret h dX3_goRound_143
  · refine jx_iconst h dX3_goRound_84 ki_0 ?_
    refine jx_istore (lv' := [(5, .int 0), (0, .ref (Ga G 3)), (3, .int x3), (4, .int x4)]) h dX3_goRound_85 (Nat.le_of_ble_eq_true rfl) rfl ?_
    refine jx_subk [1, 2, 3, 0] h (itr_ind (Q := (fun (f : Int32 → Mem → Option (Int32 × Mem)) => ∀ (x5 : Int32) (s : Mem), P (f x5 s) 87 [(0, .ref (Ga G 3)), (3, .int x3), (4, .int x4), (5, .int x5)] [] s)) (fun _ _ => jx_none h) (fun r87 ih87 => ?_) N 0 s0) rfl
    refine w_X3_goRound_87 hG h N x3 x4 ?_ ih87
    intro s16
    refine jx_iincl (L := fun w => [(4, .int w), (0, .ref (Ga G 3)), (3, .int x3)]) h dX3_goRound_123 2 rfl (kn_1 _) (Nat.le_of_ble_eq_true rfl) (fun _ => rfl) (fun x4_17 => ?_)
    refine jx_goto (tgt := 78) h dX3_goRound_126 rfl ?_
    exact jx_subk [1, 2, 0] h (ih x4_17 s16) rfl
set_option maxRecDepth 20000 in
theorem c_X3_goRound {G : Gx} (hG : Gok G ∧ IsG G layC fsoC) (N : Nat) (x1 : Int32) (x2 : Int32) (s : Mem) : Ct G yX3_goRound cX3_goRound 6 (some .int) 5 [.ref (Ga G 3), .int x1, .int x2] tvI s (f_X3_goRound N x1 x2 s) := by
  refine Ct.of hG (by decide) (Nat.le_of_ble_eq_true rfl) (fun P h => ?_)
  show P _ 0 [(0, .ref (Ga G 3)), (1, .int x1), (2, .int x2)] [] s
  unfold f_X3_goRound
  refine jx_aload_n h dX3_goRound_0 rfl 0 rfl ?_
  refine jx_iconst h dX3_goRound_1 ki_0 ?_
  refine jx_put h fa_X3_52 fp_X3_5 lc_3 rfl rfl dX3_goRound_2 (fu_X3_5 _ _ _ _) (fun s1 => ?_)
  refine jx_iconst h dX3_goRound_5 ki_0 ?_
  refine jx_istore_n (lv' := [(3, .int 0), (0, .ref (Ga G 3)), (1, .int x1), (2, .int x2)]) h dX3_goRound_6 rfl (Nat.le_of_ble_eq_true rfl) rfl ?_
  refine jx_subk [1, 2, 3, 0] h (itr_ind (Q := (fun (f : Int32 → Mem → Option (Int32 × Mem)) => ∀ (x3 : Int32) (s : Mem), P (f x3 s) 7 [(0, .ref (Ga G 3)), (1, .int x1), (2, .int x2), (3, .int x3)] [] s)) (fun _ _ => jx_none h) (fun r7 ih7 => ?_) N 0 s1) rfl
  refine w_X3_goRound_7 hG h N x1 x2 ?_ ih7
  intro s9
  refine jx_aload_n h dX3_goRound_56 rfl 0 rfl ?_
  refine jx_get (v := .ref (Ga G 30)) h fa_X3_19 lc_3 dX3_goRound_57 rfl ?_
  refine jx_aload_n h dX3_goRound_60 rfl 0 rfl ?_
  refine jx_get (v := .int (gi s9 3 5)) h fa_X3_52 lc_3 dX3_goRound_61 rfl ?_
  refine jx_iload_n h dX3_goRound_64 rfl 1 rfl ?_
  refine jx_iastore h lc_30 dX3_goRound_65 (fun s10 => ?_)
  refine jx_iconst h dX3_goRound_66 ki_1 ?_
  refine jx_aload_n h dX3_goRound_67 rfl 0 rfl ?_
  refine jx_get (v := .int (gi s10 3 5)) h fa_X3_52 lc_3 dX3_goRound_68 rfl ?_
  refine jx_ishl h dX3_goRound_71 ?_
  refine jx_iconst h dX3_goRound_72 ki_1 ?_
  refine jx_isub h dX3_goRound_73 ?_
  refine jx_lti (fun v11 => ?_)
  refine jx_istore_n (lv' := [(3, .int v11), (0, .ref (Ga G 3)), (1, .int x1)]) h dX3_goRound_74 rfl (Nat.le_of_ble_eq_true rfl) rfl ?_
  refine jx_iconst h dX3_goRound_75 ki_0 ?_
  refine jx_istore (lv' := [(4, .int 0), (3, .int v11), (0, .ref (Ga G 3)), (1, .int x1)]) h dX3_goRound_76 (Nat.le_of_ble_eq_true rfl) rfl ?_
  refine jx_subk [2, 1, 0] h (itr_ind (Q := (fun (f : Int32 → Mem → Option (Int32 × Mem)) => ∀ (x4 : Int32) (s : Mem), P (f x4 s) 78 [(0, .ref (Ga G 3)), (3, .int v11), (4, .int x4)] [] s)) (fun _ _ => jx_none h) (fun r78 ih78 => ?_) N 0 s10) rfl
  refine w_X3_goRound_78 hG h N v11  ih78
noncomputable def st_X3_nextStop_15 (N : Nat) (x1 : Int32) (x2 : Int32) (x3 : Int32)  (rec : Int32 → Mem → Option (Int32 × Mem)) (x4 : Int32) (s0 : Mem) : Option (Int32 × Mem) :=
  if (gi s0 3 5) ≤ x4 then (some ((-1), s0)) else bd (f_X9_hasBit N x1 x4 s0) (fun r3 s2 => if r3 = 0 then (lt (x4 + 1) (fun x4_4 => rec x4_4 s2)) else bd (f_X3_aheadBy N x1 x2 x4 s2) (fun r6 s5 => if r6 = x3 then (some (x4, s5)) else lt (x4 + 1) (fun x4_7 => rec x4_7 s5)))
noncomputable def f_X3_nextStop (N : Nat) (x1 : Int32) (x2 : Int32) (s : Mem) : Option (Int32 × Mem) :=
  chk ((x1 * 8) + x2) 1024 (lt (gi s 31 (ix ((x1 * 8) + x2))) (fun v1 => itr (fun _ _ => none) (st_X3_nextStop_15 N x1 x2 v1) N 0 s))
set_option maxRecDepth 20000 in
theorem w_X3_nextStop_15 {G : Gx} (hG : Gok G ∧ IsG G layC fsoC) {P : Option (Int32 × Mem) → Nat → List (Nat × Value) → List Value → Mem → Prop} (h : Jk G layC fsoC RX3 cX3_nextStop 5 (some .int) 4 tvI P) (N : Nat) (x1 : Int32) (x2 : Int32) (x3 : Int32) {rec : Int32 → Mem → Option (Int32 × Mem)} (ih : ∀ (x4 : Int32) (s : Mem), P (rec x4 s) 15 [(0, .ref (Ga G 3)), (1, .int x1), (2, .int x2), (3, .int x3), (4, .int x4)] [] s) : ∀ (x4 : Int32) (s : Mem), P (st_X3_nextStop_15 N x1 x2 x3 rec x4 s) 15 [(0, .ref (Ga G 3)), (1, .int x1), (2, .int x2), (3, .int x3), (4, .int x4)] [] s := by
  intro x4 s0
  unfold st_X3_nextStop_15
  refine jx_iload h dX3_nextStop_15 4 rfl ?_
  refine jx_aload_n h dX3_nextStop_17 rfl 0 rfl ?_
  refine jx_get (v := .int (gi s0 3 5)) h fa_X3_52 lc_3 dX3_nextStop_18 rfl ?_
  refine jx_icmp_ge (tgt := 54) h dX3_nextStop_21 rfl ?_ ?_
  · refine jx_iconst h dX3_nextStop_54 ki_m1 ?_
    exact jx_iret h dX3_nextStop_55
  · refine jx_iload_n h dX3_nextStop_24 rfl 1 rfl ?_
    refine jx_iload h dX3_nextStop_25 4 rfl ?_
    refine jx_callSi [] h (c_X9_hasBit hG N x1 x4 s0) ml_X3_34 (Nat.le_of_ble_eq_true rfl) (Nat.le_of_ble_eq_true rfl) dX3_nextStop_27 (Nat.le_of_ble_eq_true rfl) rfl (fun r3 s2 => ?_)
    refine jx_if_eq (tgt := 48) h dX3_nextStop_30 rfl ?_ ?_
    · refine jx_iincl (L := fun w => [(4, .int w), (0, .ref (Ga G 3)), (1, .int x1), (2, .int x2), (3, .int x3)]) h dX3_nextStop_48 4 rfl (kn_1 _) (Nat.le_of_ble_eq_true rfl) (fun _ => rfl) (fun x4_4 => ?_)
      refine jx_goto (tgt := 15) h dX3_nextStop_51 rfl ?_
      exact jx_subk [1, 2, 3, 4, 0] h (ih x4_4 s2) rfl
    · refine jx_aload_n h dX3_nextStop_33 rfl 0 rfl ?_
      refine jx_iload_n h dX3_nextStop_34 rfl 1 rfl ?_
      refine jx_iload_n h dX3_nextStop_35 rfl 2 rfl ?_
      refine jx_iload h dX3_nextStop_36 4 rfl ?_
      refine jx_callVi [] h lc_3 (c_X3_aheadBy hG N x1 x2 x4 s2) ml_X3_61 (Nat.le_of_ble_eq_true rfl) (Nat.le_of_ble_eq_true rfl) dX3_nextStop_38 (Nat.le_of_ble_eq_true rfl) rfl (fun r6 s5 => ?_)
      refine jx_iload_n h dX3_nextStop_41 rfl 3 rfl ?_
      refine jx_icmp_ne (tgt := 48) h dX3_nextStop_42 rfl ?_ ?_
      · refine jx_iincl (L := fun w => [(4, .int w), (0, .ref (Ga G 3)), (1, .int x1), (2, .int x2), (3, .int x3)]) h dX3_nextStop_48 4 rfl (kn_1 _) (Nat.le_of_ble_eq_true rfl) (fun _ => rfl) (fun x4_7 => ?_)
        refine jx_goto (tgt := 15) h dX3_nextStop_51 rfl ?_
        exact jx_subk [1, 2, 3, 4, 0] h (ih x4_7 s5) rfl
      · refine jx_iload h dX3_nextStop_45 4 rfl ?_
        exact jx_iret h dX3_nextStop_47
set_option maxRecDepth 20000 in
theorem c_X3_nextStop {G : Gx} (hG : Gok G ∧ IsG G layC fsoC) (N : Nat) (x1 : Int32) (x2 : Int32) (s : Mem) : Ct G yX3_nextStop cX3_nextStop 5 (some .int) 4 [.ref (Ga G 3), .int x1, .int x2] tvI s (f_X3_nextStop N x1 x2 s) := by
  refine Ct.of hG (by decide) (Nat.le_of_ble_eq_true rfl) (fun P h => ?_)
  show P _ 0 [(0, .ref (Ga G 3)), (1, .int x1), (2, .int x2)] [] s
  unfold f_X3_nextStop
  refine jx_aload_n h dX3_nextStop_0 rfl 0 rfl ?_
  refine jx_get (v := .ref (Ga G 31)) h fa_X3_23 lc_3 dX3_nextStop_1 rfl ?_
  refine jx_iload_n h dX3_nextStop_4 rfl 1 rfl ?_
  refine jx_bipush h dX3_nextStop_5 kb_8 ?_
  refine jx_imul h dX3_nextStop_7 ?_
  refine jx_iload_n h dX3_nextStop_8 rfl 2 rfl ?_
  refine jx_iadd h dX3_nextStop_9 ?_
  refine jx_iaload h lc_31 dX3_nextStop_10 ?_
  refine jx_lti (fun v1 => ?_)
  refine jx_istore_n (lv' := [(3, .int v1), (0, .ref (Ga G 3)), (1, .int x1), (2, .int x2)]) h dX3_nextStop_11 rfl (Nat.le_of_ble_eq_true rfl) rfl ?_
  refine jx_iconst h dX3_nextStop_12 ki_0 ?_
  refine jx_istore (lv' := [(4, .int 0), (3, .int v1), (0, .ref (Ga G 3)), (1, .int x1), (2, .int x2)]) h dX3_nextStop_13 (Nat.le_of_ble_eq_true rfl) rfl ?_
  refine jx_subk [2, 3, 4, 1, 0] h (itr_ind (Q := (fun (f : Int32 → Mem → Option (Int32 × Mem)) => ∀ (x4 : Int32) (s : Mem), P (f x4 s) 15 [(0, .ref (Ga G 3)), (1, .int x1), (2, .int x2), (3, .int v1), (4, .int x4)] [] s)) (fun _ _ => jx_none h) (fun r15 ih15 => ?_) N 0 s) rfl
  refine w_X3_nextStop_15 hG h N x1 x2 v1  ih15
noncomputable def st_X3_stopAt_17 (N : Nat) (x1 : Int32)  (rec : Int32 → Int32 → Int32 → Mem → Option (Int32 × Mem)) (x2 : Int32) (x3 : Int32) (x4 : Int32) (s0 : Mem) : Option (Int32 × Mem) :=
  if x1 < x4 then (chk x2 8 (some (gi s0 30 (ix x2), s0))) else if (gi s0 3 5) ≤ x4 then (chk x2 8 (some (gi s0 30 (ix x2), s0))) else bd (f_X3_nextStop N x3 x2 s0) (fun r4 s3 => if 0 ≤ r4 then (lt (x3 ^^^ ((1 : Int32) <<< (r4 &&& 31))) (fun v5 => lt (x4 + 1) (fun x4_6 => rec r4 v5 x4_6 s3))) else some ((-1), s3))
noncomputable def f_X3_stopAt (N : Nat) (x1 : Int32) (s : Mem) : Option (Int32 × Mem) :=
  lt (gi s 3 5) (fun v1 => lt (((1 : Int32) <<< ((gi s 3 5) &&& 31)) - 1) (fun v2 => itr (fun _ _ _ _ => none) (st_X3_stopAt_17 N x1) N v1 v2 0 s))
set_option maxRecDepth 20000 in
theorem w_X3_stopAt_17 {G : Gx} (hG : Gok G ∧ IsG G layC fsoC) {P : Option (Int32 × Mem) → Nat → List (Nat × Value) → List Value → Mem → Prop} (h : Jk G layC fsoC RX3 cX3_stopAt 5 (some .int) 5 tvI P) (N : Nat) (x1 : Int32) {rec : Int32 → Int32 → Int32 → Mem → Option (Int32 × Mem)} (ih : ∀ (x2 : Int32) (x3 : Int32) (x4 : Int32) (s : Mem), P (rec x2 x3 x4 s) 17 [(0, .ref (Ga G 3)), (1, .int x1), (2, .int x2), (3, .int x3), (4, .int x4)] [] s) : ∀ (x2 : Int32) (x3 : Int32) (x4 : Int32) (s : Mem), P (st_X3_stopAt_17 N x1 rec x2 x3 x4 s) 17 [(0, .ref (Ga G 3)), (1, .int x1), (2, .int x2), (3, .int x3), (4, .int x4)] [] s := by
  intro x2 x3 x4 s0
  unfold st_X3_stopAt_17
  refine jx_iload h dX3_stopAt_17 4 rfl ?_
  refine jx_iload_n h dX3_stopAt_19 rfl 1 rfl ?_
  refine jx_icmp_gt (tgt := 57) h dX3_stopAt_20 rfl ?_ ?_
  · refine jx_aload_n h dX3_stopAt_57 rfl 0 rfl ?_
    refine jx_get (v := .ref (Ga G 30)) h fa_X3_19 lc_3 dX3_stopAt_58 rfl ?_
    refine jx_iload_n h dX3_stopAt_61 rfl 2 rfl ?_
    refine jx_iaload h lc_30 dX3_stopAt_62 ?_
    exact jx_iret h dX3_stopAt_63
  · refine jx_iload h dX3_stopAt_23 4 rfl ?_
    refine jx_aload_n h dX3_stopAt_25 rfl 0 rfl ?_
    refine jx_get (v := .int (gi s0 3 5)) h fa_X3_52 lc_3 dX3_stopAt_26 rfl ?_
    refine jx_icmp_ge (tgt := 57) h dX3_stopAt_29 rfl ?_ ?_
    · refine jx_aload_n h dX3_stopAt_57 rfl 0 rfl ?_
      refine jx_get (v := .ref (Ga G 30)) h fa_X3_19 lc_3 dX3_stopAt_58 rfl ?_
      refine jx_iload_n h dX3_stopAt_61 rfl 2 rfl ?_
      refine jx_iaload h lc_30 dX3_stopAt_62 ?_
      exact jx_iret h dX3_stopAt_63
    · refine jx_aload_n h dX3_stopAt_32 rfl 0 rfl ?_
      refine jx_iload_n h dX3_stopAt_33 rfl 3 rfl ?_
      refine jx_iload_n h dX3_stopAt_34 rfl 2 rfl ?_
      refine jx_callVi [] h lc_3 (c_X3_nextStop hG N x3 x2 s0) ml_X3_65 (Nat.le_of_ble_eq_true rfl) (Nat.le_of_ble_eq_true rfl) dX3_stopAt_35 (Nat.le_of_ble_eq_true rfl) rfl (fun r4 s3 => ?_)
      refine jx_istore_n (lv' := [(2, .int r4), (0, .ref (Ga G 3)), (1, .int x1), (3, .int x3), (4, .int x4)]) h dX3_stopAt_38 rfl (Nat.le_of_ble_eq_true rfl) rfl ?_
      refine jx_iload_n h dX3_stopAt_39 rfl 0 rfl ?_
      refine jx_if_ge (tgt := 45) h dX3_stopAt_40 rfl ?_ ?_
      · refine jx_iload_n h dX3_stopAt_45 rfl 3 rfl ?_
        refine jx_iconst h dX3_stopAt_46 ki_1 ?_
        refine jx_iload_n h dX3_stopAt_47 rfl 0 rfl ?_
        refine jx_ishl h dX3_stopAt_48 ?_
        refine jx_ixor h dX3_stopAt_49 ?_
        refine jx_lti (fun v5 => ?_)
        refine jx_istore_n (lv' := [(3, .int v5), (2, .int r4), (0, .ref (Ga G 3)), (1, .int x1), (4, .int x4)]) h dX3_stopAt_50 rfl (Nat.le_of_ble_eq_true rfl) rfl ?_
        refine jx_iincl (L := fun w => [(4, .int w), (3, .int v5), (2, .int r4), (0, .ref (Ga G 3)), (1, .int x1)]) h dX3_stopAt_51 4 rfl (kn_1 _) (Nat.le_of_ble_eq_true rfl) (fun _ => rfl) (fun x4_6 => ?_)
        refine jx_goto (tgt := 17) h dX3_stopAt_54 rfl ?_
        exact jx_subk [3, 4, 2, 1, 0] h (ih r4 v5 x4_6 s3) rfl
      · refine jx_iconst h dX3_stopAt_43 ki_m1 ?_
        exact jx_iret h dX3_stopAt_44
set_option maxRecDepth 20000 in
theorem c_X3_stopAt {G : Gx} (hG : Gok G ∧ IsG G layC fsoC) (N : Nat) (x1 : Int32) (s : Mem) : Ct G yX3_stopAt cX3_stopAt 5 (some .int) 5 [.ref (Ga G 3), .int x1] tvI s (f_X3_stopAt N x1 s) := by
  refine Ct.of hG (by decide) (Nat.le_of_ble_eq_true rfl) (fun P h => ?_)
  show P _ 0 [(0, .ref (Ga G 3)), (1, .int x1)] [] s
  unfold f_X3_stopAt
  refine jx_aload_n h dX3_stopAt_0 rfl 0 rfl ?_
  refine jx_get (v := .int (gi s 3 5)) h fa_X3_52 lc_3 dX3_stopAt_1 rfl ?_
  refine jx_lti (fun v1 => ?_)
  refine jx_istore_n (lv' := [(2, .int v1), (0, .ref (Ga G 3)), (1, .int x1)]) h dX3_stopAt_4 rfl (Nat.le_of_ble_eq_true rfl) rfl ?_
  refine jx_iconst h dX3_stopAt_5 ki_1 ?_
  refine jx_aload_n h dX3_stopAt_6 rfl 1 rfl ?_
  refine jx_get (v := .int (gi s 3 5)) h fa_X3_52 lc_3 dX3_stopAt_7 rfl ?_
  refine jx_ishl h dX3_stopAt_10 ?_
  refine jx_iconst h dX3_stopAt_11 ki_1 ?_
  refine jx_isub h dX3_stopAt_12 ?_
  refine jx_lti (fun v2 => ?_)
  refine jx_istore_n (lv' := [(3, .int v2), (2, .int v1), (0, .ref (Ga G 3)), (1, .int x1)]) h dX3_stopAt_13 rfl (Nat.le_of_ble_eq_true rfl) rfl ?_
  refine jx_iconst h dX3_stopAt_14 ki_0 ?_
  refine jx_istore (lv' := [(4, .int 0), (3, .int v2), (2, .int v1), (0, .ref (Ga G 3)), (1, .int x1)]) h dX3_stopAt_15 (Nat.le_of_ble_eq_true rfl) rfl ?_
  refine jx_subk [3, 4, 2, 1, 0] h (itr_ind (Q := (fun (f : Int32 → Int32 → Int32 → Mem → Option (Int32 × Mem)) => ∀ (x2 : Int32) (x3 : Int32) (x4 : Int32) (s : Mem), P (f x2 x3 x4 s) 17 [(0, .ref (Ga G 3)), (1, .int x1), (2, .int x2), (3, .int x3), (4, .int x4)] [] s)) (fun _ _ _ _ => jx_none h) (fun r17 ih17 => ?_) N v1 v2 0 s) rfl
  refine w_X3_stopAt_17 hG h N x1  ih17
noncomputable def f_X4_clear (N : Nat) (b : Nat) (s : Mem) : Option (Unit × Mem) :=
  lt (si s b 0 0) (fun s1 => lt (si s1 b 6 0) (fun s2 => some ((), s2)))
set_option maxRecDepth 20000 in
theorem c_X4_clear {G : Gx} (hG : Gok G ∧ IsG G layC fsoC) (N : Nat) (b : Nat) (hb : isLw b = true) (s : Mem) : Ct G yX4_clear cX4_clear 1 none 0 [.ref (Ga G b)] tvV s (f_X4_clear N b s) := by
  refine Ct.of hG (by decide) (Nat.le_of_ble_eq_true rfl) (fun P h => ?_)
  show P _ 0 [(0, .ref (Ga G b))] [] s
  unfold f_X4_clear
  refine jx_aload_n h dX4_clear_0 rfl 0 rfl ?_
  refine jx_iconst h dX4_clear_1 ki_0 ?_
  refine jx_put h fa_X4_32 fp_X4_0 (isLw_o hb) rfl rfl dX4_clear_2 (fu_X4_0 _ _ _ _) (fun s1 => ?_)
  refine jx_aload_n h dX4_clear_5 rfl 0 rfl ?_
  refine jx_iconst h dX4_clear_6 ki_0 ?_
  refine jx_put h fa_X4_36 fp_X4_6 (isLw_o hb) rfl rfl dX4_clear_7 (fu_X4_6 _ _ _ _) (fun s2 => ?_)
  exact jx_vret h dX4_clear_10
noncomputable def f_X4_add (N : Nat) (b : Nat) (x1 : Int32) (s : Mem) : Option (Unit × Mem) :=
  if 240 ≤ (gi s b 6) then (some ((), s)) else chk (gi s b 6) 240 (lt (si s (b + 5) (ix (gi s b 6)) x1) (fun s1 => lt (si s1 b 6 ((gi s1 b 6) + 1)) (fun s2 => some ((), s2))))
set_option maxRecDepth 20000 in
theorem c_X4_add {G : Gx} (hG : Gok G ∧ IsG G layC fsoC) (N : Nat) (b : Nat) (hb : isLw b = true) (x1 : Int32) (s : Mem) : Ct G yX4_add cX4_add 2 none 0 [.ref (Ga G b), .int x1] tvV s (f_X4_add N b x1 s) := by
  refine Ct.of hG (by decide) (Nat.le_of_ble_eq_true rfl) (fun P h => ?_)
  show P _ 0 [(0, .ref (Ga G b)), (1, .int x1)] [] s
  unfold f_X4_add
  refine jx_aload_n h dX4_add_0 rfl 0 rfl ?_
  refine jx_get (v := .int (gi s b 6)) h fa_X4_36 (isLw_o hb) dX4_add_1 rfl ?_
  refine jx_sipush h dX4_add_4 ks_240 ?_
  refine jx_icmp_ge (tgt := 30) h dX4_add_7 rfl ?_ ?_
  · exact jx_vret h dX4_add_30
  · refine jx_aload_n h dX4_add_10 rfl 0 rfl ?_
    refine jx_get (v := .ref (Ga G (b + 5))) h fa_X4_22 (isLw_o hb) dX4_add_11 rfl ?_
    refine jx_aload_n h dX4_add_14 rfl 0 rfl ?_
    refine jx_get (v := .int (gi s b 6)) h fa_X4_36 (isLw_o hb) dX4_add_15 rfl ?_
    refine jx_iload_n h dX4_add_18 rfl 1 rfl ?_
    refine jx_iastore h (isLw_5 hb) dX4_add_19 (fun s1 => ?_)
    refine jx_aload_n h dX4_add_20 rfl 0 rfl ?_
    refine jx_dup h dX4_add_21 rfl ?_
    refine jx_get (v := .int (gi s1 b 6)) h fa_X4_36 (isLw_o hb) dX4_add_22 rfl ?_
    refine jx_iconst h dX4_add_25 ki_1 ?_
    refine jx_iadd h dX4_add_26 ?_
    refine jx_put h fa_X4_36 fp_X4_6 (isLw_o hb) rfl rfl dX4_add_27 (fu_X4_6 _ _ _ _) (fun s2 => ?_)
    exact jx_vret h dX4_add_30
noncomputable def st_X5_winner_5 (N : Nat) (x1 : Nat) (x2 : Int32)  (rec : Int32 → Int32 → Mem → Option (Int32 × Mem)) (x3 : Int32) (x4 : Int32) (s0 : Mem) : Option (Int32 × Mem) :=
  if x2 ≤ x4 then (some (x3, s0)) else if 12 ≤ x4 then (some (x3, s0)) else if x3 < 0 then (lt (x4 + 1) (fun x4_1 => rec x4 x4_1 s0)) else chk x4 (lenC x1) (chk x3 (lenC x1) (if (gi s0 x1 (ix x4)) ≤ (gi s0 x1 (ix x3)) then (lt (x4 + 1) (fun x4_2 => rec x3 x4_2 s0)) else lt (x4 + 1) (fun x4_3 => rec x4 x4_3 s0)))
noncomputable def f_X5_winner (N : Nat) (x1 : Nat) (x2 : Int32) (s : Mem) : Option (Int32 × Mem) :=
  itr (fun _ _ _ => none) (st_X5_winner_5 N x1 x2) N (-1) 0 s
set_option maxRecDepth 20000 in
theorem w_X5_winner_5 {G : Gx} (hG : Gok G ∧ IsG G layC fsoC) {P : Option (Int32 × Mem) → Nat → List (Nat × Value) → List Value → Mem → Prop} (h : Jk G layC fsoC RX5 cX5_winner 5 (some .int) 0 tvI P) (N : Nat) (x1 : Nat) (x2 : Int32) (hx1 : isAr x1 = true) {rec : Int32 → Int32 → Mem → Option (Int32 × Mem)} (ih : ∀ (x3 : Int32) (x4 : Int32) (s : Mem), P (rec x3 x4 s) 5 [(1, .ref (Ga G x1)), (2, .int x2), (3, .int x3), (4, .int x4)] [] s) : ∀ (x3 : Int32) (x4 : Int32) (s : Mem), P (st_X5_winner_5 N x1 x2 rec x3 x4 s) 5 [(1, .ref (Ga G x1)), (2, .int x2), (3, .int x3), (4, .int x4)] [] s := by
  intro x3 x4 s0
  unfold st_X5_winner_5
  refine jx_iload h dX5_winner_5 3 rfl ?_
  refine jx_iload_n h dX5_winner_7 rfl 1 rfl ?_
  refine jx_icmp_ge (tgt := 41) h dX5_winner_8 rfl ?_ ?_
  · refine jx_iload_n h dX5_winner_41 rfl 2 rfl ?_
    exact jx_iret h dX5_winner_42
  · refine jx_iload h dX5_winner_11 3 rfl ?_
    refine jx_bipush h dX5_winner_13 kb_12 ?_
    refine jx_icmp_ge (tgt := 41) h dX5_winner_15 rfl ?_ ?_
    · refine jx_iload_n h dX5_winner_41 rfl 2 rfl ?_
      exact jx_iret h dX5_winner_42
    · refine jx_iload_n h dX5_winner_18 rfl 2 rfl ?_
      refine jx_if_lt (tgt := 32) h dX5_winner_19 rfl ?_ ?_
      · refine jx_iload h dX5_winner_32 3 rfl ?_
        refine jx_istore_n (lv' := [(3, .int x4), (1, .ref (Ga G x1)), (2, .int x2), (4, .int x4)]) h dX5_winner_34 rfl (Nat.le_of_ble_eq_true rfl) rfl ?_
        refine jx_iincl (L := fun w => [(4, .int w), (3, .int x4), (1, .ref (Ga G x1)), (2, .int x2)]) h dX5_winner_35 3 rfl (kn_1 _) (Nat.le_of_ble_eq_true rfl) (fun _ => rfl) (fun x4_1 => ?_)
        refine jx_goto (tgt := 5) h dX5_winner_38 rfl ?_
        exact jx_subk [2, 3, 1, 0] h (ih x4 x4_1 s0) rfl
      · refine jx_aload_n h dX5_winner_22 rfl 0 rfl ?_
        refine jx_iload h dX5_winner_23 3 rfl ?_
        refine jx_iaload h (isAr_0 hx1) dX5_winner_25 ?_
        refine jx_aload_n h dX5_winner_26 rfl 0 rfl ?_
        refine jx_iload_n h dX5_winner_27 rfl 2 rfl ?_
        refine jx_iaload h (isAr_0 hx1) dX5_winner_28 ?_
        refine jx_icmp_le (tgt := 35) h dX5_winner_29 rfl ?_ ?_
        · refine jx_iincl (L := fun w => [(4, .int w), (1, .ref (Ga G x1)), (2, .int x2), (3, .int x3)]) h dX5_winner_35 3 rfl (kn_1 _) (Nat.le_of_ble_eq_true rfl) (fun _ => rfl) (fun x4_2 => ?_)
          refine jx_goto (tgt := 5) h dX5_winner_38 rfl ?_
          exact jx_subk [1, 2, 3, 0] h (ih x3 x4_2 s0) rfl
        · refine jx_iload h dX5_winner_32 3 rfl ?_
          refine jx_istore_n (lv' := [(3, .int x4), (1, .ref (Ga G x1)), (2, .int x2), (4, .int x4)]) h dX5_winner_34 rfl (Nat.le_of_ble_eq_true rfl) rfl ?_
          refine jx_iincl (L := fun w => [(4, .int w), (3, .int x4), (1, .ref (Ga G x1)), (2, .int x2)]) h dX5_winner_35 3 rfl (kn_1 _) (Nat.le_of_ble_eq_true rfl) (fun _ => rfl) (fun x4_3 => ?_)
          refine jx_goto (tgt := 5) h dX5_winner_38 rfl ?_
          exact jx_subk [2, 3, 1, 0] h (ih x4 x4_3 s0) rfl
set_option maxRecDepth 20000 in
theorem c_X5_winner {G : Gx} (hG : Gok G ∧ IsG G layC fsoC) (N : Nat) (x1 : Nat) (hx1 : isAr x1 = true) (x2 : Int32) (s : Mem) : Ct G yX5_winner cX5_winner 5 (some .int) 0 [.ref (Ga G 122), .ref (Ga G x1), .int x2] tvI s (f_X5_winner N x1 x2 s) := by
  refine Ct.of hG (by decide) (Nat.le_of_ble_eq_true rfl) (fun P h => ?_)
  show P _ 0 [(0, .ref (Ga G 122)), (1, .ref (Ga G x1)), (2, .int x2)] [] s
  unfold f_X5_winner
  refine jx_iconst h dX5_winner_0 ki_m1 ?_
  refine jx_istore_n (lv' := [(3, .int (-1)), (0, .ref (Ga G 122)), (1, .ref (Ga G x1)), (2, .int x2)]) h dX5_winner_1 rfl (Nat.le_of_ble_eq_true rfl) rfl ?_
  refine jx_iconst h dX5_winner_2 ki_0 ?_
  refine jx_istore (lv' := [(4, .int 0), (3, .int (-1)), (0, .ref (Ga G 122)), (1, .ref (Ga G x1)), (2, .int x2)]) h dX5_winner_3 (Nat.le_of_ble_eq_true rfl) rfl ?_
  refine jx_subk [3, 4, 1, 0] h (itr_ind (Q := (fun (f : Int32 → Int32 → Mem → Option (Int32 × Mem)) => ∀ (x3 : Int32) (x4 : Int32) (s : Mem), P (f x3 x4 s) 5 [(1, .ref (Ga G x1)), (2, .int x2), (3, .int x3), (4, .int x4)] [] s)) (fun _ _ _ => jx_none h) (fun r5 ih5 => ?_) N (-1) 0 s) rfl
  refine w_X5_winner_5 hG h N x1 x2 hx1  ih5
noncomputable def st_X5_price_7 (N : Nat) (x1 : Nat) (x2 : Int32) (x3 : Int32)  (rec : Int32 → Int32 → Mem → Option (Int32 × Mem)) (x5 : Int32) (x6 : Int32) (s0 : Mem) : Option (Int32 × Mem) :=
  if x2 ≤ x6 then (some (x5, s0)) else if 12 ≤ x6 then (some (x5, s0)) else if x6 = x3 then (lt (x6 + 1) (fun x6_1 => rec x5 x6_1 s0)) else chk x6 (lenC x1) (lt (imax x5 (gi s0 x1 (ix x6))) (fun v2 => lt (x6 + 1) (fun x6_3 => rec v2 x6_3 s0)))
noncomputable def f_X5_price (N : Nat) (x1 : Nat) (x2 : Int32) (x3 : Int32) (x4 : Int32) (s : Mem) : Option (Int32 × Mem) :=
  itr (fun _ _ _ => none) (st_X5_price_7 N x1 x2 x3) N x4 0 s
set_option maxRecDepth 20000 in
theorem w_X5_price_7 {G : Gx} (hG : Gok G ∧ IsG G layC fsoC) {P : Option (Int32 × Mem) → Nat → List (Nat × Value) → List Value → Mem → Prop} (h : Jk G layC fsoC RX5 cX5_price 7 (some .int) 1 tvI P) (N : Nat) (x1 : Nat) (x2 : Int32) (x3 : Int32) (hx1 : isAr x1 = true) {rec : Int32 → Int32 → Mem → Option (Int32 × Mem)} (ih : ∀ (x5 : Int32) (x6 : Int32) (s : Mem), P (rec x5 x6 s) 7 [(1, .ref (Ga G x1)), (2, .int x2), (3, .int x3), (5, .int x5), (6, .int x6)] [] s) : ∀ (x5 : Int32) (x6 : Int32) (s : Mem), P (st_X5_price_7 N x1 x2 x3 rec x5 x6 s) 7 [(1, .ref (Ga G x1)), (2, .int x2), (3, .int x3), (5, .int x5), (6, .int x6)] [] s := by
  intro x5 x6 s0
  unfold st_X5_price_7
  refine jx_iload h dX5_price_7 4 rfl ?_
  refine jx_iload_n h dX5_price_9 rfl 1 rfl ?_
  refine jx_icmp_ge (tgt := 43) h dX5_price_10 rfl ?_ ?_
  · refine jx_iload h dX5_price_43 3 rfl ?_
    exact jx_iret h dX5_price_45
  · refine jx_iload h dX5_price_13 4 rfl ?_
    refine jx_bipush h dX5_price_15 kb_12 ?_
    refine jx_icmp_ge (tgt := 43) h dX5_price_17 rfl ?_ ?_
    · refine jx_iload h dX5_price_43 3 rfl ?_
      exact jx_iret h dX5_price_45
    · refine jx_iload h dX5_price_20 4 rfl ?_
      refine jx_iload_n h dX5_price_22 rfl 2 rfl ?_
      refine jx_icmp_eq (tgt := 37) h dX5_price_23 rfl ?_ ?_
      · refine jx_iincl (L := fun w => [(6, .int w), (1, .ref (Ga G x1)), (2, .int x2), (3, .int x3), (5, .int x5)]) h dX5_price_37 4 rfl (kn_1 _) (Nat.le_of_ble_eq_true rfl) (fun _ => rfl) (fun x6_1 => ?_)
        refine jx_goto (tgt := 7) h dX5_price_40 rfl ?_
        exact jx_subk [1, 2, 3, 4, 0] h (ih x5 x6_1 s0) rfl
      · refine jx_iload h dX5_price_26 3 rfl ?_
        refine jx_aload_n h dX5_price_28 rfl 0 rfl ?_
        refine jx_iload h dX5_price_29 4 rfl ?_
        refine jx_iaload h (isAr_0 hx1) dX5_price_31 ?_
        refine jx_mmax h mm_X5_27 (Nat.le_of_ble_eq_true rfl) (Nat.le_of_ble_eq_true rfl) dX5_price_32 ?_
        refine jx_lti (fun v2 => ?_)
        refine jx_istore (lv' := [(5, .int v2), (1, .ref (Ga G x1)), (2, .int x2), (3, .int x3), (6, .int x6)]) h dX5_price_35 (Nat.le_of_ble_eq_true rfl) rfl ?_
        refine jx_iincl (L := fun w => [(6, .int w), (5, .int v2), (1, .ref (Ga G x1)), (2, .int x2), (3, .int x3)]) h dX5_price_37 4 rfl (kn_1 _) (Nat.le_of_ble_eq_true rfl) (fun _ => rfl) (fun x6_3 => ?_)
        refine jx_goto (tgt := 7) h dX5_price_40 rfl ?_
        exact jx_subk [2, 3, 4, 1, 0] h (ih v2 x6_3 s0) rfl
set_option maxRecDepth 20000 in
theorem c_X5_price {G : Gx} (hG : Gok G ∧ IsG G layC fsoC) (N : Nat) (x1 : Nat) (hx1 : isAr x1 = true) (x2 : Int32) (x3 : Int32) (x4 : Int32) (s : Mem) : Ct G yX5_price cX5_price 7 (some .int) 1 [.ref (Ga G 122), .ref (Ga G x1), .int x2, .int x3, .int x4] tvI s (f_X5_price N x1 x2 x3 x4 s) := by
  refine Ct.of hG (by decide) (Nat.le_of_ble_eq_true rfl) (fun P h => ?_)
  show P _ 0 [(0, .ref (Ga G 122)), (1, .ref (Ga G x1)), (2, .int x2), (3, .int x3), (4, .int x4)] [] s
  unfold f_X5_price
  refine jx_iload h dX5_price_0 4 rfl ?_
  refine jx_istore (lv' := [(5, .int x4), (0, .ref (Ga G 122)), (1, .ref (Ga G x1)), (2, .int x2), (3, .int x3), (4, .int x4)]) h dX5_price_2 (Nat.le_of_ble_eq_true rfl) rfl ?_
  refine jx_iconst h dX5_price_4 ki_0 ?_
  refine jx_istore (lv' := [(6, .int 0), (5, .int x4), (0, .ref (Ga G 122)), (1, .ref (Ga G x1)), (2, .int x2), (3, .int x3), (4, .int x4)]) h dX5_price_5 (Nat.le_of_ble_eq_true rfl) rfl ?_
  refine jx_subk [3, 4, 5, 1, 0] h (itr_ind (Q := (fun (f : Int32 → Int32 → Mem → Option (Int32 × Mem)) => ∀ (x5 : Int32) (x6 : Int32) (s : Mem), P (f x5 x6 s) 7 [(1, .ref (Ga G x1)), (2, .int x2), (3, .int x3), (5, .int x5), (6, .int x6)] [] s)) (fun _ _ _ => jx_none h) (fun r7 ih7 => ?_) N x4 0 s) rfl
  refine w_X5_price_7 hG h N x1 x2 x3 hx1  ih7
noncomputable def st_X5_takeLosses_5 (N : Nat) (x1 : Nat) (x2 : Int32)  (rec : Int32 → Int32 → Mem → Option (Int32 × Mem)) (x3 : Int32) (x4 : Int32) (s0 : Mem) : Option (Int32 × Mem) :=
  if x2 ≤ x4 then (ckz x3 (some (x3, s0))) else if 8 ≤ x4 then (ckz x3 (some (x3, s0))) else chk ((2 : Int32) * x4) (lenC x1) (chk (((2 : Int32) * x4) + 1) (lenC x1) (chk x4 8 (lt (si s0 123 (ix x4) (((gi s0 x1 (ix ((2 : Int32) * x4))) * 256) + (gi s0 x1 (ix (((2 : Int32) * x4) + 1))))) (fun s1 => if x3 = 0 then (lt (x4 + 1) (fun x4_2 => rec 0 x4_2 s1)) else chk x4 8 (if 9999 < (gi s1 123 (ix x4)) then (lt (x4 + 1) (fun x4_3 => rec 0 x4_3 s1)) else lt (x4 + 1) (fun x4_4 => rec 1 x4_4 s1))))))
noncomputable def f_X5_takeLosses (N : Nat) (x1 : Nat) (x2 : Int32) (s : Mem) : Option (Int32 × Mem) :=
  itr (fun _ _ _ => none) (st_X5_takeLosses_5 N x1 x2) N 1 0 s
set_option maxRecDepth 20000 in
theorem w_X5_takeLosses_5 {G : Gx} (hG : Gok G ∧ IsG G layC fsoC) {P : Option (Int32 × Mem) → Nat → List (Nat × Value) → List Value → Mem → Prop} (h : Jk G layC fsoC RX5 cX5_takeLosses 5 (some .boolean) 0 tvI P) (N : Nat) (x1 : Nat) (x2 : Int32) (hx1 : isAr x1 = true) {rec : Int32 → Int32 → Mem → Option (Int32 × Mem)} (ih : ∀ (x3 : Int32) (x4 : Int32) (s : Mem), P (rec x3 x4 s) 5 [(0, .ref (Ga G 122)), (1, .ref (Ga G x1)), (2, .int x2), (3, .int x3), (4, .int x4)] [] s) : ∀ (x3 : Int32) (x4 : Int32) (s : Mem), P (st_X5_takeLosses_5 N x1 x2 rec x3 x4 s) 5 [(0, .ref (Ga G 122)), (1, .ref (Ga G x1)), (2, .int x2), (3, .int x3), (4, .int x4)] [] s := by
  intro x3 x4 s0
  unfold st_X5_takeLosses_5
  refine jx_iload h dX5_takeLosses_5 4 rfl ?_
  refine jx_iload_n h dX5_takeLosses_7 rfl 2 rfl ?_
  refine jx_icmp_ge (tgt := 73) h dX5_takeLosses_8 rfl ?_ ?_
  · refine jx_iload_n h dX5_takeLosses_73 rfl 3 rfl ?_
    exact jx_zretc h dX5_takeLosses_74
  · refine jx_iload h dX5_takeLosses_11 4 rfl ?_
    refine jx_bipush h dX5_takeLosses_13 kb_8 ?_
    refine jx_icmp_ge (tgt := 73) h dX5_takeLosses_15 rfl ?_ ?_
    · refine jx_iload_n h dX5_takeLosses_73 rfl 3 rfl ?_
      exact jx_zretc h dX5_takeLosses_74
    · refine jx_aload_n h dX5_takeLosses_18 rfl 0 rfl ?_
      refine jx_get (v := .ref (Ga G 123)) h fa_X5_11 lc_122 dX5_takeLosses_19 rfl ?_
      refine jx_iload h dX5_takeLosses_22 4 rfl ?_
      refine jx_aload_n h dX5_takeLosses_24 rfl 1 rfl ?_
      refine jx_iconst h dX5_takeLosses_25 ki_2 ?_
      refine jx_iload h dX5_takeLosses_26 4 rfl ?_
      refine jx_imul h dX5_takeLosses_28 ?_
      refine jx_iaload h (isAr_0 hx1) dX5_takeLosses_29 ?_
      refine jx_sipush h dX5_takeLosses_30 ks_256 ?_
      refine jx_imul h dX5_takeLosses_33 ?_
      refine jx_aload_n h dX5_takeLosses_34 rfl 1 rfl ?_
      refine jx_iconst h dX5_takeLosses_35 ki_2 ?_
      refine jx_iload h dX5_takeLosses_36 4 rfl ?_
      refine jx_imul h dX5_takeLosses_38 ?_
      refine jx_iconst h dX5_takeLosses_39 ki_1 ?_
      refine jx_iadd h dX5_takeLosses_40 ?_
      refine jx_iaload h (isAr_0 hx1) dX5_takeLosses_41 ?_
      refine jx_iadd h dX5_takeLosses_42 ?_
      refine jx_iastore h lc_123 dX5_takeLosses_43 (fun s1 => ?_)
      refine jx_iload_n h dX5_takeLosses_44 rfl 3 rfl ?_
      refine jx_if_eq (tgt := 65) h dX5_takeLosses_45 rfl ?_ ?_
      · refine jx_iconst h dX5_takeLosses_65 ki_0 ?_
        refine jx_istore_n (lv' := [(3, .int 0), (0, .ref (Ga G 122)), (1, .ref (Ga G x1)), (2, .int x2), (4, .int x4)]) h dX5_takeLosses_66 rfl (Nat.le_of_ble_eq_true rfl) rfl ?_
        refine jx_iincl (L := fun w => [(4, .int w), (3, .int 0), (0, .ref (Ga G 122)), (1, .ref (Ga G x1)), (2, .int x2)]) h dX5_takeLosses_67 4 rfl (kn_1 _) (Nat.le_of_ble_eq_true rfl) (fun _ => rfl) (fun x4_2 => ?_)
        refine jx_goto (tgt := 5) h dX5_takeLosses_70 rfl ?_
        exact jx_subk [2, 3, 4, 1, 0] h (ih 0 x4_2 s1) rfl
      · refine jx_aload_n h dX5_takeLosses_48 rfl 0 rfl ?_
        refine jx_get (v := .ref (Ga G 123)) h fa_X5_11 lc_122 dX5_takeLosses_49 rfl ?_
        refine jx_iload h dX5_takeLosses_52 4 rfl ?_
        refine jx_iaload h lc_123 dX5_takeLosses_54 ?_
        refine jx_sipush h dX5_takeLosses_55 ks_9999 ?_
        refine jx_icmp_gt (tgt := 65) h dX5_takeLosses_58 rfl ?_ ?_
        · refine jx_iconst h dX5_takeLosses_65 ki_0 ?_
          refine jx_istore_n (lv' := [(3, .int 0), (0, .ref (Ga G 122)), (1, .ref (Ga G x1)), (2, .int x2), (4, .int x4)]) h dX5_takeLosses_66 rfl (Nat.le_of_ble_eq_true rfl) rfl ?_
          refine jx_iincl (L := fun w => [(4, .int w), (3, .int 0), (0, .ref (Ga G 122)), (1, .ref (Ga G x1)), (2, .int x2)]) h dX5_takeLosses_67 4 rfl (kn_1 _) (Nat.le_of_ble_eq_true rfl) (fun _ => rfl) (fun x4_3 => ?_)
          refine jx_goto (tgt := 5) h dX5_takeLosses_70 rfl ?_
          exact jx_subk [2, 3, 4, 1, 0] h (ih 0 x4_3 s1) rfl
        · refine jx_iconst h dX5_takeLosses_61 ki_1 ?_
          refine jx_goto (tgt := 66) h dX5_takeLosses_62 rfl ?_
          refine jx_istore_n (lv' := [(3, .int 1), (0, .ref (Ga G 122)), (1, .ref (Ga G x1)), (2, .int x2), (4, .int x4)]) h dX5_takeLosses_66 rfl (Nat.le_of_ble_eq_true rfl) rfl ?_
          refine jx_iincl (L := fun w => [(4, .int w), (3, .int 1), (0, .ref (Ga G 122)), (1, .ref (Ga G x1)), (2, .int x2)]) h dX5_takeLosses_67 4 rfl (kn_1 _) (Nat.le_of_ble_eq_true rfl) (fun _ => rfl) (fun x4_4 => ?_)
          refine jx_goto (tgt := 5) h dX5_takeLosses_70 rfl ?_
          exact jx_subk [2, 3, 4, 1, 0] h (ih 1 x4_4 s1) rfl
set_option maxRecDepth 20000 in
theorem c_X5_takeLosses {G : Gx} (hG : Gok G ∧ IsG G layC fsoC) (N : Nat) (x1 : Nat) (hx1 : isAr x1 = true) (x2 : Int32) (s : Mem) : Ct G yX5_takeLosses cX5_takeLosses 5 (some .boolean) 0 [.ref (Ga G 122), .ref (Ga G x1), .int x2] tvI s (f_X5_takeLosses N x1 x2 s) := by
  refine Ct.of hG (by decide) (Nat.le_of_ble_eq_true rfl) (fun P h => ?_)
  show P _ 0 [(0, .ref (Ga G 122)), (1, .ref (Ga G x1)), (2, .int x2)] [] s
  unfold f_X5_takeLosses
  refine jx_iconst h dX5_takeLosses_0 ki_1 ?_
  refine jx_istore_n (lv' := [(3, .int 1), (0, .ref (Ga G 122)), (1, .ref (Ga G x1)), (2, .int x2)]) h dX5_takeLosses_1 rfl (Nat.le_of_ble_eq_true rfl) rfl ?_
  refine jx_iconst h dX5_takeLosses_2 ki_0 ?_
  refine jx_istore (lv' := [(4, .int 0), (3, .int 1), (0, .ref (Ga G 122)), (1, .ref (Ga G x1)), (2, .int x2)]) h dX5_takeLosses_3 (Nat.le_of_ble_eq_true rfl) rfl ?_
  refine jx_subk [2, 3, 4, 1, 0] h (itr_ind (Q := (fun (f : Int32 → Int32 → Mem → Option (Int32 × Mem)) => ∀ (x3 : Int32) (x4 : Int32) (s : Mem), P (f x3 x4 s) 5 [(0, .ref (Ga G 122)), (1, .ref (Ga G x1)), (2, .int x2), (3, .int x3), (4, .int x4)] [] s)) (fun _ _ _ => jx_none h) (fun r5 ih5 => ?_) N 1 0 s) rfl
  refine w_X5_takeLosses_5 hG h N x1 x2 hx1  ih5
noncomputable def st_X5_allOf_4 (N : Nat) (x0 : Nat) (x1 : Int32)  (rec : Int32 → Int32 → Mem → Option (Int32 × Mem)) (x2 : Int32) (x3 : Int32) (s0 : Mem) : Option (Int32 × Mem) :=
  if x1 ≤ x3 then (some (x2, s0)) else if (nI (lenC x0)) ≤ x3 then (some (x2, s0)) else chk x3 (lenC x0) (lt (x2 + (gi s0 x0 (ix x3))) (fun v1 => lt (x3 + 1) (fun x3_2 => rec v1 x3_2 s0)))
noncomputable def f_X5_allOf (N : Nat) (x0 : Nat) (x1 : Int32) (s : Mem) : Option (Int32 × Mem) :=
  itr (fun _ _ _ => none) (st_X5_allOf_4 N x0 x1) N 0 0 s
set_option maxRecDepth 20000 in
theorem w_X5_allOf_4 {G : Gx} (hG : Gok G ∧ IsG G layC fsoC) {P : Option (Int32 × Mem) → Nat → List (Nat × Value) → List Value → Mem → Prop} (h : Jk G layC fsoC RX5 cX5_allOf 4 (some .int) 0 tvI P) (N : Nat) (x0 : Nat) (x1 : Int32) (hx0 : isAr x0 = true) {rec : Int32 → Int32 → Mem → Option (Int32 × Mem)} (ih : ∀ (x2 : Int32) (x3 : Int32) (s : Mem), P (rec x2 x3 s) 4 [(0, .ref (Ga G x0)), (1, .int x1), (2, .int x2), (3, .int x3)] [] s) : ∀ (x2 : Int32) (x3 : Int32) (s : Mem), P (st_X5_allOf_4 N x0 x1 rec x2 x3 s) 4 [(0, .ref (Ga G x0)), (1, .int x1), (2, .int x2), (3, .int x3)] [] s := by
  intro x2 x3 s0
  unfold st_X5_allOf_4
  refine jx_iload_n h dX5_allOf_4 rfl 3 rfl ?_
  refine jx_iload_n h dX5_allOf_5 rfl 1 rfl ?_
  refine jx_icmp_ge (tgt := 27) h dX5_allOf_6 rfl ?_ ?_
  · refine jx_iload_n h dX5_allOf_27 rfl 2 rfl ?_
    exact jx_iret h dX5_allOf_28
  · refine jx_iload_n h dX5_allOf_9 rfl 3 rfl ?_
    refine jx_aload_n h dX5_allOf_10 rfl 0 rfl ?_
    refine jx_alen (v := (nI (lenC x0))) h (isAr_0 hx0) rfl dX5_allOf_11 ?_
    refine jx_icmp_ge (tgt := 27) h dX5_allOf_12 rfl ?_ ?_
    · refine jx_iload_n h dX5_allOf_27 rfl 2 rfl ?_
      exact jx_iret h dX5_allOf_28
    · refine jx_iload_n h dX5_allOf_15 rfl 2 rfl ?_
      refine jx_aload_n h dX5_allOf_16 rfl 0 rfl ?_
      refine jx_iload_n h dX5_allOf_17 rfl 3 rfl ?_
      refine jx_iaload h (isAr_0 hx0) dX5_allOf_18 ?_
      refine jx_iadd h dX5_allOf_19 ?_
      refine jx_lti (fun v1 => ?_)
      refine jx_istore_n (lv' := [(2, .int v1), (0, .ref (Ga G x0)), (1, .int x1), (3, .int x3)]) h dX5_allOf_20 rfl (Nat.le_of_ble_eq_true rfl) rfl ?_
      refine jx_iincl (L := fun w => [(3, .int w), (2, .int v1), (0, .ref (Ga G x0)), (1, .int x1)]) h dX5_allOf_21 3 rfl (kn_1 _) (Nat.le_of_ble_eq_true rfl) (fun _ => rfl) (fun x3_2 => ?_)
      refine jx_goto (tgt := 4) h dX5_allOf_24 rfl ?_
      exact jx_subk [2, 3, 1, 0] h (ih v1 x3_2 s0) rfl
set_option maxRecDepth 20000 in
theorem c_X5_allOf {G : Gx} (hG : Gok G ∧ IsG G layC fsoC) (N : Nat) (x0 : Nat) (hx0 : isAr x0 = true) (x1 : Int32) (s : Mem) : Ct G yX5_allOf cX5_allOf 4 (some .int) 0 [.ref (Ga G x0), .int x1] tvI s (f_X5_allOf N x0 x1 s) := by
  refine Ct.of hG (by decide) (Nat.le_of_ble_eq_true rfl) (fun P h => ?_)
  show P _ 0 [(0, .ref (Ga G x0)), (1, .int x1)] [] s
  unfold f_X5_allOf
  refine jx_iconst h dX5_allOf_0 ki_0 ?_
  refine jx_istore_n (lv' := [(2, .int 0), (0, .ref (Ga G x0)), (1, .int x1)]) h dX5_allOf_1 rfl (Nat.le_of_ble_eq_true rfl) rfl ?_
  refine jx_iconst h dX5_allOf_2 ki_0 ?_
  refine jx_istore_n (lv' := [(3, .int 0), (2, .int 0), (0, .ref (Ga G x0)), (1, .int x1)]) h dX5_allOf_3 rfl (Nat.le_of_ble_eq_true rfl) rfl ?_
  refine jx_subk [2, 3, 1, 0] h (itr_ind (Q := (fun (f : Int32 → Int32 → Mem → Option (Int32 × Mem)) => ∀ (x2 : Int32) (x3 : Int32) (s : Mem), P (f x2 x3 s) 4 [(0, .ref (Ga G x0)), (1, .int x1), (2, .int x2), (3, .int x3)] [] s)) (fun _ _ _ => jx_none h) (fun r4 ih4 => ?_) N 0 0 s) rfl
  refine w_X5_allOf_4 hG h N x0 x1 hx0  ih4
noncomputable def st_X5_giveRest_5 (N : Nat) (x2 : Int32)  (rec : Int32 → Int32 → Mem → Option (Unit × Mem)) (x3 : Int32) (x4 : Int32) (s0 : Mem) : Option (Unit × Mem) :=
  if 8 ≤ x4 then (some ((), s0)) else if x3 ≤ 0 then (some ((), s0)) else chk x4 8 (if (gi s0 124 (ix x4)) < x2 then (lt (x4 + 1) (fun x4_1 => rec x3 x4_1 s0)) else chk x4 8 (chk x4 8 (lt (si s0 125 (ix x4) ((gi s0 125 (ix x4)) + 1)) (fun s2 => lt (x3 + (-1)) (fun x3_3 => lt (x4 + 1) (fun x4_4 => rec x3_3 x4_4 s2))))))
noncomputable def f_X5_giveRest (N : Nat) (x1 : Int32) (x2 : Int32) (s : Mem) : Option (Unit × Mem) :=
  itr (fun _ _ _ => none) (st_X5_giveRest_5 N x2) N x1 0 s
set_option maxRecDepth 20000 in
theorem w_X5_giveRest_5 {G : Gx} (hG : Gok G ∧ IsG G layC fsoC) {P : Option (Unit × Mem) → Nat → List (Nat × Value) → List Value → Mem → Prop} (h : Jk G layC fsoC RX5 cX5_giveRest 5 none 0 tvV P) (N : Nat) (x2 : Int32) {rec : Int32 → Int32 → Mem → Option (Unit × Mem)} (ih : ∀ (x3 : Int32) (x4 : Int32) (s : Mem), P (rec x3 x4 s) 5 [(0, .ref (Ga G 122)), (2, .int x2), (3, .int x3), (4, .int x4)] [] s) : ∀ (x3 : Int32) (x4 : Int32) (s : Mem), P (st_X5_giveRest_5 N x2 rec x3 x4 s) 5 [(0, .ref (Ga G 122)), (2, .int x2), (3, .int x3), (4, .int x4)] [] s := by
  intro x3 x4 s0
  unfold st_X5_giveRest_5
  refine jx_iload h dX5_giveRest_5 3 rfl ?_
  refine jx_bipush h dX5_giveRest_7 kb_8 ?_
  refine jx_icmp_ge (tgt := 47) h dX5_giveRest_9 rfl ?_ ?_
  · exact jx_vret h dX5_giveRest_47
  · refine jx_iload_n h dX5_giveRest_12 rfl 2 rfl ?_
    refine jx_if_le (tgt := 47) h dX5_giveRest_13 rfl ?_ ?_
    · exact jx_vret h dX5_giveRest_47
    · refine jx_aload_n h dX5_giveRest_16 rfl 0 rfl ?_
      refine jx_get (v := .ref (Ga G 124)) h fa_X5_15 lc_122 dX5_giveRest_17 rfl ?_
      refine jx_iload h dX5_giveRest_20 3 rfl ?_
      refine jx_iaload h lc_124 dX5_giveRest_22 ?_
      refine jx_iload_n h dX5_giveRest_23 rfl 1 rfl ?_
      refine jx_icmp_lt (tgt := 41) h dX5_giveRest_24 rfl ?_ ?_
      · refine jx_iincl (L := fun w => [(4, .int w), (0, .ref (Ga G 122)), (2, .int x2), (3, .int x3)]) h dX5_giveRest_41 3 rfl (kn_1 _) (Nat.le_of_ble_eq_true rfl) (fun _ => rfl) (fun x4_1 => ?_)
        refine jx_goto (tgt := 5) h dX5_giveRest_44 rfl ?_
        exact jx_subk [1, 2, 3, 0] h (ih x3 x4_1 s0) rfl
      · refine jx_aload_n h dX5_giveRest_27 rfl 0 rfl ?_
        refine jx_get (v := .ref (Ga G 125)) h fa_X5_18 lc_122 dX5_giveRest_28 rfl ?_
        refine jx_iload h dX5_giveRest_31 3 rfl ?_
        refine jx_dup2 h dX5_giveRest_33 rfl rfl ?_
        refine jx_iaload h lc_125 dX5_giveRest_34 ?_
        refine jx_iconst h dX5_giveRest_35 ki_1 ?_
        refine jx_iadd h dX5_giveRest_36 ?_
        refine jx_iastore h lc_125 dX5_giveRest_37 (fun s2 => ?_)
        refine jx_iincl (L := fun w => [(3, .int w), (0, .ref (Ga G 122)), (2, .int x2), (4, .int x4)]) h dX5_giveRest_38 2 rfl (kn_m1 _) (Nat.le_of_ble_eq_true rfl) (fun _ => rfl) (fun x3_3 => ?_)
        refine jx_iincl (L := fun w => [(4, .int w), (3, .int x3_3), (0, .ref (Ga G 122)), (2, .int x2)]) h dX5_giveRest_41 3 rfl (kn_1 _) (Nat.le_of_ble_eq_true rfl) (fun _ => rfl) (fun x4_4 => ?_)
        refine jx_goto (tgt := 5) h dX5_giveRest_44 rfl ?_
        exact jx_subk [2, 3, 1, 0] h (ih x3_3 x4_4 s2) rfl
set_option maxRecDepth 20000 in
theorem c_X5_giveRest {G : Gx} (hG : Gok G ∧ IsG G layC fsoC) (N : Nat) (x1 : Int32) (x2 : Int32) (s : Mem) : Ct G yX5_giveRest cX5_giveRest 5 none 0 [.ref (Ga G 122), .int x1, .int x2] tvV s (f_X5_giveRest N x1 x2 s) := by
  refine Ct.of hG (by decide) (Nat.le_of_ble_eq_true rfl) (fun P h => ?_)
  show P _ 0 [(0, .ref (Ga G 122)), (1, .int x1), (2, .int x2)] [] s
  unfold f_X5_giveRest
  refine jx_iload_n h dX5_giveRest_0 rfl 1 rfl ?_
  refine jx_istore_n (lv' := [(3, .int x1), (0, .ref (Ga G 122)), (1, .int x1), (2, .int x2)]) h dX5_giveRest_1 rfl (Nat.le_of_ble_eq_true rfl) rfl ?_
  refine jx_iconst h dX5_giveRest_2 ki_0 ?_
  refine jx_istore (lv' := [(4, .int 0), (3, .int x1), (0, .ref (Ga G 122)), (1, .int x1), (2, .int x2)]) h dX5_giveRest_3 (Nat.le_of_ble_eq_true rfl) rfl ?_
  refine jx_subk [2, 4, 1, 0] h (itr_ind (Q := (fun (f : Int32 → Int32 → Mem → Option (Unit × Mem)) => ∀ (x3 : Int32) (x4 : Int32) (s : Mem), P (f x3 x4 s) 5 [(0, .ref (Ga G 122)), (2, .int x2), (3, .int x3), (4, .int x4)] [] s)) (fun _ _ _ => jx_none h) (fun r5 ih5 => ?_) N x1 0 s) rfl
  refine w_X5_giveRest_5 hG h N x2  ih5
noncomputable def st_X5_shareLess_2 (N : Nat) (x1 : Int32)  (rec : Int32 → Mem → Option (Int32 × Mem)) (x2 : Int32) (s0 : Mem) : Option (Int32 × Mem) :=
  if 8 ≤ x2 then (bd (f_X5_allOf N 125 8 s0) (fun r2 s1 => some (r2, s1))) else chk x2 8 (chk x2 8 (lt (si s0 125 (ix x2) (imax 0 ((gi s0 124 (ix x2)) - x1))) (fun s3 => lt (x2 + 1) (fun x2_4 => rec x2_4 s3))))
noncomputable def f_X5_shareLess (N : Nat) (x1 : Int32) (s : Mem) : Option (Int32 × Mem) :=
  itr (fun _ _ => none) (st_X5_shareLess_2 N x1) N 0 s
set_option maxRecDepth 20000 in
theorem w_X5_shareLess_2 {G : Gx} (hG : Gok G ∧ IsG G layC fsoC) {P : Option (Int32 × Mem) → Nat → List (Nat × Value) → List Value → Mem → Prop} (h : Jk G layC fsoC RX5 cX5_shareLess 3 (some .int) 1 tvI P) (N : Nat) (x1 : Int32) {rec : Int32 → Mem → Option (Int32 × Mem)} (ih : ∀ (x2 : Int32) (s : Mem), P (rec x2 s) 2 [(0, .ref (Ga G 122)), (1, .int x1), (2, .int x2)] [] s) : ∀ (x2 : Int32) (s : Mem), P (st_X5_shareLess_2 N x1 rec x2 s) 2 [(0, .ref (Ga G 122)), (1, .int x1), (2, .int x2)] [] s := by
  intro x2 s0
  unfold st_X5_shareLess_2
  refine jx_iload_n h dX5_shareLess_2 rfl 2 rfl ?_
  refine jx_bipush h dX5_shareLess_3 kb_8 ?_
  refine jx_icmp_ge (tgt := 32) h dX5_shareLess_5 rfl ?_ ?_
  · refine jx_aload_n h dX5_shareLess_32 rfl 0 rfl ?_
    refine jx_get (v := .ref (Ga G 125)) h fa_X5_18 lc_122 dX5_shareLess_33 rfl ?_
    refine jx_bipush h dX5_shareLess_36 kb_8 ?_
    refine jx_callSi [] h (c_X5_allOf hG N 125 rfl 8 s0) ml_X5_33 (Nat.le_of_ble_eq_true rfl) (Nat.le_of_ble_eq_true rfl) dX5_shareLess_38 (Nat.le_of_ble_eq_true rfl) rfl (fun r2 s1 => ?_)
    exact jx_iret h dX5_shareLess_41
  · refine jx_aload_n h dX5_shareLess_8 rfl 0 rfl ?_
    refine jx_get (v := .ref (Ga G 125)) h fa_X5_18 lc_122 dX5_shareLess_9 rfl ?_
    refine jx_iload_n h dX5_shareLess_12 rfl 2 rfl ?_
    refine jx_iconst h dX5_shareLess_13 ki_0 ?_
    refine jx_aload_n h dX5_shareLess_14 rfl 0 rfl ?_
    refine jx_get (v := .ref (Ga G 124)) h fa_X5_15 lc_122 dX5_shareLess_15 rfl ?_
    refine jx_iload_n h dX5_shareLess_18 rfl 2 rfl ?_
    refine jx_iaload h lc_124 dX5_shareLess_19 ?_
    refine jx_iload_n h dX5_shareLess_20 rfl 1 rfl ?_
    refine jx_isub h dX5_shareLess_21 ?_
    refine jx_mmax h mm_X5_27 (Nat.le_of_ble_eq_true rfl) (Nat.le_of_ble_eq_true rfl) dX5_shareLess_22 ?_
    refine jx_iastore h lc_125 dX5_shareLess_25 (fun s3 => ?_)
    refine jx_iincl (L := fun w => [(2, .int w), (0, .ref (Ga G 122)), (1, .int x1)]) h dX5_shareLess_26 2 rfl (kn_1 _) (Nat.le_of_ble_eq_true rfl) (fun _ => rfl) (fun x2_4 => ?_)
    refine jx_goto (tgt := 2) h dX5_shareLess_29 rfl ?_
    exact jx_subk [1, 2, 0] h (ih x2_4 s3) rfl
set_option maxRecDepth 20000 in
theorem c_X5_shareLess {G : Gx} (hG : Gok G ∧ IsG G layC fsoC) (N : Nat) (x1 : Int32) (s : Mem) : Ct G yX5_shareLess cX5_shareLess 3 (some .int) 1 [.ref (Ga G 122), .int x1] tvI s (f_X5_shareLess N x1 s) := by
  refine Ct.of hG (by decide) (Nat.le_of_ble_eq_true rfl) (fun P h => ?_)
  show P _ 0 [(0, .ref (Ga G 122)), (1, .int x1)] [] s
  unfold f_X5_shareLess
  refine jx_iconst h dX5_shareLess_0 ki_0 ?_
  refine jx_istore_n (lv' := [(2, .int 0), (0, .ref (Ga G 122)), (1, .int x1)]) h dX5_shareLess_1 rfl (Nat.le_of_ble_eq_true rfl) rfl ?_
  refine jx_subk [1, 2, 0] h (itr_ind (Q := (fun (f : Int32 → Mem → Option (Int32 × Mem)) => ∀ (x2 : Int32) (s : Mem), P (f x2 s) 2 [(0, .ref (Ga G 122)), (1, .int x1), (2, .int x2)] [] s)) (fun _ _ => jx_none h) (fun r2 ih2 => ?_) N 0 s) rfl
  refine w_X5_shareLess_2 hG h N x1  ih2
noncomputable def st_X5_cutAlike_16 (N : Nat) (x1 : Int32) (k42 : Int32 → Mem → Option (Unit × Mem)) (rec : Int32 → Int32 → Mem → Option (Unit × Mem)) (x2 : Int32) (x3 : Int32) (s0 : Mem) : Option (Unit × Mem) :=
  if x3 ≤ 0 then (k42 x2 s0) else bd (f_X5_shareLess N (x2 + x3) s0) (fun r4 s3 => if r4 ≤ x1 then (lt (x3 >>> (1 &&& 31)) (fun v5 => rec x2 v5 s3)) else lt (x2 + x3) (fun v6 => lt (x3 >>> (1 &&& 31)) (fun v7 => rec v6 v7 s3)))
noncomputable def f_X5_cutAlike (N : Nat) (x1 : Int32) (s : Mem) : Option (Unit × Mem) :=
  bd (f_X5_shareLess N 0 s) (fun r2 s1 => if x1 < r2 then (itr (fun _ _ _ => none) (st_X5_cutAlike_16 N x1 (fun (x2_9 : Int32) (s8 : Mem) => lt (x2_9 + 1) (fun v10 => bd (f_X5_shareLess N v10 s8) (fun r12 s11 => bd (f_X5_giveRest N (x1 - r12) v10 s11) (fun _ s13 => some ((), s13)))))) N 0 8192 s1) else some ((), s1))
set_option maxRecDepth 20000 in
theorem w_X5_cutAlike_16 {G : Gx} (hG : Gok G ∧ IsG G layC fsoC) {P : Option (Unit × Mem) → Nat → List (Nat × Value) → List Value → Mem → Prop} (h : Jk G layC fsoC RX5 cX5_cutAlike 4 none 2 tvV P) (N : Nat) (x1 : Int32) {k42 : Int32 → Mem → Option (Unit × Mem)} (hk42 : ∀ (x2 : Int32) (s : Mem), P (k42 x2 s) 42 [(0, .ref (Ga G 122)), (1, .int x1), (2, .int x2)] [] s) {rec : Int32 → Int32 → Mem → Option (Unit × Mem)} (ih : ∀ (x2 : Int32) (x3 : Int32) (s : Mem), P (rec x2 x3 s) 16 [(0, .ref (Ga G 122)), (1, .int x1), (2, .int x2), (3, .int x3)] [] s) : ∀ (x2 : Int32) (x3 : Int32) (s : Mem), P (st_X5_cutAlike_16 N x1 k42 rec x2 x3 s) 16 [(0, .ref (Ga G 122)), (1, .int x1), (2, .int x2), (3, .int x3)] [] s := by
  intro x2 x3 s0
  unfold st_X5_cutAlike_16
  refine jx_iload_n h dX5_cutAlike_16 rfl 3 rfl ?_
  refine jx_if_le (tgt := 42) h dX5_cutAlike_17 rfl ?_ ?_
  · exact jx_subk [0, 1, 2] h (hk42 x2 s0) rfl
  · refine jx_aload_n h dX5_cutAlike_20 rfl 0 rfl ?_
    refine jx_iload_n h dX5_cutAlike_21 rfl 2 rfl ?_
    refine jx_iload_n h dX5_cutAlike_22 rfl 3 rfl ?_
    refine jx_iadd h dX5_cutAlike_23 ?_
    refine jx_callVi [] h lc_122 (c_X5_shareLess hG N (x2 + x3) s0) ml_X5_55 (Nat.le_of_ble_eq_true rfl) (Nat.le_of_ble_eq_true rfl) dX5_cutAlike_24 (Nat.le_of_ble_eq_true rfl) rfl (fun r4 s3 => ?_)
    refine jx_iload_n h dX5_cutAlike_27 rfl 1 rfl ?_
    refine jx_icmp_le (tgt := 35) h dX5_cutAlike_28 rfl ?_ ?_
    · refine jx_iload_n h dX5_cutAlike_35 rfl 3 rfl ?_
      refine jx_iconst h dX5_cutAlike_36 ki_1 ?_
      refine jx_ishr h dX5_cutAlike_37 ?_
      refine jx_lti (fun v5 => ?_)
      refine jx_istore_n (lv' := [(3, .int v5), (0, .ref (Ga G 122)), (1, .int x1), (2, .int x2)]) h dX5_cutAlike_38 rfl (Nat.le_of_ble_eq_true rfl) rfl ?_
      refine jx_goto (tgt := 16) h dX5_cutAlike_39 rfl ?_
      exact jx_subk [1, 2, 3, 0] h (ih x2 v5 s3) rfl
    · refine jx_iload_n h dX5_cutAlike_31 rfl 2 rfl ?_
      refine jx_iload_n h dX5_cutAlike_32 rfl 3 rfl ?_
      refine jx_iadd h dX5_cutAlike_33 ?_
      refine jx_lti (fun v6 => ?_)
      refine jx_istore_n (lv' := [(2, .int v6), (0, .ref (Ga G 122)), (1, .int x1), (3, .int x3)]) h dX5_cutAlike_34 rfl (Nat.le_of_ble_eq_true rfl) rfl ?_
      refine jx_iload_n h dX5_cutAlike_35 rfl 3 rfl ?_
      refine jx_iconst h dX5_cutAlike_36 ki_1 ?_
      refine jx_ishr h dX5_cutAlike_37 ?_
      refine jx_lti (fun v7 => ?_)
      refine jx_istore_n (lv' := [(3, .int v7), (2, .int v6), (0, .ref (Ga G 122)), (1, .int x1)]) h dX5_cutAlike_38 rfl (Nat.le_of_ble_eq_true rfl) rfl ?_
      refine jx_goto (tgt := 16) h dX5_cutAlike_39 rfl ?_
      exact jx_subk [2, 3, 1, 0] h (ih v6 v7 s3) rfl
set_option maxRecDepth 20000 in
theorem c_X5_cutAlike {G : Gx} (hG : Gok G ∧ IsG G layC fsoC) (N : Nat) (x1 : Int32) (s : Mem) : Ct G yX5_cutAlike cX5_cutAlike 4 none 2 [.ref (Ga G 122), .int x1] tvV s (f_X5_cutAlike N x1 s) := by
  refine Ct.of hG (by decide) (Nat.le_of_ble_eq_true rfl) (fun P h => ?_)
  show P _ 0 [(0, .ref (Ga G 122)), (1, .int x1)] [] s
  unfold f_X5_cutAlike
  refine jx_iconst h dX5_cutAlike_0 ki_0 ?_
  refine jx_istore_n (lv' := [(2, .int 0), (0, .ref (Ga G 122)), (1, .int x1)]) h dX5_cutAlike_1 rfl (Nat.le_of_ble_eq_true rfl) rfl ?_
  refine jx_aload_n h dX5_cutAlike_2 rfl 1 rfl ?_
  refine jx_iconst h dX5_cutAlike_3 ki_0 ?_
  refine jx_callVi [] h lc_122 (c_X5_shareLess hG N 0 s) ml_X5_55 (Nat.le_of_ble_eq_true rfl) (Nat.le_of_ble_eq_true rfl) dX5_cutAlike_4 (Nat.le_of_ble_eq_true rfl) rfl (fun r2 s1 => ?_)
  refine jx_iload_n h dX5_cutAlike_7 rfl 2 rfl ?_
  refine jx_icmp_gt (tgt := 12) h dX5_cutAlike_8 rfl ?_ ?_
  · refine jx_sipush h dX5_cutAlike_12 ks_8192 ?_
    refine jx_istore_n (lv' := [(3, .int 8192), (2, .int 0), (0, .ref (Ga G 122)), (1, .int x1)]) h dX5_cutAlike_15 rfl (Nat.le_of_ble_eq_true rfl) rfl ?_
    refine jx_subk [2, 3, 1, 0] h (itr_ind (Q := (fun (f : Int32 → Int32 → Mem → Option (Unit × Mem)) => ∀ (x2 : Int32) (x3 : Int32) (s : Mem), P (f x2 x3 s) 16 [(0, .ref (Ga G 122)), (1, .int x1), (2, .int x2), (3, .int x3)] [] s)) (fun _ _ _ => jx_none h) (fun r16 ih16 => ?_) N 0 8192 s1) rfl
    refine w_X5_cutAlike_16 hG h N x1 ?_ ih16
    intro x2_9 s8
    refine jx_iload_n h dX5_cutAlike_42 rfl 2 rfl ?_
    refine jx_iconst h dX5_cutAlike_43 ki_1 ?_
    refine jx_iadd h dX5_cutAlike_44 ?_
    refine jx_lti (fun v10 => ?_)
    refine jx_istore_n (lv' := [(3, .int v10), (0, .ref (Ga G 122)), (1, .int x1), (2, .int x2_9)]) h dX5_cutAlike_45 rfl (Nat.le_of_ble_eq_true rfl) rfl ?_
    refine jx_aload_n h dX5_cutAlike_46 rfl 1 rfl ?_
    refine jx_iload_n h dX5_cutAlike_47 rfl 2 rfl ?_
    refine jx_aload_n h dX5_cutAlike_48 rfl 1 rfl ?_
    refine jx_iload_n h dX5_cutAlike_49 rfl 0 rfl ?_
    refine jx_callVi [.int x1, .ref (Ga G 122)] h lc_122 (c_X5_shareLess hG N v10 s8) ml_X5_55 (Nat.le_of_ble_eq_true rfl) (Nat.le_of_ble_eq_true rfl) dX5_cutAlike_50 (Nat.le_of_ble_eq_true rfl) rfl (fun r12 s11 => ?_)
    refine jx_isub h dX5_cutAlike_53 ?_
    refine jx_iload_n h dX5_cutAlike_54 rfl 0 rfl ?_
    refine jx_callVv [] h lc_122 (c_X5_giveRest hG N (x1 - r12) v10 s11) ml_X5_52 (Nat.le_of_ble_eq_true rfl) (Nat.le_of_ble_eq_true rfl) dX5_cutAlike_55 (Nat.le_of_ble_eq_true rfl) rfl (fun s13 => ?_)
    exact jx_vret h dX5_cutAlike_58
  · exact jx_vret h dX5_cutAlike_11
noncomputable def st_X5_divideRests_2 (N : Nat) (x1 : Int32) (x2 : Int32) (k40 : Mem → Option (Unit × Mem)) (rec : Int32 → Mem → Option (Unit × Mem)) (x3 : Int32) (s0 : Mem) : Option (Unit × Mem) :=
  if x1 ≤ x3 then (k40 s0) else if 8 ≤ x3 then (k40 s0) else chk x3 8 (chk x3 8 (chk x3 8 (lt (si s0 124 (ix x3) ((gi s0 123 (ix x3)) - ((gi s0 123 (ix x3)) / 2))) (fun s1 => lt (x3 + 1) (fun x3_2 => rec x3_2 s1)))))
noncomputable def st_X5_divideRests_47 (N : Nat) (x1 : Int32)  (rec : Int32 → Mem → Option (Unit × Mem)) (x3 : Int32) (s0 : Mem) : Option (Unit × Mem) :=
  if x1 ≤ x3 then (some ((), s0)) else if 8 ≤ x3 then (some ((), s0)) else chk x3 8 (chk x3 8 (chk x3 8 (lt (si s0 125 (ix x3) ((gi s0 125 (ix x3)) + ((gi s0 123 (ix x3)) / 2))) (fun s6 => lt (x3 + 1) (fun x3_7 => rec x3_7 s6)))))
noncomputable def f_X5_divideRests (N : Nat) (x1 : Int32) (x2 : Int32) (s : Mem) : Option (Unit × Mem) :=
  itr (fun _ _ => none) (st_X5_divideRests_2 N x1 x2 (fun  (s3 : Mem) => bd (f_X5_cutAlike N x2 s3) (fun _ s4 => itr (fun _ _ => none) (st_X5_divideRests_47 N x1) N 0 s4))) N 0 s
set_option maxRecDepth 20000 in
theorem w_X5_divideRests_2 {G : Gx} (hG : Gok G ∧ IsG G layC fsoC) {P : Option (Unit × Mem) → Nat → List (Nat × Value) → List Value → Mem → Prop} (h : Jk G layC fsoC RX5 cX5_divideRests 4 none 3 tvV P) (N : Nat) (x1 : Int32) (x2 : Int32) {k40 : Mem → Option (Unit × Mem)} (hk40 : ∀  (s : Mem), P (k40 s) 40 [(0, .ref (Ga G 122)), (1, .int x1), (2, .int x2)] [] s) {rec : Int32 → Mem → Option (Unit × Mem)} (ih : ∀ (x3 : Int32) (s : Mem), P (rec x3 s) 2 [(0, .ref (Ga G 122)), (1, .int x1), (2, .int x2), (3, .int x3)] [] s) : ∀ (x3 : Int32) (s : Mem), P (st_X5_divideRests_2 N x1 x2 k40 rec x3 s) 2 [(0, .ref (Ga G 122)), (1, .int x1), (2, .int x2), (3, .int x3)] [] s := by
  intro x3 s0
  unfold st_X5_divideRests_2
  refine jx_iload_n h dX5_divideRests_2 rfl 3 rfl ?_
  refine jx_iload_n h dX5_divideRests_3 rfl 1 rfl ?_
  refine jx_icmp_ge (tgt := 40) h dX5_divideRests_4 rfl ?_ ?_
  · exact jx_subk [0, 1, 2] h (hk40 s0) rfl
  · refine jx_iload_n h dX5_divideRests_7 rfl 3 rfl ?_
    refine jx_bipush h dX5_divideRests_8 kb_8 ?_
    refine jx_icmp_ge (tgt := 40) h dX5_divideRests_10 rfl ?_ ?_
    · exact jx_subk [0, 1, 2] h (hk40 s0) rfl
    · refine jx_aload_n h dX5_divideRests_13 rfl 0 rfl ?_
      refine jx_get (v := .ref (Ga G 124)) h fa_X5_15 lc_122 dX5_divideRests_14 rfl ?_
      refine jx_iload_n h dX5_divideRests_17 rfl 3 rfl ?_
      refine jx_aload_n h dX5_divideRests_18 rfl 0 rfl ?_
      refine jx_get (v := .ref (Ga G 123)) h fa_X5_11 lc_122 dX5_divideRests_19 rfl ?_
      refine jx_iload_n h dX5_divideRests_22 rfl 3 rfl ?_
      refine jx_iaload h lc_123 dX5_divideRests_23 ?_
      refine jx_aload_n h dX5_divideRests_24 rfl 0 rfl ?_
      refine jx_get (v := .ref (Ga G 123)) h fa_X5_11 lc_122 dX5_divideRests_25 rfl ?_
      refine jx_iload_n h dX5_divideRests_28 rfl 3 rfl ?_
      refine jx_iaload h lc_123 dX5_divideRests_29 ?_
      refine jx_iconst h dX5_divideRests_30 ki_2 ?_
      refine jx_idivc h (by decide) dX5_divideRests_31 ?_
      refine jx_isub h dX5_divideRests_32 ?_
      refine jx_iastore h lc_124 dX5_divideRests_33 (fun s1 => ?_)
      refine jx_iincl (L := fun w => [(3, .int w), (0, .ref (Ga G 122)), (1, .int x1), (2, .int x2)]) h dX5_divideRests_34 3 rfl (kn_1 _) (Nat.le_of_ble_eq_true rfl) (fun _ => rfl) (fun x3_2 => ?_)
      refine jx_goto (tgt := 2) h dX5_divideRests_37 rfl ?_
      exact jx_subk [1, 2, 3, 0] h (ih x3_2 s1) rfl
set_option maxRecDepth 20000 in
theorem w_X5_divideRests_47 {G : Gx} (hG : Gok G ∧ IsG G layC fsoC) {P : Option (Unit × Mem) → Nat → List (Nat × Value) → List Value → Mem → Prop} (h : Jk G layC fsoC RX5 cX5_divideRests 4 none 3 tvV P) (N : Nat) (x1 : Int32) {rec : Int32 → Mem → Option (Unit × Mem)} (ih : ∀ (x3 : Int32) (s : Mem), P (rec x3 s) 47 [(0, .ref (Ga G 122)), (1, .int x1), (3, .int x3)] [] s) : ∀ (x3 : Int32) (s : Mem), P (st_X5_divideRests_47 N x1 rec x3 s) 47 [(0, .ref (Ga G 122)), (1, .int x1), (3, .int x3)] [] s := by
  intro x3 s0
  unfold st_X5_divideRests_47
  refine jx_iload_n h dX5_divideRests_47 rfl 2 rfl ?_
  refine jx_iload_n h dX5_divideRests_48 rfl 1 rfl ?_
  refine jx_icmp_ge (tgt := 81) h dX5_divideRests_49 rfl ?_ ?_
  · exact jx_vret h dX5_divideRests_81
  · refine jx_iload_n h dX5_divideRests_52 rfl 2 rfl ?_
    refine jx_bipush h dX5_divideRests_53 kb_8 ?_
    refine jx_icmp_ge (tgt := 81) h dX5_divideRests_55 rfl ?_ ?_
    · exact jx_vret h dX5_divideRests_81
    · refine jx_aload_n h dX5_divideRests_58 rfl 0 rfl ?_
      refine jx_get (v := .ref (Ga G 125)) h fa_X5_18 lc_122 dX5_divideRests_59 rfl ?_
      refine jx_iload_n h dX5_divideRests_62 rfl 2 rfl ?_
      refine jx_dup2 h dX5_divideRests_63 rfl rfl ?_
      refine jx_iaload h lc_125 dX5_divideRests_64 ?_
      refine jx_aload_n h dX5_divideRests_65 rfl 0 rfl ?_
      refine jx_get (v := .ref (Ga G 123)) h fa_X5_11 lc_122 dX5_divideRests_66 rfl ?_
      refine jx_iload_n h dX5_divideRests_69 rfl 2 rfl ?_
      refine jx_iaload h lc_123 dX5_divideRests_70 ?_
      refine jx_iconst h dX5_divideRests_71 ki_2 ?_
      refine jx_idivc h (by decide) dX5_divideRests_72 ?_
      refine jx_iadd h dX5_divideRests_73 ?_
      refine jx_iastore h lc_125 dX5_divideRests_74 (fun s6 => ?_)
      refine jx_iincl (L := fun w => [(3, .int w), (0, .ref (Ga G 122)), (1, .int x1)]) h dX5_divideRests_75 2 rfl (kn_1 _) (Nat.le_of_ble_eq_true rfl) (fun _ => rfl) (fun x3_7 => ?_)
      refine jx_goto (tgt := 47) h dX5_divideRests_78 rfl ?_
      exact jx_subk [1, 2, 0] h (ih x3_7 s6) rfl
set_option maxRecDepth 20000 in
theorem c_X5_divideRests {G : Gx} (hG : Gok G ∧ IsG G layC fsoC) (N : Nat) (x1 : Int32) (x2 : Int32) (s : Mem) : Ct G yX5_divideRests cX5_divideRests 4 none 3 [.ref (Ga G 122), .int x1, .int x2] tvV s (f_X5_divideRests N x1 x2 s) := by
  refine Ct.of hG (by decide) (Nat.le_of_ble_eq_true rfl) (fun P h => ?_)
  show P _ 0 [(0, .ref (Ga G 122)), (1, .int x1), (2, .int x2)] [] s
  unfold f_X5_divideRests
  refine jx_iconst h dX5_divideRests_0 ki_0 ?_
  refine jx_istore_n (lv' := [(3, .int 0), (0, .ref (Ga G 122)), (1, .int x1), (2, .int x2)]) h dX5_divideRests_1 rfl (Nat.le_of_ble_eq_true rfl) rfl ?_
  refine jx_subk [1, 2, 3, 0] h (itr_ind (Q := (fun (f : Int32 → Mem → Option (Unit × Mem)) => ∀ (x3 : Int32) (s : Mem), P (f x3 s) 2 [(0, .ref (Ga G 122)), (1, .int x1), (2, .int x2), (3, .int x3)] [] s)) (fun _ _ => jx_none h) (fun r2 ih2 => ?_) N 0 s) rfl
  refine w_X5_divideRests_2 hG h N x1 x2 ?_ ih2
  intro s3
  refine jx_aload_n h dX5_divideRests_40 rfl 0 rfl ?_
  refine jx_iload_n h dX5_divideRests_41 rfl 2 rfl ?_
  refine jx_callVv [] h lc_122 (c_X5_cutAlike hG N x2 s3) ml_X5_41 (Nat.le_of_ble_eq_true rfl) (Nat.le_of_ble_eq_true rfl) dX5_divideRests_42 (Nat.le_of_ble_eq_true rfl) rfl (fun s4 => ?_)
  refine jx_iconst h dX5_divideRests_45 ki_0 ?_
  refine jx_istore_n (lv' := [(3, .int 0), (0, .ref (Ga G 122)), (1, .int x1), (2, .int x2)]) h dX5_divideRests_46 rfl (Nat.le_of_ble_eq_true rfl) rfl ?_
  refine jx_subk [1, 2, 0] h (itr_ind (Q := (fun (f : Int32 → Mem → Option (Unit × Mem)) => ∀ (x3 : Int32) (s : Mem), P (f x3 s) 47 [(0, .ref (Ga G 122)), (1, .int x1), (3, .int x3)] [] s)) (fun _ _ => jx_none h) (fun r47 ih47 => ?_) N 0 s4) rfl
  refine w_X5_divideRests_47 hG h N x1  ih47
noncomputable def st_X5_shareUpTo_2 (N : Nat) (x1 : Int32)  (rec : Int32 → Mem → Option (Int32 × Mem)) (x2 : Int32) (s0 : Mem) : Option (Int32 × Mem) :=
  if 8 ≤ x2 then (bd (f_X5_allOf N 125 8 s0) (fun r2 s1 => some (r2, s1))) else chk x2 8 (chk x2 8 (lt (si s0 125 (ix x2) (imin (gi s0 124 (ix x2)) x1)) (fun s3 => lt (x2 + 1) (fun x2_4 => rec x2_4 s3))))
noncomputable def f_X5_shareUpTo (N : Nat) (x1 : Int32) (s : Mem) : Option (Int32 × Mem) :=
  itr (fun _ _ => none) (st_X5_shareUpTo_2 N x1) N 0 s
set_option maxRecDepth 20000 in
theorem w_X5_shareUpTo_2 {G : Gx} (hG : Gok G ∧ IsG G layC fsoC) {P : Option (Int32 × Mem) → Nat → List (Nat × Value) → List Value → Mem → Prop} (h : Jk G layC fsoC RX5 cX5_shareUpTo 3 (some .int) 1 tvI P) (N : Nat) (x1 : Int32) {rec : Int32 → Mem → Option (Int32 × Mem)} (ih : ∀ (x2 : Int32) (s : Mem), P (rec x2 s) 2 [(0, .ref (Ga G 122)), (1, .int x1), (2, .int x2)] [] s) : ∀ (x2 : Int32) (s : Mem), P (st_X5_shareUpTo_2 N x1 rec x2 s) 2 [(0, .ref (Ga G 122)), (1, .int x1), (2, .int x2)] [] s := by
  intro x2 s0
  unfold st_X5_shareUpTo_2
  refine jx_iload_n h dX5_shareUpTo_2 rfl 2 rfl ?_
  refine jx_bipush h dX5_shareUpTo_3 kb_8 ?_
  refine jx_icmp_ge (tgt := 30) h dX5_shareUpTo_5 rfl ?_ ?_
  · refine jx_aload_n h dX5_shareUpTo_30 rfl 0 rfl ?_
    refine jx_get (v := .ref (Ga G 125)) h fa_X5_18 lc_122 dX5_shareUpTo_31 rfl ?_
    refine jx_bipush h dX5_shareUpTo_34 kb_8 ?_
    refine jx_callSi [] h (c_X5_allOf hG N 125 rfl 8 s0) ml_X5_33 (Nat.le_of_ble_eq_true rfl) (Nat.le_of_ble_eq_true rfl) dX5_shareUpTo_36 (Nat.le_of_ble_eq_true rfl) rfl (fun r2 s1 => ?_)
    exact jx_iret h dX5_shareUpTo_39
  · refine jx_aload_n h dX5_shareUpTo_8 rfl 0 rfl ?_
    refine jx_get (v := .ref (Ga G 125)) h fa_X5_18 lc_122 dX5_shareUpTo_9 rfl ?_
    refine jx_iload_n h dX5_shareUpTo_12 rfl 2 rfl ?_
    refine jx_aload_n h dX5_shareUpTo_13 rfl 0 rfl ?_
    refine jx_get (v := .ref (Ga G 124)) h fa_X5_15 lc_122 dX5_shareUpTo_14 rfl ?_
    refine jx_iload_n h dX5_shareUpTo_17 rfl 2 rfl ?_
    refine jx_iaload h lc_124 dX5_shareUpTo_18 ?_
    refine jx_iload_n h dX5_shareUpTo_19 rfl 1 rfl ?_
    refine jx_mmin h mm_X5_58 (Nat.le_of_ble_eq_true rfl) (Nat.le_of_ble_eq_true rfl) dX5_shareUpTo_20 ?_
    refine jx_iastore h lc_125 dX5_shareUpTo_23 (fun s3 => ?_)
    refine jx_iincl (L := fun w => [(2, .int w), (0, .ref (Ga G 122)), (1, .int x1)]) h dX5_shareUpTo_24 2 rfl (kn_1 _) (Nat.le_of_ble_eq_true rfl) (fun _ => rfl) (fun x2_4 => ?_)
    refine jx_goto (tgt := 2) h dX5_shareUpTo_27 rfl ?_
    exact jx_subk [1, 2, 0] h (ih x2_4 s3) rfl
set_option maxRecDepth 20000 in
theorem c_X5_shareUpTo {G : Gx} (hG : Gok G ∧ IsG G layC fsoC) (N : Nat) (x1 : Int32) (s : Mem) : Ct G yX5_shareUpTo cX5_shareUpTo 3 (some .int) 1 [.ref (Ga G 122), .int x1] tvI s (f_X5_shareUpTo N x1 s) := by
  refine Ct.of hG (by decide) (Nat.le_of_ble_eq_true rfl) (fun P h => ?_)
  show P _ 0 [(0, .ref (Ga G 122)), (1, .int x1)] [] s
  unfold f_X5_shareUpTo
  refine jx_iconst h dX5_shareUpTo_0 ki_0 ?_
  refine jx_istore_n (lv' := [(2, .int 0), (0, .ref (Ga G 122)), (1, .int x1)]) h dX5_shareUpTo_1 rfl (Nat.le_of_ble_eq_true rfl) rfl ?_
  refine jx_subk [1, 2, 0] h (itr_ind (Q := (fun (f : Int32 → Mem → Option (Int32 × Mem)) => ∀ (x2 : Int32) (s : Mem), P (f x2 s) 2 [(0, .ref (Ga G 122)), (1, .int x1), (2, .int x2)] [] s)) (fun _ _ => jx_none h) (fun r2 ih2 => ?_) N 0 s) rfl
  refine w_X5_shareUpTo_2 hG h N x1  ih2
noncomputable def st_X5_giveAlike_18 (N : Nat) (x1 : Int32) (k44 : Int32 → Mem → Option (Unit × Mem)) (rec : Int32 → Int32 → Mem → Option (Unit × Mem)) (x2 : Int32) (x3 : Int32) (s0 : Mem) : Option (Unit × Mem) :=
  if x3 ≤ 0 then (k44 x2 s0) else bd (f_X5_shareUpTo N (x2 + x3) s0) (fun r4 s3 => if x1 < r4 then (lt (x3 >>> (1 &&& 31)) (fun v5 => rec x2 v5 s3)) else lt (x2 + x3) (fun v6 => lt (x3 >>> (1 &&& 31)) (fun v7 => rec v6 v7 s3)))
noncomputable def f_X5_giveAlike (N : Nat) (x1 : Int32) (s : Mem) : Option (Unit × Mem) :=
  bd (f_X5_shareUpTo N 9999 s) (fun r2 s1 => if x1 < r2 then (itr (fun _ _ _ => none) (st_X5_giveAlike_18 N x1 (fun (x2_9 : Int32) (s8 : Mem) => bd (f_X5_shareUpTo N x2_9 s8) (fun r11 s10 => bd (f_X5_giveRest N (x1 - r11) (x2_9 + 1) s10) (fun _ s12 => some ((), s12))))) N 0 8192 s1) else some ((), s1))
set_option maxRecDepth 20000 in
theorem w_X5_giveAlike_18 {G : Gx} (hG : Gok G ∧ IsG G layC fsoC) {P : Option (Unit × Mem) → Nat → List (Nat × Value) → List Value → Mem → Prop} (h : Jk G layC fsoC RX5 cX5_giveAlike 4 none 2 tvV P) (N : Nat) (x1 : Int32) {k44 : Int32 → Mem → Option (Unit × Mem)} (hk44 : ∀ (x2 : Int32) (s : Mem), P (k44 x2 s) 44 [(0, .ref (Ga G 122)), (1, .int x1), (2, .int x2)] [] s) {rec : Int32 → Int32 → Mem → Option (Unit × Mem)} (ih : ∀ (x2 : Int32) (x3 : Int32) (s : Mem), P (rec x2 x3 s) 18 [(0, .ref (Ga G 122)), (1, .int x1), (2, .int x2), (3, .int x3)] [] s) : ∀ (x2 : Int32) (x3 : Int32) (s : Mem), P (st_X5_giveAlike_18 N x1 k44 rec x2 x3 s) 18 [(0, .ref (Ga G 122)), (1, .int x1), (2, .int x2), (3, .int x3)] [] s := by
  intro x2 x3 s0
  unfold st_X5_giveAlike_18
  refine jx_iload_n h dX5_giveAlike_18 rfl 3 rfl ?_
  refine jx_if_le (tgt := 44) h dX5_giveAlike_19 rfl ?_ ?_
  · exact jx_subk [0, 1, 2] h (hk44 x2 s0) rfl
  · refine jx_aload_n h dX5_giveAlike_22 rfl 0 rfl ?_
    refine jx_iload_n h dX5_giveAlike_23 rfl 2 rfl ?_
    refine jx_iload_n h dX5_giveAlike_24 rfl 3 rfl ?_
    refine jx_iadd h dX5_giveAlike_25 ?_
    refine jx_callVi [] h lc_122 (c_X5_shareUpTo hG N (x2 + x3) s0) ml_X5_48 (Nat.le_of_ble_eq_true rfl) (Nat.le_of_ble_eq_true rfl) dX5_giveAlike_26 (Nat.le_of_ble_eq_true rfl) rfl (fun r4 s3 => ?_)
    refine jx_iload_n h dX5_giveAlike_29 rfl 1 rfl ?_
    refine jx_icmp_gt (tgt := 37) h dX5_giveAlike_30 rfl ?_ ?_
    · refine jx_iload_n h dX5_giveAlike_37 rfl 3 rfl ?_
      refine jx_iconst h dX5_giveAlike_38 ki_1 ?_
      refine jx_ishr h dX5_giveAlike_39 ?_
      refine jx_lti (fun v5 => ?_)
      refine jx_istore_n (lv' := [(3, .int v5), (0, .ref (Ga G 122)), (1, .int x1), (2, .int x2)]) h dX5_giveAlike_40 rfl (Nat.le_of_ble_eq_true rfl) rfl ?_
      refine jx_goto (tgt := 18) h dX5_giveAlike_41 rfl ?_
      exact jx_subk [1, 2, 3, 0] h (ih x2 v5 s3) rfl
    · refine jx_iload_n h dX5_giveAlike_33 rfl 2 rfl ?_
      refine jx_iload_n h dX5_giveAlike_34 rfl 3 rfl ?_
      refine jx_iadd h dX5_giveAlike_35 ?_
      refine jx_lti (fun v6 => ?_)
      refine jx_istore_n (lv' := [(2, .int v6), (0, .ref (Ga G 122)), (1, .int x1), (3, .int x3)]) h dX5_giveAlike_36 rfl (Nat.le_of_ble_eq_true rfl) rfl ?_
      refine jx_iload_n h dX5_giveAlike_37 rfl 3 rfl ?_
      refine jx_iconst h dX5_giveAlike_38 ki_1 ?_
      refine jx_ishr h dX5_giveAlike_39 ?_
      refine jx_lti (fun v7 => ?_)
      refine jx_istore_n (lv' := [(3, .int v7), (2, .int v6), (0, .ref (Ga G 122)), (1, .int x1)]) h dX5_giveAlike_40 rfl (Nat.le_of_ble_eq_true rfl) rfl ?_
      refine jx_goto (tgt := 18) h dX5_giveAlike_41 rfl ?_
      exact jx_subk [2, 3, 1, 0] h (ih v6 v7 s3) rfl
set_option maxRecDepth 20000 in
theorem c_X5_giveAlike {G : Gx} (hG : Gok G ∧ IsG G layC fsoC) (N : Nat) (x1 : Int32) (s : Mem) : Ct G yX5_giveAlike cX5_giveAlike 4 none 2 [.ref (Ga G 122), .int x1] tvV s (f_X5_giveAlike N x1 s) := by
  refine Ct.of hG (by decide) (Nat.le_of_ble_eq_true rfl) (fun P h => ?_)
  show P _ 0 [(0, .ref (Ga G 122)), (1, .int x1)] [] s
  unfold f_X5_giveAlike
  refine jx_iconst h dX5_giveAlike_0 ki_0 ?_
  refine jx_istore_n (lv' := [(2, .int 0), (0, .ref (Ga G 122)), (1, .int x1)]) h dX5_giveAlike_1 rfl (Nat.le_of_ble_eq_true rfl) rfl ?_
  refine jx_aload_n h dX5_giveAlike_2 rfl 1 rfl ?_
  refine jx_sipush h dX5_giveAlike_3 ks_9999 ?_
  refine jx_callVi [] h lc_122 (c_X5_shareUpTo hG N 9999 s) ml_X5_48 (Nat.le_of_ble_eq_true rfl) (Nat.le_of_ble_eq_true rfl) dX5_giveAlike_6 (Nat.le_of_ble_eq_true rfl) rfl (fun r2 s1 => ?_)
  refine jx_iload_n h dX5_giveAlike_9 rfl 2 rfl ?_
  refine jx_icmp_gt (tgt := 14) h dX5_giveAlike_10 rfl ?_ ?_
  · refine jx_sipush h dX5_giveAlike_14 ks_8192 ?_
    refine jx_istore_n (lv' := [(3, .int 8192), (2, .int 0), (0, .ref (Ga G 122)), (1, .int x1)]) h dX5_giveAlike_17 rfl (Nat.le_of_ble_eq_true rfl) rfl ?_
    refine jx_subk [2, 3, 1, 0] h (itr_ind (Q := (fun (f : Int32 → Int32 → Mem → Option (Unit × Mem)) => ∀ (x2 : Int32) (x3 : Int32) (s : Mem), P (f x2 x3 s) 18 [(0, .ref (Ga G 122)), (1, .int x1), (2, .int x2), (3, .int x3)] [] s)) (fun _ _ _ => jx_none h) (fun r18 ih18 => ?_) N 0 8192 s1) rfl
    refine w_X5_giveAlike_18 hG h N x1 ?_ ih18
    intro x2_9 s8
    refine jx_aload_n h dX5_giveAlike_44 rfl 0 rfl ?_
    refine jx_iload_n h dX5_giveAlike_45 rfl 1 rfl ?_
    refine jx_aload_n h dX5_giveAlike_46 rfl 0 rfl ?_
    refine jx_iload_n h dX5_giveAlike_47 rfl 2 rfl ?_
    refine jx_callVi [.int x1, .ref (Ga G 122)] h lc_122 (c_X5_shareUpTo hG N x2_9 s8) ml_X5_48 (Nat.le_of_ble_eq_true rfl) (Nat.le_of_ble_eq_true rfl) dX5_giveAlike_48 (Nat.le_of_ble_eq_true rfl) rfl (fun r11 s10 => ?_)
    refine jx_isub h dX5_giveAlike_51 ?_
    refine jx_iload_n h dX5_giveAlike_52 rfl 2 rfl ?_
    refine jx_iconst h dX5_giveAlike_53 ki_1 ?_
    refine jx_iadd h dX5_giveAlike_54 ?_
    refine jx_callVv [] h lc_122 (c_X5_giveRest hG N (x1 - r11) (x2_9 + 1) s10) ml_X5_52 (Nat.le_of_ble_eq_true rfl) (Nat.le_of_ble_eq_true rfl) dX5_giveAlike_55 (Nat.le_of_ble_eq_true rfl) rfl (fun s12 => ?_)
    exact jx_vret h dX5_giveAlike_58
  · exact jx_vret h dX5_giveAlike_13
noncomputable def st_X5_divide_15 (N : Nat) (x1 : Int32) (x2 : Int32) (x3 : Int32) (x4 : Int32) (k69 : Mem → Option (Unit × Mem)) (rec : Int32 → Mem → Option (Unit × Mem)) (x5 : Int32) (s0 : Mem) : Option (Unit × Mem) :=
  if 8 ≤ x5 then (k69 s0) else if x5 < x1 then (if x4 = 0 then (chk x5 8 (chk x5 8 (lt (si s0 124 (ix x5) (gi s0 123 (ix x5))) (fun s3 => lt (x5 + 1) (fun x5_4 => rec x5_4 s3))))) else chk x5 8 (chk x5 8 (lt (si s0 124 (ix x5) ((gi s0 123 (ix x5)) / 2)) (fun s5 => lt (x5 + 1) (fun x5_6 => rec x5_6 s5))))) else chk x5 8 (lt (si s0 124 (ix x5) 0) (fun s7 => lt (x5 + 1) (fun x5_8 => rec x5_8 s7)))
noncomputable def f_X5_divide (N : Nat) (x1 : Int32) (x2 : Int32) (x3 : Int32) (s : Mem) : Option (Unit × Mem) :=
  lt (fun (t2 : Int32) (s1 : Mem) => itr (fun _ _ => none) (st_X5_divide_15 N x1 x2 x3 t2 (fun  (s9 : Mem) => lt (fun  (s10 : Mem) => bd (f_X5_giveAlike N x2 s10) (fun _ s11 => some ((), s11))) (fun j92 => if x3 = 0 then (j92 s9) else lt (fun  (s13 : Mem) => if x3 = 1 then (bd (f_X5_cutAlike N x2 s13) (fun _ s18 => some ((), s18))) else bd (f_X5_allOf N 124 x1 s13) (fun r15 s14 => bd (f_X5_divideRests N x1 (x2 - r15) s14) (fun _ s16 => some ((), s16)))) (fun j100 => if t2 = 0 then (j100 s9) else bd (f_X5_allOf N 123 x1 s9) (fun r21 s20 => if r21 < ((2 : Int32) * x2) then (j100 s20) else j92 s20))))) N 0 s1) (fun j10 => if x3 = 2 then (j10 1 s) else j10 0 s)
set_option maxRecDepth 20000 in
theorem w_X5_divide_15 {G : Gx} (hG : Gok G ∧ IsG G layC fsoC) {P : Option (Unit × Mem) → Nat → List (Nat × Value) → List Value → Mem → Prop} (h : Jk G layC fsoC RX5 cX5_divide 6 none 4 tvV P) (N : Nat) (x1 : Int32) (x2 : Int32) (x3 : Int32) (x4 : Int32) {k69 : Mem → Option (Unit × Mem)} (hk69 : ∀  (s : Mem), P (k69 s) 69 [(0, .ref (Ga G 122)), (1, .int x1), (2, .int x2), (3, .int x3), (4, .int x4)] [] s) {rec : Int32 → Mem → Option (Unit × Mem)} (ih : ∀ (x5 : Int32) (s : Mem), P (rec x5 s) 15 [(0, .ref (Ga G 122)), (1, .int x1), (2, .int x2), (3, .int x3), (4, .int x4), (5, .int x5)] [] s) : ∀ (x5 : Int32) (s : Mem), P (st_X5_divide_15 N x1 x2 x3 x4 k69 rec x5 s) 15 [(0, .ref (Ga G 122)), (1, .int x1), (2, .int x2), (3, .int x3), (4, .int x4), (5, .int x5)] [] s := by
  intro x5 s0
  unfold st_X5_divide_15
  refine jx_iload h dX5_divide_15 5 rfl ?_
  refine jx_bipush h dX5_divide_17 kb_8 ?_
  refine jx_icmp_ge (tgt := 69) h dX5_divide_19 rfl ?_ ?_
  · exact jx_subk [0, 1, 2, 3, 4] h (hk69 s0) rfl
  · refine jx_aload_n h dX5_divide_22 rfl 0 rfl ?_
    refine jx_get (v := .ref (Ga G 124)) h fa_X5_15 lc_122 dX5_divide_23 rfl ?_
    refine jx_iload h dX5_divide_26 5 rfl ?_
    refine jx_iload h dX5_divide_28 5 rfl ?_
    refine jx_iload_n h dX5_divide_30 rfl 1 rfl ?_
    refine jx_icmp_lt (tgt := 38) h dX5_divide_31 rfl ?_ ?_
    · refine jx_iload h dX5_divide_38 4 rfl ?_
      refine jx_if_eq (tgt := 55) h dX5_divide_40 rfl ?_ ?_
      · refine jx_aload_n h dX5_divide_55 rfl 0 rfl ?_
        refine jx_get (v := .ref (Ga G 123)) h fa_X5_11 lc_122 dX5_divide_56 rfl ?_
        refine jx_iload h dX5_divide_59 5 rfl ?_
        refine jx_iaload h lc_123 dX5_divide_61 ?_
        refine jx_iastore h lc_124 dX5_divide_62 (fun s3 => ?_)
        refine jx_iincl (L := fun w => [(5, .int w), (0, .ref (Ga G 122)), (1, .int x1), (2, .int x2), (3, .int x3), (4, .int x4)]) h dX5_divide_63 5 rfl (kn_1 _) (Nat.le_of_ble_eq_true rfl) (fun _ => rfl) (fun x5_4 => ?_)
        refine jx_goto (tgt := 15) h dX5_divide_66 rfl ?_
        exact jx_subk [1, 2, 3, 4, 5, 0] h (ih x5_4 s3) rfl
      · refine jx_aload_n h dX5_divide_43 rfl 0 rfl ?_
        refine jx_get (v := .ref (Ga G 123)) h fa_X5_11 lc_122 dX5_divide_44 rfl ?_
        refine jx_iload h dX5_divide_47 5 rfl ?_
        refine jx_iaload h lc_123 dX5_divide_49 ?_
        refine jx_iconst h dX5_divide_50 ki_2 ?_
        refine jx_idivc h (by decide) dX5_divide_51 ?_
        refine jx_goto (tgt := 62) h dX5_divide_52 rfl ?_
        refine jx_iastore h lc_124 dX5_divide_62 (fun s5 => ?_)
        refine jx_iincl (L := fun w => [(5, .int w), (0, .ref (Ga G 122)), (1, .int x1), (2, .int x2), (3, .int x3), (4, .int x4)]) h dX5_divide_63 5 rfl (kn_1 _) (Nat.le_of_ble_eq_true rfl) (fun _ => rfl) (fun x5_6 => ?_)
        refine jx_goto (tgt := 15) h dX5_divide_66 rfl ?_
        exact jx_subk [1, 2, 3, 4, 5, 0] h (ih x5_6 s5) rfl
    · refine jx_iconst h dX5_divide_34 ki_0 ?_
      refine jx_goto (tgt := 62) h dX5_divide_35 rfl ?_
      refine jx_iastore h lc_124 dX5_divide_62 (fun s7 => ?_)
      refine jx_iincl (L := fun w => [(5, .int w), (0, .ref (Ga G 122)), (1, .int x1), (2, .int x2), (3, .int x3), (4, .int x4)]) h dX5_divide_63 5 rfl (kn_1 _) (Nat.le_of_ble_eq_true rfl) (fun _ => rfl) (fun x5_8 => ?_)
      refine jx_goto (tgt := 15) h dX5_divide_66 rfl ?_
      exact jx_subk [1, 2, 3, 4, 5, 0] h (ih x5_8 s7) rfl
set_option maxRecDepth 20000 in
theorem c_X5_divide {G : Gx} (hG : Gok G ∧ IsG G layC fsoC) (N : Nat) (x1 : Int32) (x2 : Int32) (x3 : Int32) (s : Mem) : Ct G yX5_divide cX5_divide 6 none 4 [.ref (Ga G 122), .int x1, .int x2, .int x3] tvV s (f_X5_divide N x1 x2 x3 s) := by
  refine Ct.of hG (by decide) (Nat.le_of_ble_eq_true rfl) (fun P h => ?_)
  show P _ 0 [(0, .ref (Ga G 122)), (1, .int x1), (2, .int x2), (3, .int x3)] [] s
  unfold f_X5_divide
  refine jx_iload_n h dX5_divide_0 rfl 3 rfl ?_
  refine jx_iconst h dX5_divide_1 ki_2 ?_
  refine jx_join (fun (j : Int32 → Mem → Option (Unit × Mem)) => ∀ (t2 : Int32) (s1 : Mem), P (j t2 s1) 10 [(0, .ref (Ga G 122)), (1, .int x1), (2, .int x2), (3, .int x3)] [.int t2] s1) (fun t2 s1 => ?_) (fun j10 hj10 => ?_)
  · refine jx_istore (lv' := [(4, .int t2), (0, .ref (Ga G 122)), (1, .int x1), (2, .int x2), (3, .int x3)]) h dX5_divide_10 (Nat.le_of_ble_eq_true rfl) rfl ?_
    refine jx_iconst h dX5_divide_12 ki_0 ?_
    refine jx_istore (lv' := [(5, .int 0), (4, .int t2), (0, .ref (Ga G 122)), (1, .int x1), (2, .int x2), (3, .int x3)]) h dX5_divide_13 (Nat.le_of_ble_eq_true rfl) rfl ?_
    refine jx_subk [2, 3, 4, 5, 1, 0] h (itr_ind (Q := (fun (f : Int32 → Mem → Option (Unit × Mem)) => ∀ (x5 : Int32) (s : Mem), P (f x5 s) 15 [(0, .ref (Ga G 122)), (1, .int x1), (2, .int x2), (3, .int x3), (4, .int t2), (5, .int x5)] [] s)) (fun _ _ => jx_none h) (fun r15 ih15 => ?_) N 0 s1) rfl
    refine w_X5_divide_15 hG h N x1 x2 x3 t2 ?_ ih15
    intro s9
    refine jx_iload_n h dX5_divide_69 rfl 3 rfl ?_
    refine jx_join (fun (j : Mem → Option (Unit × Mem)) => ∀  (s10 : Mem), P (j  s10) 92 [(0, .ref (Ga G 122)), (2, .int x2)] [] s10) (fun  s10 => ?_) (fun j92 hj92 => ?_)
    · refine jx_aload_n h dX5_divide_92 rfl 0 rfl ?_
      refine jx_iload_n h dX5_divide_93 rfl 1 rfl ?_
      refine jx_callVv [] h lc_122 (c_X5_giveAlike hG N x2 s10) ml_X5_37 (Nat.le_of_ble_eq_true rfl) (Nat.le_of_ble_eq_true rfl) dX5_divide_94 (Nat.le_of_ble_eq_true rfl) rfl (fun s11 => ?_)
      refine jx_goto (tgt := 128) h dX5_divide_97 rfl ?_
      exact jx_vret h dX5_divide_128
    · refine jx_if_eq (tgt := 92) h dX5_divide_70 rfl ?_ ?_
      · exact jx_subk [0, 2] h (hj92 s9) rfl
      · refine jx_iload h dX5_divide_73 4 rfl ?_
        refine jx_join (fun (j : Mem → Option (Unit × Mem)) => ∀  (s13 : Mem), P (j  s13) 100 [(0, .ref (Ga G 122)), (1, .int x1), (2, .int x2), (3, .int x3)] [] s13) (fun  s13 => ?_) (fun j100 hj100 => ?_)
        · refine jx_iload_n h dX5_divide_100 rfl 3 rfl ?_
          refine jx_iconst h dX5_divide_101 ki_1 ?_
          refine jx_icmp_ne (tgt := 113) h dX5_divide_102 rfl ?_ ?_
          · refine jx_aload_n h dX5_divide_113 rfl 0 rfl ?_
            refine jx_iload_n h dX5_divide_114 rfl 1 rfl ?_
            refine jx_iload_n h dX5_divide_115 rfl 2 rfl ?_
            refine jx_aload_n h dX5_divide_116 rfl 0 rfl ?_
            refine jx_get (v := .ref (Ga G 124)) h fa_X5_15 lc_122 dX5_divide_117 rfl ?_
            refine jx_iload_n h dX5_divide_120 rfl 1 rfl ?_
            refine jx_callSi [.int x2, .int x1, .ref (Ga G 122)] h (c_X5_allOf hG N 124 rfl x1 s13) ml_X5_33 (Nat.le_of_ble_eq_true rfl) (Nat.le_of_ble_eq_true rfl) dX5_divide_121 (Nat.le_of_ble_eq_true rfl) rfl (fun r15 s14 => ?_)
            refine jx_isub h dX5_divide_124 ?_
            refine jx_callVv [] h lc_122 (c_X5_divideRests hG N x1 (x2 - r15) s14) ml_X5_44 (Nat.le_of_ble_eq_true rfl) (Nat.le_of_ble_eq_true rfl) dX5_divide_125 (Nat.le_of_ble_eq_true rfl) rfl (fun s16 => ?_)
            exact jx_vret h dX5_divide_128
          · refine jx_aload_n h dX5_divide_105 rfl 0 rfl ?_
            refine jx_iload_n h dX5_divide_106 rfl 2 rfl ?_
            refine jx_callVv [] h lc_122 (c_X5_cutAlike hG N x2 s13) ml_X5_41 (Nat.le_of_ble_eq_true rfl) (Nat.le_of_ble_eq_true rfl) dX5_divide_107 (Nat.le_of_ble_eq_true rfl) rfl (fun s18 => ?_)
            refine jx_goto (tgt := 128) h dX5_divide_110 rfl ?_
            exact jx_vret h dX5_divide_128
        · refine jx_if_eq (tgt := 100) h dX5_divide_75 rfl ?_ ?_
          · exact jx_subk [0, 1, 2, 3] h (hj100 s9) rfl
          · refine jx_iconst h dX5_divide_78 ki_2 ?_
            refine jx_iload_n h dX5_divide_79 rfl 2 rfl ?_
            refine jx_imul h dX5_divide_80 ?_
            refine jx_aload_n h dX5_divide_81 rfl 0 rfl ?_
            refine jx_get (v := .ref (Ga G 123)) h fa_X5_11 lc_122 dX5_divide_82 rfl ?_
            refine jx_iload_n h dX5_divide_85 rfl 1 rfl ?_
            refine jx_callSi [.int ((2 : Int32) * x2)] h (c_X5_allOf hG N 123 rfl x1 s9) ml_X5_33 (Nat.le_of_ble_eq_true rfl) (Nat.le_of_ble_eq_true rfl) dX5_divide_86 (Nat.le_of_ble_eq_true rfl) rfl (fun r21 s20 => ?_)
            refine jx_icmp_gt (tgt := 100) h dX5_divide_89 rfl ?_ ?_
            · exact jx_subk [0, 1, 2, 3] h (hj100 s20) rfl
            · exact jx_subk [0, 2] h (hj92 s20) rfl
  · refine jx_icmp_ne (tgt := 9) h dX5_divide_2 rfl ?_ ?_
    · refine jx_iconst h dX5_divide_9 ki_0 ?_
      exact hj10 0 s
    · refine jx_iconst h dX5_divide_5 ki_1 ?_
      refine jx_goto (tgt := 10) h dX5_divide_6 rfl ?_
      exact hj10 1 s
noncomputable def st_X5_hasCoin_2 (N : Nat) (x1 : Int32)  (rec : Int32 → Mem → Option (Int32 × Mem)) (x2 : Int32) (s0 : Mem) : Option (Int32 × Mem) :=
  if (gi s0 122 4) ≤ x2 then (some (0, s0)) else if 6 ≤ x2 then (some (0, s0)) else chk x2 6 (if (gi s0 126 (ix x2)) = x1 then (some (1, s0)) else lt (x2 + 1) (fun x2_1 => rec x2_1 s0))
noncomputable def f_X5_hasCoin (N : Nat) (x1 : Int32) (s : Mem) : Option (Int32 × Mem) :=
  itr (fun _ _ => none) (st_X5_hasCoin_2 N x1) N 0 s
set_option maxRecDepth 20000 in
theorem w_X5_hasCoin_2 {G : Gx} (hG : Gok G ∧ IsG G layC fsoC) {P : Option (Int32 × Mem) → Nat → List (Nat × Value) → List Value → Mem → Prop} (h : Jk G layC fsoC RX5 cX5_hasCoin 3 (some .boolean) 0 tvI P) (N : Nat) (x1 : Int32) {rec : Int32 → Mem → Option (Int32 × Mem)} (ih : ∀ (x2 : Int32) (s : Mem), P (rec x2 s) 2 [(0, .ref (Ga G 122)), (1, .int x1), (2, .int x2)] [] s) : ∀ (x2 : Int32) (s : Mem), P (st_X5_hasCoin_2 N x1 rec x2 s) 2 [(0, .ref (Ga G 122)), (1, .int x1), (2, .int x2)] [] s := by
  intro x2 s0
  unfold st_X5_hasCoin_2
  refine jx_iload_n h dX5_hasCoin_2 rfl 2 rfl ?_
  refine jx_aload_n h dX5_hasCoin_3 rfl 0 rfl ?_
  refine jx_get (v := .int (gi s0 122 4)) h fa_X5_61 lc_122 dX5_hasCoin_4 rfl ?_
  refine jx_icmp_ge (tgt := 34) h dX5_hasCoin_7 rfl ?_ ?_
  · refine jx_iconst h dX5_hasCoin_34 ki_0 ?_
    exact jx_zret h rfl dX5_hasCoin_35
  · refine jx_iload_n h dX5_hasCoin_10 rfl 2 rfl ?_
    refine jx_bipush h dX5_hasCoin_11 kb_6 ?_
    refine jx_icmp_ge (tgt := 34) h dX5_hasCoin_13 rfl ?_ ?_
    · refine jx_iconst h dX5_hasCoin_34 ki_0 ?_
      exact jx_zret h rfl dX5_hasCoin_35
    · refine jx_aload_n h dX5_hasCoin_16 rfl 0 rfl ?_
      refine jx_get (v := .ref (Ga G 126)) h fa_X5_21 lc_122 dX5_hasCoin_17 rfl ?_
      refine jx_iload_n h dX5_hasCoin_20 rfl 2 rfl ?_
      refine jx_iaload h lc_126 dX5_hasCoin_21 ?_
      refine jx_iload_n h dX5_hasCoin_22 rfl 1 rfl ?_
      refine jx_icmp_ne (tgt := 28) h dX5_hasCoin_23 rfl ?_ ?_
      · refine jx_iincl (L := fun w => [(2, .int w), (0, .ref (Ga G 122)), (1, .int x1)]) h dX5_hasCoin_28 2 rfl (kn_1 _) (Nat.le_of_ble_eq_true rfl) (fun _ => rfl) (fun x2_1 => ?_)
        refine jx_goto (tgt := 2) h dX5_hasCoin_31 rfl ?_
        exact jx_subk [1, 2, 0] h (ih x2_1 s0) rfl
      · refine jx_iconst h dX5_hasCoin_26 ki_1 ?_
        exact jx_zret h rfl dX5_hasCoin_27
set_option maxRecDepth 20000 in
theorem c_X5_hasCoin {G : Gx} (hG : Gok G ∧ IsG G layC fsoC) (N : Nat) (x1 : Int32) (s : Mem) : Ct G yX5_hasCoin cX5_hasCoin 3 (some .boolean) 0 [.ref (Ga G 122), .int x1] tvI s (f_X5_hasCoin N x1 s) := by
  refine Ct.of hG (by decide) (Nat.le_of_ble_eq_true rfl) (fun P h => ?_)
  show P _ 0 [(0, .ref (Ga G 122)), (1, .int x1)] [] s
  unfold f_X5_hasCoin
  refine jx_iconst h dX5_hasCoin_0 ki_0 ?_
  refine jx_istore_n (lv' := [(2, .int 0), (0, .ref (Ga G 122)), (1, .int x1)]) h dX5_hasCoin_1 rfl (Nat.le_of_ble_eq_true rfl) rfl ?_
  refine jx_subk [1, 2, 0] h (itr_ind (Q := (fun (f : Int32 → Mem → Option (Int32 × Mem)) => ∀ (x2 : Int32) (s : Mem), P (f x2 s) 2 [(0, .ref (Ga G 122)), (1, .int x1), (2, .int x2)] [] s)) (fun _ _ => jx_none h) (fun r2 ih2 => ?_) N 0 s) rfl
  refine w_X5_hasCoin_2 hG h N x1  ih2
noncomputable def st_X5_takeCoins_7 (N : Nat) (x1 : Nat) (x2 : Int32)  (rec : Int32 → Mem → Option (Int32 × Mem)) (x3 : Int32) (s0 : Mem) : Option (Int32 × Mem) :=
  if x2 ≤ x3 then (some (1, s0)) else if 6 ≤ x3 then (some (1, s0)) else chk x3 (lenC x1) (if (gi s0 x1 (ix x3)) = 0 then (some (0, s0)) else chk x3 (lenC x1) (bd (f_X5_hasCoin N (gi s0 x1 (ix x3)) s0) (fun r3 s2 => if r3 = 0 then (chk x3 (lenC x1) (chk (gi s2 122 4) 6 (lt (si s2 126 (ix (gi s2 122 4)) (gi s2 x1 (ix x3))) (fun s5 => lt (si s5 122 4 ((gi s5 122 4) + 1)) (fun s6 => lt (x3 + 1) (fun x3_7 => rec x3_7 s6)))))) else lt (x3 + 1) (fun x3_4 => rec x3_4 s2))))
noncomputable def f_X5_takeCoins (N : Nat) (x1 : Nat) (x2 : Int32) (s : Mem) : Option (Int32 × Mem) :=
  lt (si s 122 4 0) (fun s1 => itr (fun _ _ => none) (st_X5_takeCoins_7 N x1 x2) N 0 s1)
set_option maxRecDepth 20000 in
theorem w_X5_takeCoins_7 {G : Gx} (hG : Gok G ∧ IsG G layC fsoC) {P : Option (Int32 × Mem) → Nat → List (Nat × Value) → List Value → Mem → Prop} (h : Jk G layC fsoC RX5 cX5_takeCoins 4 (some .boolean) 1 tvI P) (N : Nat) (x1 : Nat) (x2 : Int32) (hx1 : isAr x1 = true) {rec : Int32 → Mem → Option (Int32 × Mem)} (ih : ∀ (x3 : Int32) (s : Mem), P (rec x3 s) 7 [(0, .ref (Ga G 122)), (1, .ref (Ga G x1)), (2, .int x2), (3, .int x3)] [] s) : ∀ (x3 : Int32) (s : Mem), P (st_X5_takeCoins_7 N x1 x2 rec x3 s) 7 [(0, .ref (Ga G 122)), (1, .ref (Ga G x1)), (2, .int x2), (3, .int x3)] [] s := by
  intro x3 s0
  unfold st_X5_takeCoins_7
  refine jx_iload_n h dX5_takeCoins_7 rfl 3 rfl ?_
  refine jx_iload_n h dX5_takeCoins_8 rfl 2 rfl ?_
  refine jx_icmp_ge (tgt := 64) h dX5_takeCoins_9 rfl ?_ ?_
  · refine jx_iconst h dX5_takeCoins_64 ki_1 ?_
    exact jx_zret h rfl dX5_takeCoins_65
  · refine jx_iload_n h dX5_takeCoins_12 rfl 3 rfl ?_
    refine jx_bipush h dX5_takeCoins_13 kb_6 ?_
    refine jx_icmp_ge (tgt := 64) h dX5_takeCoins_15 rfl ?_ ?_
    · refine jx_iconst h dX5_takeCoins_64 ki_1 ?_
      exact jx_zret h rfl dX5_takeCoins_65
    · refine jx_aload_n h dX5_takeCoins_18 rfl 1 rfl ?_
      refine jx_iload_n h dX5_takeCoins_19 rfl 3 rfl ?_
      refine jx_iaload h (isAr_0 hx1) dX5_takeCoins_20 ?_
      refine jx_if_ne (tgt := 26) h dX5_takeCoins_21 rfl ?_ ?_
      · refine jx_aload_n h dX5_takeCoins_26 rfl 0 rfl ?_
        refine jx_aload_n h dX5_takeCoins_27 rfl 1 rfl ?_
        refine jx_iload_n h dX5_takeCoins_28 rfl 3 rfl ?_
        refine jx_iaload h (isAr_0 hx1) dX5_takeCoins_29 ?_
        refine jx_callVi [] h lc_122 (c_X5_hasCoin hG N (gi s0 x1 (ix x3)) s0) ml_X5_65 (Nat.le_of_ble_eq_true rfl) (Nat.le_of_ble_eq_true rfl) dX5_takeCoins_30 (Nat.le_of_ble_eq_true rfl) rfl (fun r3 s2 => ?_)
        refine jx_if_ne (tgt := 58) h dX5_takeCoins_33 rfl ?_ ?_
        · refine jx_iincl (L := fun w => [(3, .int w), (0, .ref (Ga G 122)), (1, .ref (Ga G x1)), (2, .int x2)]) h dX5_takeCoins_58 3 rfl (kn_1 _) (Nat.le_of_ble_eq_true rfl) (fun _ => rfl) (fun x3_4 => ?_)
          refine jx_goto (tgt := 7) h dX5_takeCoins_61 rfl ?_
          exact jx_subk [1, 2, 3, 0] h (ih x3_4 s2) rfl
        · refine jx_aload_n h dX5_takeCoins_36 rfl 0 rfl ?_
          refine jx_get (v := .ref (Ga G 126)) h fa_X5_21 lc_122 dX5_takeCoins_37 rfl ?_
          refine jx_aload_n h dX5_takeCoins_40 rfl 0 rfl ?_
          refine jx_get (v := .int (gi s2 122 4)) h fa_X5_61 lc_122 dX5_takeCoins_41 rfl ?_
          refine jx_aload_n h dX5_takeCoins_44 rfl 1 rfl ?_
          refine jx_iload_n h dX5_takeCoins_45 rfl 3 rfl ?_
          refine jx_iaload h (isAr_0 hx1) dX5_takeCoins_46 ?_
          refine jx_iastore h lc_126 dX5_takeCoins_47 (fun s5 => ?_)
          refine jx_aload_n h dX5_takeCoins_48 rfl 0 rfl ?_
          refine jx_dup h dX5_takeCoins_49 rfl ?_
          refine jx_get (v := .int (gi s5 122 4)) h fa_X5_61 lc_122 dX5_takeCoins_50 rfl ?_
          refine jx_iconst h dX5_takeCoins_53 ki_1 ?_
          refine jx_iadd h dX5_takeCoins_54 ?_
          refine jx_put h fa_X5_61 fp_X5_4 lc_122 rfl rfl dX5_takeCoins_55 (fu_X5_4 _ _ _ _) (fun s6 => ?_)
          refine jx_iincl (L := fun w => [(3, .int w), (0, .ref (Ga G 122)), (1, .ref (Ga G x1)), (2, .int x2)]) h dX5_takeCoins_58 3 rfl (kn_1 _) (Nat.le_of_ble_eq_true rfl) (fun _ => rfl) (fun x3_7 => ?_)
          refine jx_goto (tgt := 7) h dX5_takeCoins_61 rfl ?_
          exact jx_subk [1, 2, 3, 0] h (ih x3_7 s6) rfl
      · refine jx_iconst h dX5_takeCoins_24 ki_0 ?_
        exact jx_zret h rfl dX5_takeCoins_25
set_option maxRecDepth 20000 in
theorem c_X5_takeCoins {G : Gx} (hG : Gok G ∧ IsG G layC fsoC) (N : Nat) (x1 : Nat) (hx1 : isAr x1 = true) (x2 : Int32) (s : Mem) : Ct G yX5_takeCoins cX5_takeCoins 4 (some .boolean) 1 [.ref (Ga G 122), .ref (Ga G x1), .int x2] tvI s (f_X5_takeCoins N x1 x2 s) := by
  refine Ct.of hG (by decide) (Nat.le_of_ble_eq_true rfl) (fun P h => ?_)
  show P _ 0 [(0, .ref (Ga G 122)), (1, .ref (Ga G x1)), (2, .int x2)] [] s
  unfold f_X5_takeCoins
  refine jx_aload_n h dX5_takeCoins_0 rfl 0 rfl ?_
  refine jx_iconst h dX5_takeCoins_1 ki_0 ?_
  refine jx_put h fa_X5_61 fp_X5_4 lc_122 rfl rfl dX5_takeCoins_2 (fu_X5_4 _ _ _ _) (fun s1 => ?_)
  refine jx_iconst h dX5_takeCoins_5 ki_0 ?_
  refine jx_istore_n (lv' := [(3, .int 0), (0, .ref (Ga G 122)), (1, .ref (Ga G x1)), (2, .int x2)]) h dX5_takeCoins_6 rfl (Nat.le_of_ble_eq_true rfl) rfl ?_
  refine jx_subk [1, 2, 3, 0] h (itr_ind (Q := (fun (f : Int32 → Mem → Option (Int32 × Mem)) => ∀ (x3 : Int32) (s : Mem), P (f x3 s) 7 [(0, .ref (Ga G 122)), (1, .ref (Ga G x1)), (2, .int x2), (3, .int x3)] [] s)) (fun _ _ => jx_none h) (fun r7 ih7 => ?_) N 0 s1) rfl
  refine w_X5_takeCoins_7 hG h N x1 x2 hx1  ih7
noncomputable def st_X5_fewest_35 (N : Nat) (x1 : Int32) (x2 : Int32) (x3 : Int32) (k92 : Mem → Option (Int32 × Mem)) (rec : Int32 → Mem → Option (Int32 × Mem)) (x4 : Int32) (s0 : Mem) : Option (Int32 × Mem) :=
  if (gi s0 122 4) ≤ x4 then (k92 s0) else chk x4 6 (if x3 < (gi s0 126 (ix x4)) then (lt (x4 + 1) (fun x4_3 => rec x4_3 s0)) else chk x3 1000 (chk x4 6 (chk (x3 - (gi s0 126 (ix x4))) 1000 (chk x3 1000 (lt (si s0 110 (ix x3) (imin (gi s0 110 (ix x3)) ((gi s0 110 (ix (x3 - (gi s0 126 (ix x4))))) + 1))) (fun s4 => lt (x4 + 1) (fun x4_5 => rec x4_5 s4)))))))
noncomputable def st_X5_fewest_13 (N : Nat) (x1 : Int32) (x2 : Int32) (k98 : Mem → Option (Int32 × Mem)) (rec : Int32 → Mem → Option (Int32 × Mem)) (x3 : Int32) (s0 : Mem) : Option (Int32 × Mem) :=
  if x1 < x3 then (k98 s0) else if 999 < x3 then (k98 s0) else chk x3 1000 (lt (si s0 110 (ix x3) x2) (fun s2 => itr (fun _ _ => none) (st_X5_fewest_35 N x1 x2 x3 (fun  (s6 : Mem) => lt (x3 + 1) (fun x3_7 => rec x3_7 s6))) N 0 s2))
noncomputable def f_X5_fewest (N : Nat) (x1 : Int32) (s : Mem) : Option (Int32 × Mem) :=
  chk 0 1000 (lt (si s 110 (ix (0 : Int32)) 0) (fun s1 => itr (fun _ _ => none) (st_X5_fewest_13 N x1 1000 (fun  (s8 : Mem) => chk x1 1000 (if 1000 ≤ (gi s8 110 (ix x1)) then (some ((-2), s8)) else chk x1 1000 (some (gi s8 110 (ix x1), s8))))) N 1 s1))
set_option maxRecDepth 20000 in
theorem w_X5_fewest_35 {G : Gx} (hG : Gok G ∧ IsG G layC fsoC) {P : Option (Int32 × Mem) → Nat → List (Nat × Value) → List Value → Mem → Prop} (h : Jk G layC fsoC RX5 cX5_fewest 5 (some .int) 1 tvI P) (N : Nat) (x1 : Int32) (x2 : Int32) (x3 : Int32) {k92 : Mem → Option (Int32 × Mem)} (hk92 : ∀  (s : Mem), P (k92 s) 92 [(0, .ref (Ga G 122)), (1, .int x1), (2, .int x2), (3, .int x3)] [] s) {rec : Int32 → Mem → Option (Int32 × Mem)} (ih : ∀ (x4 : Int32) (s : Mem), P (rec x4 s) 35 [(0, .ref (Ga G 122)), (1, .int x1), (2, .int x2), (3, .int x3), (4, .int x4)] [] s) : ∀ (x4 : Int32) (s : Mem), P (st_X5_fewest_35 N x1 x2 x3 k92 rec x4 s) 35 [(0, .ref (Ga G 122)), (1, .int x1), (2, .int x2), (3, .int x3), (4, .int x4)] [] s := by
  intro x4 s0
  unfold st_X5_fewest_35
  refine jx_iload h dX5_fewest_35 4 rfl ?_
  refine jx_aload_n h dX5_fewest_37 rfl 0 rfl ?_
  refine jx_get (v := .int (gi s0 122 4)) h fa_X5_61 lc_122 dX5_fewest_38 rfl ?_
  refine jx_icmp_ge (tgt := 92) h dX5_fewest_41 rfl ?_ ?_
  · exact jx_subk [0, 1, 2, 3] h (hk92 s0) rfl
  · refine jx_aload_n h dX5_fewest_44 rfl 0 rfl ?_
    refine jx_get (v := .ref (Ga G 126)) h fa_X5_21 lc_122 dX5_fewest_45 rfl ?_
    refine jx_iload h dX5_fewest_48 4 rfl ?_
    refine jx_iaload h lc_126 dX5_fewest_50 ?_
    refine jx_iload_n h dX5_fewest_51 rfl 3 rfl ?_
    refine jx_icmp_gt (tgt := 86) h dX5_fewest_52 rfl ?_ ?_
    · refine jx_iincl (L := fun w => [(4, .int w), (0, .ref (Ga G 122)), (1, .int x1), (2, .int x2), (3, .int x3)]) h dX5_fewest_86 4 rfl (kn_1 _) (Nat.le_of_ble_eq_true rfl) (fun _ => rfl) (fun x4_3 => ?_)
      refine jx_goto (tgt := 35) h dX5_fewest_89 rfl ?_
      exact jx_subk [1, 2, 3, 4, 0] h (ih x4_3 s0) rfl
    · refine jx_aload_n h dX5_fewest_55 rfl 0 rfl ?_
      refine jx_get (v := .ref (Ga G 110)) h fa_X5_24 lc_122 dX5_fewest_56 rfl ?_
      refine jx_iload_n h dX5_fewest_59 rfl 3 rfl ?_
      refine jx_aload_n h dX5_fewest_60 rfl 0 rfl ?_
      refine jx_get (v := .ref (Ga G 110)) h fa_X5_24 lc_122 dX5_fewest_61 rfl ?_
      refine jx_iload_n h dX5_fewest_64 rfl 3 rfl ?_
      refine jx_iaload h lc_110 dX5_fewest_65 ?_
      refine jx_aload_n h dX5_fewest_66 rfl 0 rfl ?_
      refine jx_get (v := .ref (Ga G 110)) h fa_X5_24 lc_122 dX5_fewest_67 rfl ?_
      refine jx_iload_n h dX5_fewest_70 rfl 3 rfl ?_
      refine jx_aload_n h dX5_fewest_71 rfl 0 rfl ?_
      refine jx_get (v := .ref (Ga G 126)) h fa_X5_21 lc_122 dX5_fewest_72 rfl ?_
      refine jx_iload h dX5_fewest_75 4 rfl ?_
      refine jx_iaload h lc_126 dX5_fewest_77 ?_
      refine jx_isub h dX5_fewest_78 ?_
      refine jx_iaload h lc_110 dX5_fewest_79 ?_
      refine jx_iconst h dX5_fewest_80 ki_1 ?_
      refine jx_iadd h dX5_fewest_81 ?_
      refine jx_mmin h mm_X5_58 (Nat.le_of_ble_eq_true rfl) (Nat.le_of_ble_eq_true rfl) dX5_fewest_82 ?_
      refine jx_iastore h lc_110 dX5_fewest_85 (fun s4 => ?_)
      refine jx_iincl (L := fun w => [(4, .int w), (0, .ref (Ga G 122)), (1, .int x1), (2, .int x2), (3, .int x3)]) h dX5_fewest_86 4 rfl (kn_1 _) (Nat.le_of_ble_eq_true rfl) (fun _ => rfl) (fun x4_5 => ?_)
      refine jx_goto (tgt := 35) h dX5_fewest_89 rfl ?_
      exact jx_subk [1, 2, 3, 4, 0] h (ih x4_5 s4) rfl
set_option maxRecDepth 20000 in
theorem w_X5_fewest_13 {G : Gx} (hG : Gok G ∧ IsG G layC fsoC) {P : Option (Int32 × Mem) → Nat → List (Nat × Value) → List Value → Mem → Prop} (h : Jk G layC fsoC RX5 cX5_fewest 5 (some .int) 1 tvI P) (N : Nat) (x1 : Int32) (x2 : Int32) {k98 : Mem → Option (Int32 × Mem)} (hk98 : ∀  (s : Mem), P (k98 s) 98 [(0, .ref (Ga G 122)), (1, .int x1), (2, .int x2)] [] s) {rec : Int32 → Mem → Option (Int32 × Mem)} (ih : ∀ (x3 : Int32) (s : Mem), P (rec x3 s) 13 [(0, .ref (Ga G 122)), (1, .int x1), (2, .int x2), (3, .int x3)] [] s) : ∀ (x3 : Int32) (s : Mem), P (st_X5_fewest_13 N x1 x2 k98 rec x3 s) 13 [(0, .ref (Ga G 122)), (1, .int x1), (2, .int x2), (3, .int x3)] [] s := by
  intro x3 s0
  unfold st_X5_fewest_13
  refine jx_iload_n h dX5_fewest_13 rfl 3 rfl ?_
  refine jx_iload_n h dX5_fewest_14 rfl 1 rfl ?_
  refine jx_icmp_gt (tgt := 98) h dX5_fewest_15 rfl ?_ ?_
  · exact jx_subk [0, 1, 2] h (hk98 s0) rfl
  · refine jx_iload_n h dX5_fewest_18 rfl 3 rfl ?_
    refine jx_sipush h dX5_fewest_19 ks_999 ?_
    refine jx_icmp_gt (tgt := 98) h dX5_fewest_22 rfl ?_ ?_
    · exact jx_subk [0, 1, 2] h (hk98 s0) rfl
    · refine jx_aload_n h dX5_fewest_25 rfl 0 rfl ?_
      refine jx_get (v := .ref (Ga G 110)) h fa_X5_24 lc_122 dX5_fewest_26 rfl ?_
      refine jx_iload_n h dX5_fewest_29 rfl 3 rfl ?_
      refine jx_iload_n h dX5_fewest_30 rfl 2 rfl ?_
      refine jx_iastore h lc_110 dX5_fewest_31 (fun s2 => ?_)
      refine jx_iconst h dX5_fewest_32 ki_0 ?_
      refine jx_istore (lv' := [(4, .int 0), (0, .ref (Ga G 122)), (1, .int x1), (2, .int x2), (3, .int x3)]) h dX5_fewest_33 (Nat.le_of_ble_eq_true rfl) rfl ?_
      refine jx_subk [1, 2, 3, 4, 0] h (itr_ind (Q := (fun (f : Int32 → Mem → Option (Int32 × Mem)) => ∀ (x4 : Int32) (s : Mem), P (f x4 s) 35 [(0, .ref (Ga G 122)), (1, .int x1), (2, .int x2), (3, .int x3), (4, .int x4)] [] s)) (fun _ _ => jx_none h) (fun r35 ih35 => ?_) N 0 s2) rfl
      refine w_X5_fewest_35 hG h N x1 x2 x3 ?_ ih35
      intro s6
      refine jx_iincl (L := fun w => [(3, .int w), (0, .ref (Ga G 122)), (1, .int x1), (2, .int x2)]) h dX5_fewest_92 3 rfl (kn_1 _) (Nat.le_of_ble_eq_true rfl) (fun _ => rfl) (fun x3_7 => ?_)
      refine jx_goto (tgt := 13) h dX5_fewest_95 rfl ?_
      exact jx_subk [1, 2, 3, 0] h (ih x3_7 s6) rfl
set_option maxRecDepth 20000 in
theorem c_X5_fewest {G : Gx} (hG : Gok G ∧ IsG G layC fsoC) (N : Nat) (x1 : Int32) (s : Mem) : Ct G yX5_fewest cX5_fewest 5 (some .int) 1 [.ref (Ga G 122), .int x1] tvI s (f_X5_fewest N x1 s) := by
  refine Ct.of hG (by decide) (Nat.le_of_ble_eq_true rfl) (fun P h => ?_)
  show P _ 0 [(0, .ref (Ga G 122)), (1, .int x1)] [] s
  unfold f_X5_fewest
  refine jx_sipush h dX5_fewest_0 ks_1000 ?_
  refine jx_istore_n (lv' := [(2, .int 1000), (0, .ref (Ga G 122)), (1, .int x1)]) h dX5_fewest_3 rfl (Nat.le_of_ble_eq_true rfl) rfl ?_
  refine jx_aload_n h dX5_fewest_4 rfl 1 rfl ?_
  refine jx_get (v := .ref (Ga G 110)) h fa_X5_24 lc_122 dX5_fewest_5 rfl ?_
  refine jx_iconst h dX5_fewest_8 ki_0 ?_
  refine jx_iconst h dX5_fewest_9 ki_0 ?_
  refine jx_iastore h lc_110 dX5_fewest_10 (fun s1 => ?_)
  refine jx_iconst h dX5_fewest_11 ki_1 ?_
  refine jx_istore_n (lv' := [(3, .int 1), (2, .int 1000), (0, .ref (Ga G 122)), (1, .int x1)]) h dX5_fewest_12 rfl (Nat.le_of_ble_eq_true rfl) rfl ?_
  refine jx_subk [2, 3, 1, 0] h (itr_ind (Q := (fun (f : Int32 → Mem → Option (Int32 × Mem)) => ∀ (x3 : Int32) (s : Mem), P (f x3 s) 13 [(0, .ref (Ga G 122)), (1, .int x1), (2, .int 1000), (3, .int x3)] [] s)) (fun _ _ => jx_none h) (fun r13 ih13 => ?_) N 1 s1) rfl
  refine w_X5_fewest_13 hG h N x1 1000 ?_ ih13
  intro s8
  refine jx_aload_n h dX5_fewest_98 rfl 0 rfl ?_
  refine jx_get (v := .ref (Ga G 110)) h fa_X5_24 lc_122 dX5_fewest_99 rfl ?_
  refine jx_iload_n h dX5_fewest_102 rfl 1 rfl ?_
  refine jx_iaload h lc_110 dX5_fewest_103 ?_
  refine jx_iload_n h dX5_fewest_104 rfl 2 rfl ?_
  refine jx_icmp_ge (tgt := 117) h dX5_fewest_105 rfl ?_ ?_
  · refine jx_bipush h dX5_fewest_117 kb_m2 ?_
    exact jx_iret h dX5_fewest_119
  · refine jx_aload_n h dX5_fewest_108 rfl 0 rfl ?_
    refine jx_get (v := .ref (Ga G 110)) h fa_X5_24 lc_122 dX5_fewest_109 rfl ?_
    refine jx_iload_n h dX5_fewest_112 rfl 1 rfl ?_
    refine jx_iaload h lc_110 dX5_fewest_113 ?_
    refine jx_goto (tgt := 119) h dX5_fewest_114 rfl ?_
    exact jx_iret h dX5_fewest_119
noncomputable def st_X5_ways_2 (N : Nat) (x1 : Int32) (k35 : Mem → Option (Int32 × Mem)) (rec : Int32 → Mem → Option (Int32 × Mem)) (x2 : Int32) (s0 : Mem) : Option (Int32 × Mem) :=
  if x1 < x2 then (k35 s0) else if 999 < x2 then (k35 s0) else if x2 = 0 then (chk x2 1000 (lt (si s0 110 (ix x2) 1) (fun s3 => lt (x2 + 1) (fun x2_4 => rec x2_4 s3)))) else chk x2 1000 (lt (si s0 110 (ix x2) 0) (fun s1 => lt (x2 + 1) (fun x2_2 => rec x2_2 s1)))
noncomputable def st_X5_ways_52 (N : Nat) (x1 : Int32) (x2 : Int32) (k101 : Mem → Option (Int32 × Mem)) (rec : Int32 → Mem → Option (Int32 × Mem)) (x3 : Int32) (s0 : Mem) : Option (Int32 × Mem) :=
  if x1 < x3 then (k101 s0) else if 999 < x3 then (k101 s0) else chk x3 1000 (chk x2 6 (chk (x3 - (gi s0 126 (ix x2))) 1000 (chk x3 1000 (lt (si s0 110 (ix x3) (imin 1000000000 ((gi s0 110 (ix x3)) + (gi s0 110 (ix (x3 - (gi s0 126 (ix x2)))))))) (fun s7 => lt (x3 + 1) (fun x3_8 => rec x3_8 s7))))))
noncomputable def st_X5_ways_37 (N : Nat) (x1 : Int32)  (rec : Int32 → Mem → Option (Int32 × Mem)) (x2 : Int32) (s0 : Mem) : Option (Int32 × Mem) :=
  if (gi s0 122 4) ≤ x2 then (chk x1 1000 (some (gi s0 110 (ix x1), s0))) else chk x2 6 (lt (gi s0 126 (ix x2)) (fun v6 => itr (fun _ _ => none) (st_X5_ways_52 N x1 x2 (fun  (s9 : Mem) => lt (x2 + 1) (fun x2_10 => rec x2_10 s9))) N v6 s0))
noncomputable def f_X5_ways (N : Nat) (x1 : Int32) (s : Mem) : Option (Int32 × Mem) :=
  itr (fun _ _ => none) (st_X5_ways_2 N x1 (fun  (s5 : Mem) => itr (fun _ _ => none) (st_X5_ways_37 N x1) N 0 s5)) N 0 s
set_option maxRecDepth 20000 in
theorem w_X5_ways_2 {G : Gx} (hG : Gok G ∧ IsG G layC fsoC) {P : Option (Int32 × Mem) → Nat → List (Nat × Value) → List Value → Mem → Prop} (h : Jk G layC fsoC RX5 cX5_ways 4 (some .int) 1 tvI P) (N : Nat) (x1 : Int32) {k35 : Mem → Option (Int32 × Mem)} (hk35 : ∀  (s : Mem), P (k35 s) 35 [(0, .ref (Ga G 122)), (1, .int x1)] [] s) {rec : Int32 → Mem → Option (Int32 × Mem)} (ih : ∀ (x2 : Int32) (s : Mem), P (rec x2 s) 2 [(0, .ref (Ga G 122)), (1, .int x1), (2, .int x2)] [] s) : ∀ (x2 : Int32) (s : Mem), P (st_X5_ways_2 N x1 k35 rec x2 s) 2 [(0, .ref (Ga G 122)), (1, .int x1), (2, .int x2)] [] s := by
  intro x2 s0
  unfold st_X5_ways_2
  refine jx_iload_n h dX5_ways_2 rfl 2 rfl ?_
  refine jx_iload_n h dX5_ways_3 rfl 1 rfl ?_
  refine jx_icmp_gt (tgt := 35) h dX5_ways_4 rfl ?_ ?_
  · exact jx_subk [0, 1] h (hk35 s0) rfl
  · refine jx_iload_n h dX5_ways_7 rfl 2 rfl ?_
    refine jx_sipush h dX5_ways_8 ks_999 ?_
    refine jx_icmp_gt (tgt := 35) h dX5_ways_11 rfl ?_ ?_
    · exact jx_subk [0, 1] h (hk35 s0) rfl
    · refine jx_aload_n h dX5_ways_14 rfl 0 rfl ?_
      refine jx_get (v := .ref (Ga G 110)) h fa_X5_24 lc_122 dX5_ways_15 rfl ?_
      refine jx_iload_n h dX5_ways_18 rfl 2 rfl ?_
      refine jx_iload_n h dX5_ways_19 rfl 2 rfl ?_
      refine jx_if_ne (tgt := 27) h dX5_ways_20 rfl ?_ ?_
      · refine jx_iconst h dX5_ways_27 ki_0 ?_
        refine jx_iastore h lc_110 dX5_ways_28 (fun s1 => ?_)
        refine jx_iincl (L := fun w => [(2, .int w), (0, .ref (Ga G 122)), (1, .int x1)]) h dX5_ways_29 2 rfl (kn_1 _) (Nat.le_of_ble_eq_true rfl) (fun _ => rfl) (fun x2_2 => ?_)
        refine jx_goto (tgt := 2) h dX5_ways_32 rfl ?_
        exact jx_subk [1, 2, 0] h (ih x2_2 s1) rfl
      · refine jx_iconst h dX5_ways_23 ki_1 ?_
        refine jx_goto (tgt := 28) h dX5_ways_24 rfl ?_
        refine jx_iastore h lc_110 dX5_ways_28 (fun s3 => ?_)
        refine jx_iincl (L := fun w => [(2, .int w), (0, .ref (Ga G 122)), (1, .int x1)]) h dX5_ways_29 2 rfl (kn_1 _) (Nat.le_of_ble_eq_true rfl) (fun _ => rfl) (fun x2_4 => ?_)
        refine jx_goto (tgt := 2) h dX5_ways_32 rfl ?_
        exact jx_subk [1, 2, 0] h (ih x2_4 s3) rfl
set_option maxRecDepth 20000 in
theorem w_X5_ways_52 {G : Gx} (hG : Gok G ∧ IsG G layC fsoC) {P : Option (Int32 × Mem) → Nat → List (Nat × Value) → List Value → Mem → Prop} (h : Jk G layC fsoC RX5 cX5_ways 4 (some .int) 1 tvI P) (N : Nat) (x1 : Int32) (x2 : Int32) {k101 : Mem → Option (Int32 × Mem)} (hk101 : ∀  (s : Mem), P (k101 s) 101 [(0, .ref (Ga G 122)), (1, .int x1), (2, .int x2)] [] s) {rec : Int32 → Mem → Option (Int32 × Mem)} (ih : ∀ (x3 : Int32) (s : Mem), P (rec x3 s) 52 [(0, .ref (Ga G 122)), (1, .int x1), (2, .int x2), (3, .int x3)] [] s) : ∀ (x3 : Int32) (s : Mem), P (st_X5_ways_52 N x1 x2 k101 rec x3 s) 52 [(0, .ref (Ga G 122)), (1, .int x1), (2, .int x2), (3, .int x3)] [] s := by
  intro x3 s0
  unfold st_X5_ways_52
  refine jx_iload_n h dX5_ways_52 rfl 3 rfl ?_
  refine jx_iload_n h dX5_ways_53 rfl 1 rfl ?_
  refine jx_icmp_gt (tgt := 101) h dX5_ways_54 rfl ?_ ?_
  · exact jx_subk [0, 1, 2] h (hk101 s0) rfl
  · refine jx_iload_n h dX5_ways_57 rfl 3 rfl ?_
    refine jx_sipush h dX5_ways_58 ks_999 ?_
    refine jx_icmp_gt (tgt := 101) h dX5_ways_61 rfl ?_ ?_
    · exact jx_subk [0, 1, 2] h (hk101 s0) rfl
    · refine jx_aload_n h dX5_ways_64 rfl 0 rfl ?_
      refine jx_get (v := .ref (Ga G 110)) h fa_X5_24 lc_122 dX5_ways_65 rfl ?_
      refine jx_iload_n h dX5_ways_68 rfl 3 rfl ?_
      refine jx_ldc h dX5_ways_69 kw_X5_69 ?_
      refine jx_aload_n h dX5_ways_71 rfl 0 rfl ?_
      refine jx_get (v := .ref (Ga G 110)) h fa_X5_24 lc_122 dX5_ways_72 rfl ?_
      refine jx_iload_n h dX5_ways_75 rfl 3 rfl ?_
      refine jx_iaload h lc_110 dX5_ways_76 ?_
      refine jx_aload_n h dX5_ways_77 rfl 0 rfl ?_
      refine jx_get (v := .ref (Ga G 110)) h fa_X5_24 lc_122 dX5_ways_78 rfl ?_
      refine jx_iload_n h dX5_ways_81 rfl 3 rfl ?_
      refine jx_aload_n h dX5_ways_82 rfl 0 rfl ?_
      refine jx_get (v := .ref (Ga G 126)) h fa_X5_21 lc_122 dX5_ways_83 rfl ?_
      refine jx_iload_n h dX5_ways_86 rfl 2 rfl ?_
      refine jx_iaload h lc_126 dX5_ways_87 ?_
      refine jx_isub h dX5_ways_88 ?_
      refine jx_iaload h lc_110 dX5_ways_89 ?_
      refine jx_iadd h dX5_ways_90 ?_
      refine jx_mmin h mm_X5_58 (Nat.le_of_ble_eq_true rfl) (Nat.le_of_ble_eq_true rfl) dX5_ways_91 ?_
      refine jx_iastore h lc_110 dX5_ways_94 (fun s7 => ?_)
      refine jx_iincl (L := fun w => [(3, .int w), (0, .ref (Ga G 122)), (1, .int x1), (2, .int x2)]) h dX5_ways_95 3 rfl (kn_1 _) (Nat.le_of_ble_eq_true rfl) (fun _ => rfl) (fun x3_8 => ?_)
      refine jx_goto (tgt := 52) h dX5_ways_98 rfl ?_
      exact jx_subk [1, 2, 3, 0] h (ih x3_8 s7) rfl
set_option maxRecDepth 20000 in
theorem w_X5_ways_37 {G : Gx} (hG : Gok G ∧ IsG G layC fsoC) {P : Option (Int32 × Mem) → Nat → List (Nat × Value) → List Value → Mem → Prop} (h : Jk G layC fsoC RX5 cX5_ways 4 (some .int) 1 tvI P) (N : Nat) (x1 : Int32) {rec : Int32 → Mem → Option (Int32 × Mem)} (ih : ∀ (x2 : Int32) (s : Mem), P (rec x2 s) 37 [(0, .ref (Ga G 122)), (1, .int x1), (2, .int x2)] [] s) : ∀ (x2 : Int32) (s : Mem), P (st_X5_ways_37 N x1 rec x2 s) 37 [(0, .ref (Ga G 122)), (1, .int x1), (2, .int x2)] [] s := by
  intro x2 s0
  unfold st_X5_ways_37
  refine jx_iload_n h dX5_ways_37 rfl 2 rfl ?_
  refine jx_aload_n h dX5_ways_38 rfl 0 rfl ?_
  refine jx_get (v := .int (gi s0 122 4)) h fa_X5_61 lc_122 dX5_ways_39 rfl ?_
  refine jx_icmp_ge (tgt := 107) h dX5_ways_42 rfl ?_ ?_
  · refine jx_aload_n h dX5_ways_107 rfl 0 rfl ?_
    refine jx_get (v := .ref (Ga G 110)) h fa_X5_24 lc_122 dX5_ways_108 rfl ?_
    refine jx_iload_n h dX5_ways_111 rfl 1 rfl ?_
    refine jx_iaload h lc_110 dX5_ways_112 ?_
    exact jx_iret h dX5_ways_113
  · refine jx_aload_n h dX5_ways_45 rfl 0 rfl ?_
    refine jx_get (v := .ref (Ga G 126)) h fa_X5_21 lc_122 dX5_ways_46 rfl ?_
    refine jx_iload_n h dX5_ways_49 rfl 2 rfl ?_
    refine jx_iaload h lc_126 dX5_ways_50 ?_
    refine jx_lti (fun v6 => ?_)
    refine jx_istore_n (lv' := [(3, .int v6), (0, .ref (Ga G 122)), (1, .int x1), (2, .int x2)]) h dX5_ways_51 rfl (Nat.le_of_ble_eq_true rfl) rfl ?_
    refine jx_subk [1, 2, 3, 0] h (itr_ind (Q := (fun (f : Int32 → Mem → Option (Int32 × Mem)) => ∀ (x3 : Int32) (s : Mem), P (f x3 s) 52 [(0, .ref (Ga G 122)), (1, .int x1), (2, .int x2), (3, .int x3)] [] s)) (fun _ _ => jx_none h) (fun r52 ih52 => ?_) N v6 s0) rfl
    refine w_X5_ways_52 hG h N x1 x2 ?_ ih52
    intro s9
    refine jx_iincl (L := fun w => [(2, .int w), (0, .ref (Ga G 122)), (1, .int x1)]) h dX5_ways_101 2 rfl (kn_1 _) (Nat.le_of_ble_eq_true rfl) (fun _ => rfl) (fun x2_10 => ?_)
    refine jx_goto (tgt := 37) h dX5_ways_104 rfl ?_
    exact jx_subk [1, 2, 0] h (ih x2_10 s9) rfl
set_option maxRecDepth 20000 in
theorem c_X5_ways {G : Gx} (hG : Gok G ∧ IsG G layC fsoC) (N : Nat) (x1 : Int32) (s : Mem) : Ct G yX5_ways cX5_ways 4 (some .int) 1 [.ref (Ga G 122), .int x1] tvI s (f_X5_ways N x1 s) := by
  refine Ct.of hG (by decide) (Nat.le_of_ble_eq_true rfl) (fun P h => ?_)
  show P _ 0 [(0, .ref (Ga G 122)), (1, .int x1)] [] s
  unfold f_X5_ways
  refine jx_iconst h dX5_ways_0 ki_0 ?_
  refine jx_istore_n (lv' := [(2, .int 0), (0, .ref (Ga G 122)), (1, .int x1)]) h dX5_ways_1 rfl (Nat.le_of_ble_eq_true rfl) rfl ?_
  refine jx_subk [1, 2, 0] h (itr_ind (Q := (fun (f : Int32 → Mem → Option (Int32 × Mem)) => ∀ (x2 : Int32) (s : Mem), P (f x2 s) 2 [(0, .ref (Ga G 122)), (1, .int x1), (2, .int x2)] [] s)) (fun _ _ => jx_none h) (fun r2 ih2 => ?_) N 0 s) rfl
  refine w_X5_ways_2 hG h N x1 ?_ ih2
  intro s5
  refine jx_iconst h dX5_ways_35 ki_0 ?_
  refine jx_istore_n (lv' := [(2, .int 0), (0, .ref (Ga G 122)), (1, .int x1)]) h dX5_ways_36 rfl (Nat.le_of_ble_eq_true rfl) rfl ?_
  refine jx_subk [1, 2, 0] h (itr_ind (Q := (fun (f : Int32 → Mem → Option (Int32 × Mem)) => ∀ (x2 : Int32) (s : Mem), P (f x2 s) 37 [(0, .ref (Ga G 122)), (1, .int x1), (2, .int x2)] [] s)) (fun _ _ => jx_none h) (fun r37 ih37 => ?_) N 0 s5) rfl
  refine w_X5_ways_37 hG h N x1  ih37
noncomputable def st_X5_greatestWithin_4 (N : Nat) (x1 : Int32)  (rec : Int32 → Int32 → Mem → Option (Int32 × Mem)) (x2 : Int32) (x3 : Int32) (s0 : Mem) : Option (Int32 × Mem) :=
  if (gi s0 122 4) ≤ x3 then (some (x2, s0)) else chk x3 6 (if x1 < (gi s0 126 (ix x3)) then (lt (x3 + 1) (fun x3_1 => rec x2 x3_1 s0)) else chk x3 6 (lt (imax x2 (gi s0 126 (ix x3))) (fun v2 => lt (x3 + 1) (fun x3_3 => rec v2 x3_3 s0))))
noncomputable def f_X5_greatestWithin (N : Nat) (x1 : Int32) (s : Mem) : Option (Int32 × Mem) :=
  itr (fun _ _ _ => none) (st_X5_greatestWithin_4 N x1) N 0 0 s
set_option maxRecDepth 20000 in
theorem w_X5_greatestWithin_4 {G : Gx} (hG : Gok G ∧ IsG G layC fsoC) {P : Option (Int32 × Mem) → Nat → List (Nat × Value) → List Value → Mem → Prop} (h : Jk G layC fsoC RX5 cX5_greatestWithin 4 (some .int) 1 tvI P) (N : Nat) (x1 : Int32) {rec : Int32 → Int32 → Mem → Option (Int32 × Mem)} (ih : ∀ (x2 : Int32) (x3 : Int32) (s : Mem), P (rec x2 x3 s) 4 [(0, .ref (Ga G 122)), (1, .int x1), (2, .int x2), (3, .int x3)] [] s) : ∀ (x2 : Int32) (x3 : Int32) (s : Mem), P (st_X5_greatestWithin_4 N x1 rec x2 x3 s) 4 [(0, .ref (Ga G 122)), (1, .int x1), (2, .int x2), (3, .int x3)] [] s := by
  intro x2 x3 s0
  unfold st_X5_greatestWithin_4
  refine jx_iload_n h dX5_greatestWithin_4 rfl 3 rfl ?_
  refine jx_aload_n h dX5_greatestWithin_5 rfl 0 rfl ?_
  refine jx_get (v := .int (gi s0 122 4)) h fa_X5_61 lc_122 dX5_greatestWithin_6 rfl ?_
  refine jx_icmp_ge (tgt := 39) h dX5_greatestWithin_9 rfl ?_ ?_
  · refine jx_iload_n h dX5_greatestWithin_39 rfl 2 rfl ?_
    exact jx_iret h dX5_greatestWithin_40
  · refine jx_aload_n h dX5_greatestWithin_12 rfl 0 rfl ?_
    refine jx_get (v := .ref (Ga G 126)) h fa_X5_21 lc_122 dX5_greatestWithin_13 rfl ?_
    refine jx_iload_n h dX5_greatestWithin_16 rfl 3 rfl ?_
    refine jx_iaload h lc_126 dX5_greatestWithin_17 ?_
    refine jx_iload_n h dX5_greatestWithin_18 rfl 1 rfl ?_
    refine jx_icmp_gt (tgt := 33) h dX5_greatestWithin_19 rfl ?_ ?_
    · refine jx_iincl (L := fun w => [(3, .int w), (0, .ref (Ga G 122)), (1, .int x1), (2, .int x2)]) h dX5_greatestWithin_33 3 rfl (kn_1 _) (Nat.le_of_ble_eq_true rfl) (fun _ => rfl) (fun x3_1 => ?_)
      refine jx_goto (tgt := 4) h dX5_greatestWithin_36 rfl ?_
      exact jx_subk [1, 2, 3, 0] h (ih x2 x3_1 s0) rfl
    · refine jx_iload_n h dX5_greatestWithin_22 rfl 2 rfl ?_
      refine jx_aload_n h dX5_greatestWithin_23 rfl 0 rfl ?_
      refine jx_get (v := .ref (Ga G 126)) h fa_X5_21 lc_122 dX5_greatestWithin_24 rfl ?_
      refine jx_iload_n h dX5_greatestWithin_27 rfl 3 rfl ?_
      refine jx_iaload h lc_126 dX5_greatestWithin_28 ?_
      refine jx_mmax h mm_X5_27 (Nat.le_of_ble_eq_true rfl) (Nat.le_of_ble_eq_true rfl) dX5_greatestWithin_29 ?_
      refine jx_lti (fun v2 => ?_)
      refine jx_istore_n (lv' := [(2, .int v2), (0, .ref (Ga G 122)), (1, .int x1), (3, .int x3)]) h dX5_greatestWithin_32 rfl (Nat.le_of_ble_eq_true rfl) rfl ?_
      refine jx_iincl (L := fun w => [(3, .int w), (2, .int v2), (0, .ref (Ga G 122)), (1, .int x1)]) h dX5_greatestWithin_33 3 rfl (kn_1 _) (Nat.le_of_ble_eq_true rfl) (fun _ => rfl) (fun x3_3 => ?_)
      refine jx_goto (tgt := 4) h dX5_greatestWithin_36 rfl ?_
      exact jx_subk [2, 3, 1, 0] h (ih v2 x3_3 s0) rfl
set_option maxRecDepth 20000 in
theorem c_X5_greatestWithin {G : Gx} (hG : Gok G ∧ IsG G layC fsoC) (N : Nat) (x1 : Int32) (s : Mem) : Ct G yX5_greatestWithin cX5_greatestWithin 4 (some .int) 1 [.ref (Ga G 122), .int x1] tvI s (f_X5_greatestWithin N x1 s) := by
  refine Ct.of hG (by decide) (Nat.le_of_ble_eq_true rfl) (fun P h => ?_)
  show P _ 0 [(0, .ref (Ga G 122)), (1, .int x1)] [] s
  unfold f_X5_greatestWithin
  refine jx_iconst h dX5_greatestWithin_0 ki_0 ?_
  refine jx_istore_n (lv' := [(2, .int 0), (0, .ref (Ga G 122)), (1, .int x1)]) h dX5_greatestWithin_1 rfl (Nat.le_of_ble_eq_true rfl) rfl ?_
  refine jx_iconst h dX5_greatestWithin_2 ki_0 ?_
  refine jx_istore_n (lv' := [(3, .int 0), (2, .int 0), (0, .ref (Ga G 122)), (1, .int x1)]) h dX5_greatestWithin_3 rfl (Nat.le_of_ble_eq_true rfl) rfl ?_
  refine jx_subk [2, 3, 1, 0] h (itr_ind (Q := (fun (f : Int32 → Int32 → Mem → Option (Int32 × Mem)) => ∀ (x2 : Int32) (x3 : Int32) (s : Mem), P (f x2 x3 s) 4 [(0, .ref (Ga G 122)), (1, .int x1), (2, .int x2), (3, .int x3)] [] s)) (fun _ _ _ => jx_none h) (fun r4 ih4 => ?_) N 0 0 s) rfl
  refine w_X5_greatestWithin_4 hG h N x1  ih4
noncomputable def st_X5_greatestFirst_7 (N : Nat) (k51 : Int32 → Int32 → Mem → Option (Int32 × Mem)) (rec : Int32 → Int32 → Int32 → Mem → Option (Int32 × Mem)) (x2 : Int32) (x3 : Int32) (x4 : Int32) (s0 : Mem) : Option (Int32 × Mem) :=
  if 6 ≤ x4 then (k51 x2 x3 s0) else if x2 ≤ 0 then (k51 x2 x3 s0) else bd (f_X5_greatestWithin N x2 s0) (fun r2 s1 => if r2 = 0 then (some ((-2), s1)) else ckd r2 (lt (x3 + (x2 / r2)) (fun v3 => ckd r2 (lt (x2 - x2 / r2 * r2) (fun v4 => lt (x4 + 1) (fun x4_5 => rec v4 v3 x4_5 s1))))))
noncomputable def f_X5_greatestFirst (N : Nat) (x1 : Int32) (s : Mem) : Option (Int32 × Mem) :=
  itr (fun _ _ _ _ => none) (st_X5_greatestFirst_7 N (fun (x2_7 : Int32) (x3_8 : Int32) (s6 : Mem) => if x2_7 = 0 then (some (x3_8, s6)) else some ((-2), s6))) N x1 0 0 s
set_option maxRecDepth 20000 in
theorem w_X5_greatestFirst_7 {G : Gx} (hG : Gok G ∧ IsG G layC fsoC) {P : Option (Int32 × Mem) → Nat → List (Nat × Value) → List Value → Mem → Prop} (h : Jk G layC fsoC RX5 cX5_greatestFirst 6 (some .int) 2 tvI P) (N : Nat) {k51 : Int32 → Int32 → Mem → Option (Int32 × Mem)} (hk51 : ∀ (x2 : Int32) (x3 : Int32) (s : Mem), P (k51 x2 x3 s) 51 [(2, .int x2), (3, .int x3)] [] s) {rec : Int32 → Int32 → Int32 → Mem → Option (Int32 × Mem)} (ih : ∀ (x2 : Int32) (x3 : Int32) (x4 : Int32) (s : Mem), P (rec x2 x3 x4 s) 7 [(0, .ref (Ga G 122)), (2, .int x2), (3, .int x3), (4, .int x4)] [] s) : ∀ (x2 : Int32) (x3 : Int32) (x4 : Int32) (s : Mem), P (st_X5_greatestFirst_7 N k51 rec x2 x3 x4 s) 7 [(0, .ref (Ga G 122)), (2, .int x2), (3, .int x3), (4, .int x4)] [] s := by
  intro x2 x3 x4 s0
  unfold st_X5_greatestFirst_7
  refine jx_iload h dX5_greatestFirst_7 3 rfl ?_
  refine jx_bipush h dX5_greatestFirst_9 kb_6 ?_
  refine jx_icmp_ge (tgt := 51) h dX5_greatestFirst_11 rfl ?_ ?_
  · exact jx_subk [1, 2] h (hk51 x2 x3 s0) rfl
  · refine jx_iload_n h dX5_greatestFirst_14 rfl 1 rfl ?_
    refine jx_if_le (tgt := 51) h dX5_greatestFirst_15 rfl ?_ ?_
    · exact jx_subk [1, 2] h (hk51 x2 x3 s0) rfl
    · refine jx_aload_n h dX5_greatestFirst_18 rfl 0 rfl ?_
      refine jx_iload_n h dX5_greatestFirst_19 rfl 1 rfl ?_
      refine jx_callVi [] h lc_122 (c_X5_greatestWithin hG N x2 s0) ml_X5_70 (Nat.le_of_ble_eq_true rfl) (Nat.le_of_ble_eq_true rfl) dX5_greatestFirst_20 (Nat.le_of_ble_eq_true rfl) rfl (fun r2 s1 => ?_)
      refine jx_istore (lv' := [(5, .int r2), (0, .ref (Ga G 122)), (2, .int x2), (3, .int x3), (4, .int x4)]) h dX5_greatestFirst_23 (Nat.le_of_ble_eq_true rfl) rfl ?_
      refine jx_iload h dX5_greatestFirst_25 0 rfl ?_
      refine jx_if_ne (tgt := 33) h dX5_greatestFirst_27 rfl ?_ ?_
      · refine jx_iload_n h dX5_greatestFirst_33 rfl 3 rfl ?_
        refine jx_iload_n h dX5_greatestFirst_34 rfl 2 rfl ?_
        refine jx_iload h dX5_greatestFirst_35 0 rfl ?_
        refine jx_idiv h dX5_greatestFirst_37 ?_
        refine jx_iadd h dX5_greatestFirst_38 ?_
        refine jx_lti (fun v3 => ?_)
        refine jx_istore_n (lv' := [(3, .int v3), (5, .int r2), (0, .ref (Ga G 122)), (2, .int x2), (4, .int x4)]) h dX5_greatestFirst_39 rfl (Nat.le_of_ble_eq_true rfl) rfl ?_
        refine jx_iload_n h dX5_greatestFirst_40 rfl 3 rfl ?_
        refine jx_iload h dX5_greatestFirst_41 1 rfl ?_
        refine jx_irem h dX5_greatestFirst_43 ?_
        refine jx_lti (fun v4 => ?_)
        refine jx_istore_n (lv' := [(2, .int v4), (3, .int v3), (5, .int r2), (0, .ref (Ga G 122)), (4, .int x4)]) h dX5_greatestFirst_44 rfl (Nat.le_of_ble_eq_true rfl) rfl ?_
        refine jx_iincl (L := fun w => [(4, .int w), (2, .int v4), (3, .int v3), (5, .int r2), (0, .ref (Ga G 122))]) h dX5_greatestFirst_45 4 rfl (kn_1 _) (Nat.le_of_ble_eq_true rfl) (fun _ => rfl) (fun x4_5 => ?_)
        refine jx_goto (tgt := 7) h dX5_greatestFirst_48 rfl ?_
        exact jx_subk [4, 1, 2, 0] h (ih v4 v3 x4_5 s1) rfl
      · refine jx_bipush h dX5_greatestFirst_30 kb_m2 ?_
        exact jx_iret h dX5_greatestFirst_32
set_option maxRecDepth 20000 in
theorem c_X5_greatestFirst {G : Gx} (hG : Gok G ∧ IsG G layC fsoC) (N : Nat) (x1 : Int32) (s : Mem) : Ct G yX5_greatestFirst cX5_greatestFirst 6 (some .int) 2 [.ref (Ga G 122), .int x1] tvI s (f_X5_greatestFirst N x1 s) := by
  refine Ct.of hG (by decide) (Nat.le_of_ble_eq_true rfl) (fun P h => ?_)
  show P _ 0 [(0, .ref (Ga G 122)), (1, .int x1)] [] s
  unfold f_X5_greatestFirst
  refine jx_iload_n h dX5_greatestFirst_0 rfl 1 rfl ?_
  refine jx_istore_n (lv' := [(2, .int x1), (0, .ref (Ga G 122)), (1, .int x1)]) h dX5_greatestFirst_1 rfl (Nat.le_of_ble_eq_true rfl) rfl ?_
  refine jx_iconst h dX5_greatestFirst_2 ki_0 ?_
  refine jx_istore_n (lv' := [(3, .int 0), (2, .int x1), (0, .ref (Ga G 122)), (1, .int x1)]) h dX5_greatestFirst_3 rfl (Nat.le_of_ble_eq_true rfl) rfl ?_
  refine jx_iconst h dX5_greatestFirst_4 ki_0 ?_
  refine jx_istore (lv' := [(4, .int 0), (3, .int 0), (2, .int x1), (0, .ref (Ga G 122)), (1, .int x1)]) h dX5_greatestFirst_5 (Nat.le_of_ble_eq_true rfl) rfl ?_
  refine jx_subk [3, 2, 1, 0] h (itr_ind (Q := (fun (f : Int32 → Int32 → Int32 → Mem → Option (Int32 × Mem)) => ∀ (x2 : Int32) (x3 : Int32) (x4 : Int32) (s : Mem), P (f x2 x3 x4 s) 7 [(0, .ref (Ga G 122)), (2, .int x2), (3, .int x3), (4, .int x4)] [] s)) (fun _ _ _ _ => jx_none h) (fun r7 ih7 => ?_) N x1 0 0 s) rfl
  refine w_X5_greatestFirst_7 hG h N  ?_ ih7
  intro x2_7 x3_8 s6
  refine jx_iload_n h dX5_greatestFirst_51 rfl 0 rfl ?_
  refine jx_if_ne (tgt := 59) h dX5_greatestFirst_52 rfl ?_ ?_
  · refine jx_bipush h dX5_greatestFirst_59 kb_m2 ?_
    exact jx_iret h dX5_greatestFirst_61
  · refine jx_iload_n h dX5_greatestFirst_55 rfl 1 rfl ?_
    refine jx_goto (tgt := 61) h dX5_greatestFirst_56 rfl ?_
    exact jx_iret h dX5_greatestFirst_61
noncomputable def f_X6_handOver (N : Nat) (x1 : Nat) (s : Mem) : Option (Nat × Mem) :=
  lt (ix (gi s 93 4)) (fun q1 => ckc (isLw q1) (lt (si s 93 4 (nI x1)) (fun s2 => some (q1, s2))))
set_option maxRecDepth 20000 in
theorem c_X6_handOver {G : Gx} (hG : Gok G ∧ IsG G layC fsoC) (N : Nat) (x1 : Nat) (hx1 : isLw x1 = true) (s : Mem) : Ct G yX6_handOver cX6_handOver 3 (some (.object "BeggingLetter$Law")) 0 [.ref (Ga G 93), .ref (Ga G x1)] (tvR G) s (f_X6_handOver N x1 s) := by
  refine Ct.of hG (by decide) (Nat.le_of_ble_eq_true rfl) (fun P h => ?_)
  show P _ 0 [(0, .ref (Ga G 93)), (1, .ref (Ga G x1))] [] s
  unfold f_X6_handOver
  refine jx_aload_n h dX6_handOver_0 rfl 0 rfl ?_
  refine jx_get (v := .ref (Ga G (ix (gi s 93 4)))) h fa_X6_18 lc_93 dX6_handOver_1 rfl ?_
  refine jx_ltr (fun q1 => ?_)
  refine jx_ckc h (fun hq1 => ?_)
  refine jx_astore_n (lv' := [(2, .ref (Ga G q1)), (0, .ref (Ga G 93)), (1, .ref (Ga G x1))]) h dX6_handOver_4 rfl (Nat.le_of_ble_eq_true rfl) rfl ?_
  refine jx_aload_n h dX6_handOver_5 rfl 1 rfl ?_
  refine jx_aload_n h dX6_handOver_6 rfl 2 rfl ?_
  refine jx_put (x := nI x1) h fa_X6_18 fp_X6_4 lc_93 rfl rfl dX6_handOver_7 (fu_X6_4 _ _ _ (isLw_lt hx1)) (fun s2 => ?_)
  refine jx_aload_n h dX6_handOver_10 rfl 0 rfl ?_
  exact jx_aret h (by first | exact Or.inl ⟨_, rfl⟩ | exact Or.inr ⟨_, rfl⟩) dX6_handOver_11
noncomputable def f_X6_fail (N : Nat) (x1 : Int32) (s : Mem) : Option (Unit × Mem) :=
  if (gi s 93 3) = 0 then (lt (si s 93 3 ((((-1000) : Int32) * x1) - (gi s 93 2))) (fun s1 => some ((), s1))) else some ((), s)
set_option maxRecDepth 20000 in
theorem c_X6_fail {G : Gx} (hG : Gok G ∧ IsG G layC fsoC) (N : Nat) (x1 : Int32) (s : Mem) : Ct G yX6_fail cX6_fail 2 none 0 [.ref (Ga G 93), .int x1] tvV s (f_X6_fail N x1 s) := by
  refine Ct.of hG (by decide) (Nat.le_of_ble_eq_true rfl) (fun P h => ?_)
  show P _ 0 [(0, .ref (Ga G 93)), (1, .int x1)] [] s
  unfold f_X6_fail
  refine jx_aload_n h dX6_fail_0 rfl 0 rfl ?_
  refine jx_get (v := .int (gi s 93 3)) h fa_X6_35 lc_93 dX6_fail_1 rfl ?_
  refine jx_if_ne (tgt := 21) h dX6_fail_4 rfl ?_ ?_
  · exact jx_vret h dX6_fail_21
  · refine jx_aload_n h dX6_fail_7 rfl 0 rfl ?_
    refine jx_sipush h dX6_fail_8 ks_m1000 ?_
    refine jx_iload_n h dX6_fail_11 rfl 1 rfl ?_
    refine jx_imul h dX6_fail_12 ?_
    refine jx_aload_n h dX6_fail_13 rfl 0 rfl ?_
    refine jx_get (v := .int (gi s 93 2)) h fa_X6_32 lc_93 dX6_fail_14 rfl ?_
    refine jx_isub h dX6_fail_17 ?_
    refine jx_put h fa_X6_35 fp_X6_3 lc_93 rfl rfl dX6_fail_18 (fu_X6_3 _ _ _ _) (fun s1 => ?_)
    exact jx_vret h dX6_fail_21
noncomputable def f_X6_here (N : Nat)  (s : Mem) : Option (Int32 × Mem) :=
  if (gi s 93 2) < 0 then (some ((-1), s)) else if (gi s 93 1) ≤ (gi s 93 2) then (some ((-1), s)) else lt (ix (gi s 93 0)) (fun q1 => ckc (isAr q1) (if (nI (lenC q1)) ≤ (gi s 93 2) then (some ((-1), s)) else lt (ix (gi s 93 0)) (fun q2 => ckc (isAr q2) (chk (gi s 93 2) (lenC q2) (some (gi s q2 (ix (gi s 93 2)), s))))))
set_option maxRecDepth 20000 in
theorem c_X6_here {G : Gx} (hG : Gok G ∧ IsG G layC fsoC) (N : Nat)  (s : Mem) : Ct G yX6_here cX6_here 1 (some .int) 0 [.ref (Ga G 93)] tvI s (f_X6_here N s) := by
  refine Ct.of hG (by decide) (Nat.le_of_ble_eq_true rfl) (fun P h => ?_)
  show P _ 0 [(0, .ref (Ga G 93))] [] s
  unfold f_X6_here
  refine jx_aload_n h dX6_here_0 rfl 0 rfl ?_
  refine jx_get (v := .int (gi s 93 2)) h fa_X6_32 lc_93 dX6_here_1 rfl ?_
  refine jx_if_lt (tgt := 42) h dX6_here_4 rfl ?_ ?_
  · refine jx_iconst h dX6_here_42 ki_m1 ?_
    exact jx_iret h dX6_here_43
  · refine jx_aload_n h dX6_here_7 rfl 0 rfl ?_
    refine jx_get (v := .int (gi s 93 2)) h fa_X6_32 lc_93 dX6_here_8 rfl ?_
    refine jx_aload_n h dX6_here_11 rfl 0 rfl ?_
    refine jx_get (v := .int (gi s 93 1)) h fa_X6_28 lc_93 dX6_here_12 rfl ?_
    refine jx_icmp_ge (tgt := 42) h dX6_here_15 rfl ?_ ?_
    · refine jx_iconst h dX6_here_42 ki_m1 ?_
      exact jx_iret h dX6_here_43
    · refine jx_aload_n h dX6_here_18 rfl 0 rfl ?_
      refine jx_get (v := .int (gi s 93 2)) h fa_X6_32 lc_93 dX6_here_19 rfl ?_
      refine jx_aload_n h dX6_here_22 rfl 0 rfl ?_
      refine jx_get (v := .ref (Ga G (ix (gi s 93 0)))) h fa_X6_9 lc_93 dX6_here_23 rfl ?_
      refine jx_ltr (fun q1 => ?_)
      refine jx_ckc h (fun hq1 => ?_)
      refine jx_alen (v := (nI (lenC q1))) h (isAr_0 hq1) rfl dX6_here_26 ?_
      refine jx_icmp_ge (tgt := 42) h dX6_here_27 rfl ?_ ?_
      · refine jx_iconst h dX6_here_42 ki_m1 ?_
        exact jx_iret h dX6_here_43
      · refine jx_aload_n h dX6_here_30 rfl 0 rfl ?_
        refine jx_get (v := .ref (Ga G (ix (gi s 93 0)))) h fa_X6_9 lc_93 dX6_here_31 rfl ?_
        refine jx_ltr (fun q2 => ?_)
        refine jx_ckc h (fun hq2 => ?_)
        refine jx_aload_n h dX6_here_34 rfl 0 rfl ?_
        refine jx_get (v := .int (gi s 93 2)) h fa_X6_32 lc_93 dX6_here_35 rfl ?_
        refine jx_iaload h (isAr_0 hq2) dX6_here_38 ?_
        refine jx_goto (tgt := 43) h dX6_here_39 rfl ?_
        exact jx_iret h dX6_here_43
noncomputable def f_X6_pass (N : Nat) (x1 : Int32) (s : Mem) : Option (Unit × Mem) :=
  if (gi s 93 3) = 0 then (bd (f_X6_here N s) (fun r4 s3 => if r4 = x1 then (lt (si s3 93 2 ((gi s3 93 2) + 1)) (fun s7 => some ((), s7))) else bd (f_X6_fail N 1 s3) (fun _ s5 => some ((), s5)))) else bd (f_X6_fail N 1 s) (fun _ s1 => some ((), s1))
set_option maxRecDepth 20000 in
theorem c_X6_pass {G : Gx} (hG : Gok G ∧ IsG G layC fsoC) (N : Nat) (x1 : Int32) (s : Mem) : Ct G yX6_pass cX6_pass 2 none 1 [.ref (Ga G 93), .int x1] tvV s (f_X6_pass N x1 s) := by
  refine Ct.of hG (by decide) (Nat.le_of_ble_eq_true rfl) (fun P h => ?_)
  show P _ 0 [(0, .ref (Ga G 93)), (1, .int x1)] [] s
  unfold f_X6_pass
  refine jx_aload_n h dX6_pass_0 rfl 0 rfl ?_
  refine jx_get (v := .int (gi s 93 3)) h fa_X6_35 lc_93 dX6_pass_1 rfl ?_
  refine jx_if_ne (tgt := 28) h dX6_pass_4 rfl ?_ ?_
  · refine jx_aload_n h dX6_pass_28 rfl 0 rfl ?_
    refine jx_iconst h dX6_pass_29 ki_1 ?_
    refine jx_callVv [] h lc_93 (c_X6_fail hG N 1 s) ml_X6_58 (Nat.le_of_ble_eq_true rfl) (Nat.le_of_ble_eq_true rfl) dX6_pass_30 (Nat.le_of_ble_eq_true rfl) rfl (fun s1 => ?_)
    exact jx_vret h dX6_pass_33
  · refine jx_aload_n h dX6_pass_7 rfl 0 rfl ?_
    refine jx_callVi [] h lc_93 (c_X6_here hG N  s) ml_X6_48 (Nat.le_of_ble_eq_true rfl) (Nat.le_of_ble_eq_true rfl) dX6_pass_8 (Nat.le_of_ble_eq_true rfl) rfl (fun r4 s3 => ?_)
    refine jx_iload_n h dX6_pass_11 rfl 1 rfl ?_
    refine jx_icmp_ne (tgt := 28) h dX6_pass_12 rfl ?_ ?_
    · refine jx_aload_n h dX6_pass_28 rfl 0 rfl ?_
      refine jx_iconst h dX6_pass_29 ki_1 ?_
      refine jx_callVv [] h lc_93 (c_X6_fail hG N 1 s3) ml_X6_58 (Nat.le_of_ble_eq_true rfl) (Nat.le_of_ble_eq_true rfl) dX6_pass_30 (Nat.le_of_ble_eq_true rfl) rfl (fun s5 => ?_)
      exact jx_vret h dX6_pass_33
    · refine jx_aload_n h dX6_pass_15 rfl 0 rfl ?_
      refine jx_dup h dX6_pass_16 rfl ?_
      refine jx_get (v := .int (gi s3 93 2)) h fa_X6_32 lc_93 dX6_pass_17 rfl ?_
      refine jx_iconst h dX6_pass_20 ki_1 ?_
      refine jx_iadd h dX6_pass_21 ?_
      refine jx_put h fa_X6_32 fp_X6_2 lc_93 rfl rfl dX6_pass_22 (fu_X6_2 _ _ _ _) (fun s7 => ?_)
      refine jx_goto (tgt := 33) h dX6_pass_25 rfl ?_
      exact jx_vret h dX6_pass_33
noncomputable def f_X9_isDigit (N : Nat) (x0 : Int32) (s : Mem) : Option (Int32 × Mem) :=
  if x0 < 48 then (some (0, s)) else if 57 < x0 then (some (0, s)) else some (1, s)
set_option maxRecDepth 20000 in
theorem c_X9_isDigit {G : Gx} (hG : Gok G ∧ IsG G layC fsoC) (N : Nat) (x0 : Int32) (s : Mem) : Ct G yX9_isDigit cX9_isDigit 1 (some .boolean) 0 [.int x0] tvI s (f_X9_isDigit N x0 s) := by
  refine Ct.of hG (by decide) (Nat.le_of_ble_eq_true rfl) (fun P h => ?_)
  show P _ 0 [(0, .int x0)] [] s
  unfold f_X9_isDigit
  refine jx_iload_n h dX9_isDigit_0 rfl 0 rfl ?_
  refine jx_bipush h dX9_isDigit_1 kb_48 ?_
  refine jx_icmp_lt (tgt := 16) h dX9_isDigit_3 rfl ?_ ?_
  · refine jx_iconst h dX9_isDigit_16 ki_0 ?_
    exact jx_zret h rfl dX9_isDigit_17
  · refine jx_iload_n h dX9_isDigit_6 rfl 0 rfl ?_
    refine jx_bipush h dX9_isDigit_7 kb_57 ?_
    refine jx_icmp_gt (tgt := 16) h dX9_isDigit_9 rfl ?_ ?_
    · refine jx_iconst h dX9_isDigit_16 ki_0 ?_
      exact jx_zret h rfl dX9_isDigit_17
    · refine jx_iconst h dX9_isDigit_12 ki_1 ?_
      refine jx_goto (tgt := 17) h dX9_isDigit_13 rfl ?_
      exact jx_zret h rfl dX9_isDigit_17
noncomputable def f_X7_fail (N : Nat) (x1 : Int32) (s : Mem) : Option (Unit × Mem) :=
  if (gi s 95 7) = 0 then (lt (si s 95 7 ((((-1000) : Int32) * x1) - (gi s 95 6))) (fun s1 => some ((), s1))) else some ((), s)
set_option maxRecDepth 20000 in
theorem c_X7_fail {G : Gx} (hG : Gok G ∧ IsG G layC fsoC) (N : Nat) (x1 : Int32) (s : Mem) : Ct G yX7_fail cX7_fail 2 none 0 [.ref (Ga G 95), .int x1] tvV s (f_X7_fail N x1 s) := by
  refine Ct.of hG (by decide) (Nat.le_of_ble_eq_true rfl) (fun P h => ?_)
  show P _ 0 [(0, .ref (Ga G 95)), (1, .int x1)] [] s
  unfold f_X7_fail
  refine jx_aload_n h dX7_fail_0 rfl 0 rfl ?_
  refine jx_get (v := .int (gi s 95 7)) h fa_X7_40 lc_95 dX7_fail_1 rfl ?_
  refine jx_if_ne (tgt := 21) h dX7_fail_4 rfl ?_ ?_
  · exact jx_vret h dX7_fail_21
  · refine jx_aload_n h dX7_fail_7 rfl 0 rfl ?_
    refine jx_sipush h dX7_fail_8 ks_m1000 ?_
    refine jx_iload_n h dX7_fail_11 rfl 1 rfl ?_
    refine jx_imul h dX7_fail_12 ?_
    refine jx_aload_n h dX7_fail_13 rfl 0 rfl ?_
    refine jx_get (v := .int (gi s 95 6)) h fa_X7_37 lc_95 dX7_fail_14 rfl ?_
    refine jx_isub h dX7_fail_17 ?_
    refine jx_put h fa_X7_40 fp_X7_7 lc_95 rfl rfl dX7_fail_18 (fu_X7_7 _ _ _ _) (fun s1 => ?_)
    exact jx_vret h dX7_fail_21
