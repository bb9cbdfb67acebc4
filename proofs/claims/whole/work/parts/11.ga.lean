theorem Ct_none {G : Gx} {y : MethodName} {cd : ByteArray} {nL : Nat} {rt : Option FieldType} {d : Nat} {av : List Value} {R : Type} {tv : R → Option Value} {σ : Mem} : Ct G y cd nL rt d av tv σ none := fun _ _ q => by cases q
noncomputable def st_X2_follow_45 (N : Nat) (g0 : Int32 → Int32 → Int32 → Int32 → Nat → Nat → Mem → Option (Unit × Mem)) (x1 : Int32) (x2 : Int32) (x3 : Int32) (x5 : Nat) (x7 : Nat) (x8 : Int32) (x9 : Int32)  (rec : Int32 → Mem → Option (Unit × Mem)) (x10 : Int32) (s0 : Mem) : Option (Unit × Mem) :=
  if 12 ≤ x10 then (some ((), s0)) else if 4 < x9 then (some ((), s0)) else if (gi s0 101 4) = 0 then (some ((), s0)) else chk x2 12 (chk x10 12 (lt (gi s0 (4 + 1 + ix x2) (ix x10)) (fun v7 => if v7 ≤ 0 then (lt (x10 + 1) (fun x10_8 => rec x10_8 s0)) else bd (f_X9_hasBit N x8 x10 s0) (fun r10 s9 => if r10 = 0 then (lt (fun  (s12 : Mem) => bd (f_X0_tellOn N x5 x1 x10 x3 v7 x7 s12) (fun r14 s13 => bd (g0 x1 x10 r14 x8 x5 x7 s13) (fun _ s15 => lt (x10 + 1) (fun x10_17 => rec x10_17 s15)))) (fun j110 => if x9 < 4 then (j110 s9) else bd (f_X9_hasBit N (gi s9 101 4) x10 s9) (fun r19 s18 => if r19 = 0 then (lt (x10 + 1) (fun x10_20 => rec x10_20 s18)) else j110 s18))) else lt (x10 + 1) (fun x10_11 => rec x10_11 s9)))))
noncomputable def f1_X2_follow (N : Nat) (g0 : Int32 → Int32 → Int32 → Int32 → Nat → Nat → Mem → Option (Unit × Mem)) (x1 : Int32) (x2 : Int32) (x3 : Int32) (x4 : Int32) (x5 : Nat) (x7 : Nat) (s : Mem) : Option (Unit × Mem) :=
  chk x1 6 (chk x2 12 (lt (fun  (s2 : Mem) => lt (x4 ||| ((1 : Int32) <<< (x2 &&& 31))) (fun v3 => bd (f_J6_bitCount_0f7a4 N v3 s2) (fun r5 s4 => itr (fun _ _ => none) (st_X2_follow_45 N g0 x1 x2 x3 x5 x7 v3 r5) N 0 s4))) (fun j27 => if x3 < (gi s ((x5 + 7) + 1 + ix x1) (ix x2)) then (j27 s) else lt (si s 101 4 ((gi s 101 4) &&& (((1 : Int32) <<< (x2 &&& 31)) ^^^ (-1)))) (fun s21 => j27 s21))))
set_option maxRecDepth 20000 in
theorem w_X2_follow_45 {G : Gx} (hG : Gok G ∧ IsG G layC fsoC) {q : Nat} {P : Option (Unit × Mem) → Nat → List (Nat × Value) → List Value → Mem → Prop} (h : Jk G layC fsoC RX2 cX2_follow 12 none (4 + (q + 1)) tvV P) (N : Nat) (g0 : Int32 → Int32 → Int32 → Int32 → Nat → Nat → Mem → Option (Unit × Mem)) (hg0 : ∀ (x1 : Int32) (x2 : Int32) (x3 : Int32) (x4 : Int32) (x5 : Nat) (hx5 : isBk x5 = true) (x7 : Nat) (hx7 : isLw x7 = true) (s : Mem), Ct G yX2_follow cX2_follow 12 none (4 + q) [.ref (Ga G 101), .int x1, .int x2, .int x3, .int x4, .ref (Ga G x5), .ref (Ga G 3), .ref (Ga G x7)] tvV s (g0 x1 x2 x3 x4 x5 x7 s)) (x1 : Int32) (x2 : Int32) (x3 : Int32) (x5 : Nat) (x7 : Nat) (x8 : Int32) (x9 : Int32) (hx5 : isBk x5 = true) (hx7 : isLw x7 = true) {rec : Int32 → Mem → Option (Unit × Mem)} (ih : ∀ (x10 : Int32) (s : Mem), P (rec x10 s) 45 [(0, .ref (Ga G 101)), (1, .int x1), (2, .int x2), (3, .int x3), (5, .ref (Ga G x5)), (6, .ref (Ga G 3)), (7, .ref (Ga G x7)), (8, .int x8), (9, .int x9), (10, .int x10)] [] s) : ∀ (x10 : Int32) (s : Mem), P (st_X2_follow_45 N g0 x1 x2 x3 x5 x7 x8 x9 rec x10 s) 45 [(0, .ref (Ga G 101)), (1, .int x1), (2, .int x2), (3, .int x3), (5, .ref (Ga G x5)), (6, .ref (Ga G 3)), (7, .ref (Ga G x7)), (8, .int x8), (9, .int x9), (10, .int x10)] [] s := by
  intro x10 s0
  unfold st_X2_follow_45
  refine jx_iload h dX2_follow_45 9 rfl ?_
  refine jx_bipush h dX2_follow_47 kb_12 ?_
  refine jx_icmp_ge (tgt := 144) h dX2_follow_49 rfl ?_ ?_
  · exact jx_vret h dX2_follow_144
  · refine jx_iload h dX2_follow_52 8 rfl ?_
    refine jx_iconst h dX2_follow_54 ki_4 ?_
    refine jx_icmp_gt (tgt := 144) h dX2_follow_55 rfl ?_ ?_
    · exact jx_vret h dX2_follow_144
    · refine jx_aload_n h dX2_follow_58 rfl 0 rfl ?_
      refine jx_get (v := .int (gi s0 101 4)) h fa_X2_85 lc_101 dX2_follow_59 rfl ?_
      refine jx_if_eq (tgt := 144) h dX2_follow_62 rfl ?_ ?_
      · exact jx_vret h dX2_follow_144
      · refine jx_aload h dX2_follow_65 5 rfl ?_
        refine jx_get (v := .ref (Ga G 4)) h fa_X2_95 lc_3 dX2_follow_67 rfl ?_
        refine jx_iload_n h dX2_follow_70 rfl 2 rfl ?_
        refine jx_aaload h lc_4 dX2_follow_71 (fun hr6 => ?_)
        refine jx_iload h dX2_follow_72 9 rfl ?_
        refine jx_iaload h (lr_4 hr6) dX2_follow_74 ?_
        refine jx_lti (fun v7 => ?_)
        refine jx_istore (lv' := [(11, .int v7), (0, .ref (Ga G 101)), (1, .int x1), (2, .int x2), (3, .int x3), (5, .ref (Ga G x5)), (6, .ref (Ga G 3)), (7, .ref (Ga G x7)), (8, .int x8), (9, .int x9), (10, .int x10)]) h dX2_follow_75 (Nat.le_of_ble_eq_true rfl) rfl ?_
        refine jx_iload h dX2_follow_77 0 rfl ?_
        refine jx_if_le (tgt := 138) h dX2_follow_79 rfl ?_ ?_
        · refine jx_iincl (L := fun w => [(10, .int w), (11, .int v7), (0, .ref (Ga G 101)), (1, .int x1), (2, .int x2), (3, .int x3), (5, .ref (Ga G x5)), (6, .ref (Ga G 3)), (7, .ref (Ga G x7)), (8, .int x8), (9, .int x9)]) h dX2_follow_138 10 rfl (kn_1 _) (Nat.le_of_ble_eq_true rfl) (fun _ => rfl) (fun x10_8 => ?_)
          refine jx_goto (tgt := 45) h dX2_follow_141 rfl ?_
          exact jx_subk [2, 3, 4, 5, 6, 7, 8, 9, 10, 0] h (ih x10_8 s0) rfl
        · refine jx_iload h dX2_follow_82 8 rfl ?_
          refine jx_iload h dX2_follow_84 10 rfl ?_
          refine jx_callSi [] h (c_X9_hasBit hG N x8 x10 s0) ml_X2_28 (by omega) (Nat.le_of_ble_eq_true rfl) dX2_follow_86 (Nat.le_of_ble_eq_true rfl) rfl (fun r10 s9 => ?_)
          refine jx_if_ne (tgt := 138) h dX2_follow_89 rfl ?_ ?_
          · refine jx_iincl (L := fun w => [(10, .int w), (11, .int v7), (0, .ref (Ga G 101)), (1, .int x1), (2, .int x2), (3, .int x3), (5, .ref (Ga G x5)), (6, .ref (Ga G 3)), (7, .ref (Ga G x7)), (8, .int x8), (9, .int x9)]) h dX2_follow_138 10 rfl (kn_1 _) (Nat.le_of_ble_eq_true rfl) (fun _ => rfl) (fun x10_11 => ?_)
            refine jx_goto (tgt := 45) h dX2_follow_141 rfl ?_
            exact jx_subk [2, 3, 4, 5, 6, 7, 8, 9, 10, 0] h (ih x10_11 s9) rfl
          · refine jx_iload h dX2_follow_92 9 rfl ?_
            refine jx_iconst h dX2_follow_94 ki_4 ?_
            refine jx_join (fun (j : Mem → Option (Unit × Mem)) => ∀  (s12 : Mem), P (j  s12) 110 [(0, .ref (Ga G 101)), (1, .int x1), (2, .int x2), (3, .int x3), (5, .ref (Ga G x5)), (6, .ref (Ga G 3)), (7, .ref (Ga G x7)), (8, .int x8), (9, .int x9), (10, .int x10), (11, .int v7)] [] s12) (fun  s12 => ?_) (fun j110 hj110 => ?_)
            · refine jx_aload_n h dX2_follow_110 rfl 0 rfl ?_
              refine jx_iload_n h dX2_follow_111 rfl 1 rfl ?_
              refine jx_iload h dX2_follow_112 9 rfl ?_
              refine jx_aload h dX2_follow_114 4 rfl ?_
              refine jx_iload_n h dX2_follow_116 rfl 1 rfl ?_
              refine jx_iload h dX2_follow_117 9 rfl ?_
              refine jx_iload_n h dX2_follow_119 rfl 3 rfl ?_
              refine jx_iload h dX2_follow_120 10 rfl ?_
              refine jx_aload h dX2_follow_122 6 rfl ?_
              refine jx_callVi [.int x10, .int x1, .ref (Ga G 101)] h (isBk_o hx5) (c_X0_tellOn hG N x5 hx5 x1 x10 x3 v7 x7 hx7 s12) ml_X2_100 (by omega) (Nat.le_of_ble_eq_true rfl) dX2_follow_124 (Nat.le_of_ble_eq_true rfl) rfl (fun r14 s13 => ?_)
              refine jx_iload h dX2_follow_127 7 rfl ?_
              refine jx_aload h dX2_follow_129 4 rfl ?_
              refine jx_aload h dX2_follow_131 5 rfl ?_
              refine jx_aload h dX2_follow_133 6 rfl ?_
              refine jx_callVv [] h lc_101 (hg0 x1 x10 r14 x8 x5 hx5 x7 hx7 s13) ml_X2_91 (by omega) (Nat.le_of_ble_eq_true rfl) dX2_follow_135 (Nat.le_of_ble_eq_true rfl) rfl (fun s15 => ?_)
              refine jx_iincl (L := fun w => [(10, .int w), (0, .ref (Ga G 101)), (1, .int x1), (2, .int x2), (3, .int x3), (5, .ref (Ga G x5)), (6, .ref (Ga G 3)), (7, .ref (Ga G x7)), (8, .int x8), (9, .int x9), (11, .int v7)]) h dX2_follow_138 9 rfl (kn_1 _) (Nat.le_of_ble_eq_true rfl) (fun _ => rfl) (fun x10_17 => ?_)
              refine jx_goto (tgt := 45) h dX2_follow_141 rfl ?_
              exact jx_subk [1, 2, 3, 4, 5, 6, 7, 8, 9, 0] h (ih x10_17 s15) rfl
            · refine jx_icmp_lt (tgt := 110) h dX2_follow_95 rfl ?_ ?_
              · exact jx_subk [1, 2, 3, 4, 5, 6, 7, 8, 9, 10, 0] h (hj110 s9) rfl
              · refine jx_aload_n h dX2_follow_98 rfl 1 rfl ?_
                refine jx_get (v := .int (gi s9 101 4)) h fa_X2_85 lc_101 dX2_follow_99 rfl ?_
                refine jx_iload h dX2_follow_102 10 rfl ?_
                refine jx_callSi [] h (c_X9_hasBit hG N (gi s9 101 4) x10 s9) ml_X2_28 (by omega) (Nat.le_of_ble_eq_true rfl) dX2_follow_104 (Nat.le_of_ble_eq_true rfl) rfl (fun r19 s18 => ?_)
                refine jx_if_eq (tgt := 138) h dX2_follow_107 rfl ?_ ?_
                · refine jx_iincl (L := fun w => [(10, .int w), (11, .int v7), (0, .ref (Ga G 101)), (1, .int x1), (2, .int x2), (3, .int x3), (5, .ref (Ga G x5)), (6, .ref (Ga G 3)), (7, .ref (Ga G x7)), (8, .int x8), (9, .int x9)]) h dX2_follow_138 10 rfl (kn_1 _) (Nat.le_of_ble_eq_true rfl) (fun _ => rfl) (fun x10_20 => ?_)
                  refine jx_goto (tgt := 45) h dX2_follow_141 rfl ?_
                  exact jx_subk [2, 3, 4, 5, 6, 7, 8, 9, 10, 0] h (ih x10_20 s18) rfl
                · exact jx_subk [1, 2, 3, 4, 5, 6, 7, 8, 9, 10, 0] h (hj110 s18) rfl
set_option maxRecDepth 20000 in
theorem c1_X2_follow {G : Gx} (hG : Gok G ∧ IsG G layC fsoC) {q : Nat} (N : Nat) (g0 : Int32 → Int32 → Int32 → Int32 → Nat → Nat → Mem → Option (Unit × Mem)) (hg0 : ∀ (x1 : Int32) (x2 : Int32) (x3 : Int32) (x4 : Int32) (x5 : Nat) (hx5 : isBk x5 = true) (x7 : Nat) (hx7 : isLw x7 = true) (s : Mem), Ct G yX2_follow cX2_follow 12 none (4 + q) [.ref (Ga G 101), .int x1, .int x2, .int x3, .int x4, .ref (Ga G x5), .ref (Ga G 3), .ref (Ga G x7)] tvV s (g0 x1 x2 x3 x4 x5 x7 s)) (x1 : Int32) (x2 : Int32) (x3 : Int32) (x4 : Int32) (x5 : Nat) (hx5 : isBk x5 = true) (x7 : Nat) (hx7 : isLw x7 = true) (s : Mem) : Ct G yX2_follow cX2_follow 12 none (4 + (q + 1)) [.ref (Ga G 101), .int x1, .int x2, .int x3, .int x4, .ref (Ga G x5), .ref (Ga G 3), .ref (Ga G x7)] tvV s (f1_X2_follow N g0 x1 x2 x3 x4 x5 x7 s) := by
  refine Ct.of hG (by decide) (Nat.le_of_ble_eq_true rfl) (fun P h => ?_)
  show P _ 0 [(0, .ref (Ga G 101)), (1, .int x1), (2, .int x2), (3, .int x3), (4, .int x4), (5, .ref (Ga G x5)), (6, .ref (Ga G 3)), (7, .ref (Ga G x7))] [] s
  unfold f1_X2_follow
  refine jx_aload h dX2_follow_0 5 rfl ?_
  refine jx_get (v := .ref (Ga G (x5 + 7))) h fa_X2_79 (isBk_o hx5) dX2_follow_2 rfl ?_
  refine jx_iload_n h dX2_follow_5 rfl 1 rfl ?_
  refine jx_aaload h (isBk_7 hx5) dX2_follow_6 (fun hr1 => ?_)
  refine jx_iload_n h dX2_follow_7 rfl 2 rfl ?_
  refine jx_iaload h (isBk_r hx5 hr1) dX2_follow_8 ?_
  refine jx_iload_n h dX2_follow_9 rfl 3 rfl ?_
  refine jx_join (fun (j : Mem → Option (Unit × Mem)) => ∀  (s2 : Mem), P (j  s2) 27 [(0, .ref (Ga G 101)), (1, .int x1), (2, .int x2), (3, .int x3), (4, .int x4), (5, .ref (Ga G x5)), (6, .ref (Ga G 3)), (7, .ref (Ga G x7))] [] s2) (fun  s2 => ?_) (fun j27 hj27 => ?_)
  · refine jx_iload h dX2_follow_27 4 rfl ?_
    refine jx_iconst h dX2_follow_29 ki_1 ?_
    refine jx_iload_n h dX2_follow_30 rfl 2 rfl ?_
    refine jx_ishl h dX2_follow_31 ?_
    refine jx_ior h dX2_follow_32 ?_
    refine jx_lti (fun v3 => ?_)
    refine jx_istore (lv' := [(8, .int v3), (0, .ref (Ga G 101)), (1, .int x1), (2, .int x2), (3, .int x3), (4, .int x4), (5, .ref (Ga G x5)), (6, .ref (Ga G 3)), (7, .ref (Ga G x7))]) h dX2_follow_33 (Nat.le_of_ble_eq_true rfl) rfl ?_
    refine jx_iload h dX2_follow_35 0 rfl ?_
    refine jx_callSi [] h (c_J6_bitCount_0f7a4 hG N v3 s2) ml_X2_48 (by omega) (Nat.le_of_ble_eq_true rfl) dX2_follow_37 (Nat.le_of_ble_eq_true rfl) rfl (fun r5 s4 => ?_)
    refine jx_istore (lv' := [(9, .int r5), (8, .int v3), (0, .ref (Ga G 101)), (1, .int x1), (2, .int x2), (3, .int x3), (4, .int x4), (5, .ref (Ga G x5)), (6, .ref (Ga G 3)), (7, .ref (Ga G x7))]) h dX2_follow_40 (Nat.le_of_ble_eq_true rfl) rfl ?_
    refine jx_iconst h dX2_follow_42 ki_0 ?_
    refine jx_istore (lv' := [(10, .int 0), (9, .int r5), (8, .int v3), (0, .ref (Ga G 101)), (1, .int x1), (2, .int x2), (3, .int x3), (4, .int x4), (5, .ref (Ga G x5)), (6, .ref (Ga G 3)), (7, .ref (Ga G x7))]) h dX2_follow_43 (Nat.le_of_ble_eq_true rfl) rfl ?_
    refine jx_subk [3, 4, 5, 6, 8, 9, 10, 2, 1, 0] h (itr_ind (Q := (fun (f : Int32 → Mem → Option (Unit × Mem)) => ∀ (x10 : Int32) (s : Mem), P (f x10 s) 45 [(0, .ref (Ga G 101)), (1, .int x1), (2, .int x2), (3, .int x3), (5, .ref (Ga G x5)), (6, .ref (Ga G 3)), (7, .ref (Ga G x7)), (8, .int v3), (9, .int r5), (10, .int x10)] [] s)) (fun _ _ => jx_none h) (fun r45 ih45 => ?_) N 0 s4) rfl
    refine w_X2_follow_45 hG h N g0 hg0 x1 x2 x3 x5 x7 v3 r5 hx5 hx7  ih45
  · refine jx_icmp_gt (tgt := 27) h dX2_follow_10 rfl ?_ ?_
    · exact hj27 s
    · refine jx_aload_n h dX2_follow_13 rfl 0 rfl ?_
      refine jx_dup h dX2_follow_14 rfl ?_
      refine jx_get (v := .int (gi s 101 4)) h fa_X2_85 lc_101 dX2_follow_15 rfl ?_
      refine jx_iconst h dX2_follow_18 ki_1 ?_
      refine jx_iload_n h dX2_follow_19 rfl 2 rfl ?_
      refine jx_ishl h dX2_follow_20 ?_
      refine jx_iconst h dX2_follow_21 ki_m1 ?_
      refine jx_ixor h dX2_follow_22 ?_
      refine jx_iand h dX2_follow_23 ?_
      refine jx_put h fa_X2_85 fp_X2_4 lc_101 rfl rfl dX2_follow_24 (fu_X2_4 _ _ _ _) (fun s21 => ?_)
      exact hj27 s21
noncomputable def gr_X2_follow (N : Nat) : Nat → (Int32 → Int32 → Int32 → Int32 → Nat → Nat → Mem → Option (Unit × Mem)) := itr (fun _ _ _ _ _ _ _ => none) (fun r => f1_X2_follow N r)
noncomputable def f_X2_follow (N : Nat) (n : Nat) (x1 : Int32) (x2 : Int32) (x3 : Int32) (x4 : Int32) (x5 : Nat) (x7 : Nat) (s : Mem) : Option (Unit × Mem) := (gr_X2_follow N n) x1 x2 x3 x4 x5 x7 s
theorem cg_X2_follow {G : Gx} (hG : Gok G ∧ IsG G layC fsoC) (N : Nat) : ∀ n : Nat, (fun (n : Nat) (r : (Int32 → Int32 → Int32 → Int32 → Nat → Nat → Mem → Option (Unit × Mem))) => (∀ (x1 : Int32) (x2 : Int32) (x3 : Int32) (x4 : Int32) (x5 : Nat) (hx5 : isBk x5 = true) (x7 : Nat) (hx7 : isLw x7 = true) (s : Mem), Ct G yX2_follow cX2_follow 12 none (4 + n) [.ref (Ga G 101), .int x1, .int x2, .int x3, .int x4, .ref (Ga G x5), .ref (Ga G 3), .ref (Ga G x7)] tvV s (r x1 x2 x3 x4 x5 x7 s))) n (gr_X2_follow N n) := by
  intro n
  unfold gr_X2_follow
  refine itr_indn (Q := fun (n : Nat) (r : (Int32 → Int32 → Int32 → Int32 → Nat → Nat → Mem → Option (Unit × Mem))) => (∀ (x1 : Int32) (x2 : Int32) (x3 : Int32) (x4 : Int32) (x5 : Nat) (hx5 : isBk x5 = true) (x7 : Nat) (hx7 : isLw x7 = true) (s : Mem), Ct G yX2_follow cX2_follow 12 none (4 + n) [.ref (Ga G 101), .int x1, .int x2, .int x3, .int x4, .ref (Ga G x5), .ref (Ga G 3), .ref (Ga G x7)] tvV s (r x1 x2 x3 x4 x5 x7 s))) ?_ ?_ n
  · exact fun x1 x2 x3 x4 x5 hx5 x7 hx7 s => Ct_none
  · intro n r ih
    exact fun x1 x2 x3 x4 x5 hx5 x7 hx7 s => c1_X2_follow hG N r ih x1 x2 x3 x4 x5 hx5 x7 hx7 s
theorem c_X2_follow {G : Gx} (hG : Gok G ∧ IsG G layC fsoC) (N n : Nat) (x1 : Int32) (x2 : Int32) (x3 : Int32) (x4 : Int32) (x5 : Nat) (hx5 : isBk x5 = true) (x7 : Nat) (hx7 : isLw x7 = true) (s : Mem) : Ct G yX2_follow cX2_follow 12 none (4 + n) [.ref (Ga G 101), .int x1, .int x2, .int x3, .int x4, .ref (Ga G x5), .ref (Ga G 3), .ref (Ga G x7)] tvV s (f_X2_follow N n x1 x2 x3 x4 x5 x7 s) := (cg_X2_follow hG N n) x1 x2 x3 x4 x5 hx5 x7 hx7 s
noncomputable def st_X2_falseTales_6 (N : Nat) (x1 : Int32) (x2 : Nat) (x4 : Nat) (k60 : Int32 → Mem → Option (Int32 × Mem)) (rec : Int32 → Int32 → Mem → Option (Int32 × Mem)) (x5 : Int32) (x6 : Int32) (s0 : Mem) : Option (Int32 × Mem) :=
  if 12 ≤ x6 then (k60 x5 s0) else chk x1 6 (bd (f_X9_hasBit N (gi s0 (x2 + 5) (ix x1)) x6 s0) (fun r2 s1 => if r2 = 0 then (lt (x6 + 1) (fun x6_3 => rec x5 x6_3 s1)) else chk x1 6 (chk x6 12 (chk x1 6 (if (gi s1 (x2 + 3) (ix x1)) ≤ (gi s1 ((x2 + 7) + 1 + ix x1) (ix x6)) then (lt (x6 + 1) (fun x6_5 => rec x5 x6_5 s1)) else lt (x5 ||| ((1 : Int32) <<< (x6 &&& 31))) (fun v6 => lt (x6 + 1) (fun x6_7 => rec v6 x6_7 s1)))))))
noncomputable def f_X2_falseTales (N : Nat) (x1 : Int32) (x2 : Nat) (x4 : Nat) (s : Mem) : Option (Int32 × Mem) :=
  itr (fun _ _ _ => none) (st_X2_falseTales_6 N x1 x2 x4 (fun (x5_9 : Int32) (s8 : Mem) => chk x1 6 (lt (si s8 101 4 ((gi s8 (x2 + 5) (ix x1)) &&& (x5_9 ^^^ (-1)))) (fun s10 => chk x1 6 (chk x1 6 (bd (f_X2_follow N 100 x1 (gi s10 (x2 + 2) (ix x1)) (gi s10 (x2 + 3) (ix x1)) 0 x2 x4 s10) (fun _ s11 => some (x5_9 ||| (gi s11 101 4), s11)))))))) N 0 0 s
set_option maxRecDepth 20000 in
theorem w_X2_falseTales_6 {G : Gx} (hG : Gok G ∧ IsG G layC fsoC) {P : Option (Int32 × Mem) → Nat → List (Nat × Value) → List Value → Mem → Prop} (h : Jk G layC fsoC RX2 cX2_falseTales 7 (some .int) 105 tvI P) (N : Nat) (x1 : Int32) (x2 : Nat) (x4 : Nat) (hx2 : isBk x2 = true) (hx4 : isLw x4 = true) {k60 : Int32 → Mem → Option (Int32 × Mem)} (hk60 : ∀ (x5 : Int32) (s : Mem), P (k60 x5 s) 60 [(0, .ref (Ga G 101)), (1, .int x1), (2, .ref (Ga G x2)), (3, .ref (Ga G 3)), (4, .ref (Ga G x4)), (5, .int x5)] [] s) {rec : Int32 → Int32 → Mem → Option (Int32 × Mem)} (ih : ∀ (x5 : Int32) (x6 : Int32) (s : Mem), P (rec x5 x6 s) 6 [(0, .ref (Ga G 101)), (1, .int x1), (2, .ref (Ga G x2)), (3, .ref (Ga G 3)), (4, .ref (Ga G x4)), (5, .int x5), (6, .int x6)] [] s) : ∀ (x5 : Int32) (x6 : Int32) (s : Mem), P (st_X2_falseTales_6 N x1 x2 x4 k60 rec x5 x6 s) 6 [(0, .ref (Ga G 101)), (1, .int x1), (2, .ref (Ga G x2)), (3, .ref (Ga G 3)), (4, .ref (Ga G x4)), (5, .int x5), (6, .int x6)] [] s := by
  intro x5 x6 s0
  unfold st_X2_falseTales_6
  refine jx_iload h dX2_falseTales_6 6 rfl ?_
  refine jx_bipush h dX2_falseTales_8 kb_12 ?_
  refine jx_icmp_ge (tgt := 60) h dX2_falseTales_10 rfl ?_ ?_
  · exact jx_subk [0, 1, 2, 3, 4, 5] h (hk60 x5 s0) rfl
  · refine jx_aload_n h dX2_falseTales_13 rfl 2 rfl ?_
    refine jx_get (v := .ref (Ga G (x2 + 5))) h fa_X2_23 (isBk_o hx2) dX2_falseTales_14 rfl ?_
    refine jx_iload_n h dX2_falseTales_17 rfl 1 rfl ?_
    refine jx_iaload h (isBk_5 hx2) dX2_falseTales_18 ?_
    refine jx_iload h dX2_falseTales_19 6 rfl ?_
    refine jx_callSi [] h (c_X9_hasBit hG N (gi s0 (x2 + 5) (ix x1)) x6 s0) ml_X2_28 (Nat.le_of_ble_eq_true rfl) (Nat.le_of_ble_eq_true rfl) dX2_falseTales_21 (Nat.le_of_ble_eq_true rfl) rfl (fun r2 s1 => ?_)
    refine jx_if_eq (tgt := 54) h dX2_falseTales_24 rfl ?_ ?_
    · refine jx_iincl (L := fun w => [(6, .int w), (0, .ref (Ga G 101)), (1, .int x1), (2, .ref (Ga G x2)), (3, .ref (Ga G 3)), (4, .ref (Ga G x4)), (5, .int x5)]) h dX2_falseTales_54 6 rfl (kn_1 _) (Nat.le_of_ble_eq_true rfl) (fun _ => rfl) (fun x6_3 => ?_)
      refine jx_goto (tgt := 6) h dX2_falseTales_57 rfl ?_
      exact jx_subk [1, 2, 3, 4, 5, 6, 0] h (ih x5 x6_3 s1) rfl
    · refine jx_aload_n h dX2_falseTales_27 rfl 2 rfl ?_
      refine jx_get (v := .ref (Ga G (x2 + 7))) h fa_X2_79 (isBk_o hx2) dX2_falseTales_28 rfl ?_
      refine jx_iload_n h dX2_falseTales_31 rfl 1 rfl ?_
      refine jx_aaload h (isBk_7 hx2) dX2_falseTales_32 (fun hr4 => ?_)
      refine jx_iload h dX2_falseTales_33 6 rfl ?_
      refine jx_iaload h (isBk_r hx2 hr4) dX2_falseTales_35 ?_
      refine jx_aload_n h dX2_falseTales_36 rfl 2 rfl ?_
      refine jx_get (v := .ref (Ga G (x2 + 3))) h fa_X2_82 (isBk_o hx2) dX2_falseTales_37 rfl ?_
      refine jx_iload_n h dX2_falseTales_40 rfl 1 rfl ?_
      refine jx_iaload h (isBk_3 hx2) dX2_falseTales_41 ?_
      refine jx_icmp_ge (tgt := 54) h dX2_falseTales_42 rfl ?_ ?_
      · refine jx_iincl (L := fun w => [(6, .int w), (0, .ref (Ga G 101)), (1, .int x1), (2, .ref (Ga G x2)), (3, .ref (Ga G 3)), (4, .ref (Ga G x4)), (5, .int x5)]) h dX2_falseTales_54 6 rfl (kn_1 _) (Nat.le_of_ble_eq_true rfl) (fun _ => rfl) (fun x6_5 => ?_)
        refine jx_goto (tgt := 6) h dX2_falseTales_57 rfl ?_
        exact jx_subk [1, 2, 3, 4, 5, 6, 0] h (ih x5 x6_5 s1) rfl
      · refine jx_iload h dX2_falseTales_45 5 rfl ?_
        refine jx_iconst h dX2_falseTales_47 ki_1 ?_
        refine jx_iload h dX2_falseTales_48 6 rfl ?_
        refine jx_ishl h dX2_falseTales_50 ?_
        refine jx_ior h dX2_falseTales_51 ?_
        refine jx_lti (fun v6 => ?_)
        refine jx_istore (lv' := [(5, .int v6), (0, .ref (Ga G 101)), (1, .int x1), (2, .ref (Ga G x2)), (3, .ref (Ga G 3)), (4, .ref (Ga G x4)), (6, .int x6)]) h dX2_falseTales_52 (Nat.le_of_ble_eq_true rfl) rfl ?_
        refine jx_iincl (L := fun w => [(6, .int w), (5, .int v6), (0, .ref (Ga G 101)), (1, .int x1), (2, .ref (Ga G x2)), (3, .ref (Ga G 3)), (4, .ref (Ga G x4))]) h dX2_falseTales_54 6 rfl (kn_1 _) (Nat.le_of_ble_eq_true rfl) (fun _ => rfl) (fun x6_7 => ?_)
        refine jx_goto (tgt := 6) h dX2_falseTales_57 rfl ?_
        exact jx_subk [2, 3, 4, 5, 6, 1, 0] h (ih v6 x6_7 s1) rfl
set_option maxRecDepth 20000 in
theorem c_X2_falseTales {G : Gx} (hG : Gok G ∧ IsG G layC fsoC) (N : Nat) (x1 : Int32) (x2 : Nat) (hx2 : isBk x2 = true) (x4 : Nat) (hx4 : isLw x4 = true) (s : Mem) : Ct G yX2_falseTales cX2_falseTales 7 (some .int) 105 [.ref (Ga G 101), .int x1, .ref (Ga G x2), .ref (Ga G 3), .ref (Ga G x4)] tvI s (f_X2_falseTales N x1 x2 x4 s) := by
  refine Ct.of hG (by decide) (Nat.le_of_ble_eq_true rfl) (fun P h => ?_)
  show P _ 0 [(0, .ref (Ga G 101)), (1, .int x1), (2, .ref (Ga G x2)), (3, .ref (Ga G 3)), (4, .ref (Ga G x4))] [] s
  unfold f_X2_falseTales
  refine jx_iconst h dX2_falseTales_0 ki_0 ?_
  refine jx_istore (lv' := [(5, .int 0), (0, .ref (Ga G 101)), (1, .int x1), (2, .ref (Ga G x2)), (3, .ref (Ga G 3)), (4, .ref (Ga G x4))]) h dX2_falseTales_1 (Nat.le_of_ble_eq_true rfl) rfl ?_
  refine jx_iconst h dX2_falseTales_3 ki_0 ?_
  refine jx_istore (lv' := [(6, .int 0), (5, .int 0), (0, .ref (Ga G 101)), (1, .int x1), (2, .ref (Ga G x2)), (3, .ref (Ga G 3)), (4, .ref (Ga G x4))]) h dX2_falseTales_4 (Nat.le_of_ble_eq_true rfl) rfl ?_
  refine jx_subk [2, 3, 4, 5, 6, 1, 0] h (itr_ind (Q := (fun (f : Int32 → Int32 → Mem → Option (Int32 × Mem)) => ∀ (x5 : Int32) (x6 : Int32) (s : Mem), P (f x5 x6 s) 6 [(0, .ref (Ga G 101)), (1, .int x1), (2, .ref (Ga G x2)), (3, .ref (Ga G 3)), (4, .ref (Ga G x4)), (5, .int x5), (6, .int x6)] [] s)) (fun _ _ _ => jx_none h) (fun r6 ih6 => ?_) N 0 0 s) rfl
  refine w_X2_falseTales_6 hG h N x1 x2 x4 hx2 hx4 ?_ ih6
  intro x5_9 s8
  refine jx_aload_n h dX2_falseTales_60 rfl 0 rfl ?_
  refine jx_aload_n h dX2_falseTales_61 rfl 2 rfl ?_
  refine jx_get (v := .ref (Ga G (x2 + 5))) h fa_X2_23 (isBk_o hx2) dX2_falseTales_62 rfl ?_
  refine jx_iload_n h dX2_falseTales_65 rfl 1 rfl ?_
  refine jx_iaload h (isBk_5 hx2) dX2_falseTales_66 ?_
  refine jx_iload h dX2_falseTales_67 5 rfl ?_
  refine jx_iconst h dX2_falseTales_69 ki_m1 ?_
  refine jx_ixor h dX2_falseTales_70 ?_
  refine jx_iand h dX2_falseTales_71 ?_
  refine jx_put h fa_X2_85 fp_X2_4 lc_101 rfl rfl dX2_falseTales_72 (fu_X2_4 _ _ _ _) (fun s10 => ?_)
  refine jx_aload_n h dX2_falseTales_75 rfl 0 rfl ?_
  refine jx_iload_n h dX2_falseTales_76 rfl 1 rfl ?_
  refine jx_aload_n h dX2_falseTales_77 rfl 2 rfl ?_
  refine jx_get (v := .ref (Ga G (x2 + 2))) h fa_X2_88 (isBk_o hx2) dX2_falseTales_78 rfl ?_
  refine jx_iload_n h dX2_falseTales_81 rfl 1 rfl ?_
  refine jx_iaload h (isBk_2 hx2) dX2_falseTales_82 ?_
  refine jx_aload_n h dX2_falseTales_83 rfl 2 rfl ?_
  refine jx_get (v := .ref (Ga G (x2 + 3))) h fa_X2_82 (isBk_o hx2) dX2_falseTales_84 rfl ?_
  refine jx_iload_n h dX2_falseTales_87 rfl 1 rfl ?_
  refine jx_iaload h (isBk_3 hx2) dX2_falseTales_88 ?_
  refine jx_iconst h dX2_falseTales_89 ki_0 ?_
  refine jx_aload_n h dX2_falseTales_90 rfl 2 rfl ?_
  refine jx_aload_n h dX2_falseTales_91 rfl 3 rfl ?_
  refine jx_aload h dX2_falseTales_92 4 rfl ?_
  refine jx_callVv [] h lc_101 (c_X2_follow hG N 100 x1 (gi s10 (x2 + 2) (ix x1)) (gi s10 (x2 + 3) (ix x1)) 0 x2 hx2 x4 hx4 s10) ml_X2_91 (Nat.le_of_ble_eq_true rfl) (Nat.le_of_ble_eq_true rfl) dX2_falseTales_94 (Nat.le_of_ble_eq_true rfl) rfl (fun s11 => ?_)
  refine jx_iload h dX2_falseTales_97 5 rfl ?_
  refine jx_aload_n h dX2_falseTales_99 rfl 0 rfl ?_
  refine jx_get (v := .int (gi s11 101 4)) h fa_X2_85 lc_101 dX2_falseTales_100 rfl ?_
  refine jx_ior h dX2_falseTales_103 ?_
  exact jx_iret h dX2_falseTales_104
noncomputable def f_X9_tales (N : Nat) (x1 : Int32) (x2 : Int32) (s : Mem) : Option (Int32 × Mem) :=
  bd (f_X0_isTold N 32 x1 s) (fun r2 s1 => if r2 = 0 then (some ((-1), s1)) else bd (f_X9_isWithin N x2 0 2 s1) (fun r4 s3 => if r4 = 0 then (some ((-1), s3)) else if x2 = 0 then (lt (ix (gi s3 0 10)) (fun q10 => ckc (isLw q10) (bd (f_X2_falseTales N x1 32 q10 s3) (fun r12 s11 => some (r12, s11))))) else bd (f_X0_largestTale N 32 x1 s3) (fun r6 s5 => if x2 = 2 then (some (r6, s5)) else bd (f_X9_isWithin N r6 0 11 s5) (fun r8 s7 => if r8 = 0 then (some (0, s7)) else chk x1 6 (chk r6 12 (chk x1 6 (some ((gi s7 (39 + 1 + ix x1) (ix r6)) - (gi s7 35 (ix x1)), s7))))))))
set_option maxRecDepth 20000 in
theorem c_X9_tales {G : Gx} (hG : Gok G ∧ IsG G layC fsoC) (N : Nat) (x1 : Int32) (x2 : Int32) (s : Mem) : Ct G yX9_tales cX9_tales 4 (some .int) 106 [.ref (Ga G 0), .int x1, .int x2] tvI s (f_X9_tales N x1 x2 s) := by
  refine Ct.of hG (by decide) (Nat.le_of_ble_eq_true rfl) (fun P h => ?_)
  show P _ 0 [(0, .ref (Ga G 0)), (1, .int x1), (2, .int x2)] [] s
  unfold f_X9_tales
  refine jx_aload_n h dX9_tales_0 rfl 0 rfl ?_
  refine jx_get (v := .ref (Ga G 32)) h fa_X9_26 lc_0 dX9_tales_1 rfl ?_
  refine jx_iload_n h dX9_tales_4 rfl 1 rfl ?_
  refine jx_callVi [] h lc_32 (c_X0_isTold hG N 32 rfl x1 s) ml_X9_164 (Nat.le_of_ble_eq_true rfl) (Nat.le_of_ble_eq_true rfl) dX9_tales_5 (Nat.le_of_ble_eq_true rfl) rfl (fun r2 s1 => ?_)
  refine jx_if_eq (tgt := 20) h dX9_tales_8 rfl ?_ ?_
  · refine jx_iconst h dX9_tales_20 ki_m1 ?_
    exact jx_iret h dX9_tales_21
  · refine jx_iload_n h dX9_tales_11 rfl 2 rfl ?_
    refine jx_iconst h dX9_tales_12 ki_0 ?_
    refine jx_iconst h dX9_tales_13 ki_2 ?_
    refine jx_callSi [] h (c_X9_isWithin hG N x2 0 2 s1) ml_X9_78 (Nat.le_of_ble_eq_true rfl) (Nat.le_of_ble_eq_true rfl) dX9_tales_14 (Nat.le_of_ble_eq_true rfl) rfl (fun r4 s3 => ?_)
    refine jx_if_ne (tgt := 22) h dX9_tales_17 rfl ?_ ?_
    · refine jx_iload_n h dX9_tales_22 rfl 2 rfl ?_
      refine jx_if_ne (tgt := 47) h dX9_tales_23 rfl ?_ ?_
      · refine jx_aload_n h dX9_tales_47 rfl 0 rfl ?_
        refine jx_get (v := .ref (Ga G 32)) h fa_X9_26 lc_0 dX9_tales_48 rfl ?_
        refine jx_iload_n h dX9_tales_51 rfl 1 rfl ?_
        refine jx_callVi [] h lc_32 (c_X0_largestTale hG N 32 rfl x1 s3) ml_X9_263 (Nat.le_of_ble_eq_true rfl) (Nat.le_of_ble_eq_true rfl) dX9_tales_52 (Nat.le_of_ble_eq_true rfl) rfl (fun r6 s5 => ?_)
        refine jx_istore_n (lv' := [(3, .int r6), (0, .ref (Ga G 0)), (1, .int x1), (2, .int x2)]) h dX9_tales_55 rfl (Nat.le_of_ble_eq_true rfl) rfl ?_
        refine jx_iload_n h dX9_tales_56 rfl 3 rfl ?_
        refine jx_iconst h dX9_tales_57 ki_2 ?_
        refine jx_icmp_ne (tgt := 63) h dX9_tales_58 rfl ?_ ?_
        · refine jx_iload_n h dX9_tales_63 rfl 0 rfl ?_
          refine jx_iconst h dX9_tales_64 ki_0 ?_
          refine jx_bipush h dX9_tales_65 kb_11 ?_
          refine jx_callSi [] h (c_X9_isWithin hG N r6 0 11 s5) ml_X9_78 (Nat.le_of_ble_eq_true rfl) (Nat.le_of_ble_eq_true rfl) dX9_tales_67 (Nat.le_of_ble_eq_true rfl) rfl (fun r8 s7 => ?_)
          refine jx_if_eq (tgt := 97) h dX9_tales_70 rfl ?_ ?_
          · refine jx_iconst h dX9_tales_97 ki_0 ?_
            exact jx_iret h dX9_tales_98
          · refine jx_aload_n h dX9_tales_73 rfl 1 rfl ?_
            refine jx_get (v := .ref (Ga G 32)) h fa_X9_26 lc_0 dX9_tales_74 rfl ?_
            refine jx_get (v := .ref (Ga G 39)) h fa_X9_209 lc_32 dX9_tales_77 rfl ?_
            refine jx_iload_n h dX9_tales_80 rfl 2 rfl ?_
            refine jx_aaload h lc_39 dX9_tales_81 (fun hr9 => ?_)
            refine jx_iload_n h dX9_tales_82 rfl 0 rfl ?_
            refine jx_iaload h (isBk_r (b := 32) rfl hr9) dX9_tales_83 ?_
            refine jx_aload_n h dX9_tales_84 rfl 1 rfl ?_
            refine jx_get (v := .ref (Ga G 32)) h fa_X9_26 lc_0 dX9_tales_85 rfl ?_
            refine jx_get (v := .ref (Ga G 35)) h fa_X9_196 lc_32 dX9_tales_88 rfl ?_
            refine jx_iload_n h dX9_tales_91 rfl 2 rfl ?_
            refine jx_iaload h lc_35 dX9_tales_92 ?_
            refine jx_isub h dX9_tales_93 ?_
            refine jx_goto (tgt := 98) h dX9_tales_94 rfl ?_
            exact jx_iret h dX9_tales_98
        · refine jx_iload_n h dX9_tales_61 rfl 0 rfl ?_
          exact jx_iret h dX9_tales_62
      · refine jx_aload_n h dX9_tales_26 rfl 0 rfl ?_
        refine jx_get (v := .ref (Ga G 101)) h fa_X9_53 lc_0 dX9_tales_27 rfl ?_
        refine jx_iload_n h dX9_tales_30 rfl 1 rfl ?_
        refine jx_aload_n h dX9_tales_31 rfl 0 rfl ?_
        refine jx_get (v := .ref (Ga G 32)) h fa_X9_26 lc_0 dX9_tales_32 rfl ?_
        refine jx_aload_n h dX9_tales_35 rfl 0 rfl ?_
        refine jx_get (v := .ref (Ga G 3)) h fa_X9_19 lc_0 dX9_tales_36 rfl ?_
        refine jx_aload_n h dX9_tales_39 rfl 0 rfl ?_
        refine jx_get (v := .ref (Ga G (ix (gi s3 0 10)))) h fa_X9_74 lc_0 dX9_tales_40 rfl ?_
        refine jx_ltr (fun q10 => ?_)
        refine jx_ckc h (fun hq10 => ?_)
        refine jx_callVi [] h lc_101 (c_X2_falseTales hG N x1 32 rfl q10 hq10 s3) ml_X9_259 (Nat.le_of_ble_eq_true rfl) (Nat.le_of_ble_eq_true rfl) dX9_tales_43 (Nat.le_of_ble_eq_true rfl) rfl (fun r12 s11 => ?_)
        exact jx_iret h dX9_tales_46
    · refine jx_iconst h dX9_tales_20 ki_m1 ?_
      exact jx_iret h dX9_tales_21
