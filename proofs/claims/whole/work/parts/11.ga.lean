theorem Ct_none {G : Gx} {y : MethodName} {cd : ByteArray} {nL : Nat} {rt : Option FieldType} {d : Nat} {av : List Value} {R : Type} {tv : R → Option Value} {σ : Mem} : Ct G y cd nL rt d av tv σ none := fun _ _ q => by cases q
noncomputable def st_X2_follow_37 (N : Nat) (g0 : Int32 → Int32 → Int32 → Int32 → Nat → Nat → Mem → Option (Unit × Mem)) (x1 : Int32) (x2 : Int32) (x3 : Int32) (x5 : Nat) (x7 : Nat) (x8 : Int32)  (rec : Int32 → Mem → Option (Unit × Mem)) (x9 : Int32) (s0 : Mem) : Option (Unit × Mem) :=
  if 12 ≤ x9 then (some ((), s0)) else chk x2 12 (chk x9 12 (lt (gi s0 (4 + 1 + ix x2) (ix x9)) (fun v6 => if v6 ≤ 0 then (lt (x9 + 1) (fun x9_7 => rec x9_7 s0)) else bd (f_X9_hasBit N x8 x9 s0) (fun r9 s8 => if r9 = 0 then (bd (f_X0_tellOn N x5 x1 x9 x3 v6 x7 s8) (fun r12 s11 => bd (g0 x1 x9 r12 x8 x5 x7 s11) (fun _ s13 => lt (x9 + 1) (fun x9_15 => rec x9_15 s13)))) else lt (x9 + 1) (fun x9_10 => rec x9_10 s8)))))
noncomputable def f1_X2_follow (N : Nat) (g0 : Int32 → Int32 → Int32 → Int32 → Nat → Nat → Mem → Option (Unit × Mem)) (x1 : Int32) (x2 : Int32) (x3 : Int32) (x4 : Int32) (x5 : Nat) (x7 : Nat) (s : Mem) : Option (Unit × Mem) :=
  chk x2 12 (chk x2 12 (lt (si s 110 (ix x2) (imax (gi s 110 (ix x2)) x3)) (fun s1 => lt (x4 ||| ((1 : Int32) <<< (x2 &&& 31))) (fun v2 => bd (f_J6_bitCount_0f7a4 N x4 s1) (fun r4 s3 => if r4 < 4 then (itr (fun _ _ => none) (st_X2_follow_37 N g0 x1 x2 x3 x5 x7 v2) N 0 s3) else some ((), s3))))))
set_option maxRecDepth 20000 in
theorem w_X2_follow_37 {G : Gx} (hG : Gok G ∧ IsG G layC fsoC) {q : Nat} {P : Option (Unit × Mem) → Nat → List (Nat × Value) → List Value → Mem → Prop} (h : Jk G layC fsoC RX2 cX2_follow 11 none (4 + (q + 1)) tvV P) (N : Nat) (g0 : Int32 → Int32 → Int32 → Int32 → Nat → Nat → Mem → Option (Unit × Mem)) (hg0 : ∀ (x1 : Int32) (x2 : Int32) (x3 : Int32) (x4 : Int32) (x5 : Nat) (hx5 : isBk x5 = true) (x7 : Nat) (hx7 : isLw x7 = true) (s : Mem), Ct G yX2_follow cX2_follow 11 none (4 + q) [.ref (Ga G 101), .int x1, .int x2, .int x3, .int x4, .ref (Ga G x5), .ref (Ga G 3), .ref (Ga G x7)] tvV s (g0 x1 x2 x3 x4 x5 x7 s)) (x1 : Int32) (x2 : Int32) (x3 : Int32) (x5 : Nat) (x7 : Nat) (x8 : Int32) (hx5 : isBk x5 = true) (hx7 : isLw x7 = true) {rec : Int32 → Mem → Option (Unit × Mem)} (ih : ∀ (x9 : Int32) (s : Mem), P (rec x9 s) 37 [(0, .ref (Ga G 101)), (1, .int x1), (2, .int x2), (3, .int x3), (5, .ref (Ga G x5)), (6, .ref (Ga G 3)), (7, .ref (Ga G x7)), (8, .int x8), (9, .int x9)] [] s) : ∀ (x9 : Int32) (s : Mem), P (st_X2_follow_37 N g0 x1 x2 x3 x5 x7 x8 rec x9 s) 37 [(0, .ref (Ga G 101)), (1, .int x1), (2, .int x2), (3, .int x3), (5, .ref (Ga G x5)), (6, .ref (Ga G 3)), (7, .ref (Ga G x7)), (8, .int x8), (9, .int x9)] [] s := by
  intro x9 s0
  unfold st_X2_follow_37
  refine jx_iload h dX2_follow_37 8 rfl ?_
  refine jx_bipush h dX2_follow_39 kb_12 ?_
  refine jx_icmp_ge (tgt := 105) h dX2_follow_41 rfl ?_ ?_
  · exact jx_vret h dX2_follow_105
  · refine jx_aload h dX2_follow_44 5 rfl ?_
    refine jx_get (v := .ref (Ga G 4)) h fa_X2_95 lc_3 dX2_follow_46 rfl ?_
    refine jx_iload_n h dX2_follow_49 rfl 2 rfl ?_
    refine jx_aaload h lc_4 dX2_follow_50 (fun hr5 => ?_)
    refine jx_iload h dX2_follow_51 8 rfl ?_
    refine jx_iaload h (lr_4 hr5) dX2_follow_53 ?_
    refine jx_lti (fun v6 => ?_)
    refine jx_istore (lv' := [(10, .int v6), (0, .ref (Ga G 101)), (1, .int x1), (2, .int x2), (3, .int x3), (5, .ref (Ga G x5)), (6, .ref (Ga G 3)), (7, .ref (Ga G x7)), (8, .int x8), (9, .int x9)]) h dX2_follow_54 (Nat.le_of_ble_eq_true rfl) rfl ?_
    refine jx_iload h dX2_follow_56 0 rfl ?_
    refine jx_if_le (tgt := 99) h dX2_follow_58 rfl ?_ ?_
    · refine jx_iincl (L := fun w => [(9, .int w), (10, .int v6), (0, .ref (Ga G 101)), (1, .int x1), (2, .int x2), (3, .int x3), (5, .ref (Ga G x5)), (6, .ref (Ga G 3)), (7, .ref (Ga G x7)), (8, .int x8)]) h dX2_follow_99 9 rfl (kn_1 _) (Nat.le_of_ble_eq_true rfl) (fun _ => rfl) (fun x9_7 => ?_)
      refine jx_goto (tgt := 37) h dX2_follow_102 rfl ?_
      exact jx_subk [2, 3, 4, 5, 6, 7, 8, 9, 0] h (ih x9_7 s0) rfl
    · refine jx_iload h dX2_follow_61 8 rfl ?_
      refine jx_iload h dX2_follow_63 9 rfl ?_
      refine jx_callSi [] h (c_X9_hasBit hG N x8 x9 s0) ml_X2_31 (by omega) (Nat.le_of_ble_eq_true rfl) dX2_follow_65 (Nat.le_of_ble_eq_true rfl) rfl (fun r9 s8 => ?_)
      refine jx_if_ne (tgt := 99) h dX2_follow_68 rfl ?_ ?_
      · refine jx_iincl (L := fun w => [(9, .int w), (10, .int v6), (0, .ref (Ga G 101)), (1, .int x1), (2, .int x2), (3, .int x3), (5, .ref (Ga G x5)), (6, .ref (Ga G 3)), (7, .ref (Ga G x7)), (8, .int x8)]) h dX2_follow_99 9 rfl (kn_1 _) (Nat.le_of_ble_eq_true rfl) (fun _ => rfl) (fun x9_10 => ?_)
        refine jx_goto (tgt := 37) h dX2_follow_102 rfl ?_
        exact jx_subk [2, 3, 4, 5, 6, 7, 8, 9, 0] h (ih x9_10 s8) rfl
      · refine jx_aload_n h dX2_follow_71 rfl 1 rfl ?_
        refine jx_iload_n h dX2_follow_72 rfl 2 rfl ?_
        refine jx_iload h dX2_follow_73 9 rfl ?_
        refine jx_aload h dX2_follow_75 5 rfl ?_
        refine jx_iload_n h dX2_follow_77 rfl 2 rfl ?_
        refine jx_iload h dX2_follow_78 9 rfl ?_
        refine jx_iload_n h dX2_follow_80 rfl 4 rfl ?_
        refine jx_iload h dX2_follow_81 0 rfl ?_
        refine jx_aload h dX2_follow_83 7 rfl ?_
        refine jx_callVi [.int x9, .int x1, .ref (Ga G 101)] h (isBk_o hx5) (c_X0_tellOn hG N x5 hx5 x1 x9 x3 v6 x7 hx7 s8) ml_X2_100 (by omega) (Nat.le_of_ble_eq_true rfl) dX2_follow_85 (Nat.le_of_ble_eq_true rfl) rfl (fun r12 s11 => ?_)
        refine jx_iload h dX2_follow_88 8 rfl ?_
        refine jx_aload h dX2_follow_90 5 rfl ?_
        refine jx_aload h dX2_follow_92 6 rfl ?_
        refine jx_aload h dX2_follow_94 7 rfl ?_
        refine jx_callVv [] h lc_101 (hg0 x1 x9 r12 x8 x5 hx5 x7 hx7 s11) ml_X2_88 (by omega) (Nat.le_of_ble_eq_true rfl) dX2_follow_96 (Nat.le_of_ble_eq_true rfl) rfl (fun s13 => ?_)
        refine jx_iincl (L := fun w => [(9, .int w), (10, .int v6), (0, .ref (Ga G 101)), (1, .int x1), (2, .int x2), (3, .int x3), (5, .ref (Ga G x5)), (6, .ref (Ga G 3)), (7, .ref (Ga G x7)), (8, .int x8)]) h dX2_follow_99 9 rfl (kn_1 _) (Nat.le_of_ble_eq_true rfl) (fun _ => rfl) (fun x9_15 => ?_)
        refine jx_goto (tgt := 37) h dX2_follow_102 rfl ?_
        exact jx_subk [2, 3, 4, 5, 6, 7, 8, 9, 0] h (ih x9_15 s13) rfl
set_option maxRecDepth 20000 in
theorem c1_X2_follow {G : Gx} (hG : Gok G ∧ IsG G layC fsoC) {q : Nat} (N : Nat) (g0 : Int32 → Int32 → Int32 → Int32 → Nat → Nat → Mem → Option (Unit × Mem)) (hg0 : ∀ (x1 : Int32) (x2 : Int32) (x3 : Int32) (x4 : Int32) (x5 : Nat) (hx5 : isBk x5 = true) (x7 : Nat) (hx7 : isLw x7 = true) (s : Mem), Ct G yX2_follow cX2_follow 11 none (4 + q) [.ref (Ga G 101), .int x1, .int x2, .int x3, .int x4, .ref (Ga G x5), .ref (Ga G 3), .ref (Ga G x7)] tvV s (g0 x1 x2 x3 x4 x5 x7 s)) (x1 : Int32) (x2 : Int32) (x3 : Int32) (x4 : Int32) (x5 : Nat) (hx5 : isBk x5 = true) (x7 : Nat) (hx7 : isLw x7 = true) (s : Mem) : Ct G yX2_follow cX2_follow 11 none (4 + (q + 1)) [.ref (Ga G 101), .int x1, .int x2, .int x3, .int x4, .ref (Ga G x5), .ref (Ga G 3), .ref (Ga G x7)] tvV s (f1_X2_follow N g0 x1 x2 x3 x4 x5 x7 s) := by
  refine Ct.of hG (by decide) (Nat.le_of_ble_eq_true rfl) (fun P h => ?_)
  show P _ 0 [(0, .ref (Ga G 101)), (1, .int x1), (2, .int x2), (3, .int x3), (4, .int x4), (5, .ref (Ga G x5)), (6, .ref (Ga G 3)), (7, .ref (Ga G x7))] [] s
  unfold f1_X2_follow
  refine jx_aload_n h dX2_follow_0 rfl 0 rfl ?_
  refine jx_get (v := .ref (Ga G 110)) h fa_X2_23 lc_101 dX2_follow_1 rfl ?_
  refine jx_iload_n h dX2_follow_4 rfl 2 rfl ?_
  refine jx_aload_n h dX2_follow_5 rfl 0 rfl ?_
  refine jx_get (v := .ref (Ga G 110)) h fa_X2_23 lc_101 dX2_follow_6 rfl ?_
  refine jx_iload_n h dX2_follow_9 rfl 2 rfl ?_
  refine jx_iaload h lc_110 dX2_follow_10 ?_
  refine jx_iload_n h dX2_follow_11 rfl 3 rfl ?_
  refine jx_mmax h mm_X2_71 (by omega) (Nat.le_of_ble_eq_true rfl) dX2_follow_12 ?_
  refine jx_iastore h lc_110 dX2_follow_15 (fun s1 => ?_)
  refine jx_iload h dX2_follow_16 4 rfl ?_
  refine jx_iconst h dX2_follow_18 ki_1 ?_
  refine jx_iload_n h dX2_follow_19 rfl 2 rfl ?_
  refine jx_ishl h dX2_follow_20 ?_
  refine jx_ior h dX2_follow_21 ?_
  refine jx_lti (fun v2 => ?_)
  refine jx_istore (lv' := [(8, .int v2), (0, .ref (Ga G 101)), (1, .int x1), (2, .int x2), (3, .int x3), (4, .int x4), (5, .ref (Ga G x5)), (6, .ref (Ga G 3)), (7, .ref (Ga G x7))]) h dX2_follow_22 (Nat.le_of_ble_eq_true rfl) rfl ?_
  refine jx_iload h dX2_follow_24 5 rfl ?_
  refine jx_callSi [] h (c_J6_bitCount_0f7a4 hG N x4 s1) ml_X2_51 (by omega) (Nat.le_of_ble_eq_true rfl) dX2_follow_26 (Nat.le_of_ble_eq_true rfl) rfl (fun r4 s3 => ?_)
  refine jx_iconst h dX2_follow_29 ki_4 ?_
  refine jx_icmp_lt (tgt := 34) h dX2_follow_30 rfl ?_ ?_
  · refine jx_iconst h dX2_follow_34 ki_0 ?_
    refine jx_istore (lv' := [(9, .int 0), (8, .int v2), (0, .ref (Ga G 101)), (1, .int x1), (2, .int x2), (3, .int x3), (4, .int x4), (5, .ref (Ga G x5)), (6, .ref (Ga G 3)), (7, .ref (Ga G x7))]) h dX2_follow_35 (Nat.le_of_ble_eq_true rfl) rfl ?_
    refine jx_subk [2, 3, 4, 5, 7, 8, 9, 1, 0] h (itr_ind (Q := (fun (f : Int32 → Mem → Option (Unit × Mem)) => ∀ (x9 : Int32) (s : Mem), P (f x9 s) 37 [(0, .ref (Ga G 101)), (1, .int x1), (2, .int x2), (3, .int x3), (5, .ref (Ga G x5)), (6, .ref (Ga G 3)), (7, .ref (Ga G x7)), (8, .int v2), (9, .int x9)] [] s)) (fun _ _ => jx_none h) (fun r37 ih37 => ?_) N 0 s3) rfl
    refine w_X2_follow_37 hG h N g0 hg0 x1 x2 x3 x5 x7 v2 hx5 hx7  ih37
  · exact jx_vret h dX2_follow_33
noncomputable def gr_X2_follow (N : Nat) : Nat → (Int32 → Int32 → Int32 → Int32 → Nat → Nat → Mem → Option (Unit × Mem)) := itr (fun _ _ _ _ _ _ _ => none) (fun r => f1_X2_follow N r)
noncomputable def f_X2_follow (N : Nat) (n : Nat) (x1 : Int32) (x2 : Int32) (x3 : Int32) (x4 : Int32) (x5 : Nat) (x7 : Nat) (s : Mem) : Option (Unit × Mem) := (gr_X2_follow N n) x1 x2 x3 x4 x5 x7 s
theorem cg_X2_follow {G : Gx} (hG : Gok G ∧ IsG G layC fsoC) (N : Nat) : ∀ n : Nat, (fun (n : Nat) (r : (Int32 → Int32 → Int32 → Int32 → Nat → Nat → Mem → Option (Unit × Mem))) => (∀ (x1 : Int32) (x2 : Int32) (x3 : Int32) (x4 : Int32) (x5 : Nat) (hx5 : isBk x5 = true) (x7 : Nat) (hx7 : isLw x7 = true) (s : Mem), Ct G yX2_follow cX2_follow 11 none (4 + n) [.ref (Ga G 101), .int x1, .int x2, .int x3, .int x4, .ref (Ga G x5), .ref (Ga G 3), .ref (Ga G x7)] tvV s (r x1 x2 x3 x4 x5 x7 s))) n (gr_X2_follow N n) := by
  intro n
  unfold gr_X2_follow
  refine itr_indn (Q := fun (n : Nat) (r : (Int32 → Int32 → Int32 → Int32 → Nat → Nat → Mem → Option (Unit × Mem))) => (∀ (x1 : Int32) (x2 : Int32) (x3 : Int32) (x4 : Int32) (x5 : Nat) (hx5 : isBk x5 = true) (x7 : Nat) (hx7 : isLw x7 = true) (s : Mem), Ct G yX2_follow cX2_follow 11 none (4 + n) [.ref (Ga G 101), .int x1, .int x2, .int x3, .int x4, .ref (Ga G x5), .ref (Ga G 3), .ref (Ga G x7)] tvV s (r x1 x2 x3 x4 x5 x7 s))) ?_ ?_ n
  · exact fun x1 x2 x3 x4 x5 hx5 x7 hx7 s => Ct_none
  · intro n r ih
    exact fun x1 x2 x3 x4 x5 hx5 x7 hx7 s => c1_X2_follow hG N r ih x1 x2 x3 x4 x5 hx5 x7 hx7 s
theorem c_X2_follow {G : Gx} (hG : Gok G ∧ IsG G layC fsoC) (N n : Nat) (x1 : Int32) (x2 : Int32) (x3 : Int32) (x4 : Int32) (x5 : Nat) (hx5 : isBk x5 = true) (x7 : Nat) (hx7 : isLw x7 = true) (s : Mem) : Ct G yX2_follow cX2_follow 11 none (4 + n) [.ref (Ga G 101), .int x1, .int x2, .int x3, .int x4, .ref (Ga G x5), .ref (Ga G 3), .ref (Ga G x7)] tvV s (f_X2_follow N n x1 x2 x3 x4 x5 x7 s) := (cg_X2_follow hG N n) x1 x2 x3 x4 x5 hx5 x7 hx7 s
noncomputable def st_X2_falseTales_3 (N : Nat) (x1 : Int32) (x2 : Nat) (x4 : Nat) (k24 : Mem → Option (Int32 × Mem)) (rec : Int32 → Mem → Option (Int32 × Mem)) (x5 : Int32) (s0 : Mem) : Option (Int32 × Mem) :=
  if 12 ≤ x5 then (k24 s0) else chk x5 12 (lt (si s0 110 (ix x5) (-1)) (fun s1 => lt (x5 + 1) (fun x5_2 => rec x5_2 s1)))
noncomputable def st_X2_falseTales_52 (N : Nat) (x1 : Int32) (x2 : Nat)  (rec : Int32 → Int32 → Mem → Option (Int32 × Mem)) (x5 : Int32) (x6 : Int32) (s0 : Mem) : Option (Int32 × Mem) :=
  if 12 ≤ x6 then (some (x5, s0)) else chk x1 6 (chk x6 12 (lt (gi s0 ((x2 + 7) + 1 + ix x1) (ix x6)) (fun v7 => chk x1 6 (bd (f_X9_hasBit N (gi s0 (x2 + 5) (ix x1)) x6 s0) (fun r9 s8 => if r9 = 0 then (lt (x6 + 1) (fun x6_10 => rec x5 x6_10 s8)) else chk x1 6 (chk x6 12 (bd (f_X9_isWithin N v7 (gi s8 (x2 + 3) (ix x1)) (gi s8 110 (ix x6)) s8) (fun r12 s11 => if r12 = 0 then (lt (x5 ||| ((1 : Int32) <<< (x6 &&& 31))) (fun v14 => lt (x6 + 1) (fun x6_15 => rec v14 x6_15 s11))) else lt (x6 + 1) (fun x6_13 => rec x5 x6_13 s11)))))))))
noncomputable def f_X2_falseTales (N : Nat) (x1 : Int32) (x2 : Nat) (x4 : Nat) (s : Mem) : Option (Int32 × Mem) :=
  itr (fun _ _ => none) (st_X2_falseTales_3 N x1 x2 x4 (fun  (s3 : Mem) => chk x1 6 (chk x1 6 (bd (f_X2_follow N 100 x1 (gi s3 (x2 + 2) (ix x1)) (gi s3 (x2 + 3) (ix x1)) 0 x2 x4 s3) (fun _ s4 => itr (fun _ _ _ => none) (st_X2_falseTales_52 N x1 x2) N 0 0 s4))))) N 0 s
set_option maxRecDepth 20000 in
theorem w_X2_falseTales_3 {G : Gx} (hG : Gok G ∧ IsG G layC fsoC) {P : Option (Int32 × Mem) → Nat → List (Nat × Value) → List Value → Mem → Prop} (h : Jk G layC fsoC RX2 cX2_falseTales 8 (some .int) 105 tvI P) (N : Nat) (x1 : Int32) (x2 : Nat) (x4 : Nat) (hx2 : isBk x2 = true) (hx4 : isLw x4 = true) {k24 : Mem → Option (Int32 × Mem)} (hk24 : ∀  (s : Mem), P (k24 s) 24 [(0, .ref (Ga G 101)), (1, .int x1), (2, .ref (Ga G x2)), (3, .ref (Ga G 3)), (4, .ref (Ga G x4))] [] s) {rec : Int32 → Mem → Option (Int32 × Mem)} (ih : ∀ (x5 : Int32) (s : Mem), P (rec x5 s) 3 [(0, .ref (Ga G 101)), (1, .int x1), (2, .ref (Ga G x2)), (3, .ref (Ga G 3)), (4, .ref (Ga G x4)), (5, .int x5)] [] s) : ∀ (x5 : Int32) (s : Mem), P (st_X2_falseTales_3 N x1 x2 x4 k24 rec x5 s) 3 [(0, .ref (Ga G 101)), (1, .int x1), (2, .ref (Ga G x2)), (3, .ref (Ga G 3)), (4, .ref (Ga G x4)), (5, .int x5)] [] s := by
  intro x5 s0
  unfold st_X2_falseTales_3
  refine jx_iload h dX2_falseTales_3 5 rfl ?_
  refine jx_bipush h dX2_falseTales_5 kb_12 ?_
  refine jx_icmp_ge (tgt := 24) h dX2_falseTales_7 rfl ?_ ?_
  · exact jx_subk [0, 1, 2, 3, 4] h (hk24 s0) rfl
  · refine jx_aload_n h dX2_falseTales_10 rfl 0 rfl ?_
    refine jx_get (v := .ref (Ga G 110)) h fa_X2_23 lc_101 dX2_falseTales_11 rfl ?_
    refine jx_iload h dX2_falseTales_14 5 rfl ?_
    refine jx_iconst h dX2_falseTales_16 ki_m1 ?_
    refine jx_iastore h lc_110 dX2_falseTales_17 (fun s1 => ?_)
    refine jx_iincl (L := fun w => [(5, .int w), (0, .ref (Ga G 101)), (1, .int x1), (2, .ref (Ga G x2)), (3, .ref (Ga G 3)), (4, .ref (Ga G x4))]) h dX2_falseTales_18 5 rfl (kn_1 _) (Nat.le_of_ble_eq_true rfl) (fun _ => rfl) (fun x5_2 => ?_)
    refine jx_goto (tgt := 3) h dX2_falseTales_21 rfl ?_
    exact jx_subk [1, 2, 3, 4, 5, 0] h (ih x5_2 s1) rfl
set_option maxRecDepth 20000 in
theorem w_X2_falseTales_52 {G : Gx} (hG : Gok G ∧ IsG G layC fsoC) {P : Option (Int32 × Mem) → Nat → List (Nat × Value) → List Value → Mem → Prop} (h : Jk G layC fsoC RX2 cX2_falseTales 8 (some .int) 105 tvI P) (N : Nat) (x1 : Int32) (x2 : Nat) (hx2 : isBk x2 = true) {rec : Int32 → Int32 → Mem → Option (Int32 × Mem)} (ih : ∀ (x5 : Int32) (x6 : Int32) (s : Mem), P (rec x5 x6 s) 52 [(0, .ref (Ga G 101)), (1, .int x1), (2, .ref (Ga G x2)), (5, .int x5), (6, .int x6)] [] s) : ∀ (x5 : Int32) (x6 : Int32) (s : Mem), P (st_X2_falseTales_52 N x1 x2 rec x5 x6 s) 52 [(0, .ref (Ga G 101)), (1, .int x1), (2, .ref (Ga G x2)), (5, .int x5), (6, .int x6)] [] s := by
  intro x5 x6 s0
  unfold st_X2_falseTales_52
  refine jx_iload h dX2_falseTales_52 4 rfl ?_
  refine jx_bipush h dX2_falseTales_54 kb_12 ?_
  refine jx_icmp_ge (tgt := 120) h dX2_falseTales_56 rfl ?_ ?_
  · refine jx_iload h dX2_falseTales_120 3 rfl ?_
    exact jx_iret h dX2_falseTales_122
  · refine jx_aload_n h dX2_falseTales_59 rfl 2 rfl ?_
    refine jx_get (v := .ref (Ga G (x2 + 7))) h fa_X2_92 (isBk_o hx2) dX2_falseTales_60 rfl ?_
    refine jx_iload_n h dX2_falseTales_63 rfl 1 rfl ?_
    refine jx_aaload h (isBk_7 hx2) dX2_falseTales_64 (fun hr6 => ?_)
    refine jx_iload h dX2_falseTales_65 4 rfl ?_
    refine jx_iaload h (isBk_r hx2 hr6) dX2_falseTales_67 ?_
    refine jx_lti (fun v7 => ?_)
    refine jx_istore (lv' := [(7, .int v7), (0, .ref (Ga G 101)), (1, .int x1), (2, .ref (Ga G x2)), (5, .int x5), (6, .int x6)]) h dX2_falseTales_68 (Nat.le_of_ble_eq_true rfl) rfl ?_
    refine jx_aload_n h dX2_falseTales_70 rfl 3 rfl ?_
    refine jx_get (v := .ref (Ga G (x2 + 5))) h fa_X2_26 (isBk_o hx2) dX2_falseTales_71 rfl ?_
    refine jx_iload_n h dX2_falseTales_74 rfl 2 rfl ?_
    refine jx_iaload h (isBk_5 hx2) dX2_falseTales_75 ?_
    refine jx_iload h dX2_falseTales_76 5 rfl ?_
    refine jx_callSi [] h (c_X9_hasBit hG N (gi s0 (x2 + 5) (ix x1)) x6 s0) ml_X2_31 (Nat.le_of_ble_eq_true rfl) (Nat.le_of_ble_eq_true rfl) dX2_falseTales_78 (Nat.le_of_ble_eq_true rfl) rfl (fun r9 s8 => ?_)
    refine jx_if_eq (tgt := 114) h dX2_falseTales_81 rfl ?_ ?_
    · refine jx_iincl (L := fun w => [(6, .int w), (7, .int v7), (0, .ref (Ga G 101)), (1, .int x1), (2, .ref (Ga G x2)), (5, .int x5)]) h dX2_falseTales_114 5 rfl (kn_1 _) (Nat.le_of_ble_eq_true rfl) (fun _ => rfl) (fun x6_10 => ?_)
      refine jx_goto (tgt := 52) h dX2_falseTales_117 rfl ?_
      exact jx_subk [2, 3, 4, 5, 0] h (ih x5 x6_10 s8) rfl
    · refine jx_iload h dX2_falseTales_84 0 rfl ?_
      refine jx_aload_n h dX2_falseTales_86 rfl 3 rfl ?_
      refine jx_get (v := .ref (Ga G (x2 + 3))) h fa_X2_85 (isBk_o hx2) dX2_falseTales_87 rfl ?_
      refine jx_iload_n h dX2_falseTales_90 rfl 2 rfl ?_
      refine jx_iaload h (isBk_3 hx2) dX2_falseTales_91 ?_
      refine jx_aload_n h dX2_falseTales_92 rfl 1 rfl ?_
      refine jx_get (v := .ref (Ga G 110)) h fa_X2_23 lc_101 dX2_falseTales_93 rfl ?_
      refine jx_iload h dX2_falseTales_96 5 rfl ?_
      refine jx_iaload h lc_110 dX2_falseTales_98 ?_
      refine jx_callSi [] h (c_X9_isWithin hG N v7 (gi s8 (x2 + 3) (ix x1)) (gi s8 110 (ix x6)) s8) ml_X2_47 (Nat.le_of_ble_eq_true rfl) (Nat.le_of_ble_eq_true rfl) dX2_falseTales_99 (Nat.le_of_ble_eq_true rfl) rfl (fun r12 s11 => ?_)
      refine jx_if_ne (tgt := 114) h dX2_falseTales_102 rfl ?_ ?_
      · refine jx_iincl (L := fun w => [(6, .int w), (7, .int v7), (0, .ref (Ga G 101)), (1, .int x1), (2, .ref (Ga G x2)), (5, .int x5)]) h dX2_falseTales_114 5 rfl (kn_1 _) (Nat.le_of_ble_eq_true rfl) (fun _ => rfl) (fun x6_13 => ?_)
        refine jx_goto (tgt := 52) h dX2_falseTales_117 rfl ?_
        exact jx_subk [2, 3, 4, 5, 0] h (ih x5 x6_13 s11) rfl
      · refine jx_iload h dX2_falseTales_105 4 rfl ?_
        refine jx_iconst h dX2_falseTales_107 ki_1 ?_
        refine jx_iload h dX2_falseTales_108 5 rfl ?_
        refine jx_ishl h dX2_falseTales_110 ?_
        refine jx_ior h dX2_falseTales_111 ?_
        refine jx_lti (fun v14 => ?_)
        refine jx_istore (lv' := [(5, .int v14), (7, .int v7), (0, .ref (Ga G 101)), (1, .int x1), (2, .ref (Ga G x2)), (6, .int x6)]) h dX2_falseTales_112 (Nat.le_of_ble_eq_true rfl) rfl ?_
        refine jx_iincl (L := fun w => [(6, .int w), (5, .int v14), (7, .int v7), (0, .ref (Ga G 101)), (1, .int x1), (2, .ref (Ga G x2))]) h dX2_falseTales_114 5 rfl (kn_1 _) (Nat.le_of_ble_eq_true rfl) (fun _ => rfl) (fun x6_15 => ?_)
        refine jx_goto (tgt := 52) h dX2_falseTales_117 rfl ?_
        exact jx_subk [3, 4, 5, 1, 0] h (ih v14 x6_15 s11) rfl
set_option maxRecDepth 20000 in
theorem c_X2_falseTales {G : Gx} (hG : Gok G ∧ IsG G layC fsoC) (N : Nat) (x1 : Int32) (x2 : Nat) (hx2 : isBk x2 = true) (x4 : Nat) (hx4 : isLw x4 = true) (s : Mem) : Ct G yX2_falseTales cX2_falseTales 8 (some .int) 105 [.ref (Ga G 101), .int x1, .ref (Ga G x2), .ref (Ga G 3), .ref (Ga G x4)] tvI s (f_X2_falseTales N x1 x2 x4 s) := by
  refine Ct.of hG (by decide) (Nat.le_of_ble_eq_true rfl) (fun P h => ?_)
  show P _ 0 [(0, .ref (Ga G 101)), (1, .int x1), (2, .ref (Ga G x2)), (3, .ref (Ga G 3)), (4, .ref (Ga G x4))] [] s
  unfold f_X2_falseTales
  refine jx_iconst h dX2_falseTales_0 ki_0 ?_
  refine jx_istore (lv' := [(5, .int 0), (0, .ref (Ga G 101)), (1, .int x1), (2, .ref (Ga G x2)), (3, .ref (Ga G 3)), (4, .ref (Ga G x4))]) h dX2_falseTales_1 (Nat.le_of_ble_eq_true rfl) rfl ?_
  refine jx_subk [1, 2, 3, 4, 5, 0] h (itr_ind (Q := (fun (f : Int32 → Mem → Option (Int32 × Mem)) => ∀ (x5 : Int32) (s : Mem), P (f x5 s) 3 [(0, .ref (Ga G 101)), (1, .int x1), (2, .ref (Ga G x2)), (3, .ref (Ga G 3)), (4, .ref (Ga G x4)), (5, .int x5)] [] s)) (fun _ _ => jx_none h) (fun r3 ih3 => ?_) N 0 s) rfl
  refine w_X2_falseTales_3 hG h N x1 x2 x4 hx2 hx4 ?_ ih3
  intro s3
  refine jx_aload_n h dX2_falseTales_24 rfl 0 rfl ?_
  refine jx_iload_n h dX2_falseTales_25 rfl 1 rfl ?_
  refine jx_aload_n h dX2_falseTales_26 rfl 2 rfl ?_
  refine jx_get (v := .ref (Ga G (x2 + 2))) h fa_X2_82 (isBk_o hx2) dX2_falseTales_27 rfl ?_
  refine jx_iload_n h dX2_falseTales_30 rfl 1 rfl ?_
  refine jx_iaload h (isBk_2 hx2) dX2_falseTales_31 ?_
  refine jx_aload_n h dX2_falseTales_32 rfl 2 rfl ?_
  refine jx_get (v := .ref (Ga G (x2 + 3))) h fa_X2_85 (isBk_o hx2) dX2_falseTales_33 rfl ?_
  refine jx_iload_n h dX2_falseTales_36 rfl 1 rfl ?_
  refine jx_iaload h (isBk_3 hx2) dX2_falseTales_37 ?_
  refine jx_iconst h dX2_falseTales_38 ki_0 ?_
  refine jx_aload_n h dX2_falseTales_39 rfl 2 rfl ?_
  refine jx_aload_n h dX2_falseTales_40 rfl 3 rfl ?_
  refine jx_aload h dX2_falseTales_41 4 rfl ?_
  refine jx_callVv [] h lc_101 (c_X2_follow hG N 100 x1 (gi s3 (x2 + 2) (ix x1)) (gi s3 (x2 + 3) (ix x1)) 0 x2 hx2 x4 hx4 s3) ml_X2_88 (Nat.le_of_ble_eq_true rfl) (Nat.le_of_ble_eq_true rfl) dX2_falseTales_43 (Nat.le_of_ble_eq_true rfl) rfl (fun s4 => ?_)
  refine jx_iconst h dX2_falseTales_46 ki_0 ?_
  refine jx_istore (lv' := [(5, .int 0), (0, .ref (Ga G 101)), (1, .int x1), (2, .ref (Ga G x2)), (3, .ref (Ga G 3)), (4, .ref (Ga G x4))]) h dX2_falseTales_47 (Nat.le_of_ble_eq_true rfl) rfl ?_
  refine jx_iconst h dX2_falseTales_49 ki_0 ?_
  refine jx_istore (lv' := [(6, .int 0), (5, .int 0), (0, .ref (Ga G 101)), (1, .int x1), (2, .ref (Ga G x2)), (3, .ref (Ga G 3)), (4, .ref (Ga G x4))]) h dX2_falseTales_50 (Nat.le_of_ble_eq_true rfl) rfl ?_
  refine jx_subk [2, 3, 4, 1, 0] h (itr_ind (Q := (fun (f : Int32 → Int32 → Mem → Option (Int32 × Mem)) => ∀ (x5 : Int32) (x6 : Int32) (s : Mem), P (f x5 x6 s) 52 [(0, .ref (Ga G 101)), (1, .int x1), (2, .ref (Ga G x2)), (5, .int x5), (6, .int x6)] [] s)) (fun _ _ _ => jx_none h) (fun r52 ih52 => ?_) N 0 0 s4) rfl
  refine w_X2_falseTales_52 hG h N x1 x2 hx2  ih52
noncomputable def f_X9_tales (N : Nat) (x1 : Int32) (x2 : Int32) (s : Mem) : Option (Int32 × Mem) :=
  bd (f_X0_isTold N 32 x1 s) (fun r2 s1 => if r2 = 0 then (some ((-1), s1)) else bd (f_X9_isWithin N x2 0 2 s1) (fun r4 s3 => if r4 = 0 then (some ((-1), s3)) else if x2 = 0 then (lt (ix (gi s3 0 10)) (fun q10 => ckc (isLw q10) (bd (f_X2_falseTales N x1 32 q10 s3) (fun r12 s11 => some (r12, s11))))) else bd (f_X0_largestTale N 32 x1 s3) (fun r6 s5 => if x2 = 2 then (some (r6, s5)) else bd (f_X9_isWithin N r6 0 11 s5) (fun r8 s7 => if r8 = 0 then (some (0, s7)) else chk x1 6 (chk r6 12 (chk x1 6 (some ((gi s7 (39 + 1 + ix x1) (ix r6)) - (gi s7 35 (ix x1)), s7))))))))
set_option maxRecDepth 20000 in
theorem c_X9_tales {G : Gx} (hG : Gok G ∧ IsG G layC fsoC) (N : Nat) (x1 : Int32) (x2 : Int32) (s : Mem) : Ct G yX9_tales cX9_tales 4 (some .int) 106 [.ref (Ga G 0), .int x1, .int x2] tvI s (f_X9_tales N x1 x2 s) := by
  refine Ct.of hG (by decide) (Nat.le_of_ble_eq_true rfl) (fun P h => ?_)
  show P _ 0 [(0, .ref (Ga G 0)), (1, .int x1), (2, .int x2)] [] s
  unfold f_X9_tales
  refine jx_aload_n h dX9_tales_0 rfl 0 rfl ?_
  refine jx_get (v := .ref (Ga G 32)) h fa_X9_26 lc_0 dX9_tales_1 rfl ?_
  refine jx_iload_n h dX9_tales_4 rfl 1 rfl ?_
  refine jx_callVi [] h lc_32 (c_X0_isTold hG N 32 rfl x1 s) ml_X9_164 (Nat.le_of_ble_eq_true rfl) (Nat.le_of_ble_eq_true rfl) dX9_tales_5 (Nat.le_of_ble_eq_true rfl) rfl (fun r2 s1 => ?_)
  refine jx_if_eq (tgt := 20) h dX9_tales_8 rfl ?_ ?_
  · refine jx_iconst h dX9_tales_20 ki_m1 ?_
    exact jx_iret h dX9_tales_21
  · refine jx_iload_n h dX9_tales_11 rfl 2 rfl ?_
    refine jx_iconst h dX9_tales_12 ki_0 ?_
    refine jx_iconst h dX9_tales_13 ki_2 ?_
    refine jx_callSi [] h (c_X9_isWithin hG N x2 0 2 s1) ml_X9_78 (Nat.le_of_ble_eq_true rfl) (Nat.le_of_ble_eq_true rfl) dX9_tales_14 (Nat.le_of_ble_eq_true rfl) rfl (fun r4 s3 => ?_)
    refine jx_if_ne (tgt := 22) h dX9_tales_17 rfl ?_ ?_
    · refine jx_iload_n h dX9_tales_22 rfl 2 rfl ?_
      refine jx_if_ne (tgt := 47) h dX9_tales_23 rfl ?_ ?_
      · refine jx_aload_n h dX9_tales_47 rfl 0 rfl ?_
        refine jx_get (v := .ref (Ga G 32)) h fa_X9_26 lc_0 dX9_tales_48 rfl ?_
        refine jx_iload_n h dX9_tales_51 rfl 1 rfl ?_
        refine jx_callVi [] h lc_32 (c_X0_largestTale hG N 32 rfl x1 s3) ml_X9_263 (Nat.le_of_ble_eq_true rfl) (Nat.le_of_ble_eq_true rfl) dX9_tales_52 (Nat.le_of_ble_eq_true rfl) rfl (fun r6 s5 => ?_)
        refine jx_istore_n (lv' := [(3, .int r6), (0, .ref (Ga G 0)), (1, .int x1), (2, .int x2)]) h dX9_tales_55 rfl (Nat.le_of_ble_eq_true rfl) rfl ?_
        refine jx_iload_n h dX9_tales_56 rfl 3 rfl ?_
        refine jx_iconst h dX9_tales_57 ki_2 ?_
        refine jx_icmp_ne (tgt := 63) h dX9_tales_58 rfl ?_ ?_
        · refine jx_iload_n h dX9_tales_63 rfl 0 rfl ?_
          refine jx_iconst h dX9_tales_64 ki_0 ?_
          refine jx_bipush h dX9_tales_65 kb_11 ?_
          refine jx_callSi [] h (c_X9_isWithin hG N r6 0 11 s5) ml_X9_78 (Nat.le_of_ble_eq_true rfl) (Nat.le_of_ble_eq_true rfl) dX9_tales_67 (Nat.le_of_ble_eq_true rfl) rfl (fun r8 s7 => ?_)
          refine jx_if_eq (tgt := 97) h dX9_tales_70 rfl ?_ ?_
          · refine jx_iconst h dX9_tales_97 ki_0 ?_
            exact jx_iret h dX9_tales_98
          · refine jx_aload_n h dX9_tales_73 rfl 1 rfl ?_
            refine jx_get (v := .ref (Ga G 32)) h fa_X9_26 lc_0 dX9_tales_74 rfl ?_
            refine jx_get (v := .ref (Ga G 39)) h fa_X9_209 lc_32 dX9_tales_77 rfl ?_
            refine jx_iload_n h dX9_tales_80 rfl 2 rfl ?_
            refine jx_aaload h lc_39 dX9_tales_81 (fun hr9 => ?_)
            refine jx_iload_n h dX9_tales_82 rfl 0 rfl ?_
            refine jx_iaload h (isBk_r (b := 32) rfl hr9) dX9_tales_83 ?_
            refine jx_aload_n h dX9_tales_84 rfl 1 rfl ?_
            refine jx_get (v := .ref (Ga G 32)) h fa_X9_26 lc_0 dX9_tales_85 rfl ?_
            refine jx_get (v := .ref (Ga G 35)) h fa_X9_196 lc_32 dX9_tales_88 rfl ?_
            refine jx_iload_n h dX9_tales_91 rfl 2 rfl ?_
            refine jx_iaload h lc_35 dX9_tales_92 ?_
            refine jx_isub h dX9_tales_93 ?_
            refine jx_goto (tgt := 98) h dX9_tales_94 rfl ?_
            exact jx_iret h dX9_tales_98
        · refine jx_iload_n h dX9_tales_61 rfl 0 rfl ?_
          exact jx_iret h dX9_tales_62
      · refine jx_aload_n h dX9_tales_26 rfl 0 rfl ?_
        refine jx_get (v := .ref (Ga G 101)) h fa_X9_53 lc_0 dX9_tales_27 rfl ?_
        refine jx_iload_n h dX9_tales_30 rfl 1 rfl ?_
        refine jx_aload_n h dX9_tales_31 rfl 0 rfl ?_
        refine jx_get (v := .ref (Ga G 32)) h fa_X9_26 lc_0 dX9_tales_32 rfl ?_
        refine jx_aload_n h dX9_tales_35 rfl 0 rfl ?_
        refine jx_get (v := .ref (Ga G 3)) h fa_X9_19 lc_0 dX9_tales_36 rfl ?_
        refine jx_aload_n h dX9_tales_39 rfl 0 rfl ?_
        refine jx_get (v := .ref (Ga G (ix (gi s3 0 10)))) h fa_X9_74 lc_0 dX9_tales_40 rfl ?_
        refine jx_ltr (fun q10 => ?_)
        refine jx_ckc h (fun hq10 => ?_)
        refine jx_callVi [] h lc_101 (c_X2_falseTales hG N x1 32 rfl q10 hq10 s3) ml_X9_259 (Nat.le_of_ble_eq_true rfl) (Nat.le_of_ble_eq_true rfl) dX9_tales_43 (Nat.le_of_ble_eq_true rfl) rfl (fun r12 s11 => ?_)
        exact jx_iret h dX9_tales_46
    · refine jx_iconst h dX9_tales_20 ki_m1 ?_
      exact jx_iret h dX9_tales_21
