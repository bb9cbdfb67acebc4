/-! the constructors' contracts (by program) -/
theorem aw_I : Cond.arrayClass .int ∈ tbG := tw 145 (by decide +kernel) rfl
theorem aw_J : Cond.arrayClass .long ∈ tbG := tw 302 (by decide +kernel) rfl
theorem aw_B : Cond.arrayClass .byte ∈ tbG := tw 677 (by decide +kernel) rfl
theorem ow_1 : Cond.instanceMethod objectInit ∈ tbG := tw 129 (by decide +kernel) rfl
theorem ow_2 : Cond.code objectInit ⟨#[0xb1]⟩ 1 none ∈ tbG := tw 130 (by decide +kernel) rfl
theorem df_X8 : ∀ j, j < 2 → defaultValue (tyX8 j) = vp_V [.null, .int 0] j := by
  intro j hj
  rcases (show j = 0 ∨ j = 1 by omega) with rfl | rfl <;> rfl
theorem fd_X8_9 : FD RX8 9 8 0 := ⟨RX8, TX8, 2, rfl, by decide, wsin_X8, tw 137 (by decide +kernel) rfl⟩
theorem fq_X8_9 : FQ RX8 8 0 (.array .int) true := ⟨RX8, TX8, 2, tyX8, rfl, tyX8_ok, nmX8, rfl, rfl, by decide +kernel⟩
def w_X8 (cyI cyJ cyO : ClassId) (h0 : Nat) (u : (Nat → Nat → Nat)) : va_W := (h0, .inr (8, [.ref (u 1 0), .int 0])) :: ([] ++ [((u 1 0), .inl (cyI, 260, .inl (fun _ => 0)))])
set_option maxRecDepth 20000 in
theorem k_X8_init (l : Launch) (D : va_G) (cyB cyI cyJ cyO : ClassId) : Kc l D (Ety cyB cyI cyJ cyO) yX8_init cX8_init 1 1 1 260 8 [.null, .int 0] (w_X8 cyI cyJ cyO) := by
  refine Kc.of (by decide) rfl (by decide) (fun h0 P h => ?_)
  refine cx_aload h dX8_init_0 rfl 0 rfl ?_
  show P 1 [(0, .ref h0)] [.ref h0] ((h0, .inr (8, [.null, .int 0])) :: []) 0 0
  refine cx_obj h (tw 136 (by decide +kernel) rfl) ow_1 ow_2 (by decide) dX8_init_1 ?_
  show P 4 [(0, .ref h0)] [] ((h0, .inr (8, [.null, .int 0])) :: []) 0 0
  refine cx_aload h dX8_init_4 rfl 0 rfl ?_
  show P 5 [(0, .ref h0)] [.ref h0] ((h0, .inr (8, [.null, .int 0])) :: []) 0 0
  refine cx_sipush (v := 260) h dX8_init_5 (by decide) ?_
  show P 8 [(0, .ref h0)] [.int 260, .ref h0] ((h0, .inr (8, [.null, .int 0])) :: []) 0 0
  refine cx_newI (N := 260) h aw_I (by decide) (by decide) (by decide) (Nat.le_of_ble_eq_true rfl) (Nat.le_of_ble_eq_true rfl) dX8_init_8 (fun q8 => ?_)
  show P 10 [(0, .ref h0)] [.ref q8, .ref h0] ((h0, .inr (8, [.null, .int 0])) :: ([] ++ [(q8, .inl (cyI, 260, .inl (fun _ => 0)))])) 1 260
  refine cx_put h fd_X8_9 fq_X8_9 rfl rfl (Nat.le_of_ble_eq_true rfl) dX8_init_10 ?_
  show P 13 [(0, .ref h0)] [] ((h0, .inr (8, [.ref q8, .int 0])) :: ([] ++ [(q8, .inl (cyI, 260, .inl (fun _ => 0)))])) 1 260
  exact cx_ret h (fun i => if i = 1 then (fun _ => q8) else fun _ => 0) rfl (Nat.le_of_ble_eq_true rfl) (Nat.le_of_ble_eq_true rfl) dX8_init_13
theorem df_X3 : ∀ j, j < 7 → defaultValue (tyX3 j) = vp_V [.int 0, .null, .null, .int 0, .null, .int 0, .null] j := by
  intro j hj
  rcases (show j = 0 ∨ j = 1 ∨ j = 2 ∨ j = 3 ∨ j = 4 ∨ j = 5 ∨ j = 6 by omega) with rfl | rfl | rfl | rfl | rfl | rfl | rfl <;> rfl
theorem fd_X3_11 : FD RX3 11 3 1 := ⟨RX3, TX3, 7, rfl, by decide, wsin_X3, tw 156 (by decide +kernel) rfl⟩
theorem fq_X3_11 : FQ RX3 3 1 (.array (.array .int)) true := ⟨RX3, TX3, 7, tyX3, rfl, tyX3_ok, nmX3, rfl, rfl, by decide +kernel⟩
theorem fd_X3_16 : FD RX3 16 3 2 := ⟨RX3, TX3, 7, rfl, by decide, wsin_X3, tw 159 (by decide +kernel) rfl⟩
theorem fq_X3_16 : FQ RX3 3 2 (.array (.array .int)) true := ⟨RX3, TX3, 7, tyX3, rfl, tyX3_ok, nmX3, rfl, rfl, by decide +kernel⟩
theorem fd_X3_19 : FD RX3 19 3 4 := ⟨RX3, TX3, 7, rfl, by decide, wsin_X3, tw 161 (by decide +kernel) rfl⟩
theorem fq_X3_19 : FQ RX3 3 4 (.array .int) true := ⟨RX3, TX3, 7, tyX3, rfl, tyX3_ok, nmX3, rfl, rfl, by decide +kernel⟩
theorem fd_X3_23 : FD RX3 23 3 6 := ⟨RX3, TX3, 7, rfl, by decide, wsin_X3, tw 163 (by decide +kernel) rfl⟩
theorem fq_X3_23 : FQ RX3 3 6 (.array .int) true := ⟨RX3, TX3, 7, tyX3, rfl, tyX3_ok, nmX3, rfl, rfl, by decide +kernel⟩
def w_X3 (cyI cyJ cyO : ClassId) (h0 : Nat) (u : (Nat → Nat → Nat)) : va_W := (h0, .inr (3, [.int 0, .ref ((u 1) 0), .ref ((u 2) 0), .int 0, .ref (u 3 0), .int 0, .ref (u 4 0)])) :: (((([] ++ gdW cyO cyI 12 12 (u 1)) ++ gdW cyO cyI 12 12 (u 2)) ++ [((u 3 0), .inl (cyI, 8, .inl (fun _ => 0)))]) ++ [((u 4 0), .inl (cyI, 1024, .inl (fun _ => 0)))])
set_option maxRecDepth 20000 in
theorem k_X3_init (l : Launch) (D : va_G) (cyB cyI cyJ cyO : ClassId) : Kc l D (Ety cyB cyI cyJ cyO) yX3_init cX3_init 1 1 28 1344 3 [.int 0, .null, .null, .int 0, .null, .int 0, .null] (w_X3 cyI cyJ cyO) := by
  refine Kc.of (by decide) rfl (by decide) (fun h0 P h => ?_)
  refine cx_aload h dX3_init_0 rfl 0 rfl ?_
  show P 1 [(0, .ref h0)] [.ref h0] ((h0, .inr (3, [.int 0, .null, .null, .int 0, .null, .int 0, .null])) :: []) 0 0
  refine cx_obj h (tw 151 (by decide +kernel) rfl) ow_1 ow_2 (by decide) dX3_init_1 ?_
  show P 4 [(0, .ref h0)] [] ((h0, .inr (3, [.int 0, .null, .null, .int 0, .null, .int 0, .null])) :: []) 0 0
  refine cx_aload h dX3_init_4 rfl 0 rfl ?_
  show P 5 [(0, .ref h0)] [.ref h0] ((h0, .inr (3, [.int 0, .null, .null, .int 0, .null, .int 0, .null])) :: []) 0 0
  refine cx_bipush (v := 12) h dX3_init_5 (by decide) ?_
  show P 7 [(0, .ref h0)] [.int 12, .ref h0] ((h0, .inr (3, [.int 0, .null, .null, .int 0, .null, .int 0, .null])) :: []) 0 0
  refine cx_bipush (v := 12) h dX3_init_7 (by decide) ?_
  show P 9 [(0, .ref h0)] [.int 12, .int 12, .ref h0] ((h0, .inr (3, [.int 0, .null, .null, .int 0, .null, .int 0, .null])) :: []) 0 0
  refine cx_grid (N := 12) (K := 12) h aw_I (tw 152 (by decide +kernel) rfl) (by decide) (by decide) (by decide) (by decide) (by decide) (by decide) (Nat.le_of_ble_eq_true rfl) (Nat.le_of_ble_eq_true rfl) dX3_init_9 (fun r9 => ?_)
  show P 13 [(0, .ref h0)] [.ref (r9 0), .ref h0] ((h0, .inr (3, [.int 0, .null, .null, .int 0, .null, .int 0, .null])) :: ([] ++ gdW cyO cyI 12 12 r9)) 13 156
  refine cx_put h fd_X3_11 fq_X3_11 rfl rfl (Nat.le_of_ble_eq_true rfl) dX3_init_13 ?_
  show P 16 [(0, .ref h0)] [] ((h0, .inr (3, [.int 0, .ref (r9 0), .null, .int 0, .null, .int 0, .null])) :: ([] ++ gdW cyO cyI 12 12 r9)) 13 156
  refine cx_aload h dX3_init_16 rfl 0 rfl ?_
  show P 17 [(0, .ref h0)] [.ref h0] ((h0, .inr (3, [.int 0, .ref (r9 0), .null, .int 0, .null, .int 0, .null])) :: ([] ++ gdW cyO cyI 12 12 r9)) 13 156
  refine cx_bipush (v := 12) h dX3_init_17 (by decide) ?_
  show P 19 [(0, .ref h0)] [.int 12, .ref h0] ((h0, .inr (3, [.int 0, .ref (r9 0), .null, .int 0, .null, .int 0, .null])) :: ([] ++ gdW cyO cyI 12 12 r9)) 13 156
  refine cx_bipush (v := 12) h dX3_init_19 (by decide) ?_
  show P 21 [(0, .ref h0)] [.int 12, .int 12, .ref h0] ((h0, .inr (3, [.int 0, .ref (r9 0), .null, .int 0, .null, .int 0, .null])) :: ([] ++ gdW cyO cyI 12 12 r9)) 13 156
  refine cx_grid (N := 12) (K := 12) h aw_I (tw 152 (by decide +kernel) rfl) (by decide) (by decide) (by decide) (by decide) (by decide) (by decide) (Nat.le_of_ble_eq_true rfl) (Nat.le_of_ble_eq_true rfl) dX3_init_21 (fun r21 => ?_)
  show P 25 [(0, .ref h0)] [.ref (r21 0), .ref h0] ((h0, .inr (3, [.int 0, .ref (r9 0), .null, .int 0, .null, .int 0, .null])) :: (([] ++ gdW cyO cyI 12 12 r9) ++ gdW cyO cyI 12 12 r21)) 26 312
  refine cx_put h fd_X3_16 fq_X3_16 rfl rfl (Nat.le_of_ble_eq_true rfl) dX3_init_25 ?_
  show P 28 [(0, .ref h0)] [] ((h0, .inr (3, [.int 0, .ref (r9 0), .ref (r21 0), .int 0, .null, .int 0, .null])) :: (([] ++ gdW cyO cyI 12 12 r9) ++ gdW cyO cyI 12 12 r21)) 26 312
  refine cx_aload h dX3_init_28 rfl 0 rfl ?_
  show P 29 [(0, .ref h0)] [.ref h0] ((h0, .inr (3, [.int 0, .ref (r9 0), .ref (r21 0), .int 0, .null, .int 0, .null])) :: (([] ++ gdW cyO cyI 12 12 r9) ++ gdW cyO cyI 12 12 r21)) 26 312
  refine cx_bipush (v := 8) h dX3_init_29 (by decide) ?_
  show P 31 [(0, .ref h0)] [.int 8, .ref h0] ((h0, .inr (3, [.int 0, .ref (r9 0), .ref (r21 0), .int 0, .null, .int 0, .null])) :: (([] ++ gdW cyO cyI 12 12 r9) ++ gdW cyO cyI 12 12 r21)) 26 312
  refine cx_newI (N := 8) h aw_I (by decide) (by decide) (by decide) (Nat.le_of_ble_eq_true rfl) (Nat.le_of_ble_eq_true rfl) dX3_init_31 (fun q31 => ?_)
  show P 33 [(0, .ref h0)] [.ref q31, .ref h0] ((h0, .inr (3, [.int 0, .ref (r9 0), .ref (r21 0), .int 0, .null, .int 0, .null])) :: ((([] ++ gdW cyO cyI 12 12 r9) ++ gdW cyO cyI 12 12 r21) ++ [(q31, .inl (cyI, 8, .inl (fun _ => 0)))])) 27 320
  refine cx_put h fd_X3_19 fq_X3_19 rfl rfl (Nat.le_of_ble_eq_true rfl) dX3_init_33 ?_
  show P 36 [(0, .ref h0)] [] ((h0, .inr (3, [.int 0, .ref (r9 0), .ref (r21 0), .int 0, .ref q31, .int 0, .null])) :: ((([] ++ gdW cyO cyI 12 12 r9) ++ gdW cyO cyI 12 12 r21) ++ [(q31, .inl (cyI, 8, .inl (fun _ => 0)))])) 27 320
  refine cx_aload h dX3_init_36 rfl 0 rfl ?_
  show P 37 [(0, .ref h0)] [.ref h0] ((h0, .inr (3, [.int 0, .ref (r9 0), .ref (r21 0), .int 0, .ref q31, .int 0, .null])) :: ((([] ++ gdW cyO cyI 12 12 r9) ++ gdW cyO cyI 12 12 r21) ++ [(q31, .inl (cyI, 8, .inl (fun _ => 0)))])) 27 320
  refine cx_sipush (v := 1024) h dX3_init_37 (by decide) ?_
  show P 40 [(0, .ref h0)] [.int 1024, .ref h0] ((h0, .inr (3, [.int 0, .ref (r9 0), .ref (r21 0), .int 0, .ref q31, .int 0, .null])) :: ((([] ++ gdW cyO cyI 12 12 r9) ++ gdW cyO cyI 12 12 r21) ++ [(q31, .inl (cyI, 8, .inl (fun _ => 0)))])) 27 320
  refine cx_newI (N := 1024) h aw_I (by decide) (by decide) (by decide) (Nat.le_of_ble_eq_true rfl) (Nat.le_of_ble_eq_true rfl) dX3_init_40 (fun q40 => ?_)
  show P 42 [(0, .ref h0)] [.ref q40, .ref h0] ((h0, .inr (3, [.int 0, .ref (r9 0), .ref (r21 0), .int 0, .ref q31, .int 0, .null])) :: (((([] ++ gdW cyO cyI 12 12 r9) ++ gdW cyO cyI 12 12 r21) ++ [(q31, .inl (cyI, 8, .inl (fun _ => 0)))]) ++ [(q40, .inl (cyI, 1024, .inl (fun _ => 0)))])) 28 1344
  refine cx_put h fd_X3_23 fq_X3_23 rfl rfl (Nat.le_of_ble_eq_true rfl) dX3_init_42 ?_
  show P 45 [(0, .ref h0)] [] ((h0, .inr (3, [.int 0, .ref (r9 0), .ref (r21 0), .int 0, .ref q31, .int 0, .ref q40])) :: (((([] ++ gdW cyO cyI 12 12 r9) ++ gdW cyO cyI 12 12 r21) ++ [(q31, .inl (cyI, 8, .inl (fun _ => 0)))]) ++ [(q40, .inl (cyI, 1024, .inl (fun _ => 0)))])) 28 1344
  exact cx_ret h (fun i => if i = 1 then (r9) else if i = 2 then (r21) else if i = 3 then (fun _ => q31) else if i = 4 then (fun _ => q40) else fun _ => 0) rfl (Nat.le_of_ble_eq_true rfl) (Nat.le_of_ble_eq_true rfl) dX3_init_45
theorem df_X0 : ∀ j, j < 16 → defaultValue (tyX0 j) = vp_V [.null, .int 0, .int 0, .null, .null, .null, .null, .null, .null, .null, .int 0, .int 0, .int 0, .int 0, .int 0, .int 0] j := by
  intro j hj
  rcases (show j = 0 ∨ j = 1 ∨ j = 2 ∨ j = 3 ∨ j = 4 ∨ j = 5 ∨ j = 6 ∨ j = 7 ∨ j = 8 ∨ j = 9 ∨ j = 10 ∨ j = 11 ∨ j = 12 ∨ j = 13 ∨ j = 14 ∨ j = 15 by omega) with rfl | rfl | rfl | rfl | rfl | rfl | rfl | rfl | rfl | rfl | rfl | rfl | rfl | rfl | rfl | rfl <;> rfl
theorem fd_X0_9 : FD RX0 9 0 0 := ⟨RX0, TX0, 16, rfl, by decide, wsin_X0, tw 186 (by decide +kernel) rfl⟩
theorem fq_X0_9 : FQ RX0 0 0 (.array .int) true := ⟨RX0, TX0, 16, tyX0, rfl, tyX0_ok, nmX0, rfl, rfl, by decide +kernel⟩
theorem fd_X0_15 : FD RX0 15 0 3 := ⟨RX0, TX0, 16, rfl, by decide, wsin_X0, tw 192 (by decide +kernel) rfl⟩
theorem fq_X0_15 : FQ RX0 0 3 (.array .int) true := ⟨RX0, TX0, 16, tyX0, rfl, tyX0_ok, nmX0, rfl, rfl, by decide +kernel⟩
theorem fd_X0_18 : FD RX0 18 0 4 := ⟨RX0, TX0, 16, rfl, by decide, wsin_X0, tw 195 (by decide +kernel) rfl⟩
theorem fq_X0_18 : FQ RX0 0 4 (.array .int) true := ⟨RX0, TX0, 16, tyX0, rfl, tyX0_ok, nmX0, rfl, rfl, by decide +kernel⟩
theorem fd_X0_21 : FD RX0 21 0 5 := ⟨RX0, TX0, 16, rfl, by decide, wsin_X0, tw 198 (by decide +kernel) rfl⟩
theorem fq_X0_21 : FQ RX0 0 5 (.array .int) true := ⟨RX0, TX0, 16, tyX0, rfl, tyX0_ok, nmX0, rfl, rfl, by decide +kernel⟩
theorem fd_X0_24 : FD RX0 24 0 6 := ⟨RX0, TX0, 16, rfl, by decide, wsin_X0, tw 200 (by decide +kernel) rfl⟩
theorem fq_X0_24 : FQ RX0 0 6 (.array .int) true := ⟨RX0, TX0, 16, tyX0, rfl, tyX0_ok, nmX0, rfl, rfl, by decide +kernel⟩
theorem fd_X0_27 : FD RX0 27 0 7 := ⟨RX0, TX0, 16, rfl, by decide, wsin_X0, tw 203 (by decide +kernel) rfl⟩
theorem fq_X0_27 : FQ RX0 0 7 (.array .int) true := ⟨RX0, TX0, 16, tyX0, rfl, tyX0_ok, nmX0, rfl, rfl, by decide +kernel⟩
theorem fd_X0_32 : FD RX0 32 0 8 := ⟨RX0, TX0, 16, rfl, by decide, wsin_X0, tw 205 (by decide +kernel) rfl⟩
theorem fq_X0_32 : FQ RX0 0 8 (.array (.array .int)) true := ⟨RX0, TX0, 16, tyX0, rfl, tyX0_ok, nmX0, rfl, rfl, by decide +kernel⟩
theorem fd_X0_35 : FD RX0 35 0 9 := ⟨RX0, TX0, 16, rfl, by decide, wsin_X0, tw 208 (by decide +kernel) rfl⟩
theorem fq_X0_35 : FQ RX0 0 9 (.array .int) true := ⟨RX0, TX0, 16, tyX0, rfl, tyX0_ok, nmX0, rfl, rfl, by decide +kernel⟩
theorem fd_X0_38 : FD RX0 38 0 13 := ⟨RX0, TX0, 16, rfl, by decide, wsin_X0, tw 216 (by decide +kernel) rfl⟩
theorem fq_X0_38 : FQ RX0 0 13 .int false := ⟨RX0, TX0, 16, tyX0, rfl, tyX0_ok, nmX0, rfl, rfl, by decide +kernel⟩
def w_X0 (cyI cyJ cyO : ClassId) (h0 : Nat) (u : (Nat → Nat → Nat)) : va_W := (h0, .inr (0, [.ref (u 1 0), .int 0, .int 0, .ref (u 2 0), .ref (u 3 0), .ref (u 4 0), .ref (u 5 0), .ref (u 6 0), .ref ((u 7) 0), .ref (u 8 0), .int 0, .int 0, .int 0, .int 1, .int 0, .int 0])) :: (((((((([] ++ [((u 1 0), .inl (cyI, 12, .inl (fun _ => 0)))]) ++ [((u 2 0), .inl (cyI, 6, .inl (fun _ => 0)))]) ++ [((u 3 0), .inl (cyI, 6, .inl (fun _ => 0)))]) ++ [((u 4 0), .inl (cyI, 6, .inl (fun _ => 0)))]) ++ [((u 5 0), .inl (cyI, 6, .inl (fun _ => 0)))]) ++ [((u 6 0), .inl (cyI, 6, .inl (fun _ => 0)))]) ++ gdW cyO cyI 6 12 (u 7)) ++ [((u 8 0), .inl (cyI, 3, .inl (fun _ => 0)))])
set_option maxRecDepth 20000 in
theorem k_X0_init (l : Launch) (D : va_G) (cyB cyI cyJ cyO : ClassId) : Kc l D (Ety cyB cyI cyJ cyO) yX0_init cX0_init 1 1 14 123 0 [.null, .int 0, .int 0, .null, .null, .null, .null, .null, .null, .null, .int 0, .int 0, .int 0, .int 0, .int 0, .int 0] (w_X0 cyI cyJ cyO) := by
  refine Kc.of (by decide) rfl (by decide) (fun h0 P h => ?_)
  refine cx_aload h dX0_init_0 rfl 0 rfl ?_
  show P 1 [(0, .ref h0)] [.ref h0] ((h0, .inr (0, [.null, .int 0, .int 0, .null, .null, .null, .null, .null, .null, .null, .int 0, .int 0, .int 0, .int 0, .int 0, .int 0])) :: []) 0 0
  refine cx_obj h (tw 184 (by decide +kernel) rfl) ow_1 ow_2 (by decide) dX0_init_1 ?_
  show P 4 [(0, .ref h0)] [] ((h0, .inr (0, [.null, .int 0, .int 0, .null, .null, .null, .null, .null, .null, .null, .int 0, .int 0, .int 0, .int 0, .int 0, .int 0])) :: []) 0 0
  refine cx_aload h dX0_init_4 rfl 0 rfl ?_
  show P 5 [(0, .ref h0)] [.ref h0] ((h0, .inr (0, [.null, .int 0, .int 0, .null, .null, .null, .null, .null, .null, .null, .int 0, .int 0, .int 0, .int 0, .int 0, .int 0])) :: []) 0 0
  refine cx_bipush (v := 12) h dX0_init_5 (by decide) ?_
  show P 7 [(0, .ref h0)] [.int 12, .ref h0] ((h0, .inr (0, [.null, .int 0, .int 0, .null, .null, .null, .null, .null, .null, .null, .int 0, .int 0, .int 0, .int 0, .int 0, .int 0])) :: []) 0 0
  refine cx_newI (N := 12) h aw_I (by decide) (by decide) (by decide) (Nat.le_of_ble_eq_true rfl) (Nat.le_of_ble_eq_true rfl) dX0_init_7 (fun q7 => ?_)
  show P 9 [(0, .ref h0)] [.ref q7, .ref h0] ((h0, .inr (0, [.null, .int 0, .int 0, .null, .null, .null, .null, .null, .null, .null, .int 0, .int 0, .int 0, .int 0, .int 0, .int 0])) :: ([] ++ [(q7, .inl (cyI, 12, .inl (fun _ => 0)))])) 1 12
  refine cx_put h fd_X0_9 fq_X0_9 rfl rfl (Nat.le_of_ble_eq_true rfl) dX0_init_9 ?_
  show P 12 [(0, .ref h0)] [] ((h0, .inr (0, [.ref q7, .int 0, .int 0, .null, .null, .null, .null, .null, .null, .null, .int 0, .int 0, .int 0, .int 0, .int 0, .int 0])) :: ([] ++ [(q7, .inl (cyI, 12, .inl (fun _ => 0)))])) 1 12
  refine cx_aload h dX0_init_12 rfl 0 rfl ?_
  show P 13 [(0, .ref h0)] [.ref h0] ((h0, .inr (0, [.ref q7, .int 0, .int 0, .null, .null, .null, .null, .null, .null, .null, .int 0, .int 0, .int 0, .int 0, .int 0, .int 0])) :: ([] ++ [(q7, .inl (cyI, 12, .inl (fun _ => 0)))])) 1 12
  refine cx_bipush (v := 6) h dX0_init_13 (by decide) ?_
  show P 15 [(0, .ref h0)] [.int 6, .ref h0] ((h0, .inr (0, [.ref q7, .int 0, .int 0, .null, .null, .null, .null, .null, .null, .null, .int 0, .int 0, .int 0, .int 0, .int 0, .int 0])) :: ([] ++ [(q7, .inl (cyI, 12, .inl (fun _ => 0)))])) 1 12
  refine cx_newI (N := 6) h aw_I (by decide) (by decide) (by decide) (Nat.le_of_ble_eq_true rfl) (Nat.le_of_ble_eq_true rfl) dX0_init_15 (fun q15 => ?_)
  show P 17 [(0, .ref h0)] [.ref q15, .ref h0] ((h0, .inr (0, [.ref q7, .int 0, .int 0, .null, .null, .null, .null, .null, .null, .null, .int 0, .int 0, .int 0, .int 0, .int 0, .int 0])) :: (([] ++ [(q7, .inl (cyI, 12, .inl (fun _ => 0)))]) ++ [(q15, .inl (cyI, 6, .inl (fun _ => 0)))])) 2 18
  refine cx_put h fd_X0_15 fq_X0_15 rfl rfl (Nat.le_of_ble_eq_true rfl) dX0_init_17 ?_
  show P 20 [(0, .ref h0)] [] ((h0, .inr (0, [.ref q7, .int 0, .int 0, .ref q15, .null, .null, .null, .null, .null, .null, .int 0, .int 0, .int 0, .int 0, .int 0, .int 0])) :: (([] ++ [(q7, .inl (cyI, 12, .inl (fun _ => 0)))]) ++ [(q15, .inl (cyI, 6, .inl (fun _ => 0)))])) 2 18
  refine cx_aload h dX0_init_20 rfl 0 rfl ?_
  show P 21 [(0, .ref h0)] [.ref h0] ((h0, .inr (0, [.ref q7, .int 0, .int 0, .ref q15, .null, .null, .null, .null, .null, .null, .int 0, .int 0, .int 0, .int 0, .int 0, .int 0])) :: (([] ++ [(q7, .inl (cyI, 12, .inl (fun _ => 0)))]) ++ [(q15, .inl (cyI, 6, .inl (fun _ => 0)))])) 2 18
  refine cx_bipush (v := 6) h dX0_init_21 (by decide) ?_
  show P 23 [(0, .ref h0)] [.int 6, .ref h0] ((h0, .inr (0, [.ref q7, .int 0, .int 0, .ref q15, .null, .null, .null, .null, .null, .null, .int 0, .int 0, .int 0, .int 0, .int 0, .int 0])) :: (([] ++ [(q7, .inl (cyI, 12, .inl (fun _ => 0)))]) ++ [(q15, .inl (cyI, 6, .inl (fun _ => 0)))])) 2 18
  refine cx_newI (N := 6) h aw_I (by decide) (by decide) (by decide) (Nat.le_of_ble_eq_true rfl) (Nat.le_of_ble_eq_true rfl) dX0_init_23 (fun q23 => ?_)
  show P 25 [(0, .ref h0)] [.ref q23, .ref h0] ((h0, .inr (0, [.ref q7, .int 0, .int 0, .ref q15, .null, .null, .null, .null, .null, .null, .int 0, .int 0, .int 0, .int 0, .int 0, .int 0])) :: ((([] ++ [(q7, .inl (cyI, 12, .inl (fun _ => 0)))]) ++ [(q15, .inl (cyI, 6, .inl (fun _ => 0)))]) ++ [(q23, .inl (cyI, 6, .inl (fun _ => 0)))])) 3 24
  refine cx_put h fd_X0_18 fq_X0_18 rfl rfl (Nat.le_of_ble_eq_true rfl) dX0_init_25 ?_
  show P 28 [(0, .ref h0)] [] ((h0, .inr (0, [.ref q7, .int 0, .int 0, .ref q15, .ref q23, .null, .null, .null, .null, .null, .int 0, .int 0, .int 0, .int 0, .int 0, .int 0])) :: ((([] ++ [(q7, .inl (cyI, 12, .inl (fun _ => 0)))]) ++ [(q15, .inl (cyI, 6, .inl (fun _ => 0)))]) ++ [(q23, .inl (cyI, 6, .inl (fun _ => 0)))])) 3 24
  refine cx_aload h dX0_init_28 rfl 0 rfl ?_
  show P 29 [(0, .ref h0)] [.ref h0] ((h0, .inr (0, [.ref q7, .int 0, .int 0, .ref q15, .ref q23, .null, .null, .null, .null, .null, .int 0, .int 0, .int 0, .int 0, .int 0, .int 0])) :: ((([] ++ [(q7, .inl (cyI, 12, .inl (fun _ => 0)))]) ++ [(q15, .inl (cyI, 6, .inl (fun _ => 0)))]) ++ [(q23, .inl (cyI, 6, .inl (fun _ => 0)))])) 3 24
  refine cx_bipush (v := 6) h dX0_init_29 (by decide) ?_
  show P 31 [(0, .ref h0)] [.int 6, .ref h0] ((h0, .inr (0, [.ref q7, .int 0, .int 0, .ref q15, .ref q23, .null, .null, .null, .null, .null, .int 0, .int 0, .int 0, .int 0, .int 0, .int 0])) :: ((([] ++ [(q7, .inl (cyI, 12, .inl (fun _ => 0)))]) ++ [(q15, .inl (cyI, 6, .inl (fun _ => 0)))]) ++ [(q23, .inl (cyI, 6, .inl (fun _ => 0)))])) 3 24
  refine cx_newI (N := 6) h aw_I (by decide) (by decide) (by decide) (Nat.le_of_ble_eq_true rfl) (Nat.le_of_ble_eq_true rfl) dX0_init_31 (fun q31 => ?_)
  show P 33 [(0, .ref h0)] [.ref q31, .ref h0] ((h0, .inr (0, [.ref q7, .int 0, .int 0, .ref q15, .ref q23, .null, .null, .null, .null, .null, .int 0, .int 0, .int 0, .int 0, .int 0, .int 0])) :: (((([] ++ [(q7, .inl (cyI, 12, .inl (fun _ => 0)))]) ++ [(q15, .inl (cyI, 6, .inl (fun _ => 0)))]) ++ [(q23, .inl (cyI, 6, .inl (fun _ => 0)))]) ++ [(q31, .inl (cyI, 6, .inl (fun _ => 0)))])) 4 30
  refine cx_put h fd_X0_21 fq_X0_21 rfl rfl (Nat.le_of_ble_eq_true rfl) dX0_init_33 ?_
  show P 36 [(0, .ref h0)] [] ((h0, .inr (0, [.ref q7, .int 0, .int 0, .ref q15, .ref q23, .ref q31, .null, .null, .null, .null, .int 0, .int 0, .int 0, .int 0, .int 0, .int 0])) :: (((([] ++ [(q7, .inl (cyI, 12, .inl (fun _ => 0)))]) ++ [(q15, .inl (cyI, 6, .inl (fun _ => 0)))]) ++ [(q23, .inl (cyI, 6, .inl (fun _ => 0)))]) ++ [(q31, .inl (cyI, 6, .inl (fun _ => 0)))])) 4 30
  refine cx_aload h dX0_init_36 rfl 0 rfl ?_
  show P 37 [(0, .ref h0)] [.ref h0] ((h0, .inr (0, [.ref q7, .int 0, .int 0, .ref q15, .ref q23, .ref q31, .null, .null, .null, .null, .int 0, .int 0, .int 0, .int 0, .int 0, .int 0])) :: (((([] ++ [(q7, .inl (cyI, 12, .inl (fun _ => 0)))]) ++ [(q15, .inl (cyI, 6, .inl (fun _ => 0)))]) ++ [(q23, .inl (cyI, 6, .inl (fun _ => 0)))]) ++ [(q31, .inl (cyI, 6, .inl (fun _ => 0)))])) 4 30
  refine cx_bipush (v := 6) h dX0_init_37 (by decide) ?_
  show P 39 [(0, .ref h0)] [.int 6, .ref h0] ((h0, .inr (0, [.ref q7, .int 0, .int 0, .ref q15, .ref q23, .ref q31, .null, .null, .null, .null, .int 0, .int 0, .int 0, .int 0, .int 0, .int 0])) :: (((([] ++ [(q7, .inl (cyI, 12, .inl (fun _ => 0)))]) ++ [(q15, .inl (cyI, 6, .inl (fun _ => 0)))]) ++ [(q23, .inl (cyI, 6, .inl (fun _ => 0)))]) ++ [(q31, .inl (cyI, 6, .inl (fun _ => 0)))])) 4 30
  refine cx_newI (N := 6) h aw_I (by decide) (by decide) (by decide) (Nat.le_of_ble_eq_true rfl) (Nat.le_of_ble_eq_true rfl) dX0_init_39 (fun q39 => ?_)
  show P 41 [(0, .ref h0)] [.ref q39, .ref h0] ((h0, .inr (0, [.ref q7, .int 0, .int 0, .ref q15, .ref q23, .ref q31, .null, .null, .null, .null, .int 0, .int 0, .int 0, .int 0, .int 0, .int 0])) :: ((((([] ++ [(q7, .inl (cyI, 12, .inl (fun _ => 0)))]) ++ [(q15, .inl (cyI, 6, .inl (fun _ => 0)))]) ++ [(q23, .inl (cyI, 6, .inl (fun _ => 0)))]) ++ [(q31, .inl (cyI, 6, .inl (fun _ => 0)))]) ++ [(q39, .inl (cyI, 6, .inl (fun _ => 0)))])) 5 36
  refine cx_put h fd_X0_24 fq_X0_24 rfl rfl (Nat.le_of_ble_eq_true rfl) dX0_init_41 ?_
  show P 44 [(0, .ref h0)] [] ((h0, .inr (0, [.ref q7, .int 0, .int 0, .ref q15, .ref q23, .ref q31, .ref q39, .null, .null, .null, .int 0, .int 0, .int 0, .int 0, .int 0, .int 0])) :: ((((([] ++ [(q7, .inl (cyI, 12, .inl (fun _ => 0)))]) ++ [(q15, .inl (cyI, 6, .inl (fun _ => 0)))]) ++ [(q23, .inl (cyI, 6, .inl (fun _ => 0)))]) ++ [(q31, .inl (cyI, 6, .inl (fun _ => 0)))]) ++ [(q39, .inl (cyI, 6, .inl (fun _ => 0)))])) 5 36
  refine cx_aload h dX0_init_44 rfl 0 rfl ?_
  show P 45 [(0, .ref h0)] [.ref h0] ((h0, .inr (0, [.ref q7, .int 0, .int 0, .ref q15, .ref q23, .ref q31, .ref q39, .null, .null, .null, .int 0, .int 0, .int 0, .int 0, .int 0, .int 0])) :: ((((([] ++ [(q7, .inl (cyI, 12, .inl (fun _ => 0)))]) ++ [(q15, .inl (cyI, 6, .inl (fun _ => 0)))]) ++ [(q23, .inl (cyI, 6, .inl (fun _ => 0)))]) ++ [(q31, .inl (cyI, 6, .inl (fun _ => 0)))]) ++ [(q39, .inl (cyI, 6, .inl (fun _ => 0)))])) 5 36
  refine cx_bipush (v := 6) h dX0_init_45 (by decide) ?_
  show P 47 [(0, .ref h0)] [.int 6, .ref h0] ((h0, .inr (0, [.ref q7, .int 0, .int 0, .ref q15, .ref q23, .ref q31, .ref q39, .null, .null, .null, .int 0, .int 0, .int 0, .int 0, .int 0, .int 0])) :: ((((([] ++ [(q7, .inl (cyI, 12, .inl (fun _ => 0)))]) ++ [(q15, .inl (cyI, 6, .inl (fun _ => 0)))]) ++ [(q23, .inl (cyI, 6, .inl (fun _ => 0)))]) ++ [(q31, .inl (cyI, 6, .inl (fun _ => 0)))]) ++ [(q39, .inl (cyI, 6, .inl (fun _ => 0)))])) 5 36
  refine cx_newI (N := 6) h aw_I (by decide) (by decide) (by decide) (Nat.le_of_ble_eq_true rfl) (Nat.le_of_ble_eq_true rfl) dX0_init_47 (fun q47 => ?_)
  show P 49 [(0, .ref h0)] [.ref q47, .ref h0] ((h0, .inr (0, [.ref q7, .int 0, .int 0, .ref q15, .ref q23, .ref q31, .ref q39, .null, .null, .null, .int 0, .int 0, .int 0, .int 0, .int 0, .int 0])) :: (((((([] ++ [(q7, .inl (cyI, 12, .inl (fun _ => 0)))]) ++ [(q15, .inl (cyI, 6, .inl (fun _ => 0)))]) ++ [(q23, .inl (cyI, 6, .inl (fun _ => 0)))]) ++ [(q31, .inl (cyI, 6, .inl (fun _ => 0)))]) ++ [(q39, .inl (cyI, 6, .inl (fun _ => 0)))]) ++ [(q47, .inl (cyI, 6, .inl (fun _ => 0)))])) 6 42
  refine cx_put h fd_X0_27 fq_X0_27 rfl rfl (Nat.le_of_ble_eq_true rfl) dX0_init_49 ?_
  show P 52 [(0, .ref h0)] [] ((h0, .inr (0, [.ref q7, .int 0, .int 0, .ref q15, .ref q23, .ref q31, .ref q39, .ref q47, .null, .null, .int 0, .int 0, .int 0, .int 0, .int 0, .int 0])) :: (((((([] ++ [(q7, .inl (cyI, 12, .inl (fun _ => 0)))]) ++ [(q15, .inl (cyI, 6, .inl (fun _ => 0)))]) ++ [(q23, .inl (cyI, 6, .inl (fun _ => 0)))]) ++ [(q31, .inl (cyI, 6, .inl (fun _ => 0)))]) ++ [(q39, .inl (cyI, 6, .inl (fun _ => 0)))]) ++ [(q47, .inl (cyI, 6, .inl (fun _ => 0)))])) 6 42
  refine cx_aload h dX0_init_52 rfl 0 rfl ?_
  show P 53 [(0, .ref h0)] [.ref h0] ((h0, .inr (0, [.ref q7, .int 0, .int 0, .ref q15, .ref q23, .ref q31, .ref q39, .ref q47, .null, .null, .int 0, .int 0, .int 0, .int 0, .int 0, .int 0])) :: (((((([] ++ [(q7, .inl (cyI, 12, .inl (fun _ => 0)))]) ++ [(q15, .inl (cyI, 6, .inl (fun _ => 0)))]) ++ [(q23, .inl (cyI, 6, .inl (fun _ => 0)))]) ++ [(q31, .inl (cyI, 6, .inl (fun _ => 0)))]) ++ [(q39, .inl (cyI, 6, .inl (fun _ => 0)))]) ++ [(q47, .inl (cyI, 6, .inl (fun _ => 0)))])) 6 42
  refine cx_bipush (v := 6) h dX0_init_53 (by decide) ?_
  show P 55 [(0, .ref h0)] [.int 6, .ref h0] ((h0, .inr (0, [.ref q7, .int 0, .int 0, .ref q15, .ref q23, .ref q31, .ref q39, .ref q47, .null, .null, .int 0, .int 0, .int 0, .int 0, .int 0, .int 0])) :: (((((([] ++ [(q7, .inl (cyI, 12, .inl (fun _ => 0)))]) ++ [(q15, .inl (cyI, 6, .inl (fun _ => 0)))]) ++ [(q23, .inl (cyI, 6, .inl (fun _ => 0)))]) ++ [(q31, .inl (cyI, 6, .inl (fun _ => 0)))]) ++ [(q39, .inl (cyI, 6, .inl (fun _ => 0)))]) ++ [(q47, .inl (cyI, 6, .inl (fun _ => 0)))])) 6 42
  refine cx_bipush (v := 12) h dX0_init_55 (by decide) ?_
  show P 57 [(0, .ref h0)] [.int 12, .int 6, .ref h0] ((h0, .inr (0, [.ref q7, .int 0, .int 0, .ref q15, .ref q23, .ref q31, .ref q39, .ref q47, .null, .null, .int 0, .int 0, .int 0, .int 0, .int 0, .int 0])) :: (((((([] ++ [(q7, .inl (cyI, 12, .inl (fun _ => 0)))]) ++ [(q15, .inl (cyI, 6, .inl (fun _ => 0)))]) ++ [(q23, .inl (cyI, 6, .inl (fun _ => 0)))]) ++ [(q31, .inl (cyI, 6, .inl (fun _ => 0)))]) ++ [(q39, .inl (cyI, 6, .inl (fun _ => 0)))]) ++ [(q47, .inl (cyI, 6, .inl (fun _ => 0)))])) 6 42
  refine cx_grid (N := 6) (K := 12) h aw_I (tw 185 (by decide +kernel) rfl) (by decide) (by decide) (by decide) (by decide) (by decide) (by decide) (Nat.le_of_ble_eq_true rfl) (Nat.le_of_ble_eq_true rfl) dX0_init_57 (fun r57 => ?_)
  show P 61 [(0, .ref h0)] [.ref (r57 0), .ref h0] ((h0, .inr (0, [.ref q7, .int 0, .int 0, .ref q15, .ref q23, .ref q31, .ref q39, .ref q47, .null, .null, .int 0, .int 0, .int 0, .int 0, .int 0, .int 0])) :: ((((((([] ++ [(q7, .inl (cyI, 12, .inl (fun _ => 0)))]) ++ [(q15, .inl (cyI, 6, .inl (fun _ => 0)))]) ++ [(q23, .inl (cyI, 6, .inl (fun _ => 0)))]) ++ [(q31, .inl (cyI, 6, .inl (fun _ => 0)))]) ++ [(q39, .inl (cyI, 6, .inl (fun _ => 0)))]) ++ [(q47, .inl (cyI, 6, .inl (fun _ => 0)))]) ++ gdW cyO cyI 6 12 r57)) 13 120
  refine cx_put h fd_X0_32 fq_X0_32 rfl rfl (Nat.le_of_ble_eq_true rfl) dX0_init_61 ?_
  show P 64 [(0, .ref h0)] [] ((h0, .inr (0, [.ref q7, .int 0, .int 0, .ref q15, .ref q23, .ref q31, .ref q39, .ref q47, .ref (r57 0), .null, .int 0, .int 0, .int 0, .int 0, .int 0, .int 0])) :: ((((((([] ++ [(q7, .inl (cyI, 12, .inl (fun _ => 0)))]) ++ [(q15, .inl (cyI, 6, .inl (fun _ => 0)))]) ++ [(q23, .inl (cyI, 6, .inl (fun _ => 0)))]) ++ [(q31, .inl (cyI, 6, .inl (fun _ => 0)))]) ++ [(q39, .inl (cyI, 6, .inl (fun _ => 0)))]) ++ [(q47, .inl (cyI, 6, .inl (fun _ => 0)))]) ++ gdW cyO cyI 6 12 r57)) 13 120
  refine cx_aload h dX0_init_64 rfl 0 rfl ?_
  show P 65 [(0, .ref h0)] [.ref h0] ((h0, .inr (0, [.ref q7, .int 0, .int 0, .ref q15, .ref q23, .ref q31, .ref q39, .ref q47, .ref (r57 0), .null, .int 0, .int 0, .int 0, .int 0, .int 0, .int 0])) :: ((((((([] ++ [(q7, .inl (cyI, 12, .inl (fun _ => 0)))]) ++ [(q15, .inl (cyI, 6, .inl (fun _ => 0)))]) ++ [(q23, .inl (cyI, 6, .inl (fun _ => 0)))]) ++ [(q31, .inl (cyI, 6, .inl (fun _ => 0)))]) ++ [(q39, .inl (cyI, 6, .inl (fun _ => 0)))]) ++ [(q47, .inl (cyI, 6, .inl (fun _ => 0)))]) ++ gdW cyO cyI 6 12 r57)) 13 120
  refine cx_iconst (v := 3) h dX0_init_65 (by decide) ?_
  show P 66 [(0, .ref h0)] [.int 3, .ref h0] ((h0, .inr (0, [.ref q7, .int 0, .int 0, .ref q15, .ref q23, .ref q31, .ref q39, .ref q47, .ref (r57 0), .null, .int 0, .int 0, .int 0, .int 0, .int 0, .int 0])) :: ((((((([] ++ [(q7, .inl (cyI, 12, .inl (fun _ => 0)))]) ++ [(q15, .inl (cyI, 6, .inl (fun _ => 0)))]) ++ [(q23, .inl (cyI, 6, .inl (fun _ => 0)))]) ++ [(q31, .inl (cyI, 6, .inl (fun _ => 0)))]) ++ [(q39, .inl (cyI, 6, .inl (fun _ => 0)))]) ++ [(q47, .inl (cyI, 6, .inl (fun _ => 0)))]) ++ gdW cyO cyI 6 12 r57)) 13 120
  refine cx_newI (N := 3) h aw_I (by decide) (by decide) (by decide) (Nat.le_of_ble_eq_true rfl) (Nat.le_of_ble_eq_true rfl) dX0_init_66 (fun q66 => ?_)
  show P 68 [(0, .ref h0)] [.ref q66, .ref h0] ((h0, .inr (0, [.ref q7, .int 0, .int 0, .ref q15, .ref q23, .ref q31, .ref q39, .ref q47, .ref (r57 0), .null, .int 0, .int 0, .int 0, .int 0, .int 0, .int 0])) :: (((((((([] ++ [(q7, .inl (cyI, 12, .inl (fun _ => 0)))]) ++ [(q15, .inl (cyI, 6, .inl (fun _ => 0)))]) ++ [(q23, .inl (cyI, 6, .inl (fun _ => 0)))]) ++ [(q31, .inl (cyI, 6, .inl (fun _ => 0)))]) ++ [(q39, .inl (cyI, 6, .inl (fun _ => 0)))]) ++ [(q47, .inl (cyI, 6, .inl (fun _ => 0)))]) ++ gdW cyO cyI 6 12 r57) ++ [(q66, .inl (cyI, 3, .inl (fun _ => 0)))])) 14 123
  refine cx_put h fd_X0_35 fq_X0_35 rfl rfl (Nat.le_of_ble_eq_true rfl) dX0_init_68 ?_
  show P 71 [(0, .ref h0)] [] ((h0, .inr (0, [.ref q7, .int 0, .int 0, .ref q15, .ref q23, .ref q31, .ref q39, .ref q47, .ref (r57 0), .ref q66, .int 0, .int 0, .int 0, .int 0, .int 0, .int 0])) :: (((((((([] ++ [(q7, .inl (cyI, 12, .inl (fun _ => 0)))]) ++ [(q15, .inl (cyI, 6, .inl (fun _ => 0)))]) ++ [(q23, .inl (cyI, 6, .inl (fun _ => 0)))]) ++ [(q31, .inl (cyI, 6, .inl (fun _ => 0)))]) ++ [(q39, .inl (cyI, 6, .inl (fun _ => 0)))]) ++ [(q47, .inl (cyI, 6, .inl (fun _ => 0)))]) ++ gdW cyO cyI 6 12 r57) ++ [(q66, .inl (cyI, 3, .inl (fun _ => 0)))])) 14 123
  refine cx_aload h dX0_init_71 rfl 0 rfl ?_
  show P 72 [(0, .ref h0)] [.ref h0] ((h0, .inr (0, [.ref q7, .int 0, .int 0, .ref q15, .ref q23, .ref q31, .ref q39, .ref q47, .ref (r57 0), .ref q66, .int 0, .int 0, .int 0, .int 0, .int 0, .int 0])) :: (((((((([] ++ [(q7, .inl (cyI, 12, .inl (fun _ => 0)))]) ++ [(q15, .inl (cyI, 6, .inl (fun _ => 0)))]) ++ [(q23, .inl (cyI, 6, .inl (fun _ => 0)))]) ++ [(q31, .inl (cyI, 6, .inl (fun _ => 0)))]) ++ [(q39, .inl (cyI, 6, .inl (fun _ => 0)))]) ++ [(q47, .inl (cyI, 6, .inl (fun _ => 0)))]) ++ gdW cyO cyI 6 12 r57) ++ [(q66, .inl (cyI, 3, .inl (fun _ => 0)))])) 14 123
  refine cx_iconst (v := 1) h dX0_init_72 (by decide) ?_
  show P 73 [(0, .ref h0)] [.int 1, .ref h0] ((h0, .inr (0, [.ref q7, .int 0, .int 0, .ref q15, .ref q23, .ref q31, .ref q39, .ref q47, .ref (r57 0), .ref q66, .int 0, .int 0, .int 0, .int 0, .int 0, .int 0])) :: (((((((([] ++ [(q7, .inl (cyI, 12, .inl (fun _ => 0)))]) ++ [(q15, .inl (cyI, 6, .inl (fun _ => 0)))]) ++ [(q23, .inl (cyI, 6, .inl (fun _ => 0)))]) ++ [(q31, .inl (cyI, 6, .inl (fun _ => 0)))]) ++ [(q39, .inl (cyI, 6, .inl (fun _ => 0)))]) ++ [(q47, .inl (cyI, 6, .inl (fun _ => 0)))]) ++ gdW cyO cyI 6 12 r57) ++ [(q66, .inl (cyI, 3, .inl (fun _ => 0)))])) 14 123
  refine cx_put h fd_X0_38 fq_X0_38 rfl rfl (Nat.le_of_ble_eq_true rfl) dX0_init_73 ?_
  show P 76 [(0, .ref h0)] [] ((h0, .inr (0, [.ref q7, .int 0, .int 0, .ref q15, .ref q23, .ref q31, .ref q39, .ref q47, .ref (r57 0), .ref q66, .int 0, .int 0, .int 0, .int 1, .int 0, .int 0])) :: (((((((([] ++ [(q7, .inl (cyI, 12, .inl (fun _ => 0)))]) ++ [(q15, .inl (cyI, 6, .inl (fun _ => 0)))]) ++ [(q23, .inl (cyI, 6, .inl (fun _ => 0)))]) ++ [(q31, .inl (cyI, 6, .inl (fun _ => 0)))]) ++ [(q39, .inl (cyI, 6, .inl (fun _ => 0)))]) ++ [(q47, .inl (cyI, 6, .inl (fun _ => 0)))]) ++ gdW cyO cyI 6 12 r57) ++ [(q66, .inl (cyI, 3, .inl (fun _ => 0)))])) 14 123
  exact cx_ret h (fun i => if i = 1 then (fun _ => q7) else if i = 2 then (fun _ => q15) else if i = 3 then (fun _ => q23) else if i = 4 then (fun _ => q31) else if i = 5 then (fun _ => q39) else if i = 6 then (fun _ => q47) else if i = 7 then (r57) else if i = 8 then (fun _ => q66) else fun _ => 0) rfl (Nat.le_of_ble_eq_true rfl) (Nat.le_of_ble_eq_true rfl) dX0_init_76
theorem df_X4 : ∀ j, j < 9 → defaultValue (tyX4 j) = vp_V [.int 0, .null, .null, .null, .null, .null, .int 0, .null, .null] j := by
  intro j hj
  rcases (show j = 0 ∨ j = 1 ∨ j = 2 ∨ j = 3 ∨ j = 4 ∨ j = 5 ∨ j = 6 ∨ j = 7 ∨ j = 8 by omega) with rfl | rfl | rfl | rfl | rfl | rfl | rfl | rfl | rfl <;> rfl
theorem fd_X4_9 : FD RX4 9 4 1 := ⟨RX4, TX4, 9, rfl, by decide, wsin_X4, tw 270 (by decide +kernel) rfl⟩
theorem fq_X4_9 : FQ RX4 4 1 (.array .int) true := ⟨RX4, TX4, 9, tyX4, rfl, tyX4_ok, nmX4, rfl, rfl, by decide +kernel⟩
theorem fd_X4_13 : FD RX4 13 4 2 := ⟨RX4, TX4, 9, rfl, by decide, wsin_X4, tw 272 (by decide +kernel) rfl⟩
theorem fq_X4_13 : FQ RX4 4 2 (.array .int) true := ⟨RX4, TX4, 9, tyX4, rfl, tyX4_ok, nmX4, rfl, rfl, by decide +kernel⟩
theorem fd_X4_16 : FD RX4 16 4 3 := ⟨RX4, TX4, 9, rfl, by decide, wsin_X4, tw 274 (by decide +kernel) rfl⟩
theorem fq_X4_16 : FQ RX4 4 3 (.array .int) true := ⟨RX4, TX4, 9, tyX4, rfl, tyX4_ok, nmX4, rfl, rfl, by decide +kernel⟩
theorem fd_X4_19 : FD RX4 19 4 4 := ⟨RX4, TX4, 9, rfl, by decide, wsin_X4, tw 276 (by decide +kernel) rfl⟩
theorem fq_X4_19 : FQ RX4 4 4 (.array .int) true := ⟨RX4, TX4, 9, tyX4, rfl, tyX4_ok, nmX4, rfl, rfl, by decide +kernel⟩
theorem fd_X4_22 : FD RX4 22 4 5 := ⟨RX4, TX4, 9, rfl, by decide, wsin_X4, tw 278 (by decide +kernel) rfl⟩
theorem fq_X4_22 : FQ RX4 4 5 (.array .int) true := ⟨RX4, TX4, 9, tyX4, rfl, tyX4_ok, nmX4, rfl, rfl, by decide +kernel⟩
theorem fd_X4_25 : FD RX4 25 4 7 := ⟨RX4, TX4, 9, rfl, by decide, wsin_X4, tw 281 (by decide +kernel) rfl⟩
theorem fq_X4_25 : FQ RX4 4 7 (.array .long) true := ⟨RX4, TX4, 9, tyX4, rfl, tyX4_ok, nmX4, rfl, rfl, by decide +kernel⟩
theorem fd_X4_29 : FD RX4 29 4 8 := ⟨RX4, TX4, 9, rfl, by decide, wsin_X4, tw 282 (by decide +kernel) rfl⟩
theorem fq_X4_29 : FQ RX4 4 8 (.array .int) true := ⟨RX4, TX4, 9, tyX4, rfl, tyX4_ok, nmX4, rfl, rfl, by decide +kernel⟩
def w_X4 (cyI cyJ cyO : ClassId) (h0 : Nat) (u : (Nat → Nat → Nat)) : va_W := (h0, .inr (4, [.int 0, .ref (u 1 0), .ref (u 2 0), .ref (u 3 0), .ref (u 4 0), .ref (u 5 0), .int 0, .ref (u 6 0), .ref (u 7 0)])) :: ((((((([] ++ [((u 1 0), .inl (cyI, 16, .inl (fun _ => 0)))]) ++ [((u 2 0), .inl (cyI, 16, .inl (fun _ => 0)))]) ++ [((u 3 0), .inl (cyI, 16, .inl (fun _ => 0)))]) ++ [((u 4 0), .inl (cyI, 16, .inl (fun _ => 0)))]) ++ [((u 5 0), .inl (cyI, 240, .inl (fun _ => 0)))]) ++ [((u 6 0), .inl (cyJ, 32, .inr (.inl (fun _ => 0))))]) ++ [((u 7 0), .inl (cyI, 26, .inl (fun _ => 0)))])
set_option maxRecDepth 20000 in
theorem k_X4_init (l : Launch) (D : va_G) (cyB cyI cyJ cyO : ClassId) : Kc l D (Ety cyB cyI cyJ cyO) yX4_init cX4_init 1 1 7 362 4 [.int 0, .null, .null, .null, .null, .null, .int 0, .null, .null] (w_X4 cyI cyJ cyO) := by
  refine Kc.of (by decide) rfl (by decide) (fun h0 P h => ?_)
  refine cx_aload h dX4_init_0 rfl 0 rfl ?_
  show P 1 [(0, .ref h0)] [.ref h0] ((h0, .inr (4, [.int 0, .null, .null, .null, .null, .null, .int 0, .null, .null])) :: []) 0 0
  refine cx_obj h (tw 266 (by decide +kernel) rfl) ow_1 ow_2 (by decide) dX4_init_1 ?_
  show P 4 [(0, .ref h0)] [] ((h0, .inr (4, [.int 0, .null, .null, .null, .null, .null, .int 0, .null, .null])) :: []) 0 0
  refine cx_aload h dX4_init_4 rfl 0 rfl ?_
  show P 5 [(0, .ref h0)] [.ref h0] ((h0, .inr (4, [.int 0, .null, .null, .null, .null, .null, .int 0, .null, .null])) :: []) 0 0
  refine cx_bipush (v := 16) h dX4_init_5 (by decide) ?_
  show P 7 [(0, .ref h0)] [.int 16, .ref h0] ((h0, .inr (4, [.int 0, .null, .null, .null, .null, .null, .int 0, .null, .null])) :: []) 0 0
  refine cx_newI (N := 16) h aw_I (by decide) (by decide) (by decide) (Nat.le_of_ble_eq_true rfl) (Nat.le_of_ble_eq_true rfl) dX4_init_7 (fun q7 => ?_)
  show P 9 [(0, .ref h0)] [.ref q7, .ref h0] ((h0, .inr (4, [.int 0, .null, .null, .null, .null, .null, .int 0, .null, .null])) :: ([] ++ [(q7, .inl (cyI, 16, .inl (fun _ => 0)))])) 1 16
  refine cx_put h fd_X4_9 fq_X4_9 rfl rfl (Nat.le_of_ble_eq_true rfl) dX4_init_9 ?_
  show P 12 [(0, .ref h0)] [] ((h0, .inr (4, [.int 0, .ref q7, .null, .null, .null, .null, .int 0, .null, .null])) :: ([] ++ [(q7, .inl (cyI, 16, .inl (fun _ => 0)))])) 1 16
  refine cx_aload h dX4_init_12 rfl 0 rfl ?_
  show P 13 [(0, .ref h0)] [.ref h0] ((h0, .inr (4, [.int 0, .ref q7, .null, .null, .null, .null, .int 0, .null, .null])) :: ([] ++ [(q7, .inl (cyI, 16, .inl (fun _ => 0)))])) 1 16
  refine cx_bipush (v := 16) h dX4_init_13 (by decide) ?_
  show P 15 [(0, .ref h0)] [.int 16, .ref h0] ((h0, .inr (4, [.int 0, .ref q7, .null, .null, .null, .null, .int 0, .null, .null])) :: ([] ++ [(q7, .inl (cyI, 16, .inl (fun _ => 0)))])) 1 16
  refine cx_newI (N := 16) h aw_I (by decide) (by decide) (by decide) (Nat.le_of_ble_eq_true rfl) (Nat.le_of_ble_eq_true rfl) dX4_init_15 (fun q15 => ?_)
  show P 17 [(0, .ref h0)] [.ref q15, .ref h0] ((h0, .inr (4, [.int 0, .ref q7, .null, .null, .null, .null, .int 0, .null, .null])) :: (([] ++ [(q7, .inl (cyI, 16, .inl (fun _ => 0)))]) ++ [(q15, .inl (cyI, 16, .inl (fun _ => 0)))])) 2 32
  refine cx_put h fd_X4_13 fq_X4_13 rfl rfl (Nat.le_of_ble_eq_true rfl) dX4_init_17 ?_
  show P 20 [(0, .ref h0)] [] ((h0, .inr (4, [.int 0, .ref q7, .ref q15, .null, .null, .null, .int 0, .null, .null])) :: (([] ++ [(q7, .inl (cyI, 16, .inl (fun _ => 0)))]) ++ [(q15, .inl (cyI, 16, .inl (fun _ => 0)))])) 2 32
  refine cx_aload h dX4_init_20 rfl 0 rfl ?_
  show P 21 [(0, .ref h0)] [.ref h0] ((h0, .inr (4, [.int 0, .ref q7, .ref q15, .null, .null, .null, .int 0, .null, .null])) :: (([] ++ [(q7, .inl (cyI, 16, .inl (fun _ => 0)))]) ++ [(q15, .inl (cyI, 16, .inl (fun _ => 0)))])) 2 32
  refine cx_bipush (v := 16) h dX4_init_21 (by decide) ?_
  show P 23 [(0, .ref h0)] [.int 16, .ref h0] ((h0, .inr (4, [.int 0, .ref q7, .ref q15, .null, .null, .null, .int 0, .null, .null])) :: (([] ++ [(q7, .inl (cyI, 16, .inl (fun _ => 0)))]) ++ [(q15, .inl (cyI, 16, .inl (fun _ => 0)))])) 2 32
  refine cx_newI (N := 16) h aw_I (by decide) (by decide) (by decide) (Nat.le_of_ble_eq_true rfl) (Nat.le_of_ble_eq_true rfl) dX4_init_23 (fun q23 => ?_)
  show P 25 [(0, .ref h0)] [.ref q23, .ref h0] ((h0, .inr (4, [.int 0, .ref q7, .ref q15, .null, .null, .null, .int 0, .null, .null])) :: ((([] ++ [(q7, .inl (cyI, 16, .inl (fun _ => 0)))]) ++ [(q15, .inl (cyI, 16, .inl (fun _ => 0)))]) ++ [(q23, .inl (cyI, 16, .inl (fun _ => 0)))])) 3 48
  refine cx_put h fd_X4_16 fq_X4_16 rfl rfl (Nat.le_of_ble_eq_true rfl) dX4_init_25 ?_
  show P 28 [(0, .ref h0)] [] ((h0, .inr (4, [.int 0, .ref q7, .ref q15, .ref q23, .null, .null, .int 0, .null, .null])) :: ((([] ++ [(q7, .inl (cyI, 16, .inl (fun _ => 0)))]) ++ [(q15, .inl (cyI, 16, .inl (fun _ => 0)))]) ++ [(q23, .inl (cyI, 16, .inl (fun _ => 0)))])) 3 48
  refine cx_aload h dX4_init_28 rfl 0 rfl ?_
  show P 29 [(0, .ref h0)] [.ref h0] ((h0, .inr (4, [.int 0, .ref q7, .ref q15, .ref q23, .null, .null, .int 0, .null, .null])) :: ((([] ++ [(q7, .inl (cyI, 16, .inl (fun _ => 0)))]) ++ [(q15, .inl (cyI, 16, .inl (fun _ => 0)))]) ++ [(q23, .inl (cyI, 16, .inl (fun _ => 0)))])) 3 48
  refine cx_bipush (v := 16) h dX4_init_29 (by decide) ?_
  show P 31 [(0, .ref h0)] [.int 16, .ref h0] ((h0, .inr (4, [.int 0, .ref q7, .ref q15, .ref q23, .null, .null, .int 0, .null, .null])) :: ((([] ++ [(q7, .inl (cyI, 16, .inl (fun _ => 0)))]) ++ [(q15, .inl (cyI, 16, .inl (fun _ => 0)))]) ++ [(q23, .inl (cyI, 16, .inl (fun _ => 0)))])) 3 48
  refine cx_newI (N := 16) h aw_I (by decide) (by decide) (by decide) (Nat.le_of_ble_eq_true rfl) (Nat.le_of_ble_eq_true rfl) dX4_init_31 (fun q31 => ?_)
  show P 33 [(0, .ref h0)] [.ref q31, .ref h0] ((h0, .inr (4, [.int 0, .ref q7, .ref q15, .ref q23, .null, .null, .int 0, .null, .null])) :: (((([] ++ [(q7, .inl (cyI, 16, .inl (fun _ => 0)))]) ++ [(q15, .inl (cyI, 16, .inl (fun _ => 0)))]) ++ [(q23, .inl (cyI, 16, .inl (fun _ => 0)))]) ++ [(q31, .inl (cyI, 16, .inl (fun _ => 0)))])) 4 64
  refine cx_put h fd_X4_19 fq_X4_19 rfl rfl (Nat.le_of_ble_eq_true rfl) dX4_init_33 ?_
  show P 36 [(0, .ref h0)] [] ((h0, .inr (4, [.int 0, .ref q7, .ref q15, .ref q23, .ref q31, .null, .int 0, .null, .null])) :: (((([] ++ [(q7, .inl (cyI, 16, .inl (fun _ => 0)))]) ++ [(q15, .inl (cyI, 16, .inl (fun _ => 0)))]) ++ [(q23, .inl (cyI, 16, .inl (fun _ => 0)))]) ++ [(q31, .inl (cyI, 16, .inl (fun _ => 0)))])) 4 64
  refine cx_aload h dX4_init_36 rfl 0 rfl ?_
  show P 37 [(0, .ref h0)] [.ref h0] ((h0, .inr (4, [.int 0, .ref q7, .ref q15, .ref q23, .ref q31, .null, .int 0, .null, .null])) :: (((([] ++ [(q7, .inl (cyI, 16, .inl (fun _ => 0)))]) ++ [(q15, .inl (cyI, 16, .inl (fun _ => 0)))]) ++ [(q23, .inl (cyI, 16, .inl (fun _ => 0)))]) ++ [(q31, .inl (cyI, 16, .inl (fun _ => 0)))])) 4 64
  refine cx_sipush (v := 240) h dX4_init_37 (by decide) ?_
  show P 40 [(0, .ref h0)] [.int 240, .ref h0] ((h0, .inr (4, [.int 0, .ref q7, .ref q15, .ref q23, .ref q31, .null, .int 0, .null, .null])) :: (((([] ++ [(q7, .inl (cyI, 16, .inl (fun _ => 0)))]) ++ [(q15, .inl (cyI, 16, .inl (fun _ => 0)))]) ++ [(q23, .inl (cyI, 16, .inl (fun _ => 0)))]) ++ [(q31, .inl (cyI, 16, .inl (fun _ => 0)))])) 4 64
  refine cx_newI (N := 240) h aw_I (by decide) (by decide) (by decide) (Nat.le_of_ble_eq_true rfl) (Nat.le_of_ble_eq_true rfl) dX4_init_40 (fun q40 => ?_)
  show P 42 [(0, .ref h0)] [.ref q40, .ref h0] ((h0, .inr (4, [.int 0, .ref q7, .ref q15, .ref q23, .ref q31, .null, .int 0, .null, .null])) :: ((((([] ++ [(q7, .inl (cyI, 16, .inl (fun _ => 0)))]) ++ [(q15, .inl (cyI, 16, .inl (fun _ => 0)))]) ++ [(q23, .inl (cyI, 16, .inl (fun _ => 0)))]) ++ [(q31, .inl (cyI, 16, .inl (fun _ => 0)))]) ++ [(q40, .inl (cyI, 240, .inl (fun _ => 0)))])) 5 304
  refine cx_put h fd_X4_22 fq_X4_22 rfl rfl (Nat.le_of_ble_eq_true rfl) dX4_init_42 ?_
  show P 45 [(0, .ref h0)] [] ((h0, .inr (4, [.int 0, .ref q7, .ref q15, .ref q23, .ref q31, .ref q40, .int 0, .null, .null])) :: ((((([] ++ [(q7, .inl (cyI, 16, .inl (fun _ => 0)))]) ++ [(q15, .inl (cyI, 16, .inl (fun _ => 0)))]) ++ [(q23, .inl (cyI, 16, .inl (fun _ => 0)))]) ++ [(q31, .inl (cyI, 16, .inl (fun _ => 0)))]) ++ [(q40, .inl (cyI, 240, .inl (fun _ => 0)))])) 5 304
  refine cx_aload h dX4_init_45 rfl 0 rfl ?_
  show P 46 [(0, .ref h0)] [.ref h0] ((h0, .inr (4, [.int 0, .ref q7, .ref q15, .ref q23, .ref q31, .ref q40, .int 0, .null, .null])) :: ((((([] ++ [(q7, .inl (cyI, 16, .inl (fun _ => 0)))]) ++ [(q15, .inl (cyI, 16, .inl (fun _ => 0)))]) ++ [(q23, .inl (cyI, 16, .inl (fun _ => 0)))]) ++ [(q31, .inl (cyI, 16, .inl (fun _ => 0)))]) ++ [(q40, .inl (cyI, 240, .inl (fun _ => 0)))])) 5 304
  refine cx_bipush (v := 32) h dX4_init_46 (by decide) ?_
  show P 48 [(0, .ref h0)] [.int 32, .ref h0] ((h0, .inr (4, [.int 0, .ref q7, .ref q15, .ref q23, .ref q31, .ref q40, .int 0, .null, .null])) :: ((((([] ++ [(q7, .inl (cyI, 16, .inl (fun _ => 0)))]) ++ [(q15, .inl (cyI, 16, .inl (fun _ => 0)))]) ++ [(q23, .inl (cyI, 16, .inl (fun _ => 0)))]) ++ [(q31, .inl (cyI, 16, .inl (fun _ => 0)))]) ++ [(q40, .inl (cyI, 240, .inl (fun _ => 0)))])) 5 304
  refine cx_newJ (N := 32) h aw_J (by decide) (by decide) (by decide) (Nat.le_of_ble_eq_true rfl) (Nat.le_of_ble_eq_true rfl) dX4_init_48 (fun q48 => ?_)
  show P 50 [(0, .ref h0)] [.ref q48, .ref h0] ((h0, .inr (4, [.int 0, .ref q7, .ref q15, .ref q23, .ref q31, .ref q40, .int 0, .null, .null])) :: (((((([] ++ [(q7, .inl (cyI, 16, .inl (fun _ => 0)))]) ++ [(q15, .inl (cyI, 16, .inl (fun _ => 0)))]) ++ [(q23, .inl (cyI, 16, .inl (fun _ => 0)))]) ++ [(q31, .inl (cyI, 16, .inl (fun _ => 0)))]) ++ [(q40, .inl (cyI, 240, .inl (fun _ => 0)))]) ++ [(q48, .inl (cyJ, 32, .inr (.inl (fun _ => 0))))])) 6 336
  refine cx_put h fd_X4_25 fq_X4_25 rfl rfl (Nat.le_of_ble_eq_true rfl) dX4_init_50 ?_
  show P 53 [(0, .ref h0)] [] ((h0, .inr (4, [.int 0, .ref q7, .ref q15, .ref q23, .ref q31, .ref q40, .int 0, .ref q48, .null])) :: (((((([] ++ [(q7, .inl (cyI, 16, .inl (fun _ => 0)))]) ++ [(q15, .inl (cyI, 16, .inl (fun _ => 0)))]) ++ [(q23, .inl (cyI, 16, .inl (fun _ => 0)))]) ++ [(q31, .inl (cyI, 16, .inl (fun _ => 0)))]) ++ [(q40, .inl (cyI, 240, .inl (fun _ => 0)))]) ++ [(q48, .inl (cyJ, 32, .inr (.inl (fun _ => 0))))])) 6 336
  refine cx_aload h dX4_init_53 rfl 0 rfl ?_
  show P 54 [(0, .ref h0)] [.ref h0] ((h0, .inr (4, [.int 0, .ref q7, .ref q15, .ref q23, .ref q31, .ref q40, .int 0, .ref q48, .null])) :: (((((([] ++ [(q7, .inl (cyI, 16, .inl (fun _ => 0)))]) ++ [(q15, .inl (cyI, 16, .inl (fun _ => 0)))]) ++ [(q23, .inl (cyI, 16, .inl (fun _ => 0)))]) ++ [(q31, .inl (cyI, 16, .inl (fun _ => 0)))]) ++ [(q40, .inl (cyI, 240, .inl (fun _ => 0)))]) ++ [(q48, .inl (cyJ, 32, .inr (.inl (fun _ => 0))))])) 6 336
  refine cx_bipush (v := 26) h dX4_init_54 (by decide) ?_
  show P 56 [(0, .ref h0)] [.int 26, .ref h0] ((h0, .inr (4, [.int 0, .ref q7, .ref q15, .ref q23, .ref q31, .ref q40, .int 0, .ref q48, .null])) :: (((((([] ++ [(q7, .inl (cyI, 16, .inl (fun _ => 0)))]) ++ [(q15, .inl (cyI, 16, .inl (fun _ => 0)))]) ++ [(q23, .inl (cyI, 16, .inl (fun _ => 0)))]) ++ [(q31, .inl (cyI, 16, .inl (fun _ => 0)))]) ++ [(q40, .inl (cyI, 240, .inl (fun _ => 0)))]) ++ [(q48, .inl (cyJ, 32, .inr (.inl (fun _ => 0))))])) 6 336
  refine cx_newI (N := 26) h aw_I (by decide) (by decide) (by decide) (Nat.le_of_ble_eq_true rfl) (Nat.le_of_ble_eq_true rfl) dX4_init_56 (fun q56 => ?_)
  show P 58 [(0, .ref h0)] [.ref q56, .ref h0] ((h0, .inr (4, [.int 0, .ref q7, .ref q15, .ref q23, .ref q31, .ref q40, .int 0, .ref q48, .null])) :: ((((((([] ++ [(q7, .inl (cyI, 16, .inl (fun _ => 0)))]) ++ [(q15, .inl (cyI, 16, .inl (fun _ => 0)))]) ++ [(q23, .inl (cyI, 16, .inl (fun _ => 0)))]) ++ [(q31, .inl (cyI, 16, .inl (fun _ => 0)))]) ++ [(q40, .inl (cyI, 240, .inl (fun _ => 0)))]) ++ [(q48, .inl (cyJ, 32, .inr (.inl (fun _ => 0))))]) ++ [(q56, .inl (cyI, 26, .inl (fun _ => 0)))])) 7 362
  refine cx_put h fd_X4_29 fq_X4_29 rfl rfl (Nat.le_of_ble_eq_true rfl) dX4_init_58 ?_
  show P 61 [(0, .ref h0)] [] ((h0, .inr (4, [.int 0, .ref q7, .ref q15, .ref q23, .ref q31, .ref q40, .int 0, .ref q48, .ref q56])) :: ((((((([] ++ [(q7, .inl (cyI, 16, .inl (fun _ => 0)))]) ++ [(q15, .inl (cyI, 16, .inl (fun _ => 0)))]) ++ [(q23, .inl (cyI, 16, .inl (fun _ => 0)))]) ++ [(q31, .inl (cyI, 16, .inl (fun _ => 0)))]) ++ [(q40, .inl (cyI, 240, .inl (fun _ => 0)))]) ++ [(q48, .inl (cyJ, 32, .inr (.inl (fun _ => 0))))]) ++ [(q56, .inl (cyI, 26, .inl (fun _ => 0)))])) 7 362
  exact cx_ret h (fun i => if i = 1 then (fun _ => q7) else if i = 2 then (fun _ => q15) else if i = 3 then (fun _ => q23) else if i = 4 then (fun _ => q31) else if i = 5 then (fun _ => q40) else if i = 6 then (fun _ => q48) else if i = 7 then (fun _ => q56) else fun _ => 0) rfl (Nat.le_of_ble_eq_true rfl) (Nat.le_of_ble_eq_true rfl) dX4_init_61
theorem df_X7 : ∀ j, j < 8 → defaultValue (tyX7 j) = vp_V [.null, .null, .null, .null, .null, .int 0, .int 0, .int 0] j := by
  intro j hj
  rcases (show j = 0 ∨ j = 1 ∨ j = 2 ∨ j = 3 ∨ j = 4 ∨ j = 5 ∨ j = 6 ∨ j = 7 by omega) with rfl | rfl | rfl | rfl | rfl | rfl | rfl | rfl <;> rfl
theorem fd_X7_11 : FD RX7 11 7 0 := ⟨RX7, TX7, 8, rfl, by decide, wsin_X7, tw 325 (by decide +kernel) rfl⟩
theorem fq_X7_11 : FQ RX7 7 0 (.array .int) true := ⟨RX7, TX7, 8, tyX7, rfl, tyX7_ok, nmX7, rfl, rfl, by decide +kernel⟩
theorem fd_X7_15 : FD RX7 15 7 1 := ⟨RX7, TX7, 8, rfl, by decide, wsin_X7, tw 327 (by decide +kernel) rfl⟩
theorem fq_X7_15 : FQ RX7 7 1 (.array .int) true := ⟨RX7, TX7, 8, tyX7, rfl, tyX7_ok, nmX7, rfl, rfl, by decide +kernel⟩
theorem fd_X7_18 : FD RX7 18 7 2 := ⟨RX7, TX7, 8, rfl, by decide, wsin_X7, tw 329 (by decide +kernel) rfl⟩
theorem fq_X7_18 : FQ RX7 7 2 (.array .int) true := ⟨RX7, TX7, 8, tyX7, rfl, tyX7_ok, nmX7, rfl, rfl, by decide +kernel⟩
theorem fd_X7_21 : FD RX7 21 7 3 := ⟨RX7, TX7, 8, rfl, by decide, wsin_X7, tw 331 (by decide +kernel) rfl⟩
theorem fq_X7_21 : FQ RX7 7 3 (.array .int) true := ⟨RX7, TX7, 8, tyX7, rfl, tyX7_ok, nmX7, rfl, rfl, by decide +kernel⟩
theorem fd_X7_24 : FD RX7 24 7 4 := ⟨RX7, TX7, 8, rfl, by decide, wsin_X7, tw 333 (by decide +kernel) rfl⟩
theorem fq_X7_24 : FQ RX7 7 4 (.array .int) false := ⟨RX7, TX7, 8, tyX7, rfl, tyX7_ok, nmX7, rfl, rfl, by decide +kernel⟩
def w_X7 (cyI cyJ cyO : ClassId) (h0 : Nat) (u : (Nat → Nat → Nat)) : va_W := (h0, .inr (7, [.ref (u 1 0), .ref (u 2 0), .ref (u 3 0), .ref (u 4 0), .ref (u 5 0), .int 0, .int 0, .int 0])) :: ((((([] ++ [((u 1 0), .inl (cyI, 20, .inl (fun _ => 0)))]) ++ [((u 2 0), .inl (cyI, 20, .inl (fun _ => 0)))]) ++ [((u 3 0), .inl (cyI, 20, .inl (fun _ => 0)))]) ++ [((u 4 0), .inl (cyI, 20, .inl (fun _ => 0)))]) ++ [((u 5 0), .inl (cyI, 0, .inl (fun _ => 0)))])
set_option maxRecDepth 20000 in
theorem k_X7_init (l : Launch) (D : va_G) (cyB cyI cyJ cyO : ClassId) : Kc l D (Ety cyB cyI cyJ cyO) yX7_init cX7_init 1 1 5 80 7 [.null, .null, .null, .null, .null, .int 0, .int 0, .int 0] (w_X7 cyI cyJ cyO) := by
  refine Kc.of (by decide) rfl (by decide) (fun h0 P h => ?_)
  refine cx_aload h dX7_init_0 rfl 0 rfl ?_
  show P 1 [(0, .ref h0)] [.ref h0] ((h0, .inr (7, [.null, .null, .null, .null, .null, .int 0, .int 0, .int 0])) :: []) 0 0
  refine cx_obj h (tw 324 (by decide +kernel) rfl) ow_1 ow_2 (by decide) dX7_init_1 ?_
  show P 4 [(0, .ref h0)] [] ((h0, .inr (7, [.null, .null, .null, .null, .null, .int 0, .int 0, .int 0])) :: []) 0 0
  refine cx_aload h dX7_init_4 rfl 0 rfl ?_
  show P 5 [(0, .ref h0)] [.ref h0] ((h0, .inr (7, [.null, .null, .null, .null, .null, .int 0, .int 0, .int 0])) :: []) 0 0
  refine cx_bipush (v := 20) h dX7_init_5 (by decide) ?_
  show P 7 [(0, .ref h0)] [.int 20, .ref h0] ((h0, .inr (7, [.null, .null, .null, .null, .null, .int 0, .int 0, .int 0])) :: []) 0 0
  refine cx_newI (N := 20) h aw_I (by decide) (by decide) (by decide) (Nat.le_of_ble_eq_true rfl) (Nat.le_of_ble_eq_true rfl) dX7_init_7 (fun q7 => ?_)
  show P 9 [(0, .ref h0)] [.ref q7, .ref h0] ((h0, .inr (7, [.null, .null, .null, .null, .null, .int 0, .int 0, .int 0])) :: ([] ++ [(q7, .inl (cyI, 20, .inl (fun _ => 0)))])) 1 20
  refine cx_put h fd_X7_11 fq_X7_11 rfl rfl (Nat.le_of_ble_eq_true rfl) dX7_init_9 ?_
  show P 12 [(0, .ref h0)] [] ((h0, .inr (7, [.ref q7, .null, .null, .null, .null, .int 0, .int 0, .int 0])) :: ([] ++ [(q7, .inl (cyI, 20, .inl (fun _ => 0)))])) 1 20
  refine cx_aload h dX7_init_12 rfl 0 rfl ?_
  show P 13 [(0, .ref h0)] [.ref h0] ((h0, .inr (7, [.ref q7, .null, .null, .null, .null, .int 0, .int 0, .int 0])) :: ([] ++ [(q7, .inl (cyI, 20, .inl (fun _ => 0)))])) 1 20
  refine cx_bipush (v := 20) h dX7_init_13 (by decide) ?_
  show P 15 [(0, .ref h0)] [.int 20, .ref h0] ((h0, .inr (7, [.ref q7, .null, .null, .null, .null, .int 0, .int 0, .int 0])) :: ([] ++ [(q7, .inl (cyI, 20, .inl (fun _ => 0)))])) 1 20
  refine cx_newI (N := 20) h aw_I (by decide) (by decide) (by decide) (Nat.le_of_ble_eq_true rfl) (Nat.le_of_ble_eq_true rfl) dX7_init_15 (fun q15 => ?_)
  show P 17 [(0, .ref h0)] [.ref q15, .ref h0] ((h0, .inr (7, [.ref q7, .null, .null, .null, .null, .int 0, .int 0, .int 0])) :: (([] ++ [(q7, .inl (cyI, 20, .inl (fun _ => 0)))]) ++ [(q15, .inl (cyI, 20, .inl (fun _ => 0)))])) 2 40
  refine cx_put h fd_X7_15 fq_X7_15 rfl rfl (Nat.le_of_ble_eq_true rfl) dX7_init_17 ?_
  show P 20 [(0, .ref h0)] [] ((h0, .inr (7, [.ref q7, .ref q15, .null, .null, .null, .int 0, .int 0, .int 0])) :: (([] ++ [(q7, .inl (cyI, 20, .inl (fun _ => 0)))]) ++ [(q15, .inl (cyI, 20, .inl (fun _ => 0)))])) 2 40
  refine cx_aload h dX7_init_20 rfl 0 rfl ?_
  show P 21 [(0, .ref h0)] [.ref h0] ((h0, .inr (7, [.ref q7, .ref q15, .null, .null, .null, .int 0, .int 0, .int 0])) :: (([] ++ [(q7, .inl (cyI, 20, .inl (fun _ => 0)))]) ++ [(q15, .inl (cyI, 20, .inl (fun _ => 0)))])) 2 40
  refine cx_bipush (v := 20) h dX7_init_21 (by decide) ?_
  show P 23 [(0, .ref h0)] [.int 20, .ref h0] ((h0, .inr (7, [.ref q7, .ref q15, .null, .null, .null, .int 0, .int 0, .int 0])) :: (([] ++ [(q7, .inl (cyI, 20, .inl (fun _ => 0)))]) ++ [(q15, .inl (cyI, 20, .inl (fun _ => 0)))])) 2 40
  refine cx_newI (N := 20) h aw_I (by decide) (by decide) (by decide) (Nat.le_of_ble_eq_true rfl) (Nat.le_of_ble_eq_true rfl) dX7_init_23 (fun q23 => ?_)
  show P 25 [(0, .ref h0)] [.ref q23, .ref h0] ((h0, .inr (7, [.ref q7, .ref q15, .null, .null, .null, .int 0, .int 0, .int 0])) :: ((([] ++ [(q7, .inl (cyI, 20, .inl (fun _ => 0)))]) ++ [(q15, .inl (cyI, 20, .inl (fun _ => 0)))]) ++ [(q23, .inl (cyI, 20, .inl (fun _ => 0)))])) 3 60
  refine cx_put h fd_X7_18 fq_X7_18 rfl rfl (Nat.le_of_ble_eq_true rfl) dX7_init_25 ?_
  show P 28 [(0, .ref h0)] [] ((h0, .inr (7, [.ref q7, .ref q15, .ref q23, .null, .null, .int 0, .int 0, .int 0])) :: ((([] ++ [(q7, .inl (cyI, 20, .inl (fun _ => 0)))]) ++ [(q15, .inl (cyI, 20, .inl (fun _ => 0)))]) ++ [(q23, .inl (cyI, 20, .inl (fun _ => 0)))])) 3 60
  refine cx_aload h dX7_init_28 rfl 0 rfl ?_
  show P 29 [(0, .ref h0)] [.ref h0] ((h0, .inr (7, [.ref q7, .ref q15, .ref q23, .null, .null, .int 0, .int 0, .int 0])) :: ((([] ++ [(q7, .inl (cyI, 20, .inl (fun _ => 0)))]) ++ [(q15, .inl (cyI, 20, .inl (fun _ => 0)))]) ++ [(q23, .inl (cyI, 20, .inl (fun _ => 0)))])) 3 60
  refine cx_bipush (v := 20) h dX7_init_29 (by decide) ?_
  show P 31 [(0, .ref h0)] [.int 20, .ref h0] ((h0, .inr (7, [.ref q7, .ref q15, .ref q23, .null, .null, .int 0, .int 0, .int 0])) :: ((([] ++ [(q7, .inl (cyI, 20, .inl (fun _ => 0)))]) ++ [(q15, .inl (cyI, 20, .inl (fun _ => 0)))]) ++ [(q23, .inl (cyI, 20, .inl (fun _ => 0)))])) 3 60
  refine cx_newI (N := 20) h aw_I (by decide) (by decide) (by decide) (Nat.le_of_ble_eq_true rfl) (Nat.le_of_ble_eq_true rfl) dX7_init_31 (fun q31 => ?_)
  show P 33 [(0, .ref h0)] [.ref q31, .ref h0] ((h0, .inr (7, [.ref q7, .ref q15, .ref q23, .null, .null, .int 0, .int 0, .int 0])) :: (((([] ++ [(q7, .inl (cyI, 20, .inl (fun _ => 0)))]) ++ [(q15, .inl (cyI, 20, .inl (fun _ => 0)))]) ++ [(q23, .inl (cyI, 20, .inl (fun _ => 0)))]) ++ [(q31, .inl (cyI, 20, .inl (fun _ => 0)))])) 4 80
  refine cx_put h fd_X7_21 fq_X7_21 rfl rfl (Nat.le_of_ble_eq_true rfl) dX7_init_33 ?_
  show P 36 [(0, .ref h0)] [] ((h0, .inr (7, [.ref q7, .ref q15, .ref q23, .ref q31, .null, .int 0, .int 0, .int 0])) :: (((([] ++ [(q7, .inl (cyI, 20, .inl (fun _ => 0)))]) ++ [(q15, .inl (cyI, 20, .inl (fun _ => 0)))]) ++ [(q23, .inl (cyI, 20, .inl (fun _ => 0)))]) ++ [(q31, .inl (cyI, 20, .inl (fun _ => 0)))])) 4 80
  refine cx_aload h dX7_init_36 rfl 0 rfl ?_
  show P 37 [(0, .ref h0)] [.ref h0] ((h0, .inr (7, [.ref q7, .ref q15, .ref q23, .ref q31, .null, .int 0, .int 0, .int 0])) :: (((([] ++ [(q7, .inl (cyI, 20, .inl (fun _ => 0)))]) ++ [(q15, .inl (cyI, 20, .inl (fun _ => 0)))]) ++ [(q23, .inl (cyI, 20, .inl (fun _ => 0)))]) ++ [(q31, .inl (cyI, 20, .inl (fun _ => 0)))])) 4 80
  refine cx_iconst (v := 0) h dX7_init_37 (by decide) ?_
  show P 38 [(0, .ref h0)] [.int 0, .ref h0] ((h0, .inr (7, [.ref q7, .ref q15, .ref q23, .ref q31, .null, .int 0, .int 0, .int 0])) :: (((([] ++ [(q7, .inl (cyI, 20, .inl (fun _ => 0)))]) ++ [(q15, .inl (cyI, 20, .inl (fun _ => 0)))]) ++ [(q23, .inl (cyI, 20, .inl (fun _ => 0)))]) ++ [(q31, .inl (cyI, 20, .inl (fun _ => 0)))])) 4 80
  refine cx_newI (N := 0) h aw_I (by decide) (by decide) (by decide) (Nat.le_of_ble_eq_true rfl) (Nat.le_of_ble_eq_true rfl) dX7_init_38 (fun q38 => ?_)
  show P 40 [(0, .ref h0)] [.ref q38, .ref h0] ((h0, .inr (7, [.ref q7, .ref q15, .ref q23, .ref q31, .null, .int 0, .int 0, .int 0])) :: ((((([] ++ [(q7, .inl (cyI, 20, .inl (fun _ => 0)))]) ++ [(q15, .inl (cyI, 20, .inl (fun _ => 0)))]) ++ [(q23, .inl (cyI, 20, .inl (fun _ => 0)))]) ++ [(q31, .inl (cyI, 20, .inl (fun _ => 0)))]) ++ [(q38, .inl (cyI, 0, .inl (fun _ => 0)))])) 5 80
  refine cx_put h fd_X7_24 fq_X7_24 rfl rfl (Nat.le_of_ble_eq_true rfl) dX7_init_40 ?_
  show P 43 [(0, .ref h0)] [] ((h0, .inr (7, [.ref q7, .ref q15, .ref q23, .ref q31, .ref q38, .int 0, .int 0, .int 0])) :: ((((([] ++ [(q7, .inl (cyI, 20, .inl (fun _ => 0)))]) ++ [(q15, .inl (cyI, 20, .inl (fun _ => 0)))]) ++ [(q23, .inl (cyI, 20, .inl (fun _ => 0)))]) ++ [(q31, .inl (cyI, 20, .inl (fun _ => 0)))]) ++ [(q38, .inl (cyI, 0, .inl (fun _ => 0)))])) 5 80
  exact cx_ret h (fun i => if i = 1 then (fun _ => q7) else if i = 2 then (fun _ => q15) else if i = 3 then (fun _ => q23) else if i = 4 then (fun _ => q31) else if i = 5 then (fun _ => q38) else fun _ => 0) rfl (Nat.le_of_ble_eq_true rfl) (Nat.le_of_ble_eq_true rfl) dX7_init_43
theorem df_X2 : ∀ j, j < 5 → defaultValue (tyX2 j) = vp_V [.null, .null, .null, .int 0, .int 0] j := by
  intro j hj
  rcases (show j = 0 ∨ j = 1 ∨ j = 2 ∨ j = 3 ∨ j = 4 by omega) with rfl | rfl | rfl | rfl | rfl <;> rfl
theorem fd_X2_9 : FD RX2 9 2 0 := ⟨RX2, TX2, 5, rfl, by decide, wsin_X2, tw 361 (by decide +kernel) rfl⟩
theorem fq_X2_9 : FQ RX2 2 0 (.array .int) true := ⟨RX2, TX2, 5, tyX2, rfl, tyX2_ok, nmX2, rfl, rfl, by decide +kernel⟩
theorem fd_X2_17 : FD RX2 17 2 1 := ⟨RX2, TX2, 5, rfl, by decide, wsin_X2, tw 362 (by decide +kernel) rfl⟩
theorem fq_X2_17 : FQ RX2 2 1 (.array (.array .int)) true := ⟨RX2, TX2, 5, tyX2, rfl, tyX2_ok, nmX2, rfl, rfl, by decide +kernel⟩
theorem fd_X2_20 : FD RX2 20 2 2 := ⟨RX2, TX2, 5, rfl, by decide, wsin_X2, tw 363 (by decide +kernel) rfl⟩
theorem fq_X2_20 : FQ RX2 2 2 (.array .int) true := ⟨RX2, TX2, 5, tyX2, rfl, tyX2_ok, nmX2, rfl, rfl, by decide +kernel⟩
def w_X2 (cyI cyJ cyO : ClassId) (h0 : Nat) (u : (Nat → Nat → Nat)) : va_W := (h0, .inr (2, [.ref (u 1 0), .ref ((u 2) 0), .ref (u 3 0), .int 0, .int 0])) :: ((([] ++ [((u 1 0), .inl (cyI, 12, .inl (fun _ => 0)))]) ++ gdW cyO cyI 5 6 (u 2)) ++ [((u 3 0), .inl (cyI, 64, .inl (fun _ => 0)))])
set_option maxRecDepth 20000 in
theorem k_X2_init (l : Launch) (D : va_G) (cyB cyI cyJ cyO : ClassId) : Kc l D (Ety cyB cyI cyJ cyO) yX2_init cX2_init 1 1 8 111 2 [.null, .null, .null, .int 0, .int 0] (w_X2 cyI cyJ cyO) := by
  refine Kc.of (by decide) rfl (by decide) (fun h0 P h => ?_)
  refine cx_aload h dX2_init_0 rfl 0 rfl ?_
  show P 1 [(0, .ref h0)] [.ref h0] ((h0, .inr (2, [.null, .null, .null, .int 0, .int 0])) :: []) 0 0
  refine cx_obj h (tw 359 (by decide +kernel) rfl) ow_1 ow_2 (by decide) dX2_init_1 ?_
  show P 4 [(0, .ref h0)] [] ((h0, .inr (2, [.null, .null, .null, .int 0, .int 0])) :: []) 0 0
  refine cx_aload h dX2_init_4 rfl 0 rfl ?_
  show P 5 [(0, .ref h0)] [.ref h0] ((h0, .inr (2, [.null, .null, .null, .int 0, .int 0])) :: []) 0 0
  refine cx_bipush (v := 12) h dX2_init_5 (by decide) ?_
  show P 7 [(0, .ref h0)] [.int 12, .ref h0] ((h0, .inr (2, [.null, .null, .null, .int 0, .int 0])) :: []) 0 0
  refine cx_newI (N := 12) h aw_I (by decide) (by decide) (by decide) (Nat.le_of_ble_eq_true rfl) (Nat.le_of_ble_eq_true rfl) dX2_init_7 (fun q7 => ?_)
  show P 9 [(0, .ref h0)] [.ref q7, .ref h0] ((h0, .inr (2, [.null, .null, .null, .int 0, .int 0])) :: ([] ++ [(q7, .inl (cyI, 12, .inl (fun _ => 0)))])) 1 12
  refine cx_put h fd_X2_9 fq_X2_9 rfl rfl (Nat.le_of_ble_eq_true rfl) dX2_init_9 ?_
  show P 12 [(0, .ref h0)] [] ((h0, .inr (2, [.ref q7, .null, .null, .int 0, .int 0])) :: ([] ++ [(q7, .inl (cyI, 12, .inl (fun _ => 0)))])) 1 12
  refine cx_aload h dX2_init_12 rfl 0 rfl ?_
  show P 13 [(0, .ref h0)] [.ref h0] ((h0, .inr (2, [.ref q7, .null, .null, .int 0, .int 0])) :: ([] ++ [(q7, .inl (cyI, 12, .inl (fun _ => 0)))])) 1 12
  refine cx_iconst (v := 5) h dX2_init_13 (by decide) ?_
  show P 14 [(0, .ref h0)] [.int 5, .ref h0] ((h0, .inr (2, [.ref q7, .null, .null, .int 0, .int 0])) :: ([] ++ [(q7, .inl (cyI, 12, .inl (fun _ => 0)))])) 1 12
  refine cx_bipush (v := 6) h dX2_init_14 (by decide) ?_
  show P 16 [(0, .ref h0)] [.int 6, .int 5, .ref h0] ((h0, .inr (2, [.ref q7, .null, .null, .int 0, .int 0])) :: ([] ++ [(q7, .inl (cyI, 12, .inl (fun _ => 0)))])) 1 12
  refine cx_grid (N := 5) (K := 6) h aw_I (tw 360 (by decide +kernel) rfl) (by decide) (by decide) (by decide) (by decide) (by decide) (by decide) (Nat.le_of_ble_eq_true rfl) (Nat.le_of_ble_eq_true rfl) dX2_init_16 (fun r16 => ?_)
  show P 20 [(0, .ref h0)] [.ref (r16 0), .ref h0] ((h0, .inr (2, [.ref q7, .null, .null, .int 0, .int 0])) :: (([] ++ [(q7, .inl (cyI, 12, .inl (fun _ => 0)))]) ++ gdW cyO cyI 5 6 r16)) 7 47
  refine cx_put h fd_X2_17 fq_X2_17 rfl rfl (Nat.le_of_ble_eq_true rfl) dX2_init_20 ?_
  show P 23 [(0, .ref h0)] [] ((h0, .inr (2, [.ref q7, .ref (r16 0), .null, .int 0, .int 0])) :: (([] ++ [(q7, .inl (cyI, 12, .inl (fun _ => 0)))]) ++ gdW cyO cyI 5 6 r16)) 7 47
  refine cx_aload h dX2_init_23 rfl 0 rfl ?_
  show P 24 [(0, .ref h0)] [.ref h0] ((h0, .inr (2, [.ref q7, .ref (r16 0), .null, .int 0, .int 0])) :: (([] ++ [(q7, .inl (cyI, 12, .inl (fun _ => 0)))]) ++ gdW cyO cyI 5 6 r16)) 7 47
  refine cx_bipush (v := 64) h dX2_init_24 (by decide) ?_
  show P 26 [(0, .ref h0)] [.int 64, .ref h0] ((h0, .inr (2, [.ref q7, .ref (r16 0), .null, .int 0, .int 0])) :: (([] ++ [(q7, .inl (cyI, 12, .inl (fun _ => 0)))]) ++ gdW cyO cyI 5 6 r16)) 7 47
  refine cx_newI (N := 64) h aw_I (by decide) (by decide) (by decide) (Nat.le_of_ble_eq_true rfl) (Nat.le_of_ble_eq_true rfl) dX2_init_26 (fun q26 => ?_)
  show P 28 [(0, .ref h0)] [.ref q26, .ref h0] ((h0, .inr (2, [.ref q7, .ref (r16 0), .null, .int 0, .int 0])) :: ((([] ++ [(q7, .inl (cyI, 12, .inl (fun _ => 0)))]) ++ gdW cyO cyI 5 6 r16) ++ [(q26, .inl (cyI, 64, .inl (fun _ => 0)))])) 8 111
  refine cx_put h fd_X2_20 fq_X2_20 rfl rfl (Nat.le_of_ble_eq_true rfl) dX2_init_28 ?_
  show P 31 [(0, .ref h0)] [] ((h0, .inr (2, [.ref q7, .ref (r16 0), .ref q26, .int 0, .int 0])) :: ((([] ++ [(q7, .inl (cyI, 12, .inl (fun _ => 0)))]) ++ gdW cyO cyI 5 6 r16) ++ [(q26, .inl (cyI, 64, .inl (fun _ => 0)))])) 8 111
  exact cx_ret h (fun i => if i = 1 then (fun _ => q7) else if i = 2 then (r16) else if i = 3 then (fun _ => q26) else fun _ => 0) rfl (Nat.le_of_ble_eq_true rfl) (Nat.le_of_ble_eq_true rfl) dX2_init_31
theorem df_X1 : ∀ j, j < 5 → defaultValue (tyX1 j) = vp_V [.null, .null, .null, .null, .int 0] j := by
  intro j hj
  rcases (show j = 0 ∨ j = 1 ∨ j = 2 ∨ j = 3 ∨ j = 4 by omega) with rfl | rfl | rfl | rfl | rfl <;> rfl
theorem fd_X1_13 : FD RX1 13 1 0 := ⟨RX1, TX1, 5, rfl, by decide, wsin_X1, tw 385 (by decide +kernel) rfl⟩
theorem fq_X1_13 : FQ RX1 1 0 (.array (.array .int)) true := ⟨RX1, TX1, 5, tyX1, rfl, tyX1_ok, nmX1, rfl, rfl, by decide +kernel⟩
theorem fd_X1_16 : FD RX1 16 1 1 := ⟨RX1, TX1, 5, rfl, by decide, wsin_X1, tw 386 (by decide +kernel) rfl⟩
theorem fq_X1_16 : FQ RX1 1 1 (.array .int) true := ⟨RX1, TX1, 5, tyX1, rfl, tyX1_ok, nmX1, rfl, rfl, by decide +kernel⟩
theorem fd_X1_20 : FD RX1 20 1 2 := ⟨RX1, TX1, 5, rfl, by decide, wsin_X1, tw 388 (by decide +kernel) rfl⟩
theorem fq_X1_20 : FQ RX1 1 2 (.array .int) true := ⟨RX1, TX1, 5, tyX1, rfl, tyX1_ok, nmX1, rfl, rfl, by decide +kernel⟩
theorem fd_X1_23 : FD RX1 23 1 3 := ⟨RX1, TX1, 5, rfl, by decide, wsin_X1, tw 389 (by decide +kernel) rfl⟩
theorem fq_X1_23 : FQ RX1 1 3 (.array .int) true := ⟨RX1, TX1, 5, tyX1, rfl, tyX1_ok, nmX1, rfl, rfl, by decide +kernel⟩
def w_X1 (cyI cyJ cyO : ClassId) (h0 : Nat) (u : (Nat → Nat → Nat)) : va_W := (h0, .inr (1, [.ref ((u 1) 0), .ref (u 2 0), .ref (u 3 0), .ref (u 4 0), .int 0])) :: (((([] ++ gdW cyO cyI 6 40 (u 1)) ++ [((u 2 0), .inl (cyI, 6, .inl (fun _ => 0)))]) ++ [((u 3 0), .inl (cyI, 41, .inl (fun _ => 0)))]) ++ [((u 4 0), .inl (cyI, 6, .inl (fun _ => 0)))])
set_option maxRecDepth 20000 in
theorem k_X1_init (l : Launch) (D : va_G) (cyB cyI cyJ cyO : ClassId) : Kc l D (Ety cyB cyI cyJ cyO) yX1_init cX1_init 1 1 10 299 1 [.null, .null, .null, .null, .int 0] (w_X1 cyI cyJ cyO) := by
  refine Kc.of (by decide) rfl (by decide) (fun h0 P h => ?_)
  refine cx_aload h dX1_init_0 rfl 0 rfl ?_
  show P 1 [(0, .ref h0)] [.ref h0] ((h0, .inr (1, [.null, .null, .null, .null, .int 0])) :: []) 0 0
  refine cx_obj h (tw 383 (by decide +kernel) rfl) ow_1 ow_2 (by decide) dX1_init_1 ?_
  show P 4 [(0, .ref h0)] [] ((h0, .inr (1, [.null, .null, .null, .null, .int 0])) :: []) 0 0
  refine cx_aload h dX1_init_4 rfl 0 rfl ?_
  show P 5 [(0, .ref h0)] [.ref h0] ((h0, .inr (1, [.null, .null, .null, .null, .int 0])) :: []) 0 0
  refine cx_bipush (v := 6) h dX1_init_5 (by decide) ?_
  show P 7 [(0, .ref h0)] [.int 6, .ref h0] ((h0, .inr (1, [.null, .null, .null, .null, .int 0])) :: []) 0 0
  refine cx_bipush (v := 40) h dX1_init_7 (by decide) ?_
  show P 9 [(0, .ref h0)] [.int 40, .int 6, .ref h0] ((h0, .inr (1, [.null, .null, .null, .null, .int 0])) :: []) 0 0
  refine cx_grid (N := 6) (K := 40) h aw_I (tw 384 (by decide +kernel) rfl) (by decide) (by decide) (by decide) (by decide) (by decide) (by decide) (Nat.le_of_ble_eq_true rfl) (Nat.le_of_ble_eq_true rfl) dX1_init_9 (fun r9 => ?_)
  show P 13 [(0, .ref h0)] [.ref (r9 0), .ref h0] ((h0, .inr (1, [.null, .null, .null, .null, .int 0])) :: ([] ++ gdW cyO cyI 6 40 r9)) 7 246
  refine cx_put h fd_X1_13 fq_X1_13 rfl rfl (Nat.le_of_ble_eq_true rfl) dX1_init_13 ?_
  show P 16 [(0, .ref h0)] [] ((h0, .inr (1, [.ref (r9 0), .null, .null, .null, .int 0])) :: ([] ++ gdW cyO cyI 6 40 r9)) 7 246
  refine cx_aload h dX1_init_16 rfl 0 rfl ?_
  show P 17 [(0, .ref h0)] [.ref h0] ((h0, .inr (1, [.ref (r9 0), .null, .null, .null, .int 0])) :: ([] ++ gdW cyO cyI 6 40 r9)) 7 246
  refine cx_bipush (v := 6) h dX1_init_17 (by decide) ?_
  show P 19 [(0, .ref h0)] [.int 6, .ref h0] ((h0, .inr (1, [.ref (r9 0), .null, .null, .null, .int 0])) :: ([] ++ gdW cyO cyI 6 40 r9)) 7 246
  refine cx_newI (N := 6) h aw_I (by decide) (by decide) (by decide) (Nat.le_of_ble_eq_true rfl) (Nat.le_of_ble_eq_true rfl) dX1_init_19 (fun q19 => ?_)
  show P 21 [(0, .ref h0)] [.ref q19, .ref h0] ((h0, .inr (1, [.ref (r9 0), .null, .null, .null, .int 0])) :: (([] ++ gdW cyO cyI 6 40 r9) ++ [(q19, .inl (cyI, 6, .inl (fun _ => 0)))])) 8 252
  refine cx_put h fd_X1_16 fq_X1_16 rfl rfl (Nat.le_of_ble_eq_true rfl) dX1_init_21 ?_
  show P 24 [(0, .ref h0)] [] ((h0, .inr (1, [.ref (r9 0), .ref q19, .null, .null, .int 0])) :: (([] ++ gdW cyO cyI 6 40 r9) ++ [(q19, .inl (cyI, 6, .inl (fun _ => 0)))])) 8 252
  refine cx_aload h dX1_init_24 rfl 0 rfl ?_
  show P 25 [(0, .ref h0)] [.ref h0] ((h0, .inr (1, [.ref (r9 0), .ref q19, .null, .null, .int 0])) :: (([] ++ gdW cyO cyI 6 40 r9) ++ [(q19, .inl (cyI, 6, .inl (fun _ => 0)))])) 8 252
  refine cx_bipush (v := 41) h dX1_init_25 (by decide) ?_
  show P 27 [(0, .ref h0)] [.int 41, .ref h0] ((h0, .inr (1, [.ref (r9 0), .ref q19, .null, .null, .int 0])) :: (([] ++ gdW cyO cyI 6 40 r9) ++ [(q19, .inl (cyI, 6, .inl (fun _ => 0)))])) 8 252
  refine cx_newI (N := 41) h aw_I (by decide) (by decide) (by decide) (Nat.le_of_ble_eq_true rfl) (Nat.le_of_ble_eq_true rfl) dX1_init_27 (fun q27 => ?_)
  show P 29 [(0, .ref h0)] [.ref q27, .ref h0] ((h0, .inr (1, [.ref (r9 0), .ref q19, .null, .null, .int 0])) :: ((([] ++ gdW cyO cyI 6 40 r9) ++ [(q19, .inl (cyI, 6, .inl (fun _ => 0)))]) ++ [(q27, .inl (cyI, 41, .inl (fun _ => 0)))])) 9 293
  refine cx_put h fd_X1_20 fq_X1_20 rfl rfl (Nat.le_of_ble_eq_true rfl) dX1_init_29 ?_
  show P 32 [(0, .ref h0)] [] ((h0, .inr (1, [.ref (r9 0), .ref q19, .ref q27, .null, .int 0])) :: ((([] ++ gdW cyO cyI 6 40 r9) ++ [(q19, .inl (cyI, 6, .inl (fun _ => 0)))]) ++ [(q27, .inl (cyI, 41, .inl (fun _ => 0)))])) 9 293
  refine cx_aload h dX1_init_32 rfl 0 rfl ?_
  show P 33 [(0, .ref h0)] [.ref h0] ((h0, .inr (1, [.ref (r9 0), .ref q19, .ref q27, .null, .int 0])) :: ((([] ++ gdW cyO cyI 6 40 r9) ++ [(q19, .inl (cyI, 6, .inl (fun _ => 0)))]) ++ [(q27, .inl (cyI, 41, .inl (fun _ => 0)))])) 9 293
  refine cx_bipush (v := 6) h dX1_init_33 (by decide) ?_
  show P 35 [(0, .ref h0)] [.int 6, .ref h0] ((h0, .inr (1, [.ref (r9 0), .ref q19, .ref q27, .null, .int 0])) :: ((([] ++ gdW cyO cyI 6 40 r9) ++ [(q19, .inl (cyI, 6, .inl (fun _ => 0)))]) ++ [(q27, .inl (cyI, 41, .inl (fun _ => 0)))])) 9 293
  refine cx_newI (N := 6) h aw_I (by decide) (by decide) (by decide) (Nat.le_of_ble_eq_true rfl) (Nat.le_of_ble_eq_true rfl) dX1_init_35 (fun q35 => ?_)
  show P 37 [(0, .ref h0)] [.ref q35, .ref h0] ((h0, .inr (1, [.ref (r9 0), .ref q19, .ref q27, .null, .int 0])) :: (((([] ++ gdW cyO cyI 6 40 r9) ++ [(q19, .inl (cyI, 6, .inl (fun _ => 0)))]) ++ [(q27, .inl (cyI, 41, .inl (fun _ => 0)))]) ++ [(q35, .inl (cyI, 6, .inl (fun _ => 0)))])) 10 299
  refine cx_put h fd_X1_23 fq_X1_23 rfl rfl (Nat.le_of_ble_eq_true rfl) dX1_init_37 ?_
  show P 40 [(0, .ref h0)] [] ((h0, .inr (1, [.ref (r9 0), .ref q19, .ref q27, .ref q35, .int 0])) :: (((([] ++ gdW cyO cyI 6 40 r9) ++ [(q19, .inl (cyI, 6, .inl (fun _ => 0)))]) ++ [(q27, .inl (cyI, 41, .inl (fun _ => 0)))]) ++ [(q35, .inl (cyI, 6, .inl (fun _ => 0)))])) 10 299
  exact cx_ret h (fun i => if i = 1 then (r9) else if i = 2 then (fun _ => q19) else if i = 3 then (fun _ => q27) else if i = 4 then (fun _ => q35) else fun _ => 0) rfl (Nat.le_of_ble_eq_true rfl) (Nat.le_of_ble_eq_true rfl) dX1_init_40
theorem df_X5 : ∀ j, j < 6 → defaultValue (tyX5 j) = vp_V [.null, .null, .null, .null, .int 0, .null] j := by
  intro j hj
  rcases (show j = 0 ∨ j = 1 ∨ j = 2 ∨ j = 3 ∨ j = 4 ∨ j = 5 by omega) with rfl | rfl | rfl | rfl | rfl | rfl <;> rfl
theorem fd_X5_11 : FD RX5 11 5 0 := ⟨RX5, TX5, 6, rfl, by decide, wsin_X5, tw 409 (by decide +kernel) rfl⟩
theorem fq_X5_11 : FQ RX5 5 0 (.array .int) true := ⟨RX5, TX5, 6, tyX5, rfl, tyX5_ok, nmX5, rfl, rfl, by decide +kernel⟩
theorem fd_X5_15 : FD RX5 15 5 1 := ⟨RX5, TX5, 6, rfl, by decide, wsin_X5, tw 410 (by decide +kernel) rfl⟩
theorem fq_X5_15 : FQ RX5 5 1 (.array .int) true := ⟨RX5, TX5, 6, tyX5, rfl, tyX5_ok, nmX5, rfl, rfl, by decide +kernel⟩
theorem fd_X5_18 : FD RX5 18 5 2 := ⟨RX5, TX5, 6, rfl, by decide, wsin_X5, tw 411 (by decide +kernel) rfl⟩
theorem fq_X5_18 : FQ RX5 5 2 (.array .int) true := ⟨RX5, TX5, 6, tyX5, rfl, tyX5_ok, nmX5, rfl, rfl, by decide +kernel⟩
theorem fd_X5_21 : FD RX5 21 5 3 := ⟨RX5, TX5, 6, rfl, by decide, wsin_X5, tw 413 (by decide +kernel) rfl⟩
theorem fq_X5_21 : FQ RX5 5 3 (.array .int) true := ⟨RX5, TX5, 6, tyX5, rfl, tyX5_ok, nmX5, rfl, rfl, by decide +kernel⟩
theorem fd_X5_24 : FD RX5 24 5 5 := ⟨RX5, TX5, 6, rfl, by decide, wsin_X5, tw 415 (by decide +kernel) rfl⟩
theorem fq_X5_24 : FQ RX5 5 5 (.array .int) true := ⟨RX5, TX5, 6, tyX5, rfl, tyX5_ok, nmX5, rfl, rfl, by decide +kernel⟩
def w_X5 (cyI cyJ cyO : ClassId) (h0 : Nat) (u : (Nat → Nat → Nat)) : va_W := (h0, .inr (5, [.ref (u 1 0), .ref (u 2 0), .ref (u 3 0), .ref (u 4 0), .int 0, .ref (u 5 0)])) :: ((((([] ++ [((u 1 0), .inl (cyI, 8, .inl (fun _ => 0)))]) ++ [((u 2 0), .inl (cyI, 8, .inl (fun _ => 0)))]) ++ [((u 3 0), .inl (cyI, 8, .inl (fun _ => 0)))]) ++ [((u 4 0), .inl (cyI, 6, .inl (fun _ => 0)))]) ++ [((u 5 0), .inl (cyI, 1000, .inl (fun _ => 0)))])
set_option maxRecDepth 20000 in
theorem k_X5_init (l : Launch) (D : va_G) (cyB cyI cyJ cyO : ClassId) : Kc l D (Ety cyB cyI cyJ cyO) yX5_init cX5_init 1 1 5 1030 5 [.null, .null, .null, .null, .int 0, .null] (w_X5 cyI cyJ cyO) := by
  refine Kc.of (by decide) rfl (by decide) (fun h0 P h => ?_)
  refine cx_aload h dX5_init_0 rfl 0 rfl ?_
  show P 1 [(0, .ref h0)] [.ref h0] ((h0, .inr (5, [.null, .null, .null, .null, .int 0, .null])) :: []) 0 0
  refine cx_obj h (tw 408 (by decide +kernel) rfl) ow_1 ow_2 (by decide) dX5_init_1 ?_
  show P 4 [(0, .ref h0)] [] ((h0, .inr (5, [.null, .null, .null, .null, .int 0, .null])) :: []) 0 0
  refine cx_aload h dX5_init_4 rfl 0 rfl ?_
  show P 5 [(0, .ref h0)] [.ref h0] ((h0, .inr (5, [.null, .null, .null, .null, .int 0, .null])) :: []) 0 0
  refine cx_bipush (v := 8) h dX5_init_5 (by decide) ?_
  show P 7 [(0, .ref h0)] [.int 8, .ref h0] ((h0, .inr (5, [.null, .null, .null, .null, .int 0, .null])) :: []) 0 0
  refine cx_newI (N := 8) h aw_I (by decide) (by decide) (by decide) (Nat.le_of_ble_eq_true rfl) (Nat.le_of_ble_eq_true rfl) dX5_init_7 (fun q7 => ?_)
  show P 9 [(0, .ref h0)] [.ref q7, .ref h0] ((h0, .inr (5, [.null, .null, .null, .null, .int 0, .null])) :: ([] ++ [(q7, .inl (cyI, 8, .inl (fun _ => 0)))])) 1 8
  refine cx_put h fd_X5_11 fq_X5_11 rfl rfl (Nat.le_of_ble_eq_true rfl) dX5_init_9 ?_
  show P 12 [(0, .ref h0)] [] ((h0, .inr (5, [.ref q7, .null, .null, .null, .int 0, .null])) :: ([] ++ [(q7, .inl (cyI, 8, .inl (fun _ => 0)))])) 1 8
  refine cx_aload h dX5_init_12 rfl 0 rfl ?_
  show P 13 [(0, .ref h0)] [.ref h0] ((h0, .inr (5, [.ref q7, .null, .null, .null, .int 0, .null])) :: ([] ++ [(q7, .inl (cyI, 8, .inl (fun _ => 0)))])) 1 8
  refine cx_bipush (v := 8) h dX5_init_13 (by decide) ?_
  show P 15 [(0, .ref h0)] [.int 8, .ref h0] ((h0, .inr (5, [.ref q7, .null, .null, .null, .int 0, .null])) :: ([] ++ [(q7, .inl (cyI, 8, .inl (fun _ => 0)))])) 1 8
  refine cx_newI (N := 8) h aw_I (by decide) (by decide) (by decide) (Nat.le_of_ble_eq_true rfl) (Nat.le_of_ble_eq_true rfl) dX5_init_15 (fun q15 => ?_)
  show P 17 [(0, .ref h0)] [.ref q15, .ref h0] ((h0, .inr (5, [.ref q7, .null, .null, .null, .int 0, .null])) :: (([] ++ [(q7, .inl (cyI, 8, .inl (fun _ => 0)))]) ++ [(q15, .inl (cyI, 8, .inl (fun _ => 0)))])) 2 16
  refine cx_put h fd_X5_15 fq_X5_15 rfl rfl (Nat.le_of_ble_eq_true rfl) dX5_init_17 ?_
  show P 20 [(0, .ref h0)] [] ((h0, .inr (5, [.ref q7, .ref q15, .null, .null, .int 0, .null])) :: (([] ++ [(q7, .inl (cyI, 8, .inl (fun _ => 0)))]) ++ [(q15, .inl (cyI, 8, .inl (fun _ => 0)))])) 2 16
  refine cx_aload h dX5_init_20 rfl 0 rfl ?_
  show P 21 [(0, .ref h0)] [.ref h0] ((h0, .inr (5, [.ref q7, .ref q15, .null, .null, .int 0, .null])) :: (([] ++ [(q7, .inl (cyI, 8, .inl (fun _ => 0)))]) ++ [(q15, .inl (cyI, 8, .inl (fun _ => 0)))])) 2 16
  refine cx_bipush (v := 8) h dX5_init_21 (by decide) ?_
  show P 23 [(0, .ref h0)] [.int 8, .ref h0] ((h0, .inr (5, [.ref q7, .ref q15, .null, .null, .int 0, .null])) :: (([] ++ [(q7, .inl (cyI, 8, .inl (fun _ => 0)))]) ++ [(q15, .inl (cyI, 8, .inl (fun _ => 0)))])) 2 16
  refine cx_newI (N := 8) h aw_I (by decide) (by decide) (by decide) (Nat.le_of_ble_eq_true rfl) (Nat.le_of_ble_eq_true rfl) dX5_init_23 (fun q23 => ?_)
  show P 25 [(0, .ref h0)] [.ref q23, .ref h0] ((h0, .inr (5, [.ref q7, .ref q15, .null, .null, .int 0, .null])) :: ((([] ++ [(q7, .inl (cyI, 8, .inl (fun _ => 0)))]) ++ [(q15, .inl (cyI, 8, .inl (fun _ => 0)))]) ++ [(q23, .inl (cyI, 8, .inl (fun _ => 0)))])) 3 24
  refine cx_put h fd_X5_18 fq_X5_18 rfl rfl (Nat.le_of_ble_eq_true rfl) dX5_init_25 ?_
  show P 28 [(0, .ref h0)] [] ((h0, .inr (5, [.ref q7, .ref q15, .ref q23, .null, .int 0, .null])) :: ((([] ++ [(q7, .inl (cyI, 8, .inl (fun _ => 0)))]) ++ [(q15, .inl (cyI, 8, .inl (fun _ => 0)))]) ++ [(q23, .inl (cyI, 8, .inl (fun _ => 0)))])) 3 24
  refine cx_aload h dX5_init_28 rfl 0 rfl ?_
  show P 29 [(0, .ref h0)] [.ref h0] ((h0, .inr (5, [.ref q7, .ref q15, .ref q23, .null, .int 0, .null])) :: ((([] ++ [(q7, .inl (cyI, 8, .inl (fun _ => 0)))]) ++ [(q15, .inl (cyI, 8, .inl (fun _ => 0)))]) ++ [(q23, .inl (cyI, 8, .inl (fun _ => 0)))])) 3 24
  refine cx_bipush (v := 6) h dX5_init_29 (by decide) ?_
  show P 31 [(0, .ref h0)] [.int 6, .ref h0] ((h0, .inr (5, [.ref q7, .ref q15, .ref q23, .null, .int 0, .null])) :: ((([] ++ [(q7, .inl (cyI, 8, .inl (fun _ => 0)))]) ++ [(q15, .inl (cyI, 8, .inl (fun _ => 0)))]) ++ [(q23, .inl (cyI, 8, .inl (fun _ => 0)))])) 3 24
  refine cx_newI (N := 6) h aw_I (by decide) (by decide) (by decide) (Nat.le_of_ble_eq_true rfl) (Nat.le_of_ble_eq_true rfl) dX5_init_31 (fun q31 => ?_)
  show P 33 [(0, .ref h0)] [.ref q31, .ref h0] ((h0, .inr (5, [.ref q7, .ref q15, .ref q23, .null, .int 0, .null])) :: (((([] ++ [(q7, .inl (cyI, 8, .inl (fun _ => 0)))]) ++ [(q15, .inl (cyI, 8, .inl (fun _ => 0)))]) ++ [(q23, .inl (cyI, 8, .inl (fun _ => 0)))]) ++ [(q31, .inl (cyI, 6, .inl (fun _ => 0)))])) 4 30
  refine cx_put h fd_X5_21 fq_X5_21 rfl rfl (Nat.le_of_ble_eq_true rfl) dX5_init_33 ?_
  show P 36 [(0, .ref h0)] [] ((h0, .inr (5, [.ref q7, .ref q15, .ref q23, .ref q31, .int 0, .null])) :: (((([] ++ [(q7, .inl (cyI, 8, .inl (fun _ => 0)))]) ++ [(q15, .inl (cyI, 8, .inl (fun _ => 0)))]) ++ [(q23, .inl (cyI, 8, .inl (fun _ => 0)))]) ++ [(q31, .inl (cyI, 6, .inl (fun _ => 0)))])) 4 30
  refine cx_aload h dX5_init_36 rfl 0 rfl ?_
  show P 37 [(0, .ref h0)] [.ref h0] ((h0, .inr (5, [.ref q7, .ref q15, .ref q23, .ref q31, .int 0, .null])) :: (((([] ++ [(q7, .inl (cyI, 8, .inl (fun _ => 0)))]) ++ [(q15, .inl (cyI, 8, .inl (fun _ => 0)))]) ++ [(q23, .inl (cyI, 8, .inl (fun _ => 0)))]) ++ [(q31, .inl (cyI, 6, .inl (fun _ => 0)))])) 4 30
  refine cx_sipush (v := 1000) h dX5_init_37 (by decide) ?_
  show P 40 [(0, .ref h0)] [.int 1000, .ref h0] ((h0, .inr (5, [.ref q7, .ref q15, .ref q23, .ref q31, .int 0, .null])) :: (((([] ++ [(q7, .inl (cyI, 8, .inl (fun _ => 0)))]) ++ [(q15, .inl (cyI, 8, .inl (fun _ => 0)))]) ++ [(q23, .inl (cyI, 8, .inl (fun _ => 0)))]) ++ [(q31, .inl (cyI, 6, .inl (fun _ => 0)))])) 4 30
  refine cx_newI (N := 1000) h aw_I (by decide) (by decide) (by decide) (Nat.le_of_ble_eq_true rfl) (Nat.le_of_ble_eq_true rfl) dX5_init_40 (fun q40 => ?_)
  show P 42 [(0, .ref h0)] [.ref q40, .ref h0] ((h0, .inr (5, [.ref q7, .ref q15, .ref q23, .ref q31, .int 0, .null])) :: ((((([] ++ [(q7, .inl (cyI, 8, .inl (fun _ => 0)))]) ++ [(q15, .inl (cyI, 8, .inl (fun _ => 0)))]) ++ [(q23, .inl (cyI, 8, .inl (fun _ => 0)))]) ++ [(q31, .inl (cyI, 6, .inl (fun _ => 0)))]) ++ [(q40, .inl (cyI, 1000, .inl (fun _ => 0)))])) 5 1030
  refine cx_put h fd_X5_24 fq_X5_24 rfl rfl (Nat.le_of_ble_eq_true rfl) dX5_init_42 ?_
  show P 45 [(0, .ref h0)] [] ((h0, .inr (5, [.ref q7, .ref q15, .ref q23, .ref q31, .int 0, .ref q40])) :: ((((([] ++ [(q7, .inl (cyI, 8, .inl (fun _ => 0)))]) ++ [(q15, .inl (cyI, 8, .inl (fun _ => 0)))]) ++ [(q23, .inl (cyI, 8, .inl (fun _ => 0)))]) ++ [(q31, .inl (cyI, 6, .inl (fun _ => 0)))]) ++ [(q40, .inl (cyI, 1000, .inl (fun _ => 0)))])) 5 1030
  exact cx_ret h (fun i => if i = 1 then (fun _ => q7) else if i = 2 then (fun _ => q15) else if i = 3 then (fun _ => q23) else if i = 4 then (fun _ => q31) else if i = 5 then (fun _ => q40) else fun _ => 0) rfl (Nat.le_of_ble_eq_true rfl) (Nat.le_of_ble_eq_true rfl) dX5_init_45
