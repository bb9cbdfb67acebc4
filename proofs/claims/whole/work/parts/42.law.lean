/-! the law: what a piece of code comes to, in the class and in the reference -/
theorem i64_le (x y : Int32) : x.toInt64 ≤ y.toInt64 ↔ x ≤ y := by rw [Int64.le_iff_toInt_le, Int32.le_iff_toInt_le, Int32.toInt_toInt64, Int32.toInt_toInt64]
theorem i64_lt (x y : Int32) : x.toInt64 < y.toInt64 ↔ x < y := by rw [Int64.lt_iff_toInt_lt, Int32.lt_iff_toInt_lt, Int32.toInt_toInt64, Int32.toInt_toInt64]
theorem i64_eq (x y : Int32) : x.toInt64 = y.toInt64 ↔ x = y := by rw [← Int64.toInt_inj, ← Int32.toInt_inj, Int32.toInt_toInt64, Int32.toInt_toInt64]
theorem i64_div (x y : Int32) : (x.toInt64 / y.toInt64).toInt32 = x / y := by
  rw [← Int32.toInt_inj, Int64.toInt_toInt32, Int64.toInt_div, Int32.toInt_div, Int32.toInt_toInt64, Int32.toInt_toInt64]
  exact Int.bmod_bmod_of_dvd (by decide)
theorem i64_rem (x y : Int32) : (x.toInt64 - x.toInt64 / y.toInt64 * y.toInt64).toInt32 = x - x / y * y := by
  rw [Int64.toInt32_sub, Int64.toInt32_mul, i64_div, Int32.toInt32_toInt64, Int32.toInt32_toInt64]
/-- a value as the class holds it: refused is a number outside of 32 bits -/
def encL : Option Int32 → Int64
  | some v => v.toInt64
  | none => 1099511627776
theorem encL_ne (v : Int32) : ¬ v.toInt64 = 1099511627776 := fun h => by
  have h1 := congrArg Int64.toInt h
  rw [Int32.toInt_toInt64] at h1
  have h2 := Int32.toInt_lt v
  have h3 : (1099511627776 : Int64).toInt = 1099511627776 := by decide
  omega
theorem encL_n : lg_cmp (encL none) 1099511627776 = 0 := (lg_cmp_eq _ _).mpr rfl
theorem encL_s (x : Int32) : ¬ lg_cmp (encL (some x)) 1099511627776 = 0 := fun q => encL_ne x ((lg_cmp_eq _ _).mp q)
theorem encL_1 (a : Option Int32) : encL a = 1 ↔ a = some 1 := by
  cases a with
  | none => exact ⟨fun h => absurd h (by decide), fun h => by cases h⟩
  | some v =>
    show v.toInt64 = (1 : Int32).toInt64 ↔ _
    rw [i64_eq, Option.some.injEq]
theorem encL_0 (a : Option Int32) : encL a = 0 ↔ a = some 0 := by
  cases a with
  | none => exact ⟨fun h => absurd h (by decide), fun h => by cases h⟩
  | some v =>
    show v.toInt64 = (0 : Int32).toInt64 ↔ _
    rw [i64_eq, Option.some.injEq]
def opn (o : Nat) (x y : Int32) : Option Int32 := if o = 2 then some (x + y) else if o = 3 then some (x - y) else if o = 4 then some (x * y) else if o = 5 then (if y = 0 then none else some (x / y)) else if o = 6 then (if y = 0 then none else some (x - x / y * y)) else if o = 7 then some (if x < y then 1 else 0) else if o = 8 then some (if y < x then 1 else 0) else some (if x = y then 1 else 0)
def opv (o : Nat) : Option Int32 → Option Int32 → Option Int32
  | some x, some y => opn o x y
  | _, _ => none
theorem opv_n (o : Nat) (a : Option Int32) : opv o none a = none := by cases a <;> rfl
theorem opv_n2 (o : Nat) (a : Option Int32) : opv o a none = none := by cases a <;> rfl
def andv (a b : Option Int32) : Option Int32 := if a = some 1 then b else a
def orv (a b : Option Int32) : Option Int32 := if a = some 0 then b else a
def notv : Option Int32 → Option Int32
  | some x => some (1 - x)
  | none => none
def isB (a : Option Int32) : Prop := a = none ∨ a = some 0 ∨ a = some 1
/-- the signs of the operations -/
def sgn (o : Nat) : Nat := if o = 2 then 43 else if o = 3 then 45 else if o = 4 then 42 else if o = 5 then 47 else if o = 6 then 37 else if o = 7 then 60 else if o = 8 then 62 else 61
theorem e_joined (N : Nat) {o : Nat} (h1 : 2 ≤ o) (h2 : o ≤ 9) (a b : Option Int32) (s : Mem) : f_X4_joined N (nI (sgn o)) (encL a) (encL b) s = some (encL (opv o a b), s) := by
  unfold f_X4_joined
  have hs : ∀ o, 2 ≤ o → o ≤ 9 → ¬ nI (sgn o) = 38 ∧ ¬ nI (sgn o) = 124 := by
    intro o a b
    have : ∀ o, o < 10 → 2 ≤ o → ¬ nI (sgn o) = 38 ∧ ¬ nI (sgn o) = 124 := by decide +kernel
    exact this o (by omega) a
  rw [if_neg (hs o h1 h2).1, if_neg (hs o h1 h2).2]
  cases a with
  | none => rw [if_pos encL_n, opv_n]; rfl
  | some x =>
    rw [if_neg (encL_s x)]
    cases b with
    | none => rw [if_pos encL_n, opv_n2]; rfl
    | some y =>
      rw [if_neg (encL_s y)]
      have hx : encL (some x) = x.toInt64 := rfl
      have hy' : encL (some y) = y.toInt64 := rfl
      rw [hx, hy']
      have y0 : ∀ e : Option (Int64 × Mem), ¬ y = 0 → ckl y.toInt64 e = e := fun e hy => by
        unfold ckl
        rw [if_neg (show ¬ y.toInt64 = 0 from fun q => hy ((i64_eq y 0).mp q))]
      have c0 : lg_cmp y.toInt64 0 = 0 ↔ y = 0 := by
        rw [lg_cmp_eq]
        exact i64_eq y 0
      have hc : o = 2 ∨ o = 3 ∨ o = 4 ∨ o = 5 ∨ o = 6 ∨ o = 7 ∨ o = 8 ∨ o = 9 := by omega
      show _ = some (encL (opn o x y), s)
      rcases hc with rfl | rfl | rfl | rfl | rfl | rfl | rfl | rfl
      · rw [show nI (sgn 2) = 43 from rfl, if_neg (show ¬ (43 : Int32) = 37 by decide), if_neg (show ¬ (43 : Int32) = 42 by decide), if_pos rfl, show opn 2 x y = some (x + y) from rfl, Int64.toInt32_add, Int32.toInt32_toInt64, Int32.toInt32_toInt64]; rfl
      · rw [show nI (sgn 3) = 45 from rfl, if_neg (show ¬ (45 : Int32) = 37 by decide), if_neg (show ¬ (45 : Int32) = 42 by decide), if_neg (show ¬ (45 : Int32) = 43 by decide), if_pos rfl, show opn 3 x y = some (x - y) from rfl, Int64.toInt32_sub, Int32.toInt32_toInt64, Int32.toInt32_toInt64]; rfl
      · rw [show nI (sgn 4) = 42 from rfl, if_neg (show ¬ (42 : Int32) = 37 by decide), if_pos rfl, show opn 4 x y = some (x * y) from rfl, Int64.toInt32_mul, Int32.toInt32_toInt64, Int32.toInt32_toInt64]; rfl
      · rw [show nI (sgn 5) = 47 from rfl, if_neg (show ¬ (47 : Int32) = 37 by decide), if_neg (show ¬ (47 : Int32) = 42 by decide), if_neg (show ¬ (47 : Int32) = 43 by decide), if_neg (show ¬ (47 : Int32) = 45 by decide), if_pos (show (47 : Int32) = 47 from rfl), show opn 5 x y = (if y = 0 then none else some (x / y)) from rfl]
        by_cases hy : y = 0
        · rw [if_pos (c0.mpr hy), if_pos hy]; rfl
        · rw [if_neg (fun q => hy (c0.mp q)), y0 _ hy, i64_div, if_neg hy]; rfl
      · rw [show nI (sgn 6) = 37 from rfl, if_pos (show (37 : Int32) = 37 from rfl), show opn 6 x y = (if y = 0 then none else some (x - x / y * y)) from rfl]
        by_cases hy : y = 0
        · rw [if_pos (c0.mpr hy), if_pos hy]; rfl
        · rw [if_neg (fun q => hy (c0.mp q)), y0 _ hy, i64_rem, if_neg hy]; rfl
      · rw [show nI (sgn 7) = 60 from rfl, if_neg (show ¬ (60 : Int32) = 37 by decide), if_neg (show ¬ (60 : Int32) = 42 by decide), if_neg (show ¬ (60 : Int32) = 43 by decide), if_neg (show ¬ (60 : Int32) = 45 by decide), if_neg (show ¬ (60 : Int32) = 47 by decide), if_pos (show (60 : Int32) = 60 from rfl), show opn 7 x y = some (if x < y then 1 else 0) from rfl]
        by_cases hl : x < y
        · rw [if_neg (fun q => absurd ((i64_le y x).mp ((lg_cmp_ge _ _).mp q)) (Int32.not_le.mpr hl)), if_pos hl]; rfl
        · rw [if_pos ((lg_cmp_ge _ _).mpr ((i64_le y x).mpr (Int32.not_lt.mp hl))), if_neg hl]; rfl
      · rw [show nI (sgn 8) = 62 from rfl, if_neg (show ¬ (62 : Int32) = 37 by decide), if_neg (show ¬ (62 : Int32) = 42 by decide), if_neg (show ¬ (62 : Int32) = 43 by decide), if_neg (show ¬ (62 : Int32) = 45 by decide), if_neg (show ¬ (62 : Int32) = 47 by decide), if_neg (show ¬ (62 : Int32) = 60 by decide), if_pos (show (62 : Int32) = 62 from rfl), show opn 8 x y = some (if y < x then 1 else 0) from rfl]
        by_cases hl : y < x
        · rw [if_neg (fun q => absurd ((i64_le x y).mp ((lg_cmp_le _ _).mp q)) (Int32.not_le.mpr hl)), if_pos hl]; rfl
        · rw [if_pos ((lg_cmp_le _ _).mpr ((i64_le x y).mpr (Int32.not_lt.mp hl))), if_neg hl]; rfl
      · rw [show nI (sgn 9) = 61 from rfl, if_neg (show ¬ (61 : Int32) = 37 by decide), if_neg (show ¬ (61 : Int32) = 42 by decide), if_neg (show ¬ (61 : Int32) = 43 by decide), if_neg (show ¬ (61 : Int32) = 45 by decide), if_neg (show ¬ (61 : Int32) = 47 by decide), if_neg (show ¬ (61 : Int32) = 60 by decide), if_neg (show ¬ (61 : Int32) = 62 by decide), show opn 9 x y = some (if x = y then 1 else 0) from rfl]
        by_cases hl : x = y
        · rw [if_pos ((lg_cmp_eq _ _).mpr ((i64_eq x y).mpr hl)), if_pos hl]; rfl
        · rw [if_neg (fun q => hl ((i64_eq x y).mp ((lg_cmp_eq _ _).mp q))), if_neg hl]; rfl
theorem e_joined_and (N : Nat) (a b : Option Int32) (s : Mem) : f_X4_joined N 38 (encL a) (encL b) s = some (encL (andv a b), s) := by
  unfold f_X4_joined andv
  rw [if_pos rfl]
  by_cases h : a = some 1
  · rw [if_pos ((lg_cmp_eq _ _).mpr ((encL_1 a).mpr h)), if_pos h]
  · rw [if_neg (fun q => h ((encL_1 a).mp ((lg_cmp_eq _ _).mp q))), if_neg h]
theorem e_joined_or (N : Nat) (a b : Option Int32) (s : Mem) : f_X4_joined N 124 (encL a) (encL b) s = some (encL (orv a b), s) := by
  unfold f_X4_joined orv
  rw [if_neg (by decide), if_pos rfl]
  by_cases h : a = some 0
  · rw [if_pos ((lg_cmp_eq _ _).mpr ((encL_0 a).mpr h)), if_pos h]
  · rw [if_neg (fun q => h ((encL_0 a).mp ((lg_cmp_eq _ _).mp q))), if_neg h]
