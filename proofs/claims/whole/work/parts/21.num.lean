/-! ===== Int32 by its bits: bt x i ===== -/
def bt (x : Int32) (i : Nat) : Bool := x.toBitVec.getLsbD i
theorem b_ext {x y : Int32} (h : ∀ i, i < 32 → bt x i = bt y i) : x = y := Int32.toBitVec_inj.mp (BitVec.eq_of_getLsbD_eq (fun i hi => h i hi))
theorem b_or (x y : Int32) (i : Nat) : bt (x ||| y) i = (bt x i || bt y i) := by unfold bt; rw [Int32.toBitVec_or, BitVec.getLsbD_or]
theorem b_and (x y : Int32) (i : Nat) : bt (x &&& y) i = (bt x i && bt y i) := by unfold bt; rw [Int32.toBitVec_and, BitVec.getLsbD_and]
theorem b_xor (x y : Int32) (i : Nat) : bt (x ^^^ y) i = (bt x i ^^ bt y i) := by unfold bt; rw [Int32.toBitVec_xor, BitVec.getLsbD_xor]
theorem b_big {x : Int32} {i : Nat} (h : 32 ≤ i) : bt x i = false := BitVec.getLsbD_of_ge _ _ h
theorem b_255 (i : Nat) : bt 255 i = decide (i < 8) := by
  rcases Nat.lt_or_ge i 32 with h | h
  · exact (by decide +kernel : ∀ i, i < 32 → bt 255 i = decide (i < 8)) i h
  · rw [b_big h, decide_eq_false (by omega)]
theorem b_65535 (i : Nat) : bt 65535 i = decide (i < 16) := by
  rcases Nat.lt_or_ge i 32 with h | h
  · exact (by decide +kernel : ∀ i, i < 32 → bt 65535 i = decide (i < 16)) i h
  · rw [b_big h, decide_eq_false (by omega)]
theorem b_m1 : ∀ i, i < 32 → bt (-1) i = true := by decide +kernel
theorem b_0 (i : Nat) : bt 0 i = false := BitVec.getLsbD_zero
theorem s_l : ∀ n, n < 32 → ((nI n &&& 31).toBitVec.smod 32).toNat = n := by decide +kernel
theorem s_u : ∀ n, n < 32 → (((nI n).toUInt32 &&& Int32.toUInt32 31).toBitVec % 32).toNat = n := by decide +kernel
theorem b_shl (n : Nat) (hn : n < 32) (x : Int32) {i : Nat} (hi : i < 32) : bt (x <<< (nI n &&& 31)) i = (decide (n ≤ i) && bt x (i - n)) := by
  unfold bt
  rw [Int32.toBitVec_shiftLeft]
  show (x.toBitVec <<< ((nI n &&& 31).toBitVec.smod 32).toNat).getLsbD i = _
  rw [s_l n hn, BitVec.getLsbD_shiftLeft]
  rcases Nat.lt_or_ge i n with h | h
  · simp [h, Nat.not_le.mpr h]
  · simp [hi, h, Nat.not_lt.mpr h]
theorem b_ushr (n : Nat) (hn : n < 32) (x : Int32) (i : Nat) : bt ((x.toUInt32 >>> ((nI n).toUInt32 &&& Int32.toUInt32 31)).toInt32) i = bt x (n + i) := by
  show (x.toUInt32 >>> ((nI n).toUInt32 &&& Int32.toUInt32 31)).toBitVec.getLsbD i = x.toUInt32.toBitVec.getLsbD (n + i)
  rw [UInt32.toBitVec_shiftRight]
  show (x.toUInt32.toBitVec >>> (((nI n).toUInt32 &&& Int32.toUInt32 31).toBitVec % 32).toNat).getLsbD i = _
  rw [s_u n hn, BitVec.getLsbD_ushiftRight]
theorem b_sshr (n : Nat) (hn : n < 32) (x : Int32) {i : Nat} (hi : i < 32) : bt (x >>> (nI n &&& 31)) i = if n + i < 32 then bt x (n + i) else bt x 31 := by
  unfold bt
  rw [Int32.toBitVec_shiftRight]
  show (x.toBitVec.sshiftRight ((nI n &&& 31).toBitVec.smod 32).toNat).getLsbD i = _
  rw [s_l n hn, BitVec.getLsbD_sshiftRight, BitVec.msb_eq_getLsbD_last]
  simp [hi]
theorem b_shl8 (x : Int32) {i : Nat} (hi : i < 32) : bt (x <<< ((8 : Int32) &&& 31)) i = (decide (8 ≤ i) && bt x (i - 8)) := b_shl 8 (by omega) x hi
theorem b_shl16 (x : Int32) {i : Nat} (hi : i < 32) : bt (x <<< ((16 : Int32) &&& 31)) i = (decide (16 ≤ i) && bt x (i - 16)) := b_shl 16 (by omega) x hi
theorem b_shl24 (x : Int32) {i : Nat} (hi : i < 32) : bt (x <<< ((24 : Int32) &&& 31)) i = (decide (24 ≤ i) && bt x (i - 24)) := b_shl 24 (by omega) x hi
theorem b_sshr8 (x : Int32) {i : Nat} (hi : i < 32) : bt (x >>> ((8 : Int32) &&& 31)) i = if 8 + i < 32 then bt x (8 + i) else bt x 31 := b_sshr 8 (by omega) x hi
/-! ===== a byte read unsigned ===== -/
theorem bp_b (x : Int32) : x.toInt8.toInt32 &&& 255 = x &&& 255 := by
  apply Int32.toBitVec_inj.mp
  rw [Int32.toBitVec_and, Int32.toBitVec_and, Int8.toBitVec_toInt32, Int32.toBitVec_toInt8]
  apply BitVec.eq_of_getLsbD_eq
  intro i hi
  rw [BitVec.getLsbD_and, BitVec.getLsbD_and]
  have hm : ∀ i < 32, 8 ≤ i → (255 : Int32).toBitVec.getLsbD i = false := by decide
  rcases Nat.lt_or_ge i 8 with z | z
  · rw [BitVec.getLsbD_signExtend, BitVec.getLsbD_signExtend, if_pos z, if_pos hi]
    simp only [z, hi, decide_true, Bool.true_and]
  · rw [hm i hi z]; simp
/-! numbers, bits, the small methods' answers -/
abbrev inR (x lo hi : Int32) : Prop := lo ≤ x ∧ x ≤ hi
abbrev hb (m x : Int32) : Prop := ((m >>> (x &&& 31)) &&& 1) = 1
theorem ix_n {n : Nat} (h : n < 2 ^ 31) : ix (nI n) = n := nI_clamp h
theorem chk_n {α : Type} {n m : Nat} {e : Option α} (h : n < m) (hm : m < 2 ^ 31) : chk (nI n) m e = e := chk_in (vp_in_nI h hm)
theorem lt_e {α β : Type} (a : α) (f : α → β) : lt a f = f a := rfl
theorem ite10 {c : Prop} {inst : Decidable c} {α : Type} (A B : α) : (if (@ite _ c inst (1 : Int32) 0) = 0 then A else B) = @ite _ c inst B A := by
  by_cases h : c
  · rw [if_pos h, if_pos h, if_neg (by decide)]
  · rw [if_neg h, if_neg h, if_pos rfl]
theorem ckz10 {c : Prop} {inst : Decidable c} {α : Type} (e : Option α) : ckz (@ite _ c inst (1 : Int32) 0) e = e := by
  unfold ckz
  by_cases h : c
  · rw [if_pos h, if_neg (by decide), if_pos rfl]
  · rw [if_neg h, if_pos rfl]
theorem ckz_0 {α : Type} (e : Option α) : ckz 0 e = e := rfl
theorem ckz_1 {α : Type} (e : Option α) : ckz 1 e = e := rfl
theorem ckc_t {α : Type} (e : Option α) : ckc true e = e := rfl
theorem ite_and {c d : Prop} {ic : Decidable c} {id : Decidable d} {α : Type} (A B : α) : (@ite _ c ic (@ite _ d id A B) B) = @ite _ (c ∧ d) instDecidableAnd A B := by
  by_cases h : c
  · by_cases h2 : d
    · rw [if_pos h, if_pos h2, if_pos ⟨h, h2⟩]
    · rw [if_pos h, if_neg h2, if_neg (fun q => h2 q.2)]
  · rw [if_neg h, if_neg (fun q => h q.1)]
theorem ite_some {c : Prop} {ic : Decidable c} (a b : Int32) (s : Mem) : (@ite _ c ic (some (a, s)) (some (b, s))) = some (@ite _ c ic a b, s) := by
  by_cases h : c
  · rw [if_pos h, if_pos h]
  · rw [if_neg h, if_neg h]
theorem inR_n {x lo hi : Int32} {a b : Nat} (hlo : lo = nI a) (hhi : hi = nI b) (hb' : b < 2 ^ 31) (ha : a < 2 ^ 31) (h : inR x lo hi) : ∃ n, a ≤ n ∧ n ≤ b ∧ x = nI n := by
  subst hlo hhi
  have h0 : ¬ x < 0 := fun q => by
    have h1 := Int32.le_iff_toInt_le.mp h.1
    rw [nI_toInt ha] at h1
    have h2 := Int32.lt_iff_toInt_lt.mp q
    rw [Int32.toInt_zero] at h2
    omega
  obtain ⟨j, hj, rfl⟩ := nI_of h0
  exact ⟨j, (nI_leI ha hj).mp h.1, (nI_leI hj hb').mp h.2, rfl⟩
theorem inR_of {n a b : Nat} (h1 : a ≤ n) (h2 : n ≤ b) (hb' : b < 2 ^ 31) : inR (nI n) (nI a) (nI b) := ⟨nI_le h1 (by omega), nI_le h2 hb'⟩
theorem bit1 (x : Int32) : (x &&& 1) = 1 ↔ bt x 0 = true := by
  have h1 : ∀ i, i < 32 → bt (1 : Int32) i = decide (i = 0) := by decide +kernel
  constructor
  · intro h
    have := congrArg (fun y => bt y 0) h
    simp only [b_and] at this
    rw [h1 0 (by omega)] at this
    simpa using this
  · intro h
    apply b_ext
    intro i hi
    rw [b_and, h1 i hi]
    by_cases h0 : i = 0
    · subst h0; simp [h]
    · simp [h0]
theorem hb_iff (m : Int32) {k : Nat} (hk : k < 32) : hb m (nI k) ↔ bt m k = true := by
  unfold hb
  rw [bit1, b_sshr k hk m (by omega), if_pos (by omega)]
  rfl
theorem b_one {k : Nat} (hk : k < 32) {i : Nat} (hi : i < 32) : bt ((1 : Int32) <<< (nI k &&& 31)) i = decide (i = k) := by
  have h1 : ∀ i, i < 32 → bt (1 : Int32) i = decide (i = 0) := by decide +kernel
  rw [b_shl k hk 1 hi, h1 _ (by omega)]
  by_cases h : i = k
  · subst h; simp
  · by_cases h2 : k ≤ i
    · simp [h, h2]; omega
    · simp [h, h2]
theorem b_set (m : Int32) {k : Nat} (hk : k < 32) {i : Nat} (hi : i < 32) : bt (m ||| ((1 : Int32) <<< (nI k &&& 31))) i = (bt m i || decide (i = k)) := by
  rw [b_or, b_one hk hi]
theorem b_clr (m : Int32) {k : Nat} (hk : k < 32) {i : Nat} (hi : i < 32) : bt (m &&& (((1 : Int32) <<< (nI k &&& 31)) ^^^ (-1))) i = (bt m i && !decide (i = k)) := by
  rw [b_and, b_xor, b_one hk hi, b_m1 i hi]
  cases decide (i = k) <;> simp
theorem b_flip (m : Int32) {k : Nat} (hk : k < 32) (h : bt m k = true) : m ^^^ ((1 : Int32) <<< (nI k &&& 31)) = m &&& (((1 : Int32) <<< (nI k &&& 31)) ^^^ (-1)) := by
  apply b_ext
  intro i hi
  rw [b_xor, b_clr m hk hi, b_one hk hi]
  by_cases e : i = k
  · subst e; simp [h]
  · simp [e]
-- the class's small ones
theorem e_within (N : Nat) (x lo hi : Int32) (s : Mem) : f_X9_isWithin N x lo hi s = some (if inR x lo hi then 1 else 0, s) := by
  unfold f_X9_isWithin
  by_cases h1 : x < lo
  · rw [if_pos h1, if_neg (fun q => absurd h1 (Int32.not_lt.mpr q.1))]
  · by_cases h2 : hi < x
    · rw [if_neg h1, if_pos h2, if_neg (fun q => absurd h2 (Int32.not_lt.mpr q.2))]
    · rw [if_neg h1, if_neg h2, if_pos ⟨Int32.not_lt.mp h1, Int32.not_lt.mp h2⟩]
theorem e_in (N : Nat) (x lo hi : Int32) (s : Mem) : f_X10_in N x lo hi s = some (if inR x lo hi then 1 else 0, s) := e_within N x lo hi s
theorem e_hasBit (N : Nat) (m x : Int32) (s : Mem) : f_X9_hasBit N m x s = some (if hb m x then 1 else 0, s) := by
  unfold f_X9_hasBit
  exact ite_some _ _ _
theorem e_has (N : Nat) (m x : Int32) (s : Mem) : f_X10_has N m x s = some (if hb m x then 1 else 0, s) := e_hasBit N m x s
theorem e_isLetterC (N : Nat) (x : Int32) (s : Mem) : f_X9_isLetter N x s = some (if inR x 0 5 then 1 else 0, s) := by
  unfold f_X9_isLetter
  rw [e_within, bd_some, ckz10]
theorem e_tt {c d : Prop} {ic : Decidable c} {id : Decidable d} (s : Mem) : (@ite _ c ic (@ite _ d id (some ((1 : Int32), s)) (some (0, s))) (some (0, s))) = some (if c ∧ d then 1 else 0, s) := by
  rw [ite_and, ite_some]
theorem e_told3 (N : Nat) (x : Int32) (s : Mem) : f_X3_isTold N x s = some (if inR x 0 11 ∧ hb (gi s 3 0) x then 1 else 0, s) := by
  unfold f_X3_isTold
  rw [e_within, bd_some, ite10, e_hasBit, bd_some, ite10, e_tt]
theorem e_told0 (N b : Nat) (x : Int32) (s : Mem) : f_X0_isTold N b x s = some (if inR x 0 5 ∧ hb (gi s b 1) x then 1 else 0, s) := by
  unfold f_X0_isTold
  rw [e_isLetterC, bd_some, ite10, e_hasBit, bd_some, ite10, e_tt]
theorem e_force0 (N b : Nat) (x : Int32) (s : Mem) : f_X0_isInForce N b x s = some (if inR x 0 5 ∧ hb (gi s b 2) x then 1 else 0, s) := by
  unfold f_X0_isInForce
  rw [e_isLetterC, bd_some, ite10, e_hasBit, bd_some, ite10, e_tt]
theorem e_tapeHas (N : Nat) (n lo hi : Int32) (s : Mem) : f_X8_has N n lo hi s = some (if inR n lo hi ∧ n ≤ gi s 1 1 then 1 else 0, s) := by
  unfold f_X8_has
  rw [e_within, bd_some, ite10]
  by_cases h : inR n lo hi
  · rw [if_pos h]
    by_cases h2 : gi s 1 1 < n
    · rw [if_pos h2, if_neg (fun q => absurd h2 (Int32.not_lt.mpr q.2))]
    · rw [if_neg h2, if_pos ⟨h, Int32.not_lt.mp h2⟩]
  · rw [if_neg h, if_neg (fun q => h q.1)]
theorem e_take (N : Nat) (s : Mem) : f_X8_take N s = some (2, si s 1 1 0) := rfl
theorem e_tell (N : Nat) (x : Int32) (s : Mem) : f_X3_tell N x s = some ((), si s 3 0 ((gi s 3 0) ||| ((1 : Int32) <<< (x &&& 31)))) := rfl
-- the reference's small ones
theorem e_isParish (N : Nat) (x : Int32) (s : Mem) : f_X10_isParish N x s = some (if inR x 0 11 ∧ hb (gi s 1 145) x then 1 else 0, s) := by
  unfold f_X10_isParish
  rw [e_in, bd_some, ite10, e_has, bd_some, ite10]
  exact e_tt _
theorem e_isLetterM (N : Nat) (x : Int32) (s : Mem) : f_X10_isLetter N x s = some (if inR x 0 5 ∧ hb (gi s 1 146) x then 1 else 0, s) := by
  unfold f_X10_isLetter
  rw [e_in, bd_some, ite10, e_has, bd_some, ite10]
  exact e_tt _
