/-! how many bits a set has -/
def bc (x0 : Int32) : Int32 :=
  let v1 := x0 - (((x0.toUInt32 >>> ((1 : Int32).toUInt32 &&& Int32.toUInt32 31)).toInt32) &&& 1431655765)
  let v2 := (v1 &&& 858993459) + (((v1.toUInt32 >>> ((2 : Int32).toUInt32 &&& Int32.toUInt32 31)).toInt32) &&& 858993459)
  let v3 := (v2 + ((v2.toUInt32 >>> ((4 : Int32).toUInt32 &&& Int32.toUInt32 31)).toInt32)) &&& 252645135
  let v4 := v3 + ((v3.toUInt32 >>> ((8 : Int32).toUInt32 &&& Int32.toUInt32 31)).toInt32)
  let v5 := v4 + ((v4.toUInt32 >>> ((16 : Int32).toUInt32 &&& Int32.toUInt32 31)).toInt32)
  v5 &&& 63
theorem e_bc (N : Nat) (x : Int32) (s : Mem) : f_J6_bitCount_0f7a4 N x s = some (bc x, s) := rfl
theorem bc_tab : ∀ a, a < 64 → ∀ b, b < 64 → bc (nI (64 * a + b)) = nI (cnt (nI (64 * a + b)) 12) := by decide +kernel
theorem low_n {x : Int32} (h : ∀ i, 12 ≤ i → i < 32 → bt x i = false) : ∃ n, n < 4096 ∧ x = nI n := by
  refine ⟨x.toBitVec.toNat, Nat.lt_pow_two_of_testBit (n := 12) _ (fun i hi => ?_), ?_⟩
  · by_cases z : i < 32
    · exact h i hi z
    · exact BitVec.getLsbD_of_ge x.toBitVec i (by omega)
  · exact Int32.toBitVec_inj.mp (by
      show x.toBitVec = (nI x.toBitVec.toNat).toBitVec
      apply BitVec.eq_of_toNat_eq
      show _ = (BitVec.ofNat 32 x.toBitVec.toNat).toNat
      rw [BitVec.toNat_ofNat, Nat.mod_eq_of_lt x.toBitVec.isLt])
theorem bc_cnt {x : Int32} (h : ∀ i, 12 ≤ i → i < 32 → bt x i = false) : bc x = nI (cnt x 12) := by
  obtain ⟨n, hn, rfl⟩ := low_n h
  have := bc_tab (n / 64) (by omega) (n % 64) (by omega)
  rw [show 64 * (n / 64) + n % 64 = n by omega] at this
  exact this
theorem cnt_set {m : Int32} {b : Nat} (hb : b < 32) (h : bt m b = false) : ∀ n, n ≤ 32 → cnt (m ||| ((1 : Int32) <<< (nI b &&& 31))) n = cnt m n + if b < n then 1 else 0
  | 0, _ => by rw [if_neg (by omega)]; rfl
  | n + 1, hn => by
    rw [cnt_s, cnt_s, cnt_set hb h n (by omega), b_set m hb (by omega)]
    by_cases z : n = b
    · subst z
      rw [h, if_neg (show ¬ n < n by omega), if_pos (show n < n + 1 by omega), if_neg (show ¬ false = true by decide), if_pos (by simp)]
    · have hd : decide (n = b) = false := decide_eq_false z
      rw [hd, Bool.or_false]
      by_cases w : b < n
      · rw [if_pos w, if_pos (show b < n + 1 by omega)]
        omega
      · rw [if_neg w, if_neg (show ¬ b < n + 1 by omega)]
        omega
