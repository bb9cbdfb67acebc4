/-! round, readsMost: what may be asked of -/
theorem sub_low {x set : Int32} (hs : ∀ i, 12 ≤ i → i < 32 → bt set i = false) (h : x &&& (set ^^^ (-1)) = 0) : ∀ i, 12 ≤ i → i < 32 → bt x i = false := fun i h1 h2 => by
  have := and_not_b x set h2
  rw [h, bt_0, hs i h1 h2] at this
  cases v : bt x i with
  | false => rfl
  | true => rw [v] at this; cases this
theorem e_some (N : Nat) {x set : Int32} {w : Nat} (hw : w < 2 ^ 31) (hs : ∀ i, 12 ≤ i → i < 32 → bt set i = false) (s : Mem) : f_X9_isSome N x set (nI w) s = some (if ¬ x = 0 ∧ x &&& (set ^^^ (-1)) = 0 ∧ cnt x 12 ≤ w then 1 else 0, s) := by
  have hc := cnt_le x 12
  unfold f_X9_isSome
  by_cases h0 : x = 0
  · rw [if_pos h0, if_neg (fun y => y.1 h0)]
  · rw [if_neg h0]
    by_cases h1 : x &&& (set ^^^ (-1)) = 0
    · rw [if_pos h1, e_bc, bd_some, bc_cnt (sub_low hs h1)]
      by_cases h2 : cnt x 12 ≤ w
      · rw [if_neg (Int32.not_lt.mpr (nI_le h2 hw)), if_pos ⟨h0, h1, h2⟩]
      · rw [if_pos (nI_lt (by omega) (by omega)), if_neg (fun y => h2 y.2.2)]
    · rw [if_neg h1, if_neg (fun y => h1 y.2.1)]
theorem in_4095 {x set : Int32} (hs : ∀ i, 12 ≤ i → i < 32 → bt set i = false) (h : x &&& (set ^^^ (-1)) = 0) : inR x 1 4095 ↔ ¬ x = 0 := by
  obtain ⟨n, hn, rfl⟩ := low_n (sub_low hs h)
  constructor
  · intro h1 h2
    rw [h2] at h1
    exact absurd h1 (by decide)
  · intro h1
    have : ¬ n = 0 := fun z => h1 (by rw [z]; rfl)
    exact inR_of (a := 1) (b := 4095) (by omega) (by omega) (by decide)
