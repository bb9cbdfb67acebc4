/-! letter -/
/-- the reference's row of a letter, filled from place p on -/
def kfl (k h : Nat) (l : Int32) : Nat → Nat → Mem → Mem
  | 0, _, s => s
  | n + 1, p, s => kfl k h l n (p + 1) (si s 1 (12 + 12 * k + p) (if p = h then l else -1))
theorem kfl_gi (k h : Nat) (l : Int32) : ∀ (n p : Nat) (s : Mem) (c i : Nat), gi (kfl k h l n p s) c i = if c = 1 ∧ 12 + 12 * k + p ≤ i ∧ i < 12 + 12 * k + p + n then (if i = 12 + 12 * k + h then l else -1) else gi s c i
  | 0, p, s, c, i => by
    rw [if_neg (by omega)]
    rfl
  | n + 1, p, s, c, i => by
    show gi (kfl k h l n (p + 1) _) c i = _
    rw [kfl_gi k h l n (p + 1) _ c i, gi_si]
    by_cases h1 : c = 1 ∧ 12 + 12 * k + (p + 1) ≤ i ∧ i < 12 + 12 * k + (p + 1) + n
    · rw [if_pos h1, if_pos (show c = 1 ∧ 12 + 12 * k + p ≤ i ∧ i < 12 + 12 * k + p + (n + 1) by omega)]
    · rw [if_neg h1]
      by_cases h2 : c = 1 ∧ i = 12 + 12 * k + p
      · rw [if_pos h2]
        have h4 : c = 1 ∧ 12 + 12 * k + p ≤ i ∧ i < 12 + 12 * k + p + (n + 1) := by omega
        rw [if_pos h4]
        by_cases h3 : p = h
        · rw [if_pos h3, if_pos (by omega)]
        · rw [if_neg h3, if_neg (by omega)]
      · rw [if_neg h2, if_neg (by omega)]
theorem sl_letter (N : Nat) {k h l p : Nat} (hk : k < 6) (hh : h < 12) (hp : p < 12) (rec : Int32 → Mem → Option (Int32 × Mem)) (s : Mem) : st_X10_letter_115 N (nI k) (nI h) (nI l) rec (nI p) s = rec (nI (p + 1)) (si s 1 (12 + 12 * k + p) (if p = h then nI l else -1)) := by
  unfold st_X10_letter_115 f_X10_known
  rw [if_neg (by rw [li_12]; exact nI_ge (by omega) (by decide)), bd_some]
  simp (disch := omega) only [li_12, pk_mul, nI_add, chk_n, ix_n, lt_e, nI_1]
  by_cases e : p = h
  · rw [if_pos (by rw [e]), if_pos e]
  · rw [if_neg (fun q => e ((nI_eq (by omega) (by omega)).mp q)), if_neg e]
theorem sx_letter (N : Nat) {k h l : Nat} (rec : Int32 → Mem → Option (Int32 × Mem)) (s : Mem) : st_X10_letter_115 N (nI k) (nI h) (nI l) rec (nI 12) s = some (1, s) := by
  unfold st_X10_letter_115
  rw [if_pos (by decide)]
theorem lp_letter (N : Nat) {k h l : Nat} (hk : k < 6) (hh : h < 12) : ∀ (n p M : Nat) (s : Mem), p + n = 12 → n < M → itr (fun _ _ => none) (st_X10_letter_115 N (nI k) (nI h) (nI l)) M (nI p) s = some (1, kfl k h (nI l) n p s)
  | n, p, 0, s, _, h2 => absurd h2 (by omega)
  | 0, p, M + 1, s, h1, _ => by
    rw [show p = 12 by omega]
    exact sx_letter N _ s
  | n + 1, p, M + 1, s, h1, h2 => (sl_letter N hk hh (by omega) _ s).trans (lp_letter N hk hh n (p + 1) M _ (by omega) (by omega))
theorem nI_ne_m1 {n : Nat} (h : n < 2 ^ 31) : ¬ nI n = -1 := fun q => by
  have h1 := congrArg Int32.toInt q
  rw [nI_toInt h] at h1
  have h2 : (-1 : Int32).toInt = -1 := by decide
  omega
theorem bt_or_ge {m : Int32} {k i : Nat} (hk : k < 6) (hi : 6 ≤ i) (hi2 : i < 32) (h : bt m i = false) : bt (m ||| ((1 : Int32) <<< (nI k &&& 31))) i = false := by
  rw [b_set m (by omega) hi2, h]
  simp
  omega
theorem s_letter (N : Nat) (hN : 20 ≤ N) {σ τ : Mem} (hp : Rp σ τ) (hn : Rn σ τ) (x1 x2 x3 : Int32) : ∃ r σ' τ', f_X9_letter N x1 x2 x3 σ = some (r, σ') ∧ f_X10_letter N x1 x2 x3 τ = some (r, τ') ∧ Rn σ' τ' := by
  unfold f_X9_letter f_X10_letter
  simp only [e_isLetterC, e_told3, e_isParish, e_within, e_in, bd_some, ite10, lt_e, ck_144_151, ck_146_151, ix_144, ix_146]
  rw [← hp.1]
  by_cases h1 : inR x1 0 5
  · by_cases h2 : inR x2 0 11 ∧ hb (gi σ 3 0) x2
    · by_cases h3 : inR x3 1 9999
      · rw [if_pos h1, if_pos h2, if_pos h3, if_pos h1, if_pos h2, if_pos h3]
        obtain ⟨k, -, hk', rfl⟩ := inR_n (a := 0) (b := 5) rfl rfl (by decide) (by decide) h1
        obtain ⟨h, -, hh', rfl⟩ := inR_n (a := 0) (b := 11) rfl rfl (by decide) (by decide) h2.1
        obtain ⟨l, hl1, hl2, rfl⟩ := inR_n (a := 1) (b := 9999) rfl rfl (by decide) (by decide) h3
        unfold f_X0_begin
        simp (disch := omega) only [li_126, li_132, li_138, li_84, pk_mul, nI_add, chk_n, ix_n, lt_e, bd_some]
        rw [← nI_0, lp_letter N (by omega) (by omega) 12 0 N _ (by omega) (by omega)]
        refine ⟨1, _, _, rfl, rfl, ?_⟩
        obtain ⟨⟨⟨a1, a2, a3, a4, a5, a6, a7⟩, a8, a9, a10, a11⟩, ⟨⟨i1, i2, i3, i4⟩, i5, i6, i7, i8⟩, iw⟩ := hn
        have hα : ∀ i, i < 151 → gi (kfl k h (nI l) 12 0 (si (si (si (si (si (si τ 1 146 (gi τ 1 146 ||| ((1 : Int32) <<< (nI k &&& 31)))) 1 144 (gi (si τ 1 146 (gi τ 1 146 ||| ((1 : Int32) <<< (nI k &&& 31)))) 1 144 ||| ((1 : Int32) <<< (nI k &&& 31)))) 1 (126 + k) (nI h)) 1 (132 + k) (nI l)) 1 (138 + k) (nI 0)) 1 (84 + k) (nI 0))) 1 i = if 12 + 12 * k ≤ i ∧ i < 24 + 12 * k then (if i = 12 + 12 * k + h then nI l else -1) else if i = 84 + k then nI 0 else if i = 138 + k then nI 0 else if i = 132 + k then nI l else if i = 126 + k then nI h else if i = 144 then (gi τ 1 144 ||| ((1 : Int32) <<< (nI k &&& 31))) else if i = 146 then (gi τ 1 146 ||| ((1 : Int32) <<< (nI k &&& 31))) else gi τ 1 i := by
          intro i hi
          rw [kfl_gi]
          by_cases q : 12 + 12 * k ≤ i ∧ i < 24 + 12 * k
          · rw [if_pos (by omega), if_pos q]
          · rw [if_neg (by omega), if_neg q]
            simp only [gi_si, true_and, show ¬ (144 = 146) by decide, if_false]
        generalize kfl k h (nI l) 12 0 _ = τ' at hα ⊢
        refine ⟨⟨⟨fun p hp => ?_, ?_, ?_, ?_, ?_, ?_, ?_⟩, fun k' hk' => ?_, fun k' p hk' hp => ?_, fun k' i hk' hi hi2 => ?_, fun p j hp hj => ?_⟩, ⟨⟨fun p hp => ?_, ?_, ?_, ?_⟩, fun i hi hi2 => ?_, fun k' hk' => ?_, fun k' p hk' hp => ?_, fun k' hk' => ?_⟩, ?_⟩
        · show _ = gi τ' 1 p
          rw [hα p (by omega)]; simp (disch := omega) only [if_neg, if_pos, gi_ne, gi_ni, gi_eq]; exact a1 p hp
        · show _ = gi τ' 1 146
          rw [hα 146 (by omega)]; simp (disch := omega) only [if_neg, if_pos, gi_ne, gi_ni, gi_eq]; rw [a2]; rfl
        · show _ = gi τ' 1 144
          rw [hα 144 (by omega)]; simp (disch := omega) only [if_neg, if_pos, gi_ne, gi_ni, gi_eq]; rw [a3]; rfl
        · show _ = gi τ' 1 149
          rw [hα 149 (by omega)]; simp (disch := omega) only [if_neg, if_pos, gi_ne, gi_ni, gi_eq]; exact a4
        · show _ = gi τ' 1 147
          rw [hα 147 (by omega)]; simp (disch := omega) only [if_neg, if_pos, gi_ne, gi_ni, gi_eq]; exact a5
        · show _ = gi τ' 1 148
          rw [hα 148 (by omega)]; simp (disch := omega) only [if_neg, if_pos, gi_ne, gi_ni, gi_eq]; exact a6
        · show _ = gi τ' 1 150
          rw [hα 150 (by omega)]; simp (disch := omega) only [if_neg, if_pos, gi_ne, gi_ni, gi_eq]; exact a7
        · show _ = gi τ' 1 (126 + k') ∧ _ = gi τ' 1 (132 + k') ∧ _ = gi τ' 1 (138 + k') ∧ _ = gi τ' 1 (84 + k')
          rw [hα _ (by omega), hα _ (by omega), hα _ (by omega), hα _ (by omega)]
          by_cases e : k' = k
          · subst e
            simp (disch := omega) only [if_neg, if_pos, gi_ne, gi_ni, gi_eq]
            exact ⟨rfl, rfl, rfl, rfl⟩
          · simp (disch := omega) only [if_neg, if_pos, gi_ne, gi_ni, gi_eq]
            exact a8 k' hk'
        · show _ ∨ _ ∧ gi τ' 1 (12 + 12 * k' + p) = -1
          by_cases e : k' = k
          · subst e
            by_cases e2 : p = h
            · subst e2
              left
              refine ⟨?_, ?_, ?_⟩
              · simp (disch := omega) only [if_neg, if_pos, gi_ne, gi_ni, gi_eq]
                rw [b_one (by omega) (by omega)]; simp
              · show ¬ gi τ' 1 (12 + 12 * k' + p) = -1
                rw [hα _ (by omega)]; simp (disch := omega) only [if_neg, if_pos, gi_ne, gi_ni, gi_eq]
                exact nI_ne_m1 (by omega)
              · show _ = gi τ' 1 (12 + 12 * k' + p)
                rw [hα _ (by omega)]; simp (disch := omega) only [if_neg, if_pos, gi_ne, gi_ni, gi_eq]
                first | rfl | simp
            · right
              refine ⟨?_, ?_⟩
              · simp (disch := omega) only [if_neg, if_pos, gi_ne, gi_ni, gi_eq]
                rw [b_one (by omega) (by omega)]; simp [e2]
              · rw [hα _ (by omega)]; simp (disch := omega) only [if_neg, if_pos, gi_ne, gi_ni, gi_eq]
          · have h9 := a9 k' p hk' hp
            have e9 : gi τ' 1 (12 + 12 * k' + p) = Al τ 1 (12 + 12 * k' + p) := by
              rw [hα _ (by omega)]; simp (disch := omega) only [if_neg, if_pos, gi_ne, gi_ni, gi_eq]; rfl
            show (_ ∧ ¬ gi τ' 1 (12 + 12 * k' + p) = -1 ∧ _ = gi τ' 1 (12 + 12 * k' + p)) ∨ _
            rw [e9]
            simp (disch := omega) only [if_neg, if_pos, gi_ne, gi_ni, gi_eq]
            exact h9
        · by_cases e : k' = k
          · subst e
            simp (disch := omega) only [if_neg, if_pos, gi_ne, gi_ni, gi_eq]
            rw [b_one (by omega) (by omega)]; simp; omega
          · simp (disch := omega) only [if_neg, if_pos, gi_ne, gi_ni, gi_eq]
            exact a10 k' i hk' hi hi2
        · show (_ ∧ gi τ' 1 (90 + 3 * p + j) = 1) ∨ (_ ∧ gi τ' 1 (90 + 3 * p + j) = 0)
          rw [hα _ (by omega)]
          simp (disch := omega) only [if_neg, if_pos, gi_ne, gi_ni, gi_eq]
          exact a11 p j hp hj
        · show ∃ w, w ≤ 99 ∧ gi τ' 1 p = nI w
          rw [hα _ (by omega)]; simp (disch := omega) only [if_neg, if_pos, gi_ne, gi_ni, gi_eq]; exact i1 p hp
        · show ∃ w, w ≤ 999999 ∧ gi τ' 1 149 = nI w
          rw [hα _ (by omega)]; simp (disch := omega) only [if_neg, if_pos, gi_ne, gi_ni, gi_eq]; exact i2
        · show ∃ w, w ≤ 9999 ∧ gi τ' 1 147 = nI w
          rw [hα _ (by omega)]; simp (disch := omega) only [if_neg, if_pos, gi_ne, gi_ni, gi_eq]; exact i3
        · show ∃ w, w < 65536 ∧ gi τ' 1 150 = nI w
          rw [hα _ (by omega)]; simp (disch := omega) only [if_neg, if_pos, gi_ne, gi_ni, gi_eq]; exact i4
        · show bt (gi τ' 1 146) i = false ∧ bt (gi τ' 1 144) i = false
          rw [hα _ (by omega), hα _ (by omega)]; simp (disch := omega) only [if_neg, if_pos, gi_ne, gi_ni, gi_eq]
          exact ⟨bt_or_ge (by omega) hi hi2 (i5 i hi hi2).1, bt_or_ge (by omega) hi hi2 (i5 i hi hi2).2⟩
        · show (∃ h, h < 12 ∧ gi τ' 1 (126 + k') = nI h) ∧ (∃ l, l ≤ 9999 ∧ gi τ' 1 (132 + k') = nI l) ∧ (∃ f, f ≤ 999999 ∧ gi τ' 1 (138 + k') = nI f) ∧ ∀ i, 12 ≤ i → i < 32 → bt (gi τ' 1 (84 + k')) i = false
          rw [hα _ (by omega), hα _ (by omega), hα _ (by omega), hα _ (by omega)]
          by_cases e : k' = k
          · subst e
            simp (disch := omega) only [if_neg, if_pos, gi_ne, gi_ni, gi_eq]
            exact ⟨⟨h, by omega, rfl⟩, ⟨l, by omega, rfl⟩, ⟨0, by omega, rfl⟩, fun i _ _ => b_0 i⟩
          · simp (disch := omega) only [if_neg, if_pos, gi_ne, gi_ni, gi_eq]
            exact i6 k' hk'
        · show gi τ' 1 (12 + 12 * k' + p) = -1 ∨ ∃ t, t ≤ 99999 ∧ gi τ' 1 (12 + 12 * k' + p) = nI t
          rw [hα _ (by omega)]
          by_cases e : k' = k
          · subst e
            by_cases e2 : p = h
            · simp (disch := omega) only [if_neg, if_pos, gi_ne, gi_ni, gi_eq]
              exact Or.inr ⟨l, by omega, rfl⟩
            · simp (disch := omega) only [if_neg, if_pos, gi_ne, gi_ni, gi_eq]
              first | exact Or.inl rfl | exact Or.inl trivial
          · simp (disch := omega) only [if_neg, if_pos, gi_ne, gi_ni, gi_eq]
            exact i7 k' p hk' hp
        · show bt (gi τ' 1 146) k' = false → (∀ p, p < 12 → gi τ' 1 (12 + 12 * k' + p) = -1) ∧ gi τ' 1 (84 + k') = 0 ∧ bt (gi τ' 1 144) k' = false
          intro q
          rw [hα 146 (by omega)] at q
          simp (disch := omega) only [if_neg, if_pos, gi_ne, gi_ni, gi_eq, if_true, if_false] at q
          rw [b_set (gi τ 1 146) (k := k) (by omega) (i := k') (by omega)] at q
          simp only [Bool.or_eq_false_iff, decide_eq_false_iff_not] at q
          have q2 := q.2
          obtain ⟨b1, b2, b3⟩ := i8 k' hk' q.1
          refine ⟨fun p hp => ?_, ?_, ?_⟩
          · rw [hα _ (by omega)]; simp (disch := omega) only [if_neg, if_pos, gi_ne, gi_ni, gi_eq, if_true, if_false]; exact b1 p hp
          · rw [hα _ (by omega)]; simp (disch := omega) only [if_neg, if_pos, gi_ne, gi_ni, gi_eq, if_true, if_false]; exact b2
          · rw [hα _ (by omega)]; simp (disch := omega) only [if_neg, if_pos, gi_ne, gi_ni, gi_eq, if_true, if_false]
            rw [b_set (gi τ 1 144) (k := k) (by omega) (i := k') (by omega), show bt (gi τ 1 144) k' = false from b3]; simp [q2]
        · rw [hα 145 (by omega)]
          intro p hp hz
          show gi τ' 1 p = 0
          rw [hα _ (by omega)]; simp (disch := omega) only [if_neg, if_pos, gi_ne, gi_ni, gi_eq]
          exact iw p hp (by revert hz; simp (disch := omega) only [if_neg, if_pos, gi_ne, gi_ni, gi_eq]; exact id)
      · rw [if_pos h1, if_pos h2, if_neg h3, if_pos h1, if_pos h2, if_neg h3]
        exact ⟨0, _, _, rfl, rfl, hn⟩
    · rw [if_pos h1, if_neg h2, if_pos h1, if_neg h2]
      exact ⟨0, _, _, rfl, rfl, hn⟩
  · rw [if_neg h1, if_neg h1]
    exact ⟨0, _, _, rfl, rfl, hn⟩
