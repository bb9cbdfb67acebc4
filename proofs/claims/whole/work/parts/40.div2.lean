/-! divided: the reference's side, both -/
theorem e_allLost (N : Nat) (hN : 20 ≤ N) {n : Nat} (hn : n ≤ 8) (f : Nat → Nat) (s : Mem) (h : ∀ i, i < n → gi s 38 i = nI (f i)) : f_X10_allLost N (nI n) s = some (nI (smN f n), s) := by
  unfold f_X10_allLost
  refine lq2 (fun m x y s' => s' = s ∧ ∃ j, j + m = n ∧ y = nI j ∧ x = nI (smN f j)) (fun e => e = some (nI (smN f n), s)) (fun m x y s' rec hI ih => ?_) N n 0 0 s ⟨rfl, 0, by omega, rfl, rfl⟩ (by omega)
  obtain ⟨rfl, j, h1, rfl, rfl⟩ := hI
  unfold st_X10_allLost_4
  by_cases e : n ≤ j
  · rw [if_pos (nI_le e (by omega)), show j = n by omega]
  · rw [if_neg (nI_ge (by omega) (by omega)), chk_n (by omega) (by omega), ix_n (by omega), h j (by omega)]
    simp only [lt_e, nI_1, nI_add]
    exact ih (m - 1) _ _ _ (by omega) ⟨rfl, j + 1, by omega, rfl, rfl⟩
theorem e_givenUpTo (N : Nat) (hN : 20 ≤ N) {n b : Nat} (hn : n ≤ 8) (hb : b < 2 ^ 20) (f : Nat → Nat) (hf : ∀ i, i < n → f i ≤ 9999) (s : Mem) (h : ∀ i, i < n → gi s 38 i = nI (f i)) : f_X10_givenUpTo N (nI n) (nI b) s = some (nI (uN f b n), s) := by
  unfold f_X10_givenUpTo
  refine lq2 (fun m x y s' => s' = s ∧ ∃ j, j + m = n ∧ y = nI j ∧ x = nI (uN f b j)) (fun e => e = some (nI (uN f b n), s)) (fun m x y s' rec hI ih => ?_) N n 0 0 s ⟨rfl, 0, by omega, rfl, rfl⟩ (by omega)
  obtain ⟨rfl, j, h1, rfl, rfl⟩ := hI
  unfold st_X10_givenUpTo_5
  by_cases e : n ≤ j
  · rw [if_pos (nI_le e (by omega)), show j = n by omega]
  · have := hf j (by omega)
    rw [if_neg (nI_ge (by omega) (by omega)), chk_n (by omega) (by omega), ix_n (by omega), h j (by omega), e_minM N _ _ (by omega) (by omega), bd_some]
    simp only [lt_e, nI_1, nI_add]
    exact ih (m - 1) _ _ _ (by omega) ⟨rfl, j + 1, by omega, rfl, rfl⟩
theorem e_ga41 (N : Nat) (hN : 20 ≤ N) {n b r : Nat} (hn : n ≤ 8) (hb : b < 2 ^ 20) (hr : r < 2 ^ 20) (f g : Nat → Nat) (hf : ∀ i, i < n → f i ≤ 9999) (s : Mem) (h : ∀ i, i < n → gi s 38 i = nI (f i)) (hg : ∀ i, i < n → gi s 39 i = nI (g i)) : ∃ s', itr (fun _ _ _ => none) (st_X10_givesAlike_41 N (nI n) (nI b)) N (nI r) 0 s = some ((), s') ∧ (∀ i, i < n → gi s' 39 i = nI (g i + (min (f i) b + if 0 < rst (fun i => b + 1 ≤ f i) r i ∧ b + 1 ≤ f i then 1 else 0))) ∧ ∀ c i, ¬ c = 39 → gi s' c i = gi s c i := by
  refine lq2 (fun m x y s' => ∃ j, j + m = n ∧ y = nI j ∧ x = nI (rst (fun i => b + 1 ≤ f i) r j) ∧ (∀ i, i < j → gi s' 39 i = nI (g i + (min (f i) b + if 0 < rst (fun i => b + 1 ≤ f i) r i ∧ b + 1 ≤ f i then 1 else 0))) ∧ (∀ i, j ≤ i → i < n → gi s' 39 i = nI (g i)) ∧ ∀ c i, ¬ c = 39 → gi s' c i = gi s c i) (fun e => ∃ s', e = some ((), s') ∧ (∀ i, i < n → gi s' 39 i = nI (g i + (min (f i) b + if 0 < rst (fun i => b + 1 ≤ f i) r i ∧ b + 1 ≤ f i then 1 else 0))) ∧ ∀ c i, ¬ c = 39 → gi s' c i = gi s c i) (fun m x y s' rec hI ih => ?_) N n (nI r) 0 s ⟨0, by omega, rfl, rfl, fun i hi => absurd hi (by omega), fun i _ hi => hg i hi, fun _ _ _ => rfl⟩ (by omega)
  obtain ⟨j, h1, rfl, rfl, h2, h2', h3⟩ := hI
  have hrl := rst_le (fun i => b + 1 ≤ f i) r j
  unfold st_X10_givesAlike_41
  by_cases e : n ≤ j
  · rw [if_pos (nI_le e (by omega))]
    exact ⟨s', rfl, fun i hi => h2 i (by omega), h3⟩
  · have hfj := hf j (by omega)
    have e38 : gi s' 38 j = nI (f j) := by rw [h3 38 j (by decide)]; exact h j (by omega)
    rw [if_neg (nI_ge (by omega) (by omega))]
    simp only [lt_e]
    have nx : ∀ (t : Nat) (x' : Int32), t = (if 0 < rst (fun i => b + 1 ≤ f i) r j ∧ b + 1 ≤ f j then 1 else 0) → x' = nI (rst (fun i => b + 1 ≤ f i) r (j + 1)) → ∃ s'', rec x' (nI (j + 1)) (si s' 39 j (nI (g j + (min (f j) b + t)))) = some ((), s'') ∧ (∀ i, i < n → gi s'' 39 i = nI (g i + (min (f i) b + if 0 < rst (fun i => b + 1 ≤ f i) r i ∧ b + 1 ≤ f i then 1 else 0))) ∧ ∀ c i, ¬ c = 39 → gi s'' c i = gi s c i := fun t x' ht hx => by
      refine ih (m - 1) _ _ _ (by omega) ⟨j + 1, by omega, rfl, hx, fun i hi => ?_, fun i hi hi2 => by rw [gi_ni (by omega)]; exact h2' i (by omega) hi2, fun c i hc => by rw [gi_ne hc]; exact h3 c i hc⟩
      by_cases w : i = j
      · rw [w, gi_eq, ht]
      · rw [gi_ni w]; exact h2 i (by omega)
    by_cases w : 0 < rst (fun i => b + 1 ≤ f i) r j ∧ b + 1 ≤ f j
    · have nx1 := nx 1 (nI (rst (fun i => b + 1 ≤ f i) r j) - 1) (by rw [if_pos w]) (by
        rw [rst_s, if_pos w.2, li_1, pk_sub (by omega)])
      rw [if_neg (nI_nle w.1 (by omega)), chk_n (by omega) (by omega), ix_n (by omega), e38, if_neg (nI_ge (by omega) (by omega)), chk_n (by omega) (by omega), chk_n (by omega) (by omega), e_minM N _ _ (by omega) (by omega), bd_some, if_neg (by decide), chk_n (by omega) (by omega), if_neg (by decide), h2' j (by omega) (by omega), nI_add, nI_1, nI_1, Nat.add_assoc]
      exact nx1
    · have nx0 := nx 0 (nI (rst (fun i => b + 1 ≤ f i) r j) - 0) (by rw [if_neg w]) (by
        rw [Int32.sub_zero, rst_s]
        by_cases u : b + 1 ≤ f j
        · rw [if_pos u]
          have : rst (fun i => b + 1 ≤ f i) r j = 0 := by omega
          rw [this]
        · rw [if_neg u])
      have fin : chk (nI j) 8 (chk (nI j) 8 (bd (f_X10_min N (gi s' 38 (ix (nI j))) (nI b) s') (fun r12 s11 => if (0 : Int32) = 0 then chk (nI j) 8 (if (0 : Int32) = 0 then rec (nI (rst (fun i => b + 1 ≤ f i) r j) - 0) (nI j + 1) (si s11 39 (ix (nI j)) (gi s' 39 (ix (nI j)) + r12 + 0)) else rec (nI (rst (fun i => b + 1 ≤ f i) r j) - 1) (nI j + 1) (si s11 39 (ix (nI j)) (gi s' 39 (ix (nI j)) + r12 + 0))) else chk (nI j) 8 (if (0 : Int32) = 0 then rec (nI (rst (fun i => b + 1 ≤ f i) r j) - 0) (nI j + 1) (si s11 39 (ix (nI j)) (gi s' 39 (ix (nI j)) + r12 + 1)) else rec (nI (rst (fun i => b + 1 ≤ f i) r j) - 1) (nI j + 1) (si s11 39 (ix (nI j)) (gi s' 39 (ix (nI j)) + r12 + 1)))))) = rec (nI (rst (fun i => b + 1 ≤ f i) r j) - 0) (nI (j + 1)) (si s' 39 j (nI (g j + (min (f j) b + 0)))) := by
        rw [chk_n (by omega) (by omega), chk_n (by omega) (by omega), ix_n (by omega), e38, e_minM N _ _ (by omega) (by omega), bd_some, if_pos rfl, chk_n (by omega) (by omega), if_pos rfl, h2' j (by omega) (by omega), nI_add, nI_1, Int32.add_zero]
        rfl
      by_cases z : rst (fun i => b + 1 ≤ f i) r j = 0
      · rw [if_pos (show nI (rst (fun i => b + 1 ≤ f i) r j) ≤ 0 by rw [z]; decide)]
        rw [← fin] at nx0
        exact nx0
      · rw [if_neg (nI_nle (by omega) (by omega)), chk_n (show j < 8 by omega) (by omega), if_pos (show gi s' 38 (ix (nI j)) ≤ nI b by rw [ix_n (by omega), e38]; exact nI_le (by omega) (by omega))]
        rw [← fin] at nx0
        exact nx0
theorem e_la44 (N : Nat) (hN : 20 ≤ N) {n b r : Nat} (hn : n ≤ 8) (hb : b < 2 ^ 20) (hr : r < 2 ^ 20) (f g : Nat → Nat) (hf : ∀ i, i < n → f i ≤ 9999) (s : Mem) (h : ∀ i, i < n → gi s 38 i = nI (f i)) (hg : ∀ i, i < n → gi s 39 i = nI (g i)) : ∃ s', itr (fun _ _ _ => none) (st_X10_losesAlike_44 N (nI n) (nI b)) N (nI r) 0 s = some ((), s') ∧ (∀ i, i < n → gi s' 39 i = nI (g i + ((f i - b) + if 0 < b ∧ 0 < rst (fun i => b ≤ f i) r i ∧ b ≤ f i then 1 else 0))) ∧ ∀ c i, ¬ c = 39 → gi s' c i = gi s c i := by
  by_cases hb0 : b = 0
  · subst hb0
    refine lq2 (fun m x y s' => ∃ j, j + m = n ∧ y = nI j ∧ x = nI r ∧ (∀ i, i < j → gi s' 39 i = nI (g i + f i)) ∧ (∀ i, j ≤ i → i < n → gi s' 39 i = nI (g i)) ∧ ∀ c i, ¬ c = 39 → gi s' c i = gi s c i) (fun e => ∃ s', e = some ((), s') ∧ (∀ i, i < n → gi s' 39 i = nI (g i + ((f i - 0) + if 0 < 0 ∧ 0 < rst (fun i => 0 ≤ f i) r i ∧ 0 ≤ f i then 1 else 0))) ∧ ∀ c i, ¬ c = 39 → gi s' c i = gi s c i) (fun m x y s' rec hI ih => ?_) N n (nI r) 0 s ⟨0, by omega, rfl, rfl, fun i hi => absurd hi (by omega), fun i _ hi => hg i hi, fun _ _ _ => rfl⟩ (by omega)
    obtain ⟨j, h1, rfl, rfl, h2, h2', h3⟩ := hI
    unfold st_X10_losesAlike_44
    by_cases e : n ≤ j
    · rw [if_pos (nI_le e (by omega))]
      refine ⟨s', rfl, fun i hi => ?_, h3⟩
      rw [if_neg (fun q => absurd q.1 (by decide))]
      exact h2 i (by omega)
    · have hfj := hf j (by omega)
      have e38 : gi s' 38 j = nI (f j) := by rw [h3 38 j (by decide)]; exact h j (by omega)
      rw [if_neg (nI_ge (by omega) (by omega))]
      simp only [lt_e]
      have fin : chk (nI j) 8 (chk (nI j) 8 (bd (f_X10_max N 0 (gi s' 38 (ix (nI j)) - nI 0) s') (fun r12 s11 => if (0 : Int32) = 0 then chk (nI j) 8 (if (0 : Int32) = 0 then rec (nI r - 0) (nI j + 1) (si s11 39 (ix (nI j)) (gi s' 39 (ix (nI j)) + r12 + 0)) else rec (nI r - 1) (nI j + 1) (si s11 39 (ix (nI j)) (gi s' 39 (ix (nI j)) + r12 + 0))) else chk (nI j) 8 (if (0 : Int32) = 0 then rec (nI r - 0) (nI j + 1) (si s11 39 (ix (nI j)) (gi s' 39 (ix (nI j)) + r12 + 1)) else rec (nI r - 1) (nI j + 1) (si s11 39 (ix (nI j)) (gi s' 39 (ix (nI j)) + r12 + 1)))))) = rec (nI r) (nI (j + 1)) (si s' 39 j (nI (g j + f j))) := by
        rw [chk_n (by omega) (by omega), chk_n (by omega) (by omega), ix_n (by omega), e38, e_maxM, imax_sub _ _ (by omega) (by omega), bd_some, if_pos rfl, chk_n (by omega) (by omega), if_pos rfl, h2' j (by omega) (by omega), nI_add, nI_1, Int32.add_zero, Int32.sub_zero, Nat.sub_zero]
      have nx := ih (m - 1) (nI r) (nI (j + 1)) (si s' 39 j (nI (g j + f j))) (by omega) ⟨j + 1, by omega, rfl, rfl, fun i hi => ?_, fun i hi hi2 => by rw [gi_ni (by omega)]; exact h2' i (by omega) hi2, fun c i hc => by rw [gi_ne hc]; exact h3 c i hc⟩
      · rw [← fin] at nx
        by_cases z : nI r ≤ 0
        · rw [if_pos z]
          exact nx
        · rw [if_neg z, if_pos (show nI 0 ≤ 0 by decide)]
          exact nx
      · by_cases w : i = j
        · rw [w, gi_eq]
        · rw [gi_ni w]; exact h2 i (by omega)
  · refine lq2 (fun m x y s' => ∃ j, j + m = n ∧ y = nI j ∧ x = nI (rst (fun i => b ≤ f i) r j) ∧ (∀ i, i < j → gi s' 39 i = nI (g i + ((f i - b) + if 0 < b ∧ 0 < rst (fun i => b ≤ f i) r i ∧ b ≤ f i then 1 else 0))) ∧ (∀ i, j ≤ i → i < n → gi s' 39 i = nI (g i)) ∧ ∀ c i, ¬ c = 39 → gi s' c i = gi s c i) (fun e => ∃ s', e = some ((), s') ∧ (∀ i, i < n → gi s' 39 i = nI (g i + ((f i - b) + if 0 < b ∧ 0 < rst (fun i => b ≤ f i) r i ∧ b ≤ f i then 1 else 0))) ∧ ∀ c i, ¬ c = 39 → gi s' c i = gi s c i) (fun m x y s' rec hI ih => ?_) N n (nI r) 0 s ⟨0, by omega, rfl, rfl, fun i hi => absurd hi (by omega), fun i _ hi => hg i hi, fun _ _ _ => rfl⟩ (by omega)
    obtain ⟨j, h1, rfl, rfl, h2, h2', h3⟩ := hI
    have hrl := rst_le (fun i => b ≤ f i) r j
    unfold st_X10_losesAlike_44
    by_cases e : n ≤ j
    · rw [if_pos (nI_le e (by omega))]
      exact ⟨s', rfl, fun i hi => h2 i (by omega), h3⟩
    · have hfj := hf j (by omega)
      have e38 : gi s' 38 j = nI (f j) := by rw [h3 38 j (by decide)]; exact h j (by omega)
      rw [if_neg (nI_ge (by omega) (by omega))]
      simp only [lt_e]
      have nx : ∀ (t : Nat) (x' : Int32), t = (if 0 < b ∧ 0 < rst (fun i => b ≤ f i) r j ∧ b ≤ f j then 1 else 0) → x' = nI (rst (fun i => b ≤ f i) r (j + 1)) → ∃ s'', rec x' (nI (j + 1)) (si s' 39 j (nI (g j + ((f j - b) + t)))) = some ((), s'') ∧ (∀ i, i < n → gi s'' 39 i = nI (g i + ((f i - b) + if 0 < b ∧ 0 < rst (fun i => b ≤ f i) r i ∧ b ≤ f i then 1 else 0))) ∧ ∀ c i, ¬ c = 39 → gi s'' c i = gi s c i := fun t x' ht hx => by
        refine ih (m - 1) _ _ _ (by omega) ⟨j + 1, by omega, rfl, hx, fun i hi => ?_, fun i hi hi2 => by rw [gi_ni (by omega)]; exact h2' i (by omega) hi2, fun c i hc => by rw [gi_ne hc]; exact h3 c i hc⟩
        by_cases w : i = j
        · rw [w, gi_eq, ht]
        · rw [gi_ni w]; exact h2 i (by omega)
      by_cases w : 0 < rst (fun i => b ≤ f i) r j ∧ b ≤ f j
      · have nx1 := nx 1 (nI (rst (fun i => b ≤ f i) r j) - 1) (by rw [if_pos ⟨by omega, w⟩]) (by
          rw [rst_s, if_pos w.2, li_1, pk_sub (by omega)])
        rw [if_neg (nI_nle w.1 (by omega)), if_neg (nI_nle (by omega) (by omega)), chk_n (by omega) (by omega), ix_n (by omega), e38, if_neg (nI_nlt w.2 (by omega)), chk_n (by omega) (by omega), chk_n (by omega) (by omega), e_maxM, imax_sub _ _ (by omega) (by omega), bd_some, if_neg (by decide), chk_n (by omega) (by omega), if_neg (by decide), h2' j (by omega) (by omega), nI_add, nI_1, nI_1, Nat.add_assoc]
        exact nx1
      · have nx0 := nx 0 (nI (rst (fun i => b ≤ f i) r j)) (by rw [if_neg (fun q => w q.2)]) (by
          rw [rst_s]
          by_cases u : b ≤ f j
          · rw [if_pos u]
            have : rst (fun i => b ≤ f i) r j = 0 := by omega
            rw [this]
          · rw [if_neg u])
        have fin : chk (nI j) 8 (chk (nI j) 8 (bd (f_X10_max N 0 (gi s' 38 (ix (nI j)) - nI b) s') (fun r12 s11 => if (0 : Int32) = 0 then chk (nI j) 8 (if (0 : Int32) = 0 then rec (nI (rst (fun i => b ≤ f i) r j) - 0) (nI j + 1) (si s11 39 (ix (nI j)) (gi s' 39 (ix (nI j)) + r12 + 0)) else rec (nI (rst (fun i => b ≤ f i) r j) - 1) (nI j + 1) (si s11 39 (ix (nI j)) (gi s' 39 (ix (nI j)) + r12 + 0))) else chk (nI j) 8 (if (0 : Int32) = 0 then rec (nI (rst (fun i => b ≤ f i) r j) - 0) (nI j + 1) (si s11 39 (ix (nI j)) (gi s' 39 (ix (nI j)) + r12 + 1)) else rec (nI (rst (fun i => b ≤ f i) r j) - 1) (nI j + 1) (si s11 39 (ix (nI j)) (gi s' 39 (ix (nI j)) + r12 + 1)))))) = rec (nI (rst (fun i => b ≤ f i) r j)) (nI (j + 1)) (si s' 39 j (nI (g j + ((f j - b) + 0)))) := by
          rw [chk_n (by omega) (by omega), chk_n (by omega) (by omega), ix_n (by omega), e38, e_maxM, imax_sub _ _ (by omega) (by omega), bd_some, if_pos rfl, chk_n (by omega) (by omega), if_pos rfl, h2' j (by omega) (by omega), nI_add, nI_1, Int32.add_zero, Int32.sub_zero]
          rfl
        rw [← fin] at nx0
        by_cases z : rst (fun i => b ≤ f i) r j = 0
        · rw [if_pos (show nI (rst (fun i => b ≤ f i) r j) ≤ 0 by rw [z]; decide)]
          exact nx0
        · rw [if_neg (nI_nle (by omega) (by omega)), if_neg (nI_nle (by omega) (by omega)), chk_n (show j < 8 by omega) (by omega), if_pos (show gi s' 38 (ix (nI j)) < nI b by rw [ix_n (by omega), e38]; exact nI_lt (by omega) (by omega))]
          exact nx0
theorem e_givesAlike (N : Nat) (hN : 20000 ≤ N) {n A : Nat} (hn : n ≤ 8) (hA : A ≤ 9999) (f g : Nat → Nat) (hf : ∀ i, i < n → f i ≤ 9999) (s : Mem) (h : ∀ i, i < n → gi s 38 i = nI (f i)) (hg : ∀ i, i < n → gi s 39 i = nI (g i)) : ∃ s' b, f_X10_givesAlike N (nI n) (nI A) s = some ((), s') ∧ IsNum f n A b ∧ (∀ i, i < n → gi s' 39 i = nI (g i + gA f n A b i)) := by
  unfold f_X10_givesAlike
  have hub : ∀ b, uN f b n ≤ n * 9999 := fun b => smN_bd n (fun i hi => by have := hf i hi; show min (f i) b ≤ 9999; omega)
  have hn9 : n * 9999 ≤ 8 * 9999 := Nat.mul_le_mul_right 9999 hn
  have fin : ∀ b, b ≤ 9999 → uN f b n ≤ A → (b = 9999 ∨ A < uN f (b + 1) n) → ∃ s' b', (bd (f_X10_givenUpTo N (nI n) (nI b) s) (fun r7 s6 => lt (nI A - r7) (fun v8 => itr (fun _ _ _ => none) (st_X10_givesAlike_41 N (nI n) (nI b)) N v8 0 s6))) = some ((), s') ∧ IsNum f n A b' ∧ (∀ i, i < n → gi s' 39 i = nI (g i + gA f n A b' i)) := fun b b1 b2 b3 => by
    rw [e_givenUpTo N (by omega) hn (by omega) f hf s h, bd_some, lt_e, pk_sub b2]
    obtain ⟨s1, k1, k2, k3⟩ := e_ga41 N (by omega) (b := b) (r := A - uN f b n) hn (by omega) (by omega) f g hf s h hg
    rw [k1]
    exact ⟨s1, b, rfl, ⟨b1, b2, b3⟩, k2⟩
  refine lq1 (fun m x s' => s' = s ∧ ∃ j, j + m = 9999 ∧ x = nI j ∧ uN f j n ≤ A) (fun e => ∃ s' b, e = some ((), s') ∧ IsNum f n A b ∧ (∀ i, i < n → gi s' 39 i = nI (g i + gA f n A b i))) (fun m x s' rec hI ih => ?_) N 9999 0 s ⟨rfl, 0, by omega, rfl, ?_⟩ (by omega)
  · obtain ⟨rfl, j, h1, rfl, h2⟩ := hI
    unfold st_X10_givesAlike_2
    by_cases e : 9999 ≤ j
    · rw [if_pos (l_le 9999 9999 rfl e (by omega))]
      exact fin j (by omega) h2 (Or.inl (by omega))
    · have := hub (j + 1)
      rw [if_neg (l_ge 9999 9999 rfl (by omega) (by decide)), nI_1, e_givenUpTo N (by omega) hn (by omega) f hf s' h, bd_some]
      by_cases w : uN f (j + 1) n ≤ A
      · rw [if_neg (nI_nlt w (by omega)), lt_e]
        exact ih (m - 1) _ _ (by omega) ⟨rfl, j + 1, by omega, rfl, w⟩
      · rw [if_pos (nI_lt (by omega) (by omega))]
        exact fin j (by omega) h2 (Or.inr (by omega))
  · have : uN f 0 n ≤ n * 0 := smN_bd n (fun i _ => by show min (f i) 0 ≤ 0; omega)
    omega
theorem e_losesAlike (N : Nat) (hN : 20000 ≤ N) {n A : Nat} (hn : n ≤ 8) (hA : A ≤ 9999) (f g : Nat → Nat) (hf : ∀ i, i < n → f i ≤ 9999) (s : Mem) (h : ∀ i, i < n → gi s 38 i = nI (f i)) (hg : ∀ i, i < n → gi s 39 i = nI (g i)) : ∃ s' b, f_X10_losesAlike N (nI n) (nI A) s = some ((), s') ∧ IsCut f n A b ∧ (∀ i, i < n → gi s' 39 i = nI (g i + gC f n A b i)) := by
  unfold f_X10_losesAlike
  have hub : ∀ b, lNN f b n ≤ n * 9999 := fun b => smN_bd n (fun i hi => by have := hf i hi; show f i - b ≤ 9999; omega)
  have hn9 : n * 9999 ≤ 8 * 9999 := Nat.mul_le_mul_right 9999 hn
  refine lq1 (fun m x s' => s' = s ∧ ∃ j, j + m = 9999 ∧ x = nI j ∧ (j = 0 ∨ A < lNN f (j - 1) n)) (fun e => ∃ s' b, e = some ((), s') ∧ IsCut f n A b ∧ (∀ i, i < n → gi s' 39 i = nI (g i + gC f n A b i))) (fun m x s' rec hI ih => ?_) N 9999 0 s ⟨rfl, 0, by omega, rfl, Or.inl rfl⟩ (by omega)
  obtain ⟨rfl, j, h1, rfl, h2⟩ := hI
  have hul := ul_add f j n
  have hlj := hub j
  unfold st_X10_losesAlike_2
  rw [e_allLost N (by omega) hn f s' h, bd_some, e_givenUpTo N (by omega) hn (by omega) f hf s' h, bd_some, pk_sub (show uN f j n ≤ smN f n by omega), show smN f n - uN f j n = lNN f j n by omega]
  by_cases w : lNN f j n ≤ A
  · rw [if_pos (nI_le w (by omega))]
    show ∃ s'' b, bd (f_X10_allLost N (nI n) s') _ = _ ∧ _
    rw [e_allLost N (by omega) hn f s' h, bd_some, e_givenUpTo N (by omega) hn (by omega) f hf s' h, bd_some, lt_e]
    have hv : nI A - nI (smN f n) + nI (uN f j n) = nI (A - lNN f j n) := by
      rw [← pk_sub w, ← hul, ← nI_add, Int32.sub_eq_add_neg, Int32.neg_add, Int32.sub_eq_add_neg, Int32.add_assoc, Int32.sub_eq_add_neg]
      congr 1
      rw [Int32.add_comm (-(nI (uN f j n))) _, Int32.add_assoc, Int32.add_left_neg, Int32.add_zero]
    rw [hv]
    obtain ⟨s1, k1, k2, k3⟩ := e_la44 N (by omega) (b := j) (r := A - lNN f j n) hn (by omega) (by omega) f g hf s' h hg
    rw [k1]
    exact ⟨s1, j, rfl, ⟨w, h2⟩, k2⟩
  · rw [if_neg (nI_ge (by omega) (by omega)), lt_e, nI_1]
    have hj : j < 9999 := by
      by_cases u : j < 9999
      · exact u
      · have : lNN f j n ≤ n * 0 := smN_bd n (fun i hi => by have := hf i hi; show f i - j ≤ 0; omega)
        omega
    exact ih (m - 1) _ _ (by omega) ⟨rfl, j + 1, by omega, rfl, Or.inr (by rw [show j + 1 - 1 = j by omega]; omega)⟩
