/-! loops by a measure; divided: the class's side -/
theorem lq1 {α : Type} {z : Int32 → Mem → α} {st : (Int32 → Mem → α) → Int32 → Mem → α} (I : Nat → Int32 → Mem → Prop) (Q : α → Prop) (hs : ∀ m x s rec, I m x s → (∀ m' x' s', m' < m → I m' x' s' → Q (rec x' s')) → Q (st rec x s)) : ∀ (M m : Nat) (x : Int32) (s : Mem), I m x s → m < M → Q (itr z st M x s)
  | 0, m, x, s, _, h => absurd h (by omega)
  | M + 1, m, x, s, hI, h => hs m x s _ hI (fun m' x' s' h1 h2 => lq1 I Q hs M m' x' s' h2 (by omega))
theorem lq2 {α : Type} {z : Int32 → Int32 → Mem → α} {st : (Int32 → Int32 → Mem → α) → Int32 → Int32 → Mem → α} (I : Nat → Int32 → Int32 → Mem → Prop) (Q : α → Prop) (hs : ∀ m x y s rec, I m x y s → (∀ m' x' y' s', m' < m → I m' x' y' s' → Q (rec x' y' s')) → Q (st rec x y s)) : ∀ (M m : Nat) (x y : Int32) (s : Mem), I m x y s → m < M → Q (itr z st M x y s)
  | 0, m, x, y, s, _, h => absurd h (by omega)
  | M + 1, m, x, y, s, hI, h => hs m x y s _ hI (fun m' x' y' s' h1 h2 => lq2 I Q hs M m' x' y' s' h2 (by omega))
theorem lq3 {α : Type} {z : Int32 → Int32 → Int32 → Mem → α} {st : (Int32 → Int32 → Int32 → Mem → α) → Int32 → Int32 → Int32 → Mem → α} (I : Nat → Int32 → Int32 → Int32 → Mem → Prop) (Q : α → Prop) (hs : ∀ m x y w s rec, I m x y w s → (∀ m' x' y' w' s', m' < m → I m' x' y' w' s' → Q (rec x' y' w' s')) → Q (st rec x y w s)) : ∀ (M m : Nat) (x y w : Int32) (s : Mem), I m x y w s → m < M → Q (itr z st M x y w s)
  | 0, m, x, y, w, s, _, h => absurd h (by omega)
  | M + 1, m, x, y, w, s, hI, h => hs m x y w s _ hI (fun m' x' y' w' s' h1 h2 => lq3 I Q hs M m' x' y' w' s' h2 (by omega))
theorem l_ge (L : Int32) (k : Nat) (hL : L = nI k) {j : Nat} (h : j < k) (hk : k < 2 ^ 31) : ¬ L ≤ nI j := by
  rw [hL]; exact nI_ge h hk
theorem l_le (L : Int32) (k : Nat) (hL : L = nI k) {j : Nat} (h : k ≤ j) (hj : j < 2 ^ 31) : L ≤ nI j := by
  rw [hL]; exact nI_le h hj
/-- the sum of the first n of g -/
def smN (g : Nat → Nat) : Nat → Nat
  | 0 => 0
  | n + 1 => smN g n + g n
theorem smN_s (g : Nat → Nat) (n : Nat) : smN g (n + 1) = smN g n + g n := rfl
theorem smN_le {g h : Nat → Nat} : ∀ n, (∀ i, i < n → g i ≤ h i) → smN g n ≤ smN h n
  | 0, _ => Nat.le_refl _
  | n + 1, q => by
    have := smN_le n (fun i hi => q i (by omega))
    have := q n (by omega)
    rw [smN_s, smN_s]; omega
theorem smN_congr {g h : Nat → Nat} (n : Nat) (q : ∀ i, i < n → g i = h i) : smN g n = smN h n := Nat.le_antisymm (smN_le n (fun i hi => Nat.le_of_eq (q i hi))) (smN_le n (fun i hi => Nat.le_of_eq (q i hi).symm))
theorem smN_bd {g : Nat → Nat} {b : Nat} : ∀ n, (∀ i, i < n → g i ≤ b) → smN g n ≤ n * b
  | 0, _ => by simp [smN]
  | n + 1, q => by
    have := smN_bd n (fun i hi => q i (by omega))
    have := q n (by omega)
    rw [smN_s, Nat.succ_mul]; omega
theorem smN_pad {g : Nat → Nat} {n : Nat} : ∀ m, (∀ i, n ≤ i → i < n + m → g i = 0) → smN g (n + m) = smN g n
  | 0, _ => rfl
  | m + 1, q => by
    show smN g (n + m) + g (n + m) = _
    rw [smN_pad m (fun i h1 h2 => q i h1 (by omega)), q (n + m) (by omega) (by omega)]
    rfl
theorem smN_add {g h k : Nat → Nat} : ∀ n, (∀ i, i < n → g i + h i = k i) → smN g n + smN h n = smN k n
  | 0, _ => rfl
  | n + 1, q => by
    have := smN_add n (fun i hi => q i (by omega))
    have := q n (by omega)
    rw [smN_s, smN_s, smN_s]; omega
def uN (f : Nat → Nat) (b n : Nat) : Nat := smN (fun i => min (f i) b) n
def lNN (f : Nat → Nat) (c n : Nat) : Nat := smN (fun i => f i - c) n
theorem uN_mono (f : Nat → Nat) {b c : Nat} (h : b ≤ c) (n : Nat) : uN f b n ≤ uN f c n := smN_le n (fun i _ => by show min (f i) b ≤ min (f i) c; omega)
theorem lNN_mono (f : Nat → Nat) {b c : Nat} (h : b ≤ c) (n : Nat) : lNN f c n ≤ lNN f b n := smN_le n (fun i _ => by show f i - c ≤ f i - b; omega)
theorem ul_add (f : Nat → Nat) (c n : Nat) : uN f c n + lNN f c n = smN f n := smN_add n (fun i _ => by show min (f i) c + (f i - c) = f i; omega)
/-- what is left of a rest before place i, when each with p takes one -/
def rst (p : Nat → Prop) [DecidablePred p] (r : Nat) : Nat → Nat
  | 0 => r
  | i + 1 => if p i then rst p r i - 1 else rst p r i
theorem rst_s (p : Nat → Prop) [DecidablePred p] (r i : Nat) : rst p r (i + 1) = if p i then rst p r i - 1 else rst p r i := rfl
theorem rst_le (p : Nat → Prop) [DecidablePred p] (r : Nat) : ∀ i, rst p r i ≤ r
  | 0 => Nat.le_refl r
  | i + 1 => by
    have := rst_le p r i
    rw [rst_s]
    by_cases h : p i
    · rw [if_pos h]; omega
    · rw [if_neg h]; omega
theorem e_allOf (N : Nat) (hN : 20 ≤ N) {q n L : Nat} (hn : n ≤ L) (hL : lenC q = L) (hL2 : L ≤ 8) (f : Nat → Nat) (s : Mem) (h : ∀ i, i < n → gi s q i = nI (f i)) : f_X5_allOf N q (nI n) s = some (nI (smN f n), s) := by
  unfold f_X5_allOf
  refine lq2 (fun m x y s' => s' = s ∧ ∃ j, j + m = n ∧ y = nI j ∧ x = nI (smN f j)) (fun e => e = some (nI (smN f n), s)) (fun m x y s' rec hI ih => ?_) N n 0 0 s ⟨rfl, 0, by omega, rfl, rfl⟩ (by omega)
  obtain ⟨rfl, j, h1, rfl, rfl⟩ := hI
  unfold st_X5_allOf_4
  by_cases e : n ≤ j
  · rw [if_pos (nI_le e (by omega)), show j = n by omega]
  · rw [if_neg (nI_ge (by omega) (by omega)), hL, if_neg (nI_ge (by omega) (by omega)), chk_n (by omega) (by omega), ix_n (by omega), h j (by omega)]
    simp only [lt_e, nI_1, nI_add]
    exact ih (m - 1) _ _ _ (by omega) ⟨rfl, j + 1, by omega, rfl, rfl⟩
theorem e_shareUp (N : Nat) (hN : 20 ≤ N) {b : Nat} (hb : b < 2 ^ 20) (f : Nat → Nat) (hf : ∀ i, i < 8 → f i ≤ 9999) (s : Mem) (h : ∀ i, i < 8 → gi s 124 i = nI (f i)) : ∃ s', f_X5_shareUpTo N (nI b) s = some (nI (uN f b 8), s') ∧ (∀ i, i < 8 → gi s' 125 i = nI (min (f i) b)) ∧ ∀ c i, ¬ c = 125 → gi s' c i = gi s c i := by
  unfold f_X5_shareUpTo
  refine lq1 (fun m x s' => ∃ j, j + m = 8 ∧ x = nI j ∧ (∀ i, i < j → gi s' 125 i = nI (min (f i) b)) ∧ ∀ c i, ¬ c = 125 → gi s' c i = gi s c i) (fun e => ∃ s', e = some (nI (uN f b 8), s') ∧ (∀ i, i < 8 → gi s' 125 i = nI (min (f i) b)) ∧ ∀ c i, ¬ c = 125 → gi s' c i = gi s c i) (fun m x s' rec hI ih => ?_) N 8 0 s ⟨0, by omega, rfl, fun i hi => absurd hi (by omega), fun _ _ _ => rfl⟩ (by omega)
  obtain ⟨j, h1, rfl, h2, h3⟩ := hI
  unfold st_X5_shareUpTo_2
  by_cases e : 8 ≤ j
  · rw [if_pos (l_le 8 8 rfl e (by omega)), show (8 : Int32) = nI 8 from rfl, e_allOf N hN (Nat.le_refl 8) (show lenC 125 = 8 from rfl) (by omega) (fun i => min (f i) b) s' (fun i hi => h2 i (by omega)), bd_some]
    exact ⟨s', rfl, fun i hi => h2 i (by omega), h3⟩
  · have := hf j (by omega)
    rw [if_neg (l_ge 8 8 rfl (by omega) (by decide)), chk_n (by omega) (by omega), chk_n (by omega) (by omega), ix_n (by omega), h3 124 j (by decide), h j (by omega), e_iminN _ _ (by omega) (by omega)]
    simp only [lt_e, nI_1]
    refine ih (m - 1) _ _ (by omega) ⟨j + 1, by omega, rfl, fun i hi => ?_, fun c i hc => by rw [gi_ne hc]; exact h3 c i hc⟩
    by_cases w : i = j
    · rw [w, gi_eq]
    · rw [gi_ni w]; exact h2 i (by omega)
theorem imax_sub (a b : Nat) (ha : a < 2 ^ 30) (hb : b < 2 ^ 30) : imax 0 (nI a - nI b) = nI (a - b) := by
  by_cases h : b ≤ a
  · rw [pk_sub h, show (0 : Int32) = nI 0 from rfl, e_imaxN _ _ (by omega) (by omega), Nat.max_eq_right (by omega)]
  · rw [show a - b = 0 by omega]
    unfold imax
    rw [if_neg (fun q => by
      have h1 := Int32.lt_iff_toInt_lt.mp q
      have h2 := Int32.lt_iff_toInt_lt.mp (pk_sneg hb (show a < b by omega))
      omega)]
    rfl
theorem e_shareLess (N : Nat) (hN : 20 ≤ N) {b : Nat} (hb : b < 2 ^ 20) (f : Nat → Nat) (hf : ∀ i, i < 8 → f i ≤ 9999) (s : Mem) (h : ∀ i, i < 8 → gi s 124 i = nI (f i)) : ∃ s', f_X5_shareLess N (nI b) s = some (nI (lNN f b 8), s') ∧ (∀ i, i < 8 → gi s' 125 i = nI (f i - b)) ∧ ∀ c i, ¬ c = 125 → gi s' c i = gi s c i := by
  unfold f_X5_shareLess
  refine lq1 (fun m x s' => ∃ j, j + m = 8 ∧ x = nI j ∧ (∀ i, i < j → gi s' 125 i = nI (f i - b)) ∧ ∀ c i, ¬ c = 125 → gi s' c i = gi s c i) (fun e => ∃ s', e = some (nI (lNN f b 8), s') ∧ (∀ i, i < 8 → gi s' 125 i = nI (f i - b)) ∧ ∀ c i, ¬ c = 125 → gi s' c i = gi s c i) (fun m x s' rec hI ih => ?_) N 8 0 s ⟨0, by omega, rfl, fun i hi => absurd hi (by omega), fun _ _ _ => rfl⟩ (by omega)
  obtain ⟨j, h1, rfl, h2, h3⟩ := hI
  unfold st_X5_shareLess_2
  by_cases e : 8 ≤ j
  · rw [if_pos (l_le 8 8 rfl e (by omega)), show (8 : Int32) = nI 8 from rfl, e_allOf N hN (Nat.le_refl 8) (show lenC 125 = 8 from rfl) (by omega) (fun i => f i - b) s' (fun i hi => h2 i (by omega)), bd_some]
    exact ⟨s', rfl, fun i hi => h2 i (by omega), h3⟩
  · have := hf j (by omega)
    rw [if_neg (l_ge 8 8 rfl (by omega) (by decide)), chk_n (by omega) (by omega), chk_n (by omega) (by omega), ix_n (by omega), h3 124 j (by decide), h j (by omega), imax_sub _ _ (by omega) (by omega)]
    simp only [lt_e, nI_1]
    refine ih (m - 1) _ _ (by omega) ⟨j + 1, by omega, rfl, fun i hi => ?_, fun c i hc => by rw [gi_ne hc]; exact h3 c i hc⟩
    by_cases w : i = j
    · rw [w, gi_eq]
    · rw [gi_ni w]; exact h2 i (by omega)
theorem e_giveRest (N : Nat) (hN : 20 ≤ N) {r b : Nat} (hr : r < 2 ^ 20) (hb : b < 2 ^ 20) (f g : Nat → Nat) (hf : ∀ i, i < 8 → f i ≤ 9999) (s : Mem) (h : ∀ i, i < 8 → gi s 124 i = nI (f i)) (hg : ∀ i, i < 8 → gi s 125 i = nI (g i)) : ∃ s', f_X5_giveRest N (nI r) (nI b) s = some ((), s') ∧ (∀ i, i < 8 → gi s' 125 i = nI (g i + if 0 < rst (fun i => b ≤ f i) r i ∧ b ≤ f i then 1 else 0)) ∧ ∀ c i, ¬ c = 125 → gi s' c i = gi s c i := by
  unfold f_X5_giveRest
  refine lq2 (fun m x y s' => ∃ j, j + m = 8 ∧ y = nI j ∧ x = nI (rst (fun i => b ≤ f i) r j) ∧ (∀ i, i < j → gi s' 125 i = nI (g i + if 0 < rst (fun i => b ≤ f i) r i ∧ b ≤ f i then 1 else 0)) ∧ (∀ i, j ≤ i → i < 8 → gi s' 125 i = nI (g i)) ∧ ∀ c i, ¬ c = 125 → gi s' c i = gi s c i) (fun e => ∃ s', e = some ((), s') ∧ (∀ i, i < 8 → gi s' 125 i = nI (g i + if 0 < rst (fun i => b ≤ f i) r i ∧ b ≤ f i then 1 else 0)) ∧ ∀ c i, ¬ c = 125 → gi s' c i = gi s c i) (fun m x y s' rec hI ih => ?_) N 8 (nI r) 0 s ⟨0, by omega, rfl, rfl, fun i hi => absurd hi (by omega), fun i _ hi => hg i hi, fun _ _ _ => rfl⟩ (by omega)
  obtain ⟨j, h1, rfl, rfl, h2, h2', h3⟩ := hI
  have hrl := rst_le (fun i => b ≤ f i) r j
  unfold st_X5_giveRest_5
  by_cases e : 8 ≤ j
  · rw [if_pos (l_le 8 8 rfl e (by omega))]
    exact ⟨s', rfl, fun i hi => h2 i (by omega), h3⟩
  · have := hf j (by omega)
    rw [if_neg (l_ge 8 8 rfl (by omega) (by decide))]
    by_cases z : rst (fun i => b ≤ f i) r j = 0
    · rw [if_pos (by rw [z]; decide)]
      refine ⟨s', rfl, fun i hi => ?_, h3⟩
      by_cases w : i < j
      · exact h2 i w
      · have hz : ∀ k, rst (fun i => b ≤ f i) r (j + k) = 0 := fun k => by
          induction k with
          | zero => exact z
          | succ k ih =>
            show rst (fun i => b ≤ f i) r (j + k + 1) = 0
            rw [rst_s, ih]
            by_cases u : b ≤ f (j + k)
            · rw [if_pos u]
            · rw [if_neg u]
        have := hz (i - j)
        rw [show j + (i - j) = i by omega] at this
        rw [if_neg (by rw [this]; omega), Nat.add_zero]
        exact h2' i (by omega) hi
    · rw [if_neg (nI_nle (by omega) (by omega)), chk_n (by omega) (by omega), ix_n (by omega), h3 124 j (by decide), h j (by omega)]
      by_cases u : b ≤ f j
      · rw [if_neg (nI_nlt u (by omega)), chk_n (by omega) (by omega), chk_n (by omega) (by omega), h2' j (by omega) (by omega)]
        obtain ⟨r', hr'⟩ : ∃ r', rst (fun i => b ≤ f i) r j = r' + 1 := ⟨rst (fun i => b ≤ f i) r j - 1, by omega⟩
        rw [hr']
        simp only [lt_e, nI_1, nI_m1]
        refine ih (m - 1) _ _ _ (by omega) ⟨j + 1, by omega, rfl, by rw [rst_s, if_pos u, hr']; rfl, fun i hi => ?_, fun i hi hi2 => by rw [gi_ni (by omega)]; exact h2' i (by omega) hi2, fun c i hc => by rw [gi_ne hc]; exact h3 c i hc⟩
        by_cases w : i = j
        · rw [w, gi_eq, if_pos ⟨by omega, u⟩]
        · rw [gi_ni w]; exact h2 i (by omega)
      · rw [if_pos (nI_lt (by omega) (by omega))]
        simp only [lt_e, nI_1]
        refine ih (m - 1) _ _ _ (by omega) ⟨j + 1, by omega, rfl, by rw [rst_s, if_neg u], fun i hi => ?_, fun i hi hi2 => h2' i (by omega) hi2, h3⟩
        by_cases w : i = j
        · rw [w, if_neg (fun q => u q.2)]; exact h2' j (by omega) (by omega)
        · exact h2 i (by omega)
/-- b is the greatest number that each may get at most -/
def IsNum (f : Nat → Nat) (n A b : Nat) : Prop := b ≤ 9999 ∧ uN f b n ≤ A ∧ (b = 9999 ∨ A < uN f (b + 1) n)
def IsCut (f : Nat → Nat) (n A c : Nat) : Prop := lNN f c n ≤ A ∧ (c = 0 ∨ A < lNN f (c - 1) n)
theorem IsNum.uniq {f : Nat → Nat} {n A b b' : Nat} (h : IsNum f n A b) (h' : IsNum f n A b') : b = b' := by
  obtain ⟨a1, a2, a3⟩ := h
  obtain ⟨c1, c2, c3⟩ := h'
  by_cases q : b < b'
  · have := uN_mono f (show b + 1 ≤ b' by omega) n
    omega
  · by_cases q2 : b' < b
    · have := uN_mono f (show b' + 1 ≤ b by omega) n
      omega
    · omega
theorem IsCut.uniq {f : Nat → Nat} {n A b b' : Nat} (h : IsCut f n A b) (h' : IsCut f n A b') : b = b' := by
  obtain ⟨a2, a3⟩ := h
  obtain ⟨c2, c3⟩ := h'
  by_cases q : b < b'
  · have := lNN_mono f (show b ≤ b' - 1 by omega) n
    omega
  · by_cases q2 : b' < b
    · have := lNN_mono f (show b' ≤ b - 1 by omega) n
      omega
    · omega
/-- what each gets, by RULE 0 and by RULE 1 -/
def gA (f : Nat → Nat) (n A b i : Nat) : Nat := min (f i) b + if 0 < rst (fun i => b + 1 ≤ f i) (A - uN f b n) i ∧ b + 1 ≤ f i then 1 else 0
def gC (f : Nat → Nat) (n A c i : Nat) : Nat := (f i - c) + if 0 < c ∧ 0 < rst (fun i => c ≤ f i) (A - lNN f c n) i ∧ c ≤ f i then 1 else 0
theorem sh1 (m : Nat) (hm : m < 31) : nI (2 ^ m) >>> ((1 : Int32) &&& 31) = nI (2 ^ m / 2) := pk_shrN (Nat.pow_lt_pow_right (by decide) hm) _ 1 (by decide)
theorem e_giveAlike (N : Nat) (hN : 40 ≤ N) {A : Nat} (hA : A ≤ 9999) (f : Nat → Nat) (hf : ∀ i, i < 8 → f i ≤ 9999) (s : Mem) (h : ∀ i, i < 8 → gi s 124 i = nI (f i)) : ∃ s' b, f_X5_giveAlike N (nI A) s = some ((), s') ∧ IsNum f 8 A b ∧ (∀ i, i < 8 → gi s' 125 i = nI (gA f 8 A b i)) ∧ ∀ c i, ¬ c = 125 → gi s' c i = gi s c i := by
  unfold f_X5_giveAlike
  obtain ⟨s1, a1, a2, a3⟩ := e_shareUp N (by omega) (b := 9999) (by decide) f hf s h
  have hub : ∀ b, uN f b 8 ≤ 8 * 9999 := fun b => smN_bd 8 (fun i hi => by have := hf i hi; show min (f i) b ≤ 9999; omega)
  have hu9 := hub 9999
  rw [show (9999 : Int32) = nI 9999 from rfl, a1, bd_some]
  by_cases q : uN f 9999 8 ≤ A
  · rw [if_neg (nI_nlt q (by omega))]
    refine ⟨s1, 9999, rfl, ⟨by omega, q, Or.inl rfl⟩, fun i hi => ?_, a3⟩
    unfold gA
    have := hf i hi
    rw [if_neg (by omega), a2 i hi]
    rfl
  · rw [if_pos (nI_lt (by omega) (by omega))]
    have h' : ∀ (s' : Mem), (∀ c i, ¬ c = 125 → gi s' c i = gi s c i) → ∀ i, i < 8 → gi s' 124 i = nI (f i) := fun s' hs i hi => by rw [hs 124 i (by decide)]; exact h i hi
    refine lq2 (fun m x y s' => ∃ b, x = nI b ∧ y = nI (2 ^ m / 2) ∧ m ≤ 14 ∧ b + 2 ^ m ≤ 16384 ∧ uN f b 8 ≤ A ∧ A < uN f (b + 2 ^ m) 8 ∧ ∀ c i, ¬ c = 125 → gi s' c i = gi s c i) (fun e => ∃ s' b, e = some ((), s') ∧ IsNum f 8 A b ∧ (∀ i, i < 8 → gi s' 125 i = nI (gA f 8 A b i)) ∧ ∀ c i, ¬ c = 125 → gi s' c i = gi s c i) (fun m x y s' rec hI ih => ?_) N 14 0 8192 s1 ⟨0, rfl, rfl, by omega, by decide, ?_, ?_, a3⟩ (by omega)
    · obtain ⟨b, rfl, rfl, h0, h1, h2, h3, h4⟩ := hI
      unfold st_X5_giveAlike_18
      cases m with
      | zero =>
        rw [if_pos (by decide)]
        have hb9 : b < 9999 := by
          by_cases w : b < 9999
          · exact w
          · have := uN_mono f (show 9999 ≤ b by omega) 8
            omega
        obtain ⟨s2, b1, b2, b3⟩ := e_shareUp N (by omega) (b := b) (by omega) f hf s' (h' s' h4)
        simp only [lt_e]
        rw [b1, bd_some, pk_sub h2, nI_1]
        obtain ⟨s3, c1, c2, c3⟩ := e_giveRest N (by omega) (r := A - uN f b 8) (b := b + 1) (by omega) (by omega) f (fun i => min (f i) b) hf s2 (fun i hi => by rw [b3 124 i (by decide)]; exact h' s' h4 i hi) b2
        rw [c1, bd_some]
        exact ⟨s3, b, rfl, ⟨by omega, h2, Or.inr h3⟩, c2, fun c i hc => by rw [c3 c i hc, b3 c i hc]; exact h4 c i hc⟩
      | succ m =>
        have hp : 2 ^ (m + 1) / 2 = 2 ^ m := by rw [Nat.pow_succ]; omega
        have hpp : 0 < 2 ^ m := Nat.two_pow_pos m
        have hps : 2 ^ (m + 1) = 2 * 2 ^ m := by rw [Nat.pow_succ]; omega
        rw [hp, if_neg (nI_nle hpp (by omega)), nI_add]
        obtain ⟨s2, b1, b2, b3⟩ := e_shareUp N (by omega) (b := b + 2 ^ m) (by omega) f hf s' (h' s' h4)
        have hu := hub (b + 2 ^ m)
        rw [b1, bd_some, sh1 m (by omega)]
        simp only [lt_e]
        by_cases w : uN f (b + 2 ^ m) 8 ≤ A
        · rw [if_neg (nI_nlt w (by omega))]
          refine ih m _ _ _ (by omega) ⟨b + 2 ^ m, rfl, rfl, by omega, by omega, w, ?_, fun c i hc => by rw [b3 c i hc]; exact h4 c i hc⟩
          rw [show b + 2 ^ m + 2 ^ m = b + 2 ^ (m + 1) by omega]
          exact h3
        · rw [if_pos (nI_lt (by omega) (by omega))]
          exact ih m _ _ _ (by omega) ⟨b, rfl, rfl, by omega, by omega, h2, by omega, fun c i hc => by rw [b3 c i hc]; exact h4 c i hc⟩
    · have : uN f 0 8 = 0 := Nat.le_zero.mp (smN_bd (b := 0) 8 (fun i _ => by show min (f i) 0 ≤ 0; omega))
      omega
    · have := uN_mono f (show 9999 ≤ 0 + 2 ^ 14 by decide) 8
      omega
theorem e_cutAlike (N : Nat) (hN : 40 ≤ N) {A : Nat} (hA : A ≤ 9999) (f : Nat → Nat) (hf : ∀ i, i < 8 → f i ≤ 9999) (s : Mem) (h : ∀ i, i < 8 → gi s 124 i = nI (f i)) : ∃ s' b, f_X5_cutAlike N (nI A) s = some ((), s') ∧ IsCut f 8 A b ∧ b ≤ 16384 ∧ (∀ i, i < 8 → gi s' 125 i = nI (gC f 8 A b i)) ∧ ∀ c i, ¬ c = 125 → gi s' c i = gi s c i := by
  unfold f_X5_cutAlike
  obtain ⟨s1, a1, a2, a3⟩ := e_shareLess N (by omega) (b := 0) (by decide) f hf s h
  have hub : ∀ b, lNN f b 8 ≤ 8 * 9999 := fun b => smN_bd 8 (fun i hi => by have := hf i hi; show f i - b ≤ 9999; omega)
  have hu9 := hub 0
  rw [show (0 : Int32) = nI 0 from rfl, a1, bd_some]
  by_cases q : lNN f 0 8 ≤ A
  · rw [if_neg (nI_nlt q (by omega))]
    refine ⟨s1, 0, rfl, ⟨q, Or.inl rfl⟩, by omega, fun i hi => ?_, a3⟩
    unfold gC
    rw [if_neg (by omega), a2 i hi]
    rfl
  · rw [if_pos (nI_lt (by omega) (by omega))]
    have h' : ∀ (s' : Mem), (∀ c i, ¬ c = 125 → gi s' c i = gi s c i) → ∀ i, i < 8 → gi s' 124 i = nI (f i) := fun s' hs i hi => by rw [hs 124 i (by decide)]; exact h i hi
    refine lq2 (fun m x y s' => ∃ b, x = nI b ∧ y = nI (2 ^ m / 2) ∧ m ≤ 14 ∧ b + 2 ^ m ≤ 16384 ∧ A < lNN f b 8 ∧ lNN f (b + 2 ^ m) 8 ≤ A ∧ ∀ c i, ¬ c = 125 → gi s' c i = gi s c i) (fun e => ∃ s' b, e = some ((), s') ∧ IsCut f 8 A b ∧ b ≤ 16384 ∧ (∀ i, i < 8 → gi s' 125 i = nI (gC f 8 A b i)) ∧ ∀ c i, ¬ c = 125 → gi s' c i = gi s c i) (fun m x y s' rec hI ih => ?_) N 14 (nI 0) 8192 s1 ⟨0, rfl, rfl, by omega, by decide, by omega, ?_, a3⟩ (by omega)
    · obtain ⟨b, rfl, rfl, h0, h1, h2, h3, h4⟩ := hI
      unfold st_X5_cutAlike_16
      cases m with
      | zero =>
        rw [if_pos (by decide)]
        simp only [lt_e, nI_1]
        obtain ⟨s2, b1, b2, b3⟩ := e_shareLess N (by omega) (b := b + 1) (by omega) f hf s' (h' s' h4)
        rw [b1, bd_some, pk_sub h3]
        obtain ⟨s3, c1, c2, c3⟩ := e_giveRest N (by omega) (r := A - lNN f (b + 1) 8) (b := b + 1) (by omega) (by omega) f (fun i => f i - (b + 1)) hf s2 (fun i hi => by rw [b3 124 i (by decide)]; exact h' s' h4 i hi) b2
        rw [c1, bd_some]
        refine ⟨s3, b + 1, rfl, ⟨h3, Or.inr h2⟩, by omega, fun i hi => ?_, fun c i hc => by rw [c3 c i hc, b3 c i hc]; exact h4 c i hc⟩
        rw [c2 i hi]
        unfold gC
        by_cases w : 0 < rst (fun i => b + 1 ≤ f i) (A - lNN f (b + 1) 8) i ∧ b + 1 ≤ f i
        · rw [if_pos w, if_pos ⟨by omega, w⟩]
        · rw [if_neg w, if_neg (fun u => w u.2)]
      | succ m =>
        have hp : 2 ^ (m + 1) / 2 = 2 ^ m := by rw [Nat.pow_succ]; omega
        have hpp : 0 < 2 ^ m := Nat.two_pow_pos m
        have hps : 2 ^ (m + 1) = 2 * 2 ^ m := by rw [Nat.pow_succ]; omega
        rw [hp, if_neg (nI_nle hpp (by omega)), nI_add]
        obtain ⟨s2, b1, b2, b3⟩ := e_shareLess N (by omega) (b := b + 2 ^ m) (by omega) f hf s' (h' s' h4)
        have hu := hub (b + 2 ^ m)
        rw [b1, bd_some, sh1 m (by omega)]
        simp only [lt_e]
        by_cases w : lNN f (b + 2 ^ m) 8 ≤ A
        · rw [if_pos (nI_le w (by omega))]
          exact ih m _ _ _ (by omega) ⟨b, rfl, rfl, by omega, by omega, h2, w, fun c i hc => by rw [b3 c i hc]; exact h4 c i hc⟩
        · rw [if_neg (nI_ge (by omega) (by omega))]
          refine ih m _ _ _ (by omega) ⟨b + 2 ^ m, rfl, rfl, by omega, by omega, by omega, ?_, fun c i hc => by rw [b3 c i hc]; exact h4 c i hc⟩
          rw [show b + 2 ^ m + 2 ^ m = b + 2 ^ (m + 1) by omega]
          exact h3
    · have : lNN f (0 + 2 ^ 14) 8 ≤ 8 * 0 := smN_bd 8 (fun i hi => by have := hf i hi; show f i - (0 + 2 ^ 14) ≤ 0; omega)
      omega
