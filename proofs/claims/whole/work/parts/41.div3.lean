/-! divided: both -/
theorem e_takeLosses (N : Nat) (hN : 20 ≤ N) {n : Nat} (hn : n ≤ 8) (l : Nat → Nat) (hl : ∀ i, i < n → l i < 2 ^ 20) (s : Mem) (h : ∀ i, i < n → gi s 2 (2 * i) * 256 + gi s 2 (2 * i + 1) = nI (l i)) : ∃ r s', f_X5_takeLosses N 2 (nI n) s = some (r, s') ∧ ((r = 1 ∧ ∀ i, i < n → l i ≤ 9999) ∨ (r = 0 ∧ ∃ i, i < n ∧ 9999 < l i)) ∧ (∀ i, i < n → gi s' 123 i = nI (l i)) ∧ ∀ c i, ¬ c = 123 → gi s' c i = gi s c i := by
  unfold f_X5_takeLosses
  refine lq2 (fun m x y s' => ∃ j, j + m = n ∧ y = nI j ∧ ((x = 1 ∧ ∀ i, i < j → l i ≤ 9999) ∨ (x = 0 ∧ ∃ i, i < j ∧ 9999 < l i)) ∧ (∀ i, i < j → gi s' 123 i = nI (l i)) ∧ ∀ c i, ¬ c = 123 → gi s' c i = gi s c i) (fun e => ∃ r s', e = some (r, s') ∧ ((r = 1 ∧ ∀ i, i < n → l i ≤ 9999) ∨ (r = 0 ∧ ∃ i, i < n ∧ 9999 < l i)) ∧ (∀ i, i < n → gi s' 123 i = nI (l i)) ∧ ∀ c i, ¬ c = 123 → gi s' c i = gi s c i) (fun m x y s' rec hI ih => ?_) N n 1 0 s ⟨0, by omega, rfl, Or.inl ⟨rfl, fun i hi => absurd hi (by omega)⟩, fun i hi => absurd hi (by omega), fun _ _ _ => rfl⟩ (by omega)
  obtain ⟨j, h1, rfl, h2, h3, h4⟩ := hI
  unfold st_X5_takeLosses_5
  by_cases e : n ≤ j
  · rw [if_pos (nI_le e (by omega))]
    have ej : j = n := by omega
    subst ej
    rcases h2 with ⟨rfl, w⟩ | ⟨rfl, w⟩
    · rw [ckz_1]
      exact ⟨1, s', rfl, Or.inl ⟨rfl, w⟩, h3, h4⟩
    · rw [ckz_0]
      exact ⟨0, s', rfl, Or.inr ⟨rfl, w⟩, h3, h4⟩
  · have hlj := hl j (by omega)
    rw [if_neg (nI_ge (by omega) (by omega)), if_neg (l_ge 8 8 rfl (by omega) (by decide)), show lenC 2 = 260 from rfl, show (2 : Int32) = nI 2 from rfl, pk_mul, chk_n (by omega) (by decide), nI_1, chk_n (by omega) (by decide), chk_n (by omega) (by decide), ix_n (by omega), ix_n (by omega), ix_n (by omega), h4 2 _ (by decide), h4 2 _ (by decide), h j (by omega)]
    simp only [lt_e, nI_1]
    have h3' : ∀ i, i < j + 1 → gi (si s' 123 j (nI (l j))) 123 i = nI (l i) := fun i hi => by
      by_cases w : i = j
      · rw [w, gi_eq]
      · rw [gi_ni w]; exact h3 i (by omega)
    have h4' : ∀ c i, ¬ c = 123 → gi (si s' 123 j (nI (l j))) c i = gi s c i := fun c i hc => by rw [gi_ne hc]; exact h4 c i hc
    rcases h2 with ⟨rfl, w⟩ | ⟨rfl, i0, w, w2⟩
    · rw [if_neg (show ¬ (1 : Int32) = 0 by decide), chk_n (by omega) (by decide), gi_eq]
      by_cases q : l j ≤ 9999
      · rw [if_neg (show ¬ (9999 : Int32) < nI (l j) from nI_nlt (a := 9999) q (by decide))]
        refine ih (m - 1) _ _ _ (by omega) ⟨j + 1, by omega, rfl, Or.inl ⟨rfl, fun i hi => ?_⟩, h3', h4'⟩
        by_cases u : i = j
        · rw [u]; exact q
        · exact w i (by omega)
      · rw [if_pos (show (9999 : Int32) < nI (l j) from nI_lt (a := 9999) (by omega) (by omega))]
        exact ih (m - 1) _ _ _ (by omega) ⟨j + 1, by omega, rfl, Or.inr ⟨rfl, j, by omega, by omega⟩, h3', h4'⟩
    · rw [if_pos rfl]
      exact ih (m - 1) _ _ _ (by omega) ⟨j + 1, by omega, rfl, Or.inr ⟨rfl, i0, by omega, w2⟩, h3', h4'⟩
theorem e_div62 (N : Nat) (hN : 20 ≤ N) {n : Nat} (hn : n ≤ 8) (x2 x3 x4 : Int32) (K : Mem → Option (Int32 × Mem)) (l : Nat → Nat) (hl : ∀ i, i < n → l i < 2 ^ 20) (s : Mem) (h : ∀ i, i < n → (256 : Int32) * (gi s 5 (2 * i) &&& 255) + (gi s 5 (2 * i + 1) &&& 255) = nI (l i)) : (∃ s', (∃ i, i < n ∧ 9999 < l i) ∧ itr (fun _ _ => none) (st_X10_divided_62 N (nI n) x2 x3 x4 K) N 0 s = some (-2, s') ∧ ∀ c i, ¬ c = 38 → gi s' c i = gi s c i) ∨ (∃ s', (∀ i, i < n → l i ≤ 9999) ∧ itr (fun _ _ => none) (st_X10_divided_62 N (nI n) x2 x3 x4 K) N 0 s = K s' ∧ (∀ i, i < n → gi s' 38 i = nI (l i)) ∧ ∀ c i, ¬ c = 38 → gi s' c i = gi s c i) := by
  refine lq1 (fun m x s' => ∃ j, j + m = n ∧ x = nI j ∧ (∀ i, i < j → l i ≤ 9999) ∧ (∀ i, i < j → gi s' 38 i = nI (l i)) ∧ ∀ c i, ¬ c = 38 → gi s' c i = gi s c i) (fun e => (∃ s', (∃ i, i < n ∧ 9999 < l i) ∧ e = some (-2, s') ∧ ∀ c i, ¬ c = 38 → gi s' c i = gi s c i) ∨ (∃ s', (∀ i, i < n → l i ≤ 9999) ∧ e = K s' ∧ (∀ i, i < n → gi s' 38 i = nI (l i)) ∧ ∀ c i, ¬ c = 38 → gi s' c i = gi s c i)) (fun m x s' rec hI ih => ?_) N n 0 s ⟨0, by omega, rfl, fun i hi => absurd hi (by omega), fun i hi => absurd hi (by omega), fun _ _ _ => rfl⟩ (by omega)
  obtain ⟨j, h1, rfl, h2, h3, h4⟩ := hI
  unfold st_X10_divided_62
  by_cases e : n ≤ j
  · rw [if_pos (nI_le e (by omega))]
    exact Or.inr ⟨s', fun i hi => h2 i (by omega), rfl, fun i hi => h3 i (by omega), h4⟩
  · have hlj := hl j (by omega)
    rw [if_neg (nI_ge (by omega) (by omega)), show (2 : Int32) = nI 2 from rfl, pk_mul, e_octet N (by omega), bd_some, nI_1, e_octet N (by omega), bd_some, chk_n (by omega) (by decide), ix_n (by omega), h4 5 _ (by decide), h4 5 _ (by decide), h j (by omega)]
    simp only [lt_e, nI_1]
    rw [chk_n (by omega) (by decide), gi_eq]
    have h4' : ∀ c i, ¬ c = 38 → gi (si s' 38 j (nI (l j))) c i = gi s c i := fun c i hc => by rw [gi_ne hc]; exact h4 c i hc
    by_cases q : l j ≤ 9999
    · rw [if_pos (show nI (l j) ≤ 9999 from nI_le (b := 9999) q (by decide))]
      refine ih (m - 1) _ _ (by omega) ⟨j + 1, by omega, rfl, fun i hi => ?_, fun i hi => ?_, h4'⟩
      · by_cases u : i = j
        · rw [u]; exact q
        · exact h2 i (by omega)
      · by_cases u : i = j
        · rw [u, gi_eq]
        · rw [gi_ni u]; exact h3 i (by omega)
    · rw [if_neg (show ¬ nI (l j) ≤ 9999 from nI_ge (a := 9999) (by omega) (by omega))]
      exact Or.inl ⟨_, ⟨j, by omega, by omega⟩, rfl, h4'⟩
theorem half_N (a : Nat) (ha : a < 2 ^ 31) : nI a / 2 = nI (a / 2) := pk_div (d := 2) ha (by decide) (by decide)
theorem e_div15 (N : Nat) (hN : 20 ≤ N) {n : Nat} (hn : n ≤ 8) (x2 x3 t : Int32) (K : Mem → Option (Unit × Mem)) (F : Nat → Nat) (hF : ∀ i, F i ≤ 9999) (hz : ∀ i, n ≤ i → F i = 0) (s : Mem) (h : ∀ i, i < n → gi s 123 i = nI (F i)) : ∃ s', itr (fun _ _ => none) (st_X5_divide_15 N (nI n) x2 x3 t K) N 0 s = K s' ∧ (∀ i, i < 8 → gi s' 124 i = nI (if t = 0 then F i else F i / 2)) ∧ ∀ c i, ¬ c = 124 → gi s' c i = gi s c i := by
  refine lq1 (fun m x s' => ∃ j, j + m = 8 ∧ x = nI j ∧ (∀ i, i < j → gi s' 124 i = nI (if t = 0 then F i else F i / 2)) ∧ ∀ c i, ¬ c = 124 → gi s' c i = gi s c i) (fun e => ∃ s', e = K s' ∧ (∀ i, i < 8 → gi s' 124 i = nI (if t = 0 then F i else F i / 2)) ∧ ∀ c i, ¬ c = 124 → gi s' c i = gi s c i) (fun m x s' rec hI ih => ?_) N 8 0 s ⟨0, by omega, rfl, fun i hi => absurd hi (by omega), fun _ _ _ => rfl⟩ (by omega)
  obtain ⟨j, h1, rfl, h2, h3⟩ := hI
  unfold st_X5_divide_15
  by_cases e : 8 ≤ j
  · rw [if_pos (l_le 8 8 rfl e (by omega))]
    exact ⟨s', rfl, fun i hi => h2 i (by omega), h3⟩
  · have hFj := hF j
    have nx : ∀ v, v = (if t = 0 then F j else F j / 2) → ∃ s'', rec (nI (j + 1)) (si s' 124 j (nI v)) = K s'' ∧ (∀ i, i < 8 → gi s'' 124 i = nI (if t = 0 then F i else F i / 2)) ∧ ∀ c i, ¬ c = 124 → gi s'' c i = gi s c i := fun v hv => by
      refine ih (m - 1) _ _ (by omega) ⟨j + 1, by omega, rfl, fun i hi => ?_, fun c i hc => by rw [gi_ne hc]; exact h3 c i hc⟩
      by_cases w : i = j
      · rw [w, gi_eq, hv]
      · rw [gi_ni w]; exact h2 i (by omega)
    rw [if_neg (l_ge 8 8 rfl (by omega) (by decide))]
    simp only [lt_e, nI_1]
    by_cases q : j < n
    · rw [if_pos (nI_lt q (by omega))]
      by_cases u : t = 0
      · rw [if_pos u, chk_n (by omega) (by decide), chk_n (by omega) (by decide), ix_n (by omega), h3 123 j (by decide), h j q]
        exact nx _ (by rw [if_pos u])
      · rw [if_neg u, chk_n (by omega) (by decide), chk_n (by omega) (by decide), ix_n (by omega), h3 123 j (by decide), h j q, half_N _ (by omega)]
        exact nx _ (by rw [if_neg u])
    · rw [if_neg (nI_nlt (by omega) (by omega)), chk_n (by omega) (by decide), ix_n (by omega)]
      have hz' := hz j (by omega)
      refine nx 0 ?_
      rw [hz']
      by_cases u : t = 0
      · rw [if_pos u]
      · rw [if_neg u]
theorem e_rests (N : Nat) (hN : 40 ≤ N) {n A : Nat} (hn : n ≤ 8) (hA : A ≤ 9999) (F : Nat → Nat) (hF : ∀ i, F i ≤ 9999) (hz : ∀ i, n ≤ i → F i = 0) (s : Mem) (h : ∀ i, i < n → gi s 123 i = nI (F i)) (h2 : ∀ i, i < 8 → gi s 124 i = nI (F i / 2)) : ∃ s' b, f_X5_divideRests N (nI n) (nI A) s = some ((), s') ∧ IsCut (fun i => F i - F i / 2) 8 A b ∧ (∀ i, i < n → gi s' 125 i = nI (gC (fun i => F i - F i / 2) 8 A b i + F i / 2)) := by
  unfold f_X5_divideRests
  have st2 : ∀ K : Mem → Option (Unit × Mem), ∃ s', itr (fun _ _ => none) (st_X5_divideRests_2 N (nI n) (nI A) K) N 0 s = K s' ∧ (∀ i, i < 8 → gi s' 124 i = nI (F i - F i / 2)) ∧ ∀ c i, ¬ c = 124 → gi s' c i = gi s c i := fun K => by
    refine lq1 (fun m x s' => ∃ j, j + m = n ∧ x = nI j ∧ (∀ i, i < 8 → gi s' 124 i = nI (if i < j then F i - F i / 2 else F i / 2)) ∧ ∀ c i, ¬ c = 124 → gi s' c i = gi s c i) (fun e => ∃ s', e = K s' ∧ (∀ i, i < 8 → gi s' 124 i = nI (F i - F i / 2)) ∧ ∀ c i, ¬ c = 124 → gi s' c i = gi s c i) (fun m x s' rec hI ih => ?_) N n 0 s ⟨0, by omega, rfl, fun i hi => by rw [if_neg (by omega)]; exact h2 i hi, fun _ _ _ => rfl⟩ (by omega)
    obtain ⟨j, h1, rfl, h3, h4⟩ := hI
    unfold st_X5_divideRests_2
    by_cases e : n ≤ j
    · rw [if_pos (nI_le e (by omega))]
      refine ⟨s', rfl, fun i hi => ?_, h4⟩
      rw [h3 i hi]
      by_cases q : i < j
      · rw [if_pos q]
      · rw [if_neg q, hz i (by omega)]
    · have := hF j
      rw [if_neg (nI_ge (by omega) (by omega)), if_neg (l_ge 8 8 rfl (by omega) (by decide)), chk_n (by omega) (by decide), chk_n (by omega) (by decide), chk_n (by omega) (by decide), ix_n (by omega), h4 123 j (by decide), h j (by omega), half_N _ (by omega), pk_sub (by omega)]
      simp only [lt_e, nI_1]
      refine ih (m - 1) _ _ (by omega) ⟨j + 1, by omega, rfl, fun i hi => ?_, fun c i hc => by rw [gi_ne hc]; exact h4 c i hc⟩
      by_cases w : i = j
      · rw [w, gi_eq, if_pos (by omega)]
      · rw [gi_ni w, h3 i hi]
        by_cases q : i < j
        · rw [if_pos q, if_pos (by omega)]
        · rw [if_neg q, if_neg (by omega)]
  obtain ⟨s1, a1, a2, a3⟩ := st2 (fun (s3 : Mem) => bd (f_X5_cutAlike N (nI A) s3) (fun _ s4 => itr (fun _ _ => none) (st_X5_divideRests_47 N (nI n)) N 0 s4))
  rw [a1]
  obtain ⟨s2, b, b1, b2, b2', b3, b4⟩ := e_cutAlike N hN hA (fun i => F i - F i / 2) (fun i _ => by have := hF i; show F i - F i / 2 ≤ 9999; omega) s1 a2
  rw [b1, bd_some]
  refine lq1 (fun m x s' => ∃ j, j + m = n ∧ x = nI j ∧ (∀ i, i < n → gi s' 125 i = nI (gC (fun i => F i - F i / 2) 8 A b i + if i < j then F i / 2 else 0)) ∧ ∀ c i, ¬ c = 125 → gi s' c i = gi s2 c i) (fun e => ∃ s' b', e = some ((), s') ∧ IsCut (fun i => F i - F i / 2) 8 A b' ∧ (∀ i, i < n → gi s' 125 i = nI (gC (fun i => F i - F i / 2) 8 A b' i + F i / 2))) (fun m x s' rec hI ih => ?_) N n 0 s2 ⟨0, by omega, rfl, fun i hi => by rw [if_neg (by omega)]; exact b3 i (by omega), fun _ _ _ => rfl⟩ (by omega)
  obtain ⟨j, h1, rfl, h3, h4⟩ := hI
  unfold st_X5_divideRests_47
  by_cases e : n ≤ j
  · rw [if_pos (nI_le e (by omega))]
    refine ⟨s', b, rfl, b2, fun i hi => ?_⟩
    rw [h3 i hi, if_pos (by omega)]
  · have hFj := hF j
    rw [if_neg (nI_ge (by omega) (by omega)), if_neg (l_ge 8 8 rfl (by omega) (by decide)), chk_n (by omega) (by decide), chk_n (by omega) (by decide), chk_n (by omega) (by decide), ix_n (by omega), h4 123 j (by decide), b4 123 j (by decide), a3 123 j (by decide), h j (by omega), half_N _ (by omega), h3 j (by omega), if_neg (by omega), nI_add]
    simp only [lt_e, nI_1]
    refine ih (m - 1) _ _ (by omega) ⟨j + 1, by omega, rfl, fun i hi => ?_, fun c i hc => by rw [gi_ne hc]; exact h4 c i hc⟩
    by_cases w : i = j
    · rw [w, gi_eq, if_pos (by omega)]
      rfl
    · rw [gi_ni w, h3 i hi]
      by_cases q : i < j
      · rw [if_pos q, if_pos (by omega)]
      · rw [if_neg q, if_neg (by omega)]
/-- what the first n get, by rule, of which the books say F -/
def Dv (F : Nat → Nat) (n A rule i : Nat) (v : Nat) : Prop :=
  (rule = 0 ∧ ∃ b, IsNum F n A b ∧ v = gA F n A b i) ∨ (rule = 1 ∧ ∃ b, IsCut F n A b ∧ v = gC F n A b i) ∨
  (rule = 2 ∧ 2 * A ≤ smN F n ∧ ∃ b, IsNum (fun i => F i / 2) n A b ∧ v = gA (fun i => F i / 2) n A b i) ∨
  (rule = 2 ∧ smN F n < 2 * A ∧ ∃ b, IsCut (fun i => F i - F i / 2) n (A - smN (fun i => F i / 2) n) b ∧ v = F i / 2 + gC (fun i => F i - F i / 2) n (A - smN (fun i => F i / 2) n) b i)
theorem Dv.uniq {F : Nat → Nat} {n A rule i v w : Nat} (h1 : Dv F n A rule i v) (h2 : Dv F n A rule i w) : v = w := by
  rcases h1 with ⟨a, b, c, d⟩ | ⟨a, b, c, d⟩ | ⟨a, z, b, c, d⟩ | ⟨a, z, b, c, d⟩
  · rcases h2 with ⟨a', b', c', d'⟩ | ⟨a', b', c', d'⟩ | ⟨a', z', b', c', d'⟩ | ⟨a', z', b', c', d'⟩
    · rw [d, d', c.uniq c']
    · omega
    · omega
    · omega
  · rcases h2 with ⟨a', b', c', d'⟩ | ⟨a', b', c', d'⟩ | ⟨a', z', b', c', d'⟩ | ⟨a', z', b', c', d'⟩
    · omega
    · rw [d, d', c.uniq c']
    · omega
    · omega
  · rcases h2 with ⟨a', b', c', d'⟩ | ⟨a', b', c', d'⟩ | ⟨a', z', b', c', d'⟩ | ⟨a', z', b', c', d'⟩
    · omega
    · omega
    · rw [d, d', c.uniq c']
    · omega
  · rcases h2 with ⟨a', b', c', d'⟩ | ⟨a', b', c', d'⟩ | ⟨a', z', b', c', d'⟩ | ⟨a', z', b', c', d'⟩
    · omega
    · omega
    · omega
    · rw [d, d', c.uniq c']
theorem pad8 {g : Nat → Nat} {n : Nat} (hn : n ≤ 8) (h : ∀ i, n ≤ i → g i = 0) : smN g 8 = smN g n := by
  have := smN_pad (g := g) (n := n) (8 - n) (fun i h1 _ => h i h1)
  rw [show n + (8 - n) = 8 by omega] at this
  exact this
theorem half_sum (F : Nat → Nat) (n : Nat) : 2 * smN (fun i => F i / 2) n ≤ smN F n := by
  have h1 := smN_add (g := fun i => F i / 2) (h := fun i => F i / 2) (k := fun i => 2 * (F i / 2)) n (fun i _ => by show F i / 2 + F i / 2 = 2 * (F i / 2); omega)
  have h2 := smN_le (g := fun i => 2 * (F i / 2)) (h := F) n (fun i _ => by show 2 * (F i / 2) ≤ F i; omega)
  omega
theorem e_divide (N : Nat) (hN : 40 ≤ N) {n A rule : Nat} (hn : n ≤ 8) (hA : A ≤ 9999) (hr : rule ≤ 2) (F : Nat → Nat) (hF : ∀ i, F i ≤ 9999) (hz : ∀ i, n ≤ i → F i = 0) (s : Mem) (h : ∀ i, i < n → gi s 123 i = nI (F i)) : ∃ s', f_X5_divide N (nI n) (nI A) (nI rule) s = some ((), s') ∧ ∀ i, i < n → ∃ v, gi s' 125 i = nI v ∧ Dv F n A rule i v := by
  have hu8 : ∀ b, uN F b 8 = uN F b n := fun b => pad8 hn (fun i hi => by show min (F i) b = 0; rw [hz i hi]; omega)
  have hl8 : ∀ b, lNN F b 8 = lNN F b n := fun b => pad8 hn (fun i hi => by show F i - b = 0; rw [hz i hi]; omega)
  have hsF : smN F n ≤ n * 9999 := smN_bd n (fun i _ => hF i)
  have hn9 : n * 9999 ≤ 8 * 9999 := Nat.mul_le_mul_right 9999 hn
  have hh := half_sum F n
  unfold f_X5_divide
  dsimp only [lt_e]
  by_cases r2 : rule = 2
  · subst r2
    rw [if_pos (show nI 2 = 2 from rfl)]
    obtain ⟨s1, a1, a2, a3⟩ := e_div15 N (by omega) hn (nI A) (nI 2) 1 (fun s9 => if nI 2 = 0 then bd (f_X5_giveAlike N (nI A) s9) (fun _ s11 => some ((), s11)) else if (1 : Int32) = 0 then (if nI 2 = 1 then bd (f_X5_cutAlike N (nI A) s9) (fun _ s18 => some ((), s18)) else bd (f_X5_allOf N 124 (nI n) s9) (fun r15 s14 => bd (f_X5_divideRests N (nI n) (nI A - r15) s14) (fun _ s16 => some ((), s16)))) else bd (f_X5_allOf N 123 (nI n) s9) (fun r21 s20 => if r21 < (2 : Int32) * nI A then (if nI 2 = 1 then bd (f_X5_cutAlike N (nI A) s20) (fun _ s18 => some ((), s18)) else bd (f_X5_allOf N 124 (nI n) s20) (fun r15 s14 => bd (f_X5_divideRests N (nI n) (nI A - r15) s14) (fun _ s16 => some ((), s16)))) else bd (f_X5_giveAlike N (nI A) s20) (fun _ s11 => some ((), s11)))) F hF hz s h
    have a2' : ∀ i, i < 8 → gi s1 124 i = nI (F i / 2) := fun i hi => by rw [a2 i hi, if_neg (by decide)]
    have h' : ∀ i, i < n → gi s1 123 i = nI (F i) := fun i hi => by rw [a3 123 i (by decide)]; exact h i hi
    rw [a1]
    rw [if_neg (show ¬ nI 2 = 0 by decide), if_neg (show ¬ (1 : Int32) = 0 by decide), e_allOf N (by omega) hn (show lenC 123 = 8 from rfl) (by omega) F s1 h', bd_some, show (2 : Int32) = nI 2 from rfl, pk_mul]
    by_cases q : smN F n < 2 * A
    · rw [if_pos (nI_lt q (by omega)), if_neg (show ¬ nI 2 = 1 by decide), e_allOf N (by omega) hn (show lenC 124 = 8 from rfl) (by omega) (fun i => F i / 2) s1 (fun i hi => a2' i (by omega)), bd_some, pk_sub (by omega)]
      obtain ⟨s2, b, b1, b2, b3⟩ := e_rests N hN (A := A - smN (fun i => F i / 2) n) hn (by omega) F hF hz s1 h' a2'
      rw [b1, bd_some]
      have hl2 : ∀ b, lNN (fun i => F i - F i / 2) b 8 = lNN (fun i => F i - F i / 2) b n := fun b => pad8 hn (fun i hi => by show F i - F i / 2 - b = 0; rw [hz i hi]; omega)
      refine ⟨s2, rfl, fun i hi => ⟨_, b3 i hi, Or.inr (Or.inr (Or.inr ⟨rfl, q, b, ?_, ?_⟩))⟩⟩
      · unfold IsCut at b2 ⊢
        rw [hl2, hl2] at b2
        exact b2
      · unfold gC
        rw [hl2, Nat.add_comm]
    · have ga := e_giveAlike N hN hA (fun i => F i / 2) (fun i _ => by have := hF i; show F i / 2 ≤ 9999; omega) s1 a2'
      obtain ⟨s2, b, b1, b2, b3, b4⟩ := ga
      have hu2 : ∀ b, uN (fun i => F i / 2) b 8 = uN (fun i => F i / 2) b n := fun b => pad8 hn (fun i hi => by show min (F i / 2) b = 0; rw [hz i hi]; omega)
      rw [if_neg (nI_nlt (by omega) (by omega)), b1, bd_some]
      refine ⟨s2, rfl, fun i hi => ⟨_, b3 i (by omega), Or.inr (Or.inr (Or.inl ⟨rfl, by omega, b, ?_, ?_⟩))⟩⟩
      · unfold IsNum at b2 ⊢
        rw [hu2, hu2] at b2
        exact b2
      · unfold gA
        rw [hu2]
  · have r2' : ¬ nI rule = 2 := fun w => r2 ((nI_eq (b := 2) (by omega) (by decide)).mp w)
    rw [if_neg r2']
    obtain ⟨s1, a1, a2, a3⟩ := e_div15 N (by omega) hn (nI A) (nI rule) 0 (fun s9 => if nI rule = 0 then bd (f_X5_giveAlike N (nI A) s9) (fun _ s11 => some ((), s11)) else if (0 : Int32) = 0 then (if nI rule = 1 then bd (f_X5_cutAlike N (nI A) s9) (fun _ s18 => some ((), s18)) else bd (f_X5_allOf N 124 (nI n) s9) (fun r15 s14 => bd (f_X5_divideRests N (nI n) (nI A - r15) s14) (fun _ s16 => some ((), s16)))) else bd (f_X5_allOf N 123 (nI n) s9) (fun r21 s20 => if r21 < (2 : Int32) * nI A then (if nI rule = 1 then bd (f_X5_cutAlike N (nI A) s20) (fun _ s18 => some ((), s18)) else bd (f_X5_allOf N 124 (nI n) s20) (fun r15 s14 => bd (f_X5_divideRests N (nI n) (nI A - r15) s14) (fun _ s16 => some ((), s16)))) else bd (f_X5_giveAlike N (nI A) s20) (fun _ s11 => some ((), s11)))) F hF hz s h
    have a2' : ∀ i, i < 8 → gi s1 124 i = nI (F i) := fun i hi => by rw [a2 i hi, if_pos rfl]
    rw [a1]
    by_cases r0 : rule = 0
    · subst r0
      obtain ⟨s2, b, b1, b2, b3, b4⟩ := e_giveAlike N hN hA F (fun i _ => hF i) s1 a2'
      rw [if_pos (show nI 0 = 0 from rfl), b1, bd_some]
      refine ⟨s2, rfl, fun i hi => ⟨_, b3 i (by omega), Or.inl ⟨rfl, b, ?_, ?_⟩⟩⟩
      · unfold IsNum at b2 ⊢
        rw [hu8, hu8] at b2
        exact b2
      · unfold gA
        rw [hu8]
    · have r1 : rule = 1 := by omega
      subst r1
      obtain ⟨s2, b, b1, b2, b2', b3, b4⟩ := e_cutAlike N hN hA F (fun i _ => hF i) s1 a2'
      rw [if_neg (show ¬ nI 1 = 0 by decide), if_pos (show (0 : Int32) = 0 from rfl), if_pos (show nI 1 = 1 from rfl), b1, bd_some]
      refine ⟨s2, rfl, fun i hi => ⟨_, b3 i (by omega), Or.inr (Or.inl ⟨rfl, b, ?_, ?_⟩)⟩⟩
      · unfold IsCut at b2 ⊢
        rw [hl8, hl8] at b2
        exact b2
      · unfold gC
        rw [hl8]
theorem e_dv70 (N : Nat) (hN : 20 ≤ N) {n : Nat} (hn : n ≤ 8) (x2 t : Int32) (K : Int32 → Mem → Option (Unit × Mem)) (F : Nat → Nat) (hF : ∀ i, F i ≤ 9999) (s : Mem) (h : ∀ i, i < n → gi s 38 i = nI (F i)) (h0 : ∀ i, i < n → gi s 39 i = nI 0) : ∃ s', itr (fun _ _ _ => none) (st_X10_divides_70 N (nI n) x2 t K) N 0 0 s = K (nI (smN (fun i => F i / 2) n)) s' ∧ (∀ i, i < n → gi s' 38 i = nI (if t = 0 then F i - F i / 2 else F i / 2)) ∧ (∀ i, i < n → gi s' 39 i = nI (if t = 0 then F i / 2 else 0)) := by
  refine lq2 (fun m x y s' => ∃ j, j + m = n ∧ y = nI j ∧ x = nI (smN (fun i => F i / 2) j) ∧ (∀ i, i < n → gi s' 38 i = nI (if i < j then (if t = 0 then F i - F i / 2 else F i / 2) else F i)) ∧ (∀ i, i < n → gi s' 39 i = nI (if i < j ∧ t = 0 then F i / 2 else 0))) (fun e => ∃ s', e = K (nI (smN (fun i => F i / 2) n)) s' ∧ (∀ i, i < n → gi s' 38 i = nI (if t = 0 then F i - F i / 2 else F i / 2)) ∧ (∀ i, i < n → gi s' 39 i = nI (if t = 0 then F i / 2 else 0))) (fun m x y s' rec hI ih => ?_) N n 0 0 s ⟨0, by omega, rfl, rfl, fun i hi => by rw [if_neg (by omega)]; exact h i hi, fun i hi => by rw [if_neg (by omega)]; exact h0 i hi⟩ (by omega)
  obtain ⟨j, h1, rfl, rfl, h2, h3⟩ := hI
  unfold st_X10_divides_70
  by_cases e : n ≤ j
  · rw [if_pos (nI_le e (by omega)), show j = n by omega]
    refine ⟨s', rfl, fun i hi => ?_, fun i hi => ?_⟩
    · rw [h2 i hi, if_pos (by omega)]
    · rw [h3 i hi]
      by_cases q : t = 0
      · rw [if_pos ⟨by omega, q⟩, if_pos q]
      · rw [if_neg (fun w => q w.2), if_neg q]
  · have hFj := hF j
    rw [if_neg (nI_ge (by omega) (by omega)), chk_n (by omega) (by decide), ix_n (by omega), h2 j (by omega), if_neg (by omega), half_N _ (by omega)]
    simp only [lt_e, nI_1, nI_add]
    by_cases q : t = 0
    · rw [if_pos q, chk_n (by omega) (by decide), if_pos q, chk_n (by omega) (by decide), chk_n (by omega) (by decide), gi_ne (by decide), h2 j (by omega), if_neg (by omega), pk_sub (by omega)]
      refine ih (m - 1) _ _ _ (by omega) ⟨j + 1, by omega, rfl, rfl, fun i hi => ?_, fun i hi => ?_⟩
      · by_cases w : i = j
        · rw [w, gi_eq, if_pos (by omega), if_pos q]
        · rw [gi_ni w, gi_ni w, h2 i hi]
          by_cases u : i < j
          · rw [if_pos u, if_pos (show i < j + 1 by omega)]
          · rw [if_neg u, if_neg (show ¬ i < j + 1 by omega)]
      · rw [gi_ne (by decide)]
        by_cases w : i = j
        · rw [w, gi_eq, if_pos ⟨by omega, q⟩]
        · rw [gi_ni w, h3 i hi]
          by_cases u : i < j
          · rw [if_pos ⟨u, q⟩, if_pos ⟨by omega, q⟩]
          · rw [if_neg (fun v => u v.1), if_neg (fun v => by omega)]
    · rw [if_neg q, if_neg q, chk_n (by omega) (by decide)]
      refine ih (m - 1) _ _ _ (by omega) ⟨j + 1, by omega, rfl, rfl, fun i hi => ?_, fun i hi => ?_⟩
      · by_cases w : i = j
        · rw [w, gi_eq, if_pos (by omega), if_neg q]
        · rw [gi_ni w, h2 i hi]
          by_cases u : i < j
          · rw [if_pos u, if_pos (show i < j + 1 by omega)]
          · rw [if_neg u, if_neg (show ¬ i < j + 1 by omega)]
      · rw [gi_ne (by decide), h3 i hi, if_neg (fun v => q v.2), if_neg (fun v => q v.2)]
theorem e_divides (N : Nat) (hN : 20000 ≤ N) {n A rule : Nat} (hn : n ≤ 8) (hA : A ≤ 9999) (hr : rule ≤ 2) (F : Nat → Nat) (hF : ∀ i, F i ≤ 9999) (s : Mem) (h : ∀ i, i < n → gi s 38 i = nI (F i)) : ∃ s', f_X10_divides N (nI n) (nI A) (nI rule) s = some ((), s') ∧ ∀ i, i < n → ∃ v, gi s' 39 i = nI v ∧ Dv F n A rule i v := by
  have hsF : smN F n ≤ n * 9999 := smN_bd n (fun i _ => hF i)
  have hn9 : n * 9999 ≤ 8 * 9999 := Nat.mul_le_mul_right 9999 hn
  have hh := half_sum F n
  unfold f_X10_divides
  have st3 : ∀ K : Mem → Option (Unit × Mem), ∃ s', itr (fun _ _ => none) (st_X10_divides_3 N (nI n) (nI A) (nI rule) K) N 0 s = K s' ∧ (∀ i, i < n → gi s' 39 i = nI 0) ∧ ∀ c i, ¬ c = 39 → gi s' c i = gi s c i := fun K => by
    refine lq1 (fun m x s' => ∃ j, j + m = n ∧ x = nI j ∧ (∀ i, i < j → gi s' 39 i = nI 0) ∧ ∀ c i, ¬ c = 39 → gi s' c i = gi s c i) (fun e => ∃ s', e = K s' ∧ (∀ i, i < n → gi s' 39 i = nI 0) ∧ ∀ c i, ¬ c = 39 → gi s' c i = gi s c i) (fun m x s' rec hI ih => ?_) N n 0 s ⟨0, by omega, rfl, fun i hi => absurd hi (by omega), fun _ _ _ => rfl⟩ (by omega)
    obtain ⟨j, h1, rfl, h2, h3⟩ := hI
    unfold st_X10_divides_3
    by_cases e : n ≤ j
    · rw [if_pos (nI_le e (by omega))]
      exact ⟨s', rfl, fun i hi => h2 i (by omega), h3⟩
    · rw [if_neg (nI_ge (by omega) (by omega)), chk_n (by omega) (by decide), ix_n (by omega)]
      simp only [lt_e, nI_1]
      refine ih (m - 1) _ _ (by omega) ⟨j + 1, by omega, rfl, fun i hi => ?_, fun c i hc => by rw [gi_ne hc]; exact h3 c i hc⟩
      by_cases w : i = j
      · rw [w, gi_eq]; rfl
      · rw [gi_ni w]; exact h2 i (by omega)
  dsimp only [lt_e]
  obtain ⟨s1, a1, a2, a3⟩ := st3 (fun s3 => if nI rule = 0 then bd (f_X10_givesAlike N (nI n) (nI A) s3) (fun _ s24 => some ((), s24)) else if nI rule = 1 then bd (f_X10_losesAlike N (nI n) (nI A) s3) (fun _ s22 => some ((), s22)) else bd (f_X10_allLost N (nI n) s3) (fun r5 s4 => if r5 < (2 : Int32) * nI A then itr (fun _ _ _ => none) (st_X10_divides_70 N (nI n) (nI A) 0 (fun x5_17 s16 => if (0 : Int32) = 0 then bd (f_X10_losesAlike N (nI n) (nI A - x5_17) s16) (fun _ s18 => some ((), s18)) else bd (f_X10_givesAlike N (nI n) (nI A) s16) (fun _ s20 => some ((), s20)))) N 0 0 s4 else itr (fun _ _ _ => none) (st_X10_divides_70 N (nI n) (nI A) 1 (fun x5_17 s16 => if (1 : Int32) = 0 then bd (f_X10_losesAlike N (nI n) (nI A - x5_17) s16) (fun _ s18 => some ((), s18)) else bd (f_X10_givesAlike N (nI n) (nI A) s16) (fun _ s20 => some ((), s20)))) N 0 0 s4))
  rw [a1]
  have h' : ∀ i, i < n → gi s1 38 i = nI (F i) := fun i hi => by rw [a3 38 i (by decide)]; exact h i hi
  by_cases r0 : rule = 0
  · subst r0
    obtain ⟨s2, b, b1, b2, b3⟩ := e_givesAlike N hN hn hA F (fun _ => 0) (fun i _ => hF i) s1 h' a2
    rw [if_pos (show nI 0 = 0 from rfl), b1, bd_some]
    exact ⟨s2, rfl, fun i hi => ⟨_, b3 i hi, Or.inl ⟨rfl, b, b2, Nat.zero_add _⟩⟩⟩
  · rw [if_neg (show ¬ nI rule = 0 from fun w => r0 ((nI_eq (b := 0) (by omega) (by decide)).mp w))]
    by_cases r1 : rule = 1
    · subst r1
      obtain ⟨s2, b, b1, b2, b3⟩ := e_losesAlike N hN hn hA F (fun _ => 0) (fun i _ => hF i) s1 h' a2
      rw [if_pos (show nI 1 = 1 from rfl), b1, bd_some]
      exact ⟨s2, rfl, fun i hi => ⟨_, b3 i hi, Or.inr (Or.inl ⟨rfl, b, b2, Nat.zero_add _⟩)⟩⟩
    · have r2 : rule = 2 := by omega
      subst r2
      rw [if_neg (show ¬ nI 2 = 1 by decide), e_allLost N (by omega) hn F s1 h', bd_some, show (2 : Int32) = nI 2 from rfl, pk_mul]
      by_cases q : smN F n < 2 * A
      · rw [if_pos (nI_lt q (by omega))]
        obtain ⟨s2, b1, b2, b3⟩ := e_dv70 N (by omega) hn (nI A) 0 (fun x5_17 s16 => if (0 : Int32) = 0 then bd (f_X10_losesAlike N (nI n) (nI A - x5_17) s16) (fun _ s18 => some ((), s18)) else bd (f_X10_givesAlike N (nI n) (nI A) s16) (fun _ s20 => some ((), s20))) F hF s1 h' a2
        rw [b1]
        obtain ⟨s3, b, c1, c2, c3⟩ := e_losesAlike N hN (A := A - smN (fun i => F i / 2) n) hn (by omega) (fun i => F i - F i / 2) (fun i => F i / 2) (fun i _ => by have := hF i; show F i - F i / 2 ≤ 9999; omega) s2 (fun i hi => by rw [b2 i hi, if_pos rfl]) (fun i hi => by rw [b3 i hi, if_pos rfl])
        rw [if_pos (show (0 : Int32) = 0 from rfl), pk_sub (by omega), c1, bd_some]
        exact ⟨s3, rfl, fun i hi => ⟨_, c3 i hi, Or.inr (Or.inr (Or.inr ⟨rfl, q, b, c2, rfl⟩))⟩⟩
      · rw [if_neg (nI_nlt (by omega) (by omega))]
        obtain ⟨s2, b1, b2, b3⟩ := e_dv70 N (by omega) hn (nI A) 1 (fun x5_17 s16 => if (1 : Int32) = 0 then bd (f_X10_losesAlike N (nI n) (nI A - x5_17) s16) (fun _ s18 => some ((), s18)) else bd (f_X10_givesAlike N (nI n) (nI A) s16) (fun _ s20 => some ((), s20))) F hF s1 h' a2
        rw [b1]
        obtain ⟨s3, b, c1, c2, c3⟩ := e_givesAlike N hN hn hA (fun i => F i / 2) (fun _ => 0) (fun i _ => by have := hF i; show F i / 2 ≤ 9999; omega) s2 (fun i hi => by rw [b2 i hi, if_neg (by decide)]) (fun i hi => by rw [b3 i hi, if_neg (by decide)])
        rw [if_neg (show ¬ (1 : Int32) = 0 by decide), c1, bd_some]
        exact ⟨s3, rfl, fun i hi => ⟨_, c3 i hi, Or.inr (Or.inr (Or.inl ⟨rfl, by omega, b, c2, Nat.zero_add _⟩))⟩⟩
theorem s_divided (N : Nat) (hN : 20000 ≤ N) {σ τ : Mem} (ht : Rt σ τ) (x1 x2 x3 x4 : Int32) : ∃ r σ' τ', f_X9_divided N x1 x2 x3 x4 σ = some (r, σ') ∧ f_X10_divided N x1 x2 x3 x4 τ = some (r, τ') ∧ Rt σ' τ' := by
  unfold f_X9_divided f_X10_divided
  simp only [e_within, e_in, bd_some, ite10, e_tapeHas, e_take, lt_e, show isAr 2 = true from rfl, ckc_t]
  obtain ⟨⟨t, ht2, a, b⟩, cc⟩ := id ht
  rw [a, b]
  have hno : ∃ r σ' τ', some ((-1 : Int32), σ) = some (r, σ') ∧ some ((-1 : Int32), τ) = some (r, τ') ∧ Rt σ' τ' := ⟨_, _, _, rfl, rfl, ht⟩
  by_cases h1 : inR x1 1 8
  · rw [if_pos h1, if_pos h1]
    by_cases h2 : inR x2 0 9999
    · rw [if_pos h2, if_pos h2]
      by_cases h3 : inR x3 0 2
      · rw [if_pos h3, if_pos h3]
        by_cases h4 : inR x4 0 (x1 - 1)
        · rw [if_pos h4, if_pos h4]
          obtain ⟨n, hn1, hn, rfl⟩ := inR_n (a := 1) (b := 8) rfl rfl (by decide) (by decide) h1
          obtain ⟨A, -, hA, rfl⟩ := inR_n (a := 0) (b := 9999) rfl rfl (by decide) (by decide) h2
          obtain ⟨rule, -, hr, rfl⟩ := inR_n (a := 0) (b := 2) rfl rfl (by decide) (by decide) h3
          rw [li_1, pk_sub hn1] at h4
          obtain ⟨w, -, hw, rfl⟩ := inR_n (a := 0) (b := n - 1) rfl rfl (by omega) (by decide) h4
          rw [show (2 : Int32) = nI 2 from rfl, pk_mul]
          have h6 : inR (nI (2 * n)) (nI 2) (nI (2 * n)) := inR_of (by omega) (by omega) (by omega)
          by_cases h5 : nI (2 * n) ≤ nI t
          · rw [if_pos ⟨h6, h5⟩, if_pos h5]
            have hnt := (nI_leI (by omega) (by omega)).mp h5
            have ht' := ht.take
            generalize si σ 1 1 0 = σ1 at ht' ⊢
            generalize si τ 0 5 0 = τ1 at ht' ⊢
            have hcv : ∀ j, j < 260 → ix (gi σ1 2 j) ≤ 255 ∧ gi σ1 2 j = nI (ix (gi σ1 2 j)) := fun j hj => by
              obtain ⟨m, m1, m2⟩ := oct_E (gi τ1 5 j)
              rw [(ht'.2 j hj).1, m2, ix_n (by omega)]
              exact ⟨m1, rfl⟩
            have hl : ∀ i, i < n → ix (gi σ1 2 (2 * i)) * 256 + ix (gi σ1 2 (2 * i + 1)) < 2 ^ 20 := fun i hi => by
              have := (hcv (2 * i) (by omega)).1
              have := (hcv (2 * i + 1) (by omega)).1
              omega
            have e2 : ∀ i, i < n → gi σ1 2 (2 * i) * 256 + gi σ1 2 (2 * i + 1) = nI (ix (gi σ1 2 (2 * i)) * 256 + ix (gi σ1 2 (2 * i + 1))) := fun i hi => by
              rw [← nI_add, ← (hcv (2 * i + 1) (by omega)).2, ← pk_mul, ← (hcv (2 * i) (by omega)).2]
              rfl
            have e5 : ∀ i, i < n → (256 : Int32) * (gi τ1 5 (2 * i) &&& 255) + (gi τ1 5 (2 * i + 1) &&& 255) = nI (ix (gi σ1 2 (2 * i)) * 256 + ix (gi σ1 2 (2 * i + 1))) := fun i hi => by
              rw [← (ht'.2 (2 * i) (by omega)).1, ← (ht'.2 (2 * i + 1) (by omega)).1, ← e2 i hi, Int32.mul_comm]
            obtain ⟨r, σ2, b1, b2, b3, b4⟩ := e_takeLosses N (by omega) hn _ hl σ1 e2
            have ht2 : Rt σ2 τ1 := ht'.fr (b4 1 1 (by decide)) (fun j _ => b4 2 j (by decide)) rfl (fun _ _ => rfl)
            rw [b1, bd_some]
            have d62 := e_div62 N (by omega) hn (nI A) (nI rule) (nI w) (fun s16 => bd (f_X10_divides N (nI n) (nI A) (nI rule) s16) (fun _ s17 => chk (nI w) 8 (some (gi s17 39 (ix (nI w)), s17)))) _ hl τ1 e5
            rcases d62 with ⟨τ2, ⟨i, i1, i2⟩, c1, c2⟩ | ⟨τ2, c0, c1, c2, c3⟩
            · rcases b2 with ⟨rfl, z⟩ | ⟨rfl, z⟩
              · exact absurd (z i i1) (by omega)
              · rw [if_pos (show (0 : Int32) = 0 from rfl)]
                refine ⟨-2, σ2, τ2, rfl, c1, ?_⟩
                exact ht2.fr rfl (fun _ _ => rfl) (c2 0 5 (by decide)) (fun j _ => c2 5 j (by decide))
            · rcases b2 with ⟨rfl, z⟩ | ⟨rfl, i, i1, i2⟩
              · rw [if_neg (show ¬ (1 : Int32) = 0 by decide)]
                have hFa : ∀ i, (if i < n then ix (gi σ1 2 (2 * i)) * 256 + ix (gi σ1 2 (2 * i + 1)) else 0) ≤ 9999 := fun i => by
                  by_cases q : i < n
                  · rw [if_pos q]; exact z i q
                  · rw [if_neg q]; omega
                obtain ⟨σ3, k1, k2⟩ := e_divide N (by omega) (rule := rule) hn hA hr (fun i => if i < n then ix (gi σ1 2 (2 * i)) * 256 + ix (gi σ1 2 (2 * i + 1)) else 0) hFa (fun i hi => if_neg (by omega)) σ2 (fun i hi => by rw [b3 i hi, if_pos hi])
                obtain ⟨τ3, k3, k4⟩ := e_divides N hN (rule := rule) hn hA hr (fun i => if i < n then ix (gi σ1 2 (2 * i)) * 256 + ix (gi σ1 2 (2 * i + 1)) else 0) hFa τ2 (fun i hi => by rw [c2 i hi, if_pos hi])
                obtain ⟨v, v1, v2⟩ := k2 w (by omega)
                obtain ⟨u, u1, u2⟩ := k4 w (by omega)
                have fa := fr_X5_divide N (nI n) (nI A) (nI rule) σ2 _ σ3 k1
                have fb := fr_X10_divides N (nI n) (nI A) (nI rule) τ2 _ τ3 k3
                have W1 : ∀ c i, c < 123 → ¬ W_X5_divide c i := fun c i hc => by
                  simp [W_X5_divide, W_X5_giveAlike, W_X5_cutAlike, W_X5_allOf, W_X5_divideRests, W_X5_shareUpTo, W_X5_giveRest, W_X5_shareLess]
                  omega
                have W2 : ∀ c i, c < 38 → ¬ W_X10_divides c i := fun c i hc => by
                  simp [W_X10_divides, W_X10_givesAlike, W_X10_losesAlike, W_X10_allLost, W_X10_givenUpTo, W_X10_min, W_X10_max]
                  omega
                rw [k1, bd_some, c1, chk_n (by omega) (by decide), ix_n (by omega), v1, k3, bd_some, chk_n (by omega) (by decide), u1, v2.uniq u2]
                refine ⟨_, _, _, rfl, rfl, ?_⟩
                exact ht2.fr (fa 1 1 (W1 _ _ (by decide))).1 (fun j _ => (fa 2 j (W1 _ _ (by decide))).1) (by rw [(fb 0 5 (W2 _ _ (by decide))).1]; exact c3 0 5 (by decide)) (fun j _ => by rw [(fb 5 j (W2 _ _ (by decide))).1]; exact c3 5 j (by decide))
              · exact absurd (c0 i i1) (by omega)
          · rw [if_neg (fun q => h5 q.2), if_neg h5]
            exact hno
        · rw [if_neg h4, if_neg h4]; exact hno
      · rw [if_neg h3, if_neg h3]; exact hno
    · rw [if_neg h2, if_neg h2]; exact hno
  · rw [if_neg h1, if_neg h1]; exact hno
