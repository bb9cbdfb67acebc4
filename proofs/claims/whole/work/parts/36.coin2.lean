/-! coins: both sides -/
theorem e_imaxN (a b : Nat) (ha : a < 2 ^ 31) (hb : b < 2 ^ 31) : imax (nI a) (nI b) = nI (max a b) := by
  unfold imax
  by_cases h : a < b
  · rw [if_pos (nI_lt h hb), Nat.max_eq_right (by omega)]
  · rw [if_neg (nI_nlt (by omega) ha), Nat.max_eq_left (by omega)]
theorem lp_has (N : Nat) {n v : Nat} (hn : n ≤ 6) (hv : v ≤ 255) (d : Nat → Nat) (s : Mem) (h4 : gi s 122 4 = nI n) (hd : ∀ j, j < n → gi s 126 j = nI (d j) ∧ d j ≤ 255) : ∀ (m j M : Nat), j + m = n → m < M → agb d v j = false → itr (fun _ _ => none) (st_X5_hasCoin_2 N (nI v)) M (nI j) s = some (if agb d v n = true then 1 else 0, s)
  | m, j, 0, _, h, _ => absurd h (by omega)
  | 0, j, M + 1, h, _, q => by
    rw [show j = n by omega] at q ⊢
    show st_X5_hasCoin_2 N (nI v) _ (nI n) s = _
    unfold st_X5_hasCoin_2
    rw [h4, if_pos (nI_le (Nat.le_refl n) (by omega)), q]
    rfl
  | m + 1, j, M + 1, h, h0, q => by
    have ih := lp_has N hn hv d s h4 hd m (j + 1) M (by omega) (by omega)
    show st_X5_hasCoin_2 N (nI v) (itr _ _ M) (nI j) s = _
    generalize itr (fun _ _ => none) (st_X5_hasCoin_2 N (nI v)) M = rec at ih ⊢
    obtain ⟨d1, d2⟩ := hd j (by omega)
    unfold st_X5_hasCoin_2
    rw [h4, if_neg (nI_ge (by omega) (by omega)), if_neg (by rw [li_6]; exact nI_ge (by omega) (by decide)), chk_n (by omega) (by decide), ix_n (by omega), d1]
    simp only [lt_e, nI_1]
    by_cases e : d j = v
    · rw [e, if_pos rfl, if_pos ((agb_iff d v n).mpr ⟨j, by omega, e⟩)]
    · rw [if_neg (fun w => e ((nI_eq (by omega) (by omega)).mp w))]
      exact ih (by rw [agb_s, q, decide_eq_false e]; rfl)
/-- the class's coins: those of the tape, each once -/
def Co (c : Nat → Nat) (i : Nat) (s : Mem) : Prop := gi s 122 4 = nI (nd c i) ∧ ∀ i', i' < i → agb c (c i') i' = false → gi s 126 (nd c i') = nI (c i')
theorem Co.isD {c : Nat → Nat} {i : Nat} {s : Mem} (h : Co c i s) (hc : ∀ j, j < i → c j ≤ 255) : IsD c (fun j => ix (gi s 126 j)) i := fun i' hi q => by
  show ix (gi s 126 (nd c i')) = _
  rw [h.2 i' hi q, ix_n (by have := hc i' hi; omega)]
theorem Co.val {c : Nat → Nat} {i : Nat} {s : Mem} (h : Co c i s) (hc : ∀ j, j < i → c j ≤ 255) {j : Nat} (hj : j < nd c i) : gi s 126 j = nI (ix (gi s 126 j)) ∧ ix (gi s 126 j) ≤ 255 ∧ ∃ i', i' < i ∧ ix (gi s 126 j) = c i' := by
  obtain ⟨i', a1, a2, a3⟩ := nd_surj c i j hj
  have := hc i' a1
  have e := h.2 i' a1 a2
  rw [a3] at e
  rw [e, ix_n (by omega)]
  exact ⟨rfl, this, i', a1, rfl⟩
theorem lp_take (N : Nat) (hN : 20 ≤ N) {x : Nat} (hx : x ≤ 6) (c : Nat → Nat) (hc : ∀ j, j < x → c j ≤ 255) (s0 : Mem) (h2 : ∀ j, j < x → gi s0 2 j = nI (c j)) : ∀ (m i M : Nat) (s : Mem), i + m = x → m < M → (∀ q p, ¬ q = 122 → ¬ q = 126 → gi s q p = gi s0 q p) → Co c i s → (∀ j, j < i → 0 < c j) → ∃ s', ((∃ j, j < x ∧ c j = 0) ∧ itr (fun _ _ => none) (st_X5_takeCoins_7 N 2 (nI x)) M (nI i) s = some (0, s')) ∨ ((∀ j, j < x → 0 < c j) ∧ itr (fun _ _ => none) (st_X5_takeCoins_7 N 2 (nI x)) M (nI i) s = some (1, s') ∧ Co c x s')
  | m, i, 0, s, _, h, _, _, _ => absurd h (by omega)
  | 0, i, M + 1, s, h, _, h1, h3, h5 => by
    rw [show i = x by omega] at h3 h5 ⊢
    refine ⟨s, Or.inr ⟨h5, ?_, h3⟩⟩
    show st_X5_takeCoins_7 N 2 (nI x) _ (nI x) s = _
    unfold st_X5_takeCoins_7
    rw [if_pos (nI_le (Nat.le_refl x) (by omega))]
  | m + 1, i, M + 1, s, h, h0, h1, h3, h5 => by
    have ih := lp_take N hN hx c hc s0 h2 m (i + 1) M
    show ∃ s', ((∃ j, j < x ∧ c j = 0) ∧ st_X5_takeCoins_7 N 2 (nI x) (itr _ _ M) (nI i) s = _) ∨ (_ ∧ st_X5_takeCoins_7 N 2 (nI x) (itr _ _ M) (nI i) s = _ ∧ _)
    generalize itr (fun _ _ => none) (st_X5_takeCoins_7 N 2 (nI x)) M = rec at ih ⊢
    have hci := hc i (by omega)
    have hnd := nd_le c i
    have e2 : gi s 2 i = nI (c i) := by rw [h1 2 i (by decide) (by decide)]; exact h2 i (by omega)
    have eh : f_X5_hasCoin N (nI (c i)) s = some (if agb c (c i) i = true then 1 else 0, s) := by
      rw [← (h3.isD (fun j hj => hc j (by omega))).ag (Nat.le_refl i) (c i)]
      exact lp_has N (n := nd c i) (by omega) hci (fun j => ix (gi s 126 j)) s h3.1 (fun j hj => ⟨(h3.val (fun j hj => hc j (by omega)) hj).1, (h3.val (fun j hj => hc j (by omega)) hj).2.1⟩) (nd c i) 0 N (by omega) (by omega) rfl
    unfold st_X5_takeCoins_7
    rw [if_neg (nI_ge (by omega) (by omega)), if_neg (by rw [li_6]; exact nI_ge (by omega) (by decide)), show lenC 2 = 260 from rfl, chk_n (by omega) (by decide), ix_n (by omega), e2]
    by_cases z : c i = 0
    · rw [if_pos (by rw [z]; rfl)]
      exact ⟨s, Or.inl ⟨⟨i, by omega, z⟩, rfl⟩⟩
    · rw [if_neg (nI_ne0 (by omega) (by omega)), chk_n (by omega) (by decide), eh, bd_some]
      simp only [lt_e, nI_1]
      have h5' : ∀ j, j < i + 1 → 0 < c j := fun j hj => by
        by_cases e : j = i
        · rw [e]; omega
        · exact h5 j (by omega)
      by_cases q : agb c (c i) i = true
      · rw [if_pos q, if_neg (by decide)]
        refine ih s (by omega) (by omega) h1 ⟨by rw [nd_s, if_pos q]; exact h3.1, fun i' hi' q' => ?_⟩ h5'
        by_cases e : i' = i
        · rw [e, q] at q'
          exact absurd q' (by decide)
        · exact h3.2 i' (by omega) q'
      · rw [if_neg q, if_pos rfl, chk_n (by omega) (by decide), h3.1, chk_n (by omega) (by decide), ix_n (by omega), e2, gi_ne (show ¬ 122 = 126 by decide), h3.1, nI_1]
        refine ih _ (by omega) (by omega) (fun q p hq hp => by rw [gi_ne hq, gi_ne hp]; exact h1 q p hq hp) ⟨by rw [gi_eq, nd_s, if_neg q], fun i' hi' q' => ?_⟩ h5'
        rw [gi_ne (by decide)]
        by_cases e : i' = i
        · rw [e, gi_eq]
        · have := nd_lt c (show i' < i by omega) q'
          rw [gi_ni (by omega)]
          exact h3.2 i' (by omega) q'
theorem e_takeCoins (N : Nat) (hN : 20 ≤ N) {x : Nat} (hx : x ≤ 6) (c : Nat → Nat) (hc : ∀ j, j < x → c j ≤ 255) (s : Mem) (h2 : ∀ j, j < x → gi s 2 j = nI (c j)) : ∃ s', ((∃ j, j < x ∧ c j = 0) ∧ f_X5_takeCoins N 2 (nI x) s = some (0, s')) ∨ ((∀ j, j < x → 0 < c j) ∧ f_X5_takeCoins N 2 (nI x) s = some (1, s') ∧ Co c x s') :=
  lp_take N hN hx c hc s h2 x 0 N (si s 122 4 0) (by omega) (by omega) (fun q p hq _ => gi_ne hq) ⟨gi_eq _ _ _ _, fun i' hi' => absurd hi' (by omega)⟩ (fun j hj => absurd hj (by omega))
-- fewest, the class
theorem lp_few35 (N : Nat) (x1 x2 : Int32) {n v : Nat} (hn : n ≤ 6) (hv : v ≤ 999) (hv0 : 0 < v) (d : Nat → Nat) (hd : ∀ j, j < n → 0 < d j ∧ d j ≤ 255) (K : Mem → Option (Int32 × Mem)) (s0 : Mem) (h4 : gi s0 122 4 = nI n) (h126 : ∀ j, j < n → gi s0 126 j = nI (d j)) (hF : ∀ u, u < v → ∃ y, gi s0 110 u = nI y ∧ Mn (fun k => Pay (fun e => ∃ j, j < n ∧ d j = e) k u) 1000 y) : ∀ (m j M : Nat) (s : Mem) (a : Nat), j + m = n → m < M → (∀ q p, ¬ (q = 110 ∧ p = v) → gi s q p = gi s0 q p) → gi s 110 v = nI a → Mn (fun k => ∃ j', j' < j ∧ d j' ≤ v ∧ ∃ k', k = k' + 1 ∧ Pay (fun e => ∃ j, j < n ∧ d j = e) k' (v - d j')) 1000 a → ∃ s' y, itr (fun _ _ => none) (st_X5_fewest_35 N x1 x2 (nI v) K) M (nI j) s = K s' ∧ (∀ q p, ¬ (q = 110 ∧ p = v) → gi s' q p = gi s0 q p) ∧ gi s' 110 v = nI y ∧ Mn (fun k => Pay (fun e => ∃ j, j < n ∧ d j = e) k v) 1000 y
  | m, j, 0, s, a, _, h, _, _, _ => absurd h (by omega)
  | 0, j, M + 1, s, a, h, _, h1, h2, h3 => by
    rw [show j = n by omega] at h3 ⊢
    refine ⟨s, a, ?_, h1, h2, h3.congr (fun k => ⟨?_, ?_⟩)⟩
    · show st_X5_fewest_35 N x1 x2 (nI v) K _ (nI n) s = _
      unfold st_X5_fewest_35
      rw [h1 122 4 (by omega), h4, if_pos (nI_le (Nat.le_refl n) (by omega))]
    · rintro ⟨j', a1, a2, k', rfl, a3⟩
      exact ⟨d j', ⟨j', a1, rfl⟩, a2, a3⟩
    · intro q
      cases k with
      | zero => exact absurd (show v = 0 from q) (by omega)
      | succ k =>
        obtain ⟨e, ⟨j', b1, rfl⟩, b2, b3⟩ := q
        exact ⟨j', b1, b2, k, rfl, b3⟩
  | m + 1, j, M + 1, s, a, h, h0, h1, h2, h3 => by
    have ih := lp_few35 N x1 x2 hn hv hv0 d hd K s0 h4 h126 hF m (j + 1) M
    show ∃ s' y, st_X5_fewest_35 N x1 x2 (nI v) K (itr _ _ M) (nI j) s = _ ∧ _
    generalize itr (fun _ _ => none) (st_X5_fewest_35 N x1 x2 (nI v) K) M = rec at ih ⊢
    obtain ⟨d1, d2⟩ := hd j (by omega)
    have ha := h3.le
    unfold st_X5_fewest_35
    rw [h1 122 4 (by omega), h4, if_neg (nI_ge (by omega) (by omega)), chk_n (by omega) (by decide), ix_n (by omega), h1 126 j (by omega), h126 j (by omega)]
    simp only [lt_e, nI_1]
    by_cases q : v < d j
    · rw [if_pos (nI_lt q (by omega))]
      refine ih s a (by omega) (by omega) h1 h2 (h3.congr (fun k => ⟨?_, ?_⟩))
      · rintro ⟨j', a1, a2⟩
        exact ⟨j', by omega, a2⟩
      · rintro ⟨j', a1, a2, a3⟩
        refine ⟨j', ?_, a2, a3⟩
        by_cases e : j' = j
        · rw [e] at a2; omega
        · omega
    · obtain ⟨y, y1, y2⟩ := hF (v - d j) (by omega)
      have hy := y2.le
      rw [if_neg (nI_nlt (by omega) (by omega)), chk_n (by omega) (by decide), chk_n (by omega) (by decide), pk_sub (by omega), chk_n (by omega) (by decide), ix_n (by omega), ix_n (by omega), h2, h1 110 (v - d j) (by omega), y1, nI_1, e_iminN _ _ (by omega) (by omega), chk_n (by omega) (by decide)]
      refine ih _ (min a (y + 1)) (by omega) (by omega) (fun q p hq => by rw [gi_si, if_neg hq]; exact h1 q p hq) (gi_eq _ _ _ _) ((h3.or y2 (fun k hk => ?_)).congr (fun k => ⟨?_, ?_⟩))
      · have := Pay_le (fun e ⟨j, hj, he⟩ => by rw [← he]; exact (hd j hj).1) k _ hk
        omega
      · rintro (⟨j', a1, a2⟩ | ⟨k', rfl, a2⟩)
        · exact ⟨j', by omega, a2⟩
        · exact ⟨j, by omega, by omega, k', rfl, a2⟩
      · rintro ⟨j', a1, a2, k', rfl, a3⟩
        by_cases e : j' = j
        · rw [e] at a3
          exact Or.inr ⟨k', rfl, a3⟩
        · exact Or.inl ⟨j', by omega, a2, k', rfl, a3⟩
theorem lp_few13 (N : Nat) (hN : 20 ≤ N) {n X : Nat} (hn : n ≤ 6) (hX : X ≤ 999) (d : Nat → Nat) (hd : ∀ j, j < n → 0 < d j ∧ d j ≤ 255) (K : Mem → Option (Int32 × Mem)) (s0 : Mem) (h4 : gi s0 122 4 = nI n) (h126 : ∀ j, j < n → gi s0 126 j = nI (d j)) : ∀ (m v M : Nat) (s : Mem), v + m = X + 1 → 0 < v → m < M → (∀ q p, ¬ q = 110 → gi s q p = gi s0 q p) → (∀ u, u < v → ∃ y, gi s 110 u = nI y ∧ Mn (fun k => Pay (fun e => ∃ j, j < n ∧ d j = e) k u) 1000 y) → ∃ s', itr (fun _ _ => none) (st_X5_fewest_13 N (nI X) 1000 K) M (nI v) s = K s' ∧ ∃ y, gi s' 110 X = nI y ∧ Mn (fun k => Pay (fun e => ∃ j, j < n ∧ d j = e) k X) 1000 y
  | m, v, 0, s, _, _, h, _, _ => absurd h (by omega)
  | 0, v, M + 1, s, h, _, _, h1, h2 => by
    refine ⟨s, ?_, h2 X (by omega)⟩
    show st_X5_fewest_13 N (nI X) 1000 K _ (nI v) s = _
    unfold st_X5_fewest_13
    rw [if_pos (nI_lt (by omega) (by omega))]
  | m + 1, v, M + 1, s, h, hv0, h0, h1, h2 => by
    have ih := lp_few13 N hN hn hX d hd K s0 h4 h126 m (v + 1) M
    rw [show itr (fun _ _ => none) (st_X5_fewest_13 N (nI X) 1000 K) (M + 1) = st_X5_fewest_13 N (nI X) 1000 K (itr (fun _ _ => none) (st_X5_fewest_13 N (nI X) 1000 K) M) from rfl]
    generalize itr (fun _ _ => none) (st_X5_fewest_13 N (nI X) 1000 K) M = rec at ih ⊢
    unfold st_X5_fewest_13
    rw [if_neg (nI_nlt (by omega) (by omega)), if_neg (show ¬ (999 : Int32) < nI v from nI_nlt (a := 999) (by omega) (by decide)), chk_n (by omega) (by decide), ix_n (by omega)]
    simp only [lt_e, nI_1]
    obtain ⟨s1, y, e1, e2, e3, e4⟩ := lp_few35 N (nI X) 1000 hn (v := v) (by omega) hv0 d hd (fun s6 => rec (nI (v + 1)) s6) (si s 110 v 1000) (by rw [gi_ne (by decide), h1 _ _ (by decide)]; exact h4) (fun j hj => by rw [gi_ne (by decide), h1 _ _ (by decide)]; exact h126 j hj) (fun u hu => by rw [gi_ni (by omega)]; exact h2 u hu) n 0 N (si s 110 v 1000) 1000 (by omega) (by omega) (fun _ _ _ => rfl) (gi_eq _ _ _ _) (Or.inr ⟨rfl, fun k ⟨j', h, _⟩ => absurd h (by omega)⟩)
    obtain ⟨s2, k1, k2⟩ := ih s1 (by omega) (by omega) (by omega) (fun q p hq => by rw [e2 q p (fun w => hq w.1), gi_ne hq]; exact h1 q p hq) (fun u hu => by
      by_cases e : u = v
      · rw [e]; exact ⟨y, e3, e4⟩
      · rw [e2 110 u (fun w => e w.2), gi_ni e]
        exact h2 u (by omega))
    exact ⟨s2, e1.trans k1, k2⟩
theorem e_fewest (N : Nat) (hN : 1100 ≤ N) {n X : Nat} (hn : n ≤ 6) (hX : X ≤ 999) (d : Nat → Nat) (hd : ∀ j, j < n → 0 < d j ∧ d j ≤ 255) (s : Mem) (h4 : gi s 122 4 = nI n) (h126 : ∀ j, j < n → gi s 126 j = nI (d j)) : ∃ s' y, f_X5_fewest N (nI X) s = some (if 1000 ≤ y then -2 else nI y, s') ∧ Mn (fun k => Pay (fun e => ∃ j, j < n ∧ d j = e) k X) 1000 y := by
  unfold f_X5_fewest
  rw [show (0 : Int32) = nI 0 from rfl, chk_n (by decide) (by decide), ix_n (by decide)]
  simp only [lt_e]
  obtain ⟨s1, e1, y, e2, e3⟩ := lp_few13 N (by omega) hn hX d hd (fun  (s8 : Mem) => chk (nI X) 1000 (if 1000 ≤ (gi s8 110 (ix (nI X))) then (some ((-2), s8)) else chk (nI X) 1000 (some (gi s8 110 (ix (nI X)), s8)))) s h4 h126 X 1 N (si s 110 0 (nI 0)) (by omega) (by omega) (by omega) (fun q p hq => gi_ne hq) (fun u hu => ⟨0, by rw [show u = 0 by omega, gi_eq], Or.inl ⟨by rw [show u = 0 by omega]; exact rfl, by decide, fun k _ => Nat.zero_le k⟩⟩)
  refine ⟨s1, y, e1.trans ?_, e3⟩
  have hy := e3.le
  show chk (nI X) 1000 (if 1000 ≤ (gi s1 110 (ix (nI X))) then (some ((-2), s1)) else chk (nI X) 1000 (some (gi s1 110 (ix (nI X)), s1))) = _
  rw [chk_n (by omega) (by decide), chk_n (by omega) (by decide), ix_n (by omega), e2]
  by_cases q : 1000 ≤ y
  · rw [if_pos (show (1000 : Int32) ≤ nI y from nI_le q (by omega)), if_pos q]
  · rw [if_neg (show ¬ (1000 : Int32) ≤ nI y from nI_ge (b := 1000) (by omega) (by decide)), if_neg q]
-- ways, the class
theorem lp_ways2 (N : Nat) {X : Nat} (hX : X ≤ 999) (K : Mem → Option (Int32 × Mem)) (s0 : Mem) : ∀ (m v M : Nat) (s : Mem), v + m = X + 1 → m < M → (∀ q p, ¬ q = 110 → gi s q p = gi s0 q p) → (∀ u, u < v → gi s 110 u = nI (if u = 0 then 1 else 0)) → ∃ s', itr (fun _ _ => none) (st_X5_ways_2 N (nI X) K) M (nI v) s = K s' ∧ (∀ q p, ¬ q = 110 → gi s' q p = gi s0 q p) ∧ (∀ u, u ≤ X → gi s' 110 u = nI (if u = 0 then 1 else 0))
  | m, v, 0, s, _, h, _, _ => absurd h (by omega)
  | 0, v, M + 1, s, h, _, h1, h2 => by
    refine ⟨s, ?_, h1, fun u hu => h2 u (by omega)⟩
    show st_X5_ways_2 N (nI X) K _ (nI v) s = _
    unfold st_X5_ways_2
    rw [if_pos (nI_lt (by omega) (by omega))]
  | m + 1, v, M + 1, s, h, h0, h1, h2 => by
    have ih := lp_ways2 N hX K s0 m (v + 1) M
    rw [show itr (fun _ _ => none) (st_X5_ways_2 N (nI X) K) (M + 1) = st_X5_ways_2 N (nI X) K (itr (fun _ _ => none) (st_X5_ways_2 N (nI X) K) M) from rfl]
    generalize itr (fun _ _ => none) (st_X5_ways_2 N (nI X) K) M = rec at ih ⊢
    have key : st_X5_ways_2 N (nI X) K rec (nI v) s = rec (nI (v + 1)) (si s 110 v (nI (if v = 0 then 1 else 0))) := by
      unfold st_X5_ways_2
      rw [if_neg (nI_nlt (by omega) (by omega)), if_neg (show ¬ (999 : Int32) < nI v from nI_nlt (a := 999) (by omega) (by decide)), chk_n (by omega) (by decide), chk_n (by omega) (by decide), ix_n (by omega)]
      simp only [lt_e, nI_1]
      by_cases q : v = 0
      · rw [if_pos (by rw [q]; rfl), if_pos q]; rfl
      · rw [if_neg (nI_ne0 (by omega) (by omega)), if_neg q]; rfl
    rw [key]
    refine ih _ (by omega) (by omega) (fun q p hq => by rw [gi_ne hq]; exact h1 q p hq) (fun u hu => ?_)
    by_cases e : u = v
    · rw [e, gi_eq]
    · rw [gi_ni e]; exact h2 u (by omega)
theorem lp_ways52 (N : Nat) {X j c : Nat} (hj : j < 6) (hX : X ≤ 999) (hc : c ≤ 255) (W : Nat → Nat) (hW : ∀ v, W v ≤ 1000000000) (K : Mem → Option (Int32 × Mem)) (s0 : Mem) (h126 : gi s0 126 j = nI c) : ∀ (m v M : Nat) (s : Mem), v + m = X + 1 → c ≤ v → m < M → (∀ q p, ¬ q = 110 → gi s q p = gi s0 q p) → (∀ u, u ≤ X → gi s 110 u = nI (wstL c W v u)) → ∃ s', itr (fun _ _ => none) (st_X5_ways_52 N (nI X) (nI j) K) M (nI v) s = K s' ∧ (∀ q p, ¬ q = 110 → gi s' q p = gi s0 q p) ∧ (∀ u, u ≤ X → gi s' 110 u = nI (wstL c W (X + 1) u))
  | m, v, 0, s, _, _, h, _, _ => absurd h (by omega)
  | 0, v, M + 1, s, h, _, _, h1, h2 => by
    rw [show v = X + 1 by omega] at h2 ⊢
    refine ⟨s, ?_, h1, h2⟩
    show st_X5_ways_52 N (nI X) (nI j) K _ (nI (X + 1)) s = _
    unfold st_X5_ways_52
    rw [if_pos (nI_lt (by omega) (by omega))]
  | m + 1, v, M + 1, s, h, hcv, h0, h1, h2 => by
    have ih := lp_ways52 N hj hX hc W hW K s0 h126 m (v + 1) M
    rw [show itr (fun _ _ => none) (st_X5_ways_52 N (nI X) (nI j) K) (M + 1) = st_X5_ways_52 N (nI X) (nI j) K (itr (fun _ _ => none) (st_X5_ways_52 N (nI X) (nI j) K) M) from rfl]
    generalize itr (fun _ _ => none) (st_X5_ways_52 N (nI X) (nI j) K) M = rec at ih ⊢
    have b1 := wstL_le (c := c) hW v v
    have b2 := wstL_le (c := c) hW v (v - c)
    unfold st_X5_ways_52
    rw [if_neg (nI_nlt (by omega) (by omega)), if_neg (show ¬ (999 : Int32) < nI v from nI_nlt (a := 999) (by omega) (by decide)), chk_n (by omega) (by decide), chk_n (by omega) (by decide), ix_n (by omega), ix_n (by omega), h1 126 j (by decide), h126, pk_sub hcv, chk_n (by omega) (by decide), chk_n (by omega) (by decide), ix_n (by omega), h2 v (by omega), h2 (v - c) (by omega), nI_add, show (1000000000 : Int32) = nI 1000000000 from rfl, e_iminN _ _ (by decide) (by omega)]
    simp only [lt_e, nI_1]
    refine ih _ (by omega) (by omega) (by omega) (fun q p hq => by rw [gi_ne hq]; exact h1 q p hq) (fun u hu => ?_)
    rw [wstL_s]
    by_cases e : u = v
    · rw [e, gi_eq, if_pos ⟨rfl, hcv⟩]
    · rw [gi_ni e, if_neg (fun w => e w.1)]; exact h2 u hu
theorem lp_ways37 (N : Nat) (hN : 1100 ≤ N) {X n : Nat} (hn : n ≤ 6) (hX : X ≤ 999) (d : Nat → Nat) (hd : ∀ j, j < n → 0 < d j ∧ d j ≤ 255) (s0 : Mem) (h4 : gi s0 122 4 = nI n) (h126 : ∀ j, j < n → gi s0 126 j = nI (d j)) : ∀ (m j M : Nat) (s : Mem), j + m = n → m < M → (∀ q p, ¬ q = 110 → gi s q p = gi s0 q p) → (∀ u, u ≤ X → gi s 110 u = nI (wf d X j u)) → ∃ s', itr (fun _ _ => none) (st_X5_ways_37 N (nI X)) M (nI j) s = some (nI (wf d X n X), s')
  | m, j, 0, s, _, h, _, _ => absurd h (by omega)
  | 0, j, M + 1, s, h, _, h1, h2 => by
    rw [show j = n by omega] at h2 ⊢
    refine ⟨s, ?_⟩
    show st_X5_ways_37 N (nI X) _ (nI n) s = _
    unfold st_X5_ways_37
    rw [h1 122 4 (by decide), h4, if_pos (nI_le (Nat.le_refl n) (by omega)), chk_n (by omega) (by decide), ix_n (by omega), h2 X (Nat.le_refl X)]
  | m + 1, j, M + 1, s, h, h0, h1, h2 => by
    have ih := lp_ways37 N hN hn hX d hd s0 h4 h126 m (j + 1) M
    show ∃ s', st_X5_ways_37 N (nI X) (itr _ _ M) (nI j) s = _
    generalize itr (fun _ _ => none) (st_X5_ways_37 N (nI X)) M = rec at ih ⊢
    obtain ⟨d1, d2⟩ := hd j (by omega)
    unfold st_X5_ways_37
    rw [h1 122 4 (by decide), h4, if_neg (nI_ge (by omega) (by omega)), chk_n (by omega) (by decide), ix_n (by omega), h1 126 j (by decide), h126 j (by omega)]
    simp only [lt_e, nI_1]
    by_cases q : d j ≤ X
    · obtain ⟨s1, e1, e2, e3⟩ := lp_ways52 N (j := j) (c := d j) (by omega) hX d2 (wf d X j) (wf_le d X j) (fun s9 => rec (nI (j + 1)) s9) s0 (h126 j (by omega)) (X + 1 - d j) (d j) N s (by omega) (Nat.le_refl _) (by omega) h1 (fun u hu => by rw [wstL_lo _ _ _ (Nat.le_refl _)]; exact h2 u hu)
      obtain ⟨s2, k1⟩ := ih s1 (by omega) (by omega) e2 e3
      exact ⟨s2, e1.trans k1⟩
    · obtain ⟨s2, k1⟩ := ih s (by omega) (by omega) h1 (fun u hu => by
        show gi s 110 u = nI (wstL (d j) (wf d X j) (X + 1) u)
        rw [wstL_lo _ _ _ (by omega)]
        exact h2 u hu)
      obtain ⟨M', hM'⟩ : ∃ M', N = M' + 1 := ⟨N - 1, by omega⟩
      refine ⟨s2, Eq.trans ?_ k1⟩
      generalize hst : (st_X5_ways_52 N (nI X) (nI j) fun s9 => rec (nI (j + 1)) s9) = st
      rw [hM']
      show st (itr (fun _ _ => none) st M') (nI (d j)) s = _
      rw [← hst]
      generalize itr (fun _ _ => none) (st_X5_ways_52 N (nI X) (nI j) fun s9 => rec (nI (j + 1)) s9) M' = rec2
      unfold st_X5_ways_52
      rw [if_pos (nI_lt (by omega) (by omega))]
theorem e_ways (N : Nat) (hN : 1100 ≤ N) {X n : Nat} (hn : n ≤ 6) (hX : X ≤ 999) (d : Nat → Nat) (hd : ∀ j, j < n → 0 < d j ∧ d j ≤ 255) (s : Mem) (h4 : gi s 122 4 = nI n) (h126 : ∀ j, j < n → gi s 126 j = nI (d j)) : ∃ s', f_X5_ways N (nI X) s = some (nI (wf d X n X), s') := by
  obtain ⟨s1, e1, e2, e3⟩ := lp_ways2 N hX (fun  (s5 : Mem) => itr (fun _ _ => none) (st_X5_ways_37 N (nI X)) N 0 s5) s (X + 1) 0 N s (by omega) (by omega) (fun _ _ _ => rfl) (fun u hu => absurd hu (by omega))
  obtain ⟨s2, k1⟩ := lp_ways37 N hN hn hX d hd s h4 h126 n 0 N s1 (by omega) (by omega) e2 e3
  exact ⟨s2, e1.trans k1⟩
