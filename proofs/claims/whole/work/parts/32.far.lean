/-! the reference's side of far; far, nearest -/
/-- row 35 holds f up to n, all but 35 and 36 is s0's -/
def FarIs (s0 s : Mem) (f : Nat → Nat) (n : Nat) : Prop := (∀ i, i ≤ n → gi s 35 i = nI (f i)) ∧ ∀ c i, ¬ c = 35 → ¬ c = 36 → gi s c i = gi s0 c i
theorem lp_ff2 (N : Nat) (x1 : Int32) {j n : Nat} (hj : j < 7) (hn : n ≤ 40) (K : Mem → Option (Int32 × Mem)) (s0 : Mem) (h34 : gi s0 34 j = nI n) : ∀ (m i M : Nat) (s : Mem), i + m = n + 1 → m < M → (∀ q, q < i → gi s 35 q = nI q) → (∀ c i, ¬ c = 35 → ¬ c = 36 → gi s c i = gi s0 c i) → ∃ s', itr (fun _ _ => none) (st_X10_farFrom_2 N x1 (nI j) K) M (nI i) s = K s' ∧ FarIs s0 s' (fun i => i) n
  | m, i, 0, s, _, h, _, _ => absurd h (by omega)
  | 0, i, M + 1, s, h, _, h1, h2 => by
    refine ⟨s, ?_, fun q hq => h1 q (by omega), h2⟩
    show st_X10_farFrom_2 N x1 (nI j) K _ (nI i) s = _
    unfold st_X10_farFrom_2
    rw [chk_n hj (by decide), ix_n (by omega), h2 34 j (by decide) (by decide), h34, if_pos (nI_lt (by omega) (by omega))]
  | m + 1, i, M + 1, s, h, h0, h1, h2 => by
    have e : ∀ rec : Int32 → Mem → Option (Int32 × Mem), st_X10_farFrom_2 N x1 (nI j) K rec (nI i) s = rec (nI (i + 1)) (si s 35 i (nI i)) := by
      intro rec
      unfold st_X10_farFrom_2
      rw [chk_n hj (by decide), ix_n (by omega), h2 34 j (by decide) (by decide), h34, if_neg (nI_nlt (by omega) (by omega)), chk_n (by omega) (by decide), ix_n (by omega)]
      simp only [lt_e, nI_1]
    show ∃ s', st_X10_farFrom_2 N x1 (nI j) K (itr _ _ M) (nI i) s = K s' ∧ _
    rw [e]
    refine lp_ff2 N x1 hj hn K s0 h34 m (i + 1) M _ (by omega) (by omega) (fun q hq => ?_) (fun c i hc hc2 => by rw [gi_ne hc]; exact h2 c i hc hc2)
    by_cases e2 : q = i
    · rw [e2, gi_eq]
    · rw [gi_ni e2]; exact h1 q (by omega)
theorem lp_ff47 (N : Nat) {k j n a : Nat} (hk : k < 7) (hj : j < 7) (hn : n ≤ 40) (ha : a < 40) (K : Mem → Option (Int32 × Mem)) (s0 : Mem) (h34 : gi s0 34 j = nI n) (u v : Nat → Int32) (hu : gi s0 33 (40 * k + a) = u a) (hv : ∀ i, i < n → gi s0 33 (40 * j + i) = v i) : ∀ (m i M : Nat) (s : Mem), i + m = n → m < M → FarIs s0 s (lev u v a) n → (∀ q, q ≤ i → gi s 36 q = nI (lev u v (a + 1) q)) → ∃ s', itr (fun _ _ => none) (st_X10_farFrom_47 N (nI k) (nI j) (nI (a + 1)) K) M (nI (i + 1)) s = K s' ∧ FarIs s0 s' (lev u v a) n ∧ (∀ q, q ≤ n → gi s' 36 q = nI (lev u v (a + 1) q))
  | m, i, 0, s, _, h, _, _ => absurd h (by omega)
  | 0, i, M + 1, s, h, _, h1, h2 => by
    refine ⟨s, ?_, h1, fun q hq => h2 q (by omega)⟩
    show st_X10_farFrom_47 N (nI k) (nI j) (nI (a + 1)) K _ (nI (i + 1)) s = _
    unfold st_X10_farFrom_47
    rw [chk_n hj (by decide), ix_n (by omega), h1.2 34 j (by decide) (by decide), h34, if_pos (nI_lt (by omega) (by omega))]
  | m + 1, i, M + 1, s, h, h0, h1, h2 => by
    have l1 := lev_le u v a i
    have l2 := lev_le u v a (i + 1)
    have l3 := lev_le u v (a + 1) i
    have e : ∀ rec : Int32 → Mem → Option (Int32 × Mem), st_X10_farFrom_47 N (nI k) (nI j) (nI (a + 1)) K rec (nI (i + 1)) s = rec (nI (i + 1 + 1)) (si s 36 (i + 1) (nI (lev u v (a + 1) (i + 1)))) := by
      intro rec
      unfold st_X10_farFrom_47
      rw [chk_n hj (by decide), ix_n (by omega), h1.2 34 j (by decide) (by decide), h34, if_neg (nI_nlt (by omega) (by omega)), li_40, pk_mul, pk_mul, nI_add, nI_add, show 40 * k + (a + 1) = 40 * k + a + 1 from rfl, show 40 * j + (i + 1) = 40 * j + i + 1 from rfl, nI_pred, nI_pred, nI_pred, chk_n (by omega) (by decide), chk_n (by omega) (by decide), chk_n (by omega) (by decide), ix_n (by omega), ix_n (by omega), ix_n (by omega), ix_n (by omega), h1.2 33 _ (by decide) (by decide), h1.2 33 _ (by decide) (by decide), hu, hv i (by omega), h1.1 i (by omega)]
      simp only [lt_e, nI_1]
      rw [h1.1 (i + 1) (by omega), h2 i (by omega), chk_n (by omega) (by decide), e_minM N _ _ (by omega) (by omega), bd_some, show (1 : Int32) + nI (min (lev u v a (i + 1)) (lev u v (a + 1) i)) = nI (1 + min (lev u v a (i + 1)) (lev u v (a + 1) i)) from by rw [li_1, nI_add], lev_ss]
      by_cases w : u a = v i
      · rw [if_pos w, if_pos w, show nI (lev u v a i) + 0 = nI (lev u v a i + 0) from Int32.add_zero _, e_minM N _ _ (by omega) (by omega), bd_some, chk_n (by omega) (by decide), chk_n (by omega) (by decide)]
      · rw [if_neg w, if_neg w, chk_n (by omega) (by decide), chk_n (by omega) (by decide), bd_some, show (1 : Int32) + nI (min (lev u v a (i + 1)) (lev u v (a + 1) i)) = nI (1 + min (lev u v a (i + 1)) (lev u v (a + 1) i)) from by rw [li_1, nI_add], e_minM N _ _ (by omega) (by omega), bd_some, chk_n (by omega) (by decide)]
    show ∃ s', st_X10_farFrom_47 N (nI k) (nI j) (nI (a + 1)) K (itr _ _ M) (nI (i + 1)) s = K s' ∧ _
    rw [e]
    refine lp_ff47 N hk hj hn ha K s0 h34 u v hu hv m (i + 1) M _ (by omega) (by omega) ⟨fun q hq => by rw [gi_ne (by decide)]; exact h1.1 q hq, fun c i hc hc2 => by rw [gi_ne hc2]; exact h1.2 c i hc hc2⟩ (fun q hq => ?_)
    by_cases e2 : q = i + 1
    · rw [e2, gi_eq]
    · rw [gi_ni e2]; exact h2 q (by omega)
theorem lp_ff147 (N : Nat) (x1 x3 : Int32) {j n : Nat} (hj : j < 7) (hn : n ≤ 40) (K : Mem → Option (Int32 × Mem)) (s0 : Mem) (h34 : gi s0 34 j = nI n) (g : Nat → Nat) : ∀ (m i M : Nat) (s : Mem), i + m = n + 1 → m < M → (∀ q, q < i → gi s 35 q = nI (g q)) → (∀ q, q ≤ n → gi s 36 q = nI (g q)) → (∀ c i, ¬ c = 35 → ¬ c = 36 → gi s c i = gi s0 c i) → ∃ s', itr (fun _ _ => none) (st_X10_farFrom_147 N x1 (nI j) x3 K) M (nI i) s = K s' ∧ FarIs s0 s' g n
  | m, i, 0, s, _, h, _, _, _ => absurd h (by omega)
  | 0, i, M + 1, s, h, _, h1, _, h2 => by
    refine ⟨s, ?_, fun q hq => h1 q (by omega), h2⟩
    show st_X10_farFrom_147 N x1 (nI j) x3 K _ (nI i) s = _
    unfold st_X10_farFrom_147
    rw [chk_n hj (by decide), ix_n (by omega), h2 34 j (by decide) (by decide), h34, if_pos (nI_lt (by omega) (by omega))]
  | m + 1, i, M + 1, s, h, h0, h1, h3, h2 => by
    have e : ∀ rec : Int32 → Mem → Option (Int32 × Mem), st_X10_farFrom_147 N x1 (nI j) x3 K rec (nI i) s = rec (nI (i + 1)) (si s 35 i (nI (g i))) := by
      intro rec
      unfold st_X10_farFrom_147
      rw [chk_n hj (by decide), ix_n (by omega), h2 34 j (by decide) (by decide), h34, if_neg (nI_nlt (by omega) (by omega)), chk_n (by omega) (by decide), chk_n (by omega) (by decide), ix_n (by omega), h3 i (by omega)]
      simp only [lt_e, nI_1]
    show ∃ s', st_X10_farFrom_147 N x1 (nI j) x3 K (itr _ _ M) (nI i) s = K s' ∧ _
    rw [e]
    refine lp_ff147 N x1 x3 hj hn K s0 h34 g m (i + 1) M _ (by omega) (by omega) (fun q hq => ?_) (fun q hq => by rw [gi_ne (by decide)]; exact h3 q hq) (fun c i hc hc2 => by rw [gi_ne hc]; exact h2 c i hc hc2)
    by_cases e2 : q = i
    · rw [e2, gi_eq]
    · rw [gi_ni e2]; exact h1 q (by omega)
theorem lp_ff27 (N : Nat) (hN : 50 ≤ N) {k j m n : Nat} (hk : k < 7) (hj : j < 7) (hm : m ≤ 40) (hn : n ≤ 40) (s0 : Mem) (h34k : gi s0 34 k = nI m) (h34 : gi s0 34 j = nI n) (u v : Nat → Int32) (hu : ∀ i, i < m → gi s0 33 (40 * k + i) = u i) (hv : ∀ i, i < n → gi s0 33 (40 * j + i) = v i) : ∀ (d a M : Nat) (s : Mem), a + d = m → d < M → FarIs s0 s (lev u v a) n → ∃ s', itr (fun _ _ => none) (st_X10_farFrom_27 N (nI k) (nI j)) M (nI (a + 1)) s = some (nI (lev u v m n), s')
  | d, a, 0, s, _, h, _ => absurd h (by omega)
  | 0, a, M + 1, s, h, _, h1 => by
    refine ⟨s, ?_⟩
    show st_X10_farFrom_27 N (nI k) (nI j) _ (nI (a + 1)) s = _
    unfold st_X10_farFrom_27
    rw [chk_n hk (by decide), ix_n (by omega), ix_n (by omega), h1.2 34 k (by decide) (by decide), h1.2 34 j (by decide) (by decide), h34k, h34, if_pos (nI_lt (by omega) (by omega)), chk_n hj (by decide), chk_n (by omega) (by decide), ix_n (by omega), h1.1 n (by omega), show a = m by omega]
  | d + 1, a, M + 1, s, h, h0, h1 => by
    show ∃ s', st_X10_farFrom_27 N (nI k) (nI j) (itr _ _ M) (nI (a + 1)) s = _
    generalize hrec : itr (fun _ _ => none) (st_X10_farFrom_27 N (nI k) (nI j)) M = rec
    unfold st_X10_farFrom_27
    rw [chk_n hk (by decide), ix_n (by omega), h1.2 34 k (by decide) (by decide), h34k, if_neg (nI_nlt (by omega) (by omega))]
    simp only [lt_e, nI_1, ck_0_41, ix_0]
    obtain ⟨s1, e1, f1, f2⟩ := lp_ff47 N hk hj hn (a := a) (by omega) (fun s14 => itr (fun _ _ => none) (st_X10_farFrom_147 N (nI k) (nI j) (nI (a + 1)) (fun s17 => rec (nI (a + 1 + 1)) s17)) N (nI 0) s14) s0 h34 u v (hu a (by omega)) hv n 0 N (si s 36 0 (nI (a + 1))) (by omega) (by omega) ⟨fun q hq => by rw [gi_ne (by decide)]; exact h1.1 q hq, fun c i hc hc2 => by rw [gi_ne hc2]; exact h1.2 c i hc hc2⟩ (fun q hq => by rw [show q = 0 by omega, gi_eq]; rfl)
    obtain ⟨s2, e2, f3⟩ := lp_ff147 N (nI k) (nI (a + 1)) hj hn (fun s17 => rec (nI (a + 1 + 1)) s17) s0 h34 (lev u v (a + 1)) (n + 1) 0 N s1 (by omega) (by omega) (fun q hq => by omega) f2 f1.2
    have e3 := e1.trans e2
    refine (lp_ff27 N hN hk hj hm hn s0 h34k h34 u v hu hv d (a + 1) M s2 (by omega) (by omega) f3).imp (fun s' hs' => ?_)
    rw [hrec] at hs'
    exact e3.trans hs'
theorem e_farFrom (N : Nat) (hN : 50 ≤ N) {k j m n : Nat} (hk : k < 7) (hj : j < 7) (hm : m ≤ 40) (hn : n ≤ 40) (s : Mem) (h34k : gi s 34 k = nI m) (h34 : gi s 34 j = nI n) (u v : Nat → Int32) (hu : ∀ i, i < m → gi s 33 (40 * k + i) = u i) (hv : ∀ i, i < n → gi s 33 (40 * j + i) = v i) : ∃ s', f_X10_farFrom N (nI k) (nI j) s = some (nI (lev u v m n), s') := by
  unfold f_X10_farFrom
  obtain ⟨s1, e1, h1⟩ := lp_ff2 N (nI k) hj hn (fun s3 => itr (fun _ _ => none) (st_X10_farFrom_27 N (nI k) (nI j)) N 1 s3) s h34 (n + 1) 0 N s (by omega) (by omega) (fun q hq => by omega) (fun _ _ _ _ => rfl)
  obtain ⟨s2, e2⟩ := lp_ff27 N hN hk hj hm hn s h34k h34 u v hu hv m 0 N s1 (by omega) (by omega) h1
  exact ⟨s2, e1.trans e2⟩
theorem s_far (N : Nat) (hN : 50 ≤ N) {σ τ : Mem} (hx : Rx σ τ) (x1 x2 : Int32) : ∃ r σ' τ', f_X9_far N x1 x2 σ = some (r, σ') ∧ f_X10_far N x1 x2 τ = some (r, τ') := by
  unfold f_X9_far f_X10_far
  simp only [e_isLetterC, e_in, bd_some, ite10]
  by_cases h1 : inR x1 0 5
  · by_cases h2 : inR x2 0 5
    · rw [if_pos h1, if_pos h2, if_pos h1, if_pos h2]
      obtain ⟨k, -, hk, rfl⟩ := inR_n (a := 0) (b := 5) rfl rfl (by decide) (by decide) h1
      obtain ⟨j, -, hj, rfl⟩ := inR_n (a := 0) (b := 5) rfl rfl (by decide) (by decide) h2
      obtain ⟨m, m1, m2, m3, m4⟩ := hx.1 k (by omega)
      obtain ⟨n, n1, n2, n3, n4⟩ := hx.1 j (by omega)
      rw [e_written N (by omega) m2 m1, bd_some, ite10, e_written N (by omega) n2 n1, bd_some, ite10, chk_n (by omega) (by decide), chk_n (by omega) (by decide), ix_n (by omega), ix_n (by omega), m3, n3]
      by_cases q : 0 < m
      · rw [if_pos q, if_neg (nI_ne0 q (by omega))]
        by_cases q' : 0 < n
        · rw [if_pos q', if_neg (nI_ne0 q' (by omega))]
          unfold f_X1_apart
          rw [chk_n (by omega) (by decide), chk_n (by omega) (by decide), ix_n (by omega), m2]
          have hl : layC[112 + 1 + k]? = some (0, 40) := lr_112 (by omega)
          have hl2 : lenC (112 + 1 + k) = 40 := by
            unfold lenC
            rw [List.getD_eq_getElem?_getD, hl]
            rfl
          obtain ⟨s1, e1⟩ := e_changes N hN (c := 112 + 1 + k) (m := n) (x := m) (j := j) (by omega) n1 m1 (by omega) (by omega) (by omega) σ n2 (fun i => gi σ (112 + 1 + k) i) (fun i => gi σ (113 + j) i) (fun _ _ => rfl) (fun _ _ => rfl)
          obtain ⟨s2, e2⟩ := e_farFrom N hN (k := k) (j := j) (m := m) (n := n) (by omega) (by omega) m1 n1 τ m3 n3 (fun i => gi τ 33 (40 * k + i)) (fun i => gi τ 33 (40 * j + i)) (fun _ _ => rfl) (fun _ _ => rfl)
          rw [e1, e2, bd_some, bd_some, bd_some]
          refine ⟨_, s1, s2, rfl, ?_⟩
          rw [lev_congr m n (fun i i' hi hi' => ?_)]
          rw [← bt_inj (hx.2 _ (by omega)) (hx.2 _ (by omega)), ← m4 i hi, ← n4 i' hi', show 112 + 1 + k = 113 + k by omega]
        · rw [if_neg q', if_pos (by rw [show n = 0 by omega]; rfl)]
          exact ⟨_, _, _, rfl, rfl⟩
      · rw [if_neg q, if_pos (by rw [show m = 0 by omega]; rfl)]
        exact ⟨_, _, _, rfl, rfl⟩
    · rw [if_pos h1, if_neg h2, if_pos h1, if_neg h2]
      exact ⟨_, _, _, rfl, rfl⟩
  · rw [if_neg h1, if_neg h1]
    exact ⟨_, _, _, rfl, rfl⟩
