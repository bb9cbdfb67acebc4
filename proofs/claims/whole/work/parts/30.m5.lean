/-! check, misspelt, bids -/
theorem e_octet (N : Nat) {j : Nat} (hj : j < 260) (s : Mem) : f_X10_octet N (nI j) s = some (gi s 5 j &&& 255, s) := by
  unfold f_X10_octet
  rw [chk_n hj (by decide), ix_n (by omega)]
theorem Rt.take {σ τ : Mem} (h : Rt σ τ) : Rt (si σ 1 1 0) (si τ 0 5 0) := by
  obtain ⟨-, c⟩ := h
  refine ⟨⟨0, by omega, gi_eq _ _ _ _, gi_eq _ _ _ _⟩, fun j hj => ?_⟩
  rw [gi_ne (by decide), gi_ne (by decide)]
  exact c j hj
theorem lp_check (N : Nat) {σ τ : Mem} (ht : Rt σ τ) (hp : Rp σ τ) (hn : Rn σ τ) {x : Nat} (hx : x ≤ 12) : ∀ (n j M M' : Nat), j + n = x → n < M → n < M' → ∃ r, itr (fun _ _ => none) (st_X9_check_27 N (nI x) 2) M (nI j) σ = some (r, σ) ∧ itr (fun _ _ => none) (st_X10_check_28 N (nI x)) M' (nI j) τ = some (r, τ)
  | n, j, 0, M', _, h, _ => absurd h (by omega)
  | n, j, M + 1, 0, _, _, h => absurd h (by omega)
  | 0, j, M + 1, M' + 1, h, _, _ => by
    rw [show j = x by omega]
    refine ⟨-1, ?_, ?_⟩
    · show st_X9_check_27 N (nI x) 2 _ (nI x) σ = _
      unfold st_X9_check_27
      rw [if_pos (nI_le (by omega) (by omega))]
    · show st_X10_check_28 N (nI x) _ (nI x) τ = _
      unfold st_X10_check_28
      rw [if_pos (nI_le (by omega) (by omega))]
  | n + 1, j, M + 1, M' + 1, h, h1, h2 => by
    obtain ⟨r, i1, i2⟩ := lp_check N ht hp hn hx n (j + 1) M M' (by omega) (by omega) (by omega)
    have hj : j < 12 := by omega
    have e1 : ∀ rec : Int32 → Mem → Option (Int32 × Mem), st_X9_check_27 N (nI x) 2 rec (nI j) σ = if gi σ 2 j = gi σ 33 j then rec (nI (j + 1)) σ else some (nI j, σ) := by
      intro rec
      unfold st_X9_check_27
      rw [if_neg (nI_ge (by omega) (by omega)), if_neg (by rw [li_12]; exact nI_ge hj (by decide)), show lenC 2 = 260 from rfl, chk_n (by omega) (by decide), chk_n hj (by decide), ix_n (by omega)]
      simp only [lt_e, nI_1]
    have e2 : ∀ rec : Int32 → Mem → Option (Int32 × Mem), st_X10_check_28 N (nI x) rec (nI j) τ = if gi σ 2 j = gi σ 33 j then rec (nI (j + 1)) τ else some (nI j, τ) := by
      intro rec
      unfold st_X10_check_28
      rw [if_neg (nI_ge (by omega) (by omega)), e_octet N (by omega), bd_some, e_isParish, bd_some]
      simp only [lt_e, nI_1, ite10]
      rw [Int32.zero_add, chk_n (by omega) (by decide), ix_n (by omega), (ht.2 j (by omega)).1, show gi σ 33 j = gi τ 1 j from hn.1.1.1 j hj]
      by_cases q : inR (nI j) 0 11 ∧ hb (gi τ 1 145) (nI j)
      · rw [if_pos q]
      · rw [if_neg q]
        have hz : gi τ 1 j = 0 := hn.2.2 j hj (Bool.eq_false_iff.mpr (fun w => q ⟨inR_of (a := 0) (b := 11) (by omega) (by omega) (by decide), (hb_iff _ (by omega)).mpr w⟩))
        rw [hz]
    show ∃ r, st_X9_check_27 N (nI x) 2 (itr _ _ M) (nI j) σ = some (r, σ) ∧ st_X10_check_28 N (nI x) (itr _ _ M') (nI j) τ = some (r, τ)
    rw [e1, e2, i1, i2]
    by_cases q : gi σ 2 j = gi σ 33 j
    · rw [if_pos q, if_pos q]
      exact ⟨r, rfl, rfl⟩
    · rw [if_neg q, if_neg q]
      exact ⟨_, rfl, rfl⟩
theorem Rn.fr {σ τ σ' τ' : Mem} (h : Rn σ τ) (h1 : ∀ c i, Bc 32 c i → gi σ' c i = gi σ c i) (h2 : ∀ i, i < 151 → gi τ' 1 i = gi τ 1 i) : Rn σ' τ' := by
  refine ⟨h.1.fr h1 (fun i hi _ => h2 i hi), h.2.1.fr (fun i hi _ => h2 i hi), ?_⟩
  rw [h2 145 (by omega)]
  exact h.2.2.fr (fun i hi => h2 i (by omega))
theorem s_check (N : Nat) (hN : 20 ≤ N) {σ τ : Mem} (ht : Rt σ τ) (hp : Rp σ τ) (hn : Rn σ τ) (x1 : Int32) : ∃ r σ' τ', f_X9_check N x1 σ = some (r, σ') ∧ f_X10_check N x1 τ = some (r, τ') ∧ Rt σ' τ' := by
  unfold f_X9_check f_X10_check
  simp only [e_tapeHas, e_in, bd_some, ite10, e_take, lt_e, show isAr 2 = true from rfl, ckc_t]
  obtain ⟨⟨t, ht2, a, b⟩, c⟩ := id ht
  rw [a, b]
  by_cases h1 : inR x1 0 12
  · by_cases h2 : x1 ≤ nI t
    · rw [if_pos ⟨h1, h2⟩, if_pos h1, if_pos h2]
      obtain ⟨x, -, hx, rfl⟩ := inR_n (a := 0) (b := 12) rfl rfl (by decide) (by decide) h1
      have hp' : Rp (si σ 1 1 0) (si τ 0 5 0) := hp.fr (gi_ne (by decide)) (fun p q _ _ => gi_ne (by omega)) (gi_ne (by decide)) (fun j _ => gi_ne (by decide))
      have hn' : Rn (si σ 1 1 0) (si τ 0 5 0) := hn.fr (fun c i hc => gi_ne (by unfold Bc at hc; omega)) (fun i _ => gi_ne (by decide))
      obtain ⟨r, e1, e2⟩ := lp_check N ht.take hp' hn' hx x 0 N N (by omega) (by omega) (by omega)
      rw [← nI_0] at *
      exact ⟨r, _, _, e1, e2, ht.take⟩
    · rw [if_neg (fun q => h2 q.2), if_pos h1, if_neg h2]
      exact ⟨-2, _, _, rfl, rfl, ht⟩
  · rw [if_neg (fun q => h1 q.1), if_neg h1]
    exact ⟨-2, _, _, rfl, rfl, ht⟩
theorem bt_inj {x y : Int32} (hx : Bt x) (hy : Bt y) : x &&& 255 = y &&& 255 ↔ x = y := by
  constructor
  · intro h
    obtain ⟨n, hn, e⟩ := pk_andE y (m := 255) 8 (by decide)
    have h1 := (sc_eq hx hn).mpr (h.trans e)
    have h2 := (sc_eq hy hn).mpr e
    rw [h1, h2]
  · intro h
    rw [h]
theorem e_written (N : Nat) {k : Nat} (hk : k < 6) {n : Nat} {s : Mem} (h : gi s 119 k = nI n) (hn : n ≤ 40) : f_X1_isWritten N (nI k) s = some (if 0 < n then 1 else 0, s) := by
  unfold f_X1_isWritten
  rw [e_isLetterC, bd_some, ite10, if_pos (show inR (nI k) 0 5 from inR_of (a := 0) (b := 5) (by omega) (by omega) (by decide)), chk_n hk (by decide), ix_n (by omega), h, ite_some]
  by_cases q : 0 < n
  · rw [if_pos q, if_neg (nI_nle q (by omega))]
  · rw [if_neg q, if_pos (by rw [show n = 0 by omega]; decide)]
theorem lp_part (N : Nat) {σ τ : Mem} (hx : Rx σ τ) {k k' m m' v : Nat} (hk : k < 6) (hk' : k' < 6) (hm : gi σ 119 k = nI m ∧ gi τ 34 k = nI m ∧ m ≤ 40) (hm' : gi σ 119 k' = nI m' ∧ gi τ 34 k' = nI m' ∧ m' ≤ 40) (hv : v ≤ m ∧ v ≤ m') (hc : ∀ j, j < m → gi σ (113 + k) j = gi τ 33 (40 * k + j) &&& 255) (hc' : ∀ j, j < m' → gi σ (113 + k') j = gi τ 33 (40 * k' + j) &&& 255) (K K' : Mem → Option (Int32 × Mem)) (r0 : Int32) (hK : K σ = some (r0, σ)) (hK' : K' τ = some (r0, τ)) : ∀ (n j M M' : Nat), j + n = v → n < M → n < M' → ∃ r, itr (fun _ _ => none) (st_X1_partAt_19 N (nI k) (nI k') (nI v) K) M (nI j) σ = some (r, σ) ∧ itr (fun _ _ => none) (st_X10_misspelt_60 N (nI k) (nI k') (nI v) K') M' (nI j) τ = some (r, τ)
  | n, j, 0, M', _, h, _ => absurd h (by omega)
  | n, j, M + 1, 0, _, _, h => absurd h (by omega)
  | 0, j, M + 1, M' + 1, h, _, _ => by
    rw [show j = v by omega]
    refine ⟨r0, ?_, ?_⟩
    · show st_X1_partAt_19 N (nI k) (nI k') (nI v) K _ (nI v) σ = _
      unfold st_X1_partAt_19
      rw [if_pos (nI_le (by omega) (by omega))]
      exact hK
    · show st_X10_misspelt_60 N (nI k) (nI k') (nI v) K' _ (nI v) τ = _
      unfold st_X10_misspelt_60
      rw [if_pos (nI_le (by omega) (by omega))]
      exact hK'
  | n + 1, j, M + 1, M' + 1, h, h1, h2 => by
    obtain ⟨r, i1, i2⟩ := lp_part N hx hk hk' hm hm' hv hc hc' K K' r0 hK hK' n (j + 1) M M' (by omega) (by omega) (by omega)
    have e1 : ∀ rec : Int32 → Mem → Option (Int32 × Mem), st_X1_partAt_19 N (nI k) (nI k') (nI v) K rec (nI j) σ = if gi τ 33 (40 * k + j) = gi τ 33 (40 * k' + j) then rec (nI (j + 1)) σ else some (nI j, σ) := by
      intro rec
      unfold st_X1_partAt_19
      rw [if_neg (nI_ge (by omega) (by omega)), if_neg (by rw [li_40]; exact nI_ge (by omega) (by decide)), chk_n hk (by decide), chk_n (by omega) (by decide), chk_n hk' (by decide), chk_n (by omega) (by decide), ix_n (by omega), ix_n (by omega), ix_n (by omega)]
      simp only [lt_e, nI_1]
      rw [show 112 + 1 + k = 113 + k by omega, show 112 + 1 + k' = 113 + k' by omega, hc j (by omega), hc' j (by omega)]
      by_cases q : gi τ 33 (40 * k + j) = gi τ 33 (40 * k' + j)
      · rw [if_pos q, if_pos (by rw [q])]
      · rw [if_neg q, if_neg (fun w => q ((bt_inj (hx.2 _ (by omega)) (hx.2 _ (by omega))).mp w))]
    have e2 : ∀ rec : Int32 → Mem → Option (Int32 × Mem), st_X10_misspelt_60 N (nI k) (nI k') (nI v) K' rec (nI j) τ = if gi τ 33 (40 * k + j) = gi τ 33 (40 * k' + j) then rec (nI (j + 1)) τ else some (nI j, τ) := by
      intro rec
      unfold st_X10_misspelt_60
      rw [if_neg (nI_ge (by omega) (by omega)), li_40, pk_mul, pk_mul, nI_add, nI_add, chk_n (by omega) (by decide), chk_n (by omega) (by decide), ix_n (by omega), ix_n (by omega)]
      simp only [lt_e, nI_1]
    show ∃ r, st_X1_partAt_19 N (nI k) (nI k') (nI v) K (itr _ _ M) (nI j) σ = some (r, σ) ∧ st_X10_misspelt_60 N (nI k) (nI k') (nI v) K' (itr _ _ M') (nI j) τ = some (r, τ)
    rw [e1, e2, i1, i2]
    by_cases q : gi τ 33 (40 * k + j) = gi τ 33 (40 * k' + j)
    · rw [if_pos q, if_pos q]
      exact ⟨r, rfl, rfl⟩
    · rw [if_neg q, if_neg q]
      exact ⟨_, rfl, rfl⟩
theorem e_iminN (a b : Nat) (ha : a < 2 ^ 31) (hb : b < 2 ^ 31) : imin (nI a) (nI b) = nI (min a b) := by
  unfold imin
  by_cases h : b < a
  · rw [if_pos (nI_lt h ha), show min a b = b by omega]
  · rw [if_neg (nI_nlt (by omega) hb), show min a b = a by omega]
theorem e_minM (N : Nat) (a b : Nat) (ha : a < 2 ^ 31) (hb : b < 2 ^ 31) (s : Mem) : f_X10_min N (nI a) (nI b) s = some (nI (min a b), s) := by
  unfold f_X10_min
  by_cases h : b ≤ a
  · rw [if_pos (nI_le h ha), show min a b = b by omega]
  · rw [if_neg (nI_ge (by omega) hb), show min a b = a by omega]
theorem s_misspelt (N : Nat) (hN : 50 ≤ N) {σ τ : Mem} (hx : Rx σ τ) (x1 x2 : Int32) : ∃ r, f_X9_misspelt N x1 x2 σ = some (r, σ) ∧ f_X10_misspelt N x1 x2 τ = some (r, τ) := by
  unfold f_X9_misspelt f_X10_misspelt
  simp only [e_isLetterC, e_in, bd_some, ite10]
  by_cases h1 : inR x1 0 5
  · by_cases h2 : inR x2 0 5
    · rw [if_pos h1, if_pos h2, if_pos h1, if_pos h2]
      obtain ⟨k, -, hk, rfl⟩ := inR_n (a := 0) (b := 5) rfl rfl (by decide) (by decide) h1
      obtain ⟨k', -, hk', rfl⟩ := inR_n (a := 0) (b := 5) rfl rfl (by decide) (by decide) h2
      obtain ⟨m, m1, m2, m3, m4⟩ := hx.1 k (by omega)
      obtain ⟨m', m1', m2', m3', m4'⟩ := hx.1 k' (by omega)
      rw [e_written N (by omega) m2 m1, bd_some, ite10, e_written N (by omega) m2' m1', bd_some, ite10, chk_n (by omega) (by decide), chk_n (by omega) (by decide), ix_n (by omega), ix_n (by omega), m3, m3']
      by_cases q : 0 < m
      · rw [if_pos q, if_neg (nI_ne0 q (by omega))]
        by_cases q' : 0 < m'
        · rw [if_pos q', if_neg (nI_ne0 q' (by omega)), e_minM N _ _ (by omega) (by omega), bd_some]
          unfold f_X1_partAt
          rw [chk_n (by omega) (by decide), chk_n (by omega) (by decide), ix_n (by omega), ix_n (by omega), m2, m2', e_iminN _ _ (by omega) (by omega), lt_e, ← nI_0]
          obtain ⟨r, e1, e2⟩ := lp_part N hx (k := k) (k' := k') (by omega) (by omega) ⟨m2, m3, m1⟩ ⟨m2', m3', m1'⟩ (v := min m m') ⟨by omega, by omega⟩ m4 m4' (fun s5 => chk (nI k) 6 (chk (nI k') 6 (if gi s5 119 k = gi s5 119 k' then some (-2, s5) else some (nI (min m m'), s5)))) (fun s8 => chk (nI k) 7 (chk (nI k') 7 (if gi s8 34 k = gi s8 34 k' then some (-2, s8) else some (nI (min m m'), s8)))) (if nI m = nI m' then -2 else nI (min m m')) (by
              show chk (nI k) 6 (chk (nI k') 6 (if gi σ 119 k = gi σ 119 k' then some (-2, σ) else some (nI (min m m'), σ))) = _
              rw [chk_n (by omega) (by decide), chk_n (by omega) (by decide), m2, m2', ite_some]) (by
              show chk (nI k) 7 (chk (nI k') 7 (if gi τ 34 k = gi τ 34 k' then some (-2, τ) else some (nI (min m m'), τ))) = _
              rw [chk_n (by omega) (by decide), chk_n (by omega) (by decide), m3, m3', ite_some]) (min m m') 0 N N (by omega) (by omega) (by omega)
          refine ⟨r, ?_, ?_⟩
          · rw [e1, bd_some]
          · rw [chk_n (by omega) (by decide), chk_n (by omega) (by decide)]
            exact e2
        · rw [if_neg q', if_pos (by rw [show m' = 0 by omega]; rfl)]
          exact ⟨_, rfl, rfl⟩
      · rw [if_neg q, if_pos (by rw [show m = 0 by omega]; rfl)]
        exact ⟨_, rfl, rfl⟩
    · rw [if_pos h1, if_neg h2, if_pos h1, if_neg h2]
      exact ⟨_, rfl, rfl⟩
  · rw [if_neg h1, if_neg h1]
    exact ⟨_, rfl, rfl⟩
theorem lp_winner (N : Nat) {σ τ : Mem} (ht : Rt σ τ) {x : Nat} (hx : x ≤ 12) (x2 x3 : Int32) (K : Int32 → Mem → Option (Int32 × Mem)) : ∀ (n j b M M' : Nat), j + n = x → b < 12 → n < M → n < M' → ∃ b', b' < 12 ∧ itr (fun _ _ _ => none) (st_X5_winner_5 N 2 (nI x)) M (nI b) (nI j) σ = some (nI b', σ) ∧ itr (fun _ _ _ => none) (st_X10_bids_51 N (nI x) x2 x3 K) M' (nI b) (nI j) τ = K (nI b') τ
  | n, j, b, 0, M', _, _, h, _ => absurd h (by omega)
  | n, j, b, M + 1, 0, _, _, _, h => absurd h (by omega)
  | 0, j, b, M + 1, M' + 1, h, hb, _, _ => by
    rw [show j = x by omega]
    refine ⟨b, hb, ?_, ?_⟩
    · show st_X5_winner_5 N 2 (nI x) _ (nI b) (nI x) σ = _
      unfold st_X5_winner_5
      rw [if_pos (nI_le (by omega) (by omega))]
    · show st_X10_bids_51 N (nI x) x2 x3 K _ (nI b) (nI x) τ = _
      unfold st_X10_bids_51
      rw [if_pos (nI_le (by omega) (by omega))]
  | n + 1, j, b, M + 1, M' + 1, h, hb, h1, h2 => by
    have hj : j < 12 := by omega
    have e1 : ∀ rec : Int32 → Int32 → Mem → Option (Int32 × Mem), st_X5_winner_5 N 2 (nI x) rec (nI b) (nI j) σ = if gi σ 2 j ≤ gi σ 2 b then rec (nI b) (nI (j + 1)) σ else rec (nI j) (nI (j + 1)) σ := by
      intro rec
      unfold st_X5_winner_5
      rw [if_neg (nI_ge (by omega) (by omega)), if_neg (by rw [li_12]; exact nI_ge hj (by decide)), if_neg (nI_pos (by omega)), show lenC 2 = 260 from rfl, chk_n (by omega) (by decide), chk_n (by omega) (by decide), ix_n (by omega), ix_n (by omega)]
      simp only [lt_e, nI_1]
    have e2 : ∀ rec : Int32 → Int32 → Mem → Option (Int32 × Mem), st_X10_bids_51 N (nI x) x2 x3 K rec (nI b) (nI j) τ = if gi σ 2 j ≤ gi σ 2 b then rec (nI b) (nI (j + 1)) τ else rec (nI j) (nI (j + 1)) τ := by
      intro rec
      unfold st_X10_bids_51
      rw [if_neg (nI_ge (by omega) (by omega)), e_octet N (by omega), bd_some, e_octet N (by omega), bd_some, (ht.2 j (by omega)).1, (ht.2 b (by omega)).1]
      simp only [lt_e, nI_1]
    show ∃ b', b' < 12 ∧ st_X5_winner_5 N 2 (nI x) (itr _ _ M) (nI b) (nI j) σ = some (nI b', σ) ∧ st_X10_bids_51 N (nI x) x2 x3 K (itr _ _ M') (nI b) (nI j) τ = K (nI b') τ
    rw [e1, e2]
    by_cases q : gi σ 2 j ≤ gi σ 2 b
    · rw [if_pos q, if_pos q]
      exact lp_winner N ht hx x2 x3 K n (j + 1) b M M' (by omega) hb (by omega) (by omega)
    · rw [if_neg q, if_neg q]
      exact lp_winner N ht hx x2 x3 K n (j + 1) j M M' (by omega) hj (by omega) (by omega)
theorem e_maxM (N : Nat) (a b : Int32) (s : Mem) : f_X10_max N a b s = some (imax a b, s) := by
  unfold f_X10_max imax
  by_cases h : a < b
  · rw [if_pos h, if_pos (Int32.le_of_lt h)]
  · rw [if_neg h]
    by_cases h2 : a ≤ b
    · rw [if_pos h2, Int32.le_antisymm h2 (Int32.not_lt.mp h)]
    · rw [if_neg h2]
theorem lp_price (N : Nat) {σ τ : Mem} (ht : Rt σ τ) {x w : Nat} (hx : x ≤ 12) (hw : w < 12) (x3 : Int32) (K : Int32 → Mem → Option (Int32 × Mem)) : ∀ (n j M M' : Nat) (v : Int32), j + n = x → n < M → n < M' → ∃ v', itr (fun _ _ _ => none) (st_X5_price_7 N 2 (nI x) (nI w)) M v (nI j) σ = some (v', σ) ∧ itr (fun _ _ _ => none) (st_X10_bids_101 N (nI x) x3 (nI w) K) M' v (nI j) τ = K v' τ
  | n, j, 0, M', v, _, h, _ => absurd h (by omega)
  | n, j, M + 1, 0, v, _, _, h => absurd h (by omega)
  | 0, j, M + 1, M' + 1, v, h, _, _ => by
    rw [show j = x by omega]
    refine ⟨v, ?_, ?_⟩
    · show st_X5_price_7 N 2 (nI x) (nI w) _ v (nI x) σ = _
      unfold st_X5_price_7
      rw [if_pos (nI_le (by omega) (by omega))]
    · show st_X10_bids_101 N (nI x) x3 (nI w) K _ v (nI x) τ = _
      unfold st_X10_bids_101
      rw [if_pos (nI_le (by omega) (by omega))]
  | n + 1, j, M + 1, M' + 1, v, h, h1, h2 => by
    have hj : j < 12 := by omega
    have e1 : ∀ rec : Int32 → Int32 → Mem → Option (Int32 × Mem), st_X5_price_7 N 2 (nI x) (nI w) rec v (nI j) σ = rec (if nI j = nI w then v else imax v (gi σ 2 j)) (nI (j + 1)) σ := by
      intro rec
      unfold st_X5_price_7
      rw [if_neg (nI_ge (by omega) (by omega)), if_neg (by rw [li_12]; exact nI_ge hj (by decide)), show lenC 2 = 260 from rfl, chk_n (by omega) (by decide), ix_n (by omega)]
      simp only [lt_e, nI_1]
      by_cases q : nI j = nI w
      · rw [if_pos q, if_pos q]
      · rw [if_neg q, if_neg q]
    have e2 : ∀ rec : Int32 → Int32 → Mem → Option (Int32 × Mem), st_X10_bids_101 N (nI x) x3 (nI w) K rec v (nI j) τ = rec (if nI j = nI w then v else imax v (gi σ 2 j)) (nI (j + 1)) τ := by
      intro rec
      unfold st_X10_bids_101
      rw [if_neg (nI_ge (by omega) (by omega)), e_octet N (by omega), bd_some, e_maxM, bd_some, (ht.2 j (by omega)).1]
      simp only [lt_e, nI_1]
      by_cases q : nI j = nI w
      · rw [if_pos q, if_pos q]
      · rw [if_neg q, if_neg q]
    show ∃ v', st_X5_price_7 N 2 (nI x) (nI w) (itr _ _ M) v (nI j) σ = some (v', σ) ∧ st_X10_bids_101 N (nI x) x3 (nI w) K (itr _ _ M') v (nI j) τ = K v' τ
    rw [e1, e2]
    exact lp_price N ht hx hw x3 K n (j + 1) M M' _ (by omega) (by omega) (by omega)
theorem s_bids (N : Nat) (hN : 20 ≤ N) {σ τ : Mem} (ht : Rt σ τ) (x1 x2 x3 : Int32) : ∃ r σ' τ', f_X9_bids N x1 x2 x3 σ = some (r, σ') ∧ f_X10_bids N x1 x2 x3 τ = some (r, τ') ∧ Rt σ' τ' := by
  unfold f_X9_bids f_X10_bids
  simp only [e_within, e_in, bd_some, ite10, e_tapeHas, e_take, lt_e, show isAr 2 = true from rfl, ckc_t]
  obtain ⟨⟨t, ht2, a, b⟩, c⟩ := id ht
  rw [a, b]
  by_cases h1 : inR x1 1 12
  · rw [if_pos h1]
    by_cases h2 : inR x2 0 255
    · rw [if_pos h2, if_pos h2]
      by_cases h3 : inR x3 0 1
      · rw [if_pos h3, if_pos h3]
        by_cases h4 : x1 ≤ nI t
        · rw [if_pos ⟨h1, h4⟩, if_pos h4]
          obtain ⟨x, hx1, hx, rfl⟩ := inR_n (a := 1) (b := 12) rfl rfl (by decide) (by decide) h1
          have ht' := ht.take
          generalize si σ 1 1 0 = σ1 at ht' ⊢
          generalize si τ 0 5 0 = τ1 at ht' ⊢
          obtain ⟨M, rfl⟩ : ∃ M, N = M + 1 := ⟨N - 1, by omega⟩
          obtain ⟨w, hw, e1, e2⟩ := lp_winner (M + 1) ht' hx x2 x3 (fun (x4_15 : Int32) (s14 : Mem) => bd (f_X10_octet (M + 1) x4_15 s14) (fun r17 s16 => if x2 ≤ r17 then (itr (fun _ _ _ => none) (st_X10_bids_101 (M + 1) (nI x) x3 x4_15 (fun (x5_25 : Int32) (s24 : Mem) => if x3 = nI 0 then (some (x4_15, s24)) else some (x5_25, s24))) (M + 1) x2 (nI 0) s16) else some ((-2), s16))) (x - 1) 1 0 M (M + 1) (by omega) (by omega) (by omega) (by omega)
          have e0 : f_X5_winner (M + 1) 2 (nI x) σ1 = some (nI w, σ1) := by
            unfold f_X5_winner
            show st_X5_winner_5 (M + 1) 2 (nI x) (itr _ _ M) (-1) (nI 0) σ1 = _
            rw [← e1]
            generalize itr _ (st_X5_winner_5 (M + 1) 2 (nI x)) M = rec
            unfold st_X5_winner_5
            rw [if_neg (nI_ge (by omega) (by omega)), if_neg (by decide), if_pos (by decide), lt_e, nI_1]
          rw [e0, bd_some, if_neg (nI_pos (by omega)), show lenC 2 = 260 from rfl, chk_n (by omega) (by decide), ix_n (by omega), li_1, show (0 : Int32) = nI 0 from rfl, e2, e_octet _ (by omega), bd_some, ← (ht'.2 w (by omega)).1]
          by_cases h5 : x2 ≤ gi σ1 2 w
          · rw [if_pos h5, if_pos h5]
            obtain ⟨v, p1, p2⟩ := lp_price (M + 1) ht' hx hw x3 (fun (x5_25 : Int32) (s24 : Mem) => if x3 = nI 0 then (some (nI w, s24)) else some (x5_25, s24)) x 0 (M + 1) (M + 1) x2 (by omega) (by omega) (by omega)
            rw [p2]
            unfold f_X5_price
            rw [show (0 : Int32) = nI 0 from rfl, p1, bd_some]
            by_cases h6 : x3 = nI 0
            · rw [if_pos h6, if_pos h6]
              exact ⟨_, _, _, rfl, rfl, ht'⟩
            · rw [if_neg h6, if_neg h6]
              exact ⟨_, _, _, rfl, rfl, ht'⟩
          · rw [if_neg h5, if_neg h5]
            exact ⟨_, _, _, rfl, rfl, ht'⟩
        · rw [if_neg (fun q => h4 q.2), if_neg h4]
          exact ⟨-1, _, _, rfl, rfl, ht⟩
      · rw [if_neg h3, if_neg h3]
        exact ⟨-1, _, _, rfl, rfl, ht⟩
    · rw [if_neg h2, if_neg h2]
      exact ⟨-1, _, _, rfl, rfl, ht⟩
  · rw [if_neg h1]
    have h1' : ¬ (inR x1 1 12 ∧ x1 ≤ nI t) := fun q => h1 q.1
    refine ⟨-1, σ, τ, ?_, rfl, ht⟩
    rw [if_neg h1']
    by_cases h2 : inR x2 0 255
    · by_cases h3 : inR x3 0 1
      · rw [if_pos h2, if_pos h3]
      · rw [if_pos h2, if_neg h3]
    · rw [if_neg h2]
