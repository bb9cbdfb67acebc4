/-! coins: greatest first; the reference's rows; coins -/
theorem lp_gw (N : Nat) {n v : Nat} (hn : n ≤ 6) (hv : v ≤ 999) (d : Nat → Nat) (s : Mem) (h4 : gi s 122 4 = nI n) (hd : ∀ j, j < n → gi s 126 j = nI (d j) ∧ d j ≤ 255) : ∀ (m j M : Nat), j + m = n → m < M → itr (fun _ _ _ => none) (st_X5_greatestWithin_4 N (nI v)) M (nI (gmx d v j)) (nI j) s = some (nI (gmx d v n), s)
  | m, j, 0, _, h => absurd h (by omega)
  | 0, j, M + 1, h, _ => by
    rw [show j = n by omega]
    show st_X5_greatestWithin_4 N (nI v) _ _ (nI n) s = _
    unfold st_X5_greatestWithin_4
    rw [h4, if_pos (nI_le (Nat.le_refl n) (by omega))]
  | m + 1, j, M + 1, h, h0 => by
    have ih := lp_gw N hn hv d s h4 hd m (j + 1) M (by omega) (by omega)
    show st_X5_greatestWithin_4 N (nI v) (itr _ _ M) _ (nI j) s = _
    generalize itr (fun _ _ _ => none) (st_X5_greatestWithin_4 N (nI v)) M = rec at ih ⊢
    obtain ⟨d1, d2⟩ := hd j (by omega)
    have g := gmx_le d v j
    rw [← ih, gmx_s]
    unfold st_X5_greatestWithin_4
    rw [h4, if_neg (nI_ge (by omega) (by omega)), chk_n (by omega) (by decide), ix_n (by omega), d1]
    simp only [lt_e, nI_1]
    by_cases q : v < d j
    · rw [if_pos (nI_lt q (by omega)), if_pos q]
    · rw [if_neg (nI_nlt (by omega) (by omega)), if_neg q, chk_n (by omega) (by decide), e_imaxN _ _ (by omega) (by omega)]
theorem lp_bg15 (N : Nat) {x v : Nat} (hx : x ≤ 6) (hv : v ≤ 999) (x4 : Int32) (c : Nat → Nat) (hc : ∀ j, j < x → c j ≤ 255) (s : Mem) (h5 : ∀ j, j < x → gi s 5 j &&& 255 = nI (c j)) (K : Int32 → Mem → Option (Int32 × Mem)) : ∀ (m j M : Nat), j + m = x → m < M → itr (fun _ _ _ => none) (st_X10_byGreatest_15 N (nI x) (nI v) x4 K) M (nI (gmx c v j)) (nI j) s = K (nI (gmx c v x)) s
  | m, j, 0, _, h => absurd h (by omega)
  | 0, j, M + 1, h, _ => by
    rw [show j = x by omega]
    show st_X10_byGreatest_15 N (nI x) (nI v) x4 K _ _ (nI x) s = _
    unfold st_X10_byGreatest_15
    rw [if_pos (nI_le (Nat.le_refl x) (by omega))]
  | m + 1, j, M + 1, h, h0 => by
    have ih := lp_bg15 N hx hv x4 c hc s h5 K m (j + 1) M (by omega) (by omega)
    show st_X10_byGreatest_15 N (nI x) (nI v) x4 K (itr _ _ M) _ (nI j) s = _
    generalize itr (fun _ _ _ => none) (st_X10_byGreatest_15 N (nI x) (nI v) x4 K) M = rec at ih ⊢
    have d2 := hc j (by omega)
    have g := gmx_le c v j
    rw [← ih, gmx_s]
    unfold st_X10_byGreatest_15
    rw [if_neg (nI_ge (by omega) (by omega)), e_octet N (by omega), bd_some, h5 j (by omega)]
    simp only [lt_e, nI_1]
    by_cases q : v < c j
    · rw [if_pos (nI_lt q (by omega)), if_pos q]
    · rw [if_neg (nI_nlt (by omega) (by omega)), if_neg q, e_octet N (by omega), bd_some, e_maxM, bd_some, h5 j (by omega), e_imaxN _ _ (by omega) (by omega)]
/-- one coin after the other down to the rest -/
theorem lp_bg5 (N : Nat) (hN : 20 ≤ N) {x m r : Nat} (hx : x ≤ 6) (hm : 0 < m) (hr : r < m) (c : Nat → Nat) (hc : ∀ j, j < x → c j ≤ 255) (s : Mem) (h5 : ∀ j, j < x → gi s 5 j &&& 255 = nI (c j)) : ∀ (q k M : Nat), q * m + r ≤ 999 → (∀ q', 0 < q' → q' ≤ q → gmx c (q' * m + r) x = m) → itr (fun _ _ _ => none) (st_X10_byGreatest_5 N (nI x)) (M + q) (nI (q * m + r)) (nI k) s = itr (fun _ _ _ => none) (st_X10_byGreatest_5 N (nI x)) M (nI r) (nI (k + q)) s
  | 0, k, M, _, _ => by rw [Nat.zero_mul, Nat.zero_add, Nat.add_zero, Nat.add_zero]
  | q + 1, k, M, h1, h2 => by
    have ih := lp_bg5 N hN hx hm hr c hc s h5 q (k + 1) M (by rw [Nat.succ_mul] at h1; omega) (fun q' a b => h2 q' a (by omega))
    rw [show k + (q + 1) = k + 1 + q by omega, ← ih]
    show st_X10_byGreatest_5 N (nI x) (itr _ _ (M + q)) (nI ((q + 1) * m + r)) (nI k) s = _
    generalize itr (fun _ _ _ => none) (st_X10_byGreatest_5 N (nI x)) (M + q) = rec
    have e := h2 (q + 1) (by omega) (Nat.le_refl _)
    have hv : 0 < (q + 1) * m + r := by rw [Nat.succ_mul]; omega
    have e15 := lp_bg15 N hx h1 (nI k) c hc s h5 (fun (x5_10 : Int32) (s9 : Mem) => if x5_10 = 0 then (some ((-2), s9)) else lt (nI ((q + 1) * m + r) - x5_10) (fun v11 => lt (nI k + 1) (fun v12 => rec v11 v12 s9))) x 0 N (by omega) (by omega)
    unfold st_X10_byGreatest_5
    rw [if_neg (nI_nle hv (by omega))]
    refine e15.trans ?_
    rw [e]
    show (if nI m = 0 then _ else _) = _
    have hle : m ≤ (q + 1) * m + r := by rw [Nat.succ_mul]; omega
    rw [if_neg (nI_ne0 hm (by omega))]
    simp only [lt_e, nI_1]
    rw [pk_sub hle, show (q + 1) * m + r - m = q * m + r by rw [Nat.succ_mul]; omega]
theorem lp_gf (N : Nat) (hN : 20 ≤ N) {x n : Nat} (hx : x ≤ 6) (hn : n ≤ 6) (c d : Nat → Nat) (hc : ∀ j, j < x → c j ≤ 255) (hg : ∀ v, gmx d v n = gmx c v x) (s t : Mem) (h5 : ∀ j, j < x → gi t 5 j &&& 255 = nI (c j)) (h4 : gi s 122 4 = nI n) (hd : ∀ j, j < n → gi s 126 j = nI (d j) ∧ d j ≤ 255) : ∀ (m r v k M M' : Nat), r + m = 6 → m < M → v < M' → v ≤ 999 → lec d v n ≤ m → ∃ w, itr (fun _ _ _ _ => none) (st_X5_greatestFirst_7 N (fun (x2_7 : Int32) (x3_8 : Int32) (s6 : Mem) => if x2_7 = 0 then (some (x3_8, s6)) else some ((-2), s6))) M (nI v) (nI k) (nI r) s = some (w, s) ∧ itr (fun _ _ _ => none) (st_X10_byGreatest_5 N (nI x)) M' (nI v) (nI k) t = some (w, t)
  | m, r, v, k, 0, M', _, h, _, _, _ => absurd h (by omega)
  | m, r, v, k, M + 1, 0, _, _, h, _, _ => absurd h (by omega)
  | m, r, 0, k, M + 1, M' + 1, h, h1, h2, h3, h6 => by
    refine ⟨nI k, ?_, ?_⟩
    · show st_X5_greatestFirst_7 N _ _ (nI 0) (nI k) (nI r) s = _
      unfold st_X5_greatestFirst_7
      by_cases q : r = 6
      · rw [q, if_pos (by decide)]; rfl
      · rw [if_neg (by rw [li_6]; exact nI_ge (by omega) (by decide)), if_pos (by decide)]; rfl
    · show st_X10_byGreatest_5 N (nI x) _ (nI 0) (nI k) t = _
      unfold st_X10_byGreatest_5
      rw [if_pos (by decide)]
  | 0, r, v + 1, k, M + 1, M' + 1, h, h1, h2, h3, h6 => by
    have g0 : gmx c (v + 1) x = 0 := by rw [← hg]; exact lec_0 (by omega)
    refine ⟨-2, ?_, ?_⟩
    · show st_X5_greatestFirst_7 N _ _ (nI (v + 1)) (nI k) (nI r) s = _
      unfold st_X5_greatestFirst_7
      rw [show r = 6 by omega, if_pos (by decide)]
      show (if nI (v + 1) = 0 then _ else _) = _
      rw [if_neg (nI_ne0 (by omega) (by omega))]
    · show st_X10_byGreatest_5 N (nI x) (itr _ _ M') (nI (v + 1)) (nI k) t = _
      generalize itr (fun _ _ _ => none) (st_X10_byGreatest_5 N (nI x)) M' = rec
      have e15 := lp_bg15 N hx h3 (nI k) c hc t h5 (fun (x5_10 : Int32) (s9 : Mem) => if x5_10 = 0 then (some ((-2), s9)) else lt (nI (v + 1) - x5_10) (fun v11 => lt (nI k + 1) (fun v12 => rec v11 v12 s9))) x 0 N (by omega) (by omega)
      unfold st_X10_byGreatest_5
      rw [if_neg (nI_nle (by omega) (by omega))]
      refine e15.trans ?_
      rw [g0]
      rfl
  | m + 1, r, v + 1, k, M + 1, M' + 1, h, h1, h2, h3, h6 => by
    have hgd : f_X5_greatestWithin N (nI (v + 1)) s = some (nI (gmx c (v + 1) x), s) := by
      rw [← hg]
      exact lp_gw N hn h3 d s h4 hd n 0 N (by omega) (by omega)
    by_cases g0 : gmx c (v + 1) x = 0
    · refine ⟨-2, ?_, ?_⟩
      · show st_X5_greatestFirst_7 N _ _ (nI (v + 1)) (nI k) (nI r) s = _
        unfold st_X5_greatestFirst_7
        rw [if_neg (by rw [li_6]; exact nI_ge (by omega) (by decide)), if_neg (nI_nle (by omega) (by omega)), hgd, bd_some, g0, if_pos nI_0]
      · show st_X10_byGreatest_5 N (nI x) (itr _ _ M') (nI (v + 1)) (nI k) t = _
        generalize itr (fun _ _ _ => none) (st_X10_byGreatest_5 N (nI x)) M' = rec
        have e15 := lp_bg15 N hx h3 (nI k) c hc t h5 (fun (x5_10 : Int32) (s9 : Mem) => if x5_10 = 0 then (some ((-2), s9)) else lt (nI (v + 1) - x5_10) (fun v11 => lt (nI k + 1) (fun v12 => rec v11 v12 s9))) x 0 N (by omega) (by omega)
        unfold st_X10_byGreatest_5
        rw [if_neg (nI_nle (by omega) (by omega))]
        refine e15.trans ?_
        rw [g0]
        rfl
    · generalize hgm : gmx c (v + 1) x = g at *
      have hgv : g ≤ v + 1 := by rw [← hgm]; exact gmx_le _ _ _
      have hmod := Nat.mod_lt (v + 1) (show 0 < g by omega)
      have hdm := Nat.div_add_mod (v + 1) g
      rw [Nat.mul_comm] at hdm
      have hq : 0 < (v + 1) / g := Nat.div_pos hgv (by omega)
      have hqle : (v + 1) / g ≤ (v + 1) / g * g := Nat.le_mul_of_pos_right _ (by omega)
      have hlec : lec d ((v + 1) % g) n ≤ m := by
        have : gmx d (v + 1) n = g := by rw [hg]; exact hgm
        rcases gmx_mem d (v + 1) n with z | ⟨j, j1, j2, j3⟩
        · omega
        · have := lec_drop d (show (v + 1) % g ≤ v + 1 by omega) n j j1 (by omega) j2
          omega
      obtain ⟨w, i1, i2⟩ := lp_gf N hN hx hn c d hc hg s t h5 h4 hd m (r + 1) ((v + 1) % g) (k + (v + 1) / g) M (M' + 1 - (v + 1) / g) (by omega) (by omega) (by omega) (by omega) hlec
      refine ⟨w, ?_, ?_⟩
      · rw [← i1]
        generalize hK : (fun (x2_7 : Int32) (x3_8 : Int32) (s6 : Mem) => if x2_7 = 0 then (some (x3_8, s6)) else some ((-2), s6)) = K
        show st_X5_greatestFirst_7 N K (itr _ _ M) (nI (v + 1)) (nI k) (nI r) s = _
        generalize itr (fun _ _ _ _ => none) (st_X5_greatestFirst_7 N K) M = rec
        unfold st_X5_greatestFirst_7
        rw [if_neg (by rw [li_6]; exact nI_ge (by omega) (by decide)), if_neg (nI_nle (by omega) (by omega)), hgd, bd_some, if_neg (nI_ne0 (by omega) (by omega))]
        have ckd1 : ∀ e : Option (Int32 × Mem), ckd (nI g) e = e := fun e => by
          unfold ckd
          rw [if_neg (nI_ne0 (by omega) (by omega))]
        rw [ckd1]
        simp only [lt_e, nI_1]
        rw [ckd1, pk_rem (by omega) (by omega) (by omega), pk_div (by omega) (by omega) (by omega), nI_add]
      · have e5 := lp_bg5 N hN hx (show 0 < g by omega) hmod c hc t h5 ((v + 1) / g) k (M' + 1 - (v + 1) / g) (by omega) (fun q' a b => ?_)
        · rw [hdm, show M' + 1 - (v + 1) / g + (v + 1) / g = M' + 1 by omega] at e5
          exact e5.trans i2
        · have hle : q' * g ≤ (v + 1) / g * g := Nat.mul_le_mul_right g b
          have hge : g ≤ q' * g := Nat.le_mul_of_pos_left g a
          refine gmx_eq ?_ (fun j hj hb => ?_)
          · rcases gmx_mem c (v + 1) x with z | ⟨j, j1, j2, j3⟩
            · omega
            · exact Or.inr ⟨j, j1, by omega, by omega⟩
          · rw [← hgm]
            exact gmx_ub c (v + 1) x j hj (by omega)
-- the reference's rows
theorem lp_lc2 (N : Nat) (x1 : Int32) {X : Nat} (hX : X ≤ 999) (K : Mem → Option (Unit × Mem)) (s0 : Mem) : ∀ (m v M : Nat) (s : Mem), v + m = X + 1 → m < M → (∀ q p, ¬ q = 40 → ¬ q = 41 → gi s q p = gi s0 q p) → (∀ u, u < v → gi s 40 u = nI (if u = 0 then 0 else 100000000) ∧ gi s 41 u = nI (if u = 0 then 1 else 0)) → ∃ s', itr (fun _ _ => none) (st_X10_laysCoins_2 N x1 (nI X) K) M (nI v) s = K s' ∧ (∀ q p, ¬ q = 40 → ¬ q = 41 → gi s' q p = gi s0 q p) ∧ (∀ u, u ≤ X → gi s' 40 u = nI (if u = 0 then 0 else 100000000) ∧ gi s' 41 u = nI (if u = 0 then 1 else 0))
  | m, v, 0, s, _, h, _, _ => absurd h (by omega)
  | 0, v, M + 1, s, h, _, h1, h2 => by
    refine ⟨s, ?_, h1, fun u hu => h2 u (by omega)⟩
    rw [show itr (fun _ _ => none) (st_X10_laysCoins_2 N x1 (nI X) K) (M + 1) = st_X10_laysCoins_2 N x1 (nI X) K (itr (fun _ _ => none) (st_X10_laysCoins_2 N x1 (nI X) K) M) from rfl]
    unfold st_X10_laysCoins_2
    rw [if_pos (nI_lt (by omega) (by omega))]
  | m + 1, v, M + 1, s, h, h0, h1, h2 => by
    have ih := lp_lc2 N x1 hX K s0 m (v + 1) M
    rw [show itr (fun _ _ => none) (st_X10_laysCoins_2 N x1 (nI X) K) (M + 1) = st_X10_laysCoins_2 N x1 (nI X) K (itr (fun _ _ => none) (st_X10_laysCoins_2 N x1 (nI X) K) M) from rfl]
    generalize itr (fun _ _ => none) (st_X10_laysCoins_2 N x1 (nI X) K) M = rec at ih ⊢
    have key : st_X10_laysCoins_2 N x1 (nI X) K rec (nI v) s = rec (nI (v + 1)) (si (si s 40 v (nI (if v = 0 then 0 else 100000000))) 41 v (nI (if v = 0 then 1 else 0))) := by
      unfold st_X10_laysCoins_2
      rw [if_neg (nI_nlt (by omega) (by omega))]
      simp only [lt_e, nI_1]
      by_cases q : v = 0
      · have q' : nI v = 0 := by rw [q]; rfl
        rw [if_pos q', chk_n (by omega) (by decide), if_pos q', chk_n (by omega) (by decide), ix_n (by omega), if_pos q, if_pos q]; rfl
      · have q' : ¬ nI v = 0 := nI_ne0 (by omega) (by omega)
        rw [if_neg q', chk_n (by omega) (by decide), if_neg q', chk_n (by omega) (by decide), ix_n (by omega), if_neg q, if_neg q]; rfl
    rw [key]
    refine ih _ (by omega) (by omega) (fun q p hq hp => by rw [gi_ne hp, gi_ne hq]; exact h1 q p hq hp) (fun u hu => ?_)
    by_cases e : u = v
    · rw [e, gi_eq, gi_ne (by decide), gi_eq]
      exact ⟨rfl, rfl⟩
    · rw [gi_ni e, gi_ni e, gi_ni e, gi_ni e]
      exact h2 u (by omega)
/-- row 40 at u holds the fewest coins of S that pay u -/
def Fw (S : Nat → Prop) (s : Mem) (u : Nat) : Prop := ∃ y, gi s 40 u = nI y ∧ Mn (fun k => Pay S k u) 100000000 y
theorem lp_lc70 (N : Nat) (x1 : Int32) {X i a : Nat} (hX : X ≤ 999) (hi : i < 260) (ha0 : 0 < a) (ha : a ≤ 255) (S : Nat → Prop) (hS : ∀ e, S e → 0 < e) (W : Nat → Nat) (hW : ∀ v, W v ≤ 1000000000) (K : Mem → Option (Unit × Mem)) (s0 : Mem) (h5 : gi s0 5 i &&& 255 = nI a) : ∀ (m v M : Nat) (s : Mem), v + m = X + 1 → a ≤ v → m < M → (∀ q p, ¬ q = 40 → ¬ q = 41 → gi s q p = gi s0 q p) → (∀ u, u ≤ X → (u < v → Fw (fun e => S e ∨ e = a) s u) ∧ (v ≤ u → Fw S s u) ∧ gi s 41 u = nI (wstL a W v u)) → ∃ s', itr (fun _ _ => none) (st_X10_laysCoins_70 N x1 (nI X) (nI i) K) M (nI v) s = K s' ∧ (∀ q p, ¬ q = 40 → ¬ q = 41 → gi s' q p = gi s0 q p) ∧ (∀ u, u ≤ X → Fw (fun e => S e ∨ e = a) s' u ∧ gi s' 41 u = nI (wstL a W (X + 1) u))
  | m, v, 0, s, _, _, h, _, _ => absurd h (by omega)
  | 0, v, M + 1, s, h, _, _, h1, h2 => by
    rw [show v = X + 1 by omega] at h2 ⊢
    refine ⟨s, ?_, h1, fun u hu => ⟨(h2 u hu).1 (by omega), (h2 u hu).2.2⟩⟩
    rw [show itr (fun _ _ => none) (st_X10_laysCoins_70 N x1 (nI X) (nI i) K) (M + 1) = st_X10_laysCoins_70 N x1 (nI X) (nI i) K (itr (fun _ _ => none) (st_X10_laysCoins_70 N x1 (nI X) (nI i) K) M) from rfl]
    unfold st_X10_laysCoins_70
    rw [if_pos (nI_lt (by omega) (by omega))]
  | m + 1, v, M + 1, s, h, hav, h0, h1, h2 => by
    have ih := lp_lc70 N x1 hX hi ha0 ha S hS W hW K s0 h5 m (v + 1) M
    rw [show itr (fun _ _ => none) (st_X10_laysCoins_70 N x1 (nI X) (nI i) K) (M + 1) = st_X10_laysCoins_70 N x1 (nI X) (nI i) K (itr (fun _ _ => none) (st_X10_laysCoins_70 N x1 (nI X) (nI i) K) M) from rfl]
    generalize itr (fun _ _ => none) (st_X10_laysCoins_70 N x1 (nI X) (nI i) K) M = rec at ih ⊢
    have b1 := wstL_le (c := a) hW v v
    have b2 := wstL_le (c := a) hW v (v - a)
    obtain ⟨y, y1, y2⟩ := (h2 v (by omega)).2.1 (Nat.le_refl v)
    obtain ⟨z, z1, z2⟩ := (h2 (v - a) (by omega)).1 (by omega)
    have w1 := (h2 v (by omega)).2.2
    have w2 := (h2 (v - a) (by omega)).2.2
    have yl := y2.le
    have zl := z2.le
    have o5 : gi s 5 i &&& 255 = nI a := by rw [h1 5 i (by decide) (by decide)]; exact h5
    have key : st_X10_laysCoins_70 N x1 (nI X) (nI i) K rec (nI v) s = rec (nI (v + 1)) (si (si s 40 v (nI (min y (z + 1)))) 41 v (nI (min 1000000000 (wstL a W v v + wstL a W v (v - a))))) := by
      unfold st_X10_laysCoins_70
      rw [if_neg (nI_nlt (by omega) (by omega)), chk_n (by omega) (by decide), e_octet N hi, bd_some, o5, pk_sub hav, chk_n (by omega) (by decide), ix_n (by omega), ix_n (by omega), y1, z1, nI_1, e_minM N _ _ (by omega) (by omega), bd_some, chk_n (by omega) (by decide)]
      simp only [lt_e]
      rw [chk_n (by omega) (by decide), e_octet N hi, bd_some, gi_ne (by decide), o5, pk_sub hav, chk_n (by omega) (by decide), ix_n (by omega), gi_ne (by decide), gi_ne (by decide), w1, w2, nI_add, show (1000000000 : Int32) = nI 1000000000 from rfl, e_minM N _ _ (by decide) (by omega), bd_some, chk_n (by omega) (by decide), nI_1]
    rw [key]
    refine ih _ (by omega) (by omega) (by omega) (fun q p hq hp => by rw [gi_ne hp, gi_ne hq]; exact h1 q p hq hp) (fun u hu => ⟨fun q => ?_, fun q => ?_, ?_⟩)
    · unfold Fw
      rw [gi_ne (by decide)]
      by_cases e : u = v
      · rw [e, gi_eq]
        refine ⟨_, rfl, (y2.or z2 (fun k hk => ?_)).congr (fun k => ⟨?_, fun w => ?_⟩)⟩
        · have := Pay_le (fun e he => by
            rcases he with he | rfl
            · exact hS e he
            · exact ha0) k _ hk
          omega
        · rintro (w | ⟨k', rfl, w⟩)
          · exact Pay_congr (fun c => Or.inl) k v w
          · exact ⟨a, Or.inr rfl, hav, w⟩
        · rcases Pay_first k v w with w | ⟨_, w⟩
          · exact Or.inl w
          · exact Or.inr w
      · rw [gi_ni e]
        exact (h2 u hu).1 (by omega)
    · unfold Fw
      rw [gi_ne (by decide), gi_ni (by omega)]
      exact (h2 u hu).2.1 (by omega)
    · rw [wstL_s]
      by_cases e : u = v
      · rw [e, gi_eq, if_pos ⟨rfl, hav⟩]
      · rw [gi_ni e, gi_ne (by decide), if_neg (fun w => e w.1)]
        exact (h2 u hu).2.2
theorem lp_again (N : Nat) {i : Nat} (hi : i < 260) (c : Nat → Nat) (hc : ∀ j, j ≤ i → c j ≤ 255) (s : Mem) (h5 : ∀ j, j ≤ i → gi s 5 j &&& 255 = nI (c j)) : ∀ (m j M : Nat), j + m = i → m < M → agb c (c i) j = false → itr (fun _ _ => none) (st_X10_isAgain_2 N (nI i)) M (nI j) s = some (if agb c (c i) i = true then 1 else 0, s)
  | m, j, 0, _, h, _ => absurd h (by omega)
  | 0, j, M + 1, h, _, q => by
    rw [show j = i by omega] at q ⊢
    show st_X10_isAgain_2 N (nI i) _ (nI i) s = _
    unfold st_X10_isAgain_2
    rw [if_pos (nI_le (Nat.le_refl i) (by omega)), q]
    rfl
  | m + 1, j, M + 1, h, h0, q => by
    have ih := lp_again N hi c hc s h5 m (j + 1) M (by omega) (by omega)
    show st_X10_isAgain_2 N (nI i) (itr _ _ M) (nI j) s = _
    generalize itr (fun _ _ => none) (st_X10_isAgain_2 N (nI i)) M = rec at ih ⊢
    have c1 := hc j (by omega)
    have c2 := hc i (by omega)
    unfold st_X10_isAgain_2
    rw [if_neg (nI_ge (by omega) (by omega)), e_octet N (by omega), bd_some, e_octet N (by omega), bd_some, h5 j (by omega), h5 i (by omega)]
    simp only [lt_e, nI_1]
    by_cases e : c j = c i
    · rw [e, if_pos rfl, if_pos ((agb_iff c (c i) i).mpr ⟨j, by omega, e⟩)]
    · rw [if_neg (fun w => e ((nI_eq (by omega) (by omega)).mp w))]
      exact ih (by rw [agb_s, q, decide_eq_false e]; rfl)
theorem lp_lc47 (N : Nat) (hN : 1100 ≤ N) {X x : Nat} (hX : X ≤ 999) (hx : x ≤ 6) (c d : Nat → Nat) (hc : ∀ j, j < x → 0 < c j ∧ c j ≤ 255) (hd : IsD c d x) (s0 : Mem) (h5 : ∀ j, j < x → gi s0 5 j &&& 255 = nI (c j)) : ∀ (m i M : Nat) (s : Mem), i + m = x → m < M → (∀ q p, ¬ q = 40 → ¬ q = 41 → gi s q p = gi s0 q p) → (∀ u, u ≤ X → Fw (fun e => ∃ j, j < i ∧ c j = e) s u ∧ gi s 41 u = nI (wf d X (nd c i) u)) → ∃ s', itr (fun _ _ => none) (st_X10_laysCoins_47 N (nI x) (nI X)) M (nI i) s = some ((), s') ∧ (∀ q p, ¬ q = 40 → ¬ q = 41 → gi s' q p = gi s0 q p) ∧ (∀ u, u ≤ X → Fw (fun e => ∃ j, j < x ∧ c j = e) s' u ∧ gi s' 41 u = nI (wf d X (nd c x) u))
  | m, i, 0, s, _, h, _, _ => absurd h (by omega)
  | 0, i, M + 1, s, h, _, h1, h2 => by
    rw [show i = x by omega] at h2 ⊢
    refine ⟨s, ?_, h1, h2⟩
    show st_X10_laysCoins_47 N (nI x) (nI X) _ (nI x) s = _
    unfold st_X10_laysCoins_47
    rw [if_pos (nI_le (Nat.le_refl x) (by omega))]
  | m + 1, i, M + 1, s, h, h0, h1, h2 => by
    have ih := lp_lc47 N hN hX hx c d hc hd s0 h5 m (i + 1) M
    show ∃ s', st_X10_laysCoins_47 N (nI x) (nI X) (itr _ _ M) (nI i) s = _ ∧ _
    generalize itr (fun _ _ => none) (st_X10_laysCoins_47 N (nI x) (nI X)) M = rec at ih ⊢
    have h5' : ∀ j, j < x → gi s 5 j &&& 255 = nI (c j) := fun j hj => by rw [h1 5 j (by decide) (by decide)]; exact h5 j hj
    have ea : f_X10_isAgain N (nI i) s = some (if agb c (c i) i = true then 1 else 0, s) := lp_again N (by omega) c (fun j hj => (hc j (by omega)).2) s (fun j hj => h5' j (by omega)) i 0 N (by omega) (by omega) rfl
    obtain ⟨c1, c2⟩ := hc i (by omega)
    unfold st_X10_laysCoins_47
    rw [if_neg (nI_ge (by omega) (by omega)), ea, bd_some]
    simp only [lt_e, nI_1]
    by_cases q : agb c (c i) i = true
    · rw [if_pos q, if_neg (by decide)]
      refine ih s (by omega) (by omega) h1 (fun u hu => ⟨?_, by rw [nd_s, if_pos q]; exact (h2 u hu).2⟩)
      obtain ⟨y, y1, y2⟩ := (h2 u hu).1
      obtain ⟨j0, j1, j2⟩ := (agb_iff c (c i) i).mp q
      refine ⟨y, y1, y2.congr (fun k => ⟨Pay_congr (fun e ⟨j, a, b⟩ => ⟨j, by omega, b⟩) k u, Pay_congr (fun e ⟨j, a, b⟩ => ?_) k u⟩)⟩
      by_cases e2 : j = i
      · exact ⟨j0, j1, by rw [← b, e2]; exact j2⟩
      · exact ⟨j, by omega, b⟩
    · have q' := Bool.eq_false_iff.mpr q
      have hdi := hd i (by omega) q'
      have hS : ∀ e, (∃ j, j < i ∧ c j = e) → 0 < e := fun e ⟨j, a, b⟩ => by rw [← b]; exact (hc j (by omega)).1
      have hcg : ∀ (s' : Mem) (u : Nat), Fw (fun e => (∃ j, j < i ∧ c j = e) ∨ e = c i) s' u → Fw (fun e => ∃ j, j < i + 1 ∧ c j = e) s' u := fun s' u ⟨y, y1, y2⟩ => by
        refine ⟨y, y1, y2.congr (fun k => ⟨Pay_congr (fun e w => ?_) k u, Pay_congr (fun e w => ?_) k u⟩)⟩
        · rcases w with ⟨j, a, b⟩ | w
          · exact ⟨j, by omega, b⟩
          · exact ⟨i, by omega, w.symm⟩
        · obtain ⟨j, a, b⟩ := w
          by_cases e2 : j = i
          · exact Or.inr (by rw [← b, e2])
          · exact Or.inl ⟨j, by omega, b⟩
      have hnd : nd c (i + 1) = nd c i + 1 := by rw [nd_s, if_neg q]
      have hlo : ∀ u, u < c i → Fw (fun e => ∃ j, j < i ∧ c j = e) s u → Fw (fun e => (∃ j, j < i ∧ c j = e) ∨ e = c i) s u := fun u hu ⟨y, y1, y2⟩ => by
        refine ⟨y, y1, y2.congr (fun k => ⟨Pay_congr (fun e => Or.inl) k u, fun w => ?_⟩)⟩
        rcases Pay_first k u w with w | ⟨w, _⟩
        · exact w
        · omega
      rw [if_neg q, if_pos rfl, e_octet N (by omega), bd_some, h5' i (by omega)]
      by_cases w : c i ≤ X
      · obtain ⟨s1, e1, e2, e3⟩ := lp_lc70 N (nI x) (i := i) hX (by omega) c1 c2 (fun e => ∃ j, j < i ∧ c j = e) hS (wf d X (nd c i)) (wf_le d X _) (fun s24 => rec (nI (i + 1)) s24) s0 (h5 i (by omega)) (X + 1 - c i) (c i) N s (by omega) (Nat.le_refl _) (by omega) h1 (fun u hu => ⟨fun v => hlo u v (h2 u hu).1, fun _ => (h2 u hu).1, by rw [wstL_lo _ _ _ (Nat.le_refl _)]; exact (h2 u hu).2⟩)
        obtain ⟨s2, k1, k2⟩ := ih s1 (by omega) (by omega) e2 (fun u hu => ⟨hcg s1 u (e3 u hu).1, by
          rw [hnd, (e3 u hu).2, ← hdi]
          rfl⟩)
        exact ⟨s2, e1.trans k1, k2⟩
      · obtain ⟨s2, k1, k2⟩ := ih s (by omega) (by omega) h1 (fun u hu => ⟨hcg s u (hlo u (by omega) (h2 u hu).1), by
          rw [hnd]
          show gi s 41 u = nI (wstL (d (nd c i)) (wf d X (nd c i)) (X + 1) u)
          rw [wstL_lo _ _ _ (by omega)]
          exact (h2 u hu).2⟩)
        obtain ⟨M', hM'⟩ : ∃ M', N = M' + 1 := ⟨N - 1, by omega⟩
        refine ⟨s2, Eq.trans ?_ k1, k2⟩
        generalize hst : (st_X10_laysCoins_70 N (nI x) (nI X) (nI i) fun s9 => rec (nI (i + 1)) s9) = st
        rw [hM']
        show st (itr (fun _ _ => none) st M') (nI (c i)) s = _
        rw [← hst]
        generalize itr (fun _ _ => none) (st_X10_laysCoins_70 N (nI x) (nI X) (nI i) fun s9 => rec (nI (i + 1)) s9) M' = rec2
        unfold st_X10_laysCoins_70
        rw [if_pos (nI_lt (by omega) (by omega))]
theorem e_laysCoins (N : Nat) (hN : 1100 ≤ N) {X x : Nat} (hX : X ≤ 999) (hx : x ≤ 6) (c d : Nat → Nat) (hc : ∀ j, j < x → 0 < c j ∧ c j ≤ 255) (hd : IsD c d x) (s : Mem) (h5 : ∀ j, j < x → gi s 5 j &&& 255 = nI (c j)) : ∃ s', f_X10_laysCoins N (nI x) (nI X) s = some ((), s') ∧ Fw (fun e => ∃ j, j < x ∧ c j = e) s' X ∧ gi s' 41 X = nI (wf d X (nd c x) X) := by
  obtain ⟨s1, e1, e2, e3⟩ := lp_lc2 N (nI x) hX (fun  (s8 : Mem) => itr (fun _ _ => none) (st_X10_laysCoins_47 N (nI x) (nI X)) N 0 s8) s (X + 1) 0 N s (by omega) (by omega) (fun _ _ _ _ => rfl) (fun u hu => absurd hu (by omega))
  have hM : ∀ u, u ≤ X → Mn (fun k => Pay (fun e => ∃ j, j < 0 ∧ c j = e) k u) 100000000 (if u = 0 then 0 else 100000000) := fun u hu => by
    by_cases q : u = 0
    · rw [if_pos q]
      exact Or.inl ⟨q, by decide, fun k _ => Nat.zero_le k⟩
    · rw [if_neg q]
      refine Or.inr ⟨rfl, fun k w => ?_⟩
      cases k with
      | zero => exact q w
      | succ k =>
        obtain ⟨e, ⟨j, h, _⟩, _⟩ := w
        exact absurd h (by omega)
  obtain ⟨s2, k1, k2, k3⟩ := lp_lc47 N hN hX hx c d hc hd s h5 x 0 N s1 (by omega) (by omega) e2 (fun u hu => ⟨⟨_, (e3 u hu).1, hM u hu⟩, (e3 u hu).2⟩)
  exact ⟨s2, e1.trans k1, (k3 X (Nat.le_refl X)).1, (k3 X (Nat.le_refl X)).2⟩
