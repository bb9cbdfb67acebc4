/-! nearest, fromWhom -/
/-- how far text k lies from text j -/
def Dm (τ : Mem) (k j : Nat) : Nat := lev (fun i => gi τ 33 (40 * k + i)) (fun i => gi τ 33 (40 * j + i)) (ix (gi τ 34 k)) (ix (gi τ 34 j))
theorem Dm_sym (τ : Mem) (k j : Nat) : Dm τ k j = Dm τ j k := lev_sym _ _ _ _ _ (Nat.le_refl _)
theorem Rx.size {σ τ : Mem} (hx : Rx σ τ) {k : Nat} (hk : k < 6) : ix (gi τ 34 k) ≤ 40 ∧ gi σ 119 k = nI (ix (gi τ 34 k)) ∧ gi τ 34 k = nI (ix (gi τ 34 k)) := by
  obtain ⟨n, a, b, c, -⟩ := hx.1 k hk
  rw [c, ix_n (by omega)]
  exact ⟨a, b, rfl⟩
theorem Rx.byte {σ τ : Mem} (hx : Rx σ τ) {k : Nat} (hk : k < 6) {j : Nat} (hj : j < ix (gi τ 34 k)) : gi σ (113 + k) j = gi τ 33 (40 * k + j) &&& 255 := by
  obtain ⟨n, a, b, c, d⟩ := hx.1 k hk
  rw [c, ix_n (by omega)] at hj
  exact d j hj
theorem Dm_le {σ τ : Mem} (hx : Rx σ τ) {k j : Nat} (hk : k < 6) (hj : j < 6) : Dm τ k j ≤ 40 := by
  have := lev_le (fun i => gi τ 33 (40 * k + i)) (fun i => gi τ 33 (40 * j + i)) (ix (gi τ 34 k)) (ix (gi τ 34 j))
  have h1 := (hx.size hk).1
  have h2 := (hx.size hj).1
  unfold Dm
  omega
theorem e_apartD (N : Nat) (hN : 50 ≤ N) {σ τ : Mem} (hx : Rx σ τ) {k j : Nat} (hk : k < 6) (hj : j < 6) (s : Mem) (hs : ∀ c i, 113 ≤ c → c < 120 → gi s c i = gi σ c i) : ∃ s', f_X1_apart N (nI k) (nI j) s = some (nI (Dm τ k j), s') ∧ ∀ c i, ¬ c = 120 → gi s' c i = gi s c i := by
  obtain ⟨m1, m2, m3⟩ := hx.size hk
  obtain ⟨n1, n2, n3⟩ := hx.size hj
  have hl : layC[112 + 1 + k]? = some (0, 40) := lr_112 (by omega)
  have hl2 : lenC (112 + 1 + k) = 40 := by
    unfold lenC
    rw [List.getD_eq_getElem?_getD, hl]
    rfl
  obtain ⟨s1, e1⟩ := e_changes N hN (c := 112 + 1 + k) (m := ix (gi τ 34 j)) (x := ix (gi τ 34 k)) (j := j) (by omega) n1 m1 (by omega) (by omega) (by omega) s (by rw [hs 119 _ (by omega) (by omega)]; exact n2) (fun i => gi σ (112 + 1 + k) i) (fun i => gi σ (113 + j) i) (fun i _ => hs _ i (by omega) (by omega)) (fun i _ => hs _ i (by omega) (by omega))
  have e2 : f_X1_apart N (nI k) (nI j) s = some (nI (Dm τ k j), s1) := by
    unfold f_X1_apart
    rw [chk_n (by omega) (by decide), chk_n (by omega) (by decide), ix_n (by omega), hs 119 _ (by omega) (by omega), m2, e1, bd_some]
    unfold Dm
    rw [lev_congr _ _ (fun i i' hi hi' => ?_)]
    rw [show 112 + 1 + k = 113 + k by omega, hx.byte hk hi, hx.byte hj hi', bt_inj (hx.2 _ (by omega)) (hx.2 _ (by omega))]
  exact ⟨s1, e2, fun c i hc => (fr_X1_apart N _ _ s _ _ e2 c i (by unfold W_X1_apart W_X1_changes; omega)).1⟩
theorem e_farD (N : Nat) (hN : 50 ≤ N) {σ τ : Mem} (hx : Rx σ τ) {k j : Nat} (hk : k < 6) (hj : j < 6) (s : Mem) (hs : ∀ c i, c = 33 ∨ c = 34 → gi s c i = gi τ c i) : ∃ s', f_X10_farFrom N (nI k) (nI j) s = some (nI (Dm τ k j), s') ∧ ∀ c i, ¬ c = 35 → ¬ c = 36 → gi s' c i = gi s c i := by
  obtain ⟨m1, m2, m3⟩ := hx.size hk
  obtain ⟨n1, n2, n3⟩ := hx.size hj
  obtain ⟨s1, e1⟩ := e_farFrom N hN (k := k) (j := j) (m := ix (gi τ 34 k)) (n := ix (gi τ 34 j)) (by omega) (by omega) m1 n1 s (by rw [hs 34 _ (by omega)]; exact m3) (by rw [hs 34 _ (by omega)]; exact n3) (fun i => gi τ 33 (40 * k + i)) (fun i => gi τ 33 (40 * j + i)) (fun i _ => hs 33 _ (by omega)) (fun i _ => hs 33 _ (by omega))
  exact ⟨s1, e1, fun c i hc hc2 => (fr_X10_farFrom N _ _ s _ _ e1 c i (by unfold W_X10_farFrom W_X10_min; simp only [or_false]; omega)).1⟩
/-- the distance of the tape's text (in the reference: text 6) from text k -/
def NearP (b d : Int32) (σ : Mem) : Prop := (b = -2 ∧ d = -2 ∧ gi σ 111 4 = nI 80) ∨ ∃ b' d' : Nat, b' < 6 ∧ d' ≤ 40 ∧ b = nI b' ∧ d = nI d' ∧ gi σ 111 4 = nI d'
theorem nI_ne_m2 {n : Nat} (h : n < 2 ^ 31) : ¬ nI n = -2 := fun q => by
  have := nI_le (Nat.zero_le n) h
  rw [q] at this
  exact absurd this (by decide)
theorem lp_near (N : Nat) {x : Nat} (x2 : Int32) (D : Nat → Nat) (hD : ∀ k, k < 6 → D k ≤ 40) {σ0 τ0 : Mem} (hx : Rx σ0 τ0) (hC : ∀ s k, k < 6 → (∀ c i, ¬ c = 111 → ¬ c = 120 → gi s c i = gi σ0 c i) → ∃ s', f_X1_changes N 2 (nI x) (nI k) s = some (nI (D k), s') ∧ ∀ c i, ¬ c = 120 → gi s' c i = gi s c i) (hM : ∀ s k, k < 6 → (∀ c i, ¬ c = 35 → ¬ c = 36 → gi s c i = gi τ0 c i) → ∃ s', f_X10_farFrom N 6 (nI k) s = some (nI (D k), s') ∧ ∀ c i, ¬ c = 35 → ¬ c = 36 → gi s' c i = gi s c i) (K : Int32 → Int32 → Mem → Option (Int32 × Mem)) : ∀ (m k M M' : Nat) (b d : Int32) (σ τ : Mem), k + m = 6 → m < M → m < M' → (∀ c i, ¬ c = 111 → ¬ c = 120 → gi σ c i = gi σ0 c i) → (∀ c i, ¬ c = 35 → ¬ c = 36 → gi τ c i = gi τ0 c i) → NearP b d σ → ∃ b' d' σ' τ', itr (fun _ _ _ => none) (st_X1_nearestTo_12 N 2 (nI x)) M b (nI k) σ = some (b', σ') ∧ itr (fun _ _ _ _ => none) (st_X10_nearest_51 N x2 K) M' b d (nI k) τ = K b' d' τ' ∧ NearP b' d' σ' ∧ (∀ c i, ¬ c = 111 → ¬ c = 120 → gi σ' c i = gi σ0 c i) ∧ (∀ c i, ¬ c = 35 → ¬ c = 36 → gi τ' c i = gi τ0 c i)
  | m, k, 0, M', b, d, σ, τ, _, h, _, _, _, _ => absurd h (by omega)
  | m, k, M + 1, 0, b, d, σ, τ, _, _, h, _, _, _ => absurd h (by omega)
  | 0, k, M + 1, M' + 1, b, d, σ, τ, h, _, _, h1, h2, h3 => by
    rw [show k = 6 by omega]
    refine ⟨b, d, σ, τ, ?_, ?_, h3, h1, h2⟩
    · show st_X1_nearestTo_12 N 2 (nI x) _ b (nI 6) σ = _
      unfold st_X1_nearestTo_12
      rw [if_pos (by decide)]
    · show st_X10_nearest_51 N x2 K _ b d (nI 6) τ = _
      unfold st_X10_nearest_51
      rw [if_pos (by decide)]
  | m + 1, k, M + 1, M' + 1, b, d, σ, τ, h, h4, h5, h1, h2, h3 => by
    have hk : k < 6 := by omega
    obtain ⟨n, z1, z2, z3, -⟩ := hx.1 k hk
    have ih := lp_near N x2 D hD hx hC hM K m (k + 1) M M'
    show ∃ b' d' σ' τ', st_X1_nearestTo_12 N 2 (nI x) (itr _ _ M) b (nI k) σ = some (b', σ') ∧ st_X10_nearest_51 N x2 K (itr _ _ M') b d (nI k) τ = K b' d' τ' ∧ _
    generalize hr : itr (fun _ _ _ => none) (st_X1_nearestTo_12 N 2 (nI x)) M = rc at ih ⊢
    generalize hr' : itr (fun _ _ _ _ => none) (st_X10_nearest_51 N x2 K) M' = rm at ih ⊢
    unfold st_X1_nearestTo_12 st_X10_nearest_51
    rw [if_neg (by rw [li_6]; exact nI_ge hk (by decide)), if_neg (by rw [li_6]; exact nI_ge hk (by decide)), e_written N hk (by rw [h1 119 _ (by decide) (by decide)]; exact z2) z1, bd_some, ite10, chk_n (by omega) (by decide), ix_n (by omega), h2 34 _ (by decide) (by decide), z3]
    by_cases q : 0 < n
    · rw [if_pos q, if_neg (nI_ne0 q (by omega))]
      obtain ⟨s1, e1, f1⟩ := hC σ k hk h1
      obtain ⟨t1, g1, k1⟩ := hM τ k hk h2
      have dk := hD k hk
      rw [e1, g1, bd_some, bd_some, f1 111 4 (by decide)]
      simp only [lt_e, nI_1]
      have h1' : ∀ c i, ¬ c = 111 → ¬ c = 120 → gi s1 c i = gi σ0 c i := fun c i hc hc2 => (f1 c i hc2).trans (h1 c i hc hc2)
      have h2' : ∀ c i, ¬ c = 35 → ¬ c = 36 → gi t1 c i = gi τ0 c i := fun c i hc hc2 => (k1 c i hc hc2).trans (h2 c i hc hc2)
      have hset : ∃ b' d' σ' τ', rc (nI k) (nI (k + 1)) (si s1 111 4 (nI (D k))) = some (b', σ') ∧ rm (nI k) (nI (D k)) (nI (k + 1)) t1 = K b' d' τ' ∧ NearP b' d' σ' ∧ (∀ c i, ¬ c = 111 → ¬ c = 120 → gi σ' c i = gi σ0 c i) ∧ (∀ c i, ¬ c = 35 → ¬ c = 36 → gi τ' c i = gi τ0 c i) := ih (nI k) (nI (D k)) _ _ (by omega) (by omega) (by omega) (fun c i hc hc2 => by rw [gi_ne hc]; exact h1' c i hc hc2) h2' (Or.inr ⟨k, D k, hk, dk, rfl, rfl, gi_eq _ _ _ _⟩)
      rcases h3 with ⟨a1, a2, a3⟩ | ⟨b1, d1, a1, a2, a3, a4, a5⟩
      · rw [a3, if_neg (nI_ge (by omega) (by decide)), if_pos a1]
        exact hset
      · rw [a5, if_neg (show ¬ b = -2 by rw [a3]; exact nI_ne_m2 (by omega)), a4]
        by_cases w : d1 ≤ D k
        · rw [if_pos (nI_le w (by omega)), if_neg (nI_nlt w (by omega))]
          exact ih b (nI d1) _ _ (by omega) (by omega) (by omega) h1' h2' (Or.inr ⟨b1, d1, a1, a2, a3, rfl, (f1 111 4 (by decide)).trans a5⟩)
        · rw [if_neg (nI_ge (by omega) (by omega)), if_pos (nI_lt (by omega) (by omega))]
          exact hset
    · rw [if_neg q, if_pos (by rw [show n = 0 by omega]; rfl)]
      simp only [lt_e, nI_1]
      exact ih b d σ τ (by omega) (by omega) (by omega) h1 h2 h3
theorem s_nearest (N : Nat) (hN : 50 ≤ N) {σ τ : Mem} (ht : Rt σ τ) (hx : Rx σ τ) (x1 x2 : Int32) : ∃ r σ' τ', f_X9_nearest N x1 x2 σ = some (r, σ') ∧ f_X10_nearest N x1 x2 τ = some (r, τ') ∧ Rt σ' τ' ∧ Rx σ' τ' := by
  unfold f_X9_nearest f_X10_nearest
  simp only [e_tapeHas, e_within, e_in, bd_some, ite10, e_take, lt_e, show isAr 2 = true from rfl, ckc_t]
  obtain ⟨⟨t, ht2, a, b⟩, c⟩ := id ht
  rw [a, b]
  have hno : ∃ r σ' τ', some ((-1 : Int32), σ) = some (r, σ') ∧ some ((-1 : Int32), τ) = some (r, τ') ∧ Rt σ' τ' ∧ Rx σ' τ' := ⟨_, _, _, rfl, rfl, ht, hx⟩
  by_cases h2 : inR x2 0 1
  · rw [if_pos h2, if_pos h2]
    by_cases h1 : inR x1 1 40
    · rw [if_pos h1]
      by_cases h3 : x1 ≤ nI t
      · rw [if_pos ⟨h1, h3⟩, if_pos h3]
        obtain ⟨x, x0, hx', rfl⟩ := inR_n (a := 1) (b := 40) rfl rfl (by decide) (by decide) h1
        obtain ⟨τ1, e1, f1⟩ := e_laysText N hN (k := 6) (n := x) (by omega) hx' τ
        rw [show (6 : Int32) = nI 6 from rfl, e1, bd_some]
        unfold f_X1_nearestTo
        simp only [lt_e]
        have g33 : ∀ j, j < x → gi τ1 33 (240 + j) = gi τ 5 j := fun j hj => by
          rw [f1, if_pos ⟨rfl, by omega, by omega⟩, show 240 + j - 40 * 6 = j by omega]
          exact (c j (by omega)).2
        have g33' : ∀ j, j < 240 → gi τ1 33 j = gi τ 33 j := fun j hj => by rw [f1, if_neg (by omega), if_neg (by omega)]
        have g34 : ∀ j, j < 6 → gi τ1 34 j = gi τ 34 j := fun j hj => by rw [f1, if_neg (by omega), if_neg (by omega)]
        have g34' : gi τ1 34 6 = nI x := by rw [f1, if_neg (by omega), if_pos ⟨rfl, rfl⟩]
        have g5 : ∀ j, gi τ1 5 j = gi τ 5 j := fun j => by rw [f1, if_neg (by omega), if_neg (by omega)]
        have hx1 : Rx (si (si σ 1 1 0) 111 4 80) (si τ1 0 5 0) := by
          refine ⟨fun k hk => ?_, fun j hj => ?_⟩
          · obtain ⟨n, a1, a2, a3, a4⟩ := hx.1 k hk
            refine ⟨n, a1, by rw [gi_ne (by decide), gi_ne (by decide)]; exact a2, by rw [gi_ne (by decide), g34 k hk]; exact a3, fun j hj => ?_⟩
            rw [gi_ne (by omega), gi_ne (by omega), gi_ne (by decide), g33' _ (by omega)]
            exact a4 j hj
          · rw [gi_ne (by decide), f1]
            by_cases w : 33 = 33 ∧ 40 * 6 ≤ j ∧ j < 40 * 6 + x
            · rw [if_pos w]
              show ((gi τ 5 (j - 40 * 6)).toInt8.toInt32).toInt8.toInt32 = _
              rw [i8_32]
            · rw [if_neg w, if_neg (by omega)]
              exact hx.2 j hj
        have ht1 : Rt (si σ 1 1 0) (si τ1 0 5 0) := ht.take.fr rfl (fun _ _ => rfl) (by rw [gi_eq, gi_eq]) (fun j hj => by rw [gi_ne (by decide), gi_ne (by decide), g5])
        obtain ⟨b', d', σ', τ', e2, e3, e4, e5, e6⟩ := lp_near N (x := x) x2 (fun k => lev (fun i => gi τ 5 i) (fun i => gi τ 33 (40 * k + i)) x (ix (gi τ 34 k))) (fun k hk => by
          have := lev_le (fun i => gi τ 5 i) (fun i => gi τ 33 (40 * k + i)) x (ix (gi τ 34 k))
          have := (hx.size hk).1
          show lev _ _ _ _ ≤ _
          omega) hx1 (fun s k hk hs => by
          obtain ⟨m1, m2, m3⟩ := hx.size hk
          obtain ⟨s1, q1⟩ := e_changes N hN (c := 2) (m := ix (gi τ 34 k)) (x := x) (j := k) hk m1 hx' (by show _ ≤ 260; omega) (by decide) (by decide) s (by rw [hs _ _ (by decide) (by decide), gi_ne (by decide), gi_ne (by decide)]; exact m2) (fun i => gi σ 2 i) (fun i => gi σ (113 + k) i) (fun i _ => by rw [hs _ _ (by decide) (by decide), gi_ne (by decide), gi_ne (by decide)]) (fun i _ => by rw [hs _ _ (by omega) (by omega), gi_ne (by omega), gi_ne (by omega)])
          refine ⟨s1, ?_, fun c i hc => (fr_X1_changes N _ _ _ s _ _ q1 c i (by unfold W_X1_changes; omega)).1⟩
          rw [q1, lev_congr _ _ (fun i i' hi hi' => ?_)]
          rw [(c i (by omega)).1, hx.byte hk hi', bt_inj (c i (by omega)).2 (hx.2 _ (by omega))]) (fun s k hk hs => by
          obtain ⟨m1, m2, m3⟩ := hx.size hk
          obtain ⟨s1, q1⟩ := e_farFrom N hN (k := 6) (j := k) (m := x) (n := ix (gi τ 34 k)) (by omega) (by omega) hx' m1 s (by rw [hs _ _ (by decide) (by decide), gi_ne (by decide)]; exact g34') (by rw [hs _ _ (by decide) (by decide), gi_ne (by decide), g34 k hk]; exact m3) (fun i => gi τ 5 i) (fun i => gi τ 33 (40 * k + i)) (fun i hi => by rw [hs _ _ (by decide) (by decide), gi_ne (by decide)]; exact g33 i hi) (fun i hi => by rw [hs _ _ (by decide) (by decide), gi_ne (by decide), g33' _ (by omega)])
          exact ⟨s1, q1, fun c i hc hc2 => (fr_X10_farFrom N _ _ s _ _ q1 c i (by unfold W_X10_farFrom W_X10_min; simp only [or_false]; omega)).1⟩) (fun (x3_15 : Int32) (x4_16 : Int32) (s14 : Mem) => if x2 = 0 then (some (x3_15, s14)) else some (x4_16, s14)) 6 0 N N (-2) (-2) (si (si σ 1 1 0) 111 4 80) (si τ1 0 5 0) (by omega) (by omega) (by omega) (fun _ _ _ _ => rfl) (fun _ _ _ _ => rfl) (Or.inl ⟨rfl, rfl, gi_eq _ _ _ _⟩)
        have ht2 : Rt σ' τ' := ht1.fr (by rw [e5 _ _ (by decide) (by decide), gi_ne (by decide)]) (fun j _ => by rw [e5 _ _ (by decide) (by decide), gi_ne (by decide)]) (e6 _ _ (by decide) (by decide)) (fun j _ => e6 _ _ (by decide) (by decide))
        have hx2 : Rx σ' τ' := hx1.fr (fun c i hc hc2 => e5 c i (by omega) (by omega)) (fun i _ => e6 _ _ (by decide) (by decide)) (fun i _ => e6 _ _ (by decide) (by decide))
        refine ⟨if x2 = 0 then b' else d', σ', τ', ?_, ?_, ht2, hx2⟩
        · refine (congrArg (fun e => bd e _) e2).trans ?_
          rw [bd_some]
          by_cases w : x2 = 0
          · rw [if_pos w, if_pos w]
          · rw [if_neg w, if_neg w]
            rcases e4 with ⟨a1, a2, a3⟩ | ⟨b1, d1, a1, a2, a3, a4, a5⟩
            · rw [a1, a2, if_neg (by decide)]
            · rw [a3, a4, a5, if_pos (show (0 : Int32) ≤ nI b1 from nI_le (Nat.zero_le b1) (by omega))]
        · refine e3.trans ?_
          show (if x2 = 0 then _ else _) = _
          by_cases w : x2 = 0
          · rw [if_pos w, if_pos w]
          · rw [if_neg w, if_neg w]
      · rw [if_neg (fun q => h3 q.2), if_neg h3]
        exact hno
    · rw [if_neg (fun q => h1 q.1), if_neg h1]
      exact hno
  · rw [if_neg h2, if_neg h2]
    by_cases h1 : inR x1 1 40
    · rw [if_pos h1]
      exact hno
    · rw [if_neg h1]
      exact hno
