/-! coins: both -/
theorem oct_E (x : Int32) : ∃ m, m ≤ 255 ∧ x &&& 255 = nI m := by
  obtain ⟨j, h1, h2⟩ := pk_andE x (m := 255) 8 (by decide)
  exact ⟨j, by omega, h2⟩
theorem lp_co48 (N : Nat) {x : Nat} (hx : x ≤ 6) (x2 x3 : Int32) (c : Nat → Nat) (hc : ∀ j, j < x → c j ≤ 255) (s : Mem) (h5 : ∀ j, j < x → gi s 5 j &&& 255 = nI (c j)) (K : Mem → Option (Int32 × Mem)) : ∀ (m j M : Nat), j + m = x → m < M → (∀ i, i < j → 0 < c i) → itr (fun _ _ => none) (st_X10_coins_48 N (nI x) x2 x3 K) M (nI j) s = if (∃ i, i < x ∧ c i = 0) then some (-3, s) else K s
  | m, j, 0, _, h, _ => absurd h (by omega)
  | 0, j, M + 1, h, _, q => by
    rw [show j = x by omega] at q ⊢
    rw [if_neg (fun ⟨i, h1, h2⟩ => by have := q i h1; omega)]
    show st_X10_coins_48 N (nI x) x2 x3 K _ (nI x) s = _
    unfold st_X10_coins_48
    rw [if_pos (nI_le (Nat.le_refl x) (by omega))]
  | m + 1, j, M + 1, h, h0, q => by
    have ih := lp_co48 N hx x2 x3 c hc s h5 K m (j + 1) M (by omega) (by omega)
    show st_X10_coins_48 N (nI x) x2 x3 K (itr _ _ M) (nI j) s = _
    generalize itr (fun _ _ => none) (st_X10_coins_48 N (nI x) x2 x3 K) M = rec at ih ⊢
    have c1 := hc j (by omega)
    unfold st_X10_coins_48
    rw [if_neg (nI_ge (by omega) (by omega)), e_octet N (by omega), bd_some, h5 j (by omega)]
    simp only [lt_e, nI_1]
    by_cases e : c j = 0
    · rw [e, if_pos nI_0, if_pos ⟨j, by omega, e⟩]
    · rw [if_neg (nI_ne0 (by omega) (by omega))]
      refine ih (fun i hi => ?_)
      by_cases e2 : i = j
      · rw [e2]; omega
      · exact q i (by omega)
theorem s_coins (N : Nat) (hN : 1100 ≤ N) {σ τ : Mem} (ht : Rt σ τ) (x1 x2 x3 : Int32) : ∃ r σ' τ', f_X9_coins N x1 x2 x3 σ = some (r, σ') ∧ f_X10_coins N x1 x2 x3 τ = some (r, τ') ∧ Rt σ' τ' := by
  unfold f_X9_coins f_X10_coins
  simp only [e_within, e_in, bd_some, ite10, e_tapeHas, e_take, lt_e, show isAr 2 = true from rfl, ckc_t]
  obtain ⟨⟨t, ht2, a, b⟩, cc⟩ := id ht
  rw [a, b]
  by_cases h1 : inR x1 1 6
  · rw [if_pos h1]
    by_cases h2 : inR x2 0 999
    · rw [if_pos h2, if_pos h2]
      by_cases h3 : inR x3 0 2
      · rw [if_pos h3, if_pos h3]
        by_cases h4 : x1 ≤ nI t
        · rw [if_pos ⟨h1, h4⟩, if_pos h4]
          obtain ⟨x, hx1, hx, rfl⟩ := inR_n (a := 1) (b := 6) rfl rfl (by decide) (by decide) h1
          obtain ⟨X, -, hX, rfl⟩ := inR_n (a := 0) (b := 999) rfl rfl (by decide) (by decide) h2
          have ht' := ht.take
          generalize si σ 1 1 0 = σ1 at ht' ⊢
          generalize si τ 0 5 0 = τ1 at ht' ⊢
          have hcv : ∀ j, j < 260 → ix (gi σ1 2 j) ≤ 255 ∧ gi σ1 2 j = nI (ix (gi σ1 2 j)) := fun j hj => by
            obtain ⟨m, m1, m2⟩ := oct_E (gi τ1 5 j)
            rw [(ht'.2 j hj).1, m2, ix_n (by omega)]
            exact ⟨m1, rfl⟩
          have hc : ∀ j, j < x → ix (gi σ1 2 j) ≤ 255 := fun j hj => (hcv j (by omega)).1
          have h2' : ∀ j, j < x → gi σ1 2 j = nI (ix (gi σ1 2 j)) := fun j hj => (hcv j (by omega)).2
          have h5 : ∀ j, j < x → gi τ1 5 j &&& 255 = nI (ix (gi σ1 2 j)) := fun j hj => by rw [← (ht'.2 j (by omega)).1]; exact h2' j hj
          obtain ⟨σ2, hs⟩ := e_takeCoins N (by omega) hx (fun j => ix (gi σ1 2 j)) hc σ1 h2'
          have fr2 : ∀ r, f_X5_takeCoins N 2 (nI x) σ1 = some (r, σ2) → Rt σ2 τ1 := fun r q => by
            have f := fr_X5_takeCoins N 2 (nI x) σ1 r σ2 q
            exact ht'.fr (f 1 1 (by simp [W_X5_takeCoins, W_X5_hasCoin])).1 (fun j _ => (f 2 j (by simp [W_X5_takeCoins, W_X5_hasCoin])).1) rfl (fun _ _ => rfl)
          rcases hs with ⟨z, q⟩ | ⟨z, q, co⟩
          · refine ⟨-3, σ2, τ1, ?_, ?_, fr2 _ q⟩
            · rw [q, bd_some, if_pos rfl]
            · rw [li_0, lp_co48 N hx _ _ _ hc τ1 h5 _ x 0 N (by omega) (by omega) (fun i hi => absurd hi (by omega)), if_pos z]
          · have ht2 := fr2 _ q
            rw [q, bd_some, if_neg (show ¬ (1 : Int32) = 0 by decide)]
            rw [show itr (fun _ _ => none) (st_X10_coins_48 N (nI x) (nI X) x3 _) N 0 τ1 = _ from lp_co48 N hx _ _ _ hc τ1 h5 _ x 0 N (by omega) (by omega) (fun i hi => absurd hi (by omega)), if_neg (show ¬ ∃ i, i < x ∧ ix (gi σ1 2 i) = 0 from fun ⟨i, w1, w2⟩ => by have := z i w1; omega)]
            have hnd := nd_le (fun j => ix (gi σ1 2 j)) x
            have hd1 : ∀ j, j < nd (fun j => ix (gi σ1 2 j)) x → gi σ2 126 j = nI (ix (gi σ2 126 j)) := fun j hj => (co.val hc hj).1
            have hd2 : ∀ j, j < nd (fun j => ix (gi σ1 2 j)) x → 0 < ix (gi σ2 126 j) ∧ ix (gi σ2 126 j) ≤ 255 := fun j hj => by
              obtain ⟨-, w1, i', w2, w3⟩ := co.val hc hj
              have := z i' w2
              exact ⟨by omega, w1⟩
            have hS : ∀ e, (∃ j, j < nd (fun j => ix (gi σ1 2 j)) x ∧ ix (gi σ2 126 j) = e) ↔ (∃ j, j < x ∧ ix (gi σ1 2 j) = e) := fun e => by
              have := co.isD hc
              have := this.ag (Nat.le_refl x) e
              rw [← agb_iff (fun j => ix (gi σ2 126 j)) e, ← agb_iff (fun j => ix (gi σ1 2 j)) e, this]
            by_cases w0 : x3 = 0
            · rw [if_pos w0, if_neg (by rw [w0]; decide)]
              obtain ⟨σ3, y, k1, k2⟩ := e_fewest N hN (n := nd (fun j => ix (gi σ1 2 j)) x) (by omega) hX (fun j => ix (gi σ2 126 j)) hd2 σ2 co.1 hd1
              obtain ⟨τ3, k3, ⟨y', k4, k5⟩, -⟩ := e_laysCoins N hN hX hx (fun j => ix (gi σ1 2 j)) (fun j => ix (gi σ2 126 j)) (fun j hj => ⟨z j hj, hc j hj⟩) (co.isD hc) τ1 h5
              have fa := fr_X5_fewest N (nI X) σ2 _ σ3 k1
              have fb := fr_X10_laysCoins N (nI x) (nI X) τ1 _ τ3 k3
              have ht3 : Rt σ3 τ3 := ht2.fr (fa 1 1 (by unfold W_X5_fewest; omega)).1 (fun j _ => (fa 2 j (by unfold W_X5_fewest; omega)).1) (fb 0 5 (by simp [W_X10_laysCoins, W_X10_isAgain, W_X10_octet, W_X10_min])).1 (fun j _ => (fb 5 j (by simp [W_X10_laysCoins, W_X10_isAgain, W_X10_octet, W_X10_min])).1)
              rw [k1, bd_some, k3, bd_some, if_neg (show ¬ x3 = 1 by rw [w0]; decide), chk_n (by omega) (by decide), ix_n (by omega), k4]
              have k6 := (k2.congr (fun k => ⟨Pay_congr (fun e => (hS e).mp) k X, Pay_congr (fun e => (hS e).mpr) k X⟩)).uniq k5
              rcases k6 with ⟨m1, m2, m3⟩ | ⟨m1, m2⟩
              · rw [if_neg (show ¬ 1000 ≤ y by omega), if_pos (show nI y' < 100000000 from nI_lt (b := 100000000) m2 (by decide)), chk_n (by omega) (by decide)]
                exact ⟨_, _, _, rfl, by rw [m3], ht3⟩
              · rw [if_pos (show 1000 ≤ y by omega), m2, if_neg (show ¬ nI 100000000 < 100000000 by decide)]
                exact ⟨_, _, _, rfl, rfl, ht3⟩
            · rw [if_neg w0]
              by_cases w1 : x3 = 1
              · rw [if_pos w1, if_neg (by rw [w1]; decide)]
                obtain ⟨σ3, k1⟩ := e_ways N hN (n := nd (fun j => ix (gi σ1 2 j)) x) (by omega) hX (fun j => ix (gi σ2 126 j)) hd2 σ2 co.1 hd1
                obtain ⟨τ3, k3, -, k4⟩ := e_laysCoins N hN hX hx (fun j => ix (gi σ1 2 j)) (fun j => ix (gi σ2 126 j)) (fun j hj => ⟨z j hj, hc j hj⟩) (co.isD hc) τ1 h5
                have fa := fr_X5_ways N (nI X) σ2 _ σ3 k1
                have fb := fr_X10_laysCoins N (nI x) (nI X) τ1 _ τ3 k3
                have ht3 : Rt σ3 τ3 := ht2.fr (fa 1 1 (by unfold W_X5_ways; omega)).1 (fun j _ => (fa 2 j (by unfold W_X5_ways; omega)).1) (fb 0 5 (by simp [W_X10_laysCoins, W_X10_isAgain, W_X10_octet, W_X10_min])).1 (fun j _ => (fb 5 j (by simp [W_X10_laysCoins, W_X10_isAgain, W_X10_octet, W_X10_min])).1)
                rw [k1, bd_some, k3, bd_some, if_pos w1, chk_n (by omega) (by decide), ix_n (by omega), k4]
                exact ⟨_, _, _, rfl, rfl, ht3⟩
              · rw [if_neg w1]
                have w2 : x3 = 2 := by
                  obtain ⟨v, -, v2, rfl⟩ := inR_n (a := 0) (b := 2) rfl rfl (by decide) (by decide) h3
                  have : ¬ v = 0 := fun e => w0 (by rw [e]; rfl)
                  have : ¬ v = 1 := fun e => w1 (by rw [e]; rfl)
                  rw [show v = 2 by omega]; rfl
                rw [if_pos w2]
                have hl := lec_le (fun j => ix (gi σ2 126 j)) X (nd (fun j => ix (gi σ1 2 j)) x)
                obtain ⟨v, k1, k2⟩ := lp_gf N (by omega) hx (n := nd (fun j => ix (gi σ1 2 j)) x) (by omega) (fun j => ix (gi σ1 2 j)) (fun j => ix (gi σ2 126 j)) hc (fun v => by
                  refine gmx_eq ?_ (fun j hj hb => ?_)
                  · rcases gmx_mem (fun j => ix (gi σ1 2 j)) v x with e | ⟨j, j1, j2, j3⟩
                    · exact Or.inl e
                    · obtain ⟨i, i1, i2⟩ := (hS _).mpr ⟨j, j1, rfl⟩
                      exact Or.inr ⟨i, i1, by rw [i2]; exact j2, by rw [i2]; exact j3⟩
                  · obtain ⟨i, i1, i2⟩ := (hS _).mp ⟨j, hj, rfl⟩
                    rw [← i2]
                    exact gmx_ub (fun j => ix (gi σ1 2 j)) v x i i1 (by show ix (gi σ1 2 i) ≤ v; rw [i2]; exact hb)) σ2 τ1 h5 co.1 (fun j hj => ⟨hd1 j hj, (hd2 j hj).2⟩) 6 0 X 0 N N (by omega) (by omega) (by omega) hX (by omega)
                have k1' : f_X5_greatestFirst N (nI X) σ2 = some (v, σ2) := k1
                have k2' : f_X10_byGreatest N (nI x) (nI X) τ1 = some (v, τ1) := k2
                rw [k1', k2', bd_some, bd_some]
                exact ⟨_, _, _, rfl, rfl, ht2⟩
        · rw [if_neg (fun q => h4 q.2), if_neg h4]
          exact ⟨-1, _, _, rfl, rfl, ht⟩
      · rw [if_neg h3, if_neg h3]
        exact ⟨-1, _, _, rfl, rfl, ht⟩
    · rw [if_neg h2, if_neg h2]
      exact ⟨-1, _, _, rfl, rfl, ht⟩
  · rw [if_neg h1]
    have h1' : ¬ (inR x1 1 6 ∧ x1 ≤ nI t) := fun q => h1 q.1
    refine ⟨-1, σ, τ, ?_, rfl, ht⟩
    rw [if_neg h1']
    by_cases h2 : inR x2 0 999
    · by_cases h3 : inR x3 0 2
      · rw [if_pos h2, if_pos h3]
      · rw [if_pos h2, if_neg h3]
    · rw [if_neg h2]
