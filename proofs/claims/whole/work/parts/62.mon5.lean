/-! months: a parish reads, or holds back -/
theorem Inv.told {α : Nat → Int32} (h : Inv α) {k p : Nat} (hk : k < 6) (hp : p < 12) (hn : ¬ α (12 + 12 * k + p) = -1) : bt (α 146) k = true := by
  cases e : bt (α 146) k with
  | true => rfl
  | false => exact absurd ((h.2.2.2.2 k hk e).1 p hp) hn
/-- what a parish's reading leaves alone -/
def Kr (b lw : Nat) (σ σ' : Mem) : Prop := ∀ c i, ¬ c = lw + 7 → ¬ (c = b ∧ (i = 10 ∨ i = 13 ∨ i = 14 ∨ i = 15)) → ¬ c = b + 4 → ¬ c = b + 6 → gi σ' c i = gi σ c i
def Km (τ τ' : Mem) : Prop := ∀ c i, ¬ c = 17 → ¬ c = 18 → ¬ (c = 0 ∧ (i = 34 ∨ i = 35)) → ¬ (c = 1 ∧ (i = 149 ∨ i = 150 ∨ (138 ≤ i ∧ i < 144) ∨ (84 ≤ i ∧ i < 90))) → gi τ' c i = gi τ c i
theorem s_read (N : Nat) (hN : 300 ≤ N) {b lw p : Nat} {LV : LVt} {LX : LXt} {σ τ τ0 : Mem} (hbk : b = 32 ∨ b = 62) (hp : p < 12) (hL : Lw lw LV LX σ τ) (hB : Rb b σ (Bq τ0 τ)) (hi : Inv (Bq τ0 τ)) (hc1 : gi σ b 14 = gi τ 0 34) (hc2 : gi σ b 15 = gi τ 0 35) (hpa : ∀ j, j < 3 → gi τ 1 (90 + 3 * p + j) = gi τ0 1 (90 + 3 * p + j)) : ∃ σ' τ' z, f_X0_readOne N b (nI p) lw σ = some (z, σ') ∧ f_X10_reads N (nI p) τ = some (z, τ') ∧ (z = 0 ∨ z = 1) ∧ Rb b σ' (Bq τ0 τ') ∧ Inv (Bq τ0 τ') ∧ gi σ' b 14 = gi τ' 0 34 ∧ gi σ' b 15 = gi τ' 0 35 ∧ Kr b lw σ σ' ∧ Km τ τ' := by
  have hlw := isLw_or hL.1
  obtain ⟨z, e1, e2, hz⟩ := lp_unr N hp hB (τ := τ) (fun i _ h => (Bq_out h).symm) 6 0 N N (by omega) (by omega) (by omega)
  have e1' : f_X0_lowestUnread N b (nI p) σ = some (z, σ) := e1
  have e2' : f_X10_readsNext N (nI p) τ = some (z, τ) := e2
  unfold f_X0_readOne f_X10_reads
  rw [e1', e2', bd_some, bd_some]
  rcases hz with rfl | ⟨k, hk, rfl, hkn⟩
  · rw [if_neg (by decide), if_pos rfl]
    exact ⟨σ, τ, 0, rfl, rfl, Or.inl rfl, hB, hi, hc1, hc2, fun _ _ _ _ _ _ => rfl, fun _ _ _ _ _ _ => rfl⟩
  · have hx : ix (nI p) = p := ix_n (by omega)
    have hxk : ix (nI k) = k := ix_n (by omega)
    -- the facts
    obtain ⟨l, hl, el⟩ : ∃ l, l ≤ 99999 ∧ Bq τ0 τ (12 + 12 * k + p) = nI l := by
      rcases hi.2.2.2.1 k p hk hp with z | z
      · exact absurd z hkn
      · exact z
    obtain ⟨mo, hmo, emo⟩ := hi.1.2.2.1
    have el' : gi τ 1 (12 + 12 * k + p) = nI l := by rw [Bq_out (by omega)] at el; exact el
    have emo' : gi τ 1 147 = nI mo := by rw [Bq_out (by omega)] at emo; exact emo
    have etale : gi σ (b + 8 + k) p = nI l := by
      rcases hB.2.2.1 k p hk hp with ⟨_, _, y⟩ | ⟨_, y⟩
      · exact y.trans el
      · exact absurd y hkn
    have etr : Bq τ0 τ (90 + 3 * p) + Bq τ0 τ (90 + 3 * p + 1) + Bq τ0 τ (90 + 3 * p + 2) = tir τ p := by
      rw [Bq_in (by omega), Bq_in (by omega), Bq_in (by omega), ← hpa 1 (by omega), ← hpa 2 (by omega)]
      have := hpa 0 (by omega)
      rw [Nat.add_zero] at this
      rw [← this]
      rfl
    have htd : f_X0_tired N b (nI p) σ = some (tir τ p, σ) := by
      rw [e_tired0 N (by omega) hB hp, etr]
    have hwe : gi σ (b + 1) p = gi τ 1 p := by rw [hB.1.1 p hp, Bq_out (by omega)]
    rw [if_pos (nI_pos' (by omega)), chk_n hp (by decide), htd, bd_some, hx, hwe, if_neg (nI_ne_m1 (by omega)), e_known, bd_some, chk_n (by omega) (by decide), e_tiredM N hp, bd_some]
    obtain ⟨σ1, f1, k1, fo1⟩ := e_askOf N lw (nI p) (gi τ 1 p) (tir τ p) (nI k) σ
    have t1 : gi σ1 ((b + 7) + 1 + k) p = nI l := by rw [k1 _ _ (by omega), show b + 7 + 1 + k = b + 8 + k by omega]; exact etale
    have t2 : gi σ1 b 11 = nI mo := by rw [k1 _ _ (by omega)]; exact hB.1.2.2.2.2.1.trans emo
    obtain ⟨σ2, f2, k2, fo2, ff2⟩ := e_askBy N lw (nI l) 0 (nI mo) fo1
    have kc2 := k1.tr k2
    obtain ⟨τ1, y1, y2, y3⟩ := e_feels N (nI k) (nI l) 0 (tir τ p) (nI mo) τ hp
    have etr2 : gi τ 1 (90 + 3 * p) + gi τ 1 (90 + 3 * p + 1) + gi τ 1 (90 + 3 * p + 2) = tir τ p := rfl
    rw [f1, bd_some, chk_n hk (by decide), chk_n hp (by decide), hxk, t1, t2, f2, bd_some, ix_n (by omega), el', ck_147_151, ix_147, emo', etr2, y1, bd_some]
    -- the draw
    obtain ⟨x, hx1, ex⟩ := hi.1.2.2.2
    have ex' : gi τ 1 150 = nI x := by rw [Bq_out (by omega)] at ex; exact ex
    have ed : f_X0_draw N b σ2 = some (nI ((25173 * x + 13849) % 65536 % 10), si σ2 b 13 (nI ((25173 * x + 13849) % 65536))) := by
      unfold f_X0_draw
      simp only [lt_p]
      have ex2 : gi σ2 b 13 = nI x := by rw [kc2 _ _ (by omega)]; exact hB.1.2.2.2.2.2.2.trans ex
      rw [gi_eq, ex2, li_25173, pk_mul, li_13849, nI_add, li_65536, pk_rem (by omega) (by omega) (by omega), li_10, pk_rem (by omega) (by omega) (by omega)]
    rw [ed, bd_some]
    -- the law
    have hL2 := hL.k kc2 y2
    have hL3 : Lw lw LV LX (si σ2 b 13 (nI ((25173 * x + 13849) % 65536))) τ1 := hL2.fr (fun c i z1 z2 => gi_ne (by omega)) rfl (fun _ _ _ _ => rfl)
    have ff3 : Ff lw (si σ2 b 13 (nI ((25173 * x + 13849) % 65536))) (fc (nI p) (gi τ 1 p) (tir τ p) (nI k) (nI l) 0 (nI mo - nI mo / 12 * 12)) := fun q hq => by rw [gi_ne (by omega)]; exact ff2 q hq
    obtain ⟨σ3, w1, w2⟩ := hL3.num N hN (kind := 104) (most := 10) (Or.inr (Or.inr rfl)) (by decide) ff3
    have w1' : f_X4_number N lw 104 10 (si σ2 b 13 (nI ((25173 * x + 13849) % 65536))) = _ := w1
    obtain ⟨τ2, v1, v2⟩ := hL3.numM N hN (kind := 104) (most := 10) (Or.inr (Or.inr rfl)) (by decide) y3
    have v1' : f_X10_byLaw N 104 10 τ1 = _ := v1
    have hL4 : Lw lw LV LX σ3 τ2 := hL3.fr (fun c i _ _ => gi_1 w2 c i) (v2 _ _ (by decide)) (fun c i z1 z2 => v2 c i (by omega))
    have y3' : ∀ q, q < 7 → gi τ2 18 q = fc (nI p) (gi τ 1 p) (tir τ p) (nI k) (nI l) 0 (nI mo - nI mo / 12 * 12) q := fun q hq => by rw [v2 _ _ (by decide)]; exact y3 q hq
    obtain ⟨τ3, v3, v4⟩ := hL4.numM N hN (kind := 103) (most := 999) (Or.inl rfl) (by decide) y3'
    have v3' : f_X10_byLaw N 103 999 τ2 = _ := v3
    have km3 : KM τ τ3 := (y2.tr (fun c i z _ => v2 c i z)).tr (fun c i z _ => v4 c i z)
    have hle := hL.2.2.2 103 999 (fc (nI p) (gi τ 1 p) (tir τ p) (nI k) (nI l) 0 (nI mo - nI mo / 12 * 12)) (by decide)
    have hle2 := hL.2.2.2 104 10 (fc (nI p) (gi τ 1 p) (tir τ p) (nI k) (nI l) 0 (nI mo - nI mo / 12 * 12)) (by decide)
    have e150 : ((25173 : Int32) * gi τ3 1 150 + 13849) - ((25173 : Int32) * gi τ3 1 150 + 13849) / 65536 * 65536 = nI ((25173 * x + 13849) % 65536) := by
      rw [km3 _ _ (by decide) (by decide), ex', li_25173, pk_mul, li_13849, nI_add, li_65536, pk_rem (by omega) (by omega) (by omega)]
    have e10 : nI ((25173 * x + 13849) % 65536) - nI ((25173 * x + 13849) % 65536) / 10 * 10 = nI ((25173 * x + 13849) % 65536 % 10) := by
      rw [li_10, pk_rem (by omega) (by omega) (by omega)]
    rw [w1', bd_some, v1', bd_some, v3', bd_some]
    simp only [lt_p, ck_150_151, ix_150]
    rw [e150, gi_eq, e10]
    generalize hX : (25173 * x + 13849) % 65536 = X at *
    have hX2 : X < 65536 := by omega
    -- the relation so far
    have hB3 : Rb b σ3 (Bq τ0 (si τ3 1 150 (nI X))) := by
      rw [Bq_up (by omega), Bq_eq (τ := τ) (fun i _ => km3 _ _ (by decide) (by decide))]
      refine (hB.f13 (nI X)).fr (fun c i hc => ?_) (fun _ _ _ => rfl)
      unfold Bc at hc
      rw [gi_1 w2, gi_si, gi_si]
      by_cases e : c = b ∧ i = 13
      · rw [if_pos e, if_pos e]
      · rw [if_neg e, if_neg e]; exact kc2 _ _ (by omega)
    have hi3 : Inv (Bq τ0 (si τ3 1 150 (nI X))) := by
      rw [Bq_up (by omega), Bq_eq (τ := τ) (fun i _ => km3 _ _ (by decide) (by decide))]
      exact hi.f13 ⟨X, hX2, rfl⟩
    have kr3 : Kr b lw σ σ3 := fun c i z1 z2 z3 z4 => by
      rw [gi_1 w2, gi_si, if_neg (by omega)]
      exact kc2 c i z1
    have kmr : Km τ (si τ3 1 150 (nI X)) := fun c i z1 z2 z3 z4 => by
      rw [gi_si, if_neg (by omega)]
      exact km3 c i z1 z2
    have c14 : gi σ3 b 14 = gi τ 0 34 := by rw [gi_1 w2, gi_ni (by decide), kc2 _ _ (by omega)]; exact hc1
    have c15 : gi σ3 b 15 = gi τ 0 35 := by rw [gi_1 w2, gi_ni (by decide), kc2 _ _ (by omega)]; exact hc2
    have d34 : gi (si τ3 1 150 (nI X)) 0 34 = gi τ 0 34 := by rw [gi_ne (by decide)]; exact km3 _ _ (by decide) (by decide)
    have d35 : gi (si τ3 1 150 (nI X)) 0 35 = gi τ 0 35 := by rw [gi_ne (by decide)]; exact km3 _ _ (by decide) (by decide)
    by_cases hh : nI (LV 104 10 (fc (nI p) (gi τ 1 p) (tir τ p) (nI k) (nI l) 0 (nI mo - nI mo / 12 * 12))) ≤ nI (X % 10)
    · rw [if_pos hh, if_pos hh]
      have ff4 : Ff lw σ3 (fc (nI p) (gi τ 1 p) (tir τ p) (nI k) (nI l) 0 (nI mo - nI mo / 12 * 12)) := ff3.of w2
      obtain ⟨σ4, u1, u2⟩ := hL4.num N hN (kind := 103) (most := 999) (Or.inl rfl) (by decide) ff4
      have u1' : f_X4_number N lw 103 999 σ3 = _ := u1
      have hB4 : Rb b σ4 (Bq τ0 (si τ3 1 150 (nI X))) := hB3.fr (fun c i _ => gi_1 u2 c i) (fun _ _ _ => rfl)
      have htold : bt (gi (si τ3 1 150 (nI X)) 1 146) k = true := by
        rw [gi_ni (by decide), km3 _ _ (by decide) (by decide)]
        have := hi.told hk hp hkn
        rw [Bq_out (by omega)] at this
        exact this
      obtain ⟨σ5, τ5, g1, g2, g3, g4, g5, g6⟩ := s_give N (b := b) (k := k) (p := p) hk hp (by omega : LV 103 999 (fc (nI p) (gi τ 1 p) (tir τ p) (nI k) (nI l) 0 (nI mo - nI mo / 12 * 12)) ≤ 9999) hB4 hi3 htold
      rw [u1', bd_some, g1, bd_some, g2, bd_some]
      have a14 : gi σ5 b 14 = gi τ 0 34 := by rw [g5 _ _ (by omega) (by omega) (by omega), gi_1 u2]; exact c14
      have a15 : gi σ5 b 15 = gi τ 0 35 := by rw [g5 _ _ (by omega) (by omega) (by omega), gi_1 u2]; exact c15
      have b34 : gi τ5 0 34 = gi τ 0 34 := by rw [g6 _ _ (by omega)]; exact d34
      have b35 : gi τ5 0 35 = gi τ 0 35 := by rw [g6 _ _ (by omega)]; exact d35
      refine ⟨_, _, 1, rfl, rfl, Or.inr rfl, ?_, ?_, ?_, ?_, fun c i z1 z2 z3 z4 => ?_, fun c i z1 z2 z3 z4 => ?_⟩
      · rw [Bq_eq (τ := τ5) (fun i _ => gi_ne (by decide))]
        exact g3.fr (fun c i hc => by unfold Bc at hc; rw [gi_si, if_neg (by omega)]) (fun _ _ _ => rfl)
      · rw [Bq_eq (τ := τ5) (fun i _ => gi_ne (by decide))]
        exact g4
      · rw [gi_eq, gi_eq, a14, b34]
      · rw [gi_ni (by decide), gi_ni (by decide), a15, b35]
      · rw [gi_si, if_neg (by omega), g5 _ _ (by omega) z3 z4, gi_1 u2]; exact kr3 c i z1 z2 z3 z4
      · rw [gi_si, if_neg (by omega), g6 _ _ (by omega)]; exact kmr c i z1 z2 z3 z4
    · rw [if_neg hh, if_neg hh]
      refine ⟨_, _, 0, rfl, rfl, Or.inl rfl, ?_, ?_, ?_, ?_, fun c i z1 z2 z3 z4 => ?_, fun c i z1 z2 z3 z4 => ?_⟩
      · rw [Bq_eq (τ := si τ3 1 150 (nI X)) (fun i _ => gi_ne (by decide))]
        exact hB3.fr (fun c i hc => by unfold Bc at hc; rw [gi_si, if_neg (by omega)]) (fun _ _ _ => rfl)
      · rw [Bq_eq (τ := si τ3 1 150 (nI X)) (fun i _ => gi_ne (by decide))]
        exact hi3
      · rw [gi_ni (by decide), gi_ni (by decide), c14, d34]
      · rw [gi_eq, gi_eq, c15, d35]
      · rw [gi_si, if_neg (by omega)]; exact kr3 c i z1 z2 z3 z4
      · rw [gi_si, if_neg (by omega)]; exact kmr c i z1 z2 z3 z4
