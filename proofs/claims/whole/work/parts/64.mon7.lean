/-! months: a MONTH's end, MONTHS in a row -/
theorem Inv.fo {α : Nat → Int32} (h : Inv α) {k : Nat} (hk : k < 6) : Inv (va_up α 144 (α 144 &&& (((1 : Int32) <<< (nI k &&& 31)) ^^^ (-1)))) := by
  obtain ⟨⟨a1, a2, a3, a4⟩, a5, a6, a7, a8⟩ := h
  refine ⟨⟨fun p hp => ?_, ?_, ?_, ?_⟩, fun i hi hi2 => ?_, fun k' hk' => ?_, fun k' p hk' hp => ?_, fun k' hk' => ?_⟩
  · rw [up_ne (by omega)]; exact a1 p hp
  · rw [up_ne (by omega)]; exact a2
  · rw [up_ne (by omega)]; exact a3
  · rw [up_ne (by omega)]; exact a4
  · rw [up_ne (by omega), up_eq, b_clr _ (by omega) hi2, (a5 i hi hi2).2]
    exact ⟨(a5 i hi hi2).1, rfl⟩
  · rw [up_ne (by omega), up_ne (by omega), up_ne (by omega), up_ne (by omega)]; exact a6 k' hk'
  · rw [up_ne (by omega)]; exact a7 k' p hk' hp
  · rw [up_ne (by omega), up_eq]
    intro q
    obtain ⟨b1, b2, b3⟩ := a8 k' hk' q
    refine ⟨fun p hp => by rw [up_ne (by omega)]; exact b1 p hp, by rw [up_ne (by omega)]; exact b2, ?_⟩
    rw [b_clr _ (by omega) (by omega), b3]
    rfl
-- step (3)
theorem lp_reb (N : Nat) {b : Nat} {τ0 : Mem} {c0 : Int32} (K2 : Mem → Option (Unit × Mem)) : ∀ (u k M1 M2 : Nat) (σ τ : Mem), k + u = 6 → u < M1 → u < M2 → Rb b σ (Bq τ0 τ) → Inv (Bq τ0 τ) → gi τ 1 148 = c0 + gi τ 0 36 → ∃ σ' τ', itr (fun _ _ => none) (st_X0_rebuild_2 N b) M1 (nI k) σ = some ((), σ') ∧ itr (fun _ _ => none) (st_X10_monthGoes_77 N K2) M2 (nI k) τ = K2 τ' ∧ Rb b σ' (Bq τ0 τ') ∧ Inv (Bq τ0 τ') ∧ gi τ' 1 148 = c0 + gi τ' 0 36 ∧ (∀ c i, ¬ (c = b ∧ (i = 2 ∨ i = 12)) → gi σ' c i = gi σ c i) ∧ ∀ c i, ¬ (c = 0 ∧ i = 36) → ¬ (c = 1 ∧ (i = 144 ∨ i = 148)) → gi τ' c i = gi τ c i
  | u, k, 0, _, σ, τ, _, h2, _, _, _, _ => absurd h2 (by omega)
  | u, k, M1 + 1, 0, σ, τ, _, _, h3, _, _, _ => absurd h3 (by omega)
  | 0, k, M1 + 1, M2 + 1, σ, τ, h1, _, _, hB, hi, hc => by
    refine ⟨σ, τ, ?_, ?_, hB, hi, hc, fun _ _ _ => rfl, fun _ _ _ _ => rfl⟩
    · show st_X0_rebuild_2 N b _ (nI k) σ = _
      unfold st_X0_rebuild_2
      rw [if_pos (show (6 : Int32) ≤ nI k from nI_le (a := 6) (by omega) (by omega))]
    · show st_X10_monthGoes_77 N K2 _ (nI k) τ = _
      unfold st_X10_monthGoes_77
      rw [if_pos (show (6 : Int32) ≤ nI k from nI_le (a := 6) (by omega) (by omega))]
  | u + 1, k, M1 + 1, M2 + 1, σ, τ, h1, h2, h3, hB, hi, hc => by
    have hk : k < 6 := by omega
    have hx : ix (nI k) = k := ix_n (by omega)
    have hin : inR (nI k) 0 5 := inR_of (a := 0) (b := 5) (Nat.zero_le _) (by omega) (by decide)
    have e2 : gi σ b 2 = gi τ 1 144 := by rw [hB.1.2.2.1, Bq_out (by omega)]
    have e4 : gi σ (b + 4) k = gi τ 1 (138 + k) := by rw [(hB.2.1 k hk).2.2.1, Bq_out (by omega)]
    have e3 : gi σ (b + 3) k = gi τ 1 (132 + k) := by rw [(hB.2.1 k hk).2.1, Bq_out (by omega)]
    have sC : ∀ rec, st_X0_rebuild_2 N b rec (nI k) σ = if bt (gi τ 1 144) k = true ∧ gi τ 1 (132 + k) ≤ gi τ 1 (138 + k) then rec (nI (k + 1)) (si (si σ b 2 (gi τ 1 144 &&& (((1 : Int32) <<< (nI k &&& 31)) ^^^ (-1)))) b 12 (gi σ b 12 + 1)) else rec (nI (k + 1)) σ := by
      intro rec
      unfold st_X0_rebuild_2
      simp only [lt_p, nI_1, hx]
      rw [if_neg (show ¬ (6 : Int32) ≤ nI k from nI_ge (b := 6) hk (by decide)), e_force0, bd_some, ite10, e2]
      by_cases h4 : bt (gi τ 1 144) k = true
      · rw [if_pos ⟨hin, (hb_iff _ (by omega)).mpr h4⟩, chk_n hk (by decide), chk_n hk (by decide), e4, e3, gi_ni (show ¬ 12 = 2 by decide), b_flip _ (by omega) h4]
        by_cases h5 : gi τ 1 (132 + k) ≤ gi τ 1 (138 + k)
        · rw [if_neg (Int32.not_lt.mpr h5), if_pos ⟨h4, h5⟩]
        · rw [if_pos (Int32.not_le.mp h5), if_neg (fun z => h5 z.2)]
      · rw [if_neg (fun z => h4 ((hb_iff _ (by omega)).mp z.2)), if_neg (fun z => h4 z.1)]
    have sM : ∀ rec, st_X10_monthGoes_77 N K2 rec (nI k) τ = if bt (gi τ 1 144) k = true ∧ gi τ 1 (132 + k) ≤ gi τ 1 (138 + k) then rec (nI (k + 1)) (si (si (si τ 1 144 (gi τ 1 144 &&& (((1 : Int32) <<< (nI k &&& 31)) ^^^ (-1)))) 1 148 (gi τ 1 148 + 1)) 0 36 (gi τ 0 36 + 1)) else rec (nI (k + 1)) τ := by
      intro rec
      unfold st_X10_monthGoes_77
      have g1 : (138 : Int32) + nI k = nI (138 + k) := by rw [li_138, nI_add]
      have g2 : (132 : Int32) + nI k = nI (132 + k) := by rw [li_132, nI_add]
      have hx1 : ix (nI (138 + k)) = 138 + k := ix_n (by omega)
      have hx2 : ix (nI (132 + k)) = 132 + k := ix_n (by omega)
      simp only [lt_p, nI_1, g1, g2, hx1, hx2, ck_144_151, ix_144, ck_148_151, ix_148]
      rw [if_neg (show ¬ (6 : Int32) ≤ nI k from nI_ge (b := 6) hk (by decide)), e_has, bd_some, ite10]
      by_cases h4 : bt (gi τ 1 144) k = true
      · rw [if_pos ((hb_iff _ (by omega)).mpr h4), chk_n (by omega) (by decide), chk_n (by omega) (by decide), gi_ni (show ¬ 148 = 144 by decide), gi_ne (show ¬ 0 = 1 by decide), gi_ne (show ¬ 0 = 1 by decide)]
        by_cases h5 : gi τ 1 (132 + k) ≤ gi τ 1 (138 + k)
        · rw [if_pos h5, if_pos ⟨h4, h5⟩]
        · rw [if_neg h5, if_neg (fun z => h5 z.2)]
      · rw [if_neg (fun z => h4 ((hb_iff _ (by omega)).mp z)), if_neg (fun z => h4 z.1)]
    have eC : itr (fun _ _ => none) (st_X0_rebuild_2 N b) (M1 + 1) (nI k) σ = _ := sC (itr (fun _ _ => none) (st_X0_rebuild_2 N b) M1)
    have eM : itr (fun _ _ => none) (st_X10_monthGoes_77 N K2) (M2 + 1) (nI k) τ = _ := sM (itr (fun _ _ => none) (st_X10_monthGoes_77 N K2) M2)
    by_cases hq : bt (gi τ 1 144) k = true ∧ gi τ 1 (132 + k) ≤ gi τ 1 (138 + k)
    · rw [if_pos hq] at eC eM
      have e12 : gi σ b 12 = gi τ 1 148 := by rw [hB.1.2.2.2.2.2.1, Bq_out (by omega)]
      have hbq : Bq τ0 (si (si (si τ 1 144 (gi τ 1 144 &&& (((1 : Int32) <<< (nI k &&& 31)) ^^^ (-1)))) 1 148 (gi τ 1 148 + 1)) 0 36 (gi τ 0 36 + 1)) = va_up (va_up (Bq τ0 τ) 144 (gi τ 1 144 &&& (((1 : Int32) <<< (nI k &&& 31)) ^^^ (-1)))) 148 (gi τ 1 148 + 1) := by
        rw [Bq_eq (τ := si (si τ 1 144 (gi τ 1 144 &&& (((1 : Int32) <<< (nI k &&& 31)) ^^^ (-1)))) 1 148 (gi τ 1 148 + 1)) (fun i _ => gi_ne (by decide)), Bq_up (by omega), Bq_up (by omega)]
      obtain ⟨σ', τ', r1, r2, r3, r4, r5, r6, r7⟩ := lp_reb N (b := b) (τ0 := τ0) (c0 := c0) K2 u (k + 1) M1 M2 (si (si σ b 2 (gi τ 1 144 &&& (((1 : Int32) <<< (nI k &&& 31)) ^^^ (-1)))) b 12 (gi σ b 12 + 1)) (si (si (si τ 1 144 (gi τ 1 144 &&& (((1 : Int32) <<< (nI k &&& 31)) ^^^ (-1)))) 1 148 (gi τ 1 148 + 1)) 0 36 (gi τ 0 36 + 1)) (by omega) (by omega) (by omega) (by rw [hbq, e12]; exact (hB.f2 _).f12 _) (by
        rw [hbq]
        have h := hi.fo hk
        rw [Bq_out (by omega)] at h
        exact h.f12 _) (by rw [gi_ne (by decide), gi_eq, gi_eq, hc, Int32.add_assoc])
      exact ⟨σ', τ', eC.trans r1, eM.trans r2, r3, r4, r5, fun c i z => by rw [r6 c i z, gi_si, if_neg (by omega), gi_si, if_neg (by omega)], fun c i z1 z2 => by rw [r7 c i z1 z2, gi_si, if_neg (by omega), gi_si, if_neg (by omega), gi_si, if_neg (by omega)]⟩
    · rw [if_neg hq] at eC eM
      obtain ⟨σ', τ', r1, r2, r3⟩ := lp_reb N (b := b) (τ0 := τ0) (c0 := c0) K2 u (k + 1) M1 M2 σ τ (by omega) (by omega) (by omega) hB hi hc
      exact ⟨σ', τ', eC.trans r1, eM.trans r2, r3⟩
theorem e_remember (N : Nat) (hN : 10 ≤ N) (b : Nat) (rn : Int32) (σ : Mem) : f_X0_remember N b rn σ = some ((), si (si (si σ (b + 14) 2 (gi σ (b + 14) 1)) (b + 14) 1 (gi σ (b + 14) 0)) (b + 14) 0 rn) := by
  have sl : ∀ rec (j : Nat) (s : Mem), j < 2 → st_X0_remember_2 N b rn rec (nI (j + 1)) s = rec (nI j) (si s (b + 14) (j + 1) (gi s (b + 14) j)) := by
    intro rec j s hj
    unfold st_X0_remember_2
    simp only [lt_p]
    rw [if_neg (nI_nle (by omega) (by omega)), nI_pred, nI_m1, chk_n (by omega) (by decide), chk_n (by omega) (by decide), ix_n (by omega), ix_n (by omega)]
  have s0 : ∀ rec (s : Mem), st_X0_remember_2 N b rn rec (nI 0) s = some ((), si s (b + 14) 0 rn) := by
    intro rec s
    unfold st_X0_remember_2
    simp only [lt_p]
    rw [if_pos (by decide), ck_0_3, ix_0]
  unfold f_X0_remember
  have e : ∀ M s, itr (fun _ _ => none) (st_X0_remember_2 N b rn) (M + 3) (nI 2) s = some ((), si (si (si s (b + 14) 2 (gi s (b + 14) 1)) (b + 14) 1 (gi s (b + 14) 0)) (b + 14) 0 rn) := by
    intro M s
    show st_X0_remember_2 N b rn (itr (fun _ _ => none) (st_X0_remember_2 N b rn) (M + 2)) (nI (1 + 1)) s = _
    rw [sl _ 1 s (by omega)]
    show st_X0_remember_2 N b rn (itr (fun _ _ => none) (st_X0_remember_2 N b rn) (M + 1)) (nI (0 + 1)) _ = _
    rw [sl _ 0 _ (by omega)]
    show st_X0_remember_2 N b rn (itr (fun _ _ => none) (st_X0_remember_2 N b rn) M) (nI 0) _ = _
    rw [s0, gi_ni (show ¬ 0 = 2 by decide)]
  have z := e (N - 3) σ
  rw [show N - 3 + 3 = N by omega] at z
  exact z
/-- all that MONTHS keep -/
def Mr (b lw : Nat) (LV : LVt) (LX : LXt) (c0 : Int32) (σ τ : Mem) : Prop := (Lw lw LV LX σ τ ∧ Rp σ τ) ∧ (Rb b σ (Al τ 1) ∧ Inv (Al τ 1)) ∧ (∀ p, p < 12 → bt (gi τ 1 145) p = false → ∀ j, j < 3 → gi τ 1 (90 + 3 * p + j) = 0) ∧ (gi σ b 14 = gi τ 0 34 ∧ gi σ b 15 = gi τ 0 35) ∧ gi τ 1 148 = c0 + gi τ 0 36
/-- what MONTHS leave alone -/
def Kx (b lw : Nat) (σ σ' : Mem) : Prop := ∀ c i, ¬ c = lw + 7 → ¬ (b ≤ c ∧ c < b + 15) → gi σ' c i = gi σ c i
def Ky (τ τ' : Mem) : Prop := ∀ c i, ¬ c = 17 → ¬ c = 18 → ¬ c = 23 → ¬ (c = 0 ∧ (i = 34 ∨ i = 35 ∨ i = 36)) → ¬ (c = 1 ∧ 12 ≤ i ∧ ¬ i = 145 ∧ ¬ i = 146) → gi τ' c i = gi τ c i
theorem s_month (N : Nat) (hN : 300 ≤ N) {b lw mo : Nat} {LV : LVt} {LX : LXt} {c0 x1 x4 : Int32} {σ τ : Mem} (hbk : b = 32 ∨ b = 62) (hM : Mr b lw LV LX c0 σ τ) (hmo : gi τ 1 147 = nI mo) (hm9 : mo < 9999) (rec : Int32 → Mem → Option (Unit × Mem)) : ∃ σ' τ', itr (fun _ _ => none) (st_X0_pass_32 N b x1 lw x4 (fun  (s9 : Mem) => itr (fun _ _ _ => none) (st_X0_pass_68 N b x1 lw x4 (fun (x5_19 : Int32) (s18 : Mem) => bd (f_X0_rebuild N b s18) (fun _ s20 => bd (f_X0_remember N b x5_19 s20) (fun _ s22 => lt (si s22 b 11 ((gi s22 b 11) + 1)) (fun s24 => lt (x4 + 1) (fun x4_25 => rec x4_25 s24)))))) N 0 0 s9)) N 0 σ = rec (x4 + 1) σ' ∧ f_X10_monthGoes N τ = some ((), τ') ∧ Mr b lw LV LX c0 σ' τ' ∧ gi τ' 1 147 = nI (mo + 1) ∧ Kx b lw σ σ' ∧ Ky τ τ' := by
  obtain ⟨⟨hL, hp⟩, ⟨hB, hi⟩, hz, ⟨hc1, hc2⟩, hc3⟩ := hM
  have hlw := isLw_or hL.1
  -- (1)
  obtain ⟨σ1, τ1, a1, a2, a3, a4, a5, a6⟩ := lp_sp N hN (mo := mo) hbk (x1 := x1) (x4 := x4) (fun  (s9 : Mem) => itr (fun _ _ _ => none) (st_X0_pass_68 N b x1 lw x4 (fun (x5_19 : Int32) (s18 : Mem) => bd (f_X0_rebuild N b s18) (fun _ s20 => bd (f_X0_remember N b x5_19 s20) (fun _ s22 => lt (si s22 b 11 ((gi s22 b 11) + 1)) (fun s24 => lt (x4 + 1) (fun x4_25 => rec x4_25 s24)))))) N 0 0 s9) (fun  (s7 : Mem) => itr (fun _ _ => none) (st_X10_monthGoes_45 N (fun  (s16 : Mem) => itr (fun _ _ => none) (st_X10_monthGoes_77 N (fun  (s25 : Mem) => chk 147 151 (chk 147 151 (lt (si s25 1 (ix (147 : Int32)) ((gi s25 1 (ix (147 : Int32))) + 1)) (fun s26 => some ((), s26)))))) N 0 s16)) N 0 s7) 6 0 N N σ τ (by omega) (by omega) (by omega) hL hp hB hi hmo
  have hL1 : Lw lw LV LX σ1 τ1 := hL.fr (fun c i z1 z2 => a5 c i (by omega) (by omega)) (a6 _ _ (by decide) (by decide) (by decide) (by omega)) (fun c i z1 z2 => a6 _ _ (by omega) (by omega) (by omega) (by omega))
  have e145 : gi τ1 1 145 = gi τ 1 145 := a6 _ _ (by decide) (by decide) (by decide) (by omega)
  have hp0 : Ps (gi τ1 1 145) 0 0 τ1 τ1 := ⟨fun _ _ _ _ _ => rfl, fun q hq => absurd hq (by omega), fun i _ _ => b_0 i⟩
  -- (2)
  obtain ⟨σ2, τ2, rn, b1, b2, b3, b4, b5, b6, b7, b8, b9⟩ := lp_rd N hN hbk (x1 := x1) (x4 := x4) (τ0 := τ1) (fun (x5_19 : Int32) (s18 : Mem) => bd (f_X0_rebuild N b s18) (fun _ s20 => bd (f_X0_remember N b x5_19 s20) (fun _ s22 => lt (si s22 b 11 ((gi s22 b 11) + 1)) (fun s24 => lt (x4 + 1) (fun x4_25 => rec x4_25 s24))))) (fun  (s16 : Mem) => itr (fun _ _ => none) (st_X10_monthGoes_77 N (fun  (s25 : Mem) => chk 147 151 (chk 147 151 (lt (si s25 1 (ix (147 : Int32)) ((gi s25 1 (ix (147 : Int32))) + 1)) (fun s26 => some ((), s26)))))) N 0 s16) 12 0 N N 0 σ1 τ1 (by omega) (by omega) (by omega) hL1 (by rw [a5 _ _ (by omega) (by omega), e145]; exact hp.1) (by rw [Bq_rf]; exact a3) (by rw [Bq_rf]; exact a4) (by rw [a5 _ _ (by omega) (by omega), a6 _ _ (by decide) (by decide) (by decide) (by omega)]; exact hc1) (by rw [a5 _ _ (by omega) (by omega), a6 _ _ (by decide) (by decide) (by decide) (by omega)]; exact hc2) hp0
  -- (3)
  obtain ⟨σ3, τ3, d1, d2, d3, d4, d5, d6, d7⟩ := lp_reb N (b := b) (τ0 := τ1) (c0 := c0) (fun  (s25 : Mem) => chk 147 151 (chk 147 151 (lt (si s25 1 (ix (147 : Int32)) ((gi s25 1 (ix (147 : Int32))) + 1)) (fun s26 => some ((), s26))))) 6 0 N N σ2 τ2 (by omega) (by omega) (by omega) b3 b4 (by rw [b9 _ _ (by decide) (by decide) (by omega) (by omega), b9 _ _ (by decide) (by decide) (by omega) (by omega), a6 _ _ (by decide) (by decide) (by decide) (by omega), a6 _ _ (by decide) (by decide) (by decide) (by omega)]; exact hc3)
  have d1' : f_X0_rebuild N b σ2 = some ((), σ3) := d1
  have m3 : gi τ3 1 147 = nI mo := by rw [d7 _ _ (by omega) (by omega), b9 _ _ (by decide) (by decide) (by omega) (by omega), a6 _ _ (by decide) (by decide) (by decide) (by omega)]; exact hmo
  have eM : f_X10_monthGoes N τ = some ((), si τ3 1 147 (nI (mo + 1))) := by
    show itr (fun _ _ => none) (st_X10_monthGoes_2 N _) N (nI 0) τ = _
    rw [a2]
    show itr (fun _ _ => none) (st_X10_monthGoes_45 N _) N (nI 0) τ1 = _
    rw [b2]
    show itr (fun _ _ => none) (st_X10_monthGoes_77 N _) N (nI 0) τ2 = _
    rw [d2]
    simp only [lt_p, ck_147_151, ix_147]
    rw [m3, nI_1]
  have es : gi (si (si (si σ3 (b + 14) 2 (gi σ3 (b + 14) 1)) (b + 14) 1 (gi σ3 (b + 14) 0)) (b + 14) 0 rn) b 11 + 1 = nI (mo + 1) := by
    rw [gi_ne (by omega), gi_ne (by omega), gi_ne (by omega), d3.1.2.2.2.2.1, Bq_out (by omega), m3, nI_1]
  have eC : ∀ Z, Z = nI 0 → itr (fun _ _ => none) (st_X0_pass_32 N b x1 lw x4 (fun  (s9 : Mem) => itr (fun _ _ _ => none) (st_X0_pass_68 N b x1 lw x4 (fun (x5_19 : Int32) (s18 : Mem) => bd (f_X0_rebuild N b s18) (fun _ s20 => bd (f_X0_remember N b x5_19 s20) (fun _ s22 => lt (si s22 b 11 ((gi s22 b 11) + 1)) (fun s24 => lt (x4 + 1) (fun x4_25 => rec x4_25 s24)))))) N 0 0 s9)) N Z σ = rec (x4 + 1) (si (si (si (si σ3 (b + 14) 2 (gi σ3 (b + 14) 1)) (b + 14) 1 (gi σ3 (b + 14) 0)) (b + 14) 0 rn) b 11 (nI (mo + 1))) := by
    intro Z hZ
    rw [hZ, a1]
    show itr (fun _ _ _ => none) (st_X0_pass_68 N b x1 lw x4 _) N 0 (nI 0) σ1 = _
    rw [b1]
    show bd (f_X0_rebuild N b σ2) _ = _
    rw [d1', bd_some, e_remember N (by omega), bd_some, lt_p, lt_p, es]
  refine ⟨_, _, eC 0 rfl, eM, ?_, gi_eq _ _ _ _, fun c i z1 z2 => ?_, fun c i z1 z2 z3 z4 z5 => ?_⟩
  · -- the relation behind the month
    have hnp : ∀ q j, q < 12 → j < 3 → gi τ3 1 (90 + 3 * q + j) = gi τ2 1 (90 + 3 * q + j) := fun q j hq hj => d7 _ _ (by omega) (by omega)
    have hold : ∀ q j, q < 12 → j < 3 → gi τ1 1 (90 + 3 * q + j) = gi τ 1 (90 + 3 * q + j) := fun q j hq hj => a6 _ _ (by decide) (by decide) (by decide) (by omega)
    obtain ⟨-, p2, p3⟩ := b7
    rw [e145] at p2
    have hBn : Rb b (si (si (si σ3 (b + 14) 2 (gi σ3 (b + 14) 1)) (b + 14) 1 (gi σ3 (b + 14) 0)) (b + 14) 0 rn) (Al τ3 1) := by
      obtain ⟨⟨c1, c2, c3, c4, c5, c6, c7⟩, c8, c9, c10, c11⟩ := d3
      have k : ∀ c i, ¬ c = b + 14 → gi (si (si (si σ3 (b + 14) 2 (gi σ3 (b + 14) 1)) (b + 14) 1 (gi σ3 (b + 14) 0)) (b + 14) 0 rn) c i = gi σ3 c i := fun c i h => by rw [gi_ne h, gi_ne h, gi_ne h]
      have kα : ∀ i, ¬ (90 ≤ i ∧ i < 126) → Al τ3 1 i = Bq τ1 τ3 i := fun i h => (Bq_out h).symm
      refine ⟨⟨fun p hp => ?_, ?_, ?_, ?_, ?_, ?_, ?_⟩, fun k' hk' => ?_, fun k' p hk' hp => ?_, fun k' i hk' i1 i2 => ?_, fun p j hp hj => ?_⟩
      · rw [k _ _ (by omega), kα _ (by omega)]; exact c1 p hp
      · rw [k _ _ (by omega), kα _ (by omega)]; exact c2
      · rw [k _ _ (by omega), kα _ (by omega)]; exact c3
      · rw [k _ _ (by omega), kα _ (by omega)]; exact c4
      · rw [k _ _ (by omega), kα _ (by omega)]; exact c5
      · rw [k _ _ (by omega), kα _ (by omega)]; exact c6
      · rw [k _ _ (by omega), kα _ (by omega)]; exact c7
      · rw [k _ _ (by omega), k _ _ (by omega), k _ _ (by omega), k _ _ (by omega), kα _ (by omega), kα _ (by omega), kα _ (by omega), kα _ (by omega)]
        exact c8 k' hk'
      · rw [k _ _ (by omega), k _ _ (by omega), kα _ (by omega)]
        exact c9 k' p hk' hp
      · rw [k _ _ (by omega)]; exact c10 k' i hk' i1 i2
      · show (_ ∧ gi τ3 1 (90 + 3 * p + j) = 1) ∨ (_ ∧ gi τ3 1 (90 + 3 * p + j) = 0)
        rw [hnp p j hp hj]
        have q0 := c11 p 0 hp (by omega)
        have q1 := c11 p 1 hp (by omega)
        rw [Bq_in (by omega)] at q0 q1
        rw [Nat.add_zero] at q0
        have r := p2 p hp hp
        cases ht : bt (gi τ 1 145) p with
        | true =>
          obtain ⟨r0, r1, r2⟩ := r.1 ht
          rcases (show j = 0 ∨ j = 1 ∨ j = 2 by omega) with rfl | rfl | rfl
          · rw [gi_eq, Nat.add_zero, r0]
            cases e : bt rn p with
            | true => exact Or.inl ⟨rfl, rfl⟩
            | false => exact Or.inr ⟨rfl, rfl⟩
          · rw [gi_ni (by decide), gi_eq, r1]; exact q0
          · rw [gi_ni (by decide), gi_ni (by decide), gi_eq, r2]; exact q1
        | false =>
          obtain ⟨r0, r1⟩ := r.2 ht
          rw [r0 j hj, hold p j hp hj, hz p hp ht j hj]
          have h0 : bt (gi σ3 (b + 14) 0) p = false := by
            rcases q0 with ⟨_, y⟩ | ⟨y, _⟩
            · have y' : gi τ1 1 (90 + 3 * p + 0) = 1 := y
              rw [hold p 0 hp (by omega), hz p hp ht 0 (by omega)] at y'
              exact absurd y' (by decide)
            · exact y
          have h1 : bt (gi σ3 (b + 14) 1) p = false := by
            rcases q1 with ⟨_, y⟩ | ⟨y, _⟩
            · rw [hold p 1 hp (by omega), hz p hp ht 1 (by omega)] at y
              exact absurd y (by decide)
            · exact y
          right
          rcases (show j = 0 ∨ j = 1 ∨ j = 2 by omega) with rfl | rfl | rfl
          · rw [gi_eq]; exact ⟨r1, rfl⟩
          · rw [gi_ni (by decide), gi_eq]; exact ⟨h0, rfl⟩
          · rw [gi_ni (by decide), gi_ni (by decide), gi_eq]; exact ⟨h1, rfl⟩
    have hin : Inv (Al τ3 1) := by
      have h := d4
      obtain ⟨⟨i1, i2, i3, i4⟩, i5, i6, i7, i8⟩ := h
      have kα : ∀ i, ¬ (90 ≤ i ∧ i < 126) → Al τ3 1 i = Bq τ1 τ3 i := fun i h => (Bq_out h).symm
      refine ⟨⟨fun p hp => ?_, ?_, ?_, ?_⟩, fun i j1 j2 => ?_, fun k' hk' => ?_, fun k' q hk' hq => ?_, fun k' hk' hz' => ?_⟩
      · rw [kα _ (by omega)]; exact i1 p hp
      · rw [kα _ (by omega)]; exact i2
      · rw [kα _ (by omega)]; exact i3
      · rw [kα _ (by omega)]; exact i4
      · rw [kα _ (by omega), kα _ (by omega)]; exact i5 i j1 j2
      · rw [kα _ (by omega), kα _ (by omega), kα _ (by omega), kα _ (by omega)]; exact i6 k' hk'
      · rw [kα _ (by omega)]; exact i7 k' q hk' hq
      · rw [kα 146 (by omega)] at hz'
        obtain ⟨y1, y2, y3⟩ := i8 k' hk' hz'
        exact ⟨fun p hp => by rw [kα _ (by omega)]; exact y1 p hp, by rw [kα _ (by omega)]; exact y2, by rw [kα 144 (by omega)]; exact y3⟩
    have e145' : gi τ3 1 145 = gi τ 1 145 := by rw [d7 _ _ (by omega) (by omega), b9 _ _ (by decide) (by decide) (by omega) (by omega)]; exact e145
    have kx : ∀ c i, ¬ c = lw + 7 → ¬ (b ≤ c ∧ c < b + 15) → gi (si (si (si (si σ3 (b + 14) 2 (gi σ3 (b + 14) 1)) (b + 14) 1 (gi σ3 (b + 14) 0)) (b + 14) 0 rn) b 11 (nI (mo + 1))) c i = gi σ c i := fun c i z1 z2 => by
      rw [gi_ne (by omega), gi_ne (by omega), gi_ne (by omega), gi_ne (by omega), d6 _ _ (by omega), b8 _ _ z1 (by omega) (by omega) (by omega), a5 _ _ z1 (by omega)]
    have ky : ∀ c i, ¬ c = 17 → ¬ c = 18 → ¬ c = 23 → ¬ c = 1 → ¬ (c = 0 ∧ (i = 34 ∨ i = 35 ∨ i = 36)) → gi (si τ3 1 147 (nI (mo + 1))) c i = gi τ c i := fun c i z1 z2 z3 z4 z5 => by
      rw [gi_ne z4, d7 _ _ (by omega) (by omega), b9 _ _ z1 z2 (by omega) (by omega), a6 _ _ z1 z2 z3 (by omega)]
    refine ⟨⟨hL.fr (fun c i z1 z2 => kx c i (by omega) (by omega)) (ky _ _ (by decide) (by decide) (by decide) (by decide) (by omega)) (fun c i z1 z2 => ky _ _ (by omega) (by omega) (by omega) (by omega) (by omega)), hp.fr (kx _ _ (by omega) (by omega)) (fun p q hp hq => kx _ _ (by omega) (by omega)) (by rw [gi_ni (by decide)]; exact e145') (fun j _ => ky _ _ (by decide) (by decide) (by decide) (by decide) (by omega))⟩, ⟨?_, ?_⟩, fun p hp ht j hj => ?_, ⟨?_, ?_⟩, ?_⟩
    · rw [Al_si]; exact hBn.f11 _
    · rw [Al_si]; exact hin.f11 ⟨mo + 1, by omega, rfl⟩
    · rw [gi_ni (by decide), e145'] at ht
      rw [gi_ni (by omega), hnp p j hp hj]
      have r := p2 p hp hp
      rw [(r.2 ht).1 j hj, hold p j hp hj]
      exact hz p hp ht j hj
    · rw [gi_ni (by decide), gi_ne (by omega), gi_ne (by omega), gi_ne (by omega), gi_ne (by decide), d6 _ _ (by omega), d7 _ _ (by omega) (by omega)]; exact b5
    · rw [gi_ni (by decide), gi_ne (by omega), gi_ne (by omega), gi_ne (by omega), gi_ne (by decide), d6 _ _ (by omega), d7 _ _ (by omega) (by omega)]; exact b6
    · rw [gi_ni (by decide), gi_ne (by decide)]; exact d5
  · rw [gi_ne (by omega), gi_ne (by omega), gi_ne (by omega), gi_ne (by omega), d6 _ _ (by omega), b8 _ _ z1 (by omega) (by omega) (by omega), a5 _ _ z1 (by omega)]
  · rw [gi_si, if_neg (by omega), d7 _ _ (by omega) (by omega), b9 _ _ z1 z2 (by omega) (by omega), a6 _ _ z1 z2 z3 (by omega)]
