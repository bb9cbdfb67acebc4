/-! months: one MONTH -/
theorem Am_al {τ : Mem} {mo : Nat} (h : gi τ 1 147 = nI mo) : Am τ mo = Al τ 1 := by
  funext i
  by_cases z : i = 147
  · rw [z]
    exact up_eq.trans h.symm
  · exact Am_ne z
theorem Bq_rf (τ : Mem) : Bq τ τ = Al τ 1 := by
  funext i
  unfold Bq Al
  by_cases z : 90 ≤ i ∧ i < 126
  · rw [if_pos z]
  · rw [if_neg z]
-- step (1)
theorem lp_sp (N : Nat) (hN : 300 ≤ N) {b lw mo : Nat} {LV : LVt} {LX : LXt} (hbk : b = 32 ∨ b = 62) {x1 x4 : Int32} (K1 K2 : Mem → Option (Unit × Mem)) : ∀ (u k M1 M2 : Nat) (σ τ : Mem), k + u = 6 → u < M1 → u < M2 → Lw lw LV LX σ τ → Rp σ τ → Rb b σ (Al τ 1) → Inv (Al τ 1) → gi τ 1 147 = nI mo → ∃ σ' τ', itr (fun _ _ => none) (st_X0_pass_32 N b x1 lw x4 K1) M1 (nI k) σ = K1 σ' ∧ itr (fun _ _ => none) (st_X10_monthGoes_2 N K2) M2 (nI k) τ = K2 τ' ∧ Rb b σ' (Al τ' 1) ∧ Inv (Al τ' 1) ∧ (∀ c i, ¬ c = lw + 7 → ¬ (b + 5 ≤ c ∧ c < b + 14) → gi σ' c i = gi σ c i) ∧ ∀ c i, ¬ c = 17 → ¬ c = 18 → ¬ c = 23 → ¬ (c = 1 ∧ 12 ≤ i ∧ i < 84) → gi τ' c i = gi τ c i
  | u, k, 0, _, σ, τ, _, h2, _, _, _, _, _, _ => absurd h2 (by omega)
  | u, k, M1 + 1, 0, σ, τ, _, _, h3, _, _, _, _, _ => absurd h3 (by omega)
  | 0, k, M1 + 1, M2 + 1, σ, τ, h1, _, _, hL, hp, hB, hi, hmo => by
    refine ⟨σ, τ, ?_, ?_, hB, hi, fun _ _ _ _ => rfl, fun _ _ _ _ _ _ => rfl⟩
    · show st_X0_pass_32 N b x1 lw x4 K1 _ (nI k) σ = _
      unfold st_X0_pass_32
      rw [if_pos (show (6 : Int32) ≤ nI k from nI_le (a := 6) (by omega) (by omega))]
    · show st_X10_monthGoes_2 N K2 _ (nI k) τ = _
      unfold st_X10_monthGoes_2
      rw [if_pos (show (6 : Int32) ≤ nI k from nI_le (a := 6) (by omega) (by omega))]
  | u + 1, k, M1 + 1, M2 + 1, σ, τ, h1, h2, h3, hL, hp, hB, hi, hmo => by
    have hlw := isLw_or hL.1
    have hk : k < 6 := by omega
    have hin : inR (nI k) 0 5 := inR_of (a := 0) (b := 5) (Nat.zero_le _) (by omega) (by decide)
    have e2 : gi σ b 2 = gi τ 1 144 := hB.1.2.2.1
    have sC : ∀ rec, st_X0_pass_32 N b x1 lw x4 K1 rec (nI k) σ = if bt (gi τ 1 144) k = true then bd (f_X0_spread N b (nI k) lw σ) (fun _ s6 => rec (nI (k + 1)) s6) else rec (nI (k + 1)) σ := by
      intro rec
      unfold st_X0_pass_32
      simp only [lt_p, nI_1]
      rw [if_neg (show ¬ (6 : Int32) ≤ nI k from nI_ge (b := 6) hk (by decide)), e_force0, bd_some, ite10, e2]
      by_cases h4 : bt (gi τ 1 144) k = true
      · rw [if_pos ⟨hin, (hb_iff _ (by omega)).mpr h4⟩, if_pos h4]
      · rw [if_neg (fun z => h4 ((hb_iff _ (by omega)).mp z.2)), if_neg h4]
    have sM : ∀ rec, st_X10_monthGoes_2 N K2 rec (nI k) τ = if bt (gi τ 1 144) k = true then bd (f_X10_goesOn N (nI k) (nI mo) τ) (fun _ s4 => rec (nI (k + 1)) s4) else rec (nI (k + 1)) τ := by
      intro rec
      unfold st_X10_monthGoes_2
      simp only [lt_p, nI_1, ck_144_151, ix_144, ck_147_151, ix_147]
      rw [if_neg (show ¬ (6 : Int32) ≤ nI k from nI_ge (b := 6) hk (by decide)), e_has, bd_some, ite10, hmo]
      by_cases h4 : bt (gi τ 1 144) k = true
      · rw [if_pos ((hb_iff _ (by omega)).mpr h4), if_pos h4]
      · rw [if_neg (fun z => h4 ((hb_iff _ (by omega)).mp z)), if_neg h4]
    have eC : itr (fun _ _ => none) (st_X0_pass_32 N b x1 lw x4 K1) (M1 + 1) (nI k) σ = _ := sC (itr (fun _ _ => none) (st_X0_pass_32 N b x1 lw x4 K1) M1)
    have eM : itr (fun _ _ => none) (st_X10_monthGoes_2 N K2) (M2 + 1) (nI k) τ = _ := sM (itr (fun _ _ => none) (st_X10_monthGoes_2 N K2) M2)
    by_cases h4 : bt (gi τ 1 144) k = true
    · rw [if_pos h4] at eC eM
      obtain ⟨σ1, τ1, z, f1, f2, f3, f4, f5, f6, _⟩ := s_spread N hN (mo := mo) hbk hk hL hp (by rw [Am_al hmo]; exact hB) hi h4
      rw [f1, bd_some] at eC
      rw [f2, bd_some] at eM
      have hmo1 : gi τ1 1 147 = nI mo := by rw [f6 _ _ (by decide) (by decide) (by decide) (by omega)]; exact hmo
      rw [Am_al hmo1] at f3
      have hL1 : Lw lw LV LX σ1 τ1 := hL.fr (fun c i z1 z2 => f5 c i (by omega) (by omega)) (f6 _ _ (by decide) (by decide) (by decide) (by omega)) (fun c i z1 z2 => f6 _ _ (by omega) (by omega) (by omega) (by omega))
      have hp1 : Rp σ1 τ1 := hp.fr (f5 _ _ (by omega) (by omega)) (fun p q hp hq => f5 _ _ (by omega) (by omega)) (f6 _ _ (by decide) (by decide) (by decide) (by omega)) (fun j _ => f6 _ _ (by decide) (by decide) (by decide) (by omega))
      obtain ⟨σ', τ', r1, r2, r3, r4, r5, r6⟩ := lp_sp N hN hbk K1 K2 u (k + 1) M1 M2 σ1 τ1 (by omega) (by omega) (by omega) hL1 hp1 f3 f4 hmo1
      exact ⟨σ', τ', eC.trans r1, eM.trans r2, r3, r4, fun c i z1 z2 => (r5 c i z1 z2).trans (f5 c i z1 z2), fun c i z1 z2 z3 z4 => (r6 c i z1 z2 z3 z4).trans (f6 c i z1 z2 z3 (by omega))⟩
    · rw [if_neg h4] at eC eM
      obtain ⟨σ', τ', r1, r2, r3⟩ := lp_sp N hN hbk K1 K2 u (k + 1) M1 M2 σ τ (by omega) (by omega) (by omega) hL hp hB hi hmo
      exact ⟨σ', τ', eC.trans r1, eM.trans r2, r3⟩
-- step (2)
theorem e_remembers (N : Nat) {p : Nat} (hp : p < 12) (z : Int32) (τ : Mem) : f_X10_remembers N (nI p) z τ = some ((), si (si (si τ 1 (90 + 3 * p + 2) (gi τ 1 (90 + 3 * p + 1))) 1 (90 + 3 * p + 1) (gi τ 1 (90 + 3 * p))) 1 (90 + 3 * p) z) := by
  unfold f_X10_remembers
  rw [li_90, li_3, pk_mul, nI_add, li_1, li_2, nI_add, nI_add]
  have h1 : ix (nI (90 + 3 * p)) = 90 + 3 * p := ix_n (by omega)
  have h2 : ix (nI (90 + 3 * p + 1)) = 90 + 3 * p + 1 := ix_n (by omega)
  have h3 : ix (nI (90 + 3 * p + 2)) = 90 + 3 * p + 2 := ix_n (by omega)
  simp only [lt_p, h1, h2, h3]
  rw [chk_n (by omega) (by decide), chk_n (by omega) (by decide), chk_n (by omega) (by decide), chk_n (by omega) (by decide), chk_n (by omega) (by decide), gi_ni (show ¬ 90 + 3 * p = 90 + 3 * p + 2 by omega)]
/-- what was read by the parishes below p -/
def Ps (told rn : Int32) (p : Nat) (τ0 τ : Mem) : Prop :=
  (∀ q, p ≤ q → q < 12 → ∀ j, j < 3 → gi τ 1 (90 + 3 * q + j) = gi τ0 1 (90 + 3 * q + j)) ∧
  (∀ q, q < p → q < 12 → (bt told q = true → gi τ 1 (90 + 3 * q) = (if bt rn q = true then 1 else 0) ∧ gi τ 1 (90 + 3 * q + 1) = gi τ0 1 (90 + 3 * q) ∧ gi τ 1 (90 + 3 * q + 2) = gi τ0 1 (90 + 3 * q + 1)) ∧ (bt told q = false → (∀ j, j < 3 → gi τ 1 (90 + 3 * q + j) = gi τ0 1 (90 + 3 * q + j)) ∧ bt rn q = false)) ∧
  ∀ i, p ≤ i → i < 32 → bt rn i = false
def Kq (τ τ' : Mem) : Prop := ∀ c i, ¬ c = 17 → ¬ c = 18 → ¬ (c = 0 ∧ (i = 34 ∨ i = 35)) → ¬ (c = 1 ∧ (i = 149 ∨ i = 150 ∨ (138 ≤ i ∧ i < 144) ∨ (84 ≤ i ∧ i < 126))) → gi τ' c i = gi τ c i
theorem lp_rd (N : Nat) (hN : 300 ≤ N) {b lw : Nat} {LV : LVt} {LX : LXt} (hbk : b = 32 ∨ b = 62) {x1 x4 : Int32} {τ0 : Mem} (K1 : Int32 → Mem → Option (Unit × Mem)) (K2 : Mem → Option (Unit × Mem)) : ∀ (u p M1 M2 : Nat) (rn : Int32) (σ τ : Mem), p + u = 12 → u < M1 → u < M2 → Lw lw LV LX σ τ → gi σ 3 0 = gi τ 1 145 → Rb b σ (Bq τ0 τ) → Inv (Bq τ0 τ) → gi σ b 14 = gi τ 0 34 → gi σ b 15 = gi τ 0 35 → Ps (gi τ 1 145) rn p τ0 τ → ∃ σ' τ' rn', itr (fun _ _ _ => none) (st_X0_pass_68 N b x1 lw x4 K1) M1 rn (nI p) σ = K1 rn' σ' ∧ itr (fun _ _ => none) (st_X10_monthGoes_45 N K2) M2 (nI p) τ = K2 τ' ∧ Rb b σ' (Bq τ0 τ') ∧ Inv (Bq τ0 τ') ∧ gi σ' b 14 = gi τ' 0 34 ∧ gi σ' b 15 = gi τ' 0 35 ∧ Ps (gi τ 1 145) rn' 12 τ0 τ' ∧ Kr b lw σ σ' ∧ Kq τ τ'
  | u, p, 0, _, rn, σ, τ, _, h2, _, _, _, _, _, _, _, _ => absurd h2 (by omega)
  | u, p, M1 + 1, 0, rn, σ, τ, _, _, h3, _, _, _, _, _, _, _ => absurd h3 (by omega)
  | 0, p, M1 + 1, M2 + 1, rn, σ, τ, h1, _, _, hL, h3, hB, hi, hc1, hc2, hP => by
    obtain rfl : p = 12 := by omega
    refine ⟨σ, τ, rn, ?_, ?_, hB, hi, hc1, hc2, hP, fun _ _ _ _ _ _ => rfl, fun _ _ _ _ _ _ => rfl⟩
    · show st_X0_pass_68 N b x1 lw x4 K1 _ rn (nI 12) σ = _
      unfold st_X0_pass_68
      rw [if_pos (by decide)]
    · show st_X10_monthGoes_45 N K2 _ (nI 12) τ = _
      unfold st_X10_monthGoes_45
      rw [if_pos (by decide)]
  | u + 1, p, M1 + 1, M2 + 1, rn, σ, τ, h1, h2, h3', hL, h3, hB, hi, hc1, hc2, hP => by
    have hlw := isLw_or hL.1
    have hp : p < 12 := by omega
    have hin : inR (nI p) 0 11 := inR_of (a := 0) (b := 11) (Nat.zero_le _) (by omega) (by decide)
    have sC : ∀ rec, st_X0_pass_68 N b x1 lw x4 K1 rec rn (nI p) σ = if bt (gi τ 1 145) p = true then bd (f_X0_readOne N b (nI p) lw σ) (fun r14 s13 => if r14 = 0 then rec rn (nI (p + 1)) s13 else rec (rn ||| ((1 : Int32) <<< (nI p &&& 31))) (nI (p + 1)) s13) else rec rn (nI (p + 1)) σ := by
      intro rec
      unfold st_X0_pass_68
      simp only [lt_p, nI_1]
      rw [if_neg (show ¬ (12 : Int32) ≤ nI p from nI_ge (b := 12) hp (by decide)), e_told3, bd_some, ite10, h3]
      by_cases h4 : bt (gi τ 1 145) p = true
      · rw [if_pos ⟨hin, (hb_iff _ (by omega)).mpr h4⟩, if_pos h4]
      · rw [if_neg (fun z => h4 ((hb_iff _ (by omega)).mp z.2)), if_neg h4]
    have sM : ∀ rec, st_X10_monthGoes_45 N K2 rec (nI p) τ = if bt (gi τ 1 145) p = true then bd (f_X10_reads N (nI p) τ) (fun r12 s11 => bd (f_X10_remembers N (nI p) r12 s11) (fun _ s13 => rec (nI (p + 1)) s13)) else rec (nI (p + 1)) τ := by
      intro rec
      unfold st_X10_monthGoes_45
      simp only [lt_p, nI_1]
      rw [if_neg (show ¬ (12 : Int32) ≤ nI p from nI_ge (b := 12) hp (by decide)), e_isParish, bd_some, ite10]
      by_cases h4 : bt (gi τ 1 145) p = true
      · rw [if_pos ⟨hin, (hb_iff _ (by omega)).mpr h4⟩, if_pos h4]
      · rw [if_neg (fun z => h4 ((hb_iff _ (by omega)).mp z.2)), if_neg h4]
    have eC : itr (fun _ _ _ => none) (st_X0_pass_68 N b x1 lw x4 K1) (M1 + 1) rn (nI p) σ = _ := sC (itr (fun _ _ _ => none) (st_X0_pass_68 N b x1 lw x4 K1) M1)
    have eM : itr (fun _ _ => none) (st_X10_monthGoes_45 N K2) (M2 + 1) (nI p) τ = _ := sM (itr (fun _ _ => none) (st_X10_monthGoes_45 N K2) M2)
    obtain ⟨p1, p2, p3⟩ := id hP
    by_cases h4 : bt (gi τ 1 145) p = true
    · rw [if_pos h4] at eC eM
      obtain ⟨σ1, τ1, z, f1, f2, hz, f3, f4, f5, f6, f7, f8⟩ := s_read N hN hbk hp hL hB hi hc1 hc2 (p1 p (Nat.le_refl p) hp)
      rw [f1, bd_some] at eC
      rw [f2, bd_some, e_remembers N hp, bd_some] at eM
      -- the new rn
      obtain ⟨rn1, hrn, hbit⟩ : ∃ rn1, (if z = 0 then itr (fun _ _ _ => none) (st_X0_pass_68 N b x1 lw x4 K1) M1 rn (nI (p + 1)) σ1 else itr (fun _ _ _ => none) (st_X0_pass_68 N b x1 lw x4 K1) M1 (rn ||| ((1 : Int32) <<< (nI p &&& 31))) (nI (p + 1)) σ1) = itr (fun _ _ _ => none) (st_X0_pass_68 N b x1 lw x4 K1) M1 rn1 (nI (p + 1)) σ1 ∧ (z = (if bt rn1 p = true then 1 else 0) ∧ ∀ i, i < 32 → ¬ i = p → bt rn1 i = bt rn i) := by
        rcases hz with rfl | rfl
        · refine ⟨rn, if_pos rfl, ?_, fun _ _ _ => rfl⟩
          rw [p3 p (Nat.le_refl p) (by omega)]; rfl
        · refine ⟨rn ||| ((1 : Int32) <<< (nI p &&& 31)), if_neg (by decide), ?_, fun i i1 i2 => ?_⟩
          · rw [b_set _ (by omega) (by omega)]; simp
          · rw [b_set _ (by omega) i1]; simp [i2]
      rw [hrn] at eC
      have e145 : gi τ1 1 145 = gi τ 1 145 := f8 _ _ (by decide) (by decide) (by omega) (by omega)
      have hpast : ∀ q j, q < 12 → j < 3 → gi τ1 1 (90 + 3 * q + j) = gi τ 1 (90 + 3 * q + j) := fun q j hq hj => f8 _ _ (by decide) (by decide) (by omega) (by omega)
      have hq0 := hpast p 0 hp (by omega)
      have hq1 := hpast p 1 hp (by omega)
      rw [Nat.add_zero] at hq0
      -- the state behind the remembering
      have hne : ∀ c i, ¬ (c = 1 ∧ (i = 90 + 3 * p ∨ i = 90 + 3 * p + 1 ∨ i = 90 + 3 * p + 2)) → gi (si (si (si τ1 1 (90 + 3 * p + 2) (gi τ1 1 (90 + 3 * p + 1))) 1 (90 + 3 * p + 1) (gi τ1 1 (90 + 3 * p))) 1 (90 + 3 * p) z) c i = gi τ1 c i := fun c i h => by
        rw [gi_si, if_neg (by omega), gi_si, if_neg (by omega), gi_si, if_neg (by omega)]
      have v0 : gi (si (si (si τ1 1 (90 + 3 * p + 2) (gi τ1 1 (90 + 3 * p + 1))) 1 (90 + 3 * p + 1) (gi τ1 1 (90 + 3 * p))) 1 (90 + 3 * p) z) 1 (90 + 3 * p) = z := gi_eq _ _ _ _
      have v1 : gi (si (si (si τ1 1 (90 + 3 * p + 2) (gi τ1 1 (90 + 3 * p + 1))) 1 (90 + 3 * p + 1) (gi τ1 1 (90 + 3 * p))) 1 (90 + 3 * p) z) 1 (90 + 3 * p + 1) = gi τ1 1 (90 + 3 * p) := by rw [gi_ni (by omega), gi_eq]
      have v2 : gi (si (si (si τ1 1 (90 + 3 * p + 2) (gi τ1 1 (90 + 3 * p + 1))) 1 (90 + 3 * p + 1) (gi τ1 1 (90 + 3 * p))) 1 (90 + 3 * p) z) 1 (90 + 3 * p + 2) = gi τ1 1 (90 + 3 * p + 1) := by rw [gi_ni (by omega), gi_ni (by omega), gi_eq]
      generalize si (si (si τ1 1 (90 + 3 * p + 2) (gi τ1 1 (90 + 3 * p + 1))) 1 (90 + 3 * p + 1) (gi τ1 1 (90 + 3 * p))) 1 (90 + 3 * p) z = τ2 at eM hne v0 v1 v2
      have hbq : Bq τ0 τ2 = Bq τ0 τ1 := Bq_eq (fun i hi => hne _ _ (by omega))
      have hP2 : Ps (gi τ 1 145) rn1 (p + 1) τ0 τ2 := by
        have z0 := p1 p (Nat.le_refl p) hp 0 (by omega)
        have z1 := p1 p (Nat.le_refl p) hp 1 (by omega)
        rw [Nat.add_zero] at z0
        refine ⟨fun q q1 q2 j hj => ?_, fun q q1 q2 => ?_, fun i i1 i2 => ?_⟩
        · rw [hne _ _ (by omega), hpast q j q2 hj]; exact p1 q (by omega) q2 j hj
        · by_cases e : q = p
          · subst e
            refine ⟨fun _ => ⟨by rw [v0]; exact hbit.1, by rw [v1, hq0]; exact z0, by rw [v2, hq1]; exact z1⟩, fun y => by rw [h4] at y; cases y⟩
          · have hs := p2 q (by omega) q2
            have w0 := hpast q 0 q2 (by omega)
            have w1 := hpast q 1 q2 (by omega)
            have w2 := hpast q 2 q2 (by omega)
            rw [Nat.add_zero] at w0
            rw [hbit.2 q (by omega) e, hne 1 (90 + 3 * q) (by omega), hne 1 (90 + 3 * q + 1) (by omega), hne 1 (90 + 3 * q + 2) (by omega), w0, w1, w2]
            refine ⟨hs.1, fun y => ⟨fun j hj => ?_, (hs.2 y).2⟩⟩
            rw [hne _ _ (by omega), hpast q j q2 hj]
            exact (hs.2 y).1 j hj
        · rw [hbit.2 i i2 (by omega)]; exact p3 i (by omega) i2
      have hL2 : Lw lw LV LX σ1 τ2 := hL.fr (fun c i z1 z2 => f7 c i (by omega) (by omega) (by omega) (by omega)) (by rw [hne _ _ (by omega)]; exact f8 _ _ (by decide) (by decide) (by omega) (by omega)) (fun c i z1 z2 => by rw [hne _ _ (by omega)]; exact f8 _ _ (by omega) (by omega) (by omega) (by omega))
      have e145' : gi τ2 1 145 = gi τ 1 145 := by rw [hne _ _ (by omega)]; exact e145
      obtain ⟨σ', τ', rn', r1, r2, r3, r4, r5, r6, r7, r8, r9⟩ := lp_rd N hN hbk K1 K2 u (p + 1) M1 M2 rn1 σ1 τ2 (by omega) (by omega) (by omega) hL2 (by rw [f7 _ _ (by omega) (by omega) (by omega) (by omega), e145']; exact h3) (by rw [hbq]; exact f3) (by rw [hbq]; exact f4) (by rw [hne _ _ (by omega)]; exact f5) (by rw [hne _ _ (by omega)]; exact f6) (by rw [e145']; exact hP2)
      rw [e145'] at r7
      exact ⟨σ', τ', rn', eC.trans r1, eM.trans r2, r3, r4, r5, r6, r7, fun c i z1 z2 z3 z4 => (r8 c i z1 z2 z3 z4).trans (f7 c i z1 z2 z3 z4), fun c i z1 z2 z3 z4 => ((r9 c i z1 z2 z3 z4).trans (hne c i (by omega))).trans (f8 c i z1 z2 z3 (by omega))⟩
    · rw [if_neg h4] at eC eM
      have h4' : bt (gi τ 1 145) p = false := Bool.eq_false_iff.mpr h4
      have hP2 : Ps (gi τ 1 145) rn (p + 1) τ0 τ := by
        refine ⟨fun q q1 q2 => p1 q (by omega) q2, fun q q1 q2 => ?_, fun i i1 i2 => p3 i (by omega) i2⟩
        by_cases e : q = p
        · subst e
          exact ⟨fun y => absurd y h4, fun _ => ⟨p1 q (Nat.le_refl q) q2, p3 q (Nat.le_refl q) (by omega)⟩⟩
        · exact p2 q (by omega) q2
      obtain ⟨σ', τ', rn', r1, r2, r3⟩ := lp_rd N hN hbk K1 K2 u (p + 1) M1 M2 rn σ τ (by omega) (by omega) (by omega) hL h3 hB hi hc1 hc2 hP2
      exact ⟨σ', τ', rn', eC.trans r1, eM.trans r2, r3⟩
