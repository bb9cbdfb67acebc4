/-! bestMonth: what would be given -/
/-- a LOSS as it is told there, or as it is in truth -/
def tol (τ : Mem) (k p : Nat) : Int32 := if gi τ 1 (12 + 12 * k + p) = -1 then gi τ 1 (132 + k) else gi τ 1 (12 + 12 * k + p)
/-- what is given by p for k, so TIRED, j MONTHS from now -/
def gft (LV : LVt) (τ : Mem) (p k : Nat) (r : Int32) (j : Nat) : Nat := LV 103 999 (fc (nI p) (gi τ 1 p) r (nI k) (tol τ k p) 0 ((gi τ 1 147 + nI j) - (gi τ 1 147 + nI j) / 12 * 12))
theorem gft_k {LV : LVt} {τ τ' : Mem} (h : ∀ i, gi τ' 1 i = gi τ 1 i) (p k : Nat) (r : Int32) (j : Nat) : gft LV τ' p k r j = gft LV τ p k r j := by
  unfold gft tol
  rw [h, h, h, h]
theorem e_gift (N : Nat) (hN : 300 ≤ N) {lw p k j : Nat} {r : Int32} {LV : LVt} {LX : LXt} {σ τ : Mem} (hL : Lw lw LV LX σ τ) (hB : Rb 32 σ (Al τ 1)) (hp : p < 12) (hk : k < 6) : ∃ σ', f_X0_giftBehind N 32 (nI j) (nI p) (nI k) r lw σ = some (nI (gft LV τ p k r j), σ') ∧ KC lw σ σ' := by
  have hlw := isLw_or hL.1
  have hx : ix (nI p) = p := ix_n (by omega)
  have hxk : ix (nI k) = k := ix_n (by omega)
  obtain ⟨σ1, f1, k1, fo1⟩ := e_askOf N lw (nI p) (gi σ (32 + 1) p) r (nI k) σ
  have et : f_X0_taleOrLoss N 32 (nI k) (nI p) σ1 = some (tol τ k p, σ1) := by
    unfold f_X0_taleOrLoss tol
    rw [chk_n hk (by decide), e_hasBit, bd_some, ite10, hxk, hx, k1 _ _ (by omega), k1 _ _ (by omega), k1 _ _ (by omega)]
    rcases hB.2.2.1 k p hk hp with ⟨y1, y2, y3⟩ | ⟨y1, y2⟩
    · have y2' : ¬ gi τ 1 (12 + 12 * k + p) = -1 := y2
      rw [if_pos ((hb_iff _ (by omega)).mpr y1), chk_n hk (by decide), chk_n hp (by decide), if_neg y2']
      have y3' : gi σ (32 + 7 + 1 + k) p = gi τ 1 (12 + 12 * k + p) := y3
      rw [y3']
    · have y2' : gi τ 1 (12 + 12 * k + p) = -1 := y2
      rw [if_neg (fun z => by rw [(hb_iff _ (by omega)).mp z] at y1; cases y1), chk_n hk (by decide), if_pos y2', (hB.2.1 k hk).2.1]
      rfl
  have e11 : gi σ1 32 11 = gi τ 1 147 := by rw [k1 _ _ (by omega)]; exact hB.1.2.2.2.2.1
  have ew : gi σ (32 + 1) p = gi τ 1 p := hB.1.1 p hp
  rw [ew] at f1 fo1
  obtain ⟨σ2, f2, k2, fo2, ff2⟩ := e_askBy N lw (tol τ k p) 0 (gi τ 1 147 + nI j) fo1
  obtain ⟨σ3, w1, w2⟩ := (hL.k (k1.tr k2) (KM.rf τ)).num N hN (kind := 103) (most := 999) (Or.inl rfl) (by decide) ff2
  have w1' : f_X4_number N lw 103 999 σ2 = _ := w1
  unfold f_X0_giftBehind
  rw [chk_n hp (by decide), hx, ew, f1, bd_some, et, bd_some, e11, f2, bd_some, w1', bd_some]
  exact ⟨σ3, rfl, (k1.tr k2).tr (KC.of w2)⟩
theorem e_givenIn (N : Nat) (hN : 300 ≤ N) {lw p k j : Nat} {LV : LVt} {LX : LXt} {σ τ : Mem} (hL : Lw lw LV LX σ τ) (hp : p < 12) (hk : k < 6) : ∃ τ', f_X10_givenIn N (nI p) (nI k) (nI j) τ = some (nI (gft LV τ p k (gi τ 29 0 + gi τ 29 1 + gi τ 29 2) j), τ') ∧ KM τ τ' := by
  obtain ⟨τ1, y1, y2, y3⟩ := e_feels N (nI k) (tol τ k p) 0 (gi τ 29 0 + gi τ 29 1 + gi τ 29 2) (gi τ 1 147 + nI j) τ hp
  obtain ⟨τ2, v1, v2⟩ := (hL.k (KC.rf _ _) y2).numM N hN (kind := 103) (most := 999) (Or.inl rfl) (by decide) y3
  have v1' : f_X10_byLaw N 103 999 τ1 = _ := v1
  refine ⟨τ2, ?_, y2.tr (fun c i z _ => v2 c i z)⟩
  unfold f_X10_givenIn
  simp only [lt_p, e_isKnown N hk hp, bd_some, ck_0_3, ck_1_3, ck_2_3, ck_147_151, ix_0, ix_1, ix_2, ix_147, e_known]
  have h1 : (132 : Int32) + nI k = nI (132 + k) := by rw [li_132, nI_add]
  rw [h1, chk_n (by omega) (by decide), chk_n (by omega) (by decide), ix_n (by omega), ix_n (by omega)]
  by_cases hkn : gi τ 1 (12 + 12 * k + p) = -1
  · have et : tol τ k p = gi τ 1 (132 + k) := if_pos hkn
    rw [et] at y1
    rw [if_pos hkn, if_pos rfl, y1, bd_some, v1', bd_some]
    rfl
  · have et : tol τ k p = gi τ 1 (12 + 12 * k + p) := if_neg hkn
    rw [et] at y1
    rw [if_neg hkn, if_neg (by decide), y1, bd_some, v1', bd_some]
    rfl
/-- what a parish would remember j MONTHS from now, e being read in each -/
def pst (τ : Mem) (p : Nat) (e : Int32) (j i : Nat) : Int32 := if i < j then e else gi τ 1 (90 + 3 * p + (i - j))
theorem pst_s (τ : Mem) (p : Nat) (e : Int32) (j i : Nat) : pst τ p e (j + 1) (i + 1) = pst τ p e j i := by
  unfold pst
  by_cases h : i < j
  · rw [if_pos h, if_pos (by omega)]
  · rw [if_neg h, if_neg (by omega), show i + 1 - (j + 1) = i - j by omega]
def trd (τ : Mem) (p : Nat) (e : Int32) (j : Nat) : Int32 := pst τ p e j 0 + pst τ p e j 1 + pst τ p e j 2
theorem e_tbj (N : Nat) (hN : 10 ≤ N) {b : Nat} {σ τ : Mem} (hB : Rb b σ (Al τ 1)) {p j : Nat} (hp : p < 12) (hj : j < 2 ^ 30) (e : Int32) : f_X0_tiredBehind N b (nI p) (nI j) e σ = some (trd τ p e j, σ) := by
  rw [e_tb N hN b e hj]
  unfold trd pst
  have r : ∀ i, i < 3 → (if i < j then e else rbit σ b p (i - j)) = (if i < j then e else gi τ 1 (90 + 3 * p + (i - j))) := fun i hi => by
    by_cases h : i < j
    · rw [if_pos h, if_pos h]
    · rw [if_neg h, if_neg h, hB.rb1 hp (by omega)]; rfl
  rw [r 0 (by omega), r 1 (by omega), r 2 (by omega)]
theorem e_pastGoes (N : Nat) (e : Int32) (τ : Mem) : f_X10_pastGoes N e τ = some ((), si (si (si τ 29 2 (gi τ 29 1)) 29 1 (gi τ 29 0)) 29 0 e) := by
  unfold f_X10_pastGoes
  simp only [lt_p, ck_0_3, ck_1_3, ck_2_3, ix_0, ix_1, ix_2]
  rw [gi_ni (show ¬ 0 = 2 by decide)]
/-- the reference's row of what would be remembered -/
def Pn (τ0 : Mem) (p : Nat) (e : Int32) (j : Nat) (τ : Mem) : Prop := ∀ i, i < 3 → gi τ 29 i = pst τ0 p e j i
theorem Pn.s {τ0 τ : Mem} {p j : Nat} {e : Int32} (h : Pn τ0 p e j τ) : Pn τ0 p e (j + 1) (si (si (si τ 29 2 (gi τ 29 1)) 29 1 (gi τ 29 0)) 29 0 e) := by
  intro i hi
  rcases (show i = 0 ∨ i = 1 ∨ i = 2 by omega) with rfl | rfl | rfl
  · rw [gi_eq]
    unfold pst
    rw [if_pos (by omega)]
  · rw [gi_ni (by decide), gi_eq, h 0 (by omega), pst_s]
  · rw [gi_ni (by decide), gi_ni (by decide), gi_eq, h 1 (by omega), pst_s]
theorem e_takesPast (N : Nat) (hN : 10 ≤ N) {p : Nat} (hp : p < 12) (e : Int32) (τ : Mem) : ∃ τ', f_X10_takesPast N (nI p) τ = some ((), τ') ∧ Pn τ p e 0 τ' ∧ ∀ c i, ¬ c = 29 → gi τ' c i = gi τ c i := by
  have sl : ∀ rec (i : Nat) (s : Mem), i < 3 → st_X10_takesPast_2 N (nI p) rec (nI i) s = rec (nI (i + 1)) (si s 29 i (gi s 1 (90 + 3 * p + i))) := by
    intro rec i s hi
    unfold st_X10_takesPast_2
    simp only [lt_p, nI_1]
    rw [if_neg (show ¬ (3 : Int32) ≤ nI i from nI_ge (b := 3) hi (by decide)), li_90, li_3, pk_mul, nI_add, nI_add, chk_n (by omega) (by decide), chk_n hi (by decide), ix_n (by omega), ix_n (by omega)]
  have s3 : ∀ rec (s : Mem), st_X10_takesPast_2 N (nI p) rec (nI 3) s = some ((), s) := by
    intro rec s
    unfold st_X10_takesPast_2
    rw [if_pos (by decide)]
  have er : ∀ M s, itr (fun _ _ => none) (st_X10_takesPast_2 N (nI p)) (M + 4) (nI 0) s = some ((), si (si (si s 29 0 (gi s 1 (90 + 3 * p + 0))) 29 1 (gi s 1 (90 + 3 * p + 1))) 29 2 (gi s 1 (90 + 3 * p + 2))) := by
    intro M s
    show st_X10_takesPast_2 N (nI p) (itr (fun _ _ => none) (st_X10_takesPast_2 N (nI p)) (M + 3)) (nI 0) s = _
    rw [sl _ 0 s (by omega)]
    show st_X10_takesPast_2 N (nI p) (itr (fun _ _ => none) (st_X10_takesPast_2 N (nI p)) (M + 2)) (nI (0 + 1)) _ = _
    rw [sl _ 1 _ (by omega)]
    show st_X10_takesPast_2 N (nI p) (itr (fun _ _ => none) (st_X10_takesPast_2 N (nI p)) (M + 1)) (nI (1 + 1)) _ = _
    rw [sl _ 2 _ (by omega)]
    show st_X10_takesPast_2 N (nI p) (itr (fun _ _ => none) (st_X10_takesPast_2 N (nI p)) M) (nI 3) _ = _
    rw [s3, gi_ne (show ¬ 1 = 29 by decide), gi_ne (show ¬ 1 = 29 by decide), gi_ne (show ¬ 1 = 29 by decide)]
  have z := er (N - 4) τ
  rw [show N - 4 + 4 = N by omega] at z
  refine ⟨_, z, fun i hi => ?_, fun c i h => by rw [gi_ne h, gi_ne h, gi_ne h]⟩
  unfold pst
  rw [if_neg (by omega), Nat.sub_zero]
  rcases (show i = 0 ∨ i = 1 ∨ i = 2 by omega) with rfl | rfl | rfl
  · rw [gi_ni (by decide), gi_ni (by decide), gi_eq]
  · rw [gi_ni (by decide), gi_eq]
  · rw [gi_eq]
/-- what bestMonth and readsMost leave alone -/
def Kg (lw : Nat) (σ σ' : Mem) : Prop := ∀ c i, ¬ c = lw + 7 → ¬ (101 ≤ c ∧ c < 111) → gi σ' c i = gi σ c i
def Kh (τ τ' : Mem) : Prop := ∀ c i, ¬ c = 17 → ¬ c = 18 → ¬ (26 ≤ c ∧ c ≤ 29) → gi τ' c i = gi τ c i
theorem lp_best (N : Nat) (hN : 300 ≤ N) {lw p k : Nat} {LV : LVt} {LX : LXt} {σ0 τ0 : Mem} (hL : Lw lw LV LX σ0 τ0) (hB : Rb 32 σ0 (Al τ0 1)) (hp : p < 12) (hk : k < 6) (x3 : Int32) (K : Int32 → Int32 → Mem → Option (Int32 × Mem)) : ∀ (u j M1 M2 : Nat) (σ τ : Mem) (x5 x6 : Int32), j + u = 12 → u < M1 → u < M2 → Kg lw σ0 σ → Kh τ0 τ → Pn τ0 p 0 j τ → gi σ 101 3 = x6 → ∃ σ' τ' z, itr (fun _ _ _ => none) (st_X2_bestOf_11 N (nI p) (nI k) 32 lw) M1 x5 (nI j) σ = some (z, σ') ∧ itr (fun _ _ _ _ => none) (st_X10_bestMonth_41 N (nI p) (nI k) x3 K) M2 x5 x6 (nI j) τ = K z (gi σ' 101 3) τ' ∧ Kg lw σ0 σ' ∧ Kh τ0 τ'
  | u, j, 0, _, σ, τ, x5, x6, _, h2, _, _, _, _, _ => absurd h2 (by omega)
  | u, j, M1 + 1, 0, σ, τ, x5, x6, _, _, h3, _, _, _, _ => absurd h3 (by omega)
  | 0, j, M1 + 1, M2 + 1, σ, τ, x5, x6, h1, _, _, kg, kh, hP, h6 => by
    refine ⟨σ, τ, x5, ?_, ?_, kg, kh⟩
    · show st_X2_bestOf_11 N (nI p) (nI k) 32 lw _ x5 (nI j) σ = _
      unfold st_X2_bestOf_11
      rw [if_pos (show (12 : Int32) ≤ nI j from nI_le (a := 12) (by omega) (by omega))]
    · show st_X10_bestMonth_41 N (nI p) (nI k) x3 K _ x5 x6 (nI j) τ = _
      unfold st_X10_bestMonth_41
      rw [if_pos (show (12 : Int32) ≤ nI j from nI_le (a := 12) (by omega) (by omega)), h6]
  | u + 1, j, M1 + 1, M2 + 1, σ, τ, x5, x6, h1, h2, h3, kg, kh, hP, h6 => by
    have hlw := isLw_or hL.1
    have hα : Al τ 1 = Al τ0 1 := by
      funext i
      exact kh 1 i (by decide) (by decide) (by omega)
    have hB1 : Rb 32 σ (Al τ0 1) := hB.fr (fun c i hc => by unfold Bc at hc; exact kg c i (by omega) (by omega)) (fun _ _ _ => rfl)
    have hL1 : Lw lw LV LX σ τ := hL.fr (fun c i z1 z2 => kg c i (by omega) (by omega)) (kh _ _ (by decide) (by decide) (by omega)) (fun c i z1 z2 => kh c i (by omega) (by omega) (by omega))
    obtain ⟨σ1, f1, f2⟩ := e_gift N hN (lw := lw) (p := p) (k := k) (j := j) (r := trd τ0 p 0 j) (τ := τ) hL1 (by rw [hα]; exact hB1) hp hk
    obtain ⟨τ1, g1, g2⟩ := e_givenIn N hN (p := p) (k := k) (j := j) hL1 hp hk
    have er : gi τ 29 0 + gi τ 29 1 + gi τ 29 2 = trd τ0 p 0 j := by
      rw [hP 0 (by omega), hP 1 (by omega), hP 2 (by omega)]
      rfl
    rw [er] at g1
    generalize gft LV τ p k (trd τ0 p 0 j) j = G at f1 g1
    have hP1 : Pn τ0 p 0 j τ1 := fun i hi => by rw [g2 _ _ (by decide) (by decide)]; exact hP i hi
    have e6 : gi σ1 101 3 = x6 := by rw [f2 _ _ (by omega)]; exact h6
    have sC : ∀ rec, st_X2_bestOf_11 N (nI p) (nI k) 32 lw rec x5 (nI j) σ = if x6 < nI G then rec (nI j) (nI (j + 1)) (si σ1 101 3 (nI G)) else rec x5 (nI (j + 1)) σ1 := by
      intro rec
      unfold st_X2_bestOf_11
      simp only [lt_p, nI_1]
      rw [if_neg (show ¬ (12 : Int32) ≤ nI j from nI_ge (b := 12) (by omega) (by decide)), e_tbj N (by omega) hB1 hp (by omega), bd_some, f1, bd_some, e6]
      by_cases h : x6 < nI G
      · rw [if_neg (Int32.not_le.mpr h), if_pos h]
      · rw [if_pos (Int32.not_lt.mp h), if_neg h]
    have sM : ∀ rec, st_X10_bestMonth_41 N (nI p) (nI k) x3 K rec x5 x6 (nI j) τ = if x6 < nI G then rec (nI j) (nI G) (nI (j + 1)) (si (si (si τ1 29 2 (gi τ1 29 1)) 29 1 (gi τ1 29 0)) 29 0 0) else rec x5 x6 (nI (j + 1)) (si (si (si τ1 29 2 (gi τ1 29 1)) 29 1 (gi τ1 29 0)) 29 0 0) := by
      intro rec
      unfold st_X10_bestMonth_41
      simp only [lt_p, nI_1]
      rw [if_neg (show ¬ (12 : Int32) ≤ nI j from nI_ge (b := 12) (by omega) (by decide)), g1, bd_some, e_pastGoes, bd_some]
    have eC : itr (fun _ _ _ => none) (st_X2_bestOf_11 N (nI p) (nI k) 32 lw) (M1 + 1) x5 (nI j) σ = _ := sC (itr (fun _ _ _ => none) (st_X2_bestOf_11 N (nI p) (nI k) 32 lw) M1)
    have eM : itr (fun _ _ _ _ => none) (st_X10_bestMonth_41 N (nI p) (nI k) x3 K) (M2 + 1) x5 x6 (nI j) τ = _ := sM (itr (fun _ _ _ _ => none) (st_X10_bestMonth_41 N (nI p) (nI k) x3 K) M2)
    have kg1 : Kg lw σ0 σ1 := fun c i z1 z2 => by rw [f2 c i z1]; exact kg c i z1 z2
    have kh1 : Kh τ0 (si (si (si τ1 29 2 (gi τ1 29 1)) 29 1 (gi τ1 29 0)) 29 0 0) := fun c i z1 z2 z3 => by
      rw [gi_ne (by omega), gi_ne (by omega), gi_ne (by omega), g2 c i z1 z2]; exact kh c i z1 z2 z3
    by_cases h : x6 < nI G
    · rw [if_pos h] at eC eM
      obtain ⟨σ', τ', z, r1, r2, r3⟩ := lp_best N hN hL hB hp hk x3 K u (j + 1) M1 M2 (si σ1 101 3 (nI G)) _ (nI j) (nI G) (by omega) (by omega) (by omega) (fun c i z1 z2 => by rw [gi_ne (by omega)]; exact kg1 c i z1 z2) kh1 hP1.s (gi_eq _ _ _ _)
      exact ⟨σ', τ', z, eC.trans r1, eM.trans r2, r3⟩
    · rw [if_neg h] at eC eM
      obtain ⟨σ', τ', z, r1, r2, r3⟩ := lp_best N hN hL hB hp hk x3 K u (j + 1) M1 M2 σ1 _ x5 x6 (by omega) (by omega) (by omega) kg1 kh1 hP1.s e6
      exact ⟨σ', τ', z, eC.trans r1, eM.trans r2, r3⟩
theorem s_bestMonth (N : Nat) (hN : 300 ≤ N) {σ τ : Mem} (hl : Rl σ τ) (hp : Rp σ τ) (hn : Rn σ τ) (x1 x2 x3 : Int32) : ∃ r σ' τ', f_X9_bestMonth N x1 x2 x3 σ = some (r, σ') ∧ f_X10_bestMonth N x1 x2 x3 τ = some (r, τ') ∧ ∃ lw, (lw = 77 ∨ lw = 85) ∧ Kg lw σ σ' ∧ Kh τ τ' := by
  obtain ⟨lw, LV, LX, hlw, h10, hle, hLC, hLM⟩ := hl.law
  have hlw' := isLw_or hlw
  have e146 : gi σ 32 1 = gi τ 1 146 := hn.1.1.2.1
  unfold f_X9_bestMonth f_X10_bestMonth
  simp only [lt_p, e_told3, e_isParish, e_told0, e_isLetterM, e_within, e_in, bd_some, ite10, e146, hp.1]
  by_cases h1 : inR x1 0 11 ∧ hb (gi τ 1 145) x1
  · rw [if_pos h1, if_pos h1]
    by_cases h2 : inR x2 0 5 ∧ hb (gi τ 1 146) x2
    · rw [if_pos h2, if_pos h2]
      by_cases h3 : inR x3 0 1
      · rw [if_pos h3, if_pos h3, h10, ix_b hlw, hlw, ckc_t]
        obtain ⟨p, -, hp', rfl⟩ := inR_n (a := 0) (b := 11) rfl rfl (by decide) (by decide) h1.1
        obtain ⟨k, -, hk', rfl⟩ := inR_n (a := 0) (b := 5) rfl rfl (by decide) (by decide) h2.1
        obtain ⟨τ1, t1, t2, t3⟩ := e_takesPast N (by omega) (p := p) (by omega) 0 τ
        have hL : Lw lw LV LX σ τ := ⟨hlw, hLC, hLM, hle⟩
        obtain ⟨σ', τ', z, r1, r2, r3, r4⟩ := lp_best N hN (p := p) (k := k) hL hn.1 (by omega) (by omega) x3 (fun (x4_16 : Int32) (x5_17 : Int32) (s15 : Mem) => if x3 = 0 then (some (x4_16, s15)) else some (x5_17, s15)) 12 0 N N (si σ 101 3 (-1)) τ1 0 (-1) (by omega) (by omega) (by omega) (fun c i z1 z2 => gi_ne (by omega)) (fun c i z1 z2 z3 => t3 c i (by omega)) t2 (gi_eq _ _ _ _)
        have e1 : f_X2_bestOf N (nI p) (nI k) 32 lw σ = some (z, σ') := r1
        rw [e1, bd_some, t1, bd_some]
        by_cases hx : x3 = 0
        · refine ⟨z, σ', τ', by rw [if_pos hx], ?_, lw, hlw', r3, r4⟩
          refine Eq.trans r2 ?_
          show (if x3 = 0 then (some (z, τ')) else some (gi σ' 101 3, τ')) = _
          rw [if_pos hx]
        · refine ⟨gi σ' 101 3, σ', τ', by rw [if_neg hx], ?_, lw, hlw', r3, r4⟩
          refine Eq.trans r2 ?_
          show (if x3 = 0 then (some (z, τ')) else some (gi σ' 101 3, τ')) = _
          rw [if_neg hx]
      · rw [if_neg h3, if_neg h3]
        exact ⟨-1, σ, τ, rfl, rfl, lw, hlw', fun _ _ _ _ => rfl, fun _ _ _ _ _ => rfl⟩
    · rw [if_neg h2, if_neg h2]
      exact ⟨-1, σ, τ, rfl, rfl, lw, hlw', fun _ _ _ _ => rfl, fun _ _ _ _ _ => rfl⟩
  · rw [if_neg h1, if_neg h1]
    exact ⟨-1, σ, τ, rfl, rfl, lw, hlw', fun _ _ _ _ => rfl, fun _ _ _ _ _ => rfl⟩
