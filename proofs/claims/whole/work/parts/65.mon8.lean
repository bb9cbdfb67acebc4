/-! months, tried, lent -/
theorem Kx.rf (b lw : Nat) (σ : Mem) : Kx b lw σ σ := fun _ _ _ _ => rfl
theorem Ky.rf (τ : Mem) : Ky τ τ := fun _ _ _ _ _ _ _ => rfl
theorem Kx.tr {b lw : Nat} {σ σ1 σ2 : Mem} (h : Kx b lw σ σ1) (h1 : Kx b lw σ1 σ2) : Kx b lw σ σ2 := fun c i z1 z2 => (h1 c i z1 z2).trans (h c i z1 z2)
theorem Ky.tr {τ τ1 τ2 : Mem} (h : Ky τ τ1) (h1 : Ky τ1 τ2) : Ky τ τ2 := fun c i z1 z2 z3 z4 z5 => (h1 c i z1 z2 z3 z4 z5).trans (h c i z1 z2 z3 z4 z5)
theorem lp_pass (N : Nat) (hN : 300 ≤ N) {b lw n : Nat} {LV : LVt} {LX : LXt} {c0 : Int32} (hbk : b = 32 ∨ b = 62) (hn : n ≤ 60) : ∀ (u i M1 M2 : Nat) (σ τ : Mem), i + u = n → u < M1 → u < M2 → Mr b lw LV LX c0 σ τ → ∃ σ' τ', itr (fun _ _ => none) (st_X0_pass_13 N b (nI n) lw) M1 (nI i) σ = some ((), σ') ∧ itr (fun _ _ => none) (st_X10_monthsGo_17 N (nI n)) M2 (nI i) τ = some ((), τ') ∧ Mr b lw LV LX c0 σ' τ' ∧ Kx b lw σ σ' ∧ Ky τ τ'
  | u, i, 0, _, σ, τ, _, h2, _, _ => absurd h2 (by omega)
  | u, i, M1 + 1, 0, σ, τ, _, _, h3, _ => absurd h3 (by omega)
  | 0, i, M1 + 1, M2 + 1, σ, τ, h1, _, _, hM => by
    refine ⟨σ, τ, ?_, ?_, hM, Kx.rf _ _ _, Ky.rf _⟩
    · show st_X0_pass_13 N b (nI n) lw _ (nI i) σ = _
      unfold st_X0_pass_13
      rw [if_pos (nI_le (by omega) (by omega))]
    · show st_X10_monthsGo_17 N (nI n) _ (nI i) τ = _
      unfold st_X10_monthsGo_17
      rw [if_pos (nI_le (by omega) (by omega))]
  | u + 1, i, M1 + 1, M2 + 1, σ, τ, h1, h2, h3, hM => by
    obtain ⟨mo, hmo, emo⟩ := hM.2.1.2.1.2.2.1
    have emo' : gi τ 1 147 = nI mo := emo
    have ec : gi σ b 11 = nI mo := hM.2.1.1.1.2.2.2.2.1.trans emo
    have eC : itr (fun _ _ => none) (st_X0_pass_13 N b (nI n) lw) (M1 + 1) (nI i) σ = st_X0_pass_13 N b (nI n) lw (itr (fun _ _ => none) (st_X0_pass_13 N b (nI n) lw) M1) (nI i) σ := rfl
    have eM : itr (fun _ _ => none) (st_X10_monthsGo_17 N (nI n)) (M2 + 1) (nI i) τ = st_X10_monthsGo_17 N (nI n) (itr (fun _ _ => none) (st_X10_monthsGo_17 N (nI n)) M2) (nI i) τ := rfl
    by_cases h9 : mo < 9999
    · obtain ⟨σ1, τ1, f1, f2, f3, f4, f5, f6⟩ := s_month N hN (x1 := nI n) (x4 := nI i) hbk hM emo' h9 (itr (fun _ _ => none) (st_X0_pass_13 N b (nI n) lw) M1)
      have e1 : itr (fun _ _ => none) (st_X0_pass_13 N b (nI n) lw) (M1 + 1) (nI i) σ = itr (fun _ _ => none) (st_X0_pass_13 N b (nI n) lw) M1 (nI (i + 1)) σ1 := by
        rw [eC]
        revert f1
        generalize itr (fun _ _ => none) (st_X0_pass_13 N b (nI n) lw) M1 = rec
        intro f1
        unfold st_X0_pass_13
        rw [if_neg (nI_ge (by omega) (by omega)), ec, if_neg (show ¬ (9999 : Int32) ≤ nI mo from nI_ge (b := 9999) h9 (by decide)), f1, nI_1]
      have e2 : itr (fun _ _ => none) (st_X10_monthsGo_17 N (nI n)) (M2 + 1) (nI i) τ = itr (fun _ _ => none) (st_X10_monthsGo_17 N (nI n)) M2 (nI (i + 1)) τ1 := by
        rw [eM]
        generalize itr (fun _ _ => none) (st_X10_monthsGo_17 N (nI n)) M2 = rec
        unfold st_X10_monthsGo_17
        rw [if_neg (nI_ge (by omega) (by omega)), ck_147_151, ix_147, emo', if_neg (show ¬ (9999 : Int32) ≤ nI mo from nI_ge (b := 9999) h9 (by decide)), f2, bd_some, lt_p, nI_1]
      obtain ⟨σ', τ', r1, r2, r3, r4, r5⟩ := lp_pass N hN hbk hn u (i + 1) M1 M2 σ1 τ1 (by omega) (by omega) (by omega) f3
      exact ⟨σ', τ', e1.trans r1, e2.trans r2, r3, f5.tr r4, f6.tr r5⟩
    · refine ⟨σ, τ, ?_, ?_, hM, Kx.rf _ _ _, Ky.rf _⟩
      · rw [eC]
        unfold st_X0_pass_13
        rw [if_neg (nI_ge (by omega) (by omega)), ec, if_pos (show (9999 : Int32) ≤ nI mo from nI_le (a := 9999) (by omega) (by omega))]
      · rw [eM]
        unfold st_X10_monthsGo_17
        rw [if_neg (nI_ge (by omega) (by omega)), ck_147_151, ix_147, emo', if_pos (show (9999 : Int32) ≤ nI mo from nI_le (a := 9999) (by omega) (by omega))]
def Hz (τ : Mem) : Prop := ∀ p, p < 12 → bt (gi τ 1 145) p = false → ∀ j, j < 3 → gi τ 1 (90 + 3 * p + j) = 0
theorem s_pass (N : Nat) (hN : 300 ≤ N) {b lw n : Nat} {LV : LVt} {LX : LXt} {σ τ : Mem} (hbk : b = 32 ∨ b = 62) (hn : n ≤ 60) (hL : Lw lw LV LX σ τ) (hp : Rp σ τ) (hB : Rb b σ (Al τ 1)) (hi : Inv (Al τ 1)) (hz : Hz τ) : ∃ σ' τ', f_X0_pass N b (nI n) lw σ = some ((), σ') ∧ f_X10_monthsGo N (nI n) τ = some ((), τ') ∧ Mr b lw LV LX (gi τ 1 148) σ' τ' ∧ Kx b lw σ σ' ∧ Ky τ τ' := by
  have hlw := isLw_or hL.1
  have kα : Al (si (si (si τ 0 34 0) 0 35 0) 0 36 0) 1 = Al τ 1 := by
    rw [Al_ne (by decide), Al_ne (by decide), Al_ne (by decide)]
  have k1 : ∀ c i, ¬ c = 0 → gi (si (si (si τ 0 34 0) 0 35 0) 0 36 0) c i = gi τ c i := fun c i h => by rw [gi_ne h, gi_ne h, gi_ne h]
  have k2 : ∀ c i, ¬ c = b → gi (si (si σ b 14 0) b 15 0) c i = gi σ c i := fun c i h => by rw [gi_ne h, gi_ne h]
  have hM : Mr b lw LV LX (gi τ 1 148) (si (si σ b 14 0) b 15 0) (si (si (si τ 0 34 0) 0 35 0) 0 36 0) := by
    refine ⟨⟨hL.fr (fun c i z1 z2 => k2 c i (by omega)) (by rw [gi_ni (by decide), gi_ni (by decide), gi_ni (by decide)]) (fun c i z1 z2 => k1 c i (by omega)), hp.fr (k2 _ _ (by omega)) (fun p q hp hq => k2 _ _ (by omega)) (k1 _ _ (by decide)) (fun j _ => k1 _ _ (by decide))⟩, ⟨?_, ?_⟩, fun p hp ht j hj => ?_, ⟨?_, ?_⟩, ?_⟩
    · rw [kα]
      exact hB.fr (fun c i hc => by unfold Bc at hc; rw [gi_si, if_neg (by omega), gi_si, if_neg (by omega)]) (fun _ _ _ => rfl)
    · rw [kα]; exact hi
    · rw [k1 _ _ (by decide)] at ht ⊢
      exact hz p hp ht j hj
    · rw [gi_ni (by decide), gi_eq, gi_ni (by decide), gi_ni (by decide), gi_eq]
    · rw [gi_eq, gi_ni (by decide), gi_eq]
    · rw [k1 _ _ (by decide), gi_eq, Int32.add_zero]
  obtain ⟨σ', τ', r1, r2, r3, r4, r5⟩ := lp_pass N hN hbk hn n 0 N N _ _ (by omega) (by omega) (by omega) hM
  refine ⟨σ', τ', r1, r2, r3, fun c i z1 z2 => ?_, fun c i z1 z2 z3 z4 z5 => ?_⟩
  · rw [r4 c i z1 z2]; exact k2 c i (by omega)
  · rw [r5 c i z1 z2 z3 z4 z5, gi_si, if_neg (by omega), gi_si, if_neg (by omega), gi_si, if_neg (by omega)]
/-- what is remembered where nobody was told -/
def Rz (σ : Mem) : Prop := (∀ p, p < 12 → bt (gi σ 3 0) p = false → ∀ j, j < 3 → bt (gi σ 46 j) p = false) ∧ (gi σ 0 11 = 1 → ∀ p, p < 12 → bt (gi σ 3 0) p = false → ∀ j, j < 3 → bt (gi σ 61 j) p = false)
theorem Rz.hz {σ τ : Mem} (h : Rz σ) (hp : Rp σ τ) (hB : Rb 32 σ (Al τ 1)) : Hz τ := fun p hp' ht j hj => by
  rw [← hp.1] at ht
  have h1 := h.1 p hp' ht j hj
  rcases hB.2.2.2.2 p j hp' hj with ⟨y, _⟩ | ⟨_, y⟩
  · rw [show 32 + 14 = 46 from rfl, h1] at y; cases y
  · exact y
theorem Rz.of {σ τ : Mem} (hp : Rp σ τ) (hB : Rb 32 σ (Al τ 1)) (hz : Hz τ) : ∀ p, p < 12 → bt (gi σ 3 0) p = false → ∀ j, j < 3 → bt (gi σ 46 j) p = false := fun p hp' ht j hj => by
  rw [hp.1] at ht
  rcases hB.2.2.2.2 p j hp' hj with ⟨_, y⟩ | ⟨y, _⟩
  · have := hz p hp' ht j hj
    have y' : gi τ 1 (90 + 3 * p + j) = 1 := y
    rw [this] at y'
    exact absurd y' (by decide)
  · exact y
theorem s_months (N : Nat) (hN : 300 ≤ N) {σ τ : Mem} (hl : Rl σ τ) (hp : Rp σ τ) (hn : Rn σ τ) (hz : Rz σ) (x1 : Int32) : ∃ r σ' τ', f_X9_months N x1 σ = some (r, σ') ∧ f_X10_months N x1 τ = some (r, τ') ∧ Rn σ' τ' ∧ Rz σ' ∧ ∃ lw, (lw = 77 ∨ lw = 85) ∧ Kx 32 lw σ σ' ∧ Ky τ τ' := by
  obtain ⟨lw, LV, LX, hlw, h10, hle, hLC, hLM⟩ := hl.law
  have hlw' := isLw_or hlw
  unfold f_X9_months f_X10_months
  rw [e_within, e_in, bd_some, bd_some, ite10, ite10]
  by_cases h1 : inR x1 1 60
  · obtain ⟨n, -, hn2, rfl⟩ := inR_n (a := 1) (b := 60) rfl rfl (by decide) (by decide) h1
    rw [if_pos h1, if_pos h1, lt_p, h10, ix_b hlw, hlw, ckc_t]
    obtain ⟨σ', τ', r1, r2, r3, r4, r5⟩ := s_pass N hN (b := 32) (Or.inl rfl) hn2 ⟨hlw, hLC, hLM, hle⟩ hp hn.1 hn.2.1 (hz.hz hp hn.1)
    rw [r1, bd_some, r2, bd_some]
    obtain ⟨⟨m1, m2⟩, ⟨m3, m4⟩, m5, ⟨m6, m7⟩, m8⟩ := r3
    have e145 : gi τ' 1 145 = gi τ 1 145 := r5 _ _ (by decide) (by decide) (by decide) (by omega) (by omega)
    refine ⟨gi τ' 0 34, σ', τ', by rw [m6], rfl, ⟨m3, m4, ?_⟩, ⟨Rz.of m2 m3 m5, fun hk p hp' ht j hj => ?_⟩, lw, hlw', r4, r5⟩
    · rw [e145]
      exact hn.2.2.fr (fun i hi => r5 _ _ (by decide) (by decide) (by decide) (by omega) (by omega))
    · rw [r4 _ _ (by omega) (by omega)] at hk ht ⊢
      exact hz.2 hk p hp' ht j hj
  · rw [if_neg h1, if_neg h1]
    exact ⟨-1, σ, τ, rfl, rfl, hn, hz, lw, hlw', Kx.rf _ _ _, Ky.rf _⟩
-- tried
theorem sub10 {x : Int32} : inR (x - 10) 0 5 ↔ ∃ k, k < 6 ∧ x = nI (10 + k) := by
  constructor
  · intro h
    obtain ⟨k, -, hk, e⟩ := inR_n (a := 0) (b := 5) rfl rfl (by decide) (by decide) h
    refine ⟨k, by omega, ?_⟩
    have := congrArg (fun y => y + 10) e
    simp only [Int32.sub_add_cancel] at this
    rw [this, li_10, nI_add, Nat.add_comm]
  · rintro ⟨k, hk, rfl⟩
    rw [li_10, pk_sub (by omega), show 10 + k - 10 = k by omega]
    exact inR_of (a := 0) (b := 5) (Nat.zero_le _) (by omega) (by decide)
/-- the trial: months on the books aside, and on the reference's row with its copy aside -/
theorem s_trial (N : Nat) (hN : 300 ≤ N) {lw n : Nat} {LV : LVt} {LX : LXt} {σ τ : Mem} (hn60 : n ≤ 60) (hL : Lw lw LV LX σ τ) (hp : Rp σ τ) (hn : Rn σ τ) (hz : Hz τ) : ∃ σ1 σ2 τ1 τ2, f_X0_copy N 62 32 σ = some ((), σ1) ∧ f_X10_copies N 1 2 τ = some ((), τ1) ∧ f_X0_pass N 62 (nI n) lw σ1 = some ((), σ2) ∧ f_X10_monthsGo N (nI n) τ1 = some ((), τ2) ∧ Mr 62 lw LV LX (gi τ 1 148) σ2 τ2 ∧ (∀ c i, ¬ c = lw + 7 → ¬ (62 ≤ c ∧ c < 77) → gi σ2 c i = gi σ c i) ∧ (∀ c i, ¬ c = 17 → ¬ c = 18 → ¬ c = 23 → ¬ c = 1 → ¬ c = 2 → ¬ (c = 0 ∧ (i = 34 ∨ i = 35 ∨ i = 36)) → gi τ2 c i = gi τ c i) ∧ (∀ i, i < 151 → gi τ2 2 i = gi τ 1 i) ∧ gi σ1 0 10 = gi σ 0 10 := by
  have hlw := isLw_or hL.1
  obtain ⟨σ1, e1, c1, c2⟩ := e_copy N (by omega) (b := 62) (x := 32) (by omega) σ
  obtain ⟨τ1, e2, d1⟩ := e_copies N (by omega) (a := 1) (b := 2) rfl rfl (by decide) τ
  have fr := fun c i hw => (fr_X0_copy N 62 32 σ _ _ e1 c i hw).1
  have f1 : ∀ c i, ¬ (62 ≤ c ∧ c < 77) → gi σ1 c i = gi σ c i := fun c i h => fr c i (by unfold W_X0_copy; omega)
  have g1 : ∀ c i, ¬ c = 2 → gi τ1 c i = gi τ c i := fun c i h => by rw [d1, if_neg (fun z => h z.1)]
  have hα : Al τ1 1 = Al τ 1 := by
    funext i
    exact g1 1 i (by decide)
  obtain ⟨σ2, τ2, r1, r2, r3, r4, r5⟩ := s_pass N hN (b := 62) (n := n) (LV := LV) (LX := LX) (σ := σ1) (τ := τ1) (Or.inr rfl) hn60 (hL.fr (fun c i z1 z2 => f1 c i (by omega)) (g1 _ _ (by decide)) (fun c i z1 z2 => g1 _ _ (by omega))) (hp.fr (f1 _ _ (by omega)) (fun p q hp hq => f1 _ _ (by omega)) (g1 _ _ (by decide)) (fun j _ => g1 _ _ (by decide))) (by rw [hα]; exact Rb.cp (b := 62) hn.1 c1 c2) (by rw [hα]; exact hn.2.1) (fun p hp' ht j hj => by rw [g1 _ _ (by decide)] at ht ⊢; exact hz p hp' ht j hj)
  rw [g1 1 148 (by decide)] at r3
  refine ⟨σ1, σ2, τ1, τ2, e1, e2, r1, r2, r3, fun c i z1 z2 => ?_, fun c i z1 z2 z3 z4 z5 z6 => ?_, fun i hi => ?_, f1 _ _ (by omega)⟩
  · rw [r4 c i z1 (by omega)]; exact f1 c i z2
  · rw [r5 c i z1 z2 z3 z6 (by omega)]; exact g1 c i z5
  · rw [r5 _ _ (by decide) (by decide) (by decide) (by omega) (by omega), d1, if_pos ⟨rfl, hi⟩]
/-- behind a trial the reference's row is as it was -/
theorem s_back (N : Nat) (hN : 300 ≤ N) {τ τ2 : Mem} (h2 : ∀ i, i < 151 → gi τ2 2 i = gi τ 1 i) : ∃ τ3, f_X10_copies N 2 1 τ2 = some ((), τ3) ∧ (∀ i, i < 151 → gi τ3 1 i = gi τ 1 i) ∧ ∀ c i, ¬ c = 1 → gi τ3 c i = gi τ2 c i := by
  obtain ⟨τ3, e, d⟩ := e_copies N (by omega) (a := 2) (b := 1) rfl rfl (by decide) τ2
  refine ⟨τ3, e, fun i hi => ?_, fun c i h => ?_⟩
  · rw [d, if_pos ⟨rfl, hi⟩]; exact h2 i hi
  · rw [d, if_neg (fun z => h z.1)]
/-- what a trial leaves alone -/
def Kt (σ σ' : Mem) : Prop := ∀ c i, ¬ c = 84 → ¬ c = 92 → ¬ (62 ≤ c ∧ c < 77) → gi σ' c i = gi σ c i
def Kv (τ τ' : Mem) : Prop := (∀ i, i < 151 → gi τ' 1 i = gi τ 1 i) ∧ ∀ c i, ¬ c = 17 → ¬ c = 18 → ¬ c = 23 → ¬ c = 1 → ¬ c = 2 → ¬ (c = 0 ∧ (i = 34 ∨ i = 35 ∨ i = 36)) → gi τ' c i = gi τ c i
theorem Kt.rf (σ : Mem) : Kt σ σ := fun _ _ _ _ _ => rfl
theorem Kv.rf (τ : Mem) : Kv τ τ := ⟨fun _ _ => rfl, fun _ _ _ _ _ _ _ _ => rfl⟩
theorem s_tried (N : Nat) (hN : 300 ≤ N) {σ τ : Mem} (hl : Rl σ τ) (hp : Rp σ τ) (hn : Rn σ τ) (hz : Rz σ) (x1 x2 : Int32) : ∃ r σ' τ', f_X9_tried N x1 x2 σ = some (r, σ') ∧ f_X10_tried N x1 x2 τ = some (r, τ') ∧ Kt σ σ' ∧ Kv τ τ' := by
  obtain ⟨lw, LV, LX, hlw, h10, hle, hLC, hLM⟩ := hl.law
  have hlw' := isLw_or hlw
  unfold f_X9_tried f_X10_tried
  rw [e_within, e_in, bd_some, bd_some, ite10, ite10]
  by_cases h1 : inR x1 1 60
  · obtain ⟨n, -, hn2, rfl⟩ := inR_n (a := 1) (b := 60) rfl rfl (by decide) (by decide) h1
    obtain ⟨σ1, σ2, τ1, τ2, e1, e2, e3, e4, e5, e6, e7, e8, e9⟩ := s_trial N hN (n := n) hn2 ⟨hlw, hLC, hLM, hle⟩ hp hn (hz.hz hp hn.1)
    obtain ⟨τ3, b1, b2, b3⟩ := s_back N hN e8
    obtain ⟨⟨m1, m2⟩, ⟨m3, m4⟩, m5, ⟨m6, m7⟩, m8⟩ := e5
    have kt : Kt σ σ2 := fun c i z1 z2 z3 => e6 c i (by omega) z3
    have kv : Kv τ τ3 := ⟨b2, fun c i z1 z2 z3 z4 z5 z6 => by rw [b3 c i z4]; exact e7 c i z1 z2 z3 z4 z5 z6⟩
    rw [if_pos h1, if_pos h1]
    simp only [lt_p, e_within, e_in, e_told0, e_isLetterM, bd_some, ite10, e1, e2, e9, h10, ix_b hlw, hlw, ckc_t, e3, e4, ck_149_151, ix_149]
    by_cases h2 : inR x2 0 3
    · rw [if_pos h2, if_pos h2]
      obtain ⟨w, -, hw, rfl⟩ := inR_n (a := 0) (b := 3) rfl rfl (by decide) (by decide) h2
      rcases (show w = 0 ∨ w = 1 ∨ w = 2 ∨ w = 3 by omega) with rfl | rfl | rfl | rfl
      · rw [if_pos (show nI 0 = 0 from rfl), if_pos (show nI 0 = 0 from rfl), b1, bd_some]
        exact ⟨gi τ2 0 34, σ2, τ3, by rw [m6], rfl, kt, kv⟩
      · rw [if_neg (show ¬ nI 1 = 0 by decide), if_pos (show nI 1 = 1 from rfl), if_neg (show ¬ nI 1 = 0 by decide), if_pos (show nI 1 = 1 from rfl), b1, bd_some]
        exact ⟨gi τ2 0 35, σ2, τ3, by rw [m7], rfl, kt, kv⟩
      · rw [if_neg (show ¬ nI 2 = 0 by decide), if_neg (show ¬ nI 2 = 1 by decide), if_pos (show nI 2 = 2 from rfl), if_neg (show ¬ nI 2 = 0 by decide), if_neg (show ¬ nI 2 = 1 by decide), if_pos (show nI 2 = 2 from rfl), b1, bd_some]
        have a1 : gi σ2 62 10 = gi τ2 1 149 := m3.1.2.2.2.1
        have a2 : gi σ2 32 10 = gi τ2 2 149 := by
          rw [e6 _ _ (by omega) (by omega), e8 149 (by omega)]; exact hn.1.1.2.2.2.1
        exact ⟨gi τ2 1 149 - gi τ2 2 149, σ2, τ3, by rw [a1, a2], rfl, kt, kv⟩
      · rw [if_neg (show ¬ nI 3 = 0 by decide), if_neg (show ¬ nI 3 = 1 by decide), if_neg (show ¬ nI 3 = 2 by decide), if_pos (show nI 3 = 3 from rfl), if_neg (show ¬ nI 3 = 0 by decide), if_neg (show ¬ nI 3 = 1 by decide), if_neg (show ¬ nI 3 = 2 by decide), if_pos (show nI 3 = 3 from rfl), b1, bd_some]
        have a1 : gi σ2 62 12 = gi τ2 1 148 := m3.1.2.2.2.2.2.1
        have a2 : gi σ2 32 12 = gi τ 1 148 := by
          rw [e6 _ _ (by omega) (by omega)]; exact hn.1.1.2.2.2.2.2.1
        refine ⟨gi τ2 0 36, σ2, τ3, ?_, rfl, kt, kv⟩
        rw [a1, a2, m8, Int32.add_comm, Int32.add_sub_cancel]
    · rw [if_neg h2, if_neg h2]
      have e146 : gi σ 32 1 = gi τ 1 146 := hn.1.1.2.1
      by_cases h3 : inR (x2 - 10) 0 5
      · obtain ⟨k, hk, rfl⟩ := sub10.mp h3
        have hs : nI (10 + k) - 10 = nI k := by rw [li_10, pk_sub (by omega), show 10 + k - 10 = k by omega]
        rw [hs] at h3 ⊢
        have h15 : inR (nI (10 + k)) 10 15 := inR_of (a := 10) (b := 15) (by omega) (by omega) (by decide)
        rw [if_pos h15, e146]
        by_cases h4 : hb (gi τ 1 146) (nI k)
        · rw [if_pos (show inR (nI k) 0 5 ∧ hb (gi τ 1 146) (nI k) from ⟨h3, h4⟩), if_pos (show inR (nI k) 0 5 ∧ hb (gi τ 1 146) (nI k) from ⟨h3, h4⟩), if_neg (show ¬ nI (10 + k) = 0 from nI_nq (b := 0) (by omega) (by omega) (by omega)), if_neg (show ¬ nI (10 + k) = 1 from nI_nq (b := 1) (by omega) (by omega) (by omega)), if_neg (show ¬ nI (10 + k) = 2 from nI_nq (b := 2) (by omega) (by omega) (by omega)), if_neg (show ¬ nI (10 + k) = 3 from nI_nq (b := 3) (by omega) (by omega) (by omega)), if_neg (show ¬ nI (10 + k) = 0 from nI_nq (b := 0) (by omega) (by omega) (by omega)), if_neg (show ¬ nI (10 + k) = 1 from nI_nq (b := 1) (by omega) (by omega) (by omega)), if_neg (show ¬ nI (10 + k) = 2 from nI_nq (b := 2) (by omega) (by omega) (by omega)), if_neg (show ¬ nI (10 + k) = 3 from nI_nq (b := 3) (by omega) (by omega) (by omega))]
          have hs2 : (138 : Int32) + nI (10 + k) - 10 = nI (138 + k) := by rw [li_138, nI_add, li_10, pk_sub (by omega), show 138 + (10 + k) - 10 = 138 + k by omega]
          rw [hs2, chk_n (by omega) (by decide), b1, bd_some, ix_n (by omega)]
          unfold f_X0_fundOf
          rw [e_isLetterC, bd_some, ite10, if_pos h3, chk_n hk (by decide), bd_some, ix_n (by omega)]
          refine ⟨gi τ2 1 (138 + k), σ2, τ3, ?_, rfl, kt, kv⟩
          rw [(m3.2.1 k hk).2.2.1]
          rfl
        · rw [if_neg (fun z => h4 z.2), if_neg (fun z => h4 z.2)]
          exact ⟨-1, σ, τ, rfl, rfl, Kt.rf _, Kv.rf _⟩
      · rw [if_neg (show ¬ (inR (x2 - 10) 0 5 ∧ hb (gi σ 32 1) (x2 - 10)) from fun z => h3 z.1), if_neg (show ¬ (inR (x2 - 10) 0 5 ∧ hb (gi τ 1 146) (x2 - 10)) from fun z => h3 z.1)]
        refine ⟨-1, σ, τ, rfl, ?_, Kt.rf _, Kv.rf _⟩
        by_cases h15 : inR x2 10 15
        · rw [if_pos h15]
        · rw [if_neg h15]
  · rw [if_neg h1, if_neg h1]
    exact ⟨-1, σ, τ, rfl, rfl, Kt.rf _, Kv.rf _⟩
