/-! spreads: month behind month -/
theorem nI_nm2 {n : Nat} (h : n < 2 ^ 31) : ¬ nI n = -2 := fun q => by
  have := nI_pos h
  rw [q] at this
  exact this (by decide)
theorem m12 {mo : Nat} (h : mo < 2 ^ 31) : nI mo - nI mo / 12 * 12 = nI (mo % 12) := by
  have d1 : nI mo / 12 = nI (mo / 12) := pk_div (d := 12) h (by decide) (by decide)
  rw [d1, li_12, pk_mul, pk_sub (by omega)]
  congr 1
  omega
theorem Hc_mod {LX : LXt} {mo mo' k p : Nat} {τ : Mem} (h : mo < 2 ^ 31) (h' : mo' < 2 ^ 31) (e : mo % 12 = mo' % 12) : Hc LX mo k τ p = Hc LX mo' k τ p := by
  unfold Hc
  rw [m12 h, m12 h', e]
theorem Hc_k {LX : LXt} {mo k p : Nat} {τ τ' : Mem} (h1 : ∀ i, gi τ' 1 i = gi τ 1 i) (h4 : ∀ i, gi τ' 4 i = gi τ 4 i) : Hc LX mo k τ' p = Hc LX mo k τ p := by
  unfold Hc
  simp only [hrs_k (τ := τ) h1 h4, h1]
theorem Am_up {τ : Mem} {mo mo' : Nat} : va_up (Am τ mo) 147 (nI mo') = Am τ mo' := by
  funext i
  by_cases z : i = 147
  · rw [z, up_eq]; exact up_eq.symm
  · rw [up_ne z]
    unfold Am
    rw [up_ne z, up_ne z]
def Sr (LV : LVt) (LX : LXt) (k lw mo0 j : Nat) (σ τ : Mem) : Prop := (Lw lw LV LX σ τ ∧ Rp σ τ) ∧ (Rb 62 σ (Am τ (mo0 + j)) ∧ Inv (Al τ 1)) ∧ gi τ 1 147 = nI mo0 ∧ bt (gi τ 1 144) k = true
def Bx (k : Nat) (σ τ : Mem) : Prop := ∀ p, p < 12 → gi σ 102 p = gi τ 24 p ∧ ((gi τ 24 p = -2 ∧ gi τ 1 (12 + 12 * k + p) = -1) ∨ (∃ m, m ≤ 100 ∧ gi τ 24 p = nI m ∧ ¬ gi τ 1 (12 + 12 * k + p) = -1))
def Ka (lw : Nat) (σ σ' : Mem) : Prop := ∀ c i, ¬ c = lw + 7 → ¬ (62 ≤ c ∧ c < 77) → ¬ c = 102 → gi σ' c i = gi σ c i
def Kb (k : Nat) (τ τ' : Mem) : Prop := ∀ c i, ¬ c = 17 → ¬ c = 18 → ¬ c = 23 → ¬ c = 24 → ¬ (c = 1 ∧ 12 + 12 * k ≤ i ∧ i < 24 + 12 * k) → gi τ' c i = gi τ c i
theorem Ka.rf (lw : Nat) (σ : Mem) : Ka lw σ σ := fun _ _ _ _ _ => rfl
theorem Kb.rf (k : Nat) (τ : Mem) : Kb k τ τ := fun _ _ _ _ _ _ _ => rfl
theorem Ka.tr {lw : Nat} {σ σ1 σ2 : Mem} (h : Ka lw σ σ1) (h1 : Ka lw σ1 σ2) : Ka lw σ σ2 := fun c i z1 z2 z3 => (h1 c i z1 z2 z3).trans (h c i z1 z2 z3)
theorem Kb.tr {k : Nat} {τ τ1 τ2 : Mem} (h : Kb k τ τ1) (h1 : Kb k τ1 τ2) : Kb k τ τ2 := fun c i z1 z2 z3 z4 z5 => (h1 c i z1 z2 z3 z4 z5).trans (h c i z1 z2 z3 z4 z5)
/-- a month -/
theorem sp_step (N : Nat) (hN : 300 ≤ N) {LV : LVt} {LX : LXt} {k lw mo0 j : Nat} {σ τ : Mem} (hk : k < 6) (h : Sr LV LX k lw mo0 j σ τ) : ∃ σ1 τ1 z, f_X0_spread N 62 (nI k) lw σ = some ((), σ1) ∧ f_X10_goesOn N (nI k) (nI (mo0 + j)) τ = some (z, τ1) ∧ Sr LV LX k lw mo0 (j + 1) (si σ1 62 11 (gi σ1 62 11 + 1)) τ1 ∧ (∀ c i, ¬ c = lw + 7 → ¬ (67 ≤ c ∧ c < 76) → gi σ1 c i = gi σ c i) ∧ (∀ c i, ¬ c = 17 → ¬ c = 18 → ¬ c = 23 → ¬ (c = 1 ∧ 12 + 12 * k ≤ i ∧ i < 24 + 12 * k) → gi τ1 c i = gi τ c i) ∧ (∀ q, q < 12 → bt (gi σ 67 k) q = true → bt (gi σ1 67 k) q = true) ∧ ∀ q, q < 12 → (bt (gi σ1 67 k) q = bt (gi σ 67 k) q ∧ gi τ1 1 (12 + 12 * k + q) = gi τ 1 (12 + 12 * k + q) ∧ ¬ Hc LX (mo0 + j) k τ q) ∨ (bt (gi σ 67 k) q = false ∧ bt (gi σ1 67 k) q = true ∧ Hc LX (mo0 + j) k τ q) := by
  obtain ⟨⟨hL, hp⟩, ⟨hB, hi⟩, h147, h144⟩ := h
  have hlw := isLw_or hL.1
  obtain ⟨σ1, τ1, z, a1, a2, a3, a4, a5, a6, a7, a8⟩ := s_spreadX N hN (b := 62) (Or.inr rfl) hk hL hp hB hi h144
  refine ⟨σ1, τ1, z, a1, a2, ⟨⟨hL.fr (fun c i z1 z2 => by rw [gi_ne (by omega)]; exact a5 c i (by omega) (by omega)) (a6 _ _ (by decide) (by decide) (by decide) (by omega)) (fun c i z1 z2 => a6 _ _ (by omega) (by omega) (by omega) (by omega)), hp.fr (by rw [gi_ne (by decide)]; exact a5 _ _ (by omega) (by omega)) (fun p q hp hq => by rw [gi_ne (by omega)]; exact a5 _ _ (by omega) (by omega)) (a6 _ _ (by decide) (by decide) (by decide) (by omega)) (fun _ _ => a6 _ _ (by decide) (by decide) (by decide) (by omega))⟩, ⟨?_, a4⟩, ?_, ?_⟩, fun c i z1 z2 => a5 c i z1 (by omega), a6, a7, a8⟩
  · have e : gi σ1 62 11 = nI (mo0 + j) := a3.1.2.2.2.2.1.trans up_eq
    rw [e, nI_1]
    have := a3.f11 (nI (mo0 + j + 1))
    rw [Am_up] at this
    exact this
  · rw [a6 _ _ (by decide) (by decide) (by decide) (by omega)]; exact h147
  · rw [a6 _ _ (by decide) (by decide) (by decide) (by omega)]; exact h144
theorem lp_113 (N : Nat) {k lw : Nat} (hk : k < 6) (x5 x6 x7 : Int32) (K : Mem → Option (Unit × Mem)) : ∀ (u p M : Nat) (σ : Mem), p + u = 12 → u < M → ∃ σ', itr (fun _ _ => none) (st_X2_spread_113 N (nI k) 62 lw x5 x6 x7 K) M (nI p) σ = K σ' ∧ (∀ c i, ¬ c = 102 → gi σ' c i = gi σ c i) ∧ (∀ i, i < p → gi σ' 102 i = gi σ 102 i) ∧ ∀ i, p ≤ i → i < 12 → gi σ' 102 i = if bt (gi σ 67 k) i = true ∧ bt x7 i = false then x6 else gi σ 102 i
  | u, p, 0, σ, _, h2 => absurd h2 (by omega)
  | 0, p, M + 1, σ, h1, _ => by
    refine ⟨σ, ?_, fun _ _ _ => rfl, fun _ _ => rfl, fun i hi hi2 => absurd hi2 (by omega)⟩
    show st_X2_spread_113 N (nI k) 62 lw x5 x6 x7 K _ (nI p) σ = _
    unfold st_X2_spread_113
    rw [if_pos (show (12 : Int32) ≤ nI p from nI_le (a := 12) (by omega) (by omega))]
  | u + 1, p, M + 1, σ, h1, h2 => by
    have hp : p < 12 := by omega
    have e : ∀ rec, st_X2_spread_113 N (nI k) 62 lw x5 x6 x7 K rec (nI p) σ = if bt (gi σ 67 k) p = true ∧ bt x7 p = false then rec (nI (p + 1)) (si σ 102 p x6) else rec (nI (p + 1)) σ := by
      intro rec
      unfold st_X2_spread_113
      have i1 : ix (nI p) = p := ix_n (by omega)
      have i2 : ix (nI k) = k := ix_n (by omega)
      have c1 : ∀ {α : Type} (e : Option α), chk (nI p) 12 e = e := fun e => chk_n hp (by decide)
      have c2 : ∀ {α : Type} (e : Option α), chk (nI k) 6 e = e := fun e => chk_n hk (by decide)
      simp only [lt_p, nI_1, i1, i2, c1, c2, e_hasBit, bd_some, ite10]
      rw [if_neg (show ¬ (12 : Int32) ≤ nI p from nI_ge (b := 12) hp (by decide))]
      have hbb : hb (gi σ (62 + 5) k &&& (x7 ^^^ (-1))) (nI p) ↔ bt (gi σ 67 k) p = true ∧ bt x7 p = false := by
        rw [hb_iff _ (by omega), and_not_b _ _ (by omega), Bool.and_eq_true, Bool.not_eq_true']
      by_cases z : bt (gi σ 67 k) p = true ∧ bt x7 p = false
      · rw [if_pos (hbb.mpr z), if_pos z]
      · rw [if_neg (fun y => z (hbb.mp y)), if_neg z]
    have e' : itr (fun _ _ => none) (st_X2_spread_113 N (nI k) 62 lw x5 x6 x7 K) (M + 1) (nI p) σ = _ := e (itr (fun _ _ => none) (st_X2_spread_113 N (nI k) 62 lw x5 x6 x7 K) M)
    by_cases z : bt (gi σ 67 k) p = true ∧ bt x7 p = false
    · rw [if_pos z] at e'
      obtain ⟨σ', r1, r2, r3, r4⟩ := lp_113 N hk x5 x6 x7 K u (p + 1) M (si σ 102 p x6) (by omega) (by omega)
      refine ⟨σ', e'.trans r1, fun c i h => ?_, fun i h => ?_, fun i h h' => ?_⟩
      · rw [r2 c i h, gi_ne h]
      · rw [r3 i (by omega), gi_ni (by omega)]
      · by_cases y : i = p
        · rw [y, r3 p (by omega), gi_eq, if_pos z]
        · rw [r4 i (by omega) h', gi_ne (by decide), gi_ni y]
    · rw [if_neg z] at e'
      obtain ⟨σ', r1, r2, r3, r4⟩ := lp_113 N hk x5 x6 x7 K u (p + 1) M σ (by omega) (by omega)
      refine ⟨σ', e'.trans r1, r2, fun i h => r3 i (by omega), fun i h h' => ?_⟩
      by_cases y : i = p
      · rw [y, r3 p (by omega), if_neg z]
      · exact r4 i (by omega) h'
theorem lp_122 (N : Nat) {k : Nat} (hk : k < 6) (x2 x3 : Int32) (K : Mem → Option (Int32 × Mem)) : ∀ (u p M : Nat) (τ : Mem), p + u = 12 → u < M → ∃ τ', itr (fun _ _ => none) (st_X10_spreads_122 N (nI k) x2 x3 K) M (nI p) τ = K τ' ∧ (∀ c i, ¬ c = 24 → gi τ' c i = gi τ c i) ∧ (∀ i, i < p → gi τ' 24 i = gi τ 24 i) ∧ ∀ i, p ≤ i → i < 12 → gi τ' 24 i = if gi τ 24 i = -2 ∧ ¬ gi τ 1 (12 + 12 * k + i) = -1 then x3 else gi τ 24 i
  | u, p, 0, τ, _, h2 => absurd h2 (by omega)
  | 0, p, M + 1, τ, h1, _ => by
    refine ⟨τ, ?_, fun _ _ _ => rfl, fun _ _ => rfl, fun i hi hi2 => absurd hi2 (by omega)⟩
    show st_X10_spreads_122 N (nI k) x2 x3 K _ (nI p) τ = _
    unfold st_X10_spreads_122
    rw [if_pos (show (12 : Int32) ≤ nI p from nI_le (a := 12) (by omega) (by omega))]
  | u + 1, p, M + 1, τ, h1, h2 => by
    have hp : p < 12 := by omega
    have e : ∀ rec, st_X10_spreads_122 N (nI k) x2 x3 K rec (nI p) τ = if gi τ 24 p = -2 ∧ ¬ gi τ 1 (12 + 12 * k + p) = -1 then rec (nI (p + 1)) (si τ 24 p x3) else rec (nI (p + 1)) τ := by
      intro rec
      unfold st_X10_spreads_122
      have i1 : ix (nI p) = p := ix_n (by omega)
      have c1 : ∀ {α : Type} (e : Option α), chk (nI p) 12 e = e := fun e => chk_n hp (by decide)
      simp only [lt_p, nI_1, i1, c1, e_isKnown N hk hp, bd_some]
      rw [if_neg (show ¬ (12 : Int32) ≤ nI p from nI_ge (b := 12) hp (by decide))]
      by_cases z : gi τ 24 p = -2
      · rw [if_pos z]
        by_cases w : gi τ 1 (12 + 12 * k + p) = -1
        · rw [if_pos w, if_pos rfl, if_neg (fun y => y.2 w)]
        · rw [if_neg w, if_neg (by decide), if_pos ⟨z, w⟩]
      · rw [if_neg z, if_neg (fun y => z y.1)]
    have e' : itr (fun _ _ => none) (st_X10_spreads_122 N (nI k) x2 x3 K) (M + 1) (nI p) τ = _ := e (itr (fun _ _ => none) (st_X10_spreads_122 N (nI k) x2 x3 K) M)
    by_cases z : gi τ 24 p = -2 ∧ ¬ gi τ 1 (12 + 12 * k + p) = -1
    · rw [if_pos z] at e'
      obtain ⟨τ', r1, r2, r3, r4⟩ := lp_122 N hk x2 x3 K u (p + 1) M (si τ 24 p x3) (by omega) (by omega)
      refine ⟨τ', e'.trans r1, fun c i h => ?_, fun i h => ?_, fun i h h' => ?_⟩
      · rw [r2 c i h, gi_ne h]
      · rw [r3 i (by omega), gi_ni (by omega)]
      · by_cases y : i = p
        · rw [y, r3 p (by omega), gi_eq, if_pos z]
        · rw [r4 i (by omega) h', gi_ne (show ¬ 1 = 24 by decide), gi_ni y]
    · rw [if_neg z] at e'
      obtain ⟨τ', r1, r2, r3, r4⟩ := lp_122 N hk x2 x3 K u (p + 1) M τ (by omega) (by omega)
      refine ⟨τ', e'.trans r1, r2, fun i h => r3 i (by omega), fun i h h' => ?_⟩
      by_cases y : i = p
      · rw [y, r3 p (by omega), if_neg z]
      · exact r4 i (by omega) h'
theorem Sr.k {LV : LVt} {LX : LXt} {k lw mo0 j : Nat} {σ τ σ' τ' : Mem} (h : Sr LV LX k lw mo0 j σ τ) (h1 : ∀ c i, ¬ c = 102 → gi σ' c i = gi σ c i) (h2 : ∀ c i, ¬ c = 24 → gi τ' c i = gi τ c i) : Sr LV LX k lw mo0 j σ' τ' := by
  obtain ⟨⟨hL, hp⟩, ⟨hB, hi⟩, h147, h144⟩ := h
  have hlw := isLw_or hL.1
  have hα : Al τ' 1 = Al τ 1 := by
    funext i
    exact h2 1 i (by decide)
  refine ⟨⟨hL.fr (fun c i z1 z2 => h1 c i (by omega)) (h2 _ _ (by decide)) (fun c i z1 z2 => h2 c i (by omega)), hp.fr (h1 _ _ (by decide)) (fun p q hp hq => h1 _ _ (by omega)) (h2 _ _ (by decide)) (fun _ _ => h2 _ _ (by decide))⟩, ⟨?_, ?_⟩, ?_, ?_⟩
  · unfold Am
    rw [hα]
    exact hB.fr (fun c i hc => by unfold Bc at hc; exact h1 c i (by omega)) (fun _ _ _ => rfl)
  · rw [hα]; exact hi
  · rw [h2 _ _ (by decide)]; exact h147
  · rw [h2 _ _ (by decide)]; exact h144
/-- months in which nobody hears, on the reference's side -/
theorem lp_bar (N : Nat) (hN : 300 ≤ N) {LV : LVt} {LX : LXt} {k lw mo0 : Nat} (hk : k < 6) (hmo : mo0 ≤ 9999) (x2 : Int32) (K : Mem → Option (Int32 × Mem)) : ∀ (u j M : Nat) (σ τ : Mem), j + u = 100 → u < M → Sr LV LX k lw mo0 j σ τ → (∀ m p, p < 12 → ¬ Hc LX (mo0 + m) k τ p ∨ 200 < m) → (∀ p, p < 12 → gi τ 24 p = -2 → gi τ 1 (12 + 12 * k + p) = -1) → ∃ τ', itr (fun _ _ => none) (st_X10_spreads_95 N (nI k) x2 K) M (nI (j + 1)) τ = K τ' ∧ (∀ i, i < 12 → gi τ' 24 i = gi τ 24 i) ∧ Kb k τ τ'
  | u, j, 0, σ, τ, _, h2, _, _, _ => absurd h2 (by omega)
  | 0, j, M + 1, σ, τ, h1, _, _, _, _ => by
    refine ⟨τ, ?_, fun _ _ => rfl, Kb.rf _ _⟩
    show st_X10_spreads_95 N (nI k) x2 K _ (nI (j + 1)) τ = _
    unfold st_X10_spreads_95
    rw [if_pos (show (100 : Int32) < nI (j + 1) from nI_lt (a := 100) (by omega) (by omega))]
  | u + 1, j, M + 1, σ, τ, h1, h2, hS, hN', hT => by
    obtain ⟨σ1, τ1, z, a1, a2, a3, a4, a5, a6, a7⟩ := sp_step N hN hk hS
    have h147 := hS.2.2.1
    have same : ∀ q, q < 12 → gi τ1 1 (12 + 12 * k + q) = gi τ 1 (12 + 12 * k + q) := fun q hq => by
      rcases a7 q hq with ⟨_, y, _⟩ | ⟨_, _, y⟩
      · exact y
      · rcases hN' j q hq with w | w
        · exact absurd y w
        · omega
    have all1 : ∀ i, gi τ1 1 i = gi τ 1 i := fun i => by
      by_cases w : 12 + 12 * k ≤ i ∧ i < 24 + 12 * k
      · have := same (i - (12 + 12 * k)) (by omega)
        rw [show 12 + 12 * k + (i - (12 + 12 * k)) = i by omega] at this
        exact this
      · exact a5 1 i (by decide) (by decide) (by decide) (fun y => w y.2)
    have all4 : ∀ i, gi τ1 4 i = gi τ 4 i := fun i => a5 4 i (by decide) (by decide) (by decide) (by omega)
    obtain ⟨τ2, b1, b2, b3, b4⟩ := lp_122 N hk x2 (nI (j + 1)) (fun s25 => lt (nI (j + 1) + 1) (fun x3_26 => itr (fun _ _ => none) (st_X10_spreads_95 N (nI k) x2 K) M x3_26 s25)) 12 0 N τ1 (by omega) (by omega)
    have c24 : ∀ i, i < 12 → gi τ2 24 i = gi τ 24 i := fun i hi => by
      have e24 : gi τ1 24 i = gi τ 24 i := a5 24 i (by decide) (by decide) (by decide) (by omega)
      rw [b4 i (by omega) hi, if_neg (fun y => y.2 (by rw [all1]; exact hT i hi (by rw [← e24]; exact y.1))), e24]
    have e : itr (fun _ _ => none) (st_X10_spreads_95 N (nI k) x2 K) (M + 1) (nI (j + 1)) τ = itr (fun _ _ => none) (st_X10_spreads_95 N (nI k) x2 K) M (nI (j + 1 + 1)) τ2 := by
      show st_X10_spreads_95 N (nI k) x2 K _ (nI (j + 1)) τ = _
      revert b1
      generalize itr (fun _ _ => none) (st_X10_spreads_95 N (nI k) x2 K) M = rec
      intro b1
      unfold st_X10_spreads_95
      rw [if_neg (show ¬ (100 : Int32) < nI (j + 1) from Int32.not_lt.mpr (nI_le (b := 100) (by omega) (by decide))), ck_147_151, ix_147, h147, nI_add, li_1, pk_sub (by omega), show mo0 + (j + 1) - 1 = mo0 + j by omega, a2, bd_some, ← nI_1 (j + 1)]
      exact b1
    obtain ⟨τ', r1, r2, r3⟩ := lp_bar N hN hk hmo x2 K u (j + 1) M (si σ1 62 11 (gi σ1 62 11 + 1)) τ2 (by omega) (by omega) (a3.k (fun _ _ _ => rfl) b2) (fun m p hp => by
      rw [Hc_k (τ := τ) (fun i => by rw [b2 1 i (by decide)]; exact all1 i) (fun i => by rw [b2 4 i (by decide)]; exact all4 i)]
      exact hN' m p hp) (fun p hp h => by
      rw [b2 1 _ (by decide), all1]
      rw [c24 p hp] at h
      exact hT p hp h)
    refine ⟨τ', e.trans r1, fun i hi => by rw [r2 i hi, c24 i hi], fun c i z1 z2 z3 z4 z5 => ?_⟩
    rw [r3 c i z1 z2 z3 z4 z5, b2 c i z4]
    exact a5 c i z1 z2 z3 z5
theorem lp_s95 (N : Nat) (hN : 300 ≤ N) {LV : LVt} {LX : LXt} {k lw mo0 : Nat} (hk : k < 6) (hmo : mo0 ≤ 9999) (x2 : Int32) (K : Mem → Option (Int32 × Mem)) : ∀ (u j e M1 M2 : Nat) (σ τ : Mem), j + u = 100 → u < M1 → u < M2 → e ≤ 12 → e ≤ j → Sr LV LX k lw mo0 j σ τ → Bx k σ τ → (∀ i p, i < e → p < 12 → ¬ Hc LX (mo0 + (j - 1 - i)) k τ p) → ∃ σ' τ', itr (fun _ _ _ => none) (st_X2_spread_49 N (nI k) 62 lw) M1 (nI e) (nI (j + 1)) σ = some ((), σ') ∧ itr (fun _ _ => none) (st_X10_spreads_95 N (nI k) x2 K) M2 (nI (j + 1)) τ = K τ' ∧ (∀ p, p < 12 → gi σ' 102 p = gi τ' 24 p ∧ (gi τ' 24 p = -2 ∨ ∃ m, m ≤ 100 ∧ gi τ' 24 p = nI m)) ∧ Ka lw σ σ' ∧ Kb k τ τ'
  | u, j, e, 0, _, σ, τ, _, h2, _, _, _, _, _, _ => absurd h2 (by omega)
  | u, j, e, M1 + 1, 0, σ, τ, _, _, h3, _, _, _, _, _ => absurd h3 (by omega)
  | 0, j, e, M1 + 1, M2 + 1, σ, τ, h1, _, _, _, _, hS, hX, _ => by
    refine ⟨σ, τ, ?_, ?_, fun p hp => ⟨(hX p hp).1, (hX p hp).2.elim (fun y => Or.inl y.1) (fun ⟨m, m1, m2, _⟩ => Or.inr ⟨m, m1, m2⟩)⟩, Ka.rf _ _, Kb.rf _ _⟩
    · show st_X2_spread_49 N (nI k) 62 lw _ (nI e) (nI (j + 1)) σ = _
      unfold st_X2_spread_49
      rw [if_pos (show (100 : Int32) < nI (j + 1) from nI_lt (a := 100) (by omega) (by omega))]
    · show st_X10_spreads_95 N (nI k) x2 K _ (nI (j + 1)) τ = _
      unfold st_X10_spreads_95
      rw [if_pos (show (100 : Int32) < nI (j + 1) from nI_lt (a := 100) (by omega) (by omega))]
  | u + 1, j, e, M1 + 1, M2 + 1, σ, τ, h1, h2, h3, he, hej, hS, hX, hN' => by
    by_cases h12 : e = 12
    · subst h12
      obtain ⟨τ', r1, r2, r3⟩ := lp_bar N hN hk hmo x2 K (u + 1) j (M2 + 1) σ τ h1 h3 hS (fun m p hp => by
        by_cases w : 200 < m
        · exact Or.inr w
        · refine Or.inl (fun y => ?_)
          have hi : (j + 11 - m % 12) % 12 < 12 := Nat.mod_lt _ (by decide)
          have := hN' ((j + 12 * 20 - 1 - m) % 12) p (Nat.mod_lt _ (by decide)) hp
          rw [Hc_mod (mo' := mo0 + m) (by omega) (by omega) (by omega)] at this
          exact this y) (fun p hp h => by
        rcases (hX p hp).2 with y | ⟨m, m1, m2, _⟩
        · exact y.2
        · rw [m2] at h
          exact absurd h (nI_nm2 (by omega)))
      refine ⟨σ, τ', ?_, r1, fun p hp => ?_, Ka.rf _ _, r3⟩
      · show st_X2_spread_49 N (nI k) 62 lw _ (nI 12) (nI (j + 1)) σ = _
        unfold st_X2_spread_49
        rw [if_neg (show ¬ (100 : Int32) < nI (j + 1) from Int32.not_lt.mpr (nI_le (b := 100) (by omega) (by decide))), if_pos (by decide)]
      · rw [r2 p hp]
        exact ⟨(hX p hp).1, (hX p hp).2.elim (fun y => Or.inl y.1) (fun ⟨m, m1, m2, _⟩ => Or.inr ⟨m, m1, m2⟩)⟩
    · obtain ⟨σ1, τ1, z, a1, a2, a3, a4, a5, a6, a7⟩ := sp_step N hN hk hS
      have h147 := hS.2.2.1
      have hlw := isLw_or hS.1.1.1
      -- how many months nobody heard
      have hbar : ∃ e', e' ≤ 12 ∧ e' ≤ j + 1 ∧ (if gi σ1 67 k = gi σ 67 k then nI e + 1 else 0) = nI e' ∧ ∀ i p, i < e' → p < 12 → ¬ Hc LX (mo0 + (j + 1 - 1 - i)) k τ1 p := by
        by_cases w : gi σ1 67 k = gi σ 67 k
        · refine ⟨e + 1, by omega, by omega, by rw [if_pos w, nI_1], fun i p hi hp y => ?_⟩
          have hno : ∀ q, q < 12 → gi τ1 1 (12 + 12 * k + q) = gi τ 1 (12 + 12 * k + q) ∧ ¬ Hc LX (mo0 + j) k τ q := fun q hq => by
            rcases a7 q hq with ⟨_, y1, y2⟩ | ⟨y1, y2, _⟩
            · exact ⟨y1, y2⟩
            · rw [w, y1] at y2; cases y2
          have all1 : ∀ i, gi τ1 1 i = gi τ 1 i := fun i => by
            by_cases w : 12 + 12 * k ≤ i ∧ i < 24 + 12 * k
            · have := (hno (i - (12 + 12 * k)) (by omega)).1
              rw [show 12 + 12 * k + (i - (12 + 12 * k)) = i by omega] at this
              exact this
            · exact a5 1 i (by decide) (by decide) (by decide) (fun y => w y.2)
          rw [Hc_k (τ := τ) all1 (fun i => a5 4 i (by decide) (by decide) (by decide) (by omega))] at y
          by_cases w0 : i = 0
          · rw [w0, show j + 1 - 1 - 0 = j by omega] at y
            exact (hno p hp).2 y
          · have := hN' (i - 1) p (by omega) hp
            rw [show j - 1 - (i - 1) = j + 1 - 1 - i by omega] at this
            exact this y
        · exact ⟨0, by omega, by omega, by rw [if_neg w]; rfl, fun i p hi => absurd hi (by omega)⟩
      obtain ⟨e', e1', e2', e3', e4'⟩ := hbar
      have hs0 : ∀ c i, ¬ c = 62 → gi (si σ1 62 11 (gi σ1 62 11 + 1)) c i = gi σ1 c i := fun c i h => gi_ne h
      obtain ⟨σ2, c1, c2, c3, c4⟩ := lp_113 N (lw := lw) hk (nI e') (nI (j + 1)) (gi σ 67 k) (fun s19 => lt (nI (j + 1) + 1) (fun x6_20 => itr (fun _ _ _ => none) (st_X2_spread_49 N (nI k) 62 lw) M1 (nI e') x6_20 s19)) 12 0 N (si σ1 62 11 (gi σ1 62 11 + 1)) (by omega) (by omega)
      obtain ⟨τ2, b1, b2, b3, b4⟩ := lp_122 N hk x2 (nI (j + 1)) (fun s25 => lt (nI (j + 1) + 1) (fun x3_26 => itr (fun _ _ => none) (st_X10_spreads_95 N (nI k) x2 K) M2 x3_26 s25)) 12 0 N τ1 (by omega) (by omega)
      have eC : itr (fun _ _ _ => none) (st_X2_spread_49 N (nI k) 62 lw) (M1 + 1) (nI e) (nI (j + 1)) σ = itr (fun _ _ _ => none) (st_X2_spread_49 N (nI k) 62 lw) M1 (nI e') (nI (j + 1 + 1)) σ2 := by
        show st_X2_spread_49 N (nI k) 62 lw _ (nI e) (nI (j + 1)) σ = _
        revert c1
        generalize itr (fun _ _ _ => none) (st_X2_spread_49 N (nI k) 62 lw) M1 = rec
        intro c1
        unfold st_X2_spread_49
        have i2 : ix (nI k) = k := ix_n (by omega)
        have ck : ∀ {α : Type} (e : Option α), chk (nI k) 6 e = e := fun e => chk_n hk (by decide)
        rw [if_neg (show ¬ (100 : Int32) < nI (j + 1) from Int32.not_lt.mpr (nI_le (b := 100) (by omega) (by decide))), if_neg (show ¬ (12 : Int32) ≤ nI e from nI_ge (b := 12) (by omega) (by decide))]
        simp only [lt_p, i2, ck, a1, bd_some, show 62 + 5 = 67 from rfl]
        rw [hs0 67 k (by decide), ← nI_1 (j + 1)]
        by_cases w : gi σ1 67 k = gi σ 67 k
        · rw [if_pos w] at e3'
          rw [if_pos w, e3']
          exact c1
        · rw [if_neg w] at e3'
          rw [← e3'] at c1
          rw [if_neg w, ← e3']
          exact c1
      have eM : itr (fun _ _ => none) (st_X10_spreads_95 N (nI k) x2 K) (M2 + 1) (nI (j + 1)) τ = itr (fun _ _ => none) (st_X10_spreads_95 N (nI k) x2 K) M2 (nI (j + 1 + 1)) τ2 := by
        show st_X10_spreads_95 N (nI k) x2 K _ (nI (j + 1)) τ = _
        revert b1
        generalize itr (fun _ _ => none) (st_X10_spreads_95 N (nI k) x2 K) M2 = rec
        intro b1
        unfold st_X10_spreads_95
        rw [if_neg (show ¬ (100 : Int32) < nI (j + 1) from Int32.not_lt.mpr (nI_le (b := 100) (by omega) (by decide))), ck_147_151, ix_147, h147, nI_add, li_1, pk_sub (by omega), show mo0 + (j + 1) - 1 = mo0 + j by omega, a2, bd_some, ← nI_1 (j + 1)]
        exact b1
      have hX2 : Bx k σ2 τ2 := fun p hp => by
        have d1 : gi (si σ1 62 11 (gi σ1 62 11 + 1)) 102 p = gi σ 102 p := by rw [hs0 _ _ (by decide)]; exact a4 _ _ (by omega) (by omega)
        have d2 : gi τ1 24 p = gi τ 24 p := a5 _ _ (by decide) (by decide) (by decide) (by omega)
        obtain ⟨x1, x2'⟩ := hX p hp
        have hB := hS.2.1.1.2.2.1 k p hk hp
        rw [Am_ne (by omega)] at hB
        have hB1 := a3.2.1.1.2.2.1 k p hk hp
        rw [Am_ne (by omega), show 62 + 5 = 67 from rfl, hs0 67 k (by decide)] at hB1
        rw [c4 p (by omega) hp, b4 p (by omega) hp, hs0 67 k (by decide), d1, d2, b2 1 _ (by decide), x1]
        rcases x2' with ⟨y1, y2⟩ | ⟨m, m1, m2, m3⟩
        · have b0 : bt (gi σ 67 k) p = false := by
            rcases hB with ⟨_, w, _⟩ | ⟨w, _⟩
            · exact absurd y2 w
            · exact w
          rcases hB1 with ⟨w1, w2, _⟩ | ⟨w1, w2⟩
          · rw [if_pos ⟨w1, b0⟩, if_pos ⟨y1, w2⟩]
            exact ⟨rfl, Or.inr ⟨j + 1, by omega, rfl, w2⟩⟩
          · rw [if_neg (fun y => by rw [w1] at y; exact absurd y.1 (by decide)), if_neg (fun y => y.2 w2)]
            exact ⟨rfl, Or.inl ⟨y1, w2⟩⟩
        · have b0 : bt (gi σ 67 k) p = true := by
            rcases hB with ⟨w, _, _⟩ | ⟨_, w⟩
            · exact w
            · exact absurd w m3
          rw [if_neg (fun y => by rw [b0] at y; exact absurd y.2 (by decide)), if_neg (fun y => by rw [m2] at y; exact nI_nm2 (by omega) y.1)]
          refine ⟨rfl, Or.inr ⟨m, m1, m2, ?_⟩⟩
          have := a6 p hp b0
          rcases hB1 with ⟨_, w, _⟩ | ⟨w, _⟩
          · exact w
          · rw [this] at w; cases w
      obtain ⟨σ', τ', r1, r2, r3, r4, r5⟩ := lp_s95 N hN hk hmo x2 K u (j + 1) e' M1 M2 σ2 τ2 (by omega) (by omega) (by omega) e1' e2' (a3.k c2 b2) hX2 (fun i p hi hp => by
        rw [Hc_k (τ := τ1) (fun i => b2 1 i (by decide)) (fun i => b2 4 i (by decide))]
        exact e4' i p hi hp)
      refine ⟨σ', τ', eC.trans r1, eM.trans r2, r3, fun c i z1 z2 z3 => ?_, fun c i z1 z2 z3 z4 z5 => ?_⟩
      · rw [r4 c i z1 z2 z3, c2 c i z3, hs0 c i (by omega)]
        exact a4 c i z1 (by omega)
      · rw [r5 c i z1 z2 z3 z4 z5, b2 c i z4]
        exact a5 c i z1 z2 z3 z5
