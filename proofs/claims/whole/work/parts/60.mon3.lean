/-! months: a letter has gone on -/
def wk (k : Nat) : Nat → Nat → Mem → Mem
  | 0, _, s => s
  | n + 1, p, s => wk k n (p + 1) (if gi s 23 p = -1 then s else si s 1 (12 + 12 * k + p) (gi s 23 p))
theorem wk_gi (k : Nat) : ∀ (n p : Nat) (s : Mem) (c i : Nat), gi (wk k n p s) c i = if c = 1 ∧ 12 + 12 * k + p ≤ i ∧ i < 12 + 12 * k + p + n ∧ ¬ gi s 23 (i - (12 + 12 * k)) = -1 then gi s 23 (i - (12 + 12 * k)) else gi s c i
  | 0, p, s, c, i => by
    rw [if_neg (by omega)]
    rfl
  | n + 1, p, s, c, i => by
    show gi (wk k n (p + 1) _) c i = _
    rw [wk_gi k n (p + 1) _ c i]
    have e23 : ∀ q, gi (if gi s 23 p = -1 then s else si s 1 (12 + 12 * k + p) (gi s 23 p)) 23 q = gi s 23 q := fun q => by
      by_cases h : gi s 23 p = -1
      · rw [if_pos h]
      · rw [if_neg h, gi_ne (by decide)]
    rw [e23]
    by_cases h1 : c = 1 ∧ 12 + 12 * k + (p + 1) ≤ i ∧ i < 12 + 12 * k + (p + 1) + n ∧ ¬ gi s 23 (i - (12 + 12 * k)) = -1
    · rw [if_pos h1, if_pos ⟨h1.1, by omega, by omega, h1.2.2.2⟩]
    · rw [if_neg h1]
      by_cases h2 : c = 1 ∧ i = 12 + 12 * k + p
      · obtain ⟨rfl, rfl⟩ := h2
        rw [show 12 + 12 * k + p - (12 + 12 * k) = p by omega]
        by_cases h : gi s 23 p = -1
        · rw [if_pos h, if_neg (fun z => z.2.2.2 h)]
        · rw [if_neg h, if_pos ⟨rfl, by omega, by omega, h⟩, gi_eq]
      · have h3 : ¬ (c = 1 ∧ 12 + 12 * k + p ≤ i ∧ i < 12 + 12 * k + p + (n + 1) ∧ ¬ gi s 23 (i - (12 + 12 * k)) = -1) := fun z => h1 ⟨z.1, by omega, by omega, z.2.2.2⟩
        rw [if_neg h3]
        by_cases h : gi s 23 p = -1
        · rw [if_pos h]
        · rw [if_neg h, gi_si, if_neg h2]
theorem lp_144 (N : Nat) {k : Nat} (hk : k < 6) {z : Int32} (hz : z = 0 ∨ z = 1) : ∀ (u p M : Nat) (s : Mem), p + u = 12 → u < M → itr (fun _ _ => none) (st_X10_goesOn_144 N (nI k) z) M (nI p) s = some (z, wk k u p s)
  | u, p, 0, s, _, h2 => absurd h2 (by omega)
  | 0, p, M + 1, s, h1, _ => by
    show st_X10_goesOn_144 N (nI k) z _ (nI p) s = _
    unfold st_X10_goesOn_144
    rw [if_pos (show (12 : Int32) ≤ nI p from nI_le (a := 12) (by omega) (by omega))]
    rcases hz with rfl | rfl
    · rw [ckz_0]; rfl
    · rw [ckz_1]; rfl
  | u + 1, p, M + 1, s, h1, h2 => by
    have e : itr (fun _ _ => none) (st_X10_goesOn_144 N (nI k) z) (M + 1) (nI p) s = itr (fun _ _ => none) (st_X10_goesOn_144 N (nI k) z) M (nI (p + 1)) (if gi s 23 p = -1 then s else si s 1 (12 + 12 * k + p) (gi s 23 p)) := by
      show st_X10_goesOn_144 N (nI k) z _ (nI p) s = _
      generalize itr (fun _ _ => none) (st_X10_goesOn_144 N (nI k) z) M = rec
      unfold st_X10_goesOn_144
      have hx : ix (nI p) = p := ix_n (by omega)
      simp only [lt_p, nI_1, hx]
      rw [if_neg (show ¬ (12 : Int32) ≤ nI p from nI_ge (b := 12) (by omega) (by decide)), chk_n (by omega) (by decide)]
      by_cases h : gi s 23 p = -1
      · rw [if_pos h, if_pos h]
      · rw [if_neg h, if_neg h, e_known, bd_some, chk_n (by omega) (by decide), chk_n (by omega) (by decide), ix_n (by omega)]
    rw [e]
    exact lp_144 N hk hz u (p + 1) M _ (by omega) (by omega)
theorem s_spreadX (N : Nat) (hN : 300 ≤ N) {b lw k mo : Nat} {LV : LVt} {LX : LXt} {σ τ : Mem} (hbk : b = 32 ∨ b = 62) (hk : k < 6) (hL : Lw lw LV LX σ τ) (hp : Rp σ τ) (hB : Rb b σ (Am τ mo)) (hi : Inv (Al τ 1)) (hf : bt (gi τ 1 144) k = true) : ∃ σ' τ' z, f_X0_spread N b (nI k) lw σ = some ((), σ') ∧ f_X10_goesOn N (nI k) (nI mo) τ = some (z, τ') ∧ Rb b σ' (Am τ' mo) ∧ Inv (Al τ' 1) ∧ (∀ c i, ¬ c = lw + 7 → ¬ (b + 5 ≤ c ∧ c < b + 14) → gi σ' c i = gi σ c i) ∧ (∀ c i, ¬ c = 17 → ¬ c = 18 → ¬ c = 23 → ¬ (c = 1 ∧ 12 + 12 * k ≤ i ∧ i < 24 + 12 * k) → gi τ' c i = gi τ c i) ∧ (∀ q, q < 12 → bt (gi σ (b + 5) k) q = true → bt (gi σ' (b + 5) k) q = true) ∧ ∀ q, q < 12 → (bt (gi σ' (b + 5) k) q = bt (gi σ (b + 5) k) q ∧ gi τ' 1 (12 + 12 * k + q) = gi τ 1 (12 + 12 * k + q) ∧ ¬ Hc LX mo k τ q) ∨ (bt (gi σ (b + 5) k) q = false ∧ bt (gi σ' (b + 5) k) q = true ∧ Hc LX mo k τ q) := by
  have hlw := isLw_or hL.1
  have hx : ix (nI k) = k := ix_n (by omega)
  have hG0 : Gp LX mo b lw k 0 (gi σ (b + 5) k) σ τ σ τ := ⟨fun _ _ _ _ _ => rfl, fun _ _ _ _ _ => rfl, fun q hq => by omega, fun q _ _ => ⟨rfl, rfl⟩, fun i i1 i2 => hB.2.2.2.1 k i hk i1 i2⟩
  obtain ⟨σ1, τ1, z, e1, e2, hz, hG⟩ := lp_go N hN hbk hk hL hp hB hi (fun (x3_26 : Int32) (s25 : Mem) => itr (fun _ _ => none) (st_X10_goesOn_144 N (nI k) x3_26) N 0 s25) 12 0 N N σ τ 0 (by omega) (by omega) (by omega) (Or.inl rfl) hG0
  obtain ⟨g1, g2, g3, g4, g5⟩ := hG
  have e3 : f_X10_goesOn N (nI k) (nI mo) τ = some (z, wk k 12 0 τ1) := by
    show itr (fun _ _ _ => none) (st_X10_goesOn_5 N (nI k) (nI mo) (fun (x3_26 : Int32) (s25 : Mem) => itr (fun _ _ => none) (st_X10_goesOn_144 N (nI k) x3_26) N 0 s25)) N 0 (nI 0) τ = _
    rw [e2]
    exact lp_144 N hk hz 12 0 N τ1 (by omega) (by omega)
  have e4 : f_X0_spread N b (nI k) lw σ = some ((), σ1) := by
    unfold f_X0_spread
    rw [chk_n hk (by decide), lt_p, hx]
    exact e1
  -- what the reference's row holds now
  have hw : ∀ c i, ¬ c = 17 → ¬ c = 18 → ¬ c = 23 → ¬ (c = 1 ∧ 12 + 12 * k ≤ i ∧ i < 24 + 12 * k) → gi (wk k 12 0 τ1) c i = gi τ c i := fun c i y1 y2 y3 y4 => by
    rw [wk_gi, if_neg (fun z => y4 ⟨z.1, by omega, by omega⟩)]
    exact g2 c i y1 y2 y3
  have hk1 : ∀ q, q < 12 → (gi τ1 23 q = -1 → gi (wk k 12 0 τ1) 1 (12 + 12 * k + q) = gi τ 1 (12 + 12 * k + q)) ∧ (¬ gi τ1 23 q = -1 → gi (wk k 12 0 τ1) 1 (12 + 12 * k + q) = gi τ1 23 q) := fun q hq => by
    rw [wk_gi, show 12 + 12 * k + q - (12 + 12 * k) = q by omega]
    refine ⟨fun y => ?_, fun y => ?_⟩
    · rw [if_neg (fun z => z.2.2.2 y)]
      exact g2 _ _ (by decide) (by decide) (by decide)
    · rw [if_pos ⟨rfl, by omega, by omega, y⟩]
  have hAm : ∀ i, ¬ (12 + 12 * k ≤ i ∧ i < 24 + 12 * k) → Am (wk k 12 0 τ1) mo i = Am τ mo i := fun i hi2 => by
    unfold Am
    by_cases z : i = 147
    · rw [z, up_eq, up_eq]
    · rw [up_ne z, up_ne z]
      exact hw 1 i (by decide) (by decide) (by decide) (fun y => hi2 y.2)
  have hAl : ∀ i, ¬ (12 + 12 * k ≤ i ∧ i < 24 + 12 * k) → Al (wk k 12 0 τ1) 1 i = Al τ 1 i := fun i hi2 => hw 1 i (by decide) (by decide) (by decide) (fun y => hi2 y.2)
  refine ⟨σ1, wk k 12 0 τ1, z, e4, e3, ?_, ?_, fun c i y1 y2 => g1 c i y1 (by omega) (by omega), hw, fun q hq hs => ?_, fun q hq => ?_⟩
  · obtain ⟨⟨a1, a2, a3, a4, a5, a6, a7⟩, a8, a9, a10, a11⟩ := hB
    have s : ∀ c i, ¬ c = lw + 7 → ¬ c = b + 8 + k → ¬ (c = b + 5 ∧ i = k) → gi σ1 c i = gi σ c i := g1
    refine ⟨⟨fun p hp => ?_, ?_, ?_, ?_, ?_, ?_, ?_⟩, fun k' hk' => ?_, fun k' q hk' hq => ?_, fun k' i hk' i1 i2 => ?_, fun p j hp hj => ?_⟩
    · rw [s _ _ (by omega) (by omega) (by omega), hAm _ (by omega)]; exact a1 p hp
    · rw [s _ _ (by omega) (by omega) (by omega), hAm _ (by omega)]; exact a2
    · rw [s _ _ (by omega) (by omega) (by omega), hAm _ (by omega)]; exact a3
    · rw [s _ _ (by omega) (by omega) (by omega), hAm _ (by omega)]; exact a4
    · rw [s _ _ (by omega) (by omega) (by omega), hAm _ (by omega)]; exact a5
    · rw [s _ _ (by omega) (by omega) (by omega), hAm _ (by omega)]; exact a6
    · rw [s _ _ (by omega) (by omega) (by omega), hAm _ (by omega)]; exact a7
    · rw [s _ _ (by omega) (by omega) (by omega), s _ _ (by omega) (by omega) (by omega), s _ _ (by omega) (by omega) (by omega), s _ _ (by omega) (by omega) (by omega), hAm _ (by omega), hAm _ (by omega), hAm _ (by omega), hAm _ (by omega)]
      exact a8 k' hk'
    · by_cases e : k' = k
      · subst e
        rw [Am_ne (by omega)]
        have h9 := a9 k' q hk' hq
        rw [Am_ne (by omega)] at h9
        rcases g3 q hq with ⟨y1, y2, y3, _⟩ | ⟨t, t1, t2, t3, t4, t5, _⟩
        · rw [(hk1 q hq).1 y1, y2, y3]
          exact h9
        · have ht : ¬ gi τ1 23 q = -1 := by rw [t2]; exact nI_ne_m1 (by omega)
          rw [(hk1 q hq).2 ht, t2]
          exact Or.inl ⟨t4, nI_ne_m1 (by omega), t5⟩
      · rw [s _ _ (by omega) (by omega) (by omega), s _ _ (by omega) (by omega) (by omega), hAm _ (by omega)]
        exact a9 k' q hk' hq
    · by_cases e : k' = k
      · subst e; exact g5 i i1 i2
      · rw [s _ _ (by omega) (by omega) (by omega)]; exact a10 k' i hk' i1 i2
    · rw [s _ _ (by omega) (by omega) (by omega), hAm _ (by omega)]; exact a11 p j hp hj
  · obtain ⟨⟨i1, i2, i3, i4⟩, i5, i6, i7, i8⟩ := hi
    refine ⟨⟨fun p hp => ?_, ?_, ?_, ?_⟩, fun i j1 j2 => ?_, fun k' hk' => ?_, fun k' q hk' hq => ?_, fun k' hk' hz' => ?_⟩
    · rw [hAl _ (by omega)]; exact i1 p hp
    · rw [hAl _ (by omega)]; exact i2
    · rw [hAl _ (by omega)]; exact i3
    · rw [hAl _ (by omega)]; exact i4
    · rw [hAl _ (by omega), hAl _ (by omega)]; exact i5 i j1 j2
    · rw [hAl _ (by omega), hAl _ (by omega), hAl _ (by omega), hAl _ (by omega)]; exact i6 k' hk'
    · by_cases e : k' = k
      · subst e
        show gi (wk k' 12 0 τ1) 1 (12 + 12 * k' + q) = -1 ∨ ∃ t, t ≤ 99999 ∧ gi (wk k' 12 0 τ1) 1 (12 + 12 * k' + q) = nI t
        rcases g3 q hq with ⟨y1, y2, y3, _⟩ | ⟨t, t1, t2, t3, t4, t5, _⟩
        · rw [(hk1 q hq).1 y1]; exact i7 k' q hk' hq
        · have ht : ¬ gi τ1 23 q = -1 := by rw [t2]; exact nI_ne_m1 (by omega)
          rw [(hk1 q hq).2 ht]
          exact Or.inr ⟨t, t1, t2⟩
      · rw [hAl _ (by omega)]; exact i7 k' q hk' hq
    · rw [hAl 146 (by omega)] at hz'
      have e : ¬ k' = k := fun e => by
        subst e
        have := (i8 k' hk' hz').2.2
        have h2 : bt (Al τ 1 144) k' = true := hf
        rw [this] at h2
        cases h2
      obtain ⟨q1, q2, q3⟩ := i8 k' hk' hz'
      refine ⟨fun p hp => by rw [hAl _ (by omega)]; exact q1 p hp, by rw [hAl _ (by omega)]; exact q2, by rw [hAl 144 (by omega)]; exact q3⟩
  · rcases g3 q hq with ⟨_, y, _⟩ | ⟨_, _, _, y, _⟩
    · rw [y]; exact hs
    · rw [y] at hs; cases hs
  · rcases g3 q hq with ⟨y1, y2, y3, y4⟩ | ⟨t, t1, t2, t3, t4, t5, t6⟩
    · exact Or.inl ⟨y2, (hk1 q hq).1 y1, y4⟩
    · exact Or.inr ⟨t3, t4, t6⟩
theorem s_spread (N : Nat) (hN : 300 ≤ N) {b lw k mo : Nat} {LV : LVt} {LX : LXt} {σ τ : Mem} (hbk : b = 32 ∨ b = 62) (hk : k < 6) (hL : Lw lw LV LX σ τ) (hp : Rp σ τ) (hB : Rb b σ (Am τ mo)) (hi : Inv (Al τ 1)) (hf : bt (gi τ 1 144) k = true) : ∃ σ' τ' z, f_X0_spread N b (nI k) lw σ = some ((), σ') ∧ f_X10_goesOn N (nI k) (nI mo) τ = some (z, τ') ∧ Rb b σ' (Am τ' mo) ∧ Inv (Al τ' 1) ∧ (∀ c i, ¬ c = lw + 7 → ¬ (b + 5 ≤ c ∧ c < b + 14) → gi σ' c i = gi σ c i) ∧ (∀ c i, ¬ c = 17 → ¬ c = 18 → ¬ c = 23 → ¬ (c = 1 ∧ 12 + 12 * k ≤ i ∧ i < 24 + 12 * k) → gi τ' c i = gi τ c i) ∧ ∀ q, q < 12 → bt (gi σ (b + 5) k) q = true → bt (gi σ' (b + 5) k) q = true := by
  obtain ⟨σ', τ', z, a1, a2, a3, a4, a5, a6, a7, _⟩ := s_spreadX N hN hbk hk hL hp hB hi hf
  exact ⟨σ', τ', z, a1, a2, a3, a4, a5, a6, a7⟩
