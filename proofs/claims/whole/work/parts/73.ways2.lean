/-! miles: the ways begin as the roads -/
def rn (τ : Mem) : Wm := fun p q => if gi τ 4 (12 * p + q) = 0 then none else some (ix (gi τ 4 (12 * p + q)))
def ini (τ : Mem) : Wm := fun p q => if p = q then some 0 else rn τ p q
theorem ini_fr {τ τ' : Mem} (h : ∀ i, i < 144 → gi τ' 4 i = gi τ 4 i) (p q : Nat) (hp : p < 12) (hq : q < 12) : ini τ' p q = ini τ p q := by
  unfold ini rn
  rw [h _ (by omega)]
theorem rn_C {σ τ : Mem} (h : Rp σ τ) {p q : Nat} (hp : p < 12) (hq : q < 12) : (if gi σ (5 + p) q ≤ 0 then (1000000 : Int32) else gi σ (5 + p) q) = eC (rn τ p q) := by
  obtain ⟨m, m1, m2, m3⟩ := h.2.2 p q hp hq
  unfold rn
  rw [m2, m3]
  by_cases z : m = 0
  · subst z
    rw [if_pos (by decide), if_pos (by decide)]
    rfl
  · rw [if_neg (show ¬ nI m ≤ 0 from nI_ge (a := 0) (by omega) (by omega)), if_neg (show ¬ nI m = 0 from nI_nq z (by omega) (by decide)), ix_n (by omega)]
    rfl
theorem rn_M {σ τ : Mem} (h : Rp σ τ) {p q : Nat} (hp : p < 12) (hq : q < 12) : (if gi τ 4 (12 * p + q) = 0 then (100000000 : Int32) else gi τ 4 (12 * p + q)) = eM (rn τ p q) := by
  obtain ⟨m, m1, m2, m3⟩ := h.2.2 p q hp hq
  unfold rn
  rw [m3]
  by_cases z : nI m = 0
  · rw [if_pos z, if_pos z]
    rfl
  · rw [if_neg z, if_neg z, ix_n (by omega)]
    rfl
theorem ini_Gd {σ τ : Mem} (h : Rp σ τ) : Gd 99 (ini τ) := by
  refine ⟨fun p q d hp hq he => ?_, fun p hp => if_pos rfl⟩
  obtain ⟨m, m1, m2, m3⟩ := h.2.2 p q hp hq
  unfold ini at he
  by_cases z : p = q
  · rw [if_pos z] at he
    rw [← Option.some.inj he]
    omega
  · rw [if_neg z] at he
    unfold rn at he
    rw [m3] at he
    by_cases w : nI m = 0
    · rw [if_pos w] at he
      cases he
    · rw [if_neg w, ix_n (by omega)] at he
      rw [← Option.some.inj he]
      exact m1
theorem lp_c10 (N : Nat) {p : Nat} (hp : p < 12) (g : Nat → Int32) (K : Mem → Option (Unit × Mem)) : ∀ (u q M : Nat) (σ : Mem), q + u = 12 → u < M → (∀ q, q < 12 → (if gi σ (5 + p) q ≤ 0 then (1000000 : Int32) else gi σ (5 + p) q) = g q) → ∃ σ', itr (fun _ _ => none) (st_X3_findWays_10 N (nI p) K) M (nI q) σ = K σ' ∧ (∀ c i, ¬ (c = 18 + p ∧ q ≤ i ∧ i < 12) → gi σ' c i = gi σ c i) ∧ ∀ i, q ≤ i → i < 12 → gi σ' (18 + p) i = g i
  | u, q, 0, σ, _, h2, _ => absurd h2 (by omega)
  | 0, q, M + 1, σ, h1, _, _ => by
    refine ⟨σ, ?_, fun _ _ _ => rfl, fun i hi hi2 => absurd hi2 (by omega)⟩
    show st_X3_findWays_10 N (nI p) K _ (nI q) σ = _
    unfold st_X3_findWays_10
    rw [if_pos (show (12 : Int32) ≤ nI q from nI_le (a := 12) (by omega) (by omega))]
  | u + 1, q, M + 1, σ, h1, h2, hg => by
    have hq : q < 12 := by omega
    have e : itr (fun _ _ => none) (st_X3_findWays_10 N (nI p) K) (M + 1) (nI q) σ = itr (fun _ _ => none) (st_X3_findWays_10 N (nI p) K) M (nI (q + 1)) (si σ (18 + p) q (g q)) := by
      show st_X3_findWays_10 N (nI p) K _ (nI q) σ = _
      generalize itr (fun _ _ => none) (st_X3_findWays_10 N (nI p) K) M = rec
      unfold st_X3_findWays_10
      have i1 : ix (nI q) = q := ix_n (by omega)
      have i2 : ix (nI p) = p := ix_n (by omega)
      have c1 : ∀ {α : Type} (e : Option α), chk (nI q) 12 e = e := fun e => chk_n hq (by decide)
      have c2 : ∀ {α : Type} (e : Option α), chk (nI p) 12 e = e := fun e => chk_n hp (by decide)
      simp only [lt_p, nI_1, i1, i2, c1, c2]
      rw [if_neg (show ¬ (12 : Int32) ≤ nI q from nI_ge (b := 12) hq (by decide)), show 17 + 1 + p = 18 + p by omega, show 4 + 1 + p = 5 + p by omega, ← hg q hq]
      by_cases z : gi σ (5 + p) q ≤ 0
      · rw [if_pos z, if_pos z]
      · rw [if_neg z, if_neg z]
    obtain ⟨σ', r1, r2, r3⟩ := lp_c10 N hp g K u (q + 1) M (si σ (18 + p) q (g q)) (by omega) (by omega) (fun q' hq' => by
      rw [gi_ne (by omega)]
      exact hg q' hq')
    refine ⟨σ', e.trans r1, fun c i z => ?_, fun i hi hi2 => ?_⟩
    · rw [r2 c i (by omega), gi_si, if_neg (by omega)]
    · by_cases z : i = q
      · rw [z, r2 _ _ (by omega), gi_eq]
      · exact r3 i (by omega) hi2
theorem lp_c2 (N : Nat) (hN : 300 ≤ N) (τ : Mem) (K : Mem → Option (Unit × Mem)) : ∀ (u p M : Nat) (σ : Mem), p + u = 12 → u < M → (∀ p q, p < 12 → q < 12 → (if gi σ (5 + p) q ≤ 0 then (1000000 : Int32) else gi σ (5 + p) q) = eC (rn τ p q)) → ∃ σ', itr (fun _ _ => none) (st_X3_findWays_2 N K) M (nI p) σ = K σ' ∧ Kw σ σ' ∧ (∀ p' q, p' < p → gi σ' (18 + p') q = gi σ (18 + p') q) ∧ ∀ p' q, p ≤ p' → p' < 12 → q < 12 → gi σ' (18 + p') q = eC (ini τ p' q)
  | u, p, 0, σ, _, h2, _ => absurd h2 (by omega)
  | 0, p, M + 1, σ, h1, _, _ => by
    refine ⟨σ, ?_, fun _ _ _ => rfl, fun _ _ _ => rfl, fun p' q hp' hp2 => absurd hp2 (by omega)⟩
    show st_X3_findWays_2 N K _ (nI p) σ = _
    unfold st_X3_findWays_2
    rw [if_pos (show (12 : Int32) ≤ nI p from nI_le (a := 12) (by omega) (by omega))]
  | u + 1, p, M + 1, σ, h1, h2, hg => by
    have hp : p < 12 := by omega
    obtain ⟨σ1, a1, a2, a3⟩ := lp_c10 N hp (fun q => eC (rn τ p q)) (fun s8 => chk (nI p) 12 (chk (nI p) 12 (lt (si s8 (17 + 1 + ix (nI p)) (ix (nI p)) 0) (fun s10 => lt (nI p + 1) (fun x1_11 => itr (fun _ _ => none) (st_X3_findWays_2 N K) M x1_11 s10))))) 12 0 N σ (by omega) (by omega) (fun q hq => hg p q hp hq)
    have e : itr (fun _ _ => none) (st_X3_findWays_2 N K) (M + 1) (nI p) σ = itr (fun _ _ => none) (st_X3_findWays_2 N K) M (nI (p + 1)) (si σ1 (18 + p) p 0) := by
      show st_X3_findWays_2 N K _ (nI p) σ = _
      revert a1
      generalize itr (fun _ _ => none) (st_X3_findWays_2 N K) M = rec
      intro a1
      unfold st_X3_findWays_2
      rw [if_neg (show ¬ (12 : Int32) ≤ nI p from nI_ge (b := 12) hp (by decide))]
      refine a1.trans ?_
      rw [chk_n hp (by decide), chk_n hp (by decide), ix_n (by omega), show 17 + 1 + p = 18 + p by omega, ← nI_1 p]
      rfl
    obtain ⟨σ', r1, r2, r3, r4⟩ := lp_c2 N hN τ K u (p + 1) M (si σ1 (18 + p) p 0) (by omega) (by omega) (fun p' q' hp' hq' => by
      rw [gi_ne (by omega), a2 _ _ (by omega)]
      exact hg p' q' hp' hq')
    refine ⟨σ', e.trans r1, fun c i z => ?_, fun p' q z => ?_, fun p' q z hp' hq => ?_⟩
    · rw [r2 c i z, gi_ne (by omega), a2 c i (by omega)]
    · rw [r3 p' q (by omega), gi_ne (by omega), a2 _ _ (by omega)]
    · by_cases w : p' = p
      · subst w
        rw [r3 p' q (by omega), gi_si]
        unfold ini
        by_cases y : p' = q
        · rw [if_pos (by omega), if_pos y]
          rfl
        · rw [if_neg (by omega), if_neg y]
          exact a3 q (by omega) hq
      · exact r4 p' q (by omega) hp' hq
theorem s_findWays (N : Nat) (hN : 300 ≤ N) {σ τ : Mem} (hp : Rp σ τ) : ∃ σ', f_X3_findWays N σ = some ((), σ') ∧ FC (fwa (ini τ)) σ' ∧ Gd 405504 (fwa (ini τ)) ∧ Kw σ σ' := by
  unfold f_X3_findWays
  obtain ⟨σ1, a1, a2, -, a4⟩ := lp_c2 N hN τ (fun s12 => itr (fun _ _ => none) (st_X3_findWays_71 N) N 0 s12) 12 0 N σ (by omega) (by omega) (fun p q h h' => rn_C hp h h')
  obtain ⟨σ2, b1, b2, b3, b4⟩ := lp_cb N hN 12 0 N 99 σ1 (ini τ) (by omega) (by omega) (by decide) (ini_Gd hp) (fun p q h h' => a4 p q (by omega) h h')
  exact ⟨σ2, a1.trans b1, b3, b2, a2.tr b4⟩
theorem lp_m2 (N : Nat) {σ0 τ : Mem} (hp : Rp σ0 τ) (K : Mem → Option (Unit × Mem)) : ∀ (u x M : Nat) (s : Mem), x + u = 144 → u < M → (∀ i, i < 144 → gi s 4 i = gi τ 4 i) → ∃ s', itr (fun _ _ => none) (st_X10_laysWays_2 N K) M (nI x) s = K s' ∧ Kz s s' ∧ (∀ i, i < x → gi s' 25 i = gi s 25 i) ∧ ∀ i, x ≤ i → i < 144 → gi s' 25 i = eM (ini τ (i / 12) (i % 12))
  | u, x, 0, s, _, h2, _ => absurd h2 (by omega)
  | 0, x, M + 1, s, h1, _, _ => by
    refine ⟨s, ?_, fun _ _ _ => rfl, fun _ _ => rfl, fun i hi hi2 => absurd hi2 (by omega)⟩
    show st_X10_laysWays_2 N K _ (nI x) s = _
    unfold st_X10_laysWays_2
    rw [if_pos (show (144 : Int32) ≤ nI x from nI_le (a := 144) (by omega) (by omega))]
  | u + 1, x, M + 1, s, h1, h2, hg => by
    have hx : x < 144 := by omega
    have e : itr (fun _ _ => none) (st_X10_laysWays_2 N K) (M + 1) (nI x) s = itr (fun _ _ => none) (st_X10_laysWays_2 N K) M (nI (x + 1)) (si s 25 x (eM (ini τ (x / 12) (x % 12)))) := by
      show st_X10_laysWays_2 N K _ (nI x) s = _
      generalize itr (fun _ _ => none) (st_X10_laysWays_2 N K) M = rec
      unfold st_X10_laysWays_2
      have d1 : nI x / 12 = nI (x / 12) := pk_div (d := 12) (by omega) (by decide) (by decide)
      have d2 : nI x - nI (x / 12) * 12 = nI (x % 12) := by
        rw [li_12, pk_mul, pk_sub (by omega)]
        congr 1
        omega
      have i1 : ix (nI x) = x := ix_n (by omega)
      have c1 : ∀ {α : Type} (e : Option α), chk (nI x) 144 e = e := fun e => chk_n hx (by decide)
      simp only [lt_p, nI_1, d1, d2, i1, c1]
      rw [if_neg (show ¬ (144 : Int32) ≤ nI x from nI_ge (b := 144) hx (by decide))]
      unfold ini
      by_cases z : x / 12 = x % 12
      · rw [if_pos (show nI (x / 12) = nI (x % 12) by rw [z]), if_pos z]
        rfl
      · rw [if_neg (nI_nq z (by omega) (by omega)), if_neg z, ← rn_M hp (show x / 12 < 12 by omega) (show x % 12 < 12 by omega), show 12 * (x / 12) + x % 12 = x by omega, hg x hx]
        by_cases w : gi τ 4 x = 0
        · rw [if_pos w, if_pos w]
        · rw [if_neg w, if_neg w]
    obtain ⟨s', r1, r2, r3, r4⟩ := lp_m2 N hp K u (x + 1) M (si s 25 x (eM (ini τ (x / 12) (x % 12)))) (by omega) (by omega) (fun i hi => by
      rw [gi_ne (by decide)]
      exact hg i hi)
    refine ⟨s', e.trans r1, fun c i z => ?_, fun i z => ?_, fun i z hi => ?_⟩
    · rw [r2 c i z, gi_ne z]
    · rw [r3 i (by omega), gi_ni (by omega)]
    · by_cases w : i = x
      · rw [w, r3 x (by omega), gi_eq]
      · exact r4 i (by omega) hi
theorem s_laysWays (N : Nat) (hN : 300 ≤ N) {σ τ : Mem} (hp : Rp σ τ) : ∃ τ', f_X10_laysWays N τ = some ((), τ') ∧ FM (fwa (ini τ)) τ' ∧ Kz τ τ' := by
  unfold f_X10_laysWays
  obtain ⟨s1, a1, a2, -, a4⟩ := lp_m2 N hp (fun s7 => itr (fun _ _ => none) (st_X10_laysWays_59 N) N 0 s7) 144 0 N τ (by omega) (by omega) (fun _ _ => rfl)
  obtain ⟨s2, b1, b3, b4⟩ := lp_mb N hN 12 0 N 99 s1 (ini τ) (by omega) (by omega) (by decide) (ini_Gd hp) (fun p q h h' => by
    rw [a4 _ (by omega) (by omega), show (12 * p + q) / 12 = p by omega, show (12 * p + q) % 12 = q by omega])
  exact ⟨s2, a1.trans b1, b3, a2.tr b4⟩
/-- the ways that the class keeps -/
def Rw (σ τ : Mem) : Prop := gi σ 3 3 = 0 ∨ (gi σ 3 3 = 1 ∧ FC (fwa (ini τ)) σ)
theorem s_way (N : Nat) (hN : 300 ≤ N) {σ τ : Mem} (hp : Rp σ τ) (hw : Rw σ τ) {x y : Nat} (hx : x < 12) (hy : y < 12) : ∃ σ', f_X3_way N (nI x) (nI y) σ = some (eC (fwa (ini τ) x y), σ') ∧ Rp σ' τ ∧ gi σ' 3 3 = 1 ∧ FC (fwa (ini τ)) σ' ∧ ∀ c i, ¬ (18 ≤ c ∧ c < 30) → ¬ (c = 3 ∧ i = 3) → gi σ' c i = gi σ c i := by
  unfold f_X3_way
  have c1 : ∀ {α : Type} (e : Option α), chk (nI x) 12 e = e := fun e => chk_n hx (by decide)
  have c2 : ∀ {α : Type} (e : Option α), chk (nI y) 12 e = e := fun e => chk_n hy (by decide)
  have i1 : ix (nI x) = x := ix_n (by omega)
  have i2 : ix (nI y) = y := ix_n (by omega)
  have e18 : 17 + 1 + x = 18 + x := by omega
  simp only [c1, c2, i1, i2, e18, lt_p]
  rcases hw with h0 | ⟨h1, hF⟩
  · rw [if_pos h0]
    obtain ⟨σ1, a1, a2, -, a4⟩ := s_findWays N hN hp
    rw [a1, bd_some]
    have hf : ∀ c i, ¬ (18 ≤ c ∧ c < 30) → ¬ (c = 3 ∧ i = 3) → gi (si σ1 3 3 1) c i = gi σ c i := fun c i z w => by
      rw [gi_si, if_neg w, a4 c i z]
    have hF : FC (fwa (ini τ)) (si σ1 3 3 1) := fun p q h h' => by
      rw [gi_ne (by omega)]
      exact a2 p q h h'
    refine ⟨si σ1 3 3 1, ?_, hp.fr (hf _ _ (by decide) (by decide)) (fun p q _ _ => hf _ _ (by omega) (by omega)) rfl (fun _ _ => rfl), gi_eq _ _ _ _, hF, hf⟩
    rw [hF x y hx hy]
  · rw [if_neg (by rw [h1]; decide), hF x y hx hy]
    exact ⟨σ, rfl, hp, h1, hF, fun _ _ _ _ => rfl⟩
theorem fw_Gd {σ τ : Mem} (hp : Rp σ τ) : Gd 405504 (fwa (ini τ)) := by
  obtain ⟨σ1, a1, a2, a3, a4⟩ := s_findWays 300 (by decide) hp
  exact a3
theorem s_miles (N : Nat) (hN : 300 ≤ N) {σ τ : Mem} (hp : Rp σ τ) (hw : Rw σ τ) (x1 x2 : Int32) : ∃ r σ' τ', f_X9_miles N x1 x2 σ = some (r, σ') ∧ f_X10_miles N x1 x2 τ = some (r, τ') ∧ Rp σ' τ' ∧ Rw σ' τ' := by
  unfold f_X9_miles f_X10_miles
  simp only [e_told3, e_isParish, bd_some, ite10]
  rw [← hp.1]
  by_cases h1 : inR x1 0 11 ∧ hb (gi σ 3 0) x1
  · by_cases h2 : inR x2 0 11 ∧ hb (gi σ 3 0) x2
    · rw [if_pos h1, if_pos h2, if_pos h1, if_pos h2]
      obtain ⟨p, -, hp', rfl⟩ := inR_n (a := 0) (b := 11) rfl rfl (by decide) (by decide) h1.1
      obtain ⟨q, -, hq', rfl⟩ := inR_n (a := 0) (b := 11) rfl rfl (by decide) (by decide) h2.1
      obtain ⟨σ1, a1, a2, a3, a4, -⟩ := s_way N hN hp hw (show p < 12 by omega) (show q < 12 by omega)
      obtain ⟨τ1, b1, b2, b3⟩ := s_laysWays N hN hp
      have hini : ini τ1 = ini τ := by
        funext p q
        unfold ini rn
        rw [b3 4 _ (by decide)]
      have ep : Rp σ1 τ1 := a2.fr rfl (fun _ _ _ _ => rfl) (b3 _ _ (by decide)) (fun _ _ => b3 _ _ (by decide))
      have ew : Rw σ1 τ1 := Or.inr ⟨a3, by rw [hini]; exact a4⟩
      have j1 : (12 : Int32) * nI p + nI q = nI (12 * p + q) := by rw [li_12, pk_mul, nI_add]
      have i1 : ix (nI (12 * p + q)) = 12 * p + q := ix_n (by omega)
      have c1 : ∀ {α : Type} (e : Option α), chk (nI (12 * p + q)) 144 e = e := fun e => chk_n (by omega) (by decide)
      rw [a1, b1]
      simp only [bd_some, j1, i1, c1]
      rw [b2 p q (by omega) (by omega)]
      have hg := (fw_Gd hp).1 p q
      cases hd : fwa (ini τ) p q with
      | none =>
        refine ⟨-2, σ1, τ1, ?_, ?_, ep, ew⟩
        · rw [if_pos (show (1000000 : Int32) ≤ eC none by decide)]
        · rw [if_neg (show ¬ eM none < (100000000 : Int32) by decide)]
      | some d =>
        have := hg d (by omega) (by omega) hd
        refine ⟨nI d, σ1, τ1, ?_, ?_, ep, ew⟩
        · show (if (1000000 : Int32) ≤ nI d then _ else some (nI d, σ1)) = _
          rw [if_neg (show ¬ (1000000 : Int32) ≤ nI d from nI_ge (b := 1000000) (by omega) (by decide))]
        · show (if nI d < (100000000 : Int32) then some (nI d, τ1) else _) = _
          rw [if_pos (show nI d < (100000000 : Int32) from nI_lt (b := 100000000) (by omega) (by decide))]
    · rw [if_pos h1, if_neg h2, if_pos h1, if_neg h2]
      exact ⟨-1, _, _, rfl, rfl, hp, hw⟩
  · rw [if_neg h1, if_neg h1]
    exact ⟨-1, _, _, rfl, rfl, hp, hw⟩
