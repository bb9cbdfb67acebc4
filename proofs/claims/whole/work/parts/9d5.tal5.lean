/-! tales: what is asked -/
theorem sub_cmp {y t L : Nat} (hy : y < 2 ^ 29) (ht : t < 2 ^ 29) (hL : L < 2 ^ 29) : nI y < nI t - nI L ↔ L + y < t := by
  by_cases z : L ≤ t
  · rw [pk_sub z]
    constructor
    · intro h
      rcases Nat.lt_or_ge y (t - L) with q | q
      · omega
      · exact absurd h (Int32.not_lt.mpr (nI_le q (by omega)))
    · intro h
      exact nI_lt (by omega) (by omega)
  · refine ⟨fun h => ?_, fun h => absurd h (by omega)⟩
    have e := imax_sub t L (by omega) (by omega)
    rw [show t - L = 0 by omega] at e
    unfold imax at e
    by_cases q : (0 : Int32) < nI t - nI L
    · rw [if_pos q] at e
      rw [e] at q
      exact absurd q (by decide)
    · exact absurd (Int32.lt_of_lt_of_le h (Int32.not_lt.mp q)) (nI_pos (by omega))
def Ty (τ : Mem) (k L y : Nat) (x5 : Int32) : Prop := (x5 = -2 ∧ y = 0) ∨ ∃ q, q < 12 ∧ x5 = nI q ∧ gi τ 1 (12 + 12 * k + q) = nI (L + y)
theorem lp_t36 (N : Nat) {k L : Nat} {σB τ : Mem} (hk : k < 6) (hB : Rb 32 σB (Al τ 1)) (hi : Inv (Al τ 1)) (hL : L ≤ 9999) (eL : gi τ 1 (132 + k) = nI L) (x2 : Int32) (K : Int32 → Int32 → Int32 → Mem → Option (Int32 × Mem)) : ∀ (u p M1 M3 : Nat) (x3 : Int32) (y : Nat) (x5 : Int32), p + u = 12 → u < M1 → u < M3 → y ≤ 99999 → Ty τ k L y x5 → ∃ x3' y' x5', itr (fun _ _ _ _ _ => none) (st_X10_tales_36 N (nI k) x2 K) M1 x3 (nI y) x5 (nI p) τ = K x3' (nI y') x5' τ ∧ (∀ i, i < 32 → (bt x3' i = true ↔ bt x3 i = true ∨ (p ≤ i ∧ i < 12 ∧ (¬ gi τ 1 (12 + 12 * k + i) = -1 ∧ ¬ inR (gi τ 1 (12 + 12 * k + i)) (nI L) (gi τ 30 i))))) ∧ itr (fun _ _ _ _ => none) (st_X0_largestTale_13 N 32 (nI k)) M3 x5 (nI (L + y)) (nI p) σB = some (x5', σB) ∧ Ty τ k L y' x5' ∧ y' ≤ 99999
  | u, p, 0, _, x3, y, x5, _, h2, _, _, _ => absurd h2 (by omega)
  | u, p, M1 + 1, 0, x3, y, x5, _, _, h2, _, _ => absurd h2 (by omega)
  | 0, p, M1 + 1, M3 + 1, x3, y, x5, h1, _, _, hy, hx => by
    have hp : (12 : Int32) ≤ nI p := nI_le (a := 12) (by omega) (by omega)
    refine ⟨x3, y, x5, ?_, fun i _ => ⟨Or.inl, fun z => z.elim id (fun y => by have := y.1; have := y.2.1; omega)⟩, ?_, hx, hy⟩
    · show st_X10_tales_36 N (nI k) x2 K _ x3 (nI y) x5 (nI p) τ = _
      unfold st_X10_tales_36
      rw [if_pos hp]
    · show st_X0_largestTale_13 N 32 (nI k) _ x5 (nI (L + y)) (nI p) σB = _
      unfold st_X0_largestTale_13
      rw [if_pos hp]
  | u + 1, p, M1 + 1, M3 + 1, x3, y, x5, h1, h2, h4, hy, hx => by
    have hp : p < 12 := by omega
    have hp' : ¬ (12 : Int32) ≤ nI p := nI_ge (b := 12) hp (by decide)
    have i1 : ix (nI p) = p := ix_n (by omega)
    have i2 : ix (nI k) = k := ix_n (by omega)
    have c1 : ∀ {α : Type} (e : Option α), chk (nI p) 12 e = e := fun e => chk_n hp (by decide)
    have c2 : ∀ {α : Type} (e : Option α), chk (nI k) 6 e = e := fun e => chk_n hk (by decide)
    have c3 : ∀ {α : Type} (e : Option α), chk (nI (132 + k)) 151 e = e := fun e => chk_n (by omega) (by decide)
    have c4 : ∀ {α : Type} (e : Option α), chk (nI (12 + 12 * k + p)) 151 e = e := fun e => chk_n (by omega) (by decide)
    have i3 : ix (nI (132 + k)) = 132 + k := ix_n (by omega)
    have i4 : ix (nI (12 + 12 * k + p)) = 12 + 12 * k + p := ix_n (by omega)
    have j1 : (132 : Int32) + nI k = nI (132 + k) := by rw [li_132, nI_add]
    have b9 := hB.2.2.1 k p hk hp
    have i7 := hi.2.2.2.1 k p hk hp
    have sM : ∀ rec, st_X10_tales_36 N (nI k) x2 K rec x3 (nI y) x5 (nI p) τ = if gi τ 1 (12 + 12 * k + p) = -1 then rec x3 (nI y) x5 (nI (p + 1)) τ else if nI y < gi τ 1 (12 + 12 * k + p) - nI L then rec (if inR (gi τ 1 (12 + 12 * k + p)) (nI L) (gi τ 30 p) then x3 else x3 ||| ((1 : Int32) <<< (nI p &&& 31))) (gi τ 1 (12 + 12 * k + p) - nI L) (nI p) (nI (p + 1)) τ else rec (if inR (gi τ 1 (12 + 12 * k + p)) (nI L) (gi τ 30 p) then x3 else x3 ||| ((1 : Int32) <<< (nI p &&& 31))) (nI y) x5 (nI (p + 1)) τ := by
      intro rec
      unfold st_X10_tales_36
      simp only [lt_p, nI_1, i1, c1, e_isKnown N hk hp, bd_some, e_known, c4, i4, j1, c3, i3, eL]
      rw [if_neg hp']
      by_cases z : gi τ 1 (12 + 12 * k + p) = -1
      · rw [if_pos z, if_pos rfl, if_pos z]
      · rw [if_neg z, if_neg (by decide), if_neg z]
        by_cases q : gi τ 1 (12 + 12 * k + p) < nI L
        · rw [if_pos q, if_neg (show ¬ inR (gi τ 1 (12 + 12 * k + p)) (nI L) (gi τ 30 p) from fun x => Int32.not_lt.mpr x.1 q)]
        · rw [if_neg q]
          by_cases q' : gi τ 1 (12 + 12 * k + p) ≤ gi τ 30 p
          · rw [if_pos q', if_pos (show inR (gi τ 1 (12 + 12 * k + p)) (nI L) (gi τ 30 p) from ⟨Int32.not_lt.mp q, q'⟩)]
          · rw [if_neg q', if_neg (show ¬ inR (gi τ 1 (12 + 12 * k + p)) (nI L) (gi τ 30 p) from fun x => q' x.2)]
    have sB : ∀ rec, st_X0_largestTale_13 N 32 (nI k) rec x5 (nI (L + y)) (nI p) σB = if hb (gi σB (32 + 5) k) (nI p) then (if gi σB (32 + 7 + 1 + k) p ≤ nI (L + y) then rec x5 (nI (L + y)) (nI (p + 1)) σB else rec (nI p) (gi σB (32 + 7 + 1 + k) p) (nI (p + 1)) σB) else rec x5 (nI (L + y)) (nI (p + 1)) σB := by
      intro rec
      unfold st_X0_largestTale_13
      simp only [lt_p, nI_1, i1, i2, c1, c2, e_hasBit, bd_some, ite10]
      rw [if_neg hp']
    have eM : itr (fun _ _ _ _ _ => none) (st_X10_tales_36 N (nI k) x2 K) (M1 + 1) x3 (nI y) x5 (nI p) τ = _ := sM (itr (fun _ _ _ _ _ => none) (st_X10_tales_36 N (nI k) x2 K) M1)
    have eB : itr (fun _ _ _ _ => none) (st_X0_largestTale_13 N 32 (nI k)) (M3 + 1) x5 (nI (L + y)) (nI p) σB = _ := sB (itr (fun _ _ _ _ => none) (st_X0_largestTale_13 N 32 (nI k)) M3)
    by_cases z : gi τ 1 (12 + 12 * k + p) = -1
    · have hB0 : ¬ hb (gi σB (32 + 5) k) (nI p) := fun v => by
        rcases b9 with ⟨_, w, _⟩ | ⟨w, _⟩
        · exact w z
        · rw [(hb_iff _ (by omega)).mp v] at w; cases w
      rw [if_pos z] at eM
      rw [if_neg hB0] at eB
      obtain ⟨x3', y', x5', r1, r2, r3⟩ := lp_t36 N hk hB hi hL eL x2 K u (p + 1) M1 M3 x3 y x5 (by omega) (by omega) (by omega) hy hx
      exact ⟨x3', y', x5', eM.trans r1, set_step (Q := fun i => ¬ gi τ 1 (12 + 12 * k + i) = -1 ∧ ¬ inR (gi τ 1 (12 + 12 * k + i)) (nI L) (gi τ 30 i)) hp (Or.inl ⟨rfl, fun q => q.1 z⟩) r2, eB.trans r3.1, r3.2⟩
    · obtain ⟨t, ht, et⟩ : ∃ t, t ≤ 99999 ∧ gi τ 1 (12 + 12 * k + p) = nI t := by
        rcases i7 with w | w
        · exact absurd w z
        · exact w
      have hB1 : hb (gi σB (32 + 5) k) (nI p) ∧ gi σB (32 + 7 + 1 + k) p = nI t := by
        rcases b9 with ⟨w, _, w3⟩ | ⟨_, w⟩
        · exact ⟨(hb_iff _ (by omega)).mpr w, by rw [show 32 + 7 + 1 + k = 32 + 8 + k by omega]; exact w3.trans et⟩
        · exact absurd w z
      have hs : ((if inR (gi τ 1 (12 + 12 * k + p)) (nI L) (gi τ 30 p) then x3 else x3 ||| ((1 : Int32) <<< (nI p &&& 31))) = x3 ∧ ¬ (¬ gi τ 1 (12 + 12 * k + p) = -1 ∧ ¬ inR (gi τ 1 (12 + 12 * k + p)) (nI L) (gi τ 30 p))) ∨ ((if inR (gi τ 1 (12 + 12 * k + p)) (nI L) (gi τ 30 p) then x3 else x3 ||| ((1 : Int32) <<< (nI p &&& 31))) = x3 ||| ((1 : Int32) <<< (nI p &&& 31)) ∧ (¬ gi τ 1 (12 + 12 * k + p) = -1 ∧ ¬ inR (gi τ 1 (12 + 12 * k + p)) (nI L) (gi τ 30 p))) := by
        by_cases v : inR (gi τ 1 (12 + 12 * k + p)) (nI L) (gi τ 30 p)
        · exact Or.inl ⟨if_pos v, fun q => q.2 v⟩
        · exact Or.inr ⟨if_neg v, z, v⟩
      rw [if_neg z] at eM
      rw [if_pos hB1.1, hB1.2] at eB
      by_cases q : L + y < t
      · rw [if_pos (show nI y < gi τ 1 (12 + 12 * k + p) - nI L by rw [et]; exact (sub_cmp (by omega) (by omega) (by omega)).mpr q), show gi τ 1 (12 + 12 * k + p) - nI L = nI (t - L) by rw [et, pk_sub (by omega)]] at eM
        rw [if_neg (nI_ge q (by omega)), show nI t = nI (L + (t - L)) by rw [show L + (t - L) = t by omega]] at eB
        obtain ⟨x3', y', x5', r1, r2, r3⟩ := lp_t36 N hk hB hi hL eL x2 K u (p + 1) M1 M3 _ (t - L) (nI p) (by omega) (by omega) (by omega) (by omega) (Or.inr ⟨p, hp, rfl, by rw [et, show L + (t - L) = t by omega]⟩)
        exact ⟨x3', y', x5', eM.trans r1, set_step (Q := fun i => ¬ gi τ 1 (12 + 12 * k + i) = -1 ∧ ¬ inR (gi τ 1 (12 + 12 * k + i)) (nI L) (gi τ 30 i)) hp hs r2, eB.trans r3.1, r3.2⟩
      · rw [if_neg (show ¬ nI y < gi τ 1 (12 + 12 * k + p) - nI L by rw [et]; exact fun v => q ((sub_cmp (by omega) (by omega) (by omega)).mp v))] at eM
        rw [if_pos (nI_le (by omega) (by omega))] at eB
        obtain ⟨x3', y', x5', r1, r2, r3⟩ := lp_t36 N hk hB hi hL eL x2 K u (p + 1) M1 M3 _ y x5 (by omega) (by omega) (by omega) hy hx
        exact ⟨x3', y', x5', eM.trans r1, set_step (Q := fun i => ¬ gi τ 1 (12 + 12 * k + i) = -1 ∧ ¬ inR (gi τ 1 (12 + 12 * k + i)) (nI L) (gi τ 30 i)) hp hs r2, eB.trans r3.1, r3.2⟩
/-- the class's set of tales that can't be, and the walk of the reference -/
theorem s_false (N : Nat) (hN : 50000 ≤ N) {LV : LVt} {LX : LXt} {lw mo k L : Nat} {σ τ : Mem} (hk : k < 6) (hT : Tw LV LX lw mo σ τ) (hn : Rn σ τ) (eL : gi τ 1 (132 + k) = nI L) : ∃ r σA τA, f_X2_falseTales N (nI k) 32 lw σ = some (r, σA) ∧ f_X10_laysTales N (nI k) τ = some ((), τA) ∧ Kqt τ τA ∧ ∀ i, i < 32 → (bt r i = true ↔ (i < 12 ∧ (¬ gi τ 1 (12 + 12 * k + i) = -1 ∧ ¬ inR (gi τ 1 (12 + 12 * k + i)) (nI L) (gi τA 30 i)))) := by
  have hix : ix (nI k) = k := ix_n (by omega)
  obtain ⟨ts, c1, c2⟩ := lp_small N (lw := lw) (σ := σ) hk (fun (x5_9 : Int32) (s8 : Mem) => chk (nI k) 6 (lt (si s8 101 4 ((gi s8 (32 + 5) (ix (nI k))) &&& (x5_9 ^^^ (-1)))) (fun s10 => chk (nI k) 6 (chk (nI k) 6 (bd (f_X2_follow N 100 (nI k) (gi s10 (32 + 2) (ix (nI k))) (gi s10 (32 + 3) (ix (nI k))) 0 32 lw s10) (fun _ s11 => some (x5_9 ||| (gi s11 101 4), s11))))))) 12 0 N 0 (by omega) (by omega)
  have hts : ∀ i, i < 32 → (bt ts i = true ↔ i < 12 ∧ bt (gi σ 37 k) i = true ∧ gi σ (40 + k) i < gi σ 35 k) := fun i hi => (c2 i hi).trans ⟨fun a => a.elim (fun a => by rw [bt_0] at a; cases a) (fun a => a.2), fun a => Or.inr ⟨Nat.zero_le _, a⟩⟩
  have hu : ∀ i, i < 32 → (bt (gi σ 37 k &&& (ts ^^^ (-1))) i = true ↔ bt (gi σ 37 k) i = true ∧ ¬ bt ts i = true) := fun i hi => by
    rw [b_and, b_xor, b_m1 i hi, Bool.and_eq_true]
    cases bt ts i <;> simp
  have kp1 : Kpt lw σ (si σ 101 4 (gi σ 37 k &&& (ts ^^^ (-1)))) := fun c i _ z => gi_ne z
  have ht : ∀ q, gi (si σ 101 4 (gi σ 37 k &&& (ts ^^^ (-1)))) (40 + k) q = gi σ (40 + k) q := fun q => gi_ne (by omega)
  have kn : ∀ q, q < 12 → bt (gi σ 37 k) q = true → ¬ gi τ 1 (12 + 12 * k + q) = -1 ∧ gi σ (40 + k) q = gi τ 1 (12 + 12 * k + q) := fun q hq hb => by
    rcases hn.1.2.2.1 k q hk hq with ⟨_, w2, w3⟩ | ⟨w1, _⟩
    · exact ⟨w2, w3⟩
    · rw [show 32 + 5 = 37 from rfl, hb] at w1; cases w1
  obtain ⟨σA, τA, a1, a2, a3, a4, a5⟩ := s_laysT N hN hk (hT.k kp1 (Kqt.rf τ)) hn.2.1 (gi σ 37 k &&& (ts ^^^ (-1))) (gi_eq _ _ _ _) (fun i x y => by
    rw [b_and, show bt (gi σ 37 k) i = false from hn.1.2.2.2.1 k i hk x y]
    rfl) (fun q hq hb => by
    obtain ⟨w1, w2⟩ := kn q hq ((hu q (by omega)).mp hb).1
    rw [ht q, w2]
    rcases hn.2.1.2.2.2.1 k q hk hq with v | ⟨t, t1, t2⟩
    · exact absurd v w1
    · rw [show gi τ 1 (12 + 12 * k + q) = nI t from t2]
      exact Int32.lt_of_lt_of_le (show (-1 : Int32) < 0 by decide) (Int32.not_lt.mp (nI_pos (by omega))))
  refine ⟨ts ||| gi σA 101 4, σA, τA, ?_, a2, a5, fun i hi => ?_⟩
  · unfold f_X2_falseTales
    refine c1.trans ?_
    show chk (nI k) 6 (lt (si σ 101 4 (gi σ 37 (ix (nI k)) &&& (ts ^^^ (-1)))) (fun s10 => chk (nI k) 6 (chk (nI k) 6 (bd (f_X2_follow N 100 (nI k) (gi s10 34 (ix (nI k))) (gi s10 35 (ix (nI k))) 0 32 lw s10) (fun _ s11 => some (ts ||| (gi s11 101 4), s11)))))) = _
    rw [chk_n hk (by decide), lt_p, chk_n hk (by decide), chk_n hk (by decide), hix, a1, bd_some]
  · rw [b_or, Bool.or_eq_true, hts i hi]
    by_cases h12 : i < 12
    · have htA : gi σA (40 + k) i = gi σ (40 + k) i := (a4 _ _ (by have := isLw_or hT.1.1; omega) (by omega)).trans (ht i)
      rw [a3.1 i h12, Bool.and_eq_true, decide_eq_true_iff, hu i hi, hts i hi, htA]
      have hlo : gi σ 35 k = nI L := ((hn.1.2.1 k hk).2.1).trans eL
      rw [hlo]
      cases hb : bt (gi σ 37 k) i with
      | false =>
        have hm : gi τ 1 (12 + 12 * k + i) = -1 := by
          rcases hn.1.2.2.1 k i hk h12 with ⟨w1, _⟩ | ⟨_, w2⟩
          · rw [show 32 + 5 = 37 from rfl, hb] at w1; cases w1
          · exact w2
        exact ⟨fun a => a.elim (fun a => by cases a.2.1) (fun a => by cases a.1.1), fun a => absurd hm a.2.1⟩
      | true =>
        obtain ⟨w1, w2⟩ := kn i h12 hb
        rw [w2]
        constructor
        · rintro (⟨-, -, x⟩ | ⟨-, x⟩)
          · exact ⟨h12, w1, fun y => Int32.not_lt.mpr y.1 x⟩
          · exact ⟨h12, w1, fun y => Int32.not_lt.mpr y.2 x⟩
        · rintro ⟨-, -, x⟩
          by_cases z : gi τ 1 (12 + 12 * k + i) < nI L
          · exact Or.inl ⟨h12, rfl, z⟩
          · refine Or.inr ⟨⟨rfl, fun y => z y.2.2⟩, ?_⟩
            exact Int32.not_le.mp (fun y => x ⟨Int32.not_lt.mp z, y⟩)
    · rw [a3.2 i (by omega) hi]
      exact ⟨fun a => a.elim (fun a => absurd a.1 h12) (fun a => by cases a), fun a => absurd a.1 h12⟩
theorem s_tales (N : Nat) (hN : 50000 ≤ N) {σ τ : Mem} (hl : Rl σ τ) (hp : Rp σ τ) (hn : Rn σ τ) (x1 x2 : Int32) : ∃ r σ' τ', f_X9_tales N x1 x2 σ = some (r, σ') ∧ f_X10_tales N x1 x2 τ = some (r, τ') := by
  obtain ⟨lw, LV, LX, hlw, h10, hle, hLC, hLM⟩ := hl.law
  have hlw' := isLw_or hlw
  unfold f_X9_tales f_X10_tales
  rw [e_told0, e_isLetterM, bd_some, bd_some, ite10, ite10, show gi σ 32 1 = gi τ 1 146 from hn.1.1.2.1]
  by_cases h1 : inR x1 0 5 ∧ hb (gi τ 1 146) x1
  · rw [if_pos h1, if_pos h1, e_within, e_in, bd_some, bd_some, ite10, ite10]
    obtain ⟨k, -, hk, rfl⟩ := inR_n (a := 0) (b := 5) rfl rfl (by decide) (by decide) h1.1
    have hk : k < 6 := by omega
    by_cases h2 : inR x2 0 2
    · rw [if_pos h2, if_pos h2]
      obtain ⟨mo, hmo, emo⟩ := hn.2.1.1.2.2.1
      obtain ⟨-, ⟨L, hL, eL⟩, -, -⟩ := hn.2.1.2.2.1 k hk
      have hT : Tw LV LX lw mo σ τ := ⟨⟨hlw, hLC, hLM, hle⟩, hp, hn.1, emo⟩
      obtain ⟨rs, σA, τA, a1, a2, a5, a6⟩ := s_false N hN hk hT hn eL
      have hα : Al τA 1 = Al τ 1 := by
        funext i
        exact a5 1 i (by decide) (by decide) (by decide) (by decide) (by decide)
      obtain ⟨x3', y', x5', b1, b2, b3, b4, b5⟩ := lp_t36 N (σB := σ) (τ := τA) (L := L) hk (by rw [hα]; exact hn.1) (by rw [hα]; exact hn.2.1) hL (by show Al τA 1 (132 + k) = _; rw [hα]; exact eL) x2 (fun (x3_21 : Int32) (x4_22 : Int32) (x5_23 : Int32) (s20 : Mem) => if x2 = 0 then (some (x3_21, s20)) else if x2 = 1 then (some (x4_22, s20)) else some (x5_23, s20)) 12 0 N N 0 0 (-2) (by omega) (by omega) (by omega) (by omega) (Or.inl ⟨rfl, rfl⟩)
      rw [a2, bd_some]
      have hrs : rs = x3' := b_ext (fun i hi => Bool.eq_iff_iff.mpr ((a6 i hi).trans (by
        rw [b2 i hi, bt_0, show gi τA 1 (12 + 12 * k + i) = gi τ 1 (12 + 12 * k + i) from a5 1 _ (by decide) (by decide) (by decide) (by decide) (by decide)]
        exact ⟨fun a => Or.inr ⟨Nat.zero_le _, a⟩, fun a => a.elim (fun a => by cases a) (fun a => a.2)⟩)))
      have eF : f_X2_falseTales N (nI k) 32 lw σ = some (x3', σA) := by rw [← hrs]; exact a1
      have eLt : f_X0_largestTale N 32 (nI k) σ = some (x5', σ) := by
        unfold f_X0_largestTale
        rw [chk_n hk (by decide), lt_p, ix_n (by omega), ((hn.1.2.1 k hk).2.1).trans eL]
        exact b3
      have b1' := b1
      obtain ⟨y, y1, y2, rfl⟩ := inR_n (a := 0) (b := 2) rfl rfl (by decide) (by decide) h2
      rw [lt_p, h10, ix_b hlw, hlw, ckc_t, eF, bd_some, eLt, bd_some]
      rcases (show y = 0 ∨ y = 1 ∨ y = 2 by omega) with rfl | rfl | rfl
      · rw [if_pos (show nI 0 = 0 from rfl)] at b1 ⊢
        exact ⟨x3', σA, τA, rfl, b1⟩
      · rw [if_neg (show ¬ nI 1 = 0 by decide), if_pos (show nI 1 = 1 from rfl)] at b1
        rw [if_neg (show ¬ nI 1 = 0 by decide), if_neg (show ¬ nI 1 = 2 by decide), e_within, bd_some, ite10]
        rcases b4 with ⟨z1, z2⟩ | ⟨q, hq, z1, z2⟩
        · rw [z1, if_neg (show ¬ inR (-2) 0 11 by decide)]
          exact ⟨0, σ, τA, rfl, by rw [z2] at b1; exact b1⟩
        · have hd := hn.1.2.2.1 k q hk hq
          have z2' : Al τ 1 (12 + 12 * k + q) = nI (L + y') := by rw [← hα]; exact z2
          have hta : gi σ (39 + 1 + k) q = nI (L + y') := by
            rcases hd with ⟨_, _, w⟩ | ⟨_, w⟩
            · rw [show 39 + 1 + k = 32 + 8 + k by omega, w]; exact z2'
            · rw [z2'] at w; exact absurd w (nI_ne_m1 (by omega))
          have hlo : gi σ 35 k = nI L := ((hn.1.2.1 k hk).2.1).trans eL
          rw [z1, if_pos (show inR (nI q) 0 11 from inR_of (a := 0) (b := 11) (Nat.zero_le _) (by omega) (by decide)), chk_n hk (by decide), chk_n hq (by decide), chk_n hk (by decide), ix_n (by omega), ix_n (by omega), hta, hlo, pk_sub (by omega), show L + y' - L = y' by omega]
          exact ⟨nI y', σ, τA, rfl, b1⟩
      · rw [if_neg (show ¬ nI 2 = 0 by decide), if_neg (show ¬ nI 2 = 1 by decide)] at b1
        rw [if_neg (show ¬ nI 2 = 0 by decide), if_pos (show nI 2 = 2 from rfl)]
        exact ⟨x5', σ, τA, rfl, b1⟩
    · rw [if_neg h2, if_neg h2]
      exact ⟨-1, σ, τ, rfl, rfl⟩
  · rw [if_neg h1, if_neg h1]
    exact ⟨-1, σ, τ, rfl, rfl⟩
