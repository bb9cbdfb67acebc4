/-! tales: what is asked -/
theorem sub_cmp {y t L : Nat} (hy : y < 2 ^ 29) (ht : t < 2 ^ 29) (hL : L < 2 ^ 29) : nI y < nI t - nI L ↔ L + y < t := by
  by_cases z : L ≤ t
  · rw [pk_sub z]
    constructor
    · intro h
      rcases Nat.lt_or_ge y (t - L) with q | q
      · omega
      · exact absurd h (Int32.not_lt.mpr (nI_le q (by omega)))
    · intro h
      exact nI_lt (by omega) (by omega)
  · refine ⟨fun h => ?_, fun h => absurd h (by omega)⟩
    have e := imax_sub t L (by omega) (by omega)
    rw [show t - L = 0 by omega] at e
    unfold imax at e
    by_cases q : (0 : Int32) < nI t - nI L
    · rw [if_pos q] at e
      rw [e] at q
      exact absurd q (by decide)
    · exact absurd (Int32.lt_of_lt_of_le h (Int32.not_lt.mp q)) (nI_pos (by omega))
def Ty (τ : Mem) (k L y : Nat) (x5 : Int32) : Prop := (x5 = -2 ∧ y = 0) ∨ ∃ q, q < 12 ∧ x5 = nI q ∧ gi τ 1 (12 + 12 * k + q) = nI (L + y)
theorem lp_t36 (N : Nat) {k L : Nat} {σA σB τ : Mem} (hk : k < 6) (hA : Rb 32 σA (Al τ 1)) (hB : Rb 32 σB (Al τ 1)) (hi : Inv (Al τ 1)) (hMo : ∀ q, q < 12 → gi σA 110 q = gi τ 30 q) (hL : L ≤ 9999) (eL : gi τ 1 (132 + k) = nI L) (x2 : Int32) (K : Int32 → Int32 → Int32 → Mem → Option (Int32 × Mem)) : ∀ (u p M1 M2 M3 : Nat) (x3 : Int32) (y : Nat) (x5 : Int32), p + u = 12 → u < M1 → u < M2 → u < M3 → y ≤ 99999 → Ty τ k L y x5 → ∃ x3' y' x5', itr (fun _ _ _ _ _ => none) (st_X10_tales_36 N (nI k) x2 K) M1 x3 (nI y) x5 (nI p) τ = K x3' (nI y') x5' τ ∧ itr (fun _ _ _ => none) (st_X2_falseTales_52 N (nI k) 32) M2 x3 (nI p) σA = some (x3', σA) ∧ itr (fun _ _ _ _ => none) (st_X0_largestTale_13 N 32 (nI k)) M3 x5 (nI (L + y)) (nI p) σB = some (x5', σB) ∧ Ty τ k L y' x5' ∧ y' ≤ 99999
  | u, p, 0, _, _, x3, y, x5, _, h2, _, _, _, _ => absurd h2 (by omega)
  | u, p, M1 + 1, 0, _, x3, y, x5, _, _, h2, _, _, _ => absurd h2 (by omega)
  | u, p, M1 + 1, M2 + 1, 0, x3, y, x5, _, _, _, h2, _, _ => absurd h2 (by omega)
  | 0, p, M1 + 1, M2 + 1, M3 + 1, x3, y, x5, h1, _, _, _, hy, hx => by
    have hp : (12 : Int32) ≤ nI p := nI_le (a := 12) (by omega) (by omega)
    refine ⟨x3, y, x5, ?_, ?_, ?_, hx, hy⟩
    · show st_X10_tales_36 N (nI k) x2 K _ x3 (nI y) x5 (nI p) τ = _
      unfold st_X10_tales_36
      rw [if_pos hp]
    · show st_X2_falseTales_52 N (nI k) 32 _ x3 (nI p) σA = _
      unfold st_X2_falseTales_52
      rw [if_pos hp]
    · show st_X0_largestTale_13 N 32 (nI k) _ x5 (nI (L + y)) (nI p) σB = _
      unfold st_X0_largestTale_13
      rw [if_pos hp]
  | u + 1, p, M1 + 1, M2 + 1, M3 + 1, x3, y, x5, h1, h2, h3, h4, hy, hx => by
    have hp : p < 12 := by omega
    have hp' : ¬ (12 : Int32) ≤ nI p := nI_ge (b := 12) hp (by decide)
    have i1 : ix (nI p) = p := ix_n (by omega)
    have i2 : ix (nI k) = k := ix_n (by omega)
    have c1 : ∀ {α : Type} (e : Option α), chk (nI p) 12 e = e := fun e => chk_n hp (by decide)
    have c2 : ∀ {α : Type} (e : Option α), chk (nI k) 6 e = e := fun e => chk_n hk (by decide)
    have c3 : ∀ {α : Type} (e : Option α), chk (nI (132 + k)) 151 e = e := fun e => chk_n (by omega) (by decide)
    have c4 : ∀ {α : Type} (e : Option α), chk (nI (12 + 12 * k + p)) 151 e = e := fun e => chk_n (by omega) (by decide)
    have i3 : ix (nI (132 + k)) = 132 + k := ix_n (by omega)
    have i4 : ix (nI (12 + 12 * k + p)) = 12 + 12 * k + p := ix_n (by omega)
    have j1 : (132 : Int32) + nI k = nI (132 + k) := by rw [li_132, nI_add]
    have lA : gi σA (32 + 3) k = nI L := ((hA.2.1 k hk).2.1).trans eL
    have a9 := hA.2.2.1 k p hk hp
    have b9 := hB.2.2.1 k p hk hp
    have i7 := hi.2.2.2.1 k p hk hp
    have sM : ∀ rec, st_X10_tales_36 N (nI k) x2 K rec x3 (nI y) x5 (nI p) τ = if gi τ 1 (12 + 12 * k + p) = -1 then rec x3 (nI y) x5 (nI (p + 1)) τ else if nI y < gi τ 1 (12 + 12 * k + p) - nI L then rec (if inR (gi τ 1 (12 + 12 * k + p)) (nI L) (gi τ 30 p) then x3 else x3 ||| ((1 : Int32) <<< (nI p &&& 31))) (gi τ 1 (12 + 12 * k + p) - nI L) (nI p) (nI (p + 1)) τ else rec (if inR (gi τ 1 (12 + 12 * k + p)) (nI L) (gi τ 30 p) then x3 else x3 ||| ((1 : Int32) <<< (nI p &&& 31))) (nI y) x5 (nI (p + 1)) τ := by
      intro rec
      unfold st_X10_tales_36
      simp only [lt_p, nI_1, i1, c1, e_isKnown N hk hp, bd_some, e_known, c4, i4, j1, c3, i3, eL]
      rw [if_neg hp']
      by_cases z : gi τ 1 (12 + 12 * k + p) = -1
      · rw [if_pos z, if_pos rfl, if_pos z]
      · rw [if_neg z, if_neg (by decide), if_neg z]
        by_cases q : gi τ 1 (12 + 12 * k + p) < nI L
        · rw [if_pos q, if_neg (show ¬ inR (gi τ 1 (12 + 12 * k + p)) (nI L) (gi τ 30 p) from fun x => Int32.not_lt.mpr x.1 q)]
        · rw [if_neg q]
          by_cases q' : gi τ 1 (12 + 12 * k + p) ≤ gi τ 30 p
          · rw [if_pos q', if_pos (show inR (gi τ 1 (12 + 12 * k + p)) (nI L) (gi τ 30 p) from ⟨Int32.not_lt.mp q, q'⟩)]
          · rw [if_neg q', if_neg (show ¬ inR (gi τ 1 (12 + 12 * k + p)) (nI L) (gi τ 30 p) from fun x => q' x.2)]
    have sA : ∀ rec, st_X2_falseTales_52 N (nI k) 32 rec x3 (nI p) σA = if hb (gi σA (32 + 5) k) (nI p) then (if inR (gi σA (32 + 7 + 1 + k) p) (nI L) (gi τ 30 p) then rec x3 (nI (p + 1)) σA else rec (x3 ||| ((1 : Int32) <<< (nI p &&& 31))) (nI (p + 1)) σA) else rec x3 (nI (p + 1)) σA := by
      intro rec
      unfold st_X2_falseTales_52
      simp only [lt_p, nI_1, i1, i2, c1, c2, e_hasBit, e_within, bd_some, ite10, lA, hMo p hp]
      rw [if_neg hp']
    have sB : ∀ rec, st_X0_largestTale_13 N 32 (nI k) rec x5 (nI (L + y)) (nI p) σB = if hb (gi σB (32 + 5) k) (nI p) then (if gi σB (32 + 7 + 1 + k) p ≤ nI (L + y) then rec x5 (nI (L + y)) (nI (p + 1)) σB else rec (nI p) (gi σB (32 + 7 + 1 + k) p) (nI (p + 1)) σB) else rec x5 (nI (L + y)) (nI (p + 1)) σB := by
      intro rec
      unfold st_X0_largestTale_13
      simp only [lt_p, nI_1, i1, i2, c1, c2, e_hasBit, bd_some, ite10]
      rw [if_neg hp']
    have eM : itr (fun _ _ _ _ _ => none) (st_X10_tales_36 N (nI k) x2 K) (M1 + 1) x3 (nI y) x5 (nI p) τ = _ := sM (itr (fun _ _ _ _ _ => none) (st_X10_tales_36 N (nI k) x2 K) M1)
    have eA : itr (fun _ _ _ => none) (st_X2_falseTales_52 N (nI k) 32) (M2 + 1) x3 (nI p) σA = _ := sA (itr (fun _ _ _ => none) (st_X2_falseTales_52 N (nI k) 32) M2)
    have eB : itr (fun _ _ _ _ => none) (st_X0_largestTale_13 N 32 (nI k)) (M3 + 1) x5 (nI (L + y)) (nI p) σB = _ := sB (itr (fun _ _ _ _ => none) (st_X0_largestTale_13 N 32 (nI k)) M3)
    by_cases z : gi τ 1 (12 + 12 * k + p) = -1
    · have hA0 : ¬ hb (gi σA (32 + 5) k) (nI p) := fun v => by
        rcases a9 with ⟨_, w, _⟩ | ⟨w, _⟩
        · exact w z
        · rw [(hb_iff _ (by omega)).mp v] at w; cases w
      have hB0 : ¬ hb (gi σB (32 + 5) k) (nI p) := fun v => by
        rcases b9 with ⟨_, w, _⟩ | ⟨w, _⟩
        · exact w z
        · rw [(hb_iff _ (by omega)).mp v] at w; cases w
      rw [if_pos z] at eM
      rw [if_neg hA0] at eA
      rw [if_neg hB0] at eB
      rw [eM, eA, eB]
      exact lp_t36 N hk hA hB hi hMo hL eL x2 K u (p + 1) M1 M2 M3 x3 y x5 (by omega) (by omega) (by omega) (by omega) hy hx
    · obtain ⟨t, ht, et⟩ : ∃ t, t ≤ 99999 ∧ gi τ 1 (12 + 12 * k + p) = nI t := by
        rcases i7 with w | w
        · exact absurd w z
        · exact w
      have hA1 : hb (gi σA (32 + 5) k) (nI p) ∧ gi σA (32 + 7 + 1 + k) p = nI t := by
        rcases a9 with ⟨w, _, w3⟩ | ⟨_, w⟩
        · exact ⟨(hb_iff _ (by omega)).mpr w, by rw [show 32 + 7 + 1 + k = 32 + 8 + k by omega]; exact w3.trans et⟩
        · exact absurd w z
      have hB1 : hb (gi σB (32 + 5) k) (nI p) ∧ gi σB (32 + 7 + 1 + k) p = nI t := by
        rcases b9 with ⟨w, _, w3⟩ | ⟨_, w⟩
        · exact ⟨(hb_iff _ (by omega)).mpr w, by rw [show 32 + 7 + 1 + k = 32 + 8 + k by omega]; exact w3.trans et⟩
        · exact absurd w z
      rw [if_neg z, et] at eM
      rw [if_pos hA1.1, hA1.2] at eA
      rw [if_pos hB1.1, hB1.2] at eB
      have eA2 : itr (fun _ _ _ => none) (st_X2_falseTales_52 N (nI k) 32) (M2 + 1) x3 (nI p) σA = itr (fun _ _ _ => none) (st_X2_falseTales_52 N (nI k) 32) M2 (if inR (nI t) (nI L) (gi τ 30 p) then x3 else x3 ||| ((1 : Int32) <<< (nI p &&& 31))) (nI (p + 1)) σA := by
        rw [eA]
        by_cases q : inR (nI t) (nI L) (gi τ 30 p)
        · rw [if_pos q, if_pos q]
        · rw [if_neg q, if_neg q]
      by_cases q : L + y < t
      · rw [if_pos ((sub_cmp (by omega) (by omega) (by omega)).mpr q), pk_sub (by omega)] at eM
        rw [if_neg (nI_ge q (by omega)), show nI t = nI (L + (t - L)) by rw [show L + (t - L) = t by omega]] at eB
        rw [eM, eA2, eB]
        exact lp_t36 N hk hA hB hi hMo hL eL x2 K u (p + 1) M1 M2 M3 _ (t - L) (nI p) (by omega) (by omega) (by omega) (by omega) (by omega) (Or.inr ⟨p, hp, rfl, by rw [et, show L + (t - L) = t by omega]⟩)
      · rw [if_neg (fun v => q ((sub_cmp (by omega) (by omega) (by omega)).mp v))] at eM
        rw [if_pos (nI_le (by omega) (by omega))] at eB
        rw [eM, eA2, eB]
        exact lp_t36 N hk hA hB hi hMo hL eL x2 K u (p + 1) M1 M2 M3 _ y x5 (by omega) (by omega) (by omega) (by omega) hy hx
theorem s_tales (N : Nat) (hN : 50000 ≤ N) {σ τ : Mem} (hl : Rl σ τ) (hp : Rp σ τ) (hn : Rn σ τ) (x1 x2 : Int32) : ∃ r σ' τ', f_X9_tales N x1 x2 σ = some (r, σ') ∧ f_X10_tales N x1 x2 τ = some (r, τ') := by
  obtain ⟨lw, LV, LX, hlw, h10, hle, hLC, hLM⟩ := hl.law
  have hlw' := isLw_or hlw
  unfold f_X9_tales f_X10_tales
  rw [e_told0, e_isLetterM, bd_some, bd_some, ite10, ite10, show gi σ 32 1 = gi τ 1 146 from hn.1.1.2.1]
  by_cases h1 : inR x1 0 5 ∧ hb (gi τ 1 146) x1
  · rw [if_pos h1, if_pos h1, e_within, e_in, bd_some, bd_some, ite10, ite10]
    obtain ⟨k, -, hk, rfl⟩ := inR_n (a := 0) (b := 5) rfl rfl (by decide) (by decide) h1.1
    have hk : k < 6 := by omega
    by_cases h2 : inR x2 0 2
    · rw [if_pos h2, if_pos h2]
      obtain ⟨mo, hmo, emo⟩ := hn.2.1.1.2.2.1
      obtain ⟨-, ⟨L, hL, eL⟩, -, -⟩ := hn.2.1.2.2.1 k hk
      have hT : Tw LV LX lw mo σ τ := ⟨⟨hlw, hLC, hLM, hle⟩, hp, hn.1, emo⟩
      obtain ⟨σA, τA, a1, a2, a3, a4, a5⟩ := s_laysT N hN hk hT hn.2.1 (fun s4 => itr (fun _ _ _ => none) (st_X2_falseTales_52 N (nI k) 32) N 0 0 s4)
      have hα : Al τA 1 = Al τ 1 := by
        funext i
        exact a5 1 i (by decide) (by decide) (by decide) (by decide) (by decide)
      have hTA := hT.k a4 a5
      obtain ⟨x3', y', x5', b1, b2, b3, b4, b5⟩ := lp_t36 N (σA := σA) (σB := σ) (τ := τA) (L := L) hk hTA.2.2.1 (by rw [hα]; exact hn.1) (by rw [hα]; exact hn.2.1) a3 hL (by show Al τA 1 (132 + k) = _; rw [hα]; exact eL) x2 (fun (x3_21 : Int32) (x4_22 : Int32) (x5_23 : Int32) (s20 : Mem) => if x2 = 0 then (some (x3_21, s20)) else if x2 = 1 then (some (x4_22, s20)) else some (x5_23, s20)) 12 0 N N N 0 0 (-2) (by omega) (by omega) (by omega) (by omega) (by omega) (Or.inl ⟨rfl, rfl⟩)
      rw [a2, bd_some]
      have eF : f_X2_falseTales N (nI k) 32 lw σ = some (x3', σA) := a1.trans b2
      have eLt : f_X0_largestTale N 32 (nI k) σ = some (x5', σ) := by
        unfold f_X0_largestTale
        rw [chk_n hk (by decide), lt_p, ix_n (by omega), ((hn.1.2.1 k hk).2.1).trans eL]
        exact b3
      have b1' := b1
      obtain ⟨y, y1, y2, rfl⟩ := inR_n (a := 0) (b := 2) rfl rfl (by decide) (by decide) h2
      rw [lt_p, h10, ix_b hlw, hlw, ckc_t, eF, bd_some, eLt, bd_some]
      rcases (show y = 0 ∨ y = 1 ∨ y = 2 by omega) with rfl | rfl | rfl
      · rw [if_pos (show nI 0 = 0 from rfl)] at b1 ⊢
        exact ⟨x3', σA, τA, rfl, b1⟩
      · rw [if_neg (show ¬ nI 1 = 0 by decide), if_pos (show nI 1 = 1 from rfl)] at b1
        rw [if_neg (show ¬ nI 1 = 0 by decide), if_neg (show ¬ nI 1 = 2 by decide), e_within, bd_some, ite10]
        rcases b4 with ⟨z1, z2⟩ | ⟨q, hq, z1, z2⟩
        · rw [z1, if_neg (show ¬ inR (-2) 0 11 by decide)]
          exact ⟨0, σ, τA, rfl, by rw [z2] at b1; exact b1⟩
        · have hd := hn.1.2.2.1 k q hk hq
          have z2' : Al τ 1 (12 + 12 * k + q) = nI (L + y') := by rw [← hα]; exact z2
          have hta : gi σ (39 + 1 + k) q = nI (L + y') := by
            rcases hd with ⟨_, _, w⟩ | ⟨_, w⟩
            · rw [show 39 + 1 + k = 32 + 8 + k by omega, w]; exact z2'
            · rw [z2'] at w; exact absurd w (nI_ne_m1 (by omega))
          have hlo : gi σ 35 k = nI L := ((hn.1.2.1 k hk).2.1).trans eL
          rw [z1, if_pos (show inR (nI q) 0 11 from inR_of (a := 0) (b := 11) (Nat.zero_le _) (by omega) (by decide)), chk_n hk (by decide), chk_n hq (by decide), chk_n hk (by decide), ix_n (by omega), ix_n (by omega), hta, hlo, pk_sub (by omega), show L + y' - L = y' by omega]
          exact ⟨nI y', σ, τA, rfl, b1⟩
      · rw [if_neg (show ¬ nI 2 = 0 by decide), if_neg (show ¬ nI 2 = 1 by decide)] at b1
        rw [if_neg (show ¬ nI 2 = 0 by decide), if_pos (show nI 2 = 2 from rfl)]
        exact ⟨x5', σ, τA, rfl, b1⟩
    · rw [if_neg h2, if_neg h2]
      exact ⟨-1, σ, τ, rfl, rfl⟩
  · rw [if_neg h1, if_neg h1]
    exact ⟨-1, σ, τ, rfl, rfl⟩
