/-! months: what is asked of the law -/
def fc (p w r k l d m : Int32) : Nat → Int32 := fun q => if q = 0 then p else if q = 1 then w else if q = 2 then r else if q = 3 then k else if q = 4 then l else if q = 5 then d else m
/-- only the facts have changed -/
def KC (lw : Nat) (σ σ' : Mem) : Prop := ∀ c i, ¬ c = lw + 7 → gi σ' c i = gi σ c i
def KM (τ τ' : Mem) : Prop := ∀ c i, ¬ c = 17 → ¬ c = 18 → gi τ' c i = gi τ c i
theorem KC.rf (lw : Nat) (σ : Mem) : KC lw σ σ := fun _ _ _ => rfl
theorem KM.rf (τ : Mem) : KM τ τ := fun _ _ _ _ => rfl
theorem KC.tr {lw : Nat} {σ σ1 σ2 : Mem} (h : KC lw σ σ1) (h1 : KC lw σ1 σ2) : KC lw σ σ2 := fun c i hc => (h1 c i hc).trans (h c i hc)
theorem KM.tr {τ τ1 τ2 : Mem} (h : KM τ τ1) (h1 : KM τ1 τ2) : KM τ τ2 := fun c i hc hc2 => (h1 c i hc hc2).trans (h c i hc hc2)
theorem KC.of {lw : Nat} {σ σ' : Mem} (h : σ'.1 = σ.1) : KC lw σ σ' := fun c i _ => gi_1 h c i
def Fo (lw : Nat) (σ : Mem) (p w r k : Int32) : Prop := gi σ (lw + 7) 15 = p ∧ gi σ (lw + 7) 22 = w ∧ gi σ (lw + 7) 17 = r ∧ gi σ (lw + 7) 10 = k
def Ff (lw : Nat) (σ : Mem) (φ : Nat → Int32) : Prop := ∀ q, q < 7 → gi σ (lw + 7) (fp q) = φ q
theorem Fo.of {lw : Nat} {σ σ' : Mem} {p w r k : Int32} (h : Fo lw σ p w r k) (e : σ'.1 = σ.1) : Fo lw σ' p w r k := by
  unfold Fo
  rw [gi_1 e, gi_1 e, gi_1 e, gi_1 e]
  exact h
theorem Ff.of {lw : Nat} {σ σ' : Mem} {φ : Nat → Int32} (h : Ff lw σ φ) (e : σ'.1 = σ.1) : Ff lw σ' φ := fun q hq => by rw [gi_1 e]; exact h q hq
theorem e_askOf (N lw : Nat) (p w r k : Int32) (σ : Mem) : ∃ σ', f_X4_askOf N lw p w r k σ = some ((), σ') ∧ KC lw σ σ' ∧ Fo lw σ' p w r k := by
  unfold f_X4_askOf
  simp only [lt_p, ck_15_26, ck_22_26, ck_17_26, ck_10_26, ix_15, ix_22, ix_17, ix_10]
  refine ⟨_, rfl, fun c i hc => ?_, ?_, ?_, ?_, ?_⟩
  · simp (disch := exact hc) only [gi_ne]
  · simp (disch := decide) only [gi_ni, gi_eq]
  · simp (disch := decide) only [gi_ni, gi_eq]
  · simp (disch := decide) only [gi_ni, gi_eq]
  · simp (disch := decide) only [gi_ni, gi_eq]
theorem e_askBy (N lw : Nat) (l d m : Int32) {p w r k : Int32} {σ : Mem} (h : Fo lw σ p w r k) : ∃ σ', f_X4_askBy N lw l d m σ = some ((), σ') ∧ KC lw σ σ' ∧ Fo lw σ' p w r k ∧ Ff lw σ' (fc p w r k l d (m - m / 12 * 12)) := by
  unfold f_X4_askBy
  simp only [lt_p, ck_11_26, ck_3_26, ck_12_26, ix_11, ix_3, ix_12]
  obtain ⟨h1, h2, h3, h4⟩ := h
  refine ⟨_, rfl, fun c i hc => ?_, ⟨?_, ?_, ?_, ?_⟩, fun q hq => ?_⟩
  · simp (disch := exact hc) only [gi_ne]
  · simp (disch := decide) only [gi_ni, gi_eq]; exact h1
  · simp (disch := decide) only [gi_ni, gi_eq]; exact h2
  · simp (disch := decide) only [gi_ni, gi_eq]; exact h3
  · simp (disch := decide) only [gi_ni, gi_eq]; exact h4
  · rcases (show q = 0 ∨ q = 1 ∨ q = 2 ∨ q = 3 ∨ q = 4 ∨ q = 5 ∨ q = 6 by omega) with rfl | rfl | rfl | rfl | rfl | rfl | rfl
    · show gi _ (lw + 7) 15 = p
      simp (disch := decide) only [gi_ni, gi_eq]; exact h1
    · show gi _ (lw + 7) 22 = w
      simp (disch := decide) only [gi_ni, gi_eq]; exact h2
    · show gi _ (lw + 7) 17 = r
      simp (disch := decide) only [gi_ni, gi_eq]; exact h3
    · show gi _ (lw + 7) 10 = k
      simp (disch := decide) only [gi_ni, gi_eq]; exact h4
    · show gi _ (lw + 7) 11 = l
      simp (disch := decide) only [gi_ni, gi_eq]
    · show gi _ (lw + 7) 3 = d
      simp (disch := decide) only [gi_ni, gi_eq]
    · show gi _ (lw + 7) 12 = m - m / 12 * 12
      simp (disch := decide) only [gi_ni, gi_eq]
theorem e_feels (N : Nat) {p : Nat} (k l d r m : Int32) (τ : Mem) (hp : p < 12) : ∃ τ', f_X10_feels N (nI p) k l d r m τ = some ((), τ') ∧ KM τ τ' ∧ ∀ q, q < 7 → gi τ' 18 q = fc (nI p) (gi τ 1 p) r k l d (m - m / 12 * 12) q := by
  unfold f_X10_feels
  simp only [lt_p, ck_0_7, ck_1_7, ck_2_7, ck_3_7, ck_4_7, ck_5_7, ck_6_7, ix_0, ix_1, ix_2, ix_3, ix_4, ix_5, ix_6, Int32.zero_add]
  rw [chk_n (by omega) (by decide), ix_n (by omega)]
  refine ⟨_, rfl, fun c i _ hc => ?_, fun q hq => ?_⟩
  · simp (disch := exact hc) only [gi_ne]
  · rcases (show q = 0 ∨ q = 1 ∨ q = 2 ∨ q = 3 ∨ q = 4 ∨ q = 5 ∨ q = 6 by omega) with rfl | rfl | rfl | rfl | rfl | rfl | rfl
    · show _ = nI p
      simp (disch := decide) only [gi_ni, gi_eq]
    · show _ = gi τ 1 p
      simp (disch := decide) only [gi_ne, gi_ni, gi_eq]
    · show _ = r
      simp (disch := decide) only [gi_ni, gi_eq]
    · show _ = k
      simp (disch := decide) only [gi_ni, gi_eq]
    · show _ = l
      simp (disch := decide) only [gi_ni, gi_eq]
    · show _ = d
      simp (disch := decide) only [gi_ni, gi_eq]
    · show _ = m - m / 12 * 12
      simp (disch := decide) only [gi_ni, gi_eq]
/-- the law in force, on both sides -/
def Lw (lw : Nat) (LV : LVt) (LX : LXt) (σ τ : Mem) : Prop := isLw lw = true ∧ LC lw σ LV LX ∧ LM τ LV LX ∧ ∀ kind most φ, most < 2 ^ 31 → LV kind most φ ≤ most
theorem Lw.fr {lw : Nat} {LV : LVt} {LX : LXt} {σ τ σ' τ' : Mem} (h : Lw lw LV LX σ τ) (h1 : ∀ c i, lw ≤ c → c ≤ lw + 5 → gi σ' c i = gi σ c i) (h2 : gi τ' 0 14 = gi τ 0 14) (h3 : ∀ c i, 12 ≤ c → c ≤ 16 → gi τ' c i = gi τ c i) : Lw lw LV LX σ' τ' := by
  obtain ⟨a, b, c, d⟩ := h
  refine ⟨a, fun N σ1 φ hN e1 e2 => b N σ1 φ hN (fun c i z1 z2 => (e1 c i z1 z2).trans (h1 c i z1 z2)) e2, fun N τ1 φ hN e0 e1 e2 => c N τ1 φ hN (e0.trans h2) (fun c i z1 z2 => (e1 c i z1 z2).trans (h3 c i z1 z2)) e2, d⟩
theorem Lw.k {lw : Nat} {LV : LVt} {LX : LXt} {σ τ σ' τ' : Mem} (h : Lw lw LV LX σ τ) (h1 : KC lw σ σ') (h2 : KM τ τ') : Lw lw LV LX σ' τ' := h.fr (fun c i _ z => h1 c i (by omega)) (h2 _ _ (by decide) (by decide)) (fun c i _ z => h2 c i (by omega) (by omega))
theorem Lw.num {lw : Nat} {LV : LVt} {LX : LXt} {σ τ : Mem} (h : Lw lw LV LX σ τ) (N : Nat) (hN : 300 ≤ N) {kind most : Nat} (hk : kind = 103 ∨ kind = 116 ∨ kind = 104) (hm : most < 2 ^ 31) {φ : Nat → Int32} (hf : Ff lw σ φ) : ∃ σ', f_X4_number N lw (nI kind) (nI most) σ = some (nI (LV kind most φ), σ') ∧ σ'.1 = σ.1 := (h.2.1 N σ φ hN (fun _ _ _ _ => rfl) hf).1 kind most hk hm
theorem Lw.shut {lw : Nat} {LV : LVt} {LX : LXt} {σ τ : Mem} (h : Lw lw LV LX σ τ) (N : Nat) (hN : 300 ≤ N) {φ : Nat → Int32} (hf : Ff lw σ φ) : ∃ σ', f_X4_shuts N lw σ = some (if LX φ = true then 1 else 0, σ') ∧ σ'.1 = σ.1 := (h.2.1 N σ φ hN (fun _ _ _ _ => rfl) hf).2
theorem Lw.numM {lw : Nat} {LV : LVt} {LX : LXt} {σ τ : Mem} (h : Lw lw LV LX σ τ) (N : Nat) (hN : 300 ≤ N) {kind most : Nat} (hk : kind = 103 ∨ kind = 116 ∨ kind = 104) (hm : most < 2 ^ 31) {φ : Nat → Int32} (hf : ∀ q, q < 7 → gi τ 18 q = φ q) : ∃ τ', f_X10_byLaw N (nI kind) (nI most) τ = some (nI (LV kind most φ), τ') ∧ ∀ c i, ¬ c = 17 → gi τ' c i = gi τ c i := (h.2.2.1 N τ φ hN rfl (fun _ _ _ _ => rfl) hf).1 kind most hk hm
theorem Lw.shutM {lw : Nat} {LV : LVt} {LX : LXt} {σ τ : Mem} (h : Lw lw LV LX σ τ) (N : Nat) (hN : 300 ≤ N) {φ : Nat → Int32} (hf : ∀ q, q < 7 → gi τ 18 q = φ q) : ∃ τ', f_X10_holdsAny N 120 τ = some (if LX φ = true then 1 else 0, τ') ∧ ∀ c i, ¬ c = 17 → gi τ' c i = gi τ c i := (h.2.2.1 N τ φ hN rfl (fun _ _ _ _ => rfl) hf).2
-- whence a parish hears
/-- what stands fast while a letter k goes on to parish p -/
def Sf (b lw k p mo : Nat) (src : Int32) (σ τ : Mem) : Prop := ((b = 32 ∨ b = 62) ∧ k < 6 ∧ p < 12 ∧ isLw lw = true) ∧ (∀ q, q < 12 → ∃ m, m ≤ 99 ∧ gi σ (5 + q) p = nI m ∧ gi τ 4 (12 * q + p) = nI m) ∧ (∀ q, q < 12 → (bt src q = true ∧ ¬ gi τ 1 (12 + 12 * k + q) = -1 ∧ gi σ (b + 8 + k) q = gi τ 1 (12 + 12 * k + q)) ∨ (bt src q = false ∧ gi τ 1 (12 + 12 * k + q) = -1)) ∧ gi σ b 11 = nI mo
theorem Sf.k {b lw k p mo : Nat} {src : Int32} {σ τ σ' τ' : Mem} (h : Sf b lw k p mo src σ τ) (h1 : KC lw σ σ') (h2 : KM τ τ') : Sf b lw k p mo src σ' τ' := by
  obtain ⟨⟨a1, a2, a3, a4⟩, b1, c1, d1⟩ := h
  have hl := isLw_or a4
  refine ⟨⟨a1, a2, a3, a4⟩, fun q hq => ?_, fun q hq => ?_, ?_⟩
  · rw [h1 _ _ (by omega), h2 _ _ (by decide) (by decide)]; exact b1 q hq
  · rw [h1 _ _ (by omega), h2 _ _ (by decide) (by decide)]; exact c1 q hq
  · rw [h1 _ _ (by omega)]; exact d1
def tir (τ : Mem) (p : Nat) : Int32 := gi τ 1 (90 + 3 * p) + gi τ 1 (90 + 3 * p + 1) + gi τ 1 (90 + 3 * p + 2)
/-- letter k may be heard in p from q in a month of the year -/
def hrs (LX : LXt) (k p : Nat) (m : Int32) (τ : Mem) (q : Nat) : Prop := ¬ gi τ 1 (12 + 12 * k + q) = -1 ∧ ¬ gi τ 4 (12 * q + p) = 0 ∧ ¬ LX (fc (nI p) (gi τ 1 p) (tir τ p) (nI k) (gi τ 1 (12 + 12 * k + q)) (gi τ 4 (12 * q + p)) m) = true
theorem hrs_k {LX : LXt} {k p q : Nat} {m : Int32} {τ τ' : Mem} (h1 : ∀ i, gi τ' 1 i = gi τ 1 i) (h4 : ∀ i, gi τ' 4 i = gi τ 4 i) : hrs LX k p m τ' q = hrs LX k p m τ q := by
  unfold hrs tir
  simp only [h1, h4]
theorem lp_src (N : Nat) (hN : 300 ≤ N) {b lw k p mo : Nat} {src : Int32} {LV : LVt} {LX : LXt} : ∀ (u q M1 M2 : Nat) (σ τ : Mem) (x6 x7 : Int32), q + u = 12 → u < M1 → u < M2 → Lw lw LV LX σ τ → Sf b lw k p mo src σ τ → Fo lw σ (nI p) (gi τ 1 p) (tir τ p) (nI k) → ((x6 = -1 ∧ x7 = nI 100) ∨ ∃ q' m', q' < 12 ∧ x6 = nI q' ∧ x7 = nI m' ∧ gi τ 4 (12 * q' + p) = nI m' ∧ m' ≤ 99 ∧ bt src q' = true) → ∃ σ' τ' z, itr (fun _ _ _ _ => none) (st_X0_sourceFor_28 N b (nI k) (nI p) src lw) M1 x6 x7 (nI q) σ = some (z, σ') ∧ itr (fun _ _ _ => none) (st_X10_hearsFrom_6 N (nI k) (nI p) (nI mo)) M2 x6 (nI q) τ = some (z, τ') ∧ KC lw σ σ' ∧ KM τ τ' ∧ (z = -1 ∨ ∃ q', q' < 12 ∧ z = nI q' ∧ bt src q' = true) ∧ (z = -1 ↔ x6 = -1 ∧ ∀ q', q ≤ q' → q' < 12 → ¬ hrs LX k p (nI mo - nI mo / 12 * 12) τ q')
  | u, q, 0, _, σ, τ, x6, x7, _, h2, _, _, _, _, _ => absurd h2 (by omega)
  | u, q, M1 + 1, 0, σ, τ, x6, x7, _, _, h3, _, _, _, _ => absurd h3 (by omega)
  | 0, q, M1 + 1, M2 + 1, σ, τ, x6, x7, h1, _, _, hL, hS, hF, hB => by
    refine ⟨σ, τ, x6, ?_, ?_, KC.rf _ _, KM.rf _, ?_, ⟨fun h => ⟨h, fun q' a b => absurd b (by omega)⟩, fun h => h.1⟩⟩
    · show st_X0_sourceFor_28 N b (nI k) (nI p) src lw _ x6 x7 (nI q) σ = _
      unfold st_X0_sourceFor_28
      rw [if_pos (show (12 : Int32) ≤ nI q from nI_le (a := 12) (by omega) (by omega))]
    · show st_X10_hearsFrom_6 N (nI k) (nI p) (nI mo) _ x6 (nI q) τ = _
      unfold st_X10_hearsFrom_6
      rw [if_pos (show (12 : Int32) ≤ nI q from nI_le (a := 12) (by omega) (by omega))]
    · rcases hB with ⟨z, _⟩ | ⟨q', m', z1, z2, _, _, _, z3⟩
      · exact Or.inl z
      · exact Or.inr ⟨q', z1, z2, z3⟩
  | u + 1, q, M1 + 1, M2 + 1, σ, τ, x6, x7, h1, h2, h3, hL, hS, hF, hB => by
    obtain ⟨⟨a1, a2, a3, a4⟩, b1, c1, d1⟩ := id hS
    obtain ⟨m, hm, m1, m2⟩ := b1 q (by omega)
    have hx : ix (nI q) = q := ix_n (by omega)
    have hxk : ix (nI k) = k := ix_n (by omega)
    have hxp : ix (nI p) = p := ix_n (by omega)
    have m1' : gi σ (4 + 1 + q) p = nI m := m1
    -- skip
    have skip : itr (fun _ _ _ _ => none) (st_X0_sourceFor_28 N b (nI k) (nI p) src lw) (M1 + 1) x6 x7 (nI q) σ = itr (fun _ _ _ _ => none) (st_X0_sourceFor_28 N b (nI k) (nI p) src lw) M1 x6 x7 (nI (q + 1)) σ → itr (fun _ _ _ => none) (st_X10_hearsFrom_6 N (nI k) (nI p) (nI mo)) (M2 + 1) x6 (nI q) τ = itr (fun _ _ _ => none) (st_X10_hearsFrom_6 N (nI k) (nI p) (nI mo)) M2 x6 (nI (q + 1)) τ → ∃ σ' τ' z, itr (fun _ _ _ _ => none) (st_X0_sourceFor_28 N b (nI k) (nI p) src lw) (M1 + 1) x6 x7 (nI q) σ = some (z, σ') ∧ itr (fun _ _ _ => none) (st_X10_hearsFrom_6 N (nI k) (nI p) (nI mo)) (M2 + 1) x6 (nI q) τ = some (z, τ') ∧ KC lw σ σ' ∧ KM τ τ' ∧ (z = -1 ∨ ∃ q', q' < 12 ∧ z = nI q' ∧ bt src q' = true) ∧ (z = -1 ↔ x6 = -1 ∧ ∀ q', q + 1 ≤ q' → q' < 12 → ¬ hrs LX k p (nI mo - nI mo / 12 * 12) τ q') := by
      intro e1 e2
      rw [e1, e2]
      exact lp_src N hN u (q + 1) M1 M2 σ τ x6 x7 (by omega) (by omega) (by omega) hL hS hF hB
    have next : ¬ hrs LX k p (nI mo - nI mo / 12 * 12) τ q → ((∀ q', q + 1 ≤ q' → q' < 12 → ¬ hrs LX k p (nI mo - nI mo / 12 * 12) τ q') ↔ ∀ q', q ≤ q' → q' < 12 → ¬ hrs LX k p (nI mo - nI mo / 12 * 12) τ q') := fun hn => ⟨fun h q' h1 h2 => by
      by_cases e : q' = q
      · rw [e]; exact hn
      · exact h q' (by omega) h2, fun h q' h1 h2 => h q' (by omega) h2⟩
    have sC : ∀ rec, st_X0_sourceFor_28 N b (nI k) (nI p) src lw rec x6 x7 (nI q) σ = if bt src q = true ∧ 0 < m ∧ nI m < x7 then bd (f_X4_askBy N lw (gi σ (b + 8 + k) q) (nI m) (nI mo) σ) (fun _ s13 => bd (f_X4_shuts N lw s13) (fun r16 s15 => if r16 = 0 then rec (nI q) (nI m) (nI (q + 1)) s15 else rec x6 x7 (nI (q + 1)) s15)) else rec x6 x7 (nI (q + 1)) σ := by
      intro rec
      unfold st_X0_sourceFor_28
      simp only [lt_p, nI_1, hx, hxk, hxp]
      rw [if_neg (show ¬ (12 : Int32) ≤ nI q from nI_ge (b := 12) (by omega) (by decide)), chk_n (by omega) (by decide), chk_n (by omega) (by decide), m1', e_hasBit, bd_some, ite10, d1]
      by_cases hb : bt src q = true
      · rw [if_pos ((hb_iff src (by omega)).mpr hb)]
        by_cases hm0 : 0 < m
        · rw [if_neg (nI_nle hm0 (by omega))]
          by_cases hx7 : nI m < x7
          · rw [if_neg (Int32.not_le.mpr hx7), if_pos ⟨hb, hm0, hx7⟩, chk_n (by omega) (by decide), chk_n (by omega) (by decide)]
          · rw [if_pos (Int32.not_lt.mp hx7), if_neg (fun z => hx7 z.2.2)]
        · rw [if_pos (show nI m ≤ 0 by rw [show m = 0 by omega]; decide), if_neg (fun z => hm0 z.2.1)]
      · rw [if_neg (fun z => hb ((hb_iff src (by omega)).mp z)), if_neg (fun z => hb z.1)]
    have sM : ∀ rec, st_X10_hearsFrom_6 N (nI k) (nI p) (nI mo) rec x6 (nI q) τ = if bt src q = true ∧ 0 < m ∧ nI m < x7 then bd (f_X10_feels N (nI p) (nI k) (gi τ 1 (12 + 12 * k + q)) (nI m) (tir τ p) (nI mo) τ) (fun _ s11 => bd (f_X10_holdsAny N 120 s11) (fun r14 s13 => if r14 = 0 then rec (nI q) (nI (q + 1)) s13 else rec x6 (nI (q + 1)) s13)) else rec x6 (nI (q + 1)) τ := by
      intro rec
      unfold st_X10_hearsFrom_6
      rw [if_neg (show ¬ (12 : Int32) ≤ nI q from nI_ge (b := 12) (by omega) (by decide)), li_12, pk_mul, nI_add, chk_n (by omega) (by decide), ix_n (by omega), m2]
      simp only [lt_p, nI_1, e_isKnown N a2 (show q < 12 by omega), bd_some, e_known, e_tiredM N a3]
      by_cases hm0 : 0 < m
      · rw [if_neg (nI_ne0 hm0 (by omega))]
        rcases c1 q (by omega) with ⟨z1, z2, z3⟩ | ⟨z1, z2⟩
        · rw [if_neg z2, if_neg (by decide)]
          have hj : chk (nI (12 + 12 * k + q)) 151 (bd (f_X10_feels N (nI p) (nI k) (gi τ 1 (ix (nI (12 + 12 * k + q)))) (nI m) (gi τ 1 (90 + 3 * p) + gi τ 1 (90 + 3 * p + 1) + gi τ 1 (90 + 3 * p + 2)) (nI mo) τ) (fun _ s11 => bd (f_X10_holdsAny N 120 s11) (fun r14 s13 => if r14 = 0 then rec (nI q) (nI (q + 1)) s13 else rec x6 (nI (q + 1)) s13))) = bd (f_X10_feels N (nI p) (nI k) (gi τ 1 (12 + 12 * k + q)) (nI m) (tir τ p) (nI mo) τ) (fun _ s11 => bd (f_X10_holdsAny N 120 s11) (fun r14 s13 => if r14 = 0 then rec (nI q) (nI (q + 1)) s13 else rec x6 (nI (q + 1)) s13)) := by
            rw [chk_n (by omega) (by decide), ix_n (by omega)]
            rfl
          rcases hB with ⟨y1, y2⟩ | ⟨q', m', y1, y2, y3, y4, y5, y6⟩
          · rw [if_pos y1, if_pos ⟨z1, hm0, by rw [y2]; exact nI_lt (by omega) (by decide)⟩]
            exact hj
          · rw [y2, if_neg (nI_ne_m1 (by omega)), pk_mul, nI_add, chk_n (by omega) (by decide), ix_n (by omega), y4, ← y3]
            by_cases hx7 : nI m < x7
            · rw [if_pos hx7, if_pos ⟨z1, hm0, hx7⟩, ← y2]
              exact hj
            · rw [if_neg hx7, if_neg (fun z => hx7 z.2.2)]
        · rw [if_pos z2, if_pos rfl, if_neg (fun z => by rw [z1] at z; exact absurd z.1 (by decide))]
      · rw [if_pos (show nI m = 0 by rw [show m = 0 by omega]; rfl), if_neg (fun z => hm0 z.2.1)]
    have eC : itr (fun _ _ _ _ => none) (st_X0_sourceFor_28 N b (nI k) (nI p) src lw) (M1 + 1) x6 x7 (nI q) σ = _ := sC (itr (fun _ _ _ _ => none) (st_X0_sourceFor_28 N b (nI k) (nI p) src lw) M1)
    have eM : itr (fun _ _ _ => none) (st_X10_hearsFrom_6 N (nI k) (nI p) (nI mo)) (M2 + 1) x6 (nI q) τ = _ := sM (itr (fun _ _ _ => none) (st_X10_hearsFrom_6 N (nI k) (nI p) (nI mo)) M2)
    by_cases hc : bt src q = true ∧ 0 < m ∧ nI m < x7
    · rw [if_pos hc] at eC eM
      have hta : gi σ (b + 8 + k) q = gi τ 1 (12 + 12 * k + q) := by
        rcases c1 q (by omega) with ⟨_, _, z⟩ | ⟨z, _⟩
        · exact z
        · rw [z] at hc; exact absurd hc.1 (by decide)
      rw [hta] at eC
      obtain ⟨σ1, f1, f2, f3, f4⟩ := e_askBy N lw (gi τ 1 (12 + 12 * k + q)) (nI m) (nI mo) hF
      obtain ⟨τ1, g1, g2, g3⟩ := e_feels N (nI k) (gi τ 1 (12 + 12 * k + q)) (nI m) (tir τ p) (nI mo) τ a3
      have hL1 := hL.k f2 g2
      obtain ⟨σ2, u1, u2⟩ := hL1.shut N hN f4
      obtain ⟨τ2, v1, v2⟩ := hL1.shutM N hN g3
      have kc : KC lw σ σ2 := f2.tr (KC.of u2)
      have km : KM τ τ2 := g2.tr (fun c i z _ => v2 c i z)
      have hF2 : Fo lw σ2 (nI p) (gi τ2 1 p) (tir τ2 p) (nI k) := by
        have e1 : gi τ2 1 p = gi τ 1 p := km _ _ (by decide) (by decide)
        have e2 : tir τ2 p = tir τ p := by
          unfold tir
          rw [km _ _ (by decide) (by decide), km _ _ (by decide) (by decide), km _ _ (by decide) (by decide)]
        rw [e1, e2]
        exact f3.of u2
      rw [f1, bd_some, u1, bd_some] at eC
      rw [g1, bd_some, v1, bd_some] at eM
      by_cases hX : LX (fc (nI p) (gi τ 1 p) (tir τ p) (nI k) (gi τ 1 (12 + 12 * k + q)) (nI m) (nI mo - nI mo / 12 * 12)) = true
      · rw [if_pos hX, if_neg (by decide)] at eC eM
        obtain ⟨σ', τ', z, r1, r2, r3, r4, r5, r6⟩ := lp_src N hN u (q + 1) M1 M2 σ2 τ2 x6 x7 (by omega) (by omega) (by omega) (hL.k kc km) (hS.k kc km) hF2 (by
          rcases hB with z | ⟨q', m', y1, y2, y3, y4, y5, y6⟩
          · exact Or.inl z
          · exact Or.inr ⟨q', m', y1, y2, y3, by rw [km _ _ (by decide) (by decide)]; exact y4, y5, y6⟩)
        refine ⟨σ', τ', z, eC.trans r1, eM.trans r2, kc.tr r3, km.tr r4, r5, r6.trans (and_congr_right fun _ => ?_)⟩
        simp only [hrs_k (fun i => km 1 i (by decide) (by decide)) (fun i => km 4 i (by decide) (by decide))]
        exact next (fun h => h.2.2 (by rw [m2]; exact hX))
      · rw [if_neg hX, if_pos rfl] at eC eM
        obtain ⟨σ', τ', z, r1, r2, r3, r4, r5, r6⟩ := lp_src N hN u (q + 1) M1 M2 σ2 τ2 (nI q) (nI m) (by omega) (by omega) (by omega) (hL.k kc km) (hS.k kc km) hF2 (Or.inr ⟨q, m, by omega, rfl, rfl, by rw [km _ _ (by decide) (by decide)]; exact m2, hm, hc.1⟩)
        refine ⟨σ', τ', z, eC.trans r1, eM.trans r2, kc.tr r3, km.tr r4, r5, ⟨fun h => absurd (r6.mp h).1 (nI_ne_m1 (by omega)), fun h => absurd ⟨?_, ?_, ?_⟩ (h.2 q (Nat.le_refl _) (by omega))⟩⟩
        · rcases c1 q (by omega) with ⟨_, z, _⟩ | ⟨z, _⟩
          · exact z
          · rw [z] at hc; exact absurd hc.1 (by decide)
        · rw [m2]; exact nI_ne0 hc.2.1 (by omega)
        · rw [m2]; exact hX
    · rw [if_neg hc] at eC eM
      obtain ⟨σ', τ', z, r1, r2, r3, r4, r5, r6⟩ := skip eC eM
      refine ⟨σ', τ', z, r1, r2, r3, r4, r5, r6.trans (and_congr_right fun hx6 => next (fun h => hc ?_))⟩
      rw [hrs, m2] at h
      refine ⟨?_, Nat.pos_of_ne_zero (fun z => h.2.1 (by rw [z]; rfl)), ?_⟩
      · rcases c1 q (by omega) with ⟨z, _, _⟩ | ⟨_, z⟩
        · exact z
        · exact absurd z h.1
      · rcases hB with ⟨_, z⟩ | ⟨q', m', y1, y2, _⟩
        · rw [z]; exact nI_lt (by omega) (by decide)
        · rw [y2] at hx6; exact absurd hx6 (nI_ne_m1 (by omega))
