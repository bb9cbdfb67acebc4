/-! tales: by all ways of at most four roads -/
def Cn : Nat → Nat
  | 0 => 1
  | n + 1 => 1 + 12 * (1 + Cn n)
def nxt (g : Nat → Bool) : Nat → Nat → Nat
  | 0, q => q
  | u + 1, q => if g q = true then q else nxt g u (q + 1)
def Kpt (lw : Nat) (σ σ' : Mem) : Prop := ∀ c i, ¬ c = lw + 7 → ¬ c = 101 → gi σ' c i = gi σ c i
def Kqt (τ τ' : Mem) : Prop := ∀ c i, ¬ c = 17 → ¬ c = 18 → ¬ c = 30 → ¬ c = 31 → ¬ c = 32 → gi τ' c i = gi τ c i
theorem Kpt.rf (lw : Nat) (σ : Mem) : Kpt lw σ σ := fun _ _ _ _ => rfl
theorem Kqt.rf (τ : Mem) : Kqt τ τ := fun _ _ _ _ _ _ _ => rfl
theorem Kpt.tr {lw : Nat} {σ σ1 σ2 : Mem} (h : Kpt lw σ σ1) (h1 : Kpt lw σ1 σ2) : Kpt lw σ σ2 := fun c i z1 z2 => (h1 c i z1 z2).trans (h c i z1 z2)
theorem Kqt.tr {τ τ1 τ2 : Mem} (h : Kqt τ τ1) (h1 : Kqt τ1 τ2) : Kqt τ τ2 := fun c i z1 z2 z3 z4 z5 => (h1 c i z1 z2 z3 z4 z5).trans (h c i z1 z2 z3 z4 z5)
def Tw (LV : LVt) (LX : LXt) (lw mo : Nat) (σ τ : Mem) : Prop := Lw lw LV LX σ τ ∧ Rp σ τ ∧ Rb 32 σ (Al τ 1) ∧ gi τ 1 147 = nI mo
theorem Tw.k {LV : LVt} {LX : LXt} {lw mo : Nat} {σ τ σ' τ' : Mem} (h : Tw LV LX lw mo σ τ) (h1 : Kpt lw σ σ') (h2 : Kqt τ τ') : Tw LV LX lw mo σ' τ' := by
  obtain ⟨hL, hp, hB, hm⟩ := h
  have hlw := isLw_or hL.1
  refine ⟨hL.fr (fun c i z1 z2 => h1 c i (by omega) (by omega)) (h2 _ _ (by decide) (by decide) (by decide) (by decide) (by decide)) (fun c i z1 z2 => h2 c i (by omega) (by omega) (by omega) (by omega) (by omega)), hp.fr (h1 _ _ (by omega) (by omega)) (fun p q hp hq => h1 _ _ (by omega) (by omega)) (h2 _ _ (by decide) (by decide) (by decide) (by decide) (by decide)) (fun _ _ => h2 _ _ (by decide) (by decide) (by decide) (by decide) (by decide)), hB.fr (fun c i hc => by unfold Bc at hc; exact h1 c i (by omega) (by omega)) (fun i _ _ => h2 1 i (by decide) (by decide) (by decide) (by decide) (by decide)), ?_⟩
  rw [h2 _ _ (by decide) (by decide) (by decide) (by decide) (by decide)]
  exact hm
def Wy (lev : Nat) (w t : Nat → Nat) (τ : Mem) : Prop := ∀ i, i ≤ lev → gi τ 31 i = nI (w i) ∧ w i < 12 ∧ gi τ 32 i = nI (t i) ∧ t i ≤ 99999
def Hm (here : Int32) (lev : Nat) (w : Nat → Nat) : Prop := ∀ q, q < 32 → (bt here q = true ↔ ∃ j, j ≤ lev ∧ w j = q)
theorem lp_onw (N : Nat) {lev q : Nat} {w t : Nat → Nat} {τ : Mem} (hl : lev ≤ 4) (hw : Wy lev w t τ) (hq : q < 12) : ∀ (u i M : Nat), i + u = lev + 1 → u < M → ∃ r, itr (fun _ _ => none) (st_X10_isOnWay_2 N (nI q) (nI lev)) M (nI i) τ = some (r, τ) ∧ (r = 0 ↔ ¬ ∃ j, i ≤ j ∧ j ≤ lev ∧ w j = q)
  | u, i, 0, _, h2 => absurd h2 (by omega)
  | 0, i, M + 1, h1, _ => by
    refine ⟨0, ?_, ⟨fun _ ⟨j, j1, j2, _⟩ => by omega, fun _ => rfl⟩⟩
    show st_X10_isOnWay_2 N (nI q) (nI lev) _ (nI i) τ = _
    unfold st_X10_isOnWay_2
    rw [if_pos (nI_lt (by omega) (by omega))]
  | u + 1, i, M + 1, h1, h2 => by
    obtain ⟨w1, w2, -, -⟩ := hw i (by omega)
    have e : ∀ rec, st_X10_isOnWay_2 N (nI q) (nI lev) rec (nI i) τ = if nI (w i) = nI q then some (1, τ) else rec (nI (i + 1)) τ := by
      intro rec
      unfold st_X10_isOnWay_2
      simp only [lt_p, nI_1]
      rw [if_neg (show ¬ nI lev < nI i from Int32.not_lt.mpr (nI_le (by omega) (by omega))), chk_n (by omega) (by decide), ix_n (by omega), w1]
    have e' : itr (fun _ _ => none) (st_X10_isOnWay_2 N (nI q) (nI lev)) (M + 1) (nI i) τ = _ := e (itr (fun _ _ => none) (st_X10_isOnWay_2 N (nI q) (nI lev)) M)
    by_cases z : w i = q
    · rw [if_pos (by rw [z])] at e'
      exact ⟨1, e', ⟨fun h => absurd h (by decide), fun h => absurd ⟨i, Nat.le_refl _, by omega, z⟩ h⟩⟩
    · rw [if_neg (nI_nq z (by omega) (by omega))] at e'
      obtain ⟨r, r1, r2⟩ := lp_onw N hl hw hq u (i + 1) M (by omega) (by omega)
      refine ⟨r, e'.trans r1, r2.trans ⟨fun h ⟨j, j1, j2, j3⟩ => ?_, fun h ⟨j, j1, j2, j3⟩ => h ⟨j, by omega, j2, j3⟩⟩⟩
      by_cases y : j = i
      · rw [y] at j3; exact z j3
      · exact h ⟨j, by omega, j2, j3⟩
theorem e_onw (N : Nat) (hN : 300 ≤ N) {lev q : Nat} {w t : Nat → Nat} {here : Int32} {τ : Mem} (hl : lev ≤ 4) (hw : Wy lev w t τ) (hq : q < 12) (hh : Hm here lev w) : ∃ r, f_X10_isOnWay N (nI q) (nI lev) τ = some (r, τ) ∧ (r = 0 ↔ bt here q = false) := by
  obtain ⟨r, r1, r2⟩ := lp_onw N hl hw hq (lev + 1) 0 N (by omega) (by omega)
  refine ⟨r, r1, r2.trans ⟨fun h => ?_, fun h ⟨j, _, j2, j3⟩ => ?_⟩⟩
  · cases z : bt here q with
    | false => rfl
    | true =>
      obtain ⟨j, j1, j2⟩ := (hh q (by omega)).mp z
      exact absurd ⟨j, Nat.zero_le _, j1, j2⟩ h
  · rw [(hh q (by omega)).mpr ⟨j, j2, j3⟩] at h
    cases h
def gd (τ : Mem) (p : Nat) (here : Int32) (q : Nat) : Bool := !decide (gi τ 4 (12 * p + q) = 0) && !bt here q
theorem lp_t85 (N : Nat) (hN : 300 ≤ N) {lev p : Nat} {w t : Nat → Nat} {here x1 : Int32} {τ : Mem} (hl : lev < 4) (hw : Wy lev w t τ) (hp : p < 12) (hh : Hm here lev w) (K : Int32 → Mem → Option (Unit × Mem)) : ∀ (u q M : Nat), q + u = 12 → u < M → itr (fun _ _ => none) (st_X10_laysTales_85 N x1 (nI lev) (nI p) K) M (nI q) τ = K (nI (nxt (gd τ p here) u q)) τ
  | u, q, 0, _, h2 => absurd h2 (by omega)
  | 0, q, M + 1, h1, _ => by
    show st_X10_laysTales_85 N x1 (nI lev) (nI p) K _ (nI q) τ = _
    unfold st_X10_laysTales_85
    rw [if_pos (show (12 : Int32) ≤ nI q from nI_le (a := 12) (by omega) (by omega))]
    rfl
  | u + 1, q, M + 1, h1, h2 => by
    have hq : q < 12 := by omega
    obtain ⟨r, r1, r2⟩ := e_onw N hN (by omega) hw hq hh
    have e : ∀ rec, st_X10_laysTales_85 N x1 (nI lev) (nI p) K rec (nI q) τ = if gd τ p here q = true then K (nI q) τ else rec (nI (q + 1)) τ := by
      intro rec
      unfold st_X10_laysTales_85
      simp only [lt_p, nI_1]
      rw [if_neg (show ¬ (12 : Int32) ≤ nI q from nI_ge (b := 12) hq (by decide)), if_neg (show ¬ nI lev = 4 from nI_nq (b := 4) (by omega) (by omega) (by decide)), li_12, pk_mul, nI_add, chk_n (by omega) (by decide), ix_n (by omega), r1, bd_some]
      unfold gd
      by_cases z : gi τ 4 (12 * p + q) = 0
      · rw [if_pos z, if_neg (by simp [z])]
      · rw [if_neg z]
        by_cases y : r = 0
        · rw [if_pos y, if_pos (by simp [z, r2.mp y])]
        · have : bt here q = true := by
            cases v : bt here q with
            | true => rfl
            | false => exact absurd (r2.mpr v) y
          rw [if_neg y, if_neg (by simp [this])]
    have e' : itr (fun _ _ => none) (st_X10_laysTales_85 N x1 (nI lev) (nI p) K) (M + 1) (nI q) τ = _ := e (itr (fun _ _ => none) (st_X10_laysTales_85 N x1 (nI lev) (nI p) K) M)
    rw [e']
    show _ = K (nI (if gd τ p here q = true then q else nxt (gd τ p here) u (q + 1))) τ
    by_cases z : gd τ p here q = true
    · rw [if_pos z, if_pos z]
    · rw [if_neg z, if_neg z]
      exact lp_t85 N hN hl hw hp hh K u (q + 1) M (by omega) (by omega)
theorem lp_t85e (N : Nat) {x1 v7 : Int32} {τ : Mem} (K : Int32 → Mem → Option (Unit × Mem)) : ∀ (u q M : Nat), q + u = 12 → u < M → itr (fun _ _ => none) (st_X10_laysTales_85 N x1 4 v7 K) M (nI q) τ = K (nI 12) τ
  | u, q, 0, _, h2 => absurd h2 (by omega)
  | 0, q, M + 1, h1, _ => by
    show st_X10_laysTales_85 N x1 4 v7 K _ (nI q) τ = _
    unfold st_X10_laysTales_85
    rw [if_pos (show (12 : Int32) ≤ nI q from nI_le (a := 12) (by omega) (by omega)), show q = 12 by omega]
  | u + 1, q, M + 1, h1, h2 => by
    have hq : q < 12 := by omega
    have e : ∀ rec, st_X10_laysTales_85 N x1 4 v7 K rec (nI q) τ = rec (nI (q + 1)) τ := by
      intro rec
      unfold st_X10_laysTales_85
      simp only [lt_p, nI_1]
      rw [if_neg (show ¬ (12 : Int32) ≤ nI q from nI_ge (b := 12) hq (by decide)), if_pos trivial]
    have e' : itr (fun _ _ => none) (st_X10_laysTales_85 N x1 4 v7 K) (M + 1) (nI q) τ = _ := e (itr (fun _ _ => none) (st_X10_laysTales_85 N x1 4 v7 K) M)
    rw [e']
    exact lp_t85e N K u (q + 1) M (by omega) (by omega)
noncomputable def K73 (N : Nat) (x1 x2 v7 : Int32) (rec : Int32 → Int32 → Mem → Option (Unit × Mem)) : Int32 → Mem → Option (Unit × Mem) := fun (x3_14 : Int32) (s13 : Mem) => if x3_14 = 12 then (lt (v7 + 1) (fun v29 => lt (x2 - 1) (fun v30 => rec v30 v29 s13))) else chk x2 5 (chk (((12 : Int32) * v7) + x3_14) 144 (bd (f_X10_tired N x3_14 s13) (fun r16 s15 => chk 147 151 (bd (f_X10_feels N x3_14 x1 (gi s13 32 (ix x2)) (gi s13 4 (ix (((12 : Int32) * v7) + x3_14))) r16 (gi s15 1 (ix (147 : Int32))) s15) (fun _ s17 => lt (x2 + 1) (fun v19 => chk v19 5 (lt (si s17 31 (ix v19) x3_14) (fun s20 => chk (v19 - 1) 5 (bd (f_X10_byLaw N 116 999 s20) (fun r22 s21 => bd (f_X10_min N 99999 ((gi s20 32 (ix (v19 - 1))) + r22) s21) (fun r24 s23 => chk v19 5 (lt (si s23 32 (ix v19) r24) (fun s25 => chk x3_14 12 (chk v19 5 (bd (f_X10_max N (gi s25 30 (ix x3_14)) (gi s25 32 (ix v19)) s25) (fun r27 s26 => chk x3_14 12 (lt (si s26 30 (ix x3_14) r27) (fun s28 => rec v19 0 s28))))))))))))))))))
theorem st73 (N : Nat) (x1 : Int32) (rec : Int32 → Int32 → Mem → Option (Unit × Mem)) (x2 x3 : Int32) (s : Mem) : st_X10_laysTales_73 N x1 rec x2 x3 s = if x2 < 0 then (some ((), s)) else chk x2 5 (itr (fun _ _ => none) (st_X10_laysTales_85 N x1 x2 (gi s 31 (ix x2)) (K73 N x1 x2 (gi s 31 (ix x2)) rec)) N x3 s) := rfl
/-- a step on by a road -/
theorem t_push (N : Nat) (hN : 300 ≤ N) {LV : LVt} {LX : LXt} {lw mo k lev p q m : Nat} {w t : Nat → Nat} {σ τ : Mem} (hT : Tw LV LX lw mo σ τ) (hl : lev < 4) (hw : Wy lev w t τ) (hwp : w lev = p) (hq : q < 12) (h4 : gi τ 4 (12 * p + q) = nI m) : ∃ τ5, (∀ rec, K73 N (nI k) (nI lev) (nI p) rec (nI q) τ = rec (nI (lev + 1)) 0 τ5) ∧ gi τ5 31 (lev + 1) = nI q ∧ gi τ5 32 (lev + 1) = nI (min 99999 (t lev + LV 116 999 (fc (nI q) (gi τ 1 q) (tir τ q) (nI k) (nI (t lev)) (nI m) (nI mo - nI mo / 12 * 12)))) ∧ gi τ5 30 q = imax (gi τ 30 q) (nI (min 99999 (t lev + LV 116 999 (fc (nI q) (gi τ 1 q) (tir τ q) (nI k) (nI (t lev)) (nI m) (nI mo - nI mo / 12 * 12))))) ∧ (∀ i, ¬ i = q → gi τ5 30 i = gi τ 30 i) ∧ (∀ i, i ≤ lev → gi τ5 31 i = gi τ 31 i ∧ gi τ5 32 i = gi τ 32 i) ∧ Kqt τ τ5 := by
  obtain ⟨hL, hp, hB, h147⟩ := hT
  obtain ⟨w1, w2, w3, w4⟩ := hw lev (Nat.le_refl _)
  rw [hwp] at w1 w2
  obtain ⟨τ3, y1, y2, y3⟩ := e_feels N (nI k) (nI (t lev)) (nI m) (tir τ q) (nI mo) τ hq
  have hL3 : Lw lw LV LX σ (si τ3 31 (lev + 1) (nI q)) := (hL.k (KC.rf _ _) y2).fr (fun _ _ _ _ => rfl) (gi_ne (by decide)) (fun c i z1 z2 => gi_ne (by omega))
  obtain ⟨τ4, y4, y5⟩ := hL3.numM N hN (kind := 116) (most := 999) (φ := fc (nI q) (gi τ 1 q) (tir τ q) (nI k) (nI (t lev)) (nI m) (nI mo - nI mo / 12 * 12)) (Or.inr (Or.inl rfl)) (by decide) (fun i hi => by rw [gi_ne (by decide)]; exact y3 i hi)
  have y4' : f_X10_byLaw N 116 999 (si τ3 31 (lev + 1) (nI q)) = _ := y4
  have hle := hL.2.2.2 116 999 (fc (nI q) (gi τ 1 q) (tir τ q) (nI k) (nI (t lev)) (nI m) (nI mo - nI mo / 12 * 12)) (by decide)
  generalize hv : LV 116 999 (fc (nI q) (gi τ 1 q) (tir τ q) (nI k) (nI (t lev)) (nI m) (nI mo - nI mo / 12 * 12)) = v at *
  have etr : gi τ 1 (90 + 3 * q) + gi τ 1 (90 + 3 * q + 1) + gi τ 1 (90 + 3 * q + 2) = tir τ q := rfl
  have e32 : gi (si τ3 31 (lev + 1) (nI q)) 32 lev = nI (t lev) := by rw [gi_ne (by decide), y2 _ _ (by decide) (by decide)]; exact w3
  have hs : nI (lev + 1) - 1 = nI lev := by rw [li_1, pk_sub (by omega)]; rfl
  refine ⟨si (si τ4 32 (lev + 1) (nI (min 99999 (t lev + v)))) 30 q (imax (gi τ 30 q) (nI (min 99999 (t lev + v)))), fun rec => ?_, ?_, ?_, gi_eq _ _ _ _, fun i h => ?_, fun i h => ⟨?_, ?_⟩, fun c i z1 z2 z3 z4 z5 => ?_⟩
  · unfold K73
    have i1 : ix (nI q) = q := ix_n (by omega)
    have i2 : ix (nI lev) = lev := ix_n (by omega)
    have i3 : ix (nI (lev + 1)) = lev + 1 := ix_n (by omega)
    have i4 : ix (nI (12 * p + q)) = 12 * p + q := ix_n (by omega)
    have j1 : (12 : Int32) * nI p + nI q = nI (12 * p + q) := by rw [li_12, pk_mul, nI_add]
    have c1 : ∀ {α : Type} (e : Option α), chk (nI q) 12 e = e := fun e => chk_n hq (by decide)
    have c2 : ∀ {α : Type} (e : Option α), chk (nI lev) 5 e = e := fun e => chk_n (by omega) (by decide)
    have c3 : ∀ {α : Type} (e : Option α), chk (nI (lev + 1)) 5 e = e := fun e => chk_n (by omega) (by decide)
    have c4 : ∀ {α : Type} (e : Option α), chk (nI (12 * p + q)) 144 e = e := fun e => chk_n (by omega) (by decide)
    have e30 : gi (si τ4 32 (lev + 1) (nI (min 99999 (t lev + v)))) 30 q = gi τ 30 q := by rw [gi_ne (by decide), y5 _ _ (by decide), gi_ne (by decide), y2 _ _ (by decide) (by decide)]
    simp only [lt_p, j1, nI_1, i1, i2, i3, i4, c1, c2, c3, c4, hs, ck_147_151, ix_147, e_tiredM N hq, bd_some, etr, w3, h4, h147, y1, y4', e32, nI_add, e_maxM, gi_eq]
    rw [if_neg (show ¬ nI q = 12 from nI_nq (b := 12) (by omega) (by omega) (by decide)), li_99999, e_minM N _ _ (by decide) (by omega), bd_some, e30]
  · rw [gi_ne (by decide), gi_ne (by decide), y5 _ _ (by decide), gi_eq]
  · rw [gi_ne (by decide), gi_eq]
  · rw [gi_ni h, gi_ne (by decide), y5 _ _ (by decide), gi_ne (by decide), y2 _ _ (by decide) (by decide)]
  · rw [gi_ne (by decide), gi_ne (by decide), y5 _ _ (by decide), gi_ni (by omega), y2 _ _ (by decide) (by decide)]
  · rw [gi_ne (by decide), gi_ni (by omega), y5 _ _ (by decide), gi_ne (by decide), y2 _ _ (by decide) (by decide)]
  · rw [gi_ne z3, gi_ne z5, y5 c i z1, gi_ne z4, y2 c i z1 z2]
