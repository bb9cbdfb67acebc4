/-! what the law says: one function of the facts, in the class and in the reference -/
theorem e_worth (N : Nat) (hN : 300 ≤ N) {b t e : Nat} {code φ : Nat → Int32} {v : Option Int32} {σ : Mem} (h : CSeg code φ t e 32 v) (he : e ≤ 240) (hC : Cok b σ code φ t e) : ∃ σ', f_X4_worth N b (nI t) (nI e) σ = some (encL v, σ') ∧ σ'.1 = σ.1 := by
  obtain ⟨⟨h1, _⟩, h2⟩ := h
  obtain ⟨s', w, er⟩ := h2 N b e (fun (x3_23 : Int32) (s22 : Mem) => if x3_23 ≤ 0 then (some (1099511627776, s22)) else chk (x3_23 - 1) 32 (some (gl s22 (b + 6) (ix (x3_23 - 1)), s22))) σ 0 hC (by omega) (Nat.le_refl e) he
  refine ⟨s', ?_, w.1⟩
  have z := er (N - (e - t))
  rw [show N - (e - t) + (e - t) = N by omega] at z
  have z2 : f_X4_worth N b (nI t) (nI e) σ = wit N b e (fun (x3_23 : Int32) (s22 : Mem) => if x3_23 ≤ 0 then (some (1099511627776, s22)) else chk (x3_23 - 1) 32 (some (gl s22 (b + 6) (ix (x3_23 - 1)), s22))) N 0 t σ := rfl
  rw [z2, z, show N - (e - t) = (N - (e - t) - 1) + 1 by omega, wit_s]
  unfold st_X4_worth_5
  rw [if_pos (nI_le (Nat.le_refl e) (by omega))]
  show (if nI (0 + 1) ≤ 0 then some (1099511627776, s') else chk (nI (0 + 1) - 1) 32 (some (gl s' (b + 6) (ix (nI (0 + 1) - 1)), s'))) = _
  rw [if_neg (show ¬ nI (0 + 1) ≤ 0 by decide), nI_pred, chk_n (by omega) (by decide), ix_n (by omega), w.2.2.2]
theorem e_comesTo (N : Nat) (hN : 300 ≤ N) {t e : Nat} {cd φ : Nat → Int32} {v : Option Int32} {τ : Mem} (h : RSeg cd φ t e v) (he : e ≤ 240) (hC : Rok τ cd φ t e) : ∃ τ', f_X10_comesTo N (nI t) (nI e) τ = some (v.getD 0, τ') ∧ ∀ c i, ¬ c = 17 → gi τ' c i = gi τ c i := by
  obtain ⟨h1, h2⟩ := h
  have e0 : (260 : Int32) * (nI t / 260) = 0 := by
    rw [li_260, pk_div (by omega) (by omega) (by omega), show t / 260 = 0 by omega]
    rfl
  have z2 : f_X10_comesTo N (nI t) (nI e) τ = rit N e N 0 t τ := by
    unfold f_X10_comesTo
    rw [lt_p, e0]
    rfl
  rcases h2 N e τ 0 hC (by omega) (Nat.le_refl e) (by omega) with ⟨x, s', k, rfl, hk, w, er⟩ | ⟨s', k, rfl, hk, w, er⟩
  · refine ⟨s', ?_, w.1⟩
    have z := er (N - k)
    rw [show N - k + k = N by omega] at z
    rw [z2, z, show N - k = (N - k - 1) + 1 by omega, rit_s]
    unfold st_X10_comesTo_16
    rw [if_pos (nI_le (Nat.le_refl e) (by omega)), ck_0_260, ix_0, w.2.2]
    rfl
  · refine ⟨s', ?_, w⟩
    have z := er (N - k)
    rw [show N - k + k = N by omega] at z
    rw [z2, z]
    rfl
def clampN (most : Nat) : Option Int32 → Nat
  | none => 0
  | some x => if x < 0 then 0 else if nI most < x then most else ix x
theorem clampN_le {most : Nat} (hm : most < 2 ^ 31) (v : Option Int32) : clampN most v ≤ most := by
  cases v with
  | none => exact Nat.zero_le _
  | some x =>
    show (if x < 0 then 0 else if nI most < x then most else ix x) ≤ most
    by_cases h1 : x < 0
    · rw [if_pos h1]; exact Nat.zero_le _
    · rw [if_neg h1]
      by_cases h2 : nI most < x
      · rw [if_pos h2]; exact Nat.le_refl _
      · rw [if_neg h2]
        obtain ⟨j, hj, rfl⟩ := nI_of h1
        rw [ix_n hj]
        exact (nI_leI hj hm).mp (Int32.not_lt.mp h2)
theorem clamp_C {most : Nat} (hm : most < 2 ^ 31) (v : Option Int32) (s : Mem) : (if (lg_cmp (encL v) 1099511627776) = 0 then (some ((0 : Int32), s)) else some ((lmax 0 (lmin (nI most).toInt64 (encL v))).toInt32, s)) = some (nI (clampN most v), s) := by
  cases v with
  | none => rw [if_pos encL_n]; rfl
  | some x =>
    rw [if_neg (encL_s x)]
    show some ((lmax 0 (lmin (nI most).toInt64 x.toInt64)).toInt32, s) = some (nI (if x < 0 then 0 else if nI most < x then most else ix x), s)
    have e0 : (0 : Int64) = (0 : Int32).toInt64 := by decide
    by_cases h1 : x < 0
    · rw [if_pos h1]
      have hx : x < nI most := by
        rw [Int32.lt_iff_toInt_lt, nI_toInt hm]
        have := Int32.lt_iff_toInt_lt.mp h1
        rw [Int32.toInt_zero] at this
        omega
      have a1 : lmin (nI most).toInt64 x.toInt64 = x.toInt64 := by
        unfold lmin
        rw [if_pos ((i64_lt _ _).mpr hx)]
      have a2 : lmax 0 x.toInt64 = 0 := by
        unfold lmax
        by_cases z : x.toInt64 < 0
        · rw [if_pos z]
        · rw [e0, i64_lt] at z
          exact absurd h1 z
      rw [a1, a2]
      rfl
    · rw [if_neg h1]
      obtain ⟨j, hj, rfl⟩ := nI_of h1
      by_cases h2 : nI most < nI j
      · rw [if_pos h2]
        have a1 : lmin (nI most).toInt64 (nI j).toInt64 = (nI most).toInt64 := by
          unfold lmin
          rw [if_neg (fun z => by rw [i64_lt, nI_ltI hj hm] at z; rw [nI_ltI hm hj] at h2; omega)]
        have a2 : lmax 0 (nI most).toInt64 = (nI most).toInt64 := by
          unfold lmax
          rw [if_neg (fun z => by rw [e0, i64_lt] at z; exact nI_pos hm z)]
        rw [a1, a2, Int32.toInt32_toInt64]
      · rw [if_neg h2, ix_n hj]
        have a1 : lmin (nI most).toInt64 (nI j).toInt64 = (nI j).toInt64 := by
          unfold lmin
          by_cases z : (nI j).toInt64 < (nI most).toInt64
          · rw [if_pos z]
          · rw [if_neg z]
            rw [i64_lt, nI_ltI hj hm] at z
            rw [nI_ltI hm hj] at h2
            rw [show j = most by omega]
        have a2 : lmax 0 (nI j).toInt64 = (nI j).toInt64 := by
          unfold lmax
          rw [if_neg (fun z => by rw [e0, i64_lt] at z; exact nI_pos hj z)]
        rw [a1, a2, Int32.toInt32_toInt64]
theorem clamp_M {most : Nat} (hm : most < 2 ^ 31) (v : Option Int32) (s : Mem) : (if 0 ≤ v.getD 0 then (if v.getD 0 ≤ nI most then (some (v.getD 0, s)) else some (nI most, s)) else some (0, s)) = some (nI (clampN most v), s) := by
  cases v with
  | none =>
    show (if (0 : Int32) ≤ 0 then (if (0 : Int32) ≤ nI most then (some (0, s)) else some (nI most, s)) else some (0, s)) = some (nI 0, s)
    rw [if_pos (by decide), if_pos (nI_pos' hm)]
    rfl
  | some x =>
    show (if 0 ≤ x then (if x ≤ nI most then (some (x, s)) else some (nI most, s)) else some (0, s)) = some (nI (if x < 0 then 0 else if nI most < x then most else ix x), s)
    by_cases h1 : x < 0
    · rw [if_pos h1, if_neg (Int32.not_le.mpr h1)]
      rfl
    · rw [if_neg h1, if_pos (Int32.not_lt.mp h1)]
      by_cases h2 : nI most < x
      · rw [if_pos h2, if_neg (Int32.not_le.mpr h2)]
      · rw [if_neg h2, if_pos (Int32.not_lt.mp h2)]
        obtain ⟨j, hj, rfl⟩ := nI_of h1
        rw [ix_n hj]
/-- the law as a function -/
def lnum (kd : Nat → Nat) (ve vc : Nat → Vf) (kind most : Nat) (φ : Nat → Int32) : Nat → Nat → Nat
  | 0, _ => 0
  | m + 1, q => if kd q = kind ∧ vc q φ = some 1 then clampN most (ve q φ) else lnum kd ve vc kind most φ m (q + 1)
def lsh (kd : Nat → Nat) (vc : Nat → Vf) (φ : Nat → Int32) : Nat → Nat → Bool
  | 0, _ => false
  | m + 1, q => if kd q = 120 ∧ vc q φ = some 1 then true else lsh kd vc φ m (q + 1)
abbrev LVt : Type := Nat → Nat → (Nat → Int32) → Nat
abbrev LXt : Type := (Nat → Int32) → Bool
/-- what the class answers by the law at b -/
def LC (b : Nat) (σ : Mem) (LV : LVt) (LX : LXt) : Prop := ∀ (N : Nat) (σ1 : Mem) (φ : Nat → Int32), 300 ≤ N → (∀ c i, b ≤ c → c ≤ b + 5 → gi σ1 c i = gi σ c i) → (∀ q, q < 7 → gi σ1 (b + 7) (fp q) = φ q) → (∀ kind most, kind = 103 ∨ kind = 116 ∨ kind = 104 → most < 2 ^ 31 → ∃ σ2, f_X4_number N b (nI kind) (nI most) σ1 = some (nI (LV kind most φ), σ2) ∧ σ2.1 = σ1.1) ∧ ∃ σ2, f_X4_shuts N b σ1 = some (if LX φ = true then 1 else 0, σ2) ∧ σ2.1 = σ1.1
def LM (τ : Mem) (LV : LVt) (LX : LXt) : Prop := ∀ (N : Nat) (τ1 : Mem) (φ : Nat → Int32), 300 ≤ N → gi τ1 0 14 = gi τ 0 14 → (∀ c i, 12 ≤ c → c ≤ 16 → gi τ1 c i = gi τ c i) → (∀ q, q < 7 → gi τ1 18 q = φ q) → (∀ kind most, kind = 103 ∨ kind = 116 ∨ kind = 104 → most < 2 ^ 31 → ∃ τ2, f_X10_byLaw N (nI kind) (nI most) τ1 = some (nI (LV kind most φ), τ2) ∧ ∀ c i, ¬ c = 17 → gi τ2 c i = gi τ1 c i) ∧ ∃ τ2, f_X10_holdsAny N 120 τ1 = some (if LX φ = true then 1 else 0, τ2) ∧ ∀ c i, ¬ c = 17 → gi τ2 c i = gi τ1 c i
theorem getD1 {v : Option Int32} : v.getD 0 = 1 ↔ v = some 1 := by
  cases v with
  | none => exact ⟨fun h => absurd h (by decide), fun h => by cases h⟩
  | some x => exact ⟨fun h => by rw [show x = 1 from h], fun h => by cases h; rfl⟩
theorem gi_1 {σ σ' : Mem} (h : σ'.1 = σ.1) (c i : Nat) : gi σ' c i = gi σ c i := by
  unfold gi
  rw [h]
theorem lnum_le {kd : Nat → Nat} {ve vc : Nat → Vf} {kind most : Nat} {φ : Nat → Int32} (hm : most < 2 ^ 31) : ∀ m q, lnum kd ve vc kind most φ m q ≤ most
  | 0, q => Nat.zero_le _
  | m + 1, q => by
    show (if kd q = kind ∧ vc q φ = some 1 then clampN most (ve q φ) else lnum kd ve vc kind most φ m (q + 1)) ≤ most
    by_cases h : kd q = kind ∧ vc q φ = some 1
    · rw [if_pos h]; exact clampN_le hm _
    · rw [if_neg h]; exact lnum_le hm m (q + 1)
/-- the data of the rules, as functions -/
def Rdat (b m : Nat) (σ τ : Mem) (kd : Nat → Nat) (ve vc : Nat → Vf) : Prop := ∀ q, q < m → ∃ s t e s' t' e' : Nat, (gi σ (b + 1) q = nI (kd q) ∧ gi σ (b + 2) q = nI s ∧ gi σ (b + 3) q = nI t ∧ gi σ (b + 4) q = nI e) ∧ (gi τ 13 q = nI (kd q) ∧ gi τ 14 q = nI s' ∧ gi τ 15 q = nI t' ∧ gi τ 16 q = nI e') ∧ (s ≤ t ∧ t ≤ e ∧ e ≤ 240 ∧ s' ≤ t' ∧ t' ≤ e' ∧ e' ≤ 240) ∧ kd q < 256 ∧ (¬ kd q = 120 → ∀ φ, CSeg (fun z => gi σ (b + 5) z) φ s t 32 (ve q φ) ∧ RSeg (fun z => gi τ 12 z) φ s' t' (ve q φ)) ∧ ∀ φ, CSeg (fun z => gi σ (b + 5) z) φ t e 32 (vc q φ) ∧ RSeg (fun z => gi τ 12 z) φ t' e' (vc q φ)
theorem Rules.dat {b m c r : Nat} {σ τ : Mem} (h : Rules b 13 12 m c r σ τ) : ∃ kd ve vc, Rdat b m σ τ kd ve vc := by
  have h' : ∀ q : Nat, ∃ d : Nat × Vf × Vf, q < m → ∃ s t e s' t' e' : Nat, (gi σ (b + 1) q = nI d.1 ∧ gi σ (b + 2) q = nI s ∧ gi σ (b + 3) q = nI t ∧ gi σ (b + 4) q = nI e) ∧ (gi τ 13 q = nI d.1 ∧ gi τ 14 q = nI s' ∧ gi τ 15 q = nI t' ∧ gi τ 16 q = nI e') ∧ (s ≤ t ∧ t ≤ e ∧ e ≤ 240 ∧ s' ≤ t' ∧ t' ≤ e' ∧ e' ≤ 240) ∧ d.1 < 256 ∧ (¬ d.1 = 120 → ∀ φ, CSeg (fun z => gi σ (b + 5) z) φ s t 32 (d.2.1 φ) ∧ RSeg (fun z => gi τ 12 z) φ s' t' (d.2.1 φ)) ∧ ∀ φ, CSeg (fun z => gi σ (b + 5) z) φ t e 32 (d.2.2 φ) ∧ RSeg (fun z => gi τ 12 z) φ t' e' (d.2.2 φ) := by
    intro q
    by_cases hq : q < m
    · obtain ⟨kind, s, t, e, s', t', e', a1, a2, _, a3, a4, a5, W, a6, a7⟩ := h q hq
      by_cases hk : kind = 120
      · exact ⟨(kind, W, W), fun _ => ⟨s, t, e, s', t', e', a1, a2, a3, by show kind < 256; omega, fun z => absurd hk z, fun φ => ⟨a6 φ, a7 φ⟩⟩⟩
      · obtain ⟨V, v1, v2⟩ := a5 hk
        exact ⟨(kind, V, W), fun _ => ⟨s, t, e, s', t', e', a1, a2, a3, by show kind < 256; omega, fun _ φ => ⟨v1 φ, v2 φ⟩, fun φ => ⟨a6 φ, a7 φ⟩⟩⟩
    · exact ⟨(0, fun _ => none, fun _ => none), fun z => absurd z hq⟩
  obtain ⟨f, hf⟩ := Classical.axiomOfChoice h'
  exact ⟨fun q => (f q).1, fun q => (f q).2.1, fun q => (f q).2.2, fun q hq => hf q hq⟩
theorem lp_number (N : Nat) (hN : 300 ≤ N) {b m : Nat} {σ τ : Mem} {kd : Nat → Nat} {ve vc : Nat → Vf} (hm : m ≤ 16) (hd : Rdat b m σ τ kd ve vc) {φ : Nat → Int32} {kind most : Nat} (hk : kind = 103 ∨ kind = 116 ∨ kind = 104) (hmo : most < 2 ^ 31) (h0 : gi σ b 0 = nI m) : ∀ (u q M : Nat) (σ1 : Mem), q + u = m → u < M → (∀ c i, b ≤ c → c ≤ b + 5 → gi σ1 c i = gi σ c i) → (∀ q, q < 7 → gi σ1 (b + 7) (fp q) = φ q) → ∃ σ2, itr (fun _ _ => none) (st_X4_number_2 N b (nI kind) (nI most) (fun (x3_6 : Int32) (s5 : Mem) => chk x3_6 16 (chk x3_6 16 (bd (f_X4_worth N b (gi s5 (b + 2) (ix x3_6)) (gi s5 (b + 3) (ix x3_6)) s5) (fun r8 s7 => if (lg_cmp r8 1099511627776) = 0 then (some (0, s7)) else some ((lmax 0 (lmin (nI most).toInt64 r8)).toInt32, s7)))))) M (nI q) σ1 = some (nI (lnum kd ve vc kind most φ u q), σ2) ∧ σ2.1 = σ1.1
  | u, q, 0, σ1, _, h2, _, _ => absurd h2 (by omega)
  | 0, q, M + 1, σ1, h1, _, hb, hf => by
    refine ⟨σ1, ?_, rfl⟩
    show st_X4_number_2 N b (nI kind) (nI most) _ _ (nI q) σ1 = _
    unfold st_X4_number_2
    rw [hb b 0 (by omega) (by omega), h0, if_pos (nI_le (by omega) (by omega))]
    rfl
  | u + 1, q, M + 1, σ1, h1, h2, hb, hf => by
    obtain ⟨s, t, e, s', t', e', ⟨a1, a2, a3, a4⟩, _, ⟨b1, b2, b3, _⟩, hkd, hve, hvc⟩ := hd q (by omega)
    have c1 : gi σ1 (b + 1) q = nI (kd q) := by rw [hb _ _ (by omega) (by omega)]; exact a1
    have c2 : gi σ1 (b + 2) q = nI s := by rw [hb _ _ (by omega) (by omega)]; exact a2
    have c3 : gi σ1 (b + 3) q = nI t := by rw [hb _ _ (by omega) (by omega)]; exact a3
    have c4 : gi σ1 (b + 4) q = nI e := by rw [hb _ _ (by omega) (by omega)]; exact a4
    obtain ⟨σ2, w1, w2⟩ := e_worth N hN (hvc φ).1 b3 (σ := σ1) ⟨fun z _ _ => hb _ _ (by omega) (by omega), hf⟩
    have c2' : gi σ2 (b + 2) q = nI s := by rw [gi_1 w2]; exact c2
    have c3' : gi σ2 (b + 3) q = nI t := by rw [gi_1 w2]; exact c3
    have er : ∀ K : Int32 → Mem → Option (Int32 × Mem), itr (fun _ _ => none) (st_X4_number_2 N b (nI kind) (nI most) K) (M + 1) (nI q) σ1 = if nI (kd q) = nI kind then (if lg_cmp (encL (vc q φ)) 1 = 0 then K (nI q) σ2 else itr (fun _ _ => none) (st_X4_number_2 N b (nI kind) (nI most) K) M (nI (q + 1)) σ2) else itr (fun _ _ => none) (st_X4_number_2 N b (nI kind) (nI most) K) M (nI (q + 1)) σ1 := by
      intro K
      show st_X4_number_2 N b (nI kind) (nI most) K _ (nI q) σ1 = _
      generalize itr (fun _ _ => none) (st_X4_number_2 N b (nI kind) (nI most) K) M = rec
      unfold st_X4_number_2
      have hc : ∀ {α : Type} (e : Option α), chk (nI q) 16 e = e := fun e => chk_n (by omega) (by decide)
      have hx : ix (nI q) = q := ix_n (by omega)
      simp only [lt_p, hc, hx, nI_1]
      rw [hb b 0 (by omega) (by omega), h0, if_neg (nI_ge (by omega) (by omega)), if_neg (show ¬ (16 : Int32) ≤ nI q from nI_ge (b := 16) (by omega) (by decide)), c1, c3, c4, w1, bd_some]
    rw [er]
    show ∃ σ2', _ = some (nI (if kd q = kind ∧ vc q φ = some 1 then clampN most (ve q φ) else lnum kd ve vc kind most φ u (q + 1)), σ2') ∧ _
    by_cases hq : kd q = kind
    · rw [if_pos (by rw [hq])]
      by_cases hv : vc q φ = some 1
      · rw [if_pos ((lg_cmp_eq _ _).mpr ((encL_1 _).mpr hv)), if_pos ⟨hq, hv⟩, chk_n (by omega) (by decide), chk_n (by omega) (by decide), ix_n (by omega), c2', c3']
        obtain ⟨σ3, w3, w4⟩ := e_worth N hN (hve (by omega) φ).1 (by omega) (σ := σ2) ⟨fun z _ _ => by rw [gi_1 w2]; exact hb _ _ (by omega) (by omega), fun z hz => by rw [gi_1 w2]; exact hf z hz⟩
        rw [w3, bd_some, clamp_C hmo]
        exact ⟨σ3, rfl, w4.trans w2⟩
      · rw [if_neg (fun z => hv ((encL_1 _).mp ((lg_cmp_eq _ _).mp z))), if_neg (fun z => hv z.2)]
        obtain ⟨σ3, y1, y2⟩ := lp_number N hN hm hd (φ := φ) hk hmo h0 u (q + 1) M σ2 (by omega) (by omega) (fun c i z1 z2 => by rw [gi_1 w2]; exact hb c i z1 z2) (fun z hz => by rw [gi_1 w2]; exact hf z hz)
        exact ⟨σ3, y1, y2.trans w2⟩
    · rw [if_neg (nI_nq hq (by omega) (by omega)), if_neg (fun z => hq z.1)]
      exact lp_number N hN hm hd (φ := φ) hk hmo h0 u (q + 1) M σ1 (by omega) (by omega) hb hf
theorem lp_shuts (N : Nat) (hN : 300 ≤ N) {b m : Nat} {σ τ : Mem} {kd : Nat → Nat} {ve vc : Nat → Vf} (hm : m ≤ 16) (hd : Rdat b m σ τ kd ve vc) {φ : Nat → Int32} (h0 : gi σ b 0 = nI m) : ∀ (u q M : Nat) (σ1 : Mem), q + u = m → u < M → (∀ c i, b ≤ c → c ≤ b + 5 → gi σ1 c i = gi σ c i) → (∀ q, q < 7 → gi σ1 (b + 7) (fp q) = φ q) → ∃ σ2, itr (fun _ _ => none) (st_X4_shuts_2 N b) M (nI q) σ1 = some (if lsh kd vc φ u q = true then 1 else 0, σ2) ∧ σ2.1 = σ1.1
  | u, q, 0, σ1, _, h2, _, _ => absurd h2 (by omega)
  | 0, q, M + 1, σ1, h1, _, hb, hf => by
    refine ⟨σ1, ?_, rfl⟩
    show st_X4_shuts_2 N b _ (nI q) σ1 = _
    unfold st_X4_shuts_2
    rw [hb b 0 (by omega) (by omega), h0, if_pos (nI_le (by omega) (by omega))]
    rfl
  | u + 1, q, M + 1, σ1, h1, h2, hb, hf => by
    obtain ⟨s, t, e, s', t', e', ⟨a1, a2, a3, a4⟩, _, ⟨b1, b2, b3, _⟩, hkd, hve, hvc⟩ := hd q (by omega)
    have c1 : gi σ1 (b + 1) q = nI (kd q) := by rw [hb _ _ (by omega) (by omega)]; exact a1
    have c3 : gi σ1 (b + 3) q = nI t := by rw [hb _ _ (by omega) (by omega)]; exact a3
    have c4 : gi σ1 (b + 4) q = nI e := by rw [hb _ _ (by omega) (by omega)]; exact a4
    obtain ⟨σ2, w1, w2⟩ := e_worth N hN (hvc φ).1 b3 (σ := σ1) ⟨fun z _ _ => hb _ _ (by omega) (by omega), hf⟩
    have er : itr (fun _ _ => none) (st_X4_shuts_2 N b) (M + 1) (nI q) σ1 = if nI (kd q) = 120 then (if lg_cmp (encL (vc q φ)) 1 = 0 then some (1, σ2) else itr (fun _ _ => none) (st_X4_shuts_2 N b) M (nI (q + 1)) σ2) else itr (fun _ _ => none) (st_X4_shuts_2 N b) M (nI (q + 1)) σ1 := by
      show st_X4_shuts_2 N b _ (nI q) σ1 = _
      generalize itr (fun _ _ => none) (st_X4_shuts_2 N b) M = rec
      unfold st_X4_shuts_2
      have hc : ∀ {α : Type} (e : Option α), chk (nI q) 16 e = e := fun e => chk_n (by omega) (by decide)
      have hx : ix (nI q) = q := ix_n (by omega)
      simp only [lt_p, hc, hx, nI_1]
      rw [hb b 0 (by omega) (by omega), h0, if_neg (nI_ge (by omega) (by omega)), if_neg (show ¬ (16 : Int32) ≤ nI q from nI_ge (b := 16) (by omega) (by decide)), c1, c3, c4, w1, bd_some]
    rw [er]
    show ∃ σ2', _ = some (if (if kd q = 120 ∧ vc q φ = some 1 then true else lsh kd vc φ u (q + 1)) = true then 1 else 0, σ2') ∧ _
    by_cases hq : kd q = 120
    · rw [if_pos (show nI (kd q) = 120 by rw [hq]; rfl)]
      by_cases hv : vc q φ = some 1
      · rw [if_pos ((lg_cmp_eq _ _).mpr ((encL_1 _).mpr hv)), if_pos (show kd q = 120 ∧ vc q φ = some 1 from ⟨hq, hv⟩), if_pos rfl]
        exact ⟨σ2, rfl, w2⟩
      · rw [if_neg (fun z => hv ((encL_1 _).mp ((lg_cmp_eq _ _).mp z))), if_neg (show ¬ (kd q = 120 ∧ vc q φ = some 1) from fun z => hv z.2)]
        obtain ⟨σ3, y1, y2⟩ := lp_shuts N hN hm hd (φ := φ) h0 u (q + 1) M σ2 (by omega) (by omega) (fun c i z1 z2 => by rw [gi_1 w2]; exact hb c i z1 z2) (fun z hz => by rw [gi_1 w2]; exact hf z hz)
        exact ⟨σ3, y1, y2.trans w2⟩
    · rw [if_neg (show ¬ nI (kd q) = 120 from nI_nq (b := 120) hq (by omega) (by omega)), if_neg (show ¬ (kd q = 120 ∧ vc q φ = some 1) from fun z => hq z.1)]
      exact lp_shuts N hN hm hd (φ := φ) h0 u (q + 1) M σ1 (by omega) (by omega) hb hf
theorem lp_byLaw (N : Nat) (hN : 300 ≤ N) {b m : Nat} {σ τ : Mem} {kd : Nat → Nat} {ve vc : Nat → Vf} (hm : m ≤ 16) (hd : Rdat b m σ τ kd ve vc) {φ : Nat → Int32} {kind most : Nat} (hk : kind = 103 ∨ kind = 116 ∨ kind = 104) (hmo : most < 2 ^ 31) (h0 : gi τ 0 14 = nI m) : ∀ (u q M : Nat) (τ1 : Mem), q + u = m → u < M → gi τ1 0 14 = gi τ 0 14 → (∀ c i, 12 ≤ c → c ≤ 16 → gi τ1 c i = gi τ c i) → (∀ q, q < 7 → gi τ1 18 q = φ q) → ∃ τ2, itr (fun _ _ => none) (st_X10_byLaw_2 N (nI kind) (nI most) (fun (x3_6 : Int32) (s5 : Mem) => chk x3_6 16 (chk x3_6 16 (bd (f_X10_comesTo N (gi s5 14 (ix x3_6)) (gi s5 15 (ix x3_6)) s5) (fun r8 s7 => if 0 ≤ r8 then (if r8 ≤ (nI most) then (some (r8, s7)) else some ((nI most), s7)) else some (0, s7)))))) M (nI q) τ1 = some (nI (lnum kd ve vc kind most φ u q), τ2) ∧ ∀ c i, ¬ c = 17 → gi τ2 c i = gi τ1 c i
  | u, q, 0, τ1, _, h2, _, _, _ => absurd h2 (by omega)
  | 0, q, M + 1, τ1, h1, _, h14, hb, hf => by
    refine ⟨τ1, ?_, fun _ _ _ => rfl⟩
    show st_X10_byLaw_2 N (nI kind) (nI most) _ _ (nI q) τ1 = _
    unfold st_X10_byLaw_2
    rw [h14, h0, if_pos (nI_le (by omega) (by omega))]
    rfl
  | u + 1, q, M + 1, τ1, h1, h2, h14, hb, hf => by
    obtain ⟨s, t, e, s', t', e', _, ⟨a1, a2, a3, a4⟩, ⟨_, _, _, b1, b2, b3⟩, hkd, hve, hvc⟩ := hd q (by omega)
    have c1 : gi τ1 13 q = nI (kd q) := by rw [hb _ _ (by omega) (by omega)]; exact a1
    have c2 : gi τ1 14 q = nI s' := by rw [hb _ _ (by omega) (by omega)]; exact a2
    have c3 : gi τ1 15 q = nI t' := by rw [hb _ _ (by omega) (by omega)]; exact a3
    have c4 : gi τ1 16 q = nI e' := by rw [hb _ _ (by omega) (by omega)]; exact a4
    obtain ⟨τ2, w1, w2⟩ := e_comesTo N hN (hvc φ).2 b3 (τ := τ1) ⟨fun z _ _ => hb _ _ (by omega) (by omega), hf⟩
    have c2' : gi τ2 14 q = nI s' := by rw [w2 _ _ (by decide)]; exact c2
    have c3' : gi τ2 15 q = nI t' := by rw [w2 _ _ (by decide)]; exact c3
    have er : ∀ K : Int32 → Mem → Option (Int32 × Mem), itr (fun _ _ => none) (st_X10_byLaw_2 N (nI kind) (nI most) K) (M + 1) (nI q) τ1 = if nI (kd q) = nI kind then (if (vc q φ).getD 0 = 1 then K (nI q) τ2 else itr (fun _ _ => none) (st_X10_byLaw_2 N (nI kind) (nI most) K) M (nI (q + 1)) τ2) else itr (fun _ _ => none) (st_X10_byLaw_2 N (nI kind) (nI most) K) M (nI (q + 1)) τ1 := by
      intro K
      show st_X10_byLaw_2 N (nI kind) (nI most) K _ (nI q) τ1 = _
      generalize itr (fun _ _ => none) (st_X10_byLaw_2 N (nI kind) (nI most) K) M = rec
      unfold st_X10_byLaw_2
      have hc : ∀ {α : Type} (e : Option α), chk (nI q) 16 e = e := fun e => chk_n (by omega) (by decide)
      have hx : ix (nI q) = q := ix_n (by omega)
      simp only [lt_p, hc, hx, nI_1]
      rw [h14, h0, if_neg (nI_ge (by omega) (by omega)), c1, c3, c4, w1, bd_some]
    rw [er]
    show ∃ τ2', _ = some (nI (if kd q = kind ∧ vc q φ = some 1 then clampN most (ve q φ) else lnum kd ve vc kind most φ u (q + 1)), τ2') ∧ _
    by_cases hq : kd q = kind
    · rw [if_pos (by rw [hq])]
      by_cases hv : vc q φ = some 1
      · rw [if_pos (getD1.mpr hv), if_pos ⟨hq, hv⟩, chk_n (by omega) (by decide), chk_n (by omega) (by decide), ix_n (by omega), c2', c3']
        obtain ⟨τ3, w3, w4⟩ := e_comesTo N hN (hve (by omega) φ).2 (by omega) (τ := τ2) ⟨fun z _ _ => by rw [w2 _ _ (by decide)]; exact hb _ _ (by omega) (by omega), fun z hz => by rw [w2 _ _ (by decide)]; exact hf z hz⟩
        rw [w3, bd_some, clamp_M hmo]
        exact ⟨τ3, rfl, fun c i hc => (w4 c i hc).trans (w2 c i hc)⟩
      · rw [if_neg (fun z => hv (getD1.mp z)), if_neg (fun z => hv z.2)]
        obtain ⟨τ3, y1, y2⟩ := lp_byLaw N hN hm hd (φ := φ) hk hmo h0 u (q + 1) M τ2 (by omega) (by omega) ((w2 _ _ (by decide)).trans h14) (fun c i z1 z2 => by rw [w2 _ _ (by omega)]; exact hb c i z1 z2) (fun z hz => by rw [w2 _ _ (by decide)]; exact hf z hz)
        exact ⟨τ3, y1, fun c i hc => (y2 c i hc).trans (w2 c i hc)⟩
    · rw [if_neg (nI_nq hq (by omega) (by omega)), if_neg (fun z => hq z.1)]
      exact lp_byLaw N hN hm hd (φ := φ) hk hmo h0 u (q + 1) M τ1 (by omega) (by omega) h14 hb hf
theorem lp_holds (N : Nat) (hN : 300 ≤ N) {b m : Nat} {σ τ : Mem} {kd : Nat → Nat} {ve vc : Nat → Vf} (hm : m ≤ 16) (hd : Rdat b m σ τ kd ve vc) {φ : Nat → Int32} (h0 : gi τ 0 14 = nI m) : ∀ (u q M : Nat) (τ1 : Mem), q + u = m → u < M → gi τ1 0 14 = gi τ 0 14 → (∀ c i, 12 ≤ c → c ≤ 16 → gi τ1 c i = gi τ c i) → (∀ q, q < 7 → gi τ1 18 q = φ q) → ∃ τ2, itr (fun _ _ => none) (st_X10_holdsAny_2 N 120) M (nI q) τ1 = some (if lsh kd vc φ u q = true then 1 else 0, τ2) ∧ ∀ c i, ¬ c = 17 → gi τ2 c i = gi τ1 c i
  | u, q, 0, τ1, _, h2, _, _, _ => absurd h2 (by omega)
  | 0, q, M + 1, τ1, h1, _, h14, hb, hf => by
    refine ⟨τ1, ?_, fun _ _ _ => rfl⟩
    show st_X10_holdsAny_2 N 120 _ (nI q) τ1 = _
    unfold st_X10_holdsAny_2
    rw [h14, h0, if_pos (nI_le (by omega) (by omega))]
    rfl
  | u + 1, q, M + 1, τ1, h1, h2, h14, hb, hf => by
    obtain ⟨s, t, e, s', t', e', _, ⟨a1, a2, a3, a4⟩, ⟨_, _, _, b1, b2, b3⟩, hkd, hve, hvc⟩ := hd q (by omega)
    have c1 : gi τ1 13 q = nI (kd q) := by rw [hb _ _ (by omega) (by omega)]; exact a1
    have c3 : gi τ1 15 q = nI t' := by rw [hb _ _ (by omega) (by omega)]; exact a3
    have c4 : gi τ1 16 q = nI e' := by rw [hb _ _ (by omega) (by omega)]; exact a4
    obtain ⟨τ2, w1, w2⟩ := e_comesTo N hN (hvc φ).2 b3 (τ := τ1) ⟨fun z _ _ => hb _ _ (by omega) (by omega), hf⟩
    have er : itr (fun _ _ => none) (st_X10_holdsAny_2 N 120) (M + 1) (nI q) τ1 = if nI (kd q) = 120 then (if (vc q φ).getD 0 = 1 then some (1, τ2) else itr (fun _ _ => none) (st_X10_holdsAny_2 N 120) M (nI (q + 1)) τ2) else itr (fun _ _ => none) (st_X10_holdsAny_2 N 120) M (nI (q + 1)) τ1 := by
      show st_X10_holdsAny_2 N 120 _ (nI q) τ1 = _
      generalize itr (fun _ _ => none) (st_X10_holdsAny_2 N 120) M = rec
      unfold st_X10_holdsAny_2
      have hc : ∀ {α : Type} (e : Option α), chk (nI q) 16 e = e := fun e => chk_n (by omega) (by decide)
      have hx : ix (nI q) = q := ix_n (by omega)
      simp only [lt_p, hc, hx, nI_1]
      rw [h14, h0, if_neg (nI_ge (by omega) (by omega)), c1, c3, c4, w1, bd_some]
    rw [er]
    show ∃ τ2', _ = some (if (if kd q = 120 ∧ vc q φ = some 1 then true else lsh kd vc φ u (q + 1)) = true then 1 else 0, τ2') ∧ _
    by_cases hq : kd q = 120
    · rw [if_pos (show nI (kd q) = 120 by rw [hq]; rfl)]
      by_cases hv : vc q φ = some 1
      · rw [if_pos (getD1.mpr hv), if_pos (show kd q = 120 ∧ vc q φ = some 1 from ⟨hq, hv⟩), if_pos rfl]
        exact ⟨τ2, rfl, w2⟩
      · rw [if_neg (fun z => hv (getD1.mp z)), if_neg (show ¬ (kd q = 120 ∧ vc q φ = some 1) from fun z => hv z.2)]
        obtain ⟨τ3, y1, y2⟩ := lp_holds N hN hm hd (φ := φ) h0 u (q + 1) M τ2 (by omega) (by omega) ((w2 _ _ (by decide)).trans h14) (fun c i z1 z2 => by rw [w2 _ _ (by omega)]; exact hb c i z1 z2) (fun z hz => by rw [w2 _ _ (by decide)]; exact hf z hz)
        exact ⟨τ3, y1, fun c i hc => (y2 c i hc).trans (w2 c i hc)⟩
    · rw [if_neg (show ¬ nI (kd q) = 120 from nI_nq (b := 120) hq (by omega) (by omega)), if_neg (show ¬ (kd q = 120 ∧ vc q φ = some 1) from fun z => hq z.1)]
      exact lp_holds N hN hm hd (φ := φ) h0 u (q + 1) M τ1 (by omega) (by omega) h14 hb hf
theorem Rl.law {σ τ : Mem} (h : Rl σ τ) : ∃ b LV LX, isLw b = true ∧ gi σ 0 10 = nI b ∧ (∀ kind most φ, most < 2 ^ 31 → LV kind most φ ≤ most) ∧ LC b σ LV LX ∧ LM τ LV LX := by
  obtain ⟨b, b', m, c, r, ⟨a1, a2, a3⟩, ⟨a4, a5⟩, ⟨a6, a7, a8⟩, a9⟩ := h
  obtain ⟨kd, ve, vc, hd⟩ := a9.dat
  refine ⟨b, fun kind most φ => lnum kd ve vc kind most φ m 0, fun φ => lsh kd vc φ m 0, a1, a4, fun kind most φ hm => lnum_le hm m 0, ?_, ?_⟩
  · intro N σ1 φ hN hb hf
    exact ⟨fun kind most hk hm => lp_number N hN a6 hd hk hm a7 m 0 N σ1 (by omega) (by omega) hb hf, lp_shuts N hN a6 hd a7 m 0 N σ1 (by omega) (by omega) hb hf⟩
  · intro N τ1 φ hN h14 hb hf
    exact ⟨fun kind most hk hm => lp_byLaw N hN a6 hd hk hm a8 m 0 N τ1 (by omega) (by omega) h14 hb hf, lp_holds N hN a6 hd a8 m 0 N τ1 (by omega) (by omega) h14 hb hf⟩
