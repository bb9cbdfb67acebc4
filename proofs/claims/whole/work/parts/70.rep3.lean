/-! report -/
theorem Rb.kn {b : Nat} {σ : Mem} {α : Nat → Int32} (h : Rb b σ α) {k p : Nat} (hk : k < 6) (hp : p < 12) {v : Int32} (hv : ¬ v = -1) : Rb b (si (si σ (b + 5) k (gi σ (b + 5) k ||| ((1 : Int32) <<< (nI p &&& 31)))) (b + 8 + k) p v) (va_up α (12 + 12 * k + p) v) := by
  obtain ⟨⟨a1, a2, a3, a4, a5, a6, a7⟩, a8, a9, a10, a11⟩ := h
  have s : ∀ c i, ¬ (c = b + 5 ∧ i = k) → ¬ (c = b + 8 + k ∧ i = p) → gi (si (si σ (b + 5) k (gi σ (b + 5) k ||| ((1 : Int32) <<< (nI p &&& 31)))) (b + 8 + k) p v) c i = gi σ c i := fun c i z1 z2 => by rw [gi_si, if_neg z2, gi_si, if_neg z1]
  have e5 : gi (si (si σ (b + 5) k (gi σ (b + 5) k ||| ((1 : Int32) <<< (nI p &&& 31)))) (b + 8 + k) p v) (b + 5) k = gi σ (b + 5) k ||| ((1 : Int32) <<< (nI p &&& 31)) := by rw [gi_ne (by omega), gi_eq]
  refine ⟨⟨fun q hq => ?_, ?_, ?_, ?_, ?_, ?_, ?_⟩, fun k' hk' => ?_, fun k' q hk' hq => ?_, fun k' i hk' i1 i2 => ?_, fun q j hq hj => ?_⟩
  · rw [s _ _ (by omega) (by omega), up_ne (by omega)]; exact a1 q hq
  · rw [s _ _ (by omega) (by omega), up_ne (by omega)]; exact a2
  · rw [s _ _ (by omega) (by omega), up_ne (by omega)]; exact a3
  · rw [s _ _ (by omega) (by omega), up_ne (by omega)]; exact a4
  · rw [s _ _ (by omega) (by omega), up_ne (by omega)]; exact a5
  · rw [s _ _ (by omega) (by omega), up_ne (by omega)]; exact a6
  · rw [s _ _ (by omega) (by omega), up_ne (by omega)]; exact a7
  · rw [s _ _ (by omega) (by omega), s _ _ (by omega) (by omega), s _ _ (by omega) (by omega), s _ _ (by omega) (by omega), up_ne (by omega), up_ne (by omega), up_ne (by omega), up_ne (by omega)]
    exact a8 k' hk'
  · by_cases e : k' = k
    · subst e
      rw [e5, b_set _ (by omega) (by omega)]
      by_cases e2 : q = p
      · subst e2
        rw [up_eq]
        exact Or.inl ⟨by simp, hv, gi_eq _ _ _ _⟩
      · rw [up_ne (by omega), s _ _ (by omega) (by omega), decide_eq_false e2, Bool.or_false]
        exact a9 k' q hk' hq
    · rw [s _ _ (by omega) (by omega), s _ _ (by omega) (by omega), up_ne (by omega)]
      exact a9 k' q hk' hq
  · by_cases e : k' = k
    · subst e
      rw [e5, b_set _ (by omega) i2, a10 k' i hk' i1 i2, decide_eq_false (by omega)]; rfl
    · rw [s _ _ (by omega) (by omega)]; exact a10 k' i hk' i1 i2
  · rw [s _ _ (by omega) (by omega), up_ne (by omega)]; exact a11 q j hq hj
theorem Rb.un {b : Nat} {σ : Mem} {α : Nat → Int32} (h : Rb b σ α) {k p : Nat} (hk : k < 6) (hp : p < 12) : Rb b (si σ (b + 5) k (gi σ (b + 5) k &&& (((1 : Int32) <<< (nI p &&& 31)) ^^^ (-1)))) (va_up α (12 + 12 * k + p) (-1)) := by
  obtain ⟨⟨a1, a2, a3, a4, a5, a6, a7⟩, a8, a9, a10, a11⟩ := h
  have s : ∀ c i, ¬ (c = b + 5 ∧ i = k) → gi (si σ (b + 5) k (gi σ (b + 5) k &&& (((1 : Int32) <<< (nI p &&& 31)) ^^^ (-1)))) c i = gi σ c i := fun c i z1 => by rw [gi_si, if_neg z1]
  refine ⟨⟨fun q hq => ?_, ?_, ?_, ?_, ?_, ?_, ?_⟩, fun k' hk' => ?_, fun k' q hk' hq => ?_, fun k' i hk' i1 i2 => ?_, fun q j hq hj => ?_⟩
  · rw [s _ _ (by omega), up_ne (by omega)]; exact a1 q hq
  · rw [s _ _ (by omega), up_ne (by omega)]; exact a2
  · rw [s _ _ (by omega), up_ne (by omega)]; exact a3
  · rw [s _ _ (by omega), up_ne (by omega)]; exact a4
  · rw [s _ _ (by omega), up_ne (by omega)]; exact a5
  · rw [s _ _ (by omega), up_ne (by omega)]; exact a6
  · rw [s _ _ (by omega), up_ne (by omega)]; exact a7
  · rw [s _ _ (by omega), s _ _ (by omega), s _ _ (by omega), s _ _ (by omega), up_ne (by omega), up_ne (by omega), up_ne (by omega), up_ne (by omega)]
    exact a8 k' hk'
  · by_cases e : k' = k
    · subst e
      rw [gi_eq, b_clr _ (by omega) (by omega), s _ _ (by omega)]
      by_cases e2 : q = p
      · subst e2
        rw [up_eq]
        exact Or.inr ⟨by simp, rfl⟩
      · rw [up_ne (by omega), decide_eq_false e2, Bool.not_false, Bool.and_true]
        exact a9 k' q hk' hq
    · rw [s _ _ (by omega), s _ _ (by omega), up_ne (by omega)]
      exact a9 k' q hk' hq
  · by_cases e : k' = k
    · subst e
      rw [gi_eq, b_clr _ (by omega) i2, a10 k' i hk' i1 i2]; rfl
    · rw [s _ _ (by omega)]; exact a10 k' i hk' i1 i2
  · rw [s _ _ (by omega), up_ne (by omega)]; exact a11 q j hq hj
theorem Inv.kn {α : Nat → Int32} (h : Inv α) {k p : Nat} (hk : k < 6) (hp : p < 12) {v : Int32} (hv : v = -1 ∨ ∃ t, t ≤ 99999 ∧ v = nI t) (ht : bt (α 146) k = true) : Inv (va_up α (12 + 12 * k + p) v) := by
  obtain ⟨⟨a1, a2, a3, a4⟩, a5, a6, a7, a8⟩ := h
  refine ⟨⟨fun q hq => ?_, ?_, ?_, ?_⟩, fun i hi hi2 => ?_, fun k' hk' => ?_, fun k' q hk' hq => ?_, fun k' hk' => ?_⟩
  · rw [up_ne (by omega)]; exact a1 q hq
  · rw [up_ne (by omega)]; exact a2
  · rw [up_ne (by omega)]; exact a3
  · rw [up_ne (by omega)]; exact a4
  · rw [up_ne (by omega), up_ne (by omega)]; exact a5 i hi hi2
  · rw [up_ne (by omega), up_ne (by omega), up_ne (by omega), up_ne (by omega)]; exact a6 k' hk'
  · by_cases e : 12 + 12 * k' + q = 12 + 12 * k + p
    · rw [e, up_eq]; exact hv
    · rw [up_ne e]; exact a7 k' q hk' hq
  · rw [up_ne (by omega), up_ne (by omega), up_ne (by omega)]
    intro q
    have e : ¬ k' = k := fun e => by rw [e, ht] at q; cases q
    obtain ⟨b1, b2, b3⟩ := a8 k' hk' q
    exact ⟨fun q hq => by rw [up_ne (by omega)]; exact b1 q hq, b2, b3⟩
theorem Inv.rc {α : Nat → Int32} (h : Inv α) {k p : Nat} (hk : k < 6) (ht : bt (α 146) k = true) : Inv (va_up α (84 + k) (α (84 + k) &&& (((1 : Int32) <<< (nI p &&& 31)) ^^^ (-1)))) := by
  obtain ⟨⟨a1, a2, a3, a4⟩, a5, a6, a7, a8⟩ := h
  refine ⟨⟨fun q hq => ?_, ?_, ?_, ?_⟩, fun i hi hi2 => ?_, fun k' hk' => ?_, fun k' q hk' hq => ?_, fun k' hk' => ?_⟩
  · rw [up_ne (by omega)]; exact a1 q hq
  · rw [up_ne (by omega)]; exact a2
  · rw [up_ne (by omega)]; exact a3
  · rw [up_ne (by omega)]; exact a4
  · rw [up_ne (by omega), up_ne (by omega)]; exact a5 i hi hi2
  · obtain ⟨c1, c2, c3, c4⟩ := a6 k' hk'
    refine ⟨by rw [up_ne (by omega)]; exact c1, by rw [up_ne (by omega)]; exact c2, by rw [up_ne (by omega)]; exact c3, fun i hi hi2 => ?_⟩
    by_cases e : k' = k
    · subst e
      rw [up_eq, b_and, c4 i hi hi2]; rfl
    · rw [up_ne (by omega)]; exact c4 i hi hi2
  · rw [up_ne (by omega)]; exact a7 k' q hk' hq
  · rw [up_ne (show ¬ 146 = 84 + k by omega), up_ne (show ¬ 144 = 84 + k by omega)]
    intro q
    have e : ¬ k' = k := fun e => by rw [e, ht] at q; cases q
    obtain ⟨b1, b2, b3⟩ := a8 k' hk' q
    exact ⟨fun q hq => by rw [up_ne (by omega)]; exact b1 q hq, by rw [up_ne (by omega)]; exact b2, b3⟩
/-- what a LINE's doing leaves alone -/
def Kd (σ σ' : Mem) : Prop := ∀ c i, ¬ (c = 32 ∧ i = 10) → ¬ (36 ≤ c ∧ c < 46) → gi σ' c i = gi σ c i
def Ke (τ τ' : Mem) : Prop := ∀ c i, ¬ (c = 1 ∧ (i = 149 ∨ (12 ≤ i ∧ i < 90) ∨ (138 ≤ i ∧ i < 144))) → gi τ' c i = gi τ c i
theorem s_does (N : Nat) {q k p g v : Nat} {σ τ : Mem} (hq : q < 20) (hB : Rb 32 σ (Al τ 1)) (hi : Inv (Al τ 1)) (hM : LnM τ q k p g v) (hd : LnD (gi τ 1 146) k p g v) : ∃ σ' τ', f_X0_note N 32 (nI k) (nI p) (nI g) (nI v) σ = some ((), σ') ∧ f_X10_doesLine N (nI q) τ = some ((), τ') ∧ Rb 32 σ' (Al τ' 1) ∧ Inv (Al τ' 1) ∧ Kd σ σ' ∧ Ke τ τ' := by
  obtain ⟨m1, m2, m3, m4⟩ := hM
  obtain ⟨hk, hp, hg, hv, ht⟩ := hd
  have hix : ix (nI q) = q := ix_n (by omega)
  have hck : ∀ {α : Type} (e : Option α), chk (nI q) 20 e = e := fun e => chk_n hq (by decide)
  have hxk : ix (nI k) = k := ix_n (by omega)
  have hxp : ix (nI p) = p := ix_n (by omega)
  have hck6 : ∀ {α : Type} (e : Option α), chk (nI k) 6 e = e := fun e => chk_n hk (by decide)
  have hck12 : ∀ {α : Type} (e : Option α), chk (nI p) 12 e = e := fun e => chk_n hp (by decide)
  have hkn : ix (nI (12 + 12 * k + p)) = 12 + 12 * k + p := ix_n (by omega)
  have h84 : (84 : Int32) + nI k = nI (84 + k) := by rw [li_84, nI_add]
  have hx84 : ix (nI (84 + k)) = 84 + k := ix_n (by omega)
  unfold f_X0_note f_X10_doesLine
  simp only [lt_p, hix, hck, hxk, hxp, hck6, hck12, m1, m2, m3, m4, e_known, bd_some, hkn, h84, hx84]
  by_cases h58 : g = 58
  · have z : nI g = 58 := by rw [h58]; rfl
    rw [if_pos z, if_pos z, chk_n (by omega) (by decide)]
    refine ⟨_, _, rfl, rfl, ?_, ?_, fun c i y1 y2 => ?_, fun c i y => ?_⟩
    · rw [Al_si]
      exact hB.kn hk hp (nI_ne_m1 (by omega))
    · rw [Al_si]
      exact hi.kn hk hp (Or.inr ⟨v, by omega, rfl⟩) ht
    · rw [gi_ne (by omega), gi_ne (by omega)]
    · rw [gi_si, if_neg (by omega)]
  · have z : ¬ nI g = 58 := nI_nq (b := 58) h58 (by omega) (by omega)
    rw [if_neg z, if_neg z]
    by_cases h43 : g = 43
    · have z2 : nI g = 43 := by rw [h43]; rfl
      rw [if_pos z2, if_pos z2]
      obtain ⟨σ', τ', e1, e2, e3, e4, e5, e6⟩ := s_give N (b := 32) (k := k) (p := p) (g := v) (τ0 := τ) hk hp hv (by rw [Bq_rf]; exact hB) (by rw [Bq_rf]; exact hi) ht
      rw [e1, bd_some, e2, bd_some]
      have hbq : Bq τ τ' = Al τ' 1 := by
        funext i
        unfold Bq Al
        by_cases y : 90 ≤ i ∧ i < 126
        · rw [if_pos y, e6 _ _ (by omega)]
        · rw [if_neg y]
      rw [hbq] at e3 e4
      exact ⟨σ', τ', rfl, rfl, e3, e4, fun c i y1 y2 => e5 c i (by omega) (by omega) (by omega), fun c i y => e6 c i (by omega)⟩
    · have z2 : ¬ nI g = 43 := nI_nq (b := 43) h43 (by omega) (by omega)
      rw [if_neg z2, if_neg z2, chk_n (by omega) (by decide), chk_n (by omega) (by decide), chk_n (by omega) (by decide), gi_ni (show ¬ 84 + k = 12 + 12 * k + p by omega), gi_ne (show ¬ 32 + 6 = 32 + 5 by decide)]
      have e6 : gi σ (32 + 6) k = gi τ 1 (84 + k) := (hB.2.1 k hk).2.2.2
      refine ⟨_, _, rfl, rfl, ?_, ?_, fun c i y1 y2 => ?_, fun c i y => ?_⟩
      · rw [Al_si, Al_si, e6]
        exact (hB.un hk hp).rd hk _
      · rw [Al_si, Al_si]
        have h := (hi.kn hk hp (Or.inl rfl) ht).rc (p := p) hk (by rw [up_ne (by omega)]; exact ht)
        rw [up_ne (show ¬ 84 + k = 12 + 12 * k + p by omega)] at h
        exact h
      · rw [gi_ne (by omega), gi_ne (by omega)]
      · rw [gi_si, if_neg (by omega), gi_si, if_neg (by omega)]
def LnAll (m : Nat) (told : Int32) (σ τ : Mem) : Prop := ∀ q, q < m → ∃ k p g v, LnC σ q k p g v ∧ LnM τ q k p g v ∧ LnD told k p g v
theorem lp_app (N : Nat) {m : Nat} (hm : m ≤ 20) : ∀ (u q M1 M2 : Nat) (σ τ : Mem), q + u = m → u < M1 → u < M2 → Rb 32 σ (Al τ 1) → Inv (Al τ 1) → gi τ 0 32 = nI m → LnAll m (gi τ 1 146) σ τ → ∃ σ' τ', itr (fun _ _ => none) (st_X9_report_48 N (nI m)) M1 (nI q) σ = some (nI m, σ') ∧ itr (fun _ _ => none) (st_X10_report_91 N) M2 (nI q) τ = some (nI m, τ') ∧ Rb 32 σ' (Al τ' 1) ∧ Inv (Al τ' 1) ∧ Kd σ σ' ∧ Ke τ τ'
  | u, q, 0, _, σ, τ, _, h2, _, _, _, _, _ => absurd h2 (by omega)
  | u, q, M1 + 1, 0, σ, τ, _, _, h3, _, _, _, _ => absurd h3 (by omega)
  | 0, q, M1 + 1, M2 + 1, σ, τ, h1, _, _, hB, hi, h32, hA => by
    refine ⟨σ, τ, ?_, ?_, hB, hi, fun _ _ _ _ => rfl, fun _ _ _ => rfl⟩
    · show st_X9_report_48 N (nI m) _ (nI q) σ = _
      unfold st_X9_report_48
      rw [if_pos (nI_le (by omega) (by omega))]
    · show st_X10_report_91 N _ (nI q) τ = _
      unfold st_X10_report_91
      rw [h32, if_pos (nI_le (by omega) (by omega))]
  | u + 1, q, M1 + 1, M2 + 1, σ, τ, h1, h2, h3, hB, hi, h32, hA => by
    obtain ⟨k, p, g, v, c1, c2, c3⟩ := hA q (by omega)
    obtain ⟨σ1, τ1, e1, e2, e3, e4, e5, e6⟩ := s_does N (by omega) hB hi c2 c3
    have eC : itr (fun _ _ => none) (st_X9_report_48 N (nI m)) (M1 + 1) (nI q) σ = itr (fun _ _ => none) (st_X9_report_48 N (nI m)) M1 (nI (q + 1)) σ1 := by
      show st_X9_report_48 N (nI m) _ (nI q) σ = _
      generalize itr (fun _ _ => none) (st_X9_report_48 N (nI m)) M1 = rec
      unfold st_X9_report_48
      have hix : ix (nI q) = q := ix_n (by omega)
      have hck : ∀ {α : Type} (e : Option α), chk (nI q) 20 e = e := fun e => chk_n (by omega) (by decide)
      simp only [lt_p, hix, hck, nI_1]
      rw [if_neg (nI_ge (by omega) (by omega)), if_neg (show ¬ (20 : Int32) ≤ nI q from nI_ge (b := 20) (by omega) (by decide)), c1.1, c1.2.1, c1.2.2.1, c1.2.2.2, e1, bd_some]
    have eM : itr (fun _ _ => none) (st_X10_report_91 N) (M2 + 1) (nI q) τ = itr (fun _ _ => none) (st_X10_report_91 N) M2 (nI (q + 1)) τ1 := by
      show st_X10_report_91 N _ (nI q) τ = _
      generalize itr (fun _ _ => none) (st_X10_report_91 N) M2 = rec
      unfold st_X10_report_91
      rw [h32, if_neg (nI_ge (by omega) (by omega)), e2, bd_some, lt_p, nI_1]
    have hA1 : LnAll m (gi τ1 1 146) σ1 τ1 := by
      intro q' hq'
      obtain ⟨k', p', g', v', d1, d2, d3⟩ := hA q' hq'
      refine ⟨k', p', g', v', ⟨?_, ?_, ?_, ?_⟩, ⟨?_, ?_, ?_, ?_⟩, ?_⟩
      · rw [e5 _ _ (by omega) (by omega)]; exact d1.1
      · rw [e5 _ _ (by omega) (by omega)]; exact d1.2.1
      · rw [e5 _ _ (by omega) (by omega)]; exact d1.2.2.1
      · rw [e5 _ _ (by omega) (by omega)]; exact d1.2.2.2
      · rw [e6 _ _ (by omega)]; exact d2.1
      · rw [e6 _ _ (by omega)]; exact d2.2.1
      · rw [e6 _ _ (by omega)]; exact d2.2.2.1
      · rw [e6 _ _ (by omega)]; exact d2.2.2.2
      · rw [e6 _ _ (by omega)]; exact d3
    obtain ⟨σ', τ', r1, r2, r3, r4, r5, r6⟩ := lp_app N hm u (q + 1) M1 M2 σ1 τ1 (by omega) (by omega) (by omega) e3 e4 (by rw [e6 _ _ (by omega)]; exact h32) hA1
    exact ⟨σ', τ', eC.trans r1, eM.trans r2, r3, r4, fun c i y1 y2 => (r5 c i y1 y2).trans (e5 c i y1 y2), fun c i y => (r6 c i y).trans (e6 c i y)⟩
