/-! months: a parish reads -/
/-- the row as it is now, with what was remembered at first -/
def Bq (τ0 τ : Mem) : Nat → Int32 := fun i => if 90 ≤ i ∧ i < 126 then gi τ0 1 i else gi τ 1 i
theorem Bq_out {τ0 τ : Mem} {i : Nat} (h : ¬ (90 ≤ i ∧ i < 126)) : Bq τ0 τ i = gi τ 1 i := if_neg h
theorem Bq_in {τ0 τ : Mem} {i : Nat} (h : 90 ≤ i ∧ i < 126) : Bq τ0 τ i = gi τ0 1 i := if_pos h
theorem Bq_up {τ0 τ : Mem} {j : Nat} {v : Int32} (h : ¬ (90 ≤ j ∧ j < 126)) : Bq τ0 (si τ 1 j v) = va_up (Bq τ0 τ) j v := by
  funext i
  by_cases e : i = j
  · subst e
    rw [up_eq, Bq_out h, gi_eq]
  · rw [up_ne e]
    unfold Bq
    by_cases z : 90 ≤ i ∧ i < 126
    · rw [if_pos z, if_pos z]
    · rw [if_neg z, if_neg z, gi_ni e]
theorem Bq_eq {τ0 τ τ' : Mem} (h : ∀ i, ¬ (90 ≤ i ∧ i < 126) → gi τ' 1 i = gi τ 1 i) : Bq τ0 τ' = Bq τ0 τ := by
  funext i
  unfold Bq
  by_cases z : 90 ≤ i ∧ i < 126
  · rw [if_pos z, if_pos z]
  · rw [if_neg z, if_neg z, h i z]
theorem and_not_b (x y : Int32) {k : Nat} (hk : k < 32) : bt (x &&& (y ^^^ (-1))) k = (bt x k && !bt y k) := by
  rw [b_and, b_xor, b_m1 k hk]
  cases bt y k <;> simp
theorem lp_unr (N : Nat) {b p : Nat} (hp : p < 12) {σ τ : Mem} {α : Nat → Int32} (hB : Rb b σ α) (hα : ∀ i, i < 151 → ¬ (90 ≤ i ∧ i < 126) → gi τ 1 i = α i) : ∀ (u k M1 M2 : Nat), k + u = 6 → u < M1 → u < M2 → ∃ z, itr (fun _ _ => none) (st_X0_lowestUnread_2 N b (nI p)) M1 (nI k) σ = some (z, σ) ∧ itr (fun _ _ => none) (st_X10_readsNext_2 N (nI p)) M2 (nI k) τ = some (z, τ) ∧ (z = -1 ∨ ∃ k', k' < 6 ∧ z = nI k' ∧ ¬ α (12 + 12 * k' + p) = -1)
  | u, k, 0, _, _, h2, _ => absurd h2 (by omega)
  | u, k, M1 + 1, 0, _, _, h3 => absurd h3 (by omega)
  | 0, k, M1 + 1, M2 + 1, h1, _, _ => by
    refine ⟨-1, ?_, ?_, Or.inl rfl⟩
    · show st_X0_lowestUnread_2 N b (nI p) _ (nI k) σ = _
      unfold st_X0_lowestUnread_2
      rw [if_pos (show (6 : Int32) ≤ nI k from nI_le (a := 6) (by omega) (by omega))]
    · show st_X10_readsNext_2 N (nI p) _ (nI k) τ = _
      unfold st_X10_readsNext_2
      rw [if_pos (show (6 : Int32) ≤ nI k from nI_le (a := 6) (by omega) (by omega))]
  | u + 1, k, M1 + 1, M2 + 1, h1, h2, h3 => by
    have hk : k < 6 := by omega
    have hx : ix (nI k) = k := ix_n (by omega)
    have hin : inR (nI k) 0 5 := inR_of (a := 0) (b := 5) (Nat.zero_le _) (by omega) (by decide)
    have e2 : gi σ b 2 = α 144 := hB.1.2.2.1
    have e6 : gi σ (b + 6) k = α (84 + k) := (hB.2.1 k hk).2.2.2
    have sC : ∀ rec, st_X0_lowestUnread_2 N b (nI p) rec (nI k) σ = if bt (α 144) k = true ∧ bt (gi σ (b + 5) k) p = true ∧ bt (α (84 + k)) p = false then some (nI k, σ) else rec (nI (k + 1)) σ := by
      intro rec
      unfold st_X0_lowestUnread_2
      simp only [lt_p, nI_1, hx]
      rw [if_neg (show ¬ (6 : Int32) ≤ nI k from nI_ge (b := 6) hk (by decide)), e_force0, bd_some, ite10, e2]
      by_cases h4 : bt (α 144) k = true
      · rw [if_pos ⟨hin, (hb_iff _ (by omega)).mpr h4⟩, chk_n hk (by decide), chk_n hk (by decide), e_hasBit, bd_some, ite10, e6]
        by_cases h5 : bt (gi σ (b + 5) k) p = true ∧ bt (α (84 + k)) p = false
        · rw [if_pos ((hb_iff _ (by omega)).mpr (by rw [and_not_b _ _ (by omega), h5.1, h5.2]; rfl)), if_pos ⟨h4, h5⟩]
        · rw [if_neg (fun z => h5 (by
            have z2 := (hb_iff _ (by omega)).mp z
            rw [and_not_b _ _ (by omega), Bool.and_eq_true] at z2
            exact ⟨z2.1, by have := z2.2; revert this; cases bt (α (84 + k)) p <;> simp⟩)), if_neg (fun z => h5 z.2)]
      · rw [if_neg (fun z => h4 ((hb_iff _ (by omega)).mp z.2)), if_neg (fun z => h4 z.1)]
    have sM : ∀ rec, st_X10_readsNext_2 N (nI p) rec (nI k) τ = if bt (α 144) k = true ∧ ¬ α (12 + 12 * k + p) = -1 ∧ bt (α (84 + k)) p = false then some (nI k, τ) else rec (nI (k + 1)) τ := by
      intro rec
      unfold st_X10_readsNext_2
      simp only [lt_p, nI_1, ck_144_151, ix_144]
      rw [if_neg (show ¬ (6 : Int32) ≤ nI k from nI_ge (b := 6) hk (by decide)), e_has, bd_some, ite10, hα 144 (by omega) (by omega)]
      by_cases h4 : bt (α 144) k = true
      · rw [if_pos ((hb_iff _ (by omega)).mpr h4), e_isKnown N hk hp, bd_some, hα _ (by omega) (by omega)]
        by_cases h5 : α (12 + 12 * k + p) = -1
        · rw [if_pos h5, if_pos rfl, if_neg (fun z => z.2.1 h5)]
        · rw [if_neg h5, if_neg (by decide), li_84, nI_add, chk_n (by omega) (by decide), ix_n (by omega), e_has, bd_some, ite10, hα _ (by omega) (by omega)]
          by_cases h6 : bt (α (84 + k)) p = true
          · rw [if_pos ((hb_iff _ (by omega)).mpr h6), if_neg (fun z => by rw [h6] at z; exact absurd z.2.2 (by decide))]
          · rw [if_neg (fun z => h6 ((hb_iff _ (by omega)).mp z)), if_pos ⟨h4, h5, Bool.eq_false_iff.mpr h6⟩]
      · rw [if_neg (fun z => h4 ((hb_iff _ (by omega)).mp z)), if_neg (fun z => h4 z.1)]
    have eC : itr (fun _ _ => none) (st_X0_lowestUnread_2 N b (nI p)) (M1 + 1) (nI k) σ = _ := sC (itr (fun _ _ => none) (st_X0_lowestUnread_2 N b (nI p)) M1)
    have eM : itr (fun _ _ => none) (st_X10_readsNext_2 N (nI p)) (M2 + 1) (nI k) τ = _ := sM (itr (fun _ _ => none) (st_X10_readsNext_2 N (nI p)) M2)
    have hkn : bt (gi σ (b + 5) k) p = true ↔ ¬ α (12 + 12 * k + p) = -1 := by
      rcases hB.2.2.1 k p hk hp with ⟨y1, y2, _⟩ | ⟨y1, y2⟩
      · exact ⟨fun _ => y2, fun _ => y1⟩
      · exact ⟨fun z => (by rw [y1] at z; cases z), fun z => absurd y2 z⟩
    by_cases hc : bt (α 144) k = true ∧ ¬ α (12 + 12 * k + p) = -1 ∧ bt (α (84 + k)) p = false
    · rw [if_pos ⟨hc.1, hkn.mpr hc.2.1, hc.2.2⟩] at eC
      rw [if_pos hc] at eM
      exact ⟨nI k, eC, eM, Or.inr ⟨k, hk, rfl, hc.2.1⟩⟩
    · rw [if_neg (fun z => hc ⟨z.1, hkn.mp z.2.1, z.2.2⟩)] at eC
      rw [if_neg hc] at eM
      obtain ⟨z, y1, y2, y3⟩ := lp_unr N hp hB hα u (k + 1) M1 M2 (by omega) (by omega) (by omega)
      exact ⟨z, eC.trans y1, eM.trans y2, y3⟩
-- what is given
def gvF (f g : Nat) : Nat := min 999999 (f + (g * 2 + 2) / 3)
def gvA (a g : Nat) : Nat := min 999999 (a + g - (g * 2 + 2) / 3)
theorem e_give (N : Nat) {b k p g f a : Nat} {σ : Mem} (hk : k < 6) (hg : g ≤ 9999) (hf : f ≤ 999999) (ha : a ≤ 999999) (e1 : gi σ (b + 4) k = nI f) (e2 : gi σ b 10 = nI a) : f_X0_give N b (nI k) (nI p) (nI g) σ = some ((), si (si (si σ (b + 4) k (nI (gvF f g))) b 10 (nI (gvA a g))) (b + 6) k (gi σ (b + 6) k ||| ((1 : Int32) <<< (nI p &&& 31)))) := by
  unfold f_X0_give
  have hsh : (nI g * 2 + 2) / 3 = nI ((g * 2 + 2) / 3) := by
    rw [li_2, li_3, pk_mul, nI_add, pk_div (by omega) (by omega) (by omega)]
  have hx : ix (nI k) = k := ix_n (by omega)
  simp only [lt_p, hx]
  rw [hsh, chk_n hk (by decide), chk_n hk (by decide), chk_n hk (by decide), chk_n hk (by decide), e1, nI_add, gi_ne (show ¬ b = b + 4 by omega), e2, nI_add, pk_sub (by omega), li_999999, e_iminN _ _ (by decide) (by omega), e_iminN _ _ (by decide) (by omega), gi_ne (show ¬ b + 6 = b by omega), gi_ne (show ¬ b + 6 = b + 4 by omega)]
  rfl
theorem e_gives (N : Nat) {k p g f a : Nat} {τ : Mem} (hk : k < 6) (hg : g ≤ 9999) (hf : f ≤ 999999) (ha : a ≤ 999999) (e1 : gi τ 1 (138 + k) = nI f) (e2 : gi τ 1 149 = nI a) : f_X10_gives N (nI k) (nI p) (nI g) τ = some ((), si (si (si τ 1 (138 + k) (nI (gvF f g))) 1 149 (nI (gvA a g))) 1 (84 + k) (gi τ 1 (84 + k) ||| ((1 : Int32) <<< (nI p &&& 31)))) := by
  unfold f_X10_gives
  have hsh : ((2 : Int32) * nI g + 2) / 3 = nI ((g * 2 + 2) / 3) := by
    rw [li_2, li_3, pk_mul, nI_add, pk_div (by omega) (by omega) (by omega), Nat.mul_comm]
  have h1 : (138 : Int32) + nI k = nI (138 + k) := by rw [li_138, nI_add]
  have h2 : (84 : Int32) + nI k = nI (84 + k) := by rw [li_84, nI_add]
  have hx1 : ix (nI (138 + k)) = 138 + k := ix_n (by omega)
  have hx2 : ix (nI (84 + k)) = 84 + k := ix_n (by omega)
  simp only [lt_p, h1, h2, hx1, hx2, ck_149_151, ix_149]
  rw [hsh, chk_n (by omega) (by decide), e1, nI_add, li_999999, e_minM N _ _ (by decide) (by omega), bd_some, chk_n (by omega) (by decide), gi_ni (show ¬ 149 = 138 + k by omega), e2, nI_add, pk_sub (by omega), e_minM N _ _ (by decide) (by omega), bd_some, chk_n (by omega) (by decide), chk_n (by omega) (by decide), gi_ni (show ¬ 84 + k = 149 by omega), gi_ni (show ¬ 84 + k = 138 + k by omega)]
  rfl
theorem Inv.rd {α : Nat → Int32} (h : Inv α) {k p : Nat} (hk : k < 6) (hp : p < 12) (ht : bt (α 146) k = true) : Inv (va_up α (84 + k) (α (84 + k) ||| ((1 : Int32) <<< (nI p &&& 31)))) := by
  obtain ⟨⟨a1, a2, a3, a4⟩, a5, a6, a7, a8⟩ := h
  refine ⟨⟨fun p hp => ?_, ?_, ?_, ?_⟩, fun i hi hi2 => ?_, fun k' hk' => ?_, fun k' p hk' hp => ?_, fun k' hk' => ?_⟩
  · simp (disch := omega) only [up_ne, up_eq]; exact a1 p hp
  · simp (disch := omega) only [up_ne, up_eq]; exact a2
  · simp (disch := omega) only [up_ne, up_eq]; exact a3
  · simp (disch := omega) only [up_ne, up_eq]; exact a4
  · simp (disch := omega) only [up_ne, up_eq]; exact a5 i hi hi2
  · obtain ⟨c1, c2, c3, c4⟩ := a6 k' hk'
    refine ⟨by rw [up_ne (by omega)]; exact c1, by rw [up_ne (by omega)]; exact c2, by rw [up_ne (by omega)]; exact c3, fun i hi hi2 => ?_⟩
    by_cases e : k' = k
    · subst e
      rw [up_eq, b_set _ (by omega) hi2, c4 i hi hi2]
      simp
      omega
    · rw [up_ne (by omega)]; exact c4 i hi hi2
  · simp (disch := omega) only [up_ne, up_eq]; exact a7 k' p hk' hp
  · rw [up_ne (show ¬ 146 = 84 + k by omega), up_ne (show ¬ 144 = 84 + k by omega)]
    intro q
    have e : ¬ k' = k := fun e => by rw [e, ht] at q; cases q
    obtain ⟨b1, b2, b3⟩ := a8 k' hk' q
    exact ⟨fun p hp => by rw [up_ne (by omega)]; exact b1 p hp, by rw [up_ne (by omega)]; exact b2, b3⟩
/-- one LETTER that is given to: both sides -/
theorem s_give (N : Nat) {b k p g : Nat} {σ τ τ0 : Mem} (hk : k < 6) (hp : p < 12) (hg : g ≤ 9999) (hB : Rb b σ (Bq τ0 τ)) (hi : Inv (Bq τ0 τ)) (ht : bt (gi τ 1 146) k = true) : ∃ σ' τ', f_X0_give N b (nI k) (nI p) (nI g) σ = some ((), σ') ∧ f_X10_gives N (nI k) (nI p) (nI g) τ = some ((), τ') ∧ Rb b σ' (Bq τ0 τ') ∧ Inv (Bq τ0 τ') ∧ (∀ c i, ¬ (c = b ∧ i = 10) → ¬ c = b + 4 → ¬ c = b + 6 → gi σ' c i = gi σ c i) ∧ ∀ c i, ¬ (c = 1 ∧ (i = 149 ∨ i = 138 + k ∨ i = 84 + k)) → gi τ' c i = gi τ c i := by
  obtain ⟨-, ⟨a, ha, ea⟩, -, -⟩ := hi.1
  obtain ⟨-, -, ⟨f, hf, ef⟩, -⟩ := hi.2.2.1 k hk
  have s1 : gi σ (b + 4) k = nI f := (hB.2.1 k hk).2.2.1.trans ef
  have s2 : gi σ b 10 = nI a := hB.1.2.2.2.1.trans ea
  have s3 : gi σ (b + 6) k = gi τ 1 (84 + k) := by
    rw [(hB.2.1 k hk).2.2.2, Bq_out (by omega)]
  rw [Bq_out (by omega)] at ea ef
  refine ⟨_, _, e_give N hk hg hf ha s1 s2, e_gives N hk hg hf ha ef ea, ?_, ?_, fun c i y1 y2 y3 => ?_, fun c i y => ?_⟩
  · rw [s3, Bq_up (by omega), Bq_up (by omega), Bq_up (by omega)]
    exact ((hB.fu hk _).f10 _).rd hk _
  · rw [Bq_up (by omega), Bq_up (by omega), Bq_up (by omega)]
    have h1 := (hi.fu hk (v := nI (gvF f g)) ⟨_, Nat.min_le_left _ _, rfl⟩).f10 (v := nI (gvA a g)) ⟨_, Nat.min_le_left _ _, rfl⟩
    have h2 := h1.rd hk hp (by rw [up_ne (by omega), up_ne (by omega), Bq_out (by omega)]; exact ht)
    rw [up_ne (show ¬ 84 + k = 149 by omega), up_ne (show ¬ 84 + k = 138 + k by omega), Bq_out (by omega)] at h2
    exact h2
  · rw [gi_ne y3, gi_si, if_neg y1, gi_ne y2]
  · rw [gi_si, if_neg (by omega), gi_si, if_neg (by omega), gi_si, if_neg (by omega)]
