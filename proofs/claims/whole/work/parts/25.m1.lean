/-! parish, road, seed, toldAt -/
theorem s_parish (N : Nat) {σ τ : Mem} (hp : Rp σ τ) (hn : Rn σ τ) (hk : Rk σ τ) (x1 x2 : Int32) : ∃ r σ' τ', f_X9_parish N x1 x2 σ = some (r, σ') ∧ f_X10_parish N x1 x2 τ = some (r, τ') ∧ Rp σ' τ' ∧ Rn σ' τ' ∧ Rk σ' τ' := by
  unfold f_X9_parish f_X10_parish
  simp only [e_within, e_in, bd_some, ite10, e_tell, lt_e, ck_145_151, ix_145]
  by_cases h1 : inR x1 0 11
  · by_cases h2 : inR x2 0 99
    · obtain ⟨p, -, hp', rfl⟩ := inR_n (a := 0) (b := 11) rfl rfl (by decide) (by decide) h1
      obtain ⟨w, -, hw, rfl⟩ := inR_n (a := 0) (b := 99) rfl rfl (by decide) (by decide) h2
      rw [if_pos h1, if_pos h1, if_pos h2, if_pos h2, chk_n (by omega) (by decide), show (0 : Int32) + nI p = nI p from Int32.zero_add _, chk_n (by omega) (by decide), ix_n (by omega)]
      refine ⟨1, _, _, rfl, rfl, ?_, ?_, ?_⟩
      · obtain ⟨a, b, c⟩ := hp
        refine ⟨?_, fun i hi hi2 => ?_, fun p' q hp2 hq => ?_⟩
        · simp (disch := omega) only [gi_ne, gi_ni, gi_eq]
          rw [a]
        · simp (disch := omega) only [gi_ne, gi_ni, gi_eq]
          rw [b_set _ (by omega) hi2, b i hi hi2]
          simp
          omega
        · simp (disch := omega) only [gi_ne]
          exact c p' q hp2 hq
      · obtain ⟨a, b, c⟩ := hn
        refine ⟨?_, ?_, ?_⟩
        · rw [Al_si]
          refine Rb.w (b := 32) ?_ (by omega) _
          exact a.fr (fun c i hc => gi_ne (by unfold Bc at hc; omega)) (fun i _ h145 => by unfold Al; exact gi_ni h145)
        · rw [Al_si]
          exact Inv.w (b.fr (fun i _ h145 => by unfold Al; exact gi_ni h145)) (by omega) ⟨w, by omega, rfl⟩
        · intro p' hp2 hz
          rw [gi_ni (by omega), gi_eq, b_set _ (by omega) (by omega)] at hz
          simp only [Bool.or_eq_false_iff, decide_eq_false_iff_not] at hz
          unfold Al
          rw [gi_ni hz.2, gi_ni (by omega)]
          exact c p' hp2 hz.1
      · rcases hk with ⟨a, b⟩ | ⟨a, b, c, d, e⟩
        · left
          refine ⟨?_, ?_⟩
          · simp (disch := omega) only [gi_ne]; exact a
          · simp (disch := omega) only [gi_ne]; exact b
        · right
          refine ⟨?_, ?_, ?_, ?_, ?_⟩
          · simp (disch := omega) only [gi_ne]; exact a
          · simp (disch := omega) only [gi_ne]; exact b
          · rw [Al_ne (by decide), Al_ne (by decide)]
            exact c.fr (fun c i hc => by unfold Bc at hc; simp (disch := omega) only [gi_ne]) (fun _ _ _ => rfl)
          · rw [Al_ne (by decide), Al_ne (by decide)]; exact d
          · rw [Al_ne (by decide), Al_ne (by decide)]
            intro p' hp2 hz
            rw [gi_ni (by omega), gi_eq, b_set _ (by omega) (by omega)] at hz
            simp only [Bool.or_eq_false_iff, decide_eq_false_iff_not] at hz
            exact e p' hp2 hz.1
    · rw [if_pos h1, if_pos h1, if_neg h2, if_neg h2]
      exact ⟨0, _, _, rfl, rfl, hp, hn, hk⟩
  · rw [if_neg h1, if_neg h1]
    exact ⟨0, _, _, rfl, rfl, hp, hn, hk⟩
theorem s_road (N : Nat) {σ τ : Mem} (hp : Rp σ τ) (x1 x2 x3 : Int32) : ∃ r σ' τ', f_X9_road N x1 x2 x3 σ = some (r, σ') ∧ f_X10_road N x1 x2 x3 τ = some (r, τ') ∧ Rp σ' τ' := by
  unfold f_X9_road f_X10_road
  simp only [e_told3, e_isParish, e_within, e_in, bd_some, ite10, lt_e]
  rw [← hp.1]
  by_cases h1 : inR x1 0 11 ∧ hb (gi σ 3 0) x1
  · by_cases h2 : inR x2 0 11 ∧ hb (gi σ 3 0) x2
    · by_cases h3 : x1 = x2
      · rw [if_pos h1, if_pos h2, if_pos h3, if_pos h1, if_pos h2, if_pos h3]
        exact ⟨0, _, _, rfl, rfl, hp⟩
      · by_cases h4 : inR x3 0 99
        · rw [if_pos h1, if_pos h2, if_neg h3, if_pos h4, if_pos h1, if_pos h2, if_neg h3, if_pos h4]
          obtain ⟨p, -, hp', rfl⟩ := inR_n (a := 0) (b := 11) rfl rfl (by decide) (by decide) h1.1
          obtain ⟨q, -, hq', rfl⟩ := inR_n (a := 0) (b := 11) rfl rfl (by decide) (by decide) h2.1
          obtain ⟨w, -, hw, rfl⟩ := inR_n (a := 0) (b := 99) rfl rfl (by decide) (by decide) h4
          unfold f_X3_lay
          simp (disch := omega) only [li_12, pk_mul, nI_add, chk_n, ix_n, lt_e, bd_some]
          refine ⟨1, _, _, rfl, rfl, ?_⟩
          obtain ⟨a, b, c⟩ := hp
          refine ⟨?_, fun i hi hi2 => ?_, fun p' q2 hp2 hq2 => ?_⟩
          · simp (disch := omega) only [gi_ne, gi_ni]
            exact a
          · simp (disch := omega) only [gi_ne, gi_ni]
            exact b i hi hi2
          · by_cases e1 : p' = q ∧ q2 = p
            · refine ⟨w, hw, ?_, ?_⟩
              · obtain ⟨rfl, rfl⟩ := e1
                simp (disch := omega) only [gi_ne, show 5 + p' = 4 + 1 + p' by omega, gi_eq]
              · obtain ⟨rfl, rfl⟩ := e1
                rw [gi_eq]
            · by_cases e2 : p' = p ∧ q2 = q
              · refine ⟨w, hw, ?_, ?_⟩
                · obtain ⟨rfl, rfl⟩ := e2
                  rw [gi_ne (by omega), gi_si, if_neg (by omega), show 5 + p' = 4 + 1 + p' by omega, gi_eq]
                · obtain ⟨rfl, rfl⟩ := e2
                  rw [gi_ni (by omega), gi_eq]
              · obtain ⟨m, c1, c2, c3⟩ := c p' q2 hp2 hq2
                refine ⟨m, c1, ?_, ?_⟩
                · rw [gi_ne (by omega), gi_si, if_neg (by omega), gi_si, if_neg (by omega)]
                  exact c2
                · rw [gi_ni (by omega), gi_ni (by omega)]
                  exact c3
        · rw [if_pos h1, if_pos h2, if_neg h3, if_neg h4, if_pos h1, if_pos h2, if_neg h3, if_neg h4]
          exact ⟨0, _, _, rfl, rfl, hp⟩
    · rw [if_pos h1, if_neg h2, if_pos h1, if_neg h2]
      exact ⟨0, _, _, rfl, rfl, hp⟩
  · rw [if_neg h1, if_neg h1]
    exact ⟨0, _, _, rfl, rfl, hp⟩
theorem s_seed (N : Nat) {σ τ : Mem} (hn : Rn σ τ) (x1 : Int32) : ∃ r σ' τ', f_X9_seed N x1 σ = some (r, σ') ∧ f_X10_seed N x1 τ = some (r, τ') ∧ Rn σ' τ' := by
  unfold f_X9_seed f_X10_seed
  simp only [e_within, e_in, bd_some, ite10, lt_e, ck_150_151, ix_150]
  by_cases h1 : inR x1 0 65535
  · obtain ⟨x, -, hx, rfl⟩ := inR_n (a := 0) (b := 65535) rfl rfl (by decide) (by decide) h1
    rw [if_pos h1, if_pos h1]
    refine ⟨1, _, _, rfl, rfl, ?_⟩
    obtain ⟨a, b, c⟩ := hn
    refine ⟨?_, ?_, ?_⟩
    · rw [Al_si]; exact a.f13 _
    · rw [Al_si]; exact b.f13 ⟨x, by omega, rfl⟩
    · rw [gi_ni (by decide), Al_si]
      exact c.fr (fun i hi => up_ne (by omega))
  · rw [if_neg h1, if_neg h1]
    exact ⟨0, _, _, rfl, rfl, hn⟩
