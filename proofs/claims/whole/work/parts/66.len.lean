/-! lent, count, bestMonth -/
theorem s_lent (N : Nat) (hN : 300 ≤ N) {σ τ : Mem} (hl : Rl σ τ) (hp : Rp σ τ) (hn : Rn σ τ) (hz : Rz σ) (x1 x2 x3 : Int32) : ∃ r σ' τ', f_X9_lent N x1 x2 x3 σ = some (r, σ') ∧ f_X10_lent N x1 x2 x3 τ = some (r, τ') ∧ Kt σ σ' ∧ Kv τ τ' := by
  obtain ⟨lw, LV, LX, hlw, h10, hle, hLC, hLM⟩ := hl.law
  have hlw' := isLw_or hlw
  have e146 : gi σ 32 1 = gi τ 1 146 := hn.1.1.2.1
  unfold f_X9_lent f_X10_lent
  simp only [lt_p, e_told0, e_isLetterM, e_within, e_in, bd_some, ite10, e146]
  by_cases h1 : inR x1 0 5 ∧ hb (gi τ 1 146) x1
  · rw [if_pos h1, if_pos h1]
    by_cases h2 : inR x2 1 60
    · rw [if_pos h2, if_pos h2]
      by_cases h3 : inR x3 0 10
      · rw [if_pos h3, if_pos h3]
        obtain ⟨k, -, hk', rfl⟩ := inR_n (a := 0) (b := 5) rfl rfl (by decide) (by decide) h1.1
        obtain ⟨n, -, hn2, rfl⟩ := inR_n (a := 1) (b := 60) rfl rfl (by decide) (by decide) h2
        obtain ⟨h, -, hh2, rfl⟩ := inR_n (a := 0) (b := 10) rfl rfl (by decide) (by decide) h3
        have hk : k < 6 := by omega
        obtain ⟨σ1, σ2, τ1, τ2, e1, e2, e3, e4, e5, e6, e7, e8, e9⟩ := s_trial N hN (n := n) hn2 ⟨hlw, hLC, hLM, hle⟩ hp hn (hz.hz hp hn.1)
        obtain ⟨τ3, b1, b2, b3⟩ := s_back N hN e8
        obtain ⟨⟨m1, m2⟩, ⟨m3, m4⟩, m5, ⟨m6, m7⟩, m8⟩ := e5
        have kt : Kt σ σ2 := fun c i z1 z2 z3 => e6 c i (by omega) z3
        have kv : Kv τ τ3 := ⟨b2, fun c i z1 z2 z3 z4 z5 z6 => by rw [b3 c i z4]; exact e7 c i z1 z2 z3 z4 z5 z6⟩
        have et : f_X10_tried N (nI n) (nI (10 + k)) τ = some (gi τ2 1 (138 + k), τ3) := by
          unfold f_X10_tried
          have hs : nI (10 + k) - 10 = nI k := by rw [li_10, pk_sub (by omega), show 10 + k - 10 = k by omega]
          have hs2 : (138 : Int32) + nI (10 + k) - 10 = nI (138 + k) := by rw [li_138, nI_add, li_10, pk_sub (by omega), show 138 + (10 + k) - 10 = 138 + k by omega]
          have h15 : inR (nI (10 + k)) 10 15 := inR_of (a := 10) (b := 15) (by omega) (by omega) (by decide)
          have h03 : ¬ inR (nI (10 + k)) 0 3 := fun z => absurd z.2 (show ¬ nI (10 + k) ≤ 3 from nI_ge (a := 3) (by omega) (by omega))
          simp only [lt_p, e_in, e_isLetterM, bd_some, ite10, e2, e4, hs, hs2]
          rw [if_pos h2, if_neg h03, if_pos h15, if_pos (show inR (nI k) 0 5 ∧ hb (gi τ 1 146) (nI k) from h1), if_neg (show ¬ nI (10 + k) = 0 from nI_nq (b := 0) (by omega) (by omega) (by omega)), if_neg (show ¬ nI (10 + k) = 1 from nI_nq (b := 1) (by omega) (by omega) (by omega)), if_neg (show ¬ nI (10 + k) = 2 from nI_nq (b := 2) (by omega) (by omega) (by omega)), if_neg (show ¬ nI (10 + k) = 3 from nI_nq (b := 3) (by omega) (by omega) (by omega)), chk_n (by omega) (by decide), b1, bd_some, ix_n (by omega)]
        obtain ⟨-, -, ⟨f, hf, ef⟩, -⟩ := m4.2.2.1 k hk
        have ef' : gi τ2 1 (138 + k) = nI f := ef
        have ec : gi σ2 66 k = nI f := (m3.2.1 k hk).2.2.1.trans ef
        have hs10 : (10 : Int32) + nI k = nI (10 + k) := by rw [li_10, nI_add]
        have a1 : f * 2 / 3 * h ≤ 666666 * 10 := Nat.mul_le_mul (by omega) hh2
        have a2 : f * 2 / 3 * h * n ≤ 6666660 * 60 := Nat.mul_le_mul a1 hn2
        simp only [e1, bd_some, e9, h10, ix_b hlw, hlw, ckc_t, e3]
        rw [chk_n hk (by decide), ix_n (by omega), ec, hs10, et, bd_some, ef']
        have v1 : nI f * 2 / 3 = nI (f * 2 / 3) := by rw [li_2, li_3, pk_mul, pk_div (by omega) (by omega) (by omega)]
        rw [v1]
        have v2 : (nI (f * 2 / 3) * nI h * nI n + 99) / 100 = nI ((f * 2 / 3 * h * n + 99) / 100) := by
          rw [pk_mul, pk_mul, li_99, nI_add, li_100, pk_div (by omega) (by omega) (by omega)]
        have v3 : ((nI (f * 2 / 3)).toInt64 * (nI h).toInt64 * (nI n).toInt64 + 99) / 100 = lN ((f * 2 / 3 * h * n + 99) / 100) := by
          rw [nI_l (by omega), nI_l (by omega), nI_l (by omega), lN_mul, lN_mul, show (99 : Int64) = lN 99 from rfl, lN_add, show (100 : Int64) = lN 100 from rfl, pk_lDiv (by omega) (by omega) (by omega)]
        rw [v2, v3, nI_l (by omega), imax_sub _ _ (by omega) (by omega), lN_i]
        refine ⟨nI (f * 2 / 3 - (f * 2 / 3 * h * n + 99) / 100), σ2, τ3, rfl, ?_, kt, kv⟩
        by_cases hc : (f * 2 / 3 * h * n + 99) / 100 ≤ f * 2 / 3
        · rw [if_pos ((lg_cmp_le _ _).mpr ((pk_lLE (by omega) (by omega)).mpr hc)), pk_sub hc]
        · rw [if_neg (fun z => hc ((pk_lLE (by omega) (by omega)).mp ((lg_cmp_le _ _).mp z))), show f * 2 / 3 - (f * 2 / 3 * h * n + 99) / 100 = 0 by omega]
          rfl
      · rw [if_neg h3, if_neg h3]
        exact ⟨-1, σ, τ, rfl, rfl, Kt.rf _, Kv.rf _⟩
    · rw [if_neg h2, if_neg h2]
      exact ⟨-1, σ, τ, rfl, rfl, Kt.rf _, Kv.rf _⟩
  · rw [if_neg h1, if_neg h1]
    exact ⟨-1, σ, τ, rfl, rfl, Kt.rf _, Kv.rf _⟩
-- count
theorem lp_writ (N : Nat) {σ τ : Mem} (hx : Rx σ τ) : ∀ (u k M1 M2 : Nat) (a : Int32), k + u = 6 → u < M1 → u < M2 → ∃ z, itr (fun _ _ _ => none) (st_X1_written_4 N) M1 a (nI k) σ = some (z, σ) ∧ itr (fun _ _ _ => none) (st_X10_count_131 N) M2 a (nI k) τ = some (z, τ)
  | u, k, 0, _, a, _, h2, _ => absurd h2 (by omega)
  | u, k, M1 + 1, 0, a, _, _, h3 => absurd h3 (by omega)
  | 0, k, M1 + 1, M2 + 1, a, h1, _, _ => by
    refine ⟨a, ?_, ?_⟩
    · show st_X1_written_4 N _ a (nI k) σ = _
      unfold st_X1_written_4
      rw [if_pos (show (6 : Int32) ≤ nI k from nI_le (a := 6) (by omega) (by omega))]
    · show st_X10_count_131 N _ a (nI k) τ = _
      unfold st_X10_count_131
      rw [if_pos (show (6 : Int32) ≤ nI k from nI_le (a := 6) (by omega) (by omega))]
  | u + 1, k, M1 + 1, M2 + 1, a, h1, h2, h3 => by
    have hk : k < 6 := by omega
    obtain ⟨m1, m2, m3⟩ := hx.size hk
    have eC : itr (fun _ _ _ => none) (st_X1_written_4 N) (M1 + 1) a (nI k) σ = itr (fun _ _ _ => none) (st_X1_written_4 N) M1 (if 0 < ix (gi τ 34 k) then a ||| ((1 : Int32) <<< (nI k &&& 31)) else a) (nI (k + 1)) σ := by
      show st_X1_written_4 N _ a (nI k) σ = _
      generalize itr (fun _ _ _ => none) (st_X1_written_4 N) M1 = rec
      unfold st_X1_written_4
      simp only [lt_p, nI_1]
      rw [if_neg (show ¬ (6 : Int32) ≤ nI k from nI_ge (b := 6) hk (by decide)), e_written N hk m2 m1, bd_some]
      by_cases h : 0 < ix (gi τ 34 k)
      · rw [if_pos h, if_pos h, if_neg (by decide)]
      · rw [if_neg h, if_neg h, if_pos rfl]
    have eM : itr (fun _ _ _ => none) (st_X10_count_131 N) (M2 + 1) a (nI k) τ = itr (fun _ _ _ => none) (st_X10_count_131 N) M2 (if 0 < ix (gi τ 34 k) then a ||| ((1 : Int32) <<< (nI k &&& 31)) else a) (nI (k + 1)) τ := by
      show st_X10_count_131 N _ a (nI k) τ = _
      generalize itr (fun _ _ _ => none) (st_X10_count_131 N) M2 = rec
      unfold st_X10_count_131
      simp only [lt_p, nI_1]
      rw [if_neg (show ¬ (6 : Int32) ≤ nI k from nI_ge (b := 6) hk (by decide)), chk_n (by omega) (by decide), ix_n (show k < 2 ^ 31 by omega), Int32.or_zero]
      by_cases h : 0 < ix (gi τ 34 k)
      · rw [if_pos h, if_neg (by rw [m3]; exact nI_nle h (by omega))]
      · rw [if_neg h, if_pos (by rw [m3, show ix (gi τ 34 k) = 0 by omega]; decide)]
    rw [eC, eM]
    exact lp_writ N hx u (k + 1) M1 M2 _ (by omega) (by omega) (by omega)
theorem s_count (N : Nat) (hN : 300 ≤ N) {σ τ : Mem} (ht : Rt σ τ) (hp : Rp σ τ) (hn : Rn σ τ) (hx : Rx σ τ) (hl : Rl σ τ) (x1 : Int32) : ∃ r, f_X9_count N x1 σ = some (r, σ) ∧ f_X10_count N x1 τ = some (r, τ) := by
  unfold f_X9_count f_X10_count
  obtain ⟨⟨⟨a1, a2, a3, a4, a5, a6, a7⟩, -⟩, -⟩ := id hn
  by_cases h0 : x1 = 0
  · rw [if_pos h0, if_pos h0, ck_147_151, ix_147, a5]
    exact ⟨_, rfl, rfl⟩
  · rw [if_neg h0, if_neg h0]
    by_cases h1 : x1 = 1
    · rw [if_pos h1, if_pos h1, ck_148_151, ix_148, a6]
      exact ⟨_, rfl, rfl⟩
    · rw [if_neg h1, if_neg h1]
      by_cases h2 : x1 = 2
      · rw [if_pos h2, if_pos h2, ck_149_151, ix_149, a4]
        exact ⟨_, rfl, rfl⟩
      · rw [if_neg h2, if_neg h2]
        by_cases h3 : x1 = 3
        · rw [if_pos h3, if_pos h3, ck_145_151, ix_145, hp.1]
          exact ⟨_, rfl, rfl⟩
        · rw [if_neg h3, if_neg h3]
          by_cases h4 : x1 = 4
          · rw [if_pos h4, if_pos h4, ck_146_151, ix_146, a2]
            exact ⟨_, rfl, rfl⟩
          · rw [if_neg h4, if_neg h4]
            by_cases h5 : x1 = 5
            · rw [if_pos h5, if_pos h5, ck_144_151, ix_144, a3]
              exact ⟨_, rfl, rfl⟩
            · rw [if_neg h5, if_neg h5]
              by_cases h6 : x1 = 6
              · obtain ⟨b, b', m, c, r, ⟨c1, c2, c3⟩, ⟨c4, c5⟩, ⟨c6, c7, c8⟩, c9⟩ := hl
                rw [if_pos h6, if_pos h6, lt_p, c4, ix_b c1, c1, ckc_t, c7, c8]
                exact ⟨_, rfl, rfl⟩
              · rw [if_neg h6, if_neg h6]
                by_cases h7 : x1 = 7
                · obtain ⟨⟨n, _, t1, t2⟩, _⟩ := ht
                  rw [if_pos h7, if_pos h7, t1, t2]
                  exact ⟨_, rfl, rfl⟩
                · rw [if_neg h7, if_neg h7]
                  by_cases h8 : x1 = 8
                  · rw [if_pos h8, if_pos h8, ck_150_151, ix_150, a7]
                    exact ⟨_, rfl, rfl⟩
                  · rw [if_neg h8, if_neg h8]
                    by_cases h9 : x1 = 9
                    · rw [if_pos h9, if_pos h9]
                      obtain ⟨z, e1, e2⟩ := lp_writ N hx 6 0 N N 0 (by omega) (by omega) (by omega)
                      have e1' : f_X1_written N σ = some (z, σ) := e1
                      rw [e1', bd_some]
                      exact ⟨z, rfl, e2⟩
                    · rw [if_neg h9, if_neg h9, e_in, bd_some, ite10]
                      by_cases h10 : inR (x1 - 10) 0 5
                      · obtain ⟨k, hk, rfl⟩ := sub10.mp h10
                        obtain ⟨m1, m2, m3⟩ := hx.size hk
                        have hs : nI (10 + k) - 10 = nI k := by rw [li_10, pk_sub (by omega), show 10 + k - 10 = k by omega]
                        rw [hs, e_written N hk m2 m1, bd_some, if_pos (show inR (nI (10 + k)) 10 15 from inR_of (a := 10) (b := 15) (by omega) (by omega) (by decide)), chk_n (show k < 7 by omega) (by decide), ix_n (show k < 2 ^ 31 by omega)]
                        by_cases h : 0 < ix (gi τ 34 k)
                        · rw [if_pos h, if_neg (by decide), if_neg (by rw [m3]; exact nI_nle h (by omega)), chk_n hk (by decide), chk_n (by omega) (by decide), m2, ← m3]
                          exact ⟨_, rfl, rfl⟩
                        · rw [if_neg h, if_pos rfl, if_pos (by rw [m3, show ix (gi τ 34 k) = 0 by omega]; decide)]
                          exact ⟨_, rfl, rfl⟩
                      · have h15 : ¬ inR x1 10 15 := fun z => h10 (sub10.mpr (by
                          obtain ⟨n, n1, n2, rfl⟩ := inR_n (a := 10) (b := 15) rfl rfl (by decide) (by decide) z
                          exact ⟨n - 10, by omega, by rw [show 10 + (n - 10) = n by omega]⟩))
                        unfold f_X1_isWritten
                        rw [e_isLetterC, bd_some, ite10, if_neg h10, bd_some, if_pos rfl, if_neg h15]
                        exact ⟨_, rfl, rfl⟩
