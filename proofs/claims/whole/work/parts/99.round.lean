/-! round, whole -/
theorem s_rnd (N : Nat) (hN : 6000 ≤ N) {σ τ : Mem} {hm : Nat} {m : Int32} (hp : Rp σ τ) (hw : Rw σ τ) (h1 : 1 ≤ cnt m 12) (hc : cnt m 12 ≤ 7) (hh : hm < 12) (x3 : Int32) (hx : x3 = 100 ∨ ∃ j, j < cnt m 12 ∧ x3 = nI j) (K : Int32 → Mem → Option (Int32 × Mem)) (hK : ∀ x s, K x s = if x = 100000000 then (some ((-2), s)) else if x3 = 100 then (some (x, s)) else chk x3 7 (some (gi s 28 (ix x3), s))) : ∃ r σ' τ', bd (f_X3_goRound N (nI hm) m σ) (fun r9 s8 => if r9 < 1000000 then (if x3 = 100 then (some (r9, s8)) else bd (f_X3_stopAt N x3 s8) (fun r11 s10 => some (r11, s10))) else some ((-2), s8)) = some (r, σ') ∧ bd (f_X10_laysWays N τ) (fun _ s12 => bd (f_X10_listsOnes N m s12) (fun _ s14 => bd (f_X10_beginsRows N (nI (cnt m 12)) s14) (fun _ s16 => itr (fun _ _ _ => none) (st_X10_round_102 N (nI hm) x3 (nI (cnt m 12)) K) N 100000000 1 s16))) = some (r, τ') ∧ Rp σ' τ ∧ Rw σ' τ := by
  obtain ⟨σ1, a1, a2, a3⟩ := s_goRound N (by omega) hc hh hp hw
  obtain ⟨τ1, b1, b2⟩ := r_ref N hN hp h1 hc hh x3 K
  have hBm : Bm (fwa (ini τ)) (cnt m 12) hm (it m) (2 ^ cnt m 12 - 1) hm = bst (re (fwa (ini τ)) hm) (rh (fwa (ini τ)) (it m)) (rx (it m)) (cnt m 12) (List.range (cnt m 12)) hm := by
    unfold Bm
    rw [lsf_full _ hc, List.length_range]
  have hV : Vd (cnt m 12) (Bm (fwa (ini τ)) (cnt m 12) hm (it m) (2 ^ cnt m 12 - 1) hm).1 := by
    rw [hBm]
    exact bst_vd hh (fun p q d hp' hq hd => short hp hp' hq hd) _ _ _ hh (fun i hi => (a2.2.2.2.1 i (List.mem_range.mp hi)).2)
  have hpl : pl (cnt m 12) hm (it m) (cnt m 12) = hm := if_pos rfl
  have hlen : (lsf (nI (2 ^ cnt m 12 - 1)) (cnt m 12) 0).length + 0 = cnt m 12 := by
    rw [lsf_full _ hc, List.length_range]
    rfl
  have hst : ∀ j, j < cnt m 12 → 0 < (Bm (fwa (ini τ)) (cnt m 12) hm (it m) (2 ^ cnt m 12 - 1) hm).1 → ∃ σ2, f_X3_stopAt N (nI j) σ1 = some (nI (it m ((Bm (fwa (ini τ)) (cnt m 12) hm (it m) (2 ^ cnt m 12 - 1) hm).2.getD j 0)), σ2) ∧ Cr τ (cnt m 12) hm (it m) σ2 := by
    intro j hj z
    have h7 := pow7 hc
    obtain ⟨σ2, c1, c2, -⟩ := lp_stop N (by omega) hc hh hj (j + 1) 0 N (2 ^ cnt m 12 - 1) (cnt m 12) σ1 (by omega) (by omega) (Nat.le_refl _) (by omega) hlen (by rw [hpl]; exact z) a2 a3
    rw [if_neg (Nat.succ_ne_zero j), hpl] at c1
    refine ⟨σ2, ?_, c2⟩
    unfold f_X3_stopAt
    simp only [lt_p]
    rw [a2.2.2.1, shl_tab _ (by omega)]
    exact c1
  rw [← hBm] at b1 b2
  rw [a1, bd_some, b1, hK]
  revert hV hst b2
  generalize Bm (fwa (ini τ)) (cnt m 12) hm (it m) (2 ^ cnt m 12 - 1) hm = B
  intro b2 hV hst
  by_cases z : 0 < B.1
  · have hlt := (cc_lt hc hV).mpr z
    have hcc : cc B.1 = 100000000 - B.1 := if_neg (by omega)
    rw [if_pos (show nI (cc B.1) < (1000000 : Int32) from nI_lt (b := 1000000) hlt (by decide))]
    rw [hcc] at hlt ⊢
    rw [if_neg (show ¬ nI (100000000 - B.1) = (100000000 : Int32) from fun y => by have := (nI_eq (b := 100000000) (by omega) (by decide)).mp y; omega)]
    rcases hx with rfl | ⟨j, hj, rfl⟩
    · rw [if_pos rfl, if_pos rfl]
      exact ⟨_, σ1, τ1, rfl, rfl, a2.1, a2.2.1⟩
    · have n100 : ¬ nI j = (100 : Int32) := fun y => by have := (nI_eq (b := 100) (by omega) (by decide)).mp y; omega
      obtain ⟨σ2, c1, c2⟩ := hst j hj z
      rw [if_neg n100, if_neg n100, c1, bd_some, chk_n (by omega) (by decide), ix_n (by omega), b2 z j hj]
      exact ⟨_, σ2, τ1, rfl, rfl, c2.1, c2.2.1⟩
  · have h0 : B.1 = 0 := by omega
    rw [h0, if_neg (show ¬ nI (cc 0) < (1000000 : Int32) by decide), if_pos (show nI (100000000 - 0) = (100000000 : Int32) from rfl)]
    exact ⟨_, σ1, τ1, rfl, rfl, a2.1, a2.2.1⟩
theorem nI_p1 {n : Nat} (h : 1 ≤ n) : nI n - 1 = nI (n - 1) := pk_sub (b := 1) h
theorem cnt_zero {x : Int32} (h : ∀ i, 12 ≤ i → i < 32 → bt x i = false) (h0 : cnt x 12 = 0) : x = 0 := b_ext (fun i hi => by
  rw [bt_0]
  by_cases z : i < 12
  · exact cnt_0 12 h0 i z
  · exact h i (by omega) hi)
theorem W_rnd {c i : Nat} (h : W_X10_round c i) : c = 25 ∨ c = 26 ∨ c = 27 ∨ c = 28 := by
  simp only [W_X10_round, W_X10_isParish, W_X10_in, W_X10_has, W_X10_bits, W_X10_laysWays, W_X10_listsOnes, W_X10_beginsRows, W_X10_milesOfRow, W_X10_nextRow, W_X10_keepsRow, W_X10_min, W_X10_changes, false_or, or_false] at h
  omega
theorem s_round (N : Nat) (hN : 6000 ≤ N) {σ τ : Mem} (hp : Rp σ τ) (hw : Rw σ τ) (x1 x2 x3 : Int32) : ∃ r σ' τ', f_X9_round N x1 x2 x3 σ = some (r, σ') ∧ f_X10_round N x1 x2 x3 τ = some (r, τ') ∧ Rp σ' τ' ∧ Rw σ' τ' := by
  have key : ∃ r σ' τ', f_X9_round N x1 x2 x3 σ = some (r, σ') ∧ f_X10_round N x1 x2 x3 τ = some (r, τ') ∧ Rp σ' τ ∧ Rw σ' τ := by
    have hs := hp.2.1
    have e145 : gi τ 1 (ix (145 : Int32)) = gi σ 3 0 := hp.1.symm
    have c145 : ∀ {α : Type} (e : Option α), chk (145 : Int32) 151 e = e := fun e => chk_n (n := 145) (by decide) (by decide)
    unfold f_X9_round f_X10_round
    rw [e_told3, e_isParish, bd_some, bd_some, ite10, ite10, ← hp.1]
    by_cases h1 : inR x1 0 11 ∧ hb (gi σ 3 0) x1
    · rw [if_pos h1, if_pos h1, show f_X9_isSome N x2 (gi σ 3 0) 7 σ = _ from e_some N (w := 7) (by decide) hs σ, e_in, bd_some, bd_some, ite10, ite10, c145, e145]
      obtain ⟨hm, -, hh, rfl⟩ := inR_n (a := 0) (b := 11) rfl rfl (by decide) (by decide) h1.1
      by_cases hsub : x2 &&& (gi σ 3 0 ^^^ (-1)) = 0
      · have hlow := sub_low hs hsub
        by_cases h0 : x2 = 0
        · rw [if_neg (fun y => y.1 h0), if_neg (fun y => ((in_4095 hs hsub).mp y) h0)]
          exact ⟨_, σ, τ, rfl, rfl, hp, hw⟩
        · rw [if_pos ((in_4095 hs hsub).mpr h0), if_pos hsub, e_has, bd_some, ite10]
          by_cases hb' : hb x2 (nI hm)
          · rw [if_pos hb']
            by_cases h7 : ¬ x2 = 0 ∧ x2 &&& (gi σ 3 0 ^^^ (-1)) = 0 ∧ cnt x2 12 ≤ 7
            · rw [if_pos h7, e_hasBit, bd_some, ite10, if_pos hb']
              exact ⟨_, σ, τ, rfl, rfl, hp, hw⟩
            · rw [if_neg h7]
              exact ⟨_, σ, τ, rfl, rfl, hp, hw⟩
          · rw [if_neg hb', e_bits N (by omega), bd_some]
            by_cases h7 : cnt x2 12 ≤ 7
            · have hc1 : 1 ≤ cnt x2 12 := Nat.pos_of_ne_zero (fun y => h0 (cnt_zero hlow y))
              rw [if_pos (show nI (cnt x2 12) ≤ (7 : Int32) from nI_le (b := 7) h7 (by decide)), if_pos ⟨h0, hsub, h7⟩, e_hasBit, bd_some, ite10, if_neg hb', e_bits N (by omega), bd_some]
              simp only [lt_p]
              by_cases x100 : x3 = 100
              · rw [if_pos x100, if_pos x100]
                exact s_rnd N hN hp hw hc1 h7 (by omega) x3 (Or.inl x100) _ (fun _ _ => rfl)
              · rw [if_neg x100, if_neg x100, e_bc, bd_some, bc_cnt hlow, nI_p1 hc1, e_within, e_in, bd_some, bd_some, ite10, ite10]
                by_cases hi : inR x3 0 (nI (cnt x2 12 - 1))
                · rw [if_pos hi, if_pos hi]
                  obtain ⟨j, -, hj, ej⟩ := inR_n (a := 0) (b := cnt x2 12 - 1) rfl rfl (by omega) (by decide) hi
                  exact s_rnd N hN hp hw hc1 h7 (by omega) x3 (Or.inr ⟨j, by omega, ej⟩) _ (fun _ _ => rfl)
                · rw [if_neg hi, if_neg hi]
                  exact ⟨_, σ, τ, rfl, rfl, hp, hw⟩
            · rw [if_neg (show ¬ nI (cnt x2 12) ≤ (7 : Int32) from nI_ge (a := 7) (by omega) (by have := cnt_le x2 12; omega)), if_neg (fun y => h7 y.2.2)]
              exact ⟨_, σ, τ, rfl, rfl, hp, hw⟩
      · rw [if_neg (fun y => hsub y.2.1), if_neg hsub]
        by_cases hi : inR x2 1 4095
        · rw [if_pos hi]
          exact ⟨_, σ, τ, rfl, rfl, hp, hw⟩
        · rw [if_neg hi]
          exact ⟨_, σ, τ, rfl, rfl, hp, hw⟩
    · rw [if_neg h1, if_neg h1]
      exact ⟨_, σ, τ, rfl, rfl, hp, hw⟩
  obtain ⟨r, σ', τ', e1, e2, h1, h2⟩ := key
  have f : ∀ c i, ¬ (c = 25 ∨ c = 26 ∨ c = 27 ∨ c = 28) → gi τ' c i = gi τ c i := fun c i hc => (fr_X10_round N x1 x2 x3 τ _ _ e2 c i (fun z => hc (W_rnd z))).1
  have hini : ini τ' = ini τ := by
    funext p q
    unfold ini rn
    rw [f 4 _ (by decide)]
  refine ⟨r, σ', τ', e1, e2, h1.fr rfl (fun _ _ _ _ => rfl) (f _ _ (by decide)) (fun _ _ => f _ _ (by decide)), ?_⟩
  unfold Rw
  rw [hini]
  exact h2
