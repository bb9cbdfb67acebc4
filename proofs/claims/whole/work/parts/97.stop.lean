/-! round: the stop that is asked -/
theorem lp_stop (N : Nat) (hN : 300 ≤ N) {τ : Mem} {n hm j : Nat} {its : Nat → Nat} (hn : n ≤ 7) (hh : hm < 12) (hj : j < n) : ∀ (u s M mu x : Nat) (σ : Mem), s + u = j + 1 → u < M → x ≤ n → mu < 2 ^ n → (lsf (nI mu) n 0).length + s = n → 0 < (Bm (fwa (ini τ)) n hm its mu (pl n hm its x)).1 → Cr τ n hm its σ → Tb (fwa (ini τ)) n hm its (2 ^ n) σ → ∃ σ', itr (fun _ _ _ _ => none) (st_X3_stopAt_17 N (nI j)) M (nI x) (nI mu) (nI s) σ = some (nI (if u = 0 then pl n hm its x else its ((Bm (fwa (ini τ)) n hm its mu (pl n hm its x)).2.getD (u - 1) 0)), σ') ∧ Cr τ n hm its σ' ∧ K3 σ σ'
  | u, s, 0, mu, x, σ, _, h2, _, _, _, _, _, _ => absurd h2 (by omega)
  | 0, s, M + 1, mu, x, σ, h1, _, hx, _, _, _, hC, _ => by
    refine ⟨σ, ?_, hC, K3.rf _⟩
    show st_X3_stopAt_17 N (nI j) _ (nI x) (nI mu) (nI s) σ = _
    unfold st_X3_stopAt_17
    rw [if_pos (nI_lt (by omega) (by omega)), chk_n (by omega) (by decide), ix_n (by omega), (hC.at hh hx).1, if_pos rfl]
  | u + 1, s, M + 1, mu, x, σ, h1, h2, hx, hmn, hlen, h0, hC, hT => by
    have h7 := pow7 hn
    have hm0 : 0 < mu := Nat.pos_of_ne_zero (fun z => by
      rw [z, lsf_z] at hlen
      have : ([] : List Nat).length = 0 := rfl
      omega)
    obtain ⟨i, σ1, i1, i2, i3, i4, i5, i6, i7⟩ := e_nxt N hN hn hh hx (by omega) hmn hm0 h0 hC (fun mu' y h h' => hT mu' y (by omega) h')
    obtain ⟨t1, t2⟩ := msk_tab mu (by omega) i (by omega) i2
    have hpi : pl n hm its i = its i := if_neg (by omega)
    have e : ∀ rec, st_X3_stopAt_17 N (nI j) rec (nI x) (nI mu) (nI s) σ = rec (nI i) (nI (mu - 2 ^ i)) (nI (s + 1)) σ1 := by
      intro rec
      unfold st_X3_stopAt_17
      simp only [lt_p]
      rw [if_neg (Int32.not_lt.mpr (nI_le (show s ≤ j by omega) (by omega))), hC.2.2.1, if_neg (nI_ge (by omega) (by omega)), i3, bd_some, if_pos (show (0 : Int32) ≤ nI i from Int32.not_lt.mp (nI_pos (by omega))), t1, nI_1]
    have e' : itr (fun _ _ _ _ => none) (st_X3_stopAt_17 N (nI j)) (M + 1) (nI x) (nI mu) (nI s) σ = _ := e (itr (fun _ _ _ _ => none) (st_X3_stopAt_17 N (nI j)) M)
    have hl2 : (lsf (nI (mu - 2 ^ i)) n 0).length + (s + 1) = n := by
      rw [msk_lst (by omega) hn i1 i2, List.length_erase_of_mem (lsf_mem i2 n 0 (by omega) (by omega))]
      have : 0 < (lsf (nI mu) n 0).length := List.length_pos_of_mem (lsf_mem i2 n 0 (by omega) (by omega))
      omega
    obtain ⟨σ', r1, r2, r3⟩ := lp_stop N hN hn hh hj u (s + 1) M (mu - 2 ^ i) i σ1 (by omega) (by omega) (by omega) (Nat.lt_of_le_of_lt (Nat.sub_le _ _) hmn) hl2 (by rw [hpi]; exact i5) i6 (hT.k i7)
    refine ⟨σ', e'.trans (r1.trans ?_), r2, i7.tr r3⟩
    rw [hpi, if_neg (show ¬ u + 1 = 0 by omega), i4]
    by_cases z : u = 0
    · rw [if_pos z, z]
      rfl
    · rw [if_neg z]
      obtain ⟨v, rfl⟩ : ∃ v, u = v + 1 := ⟨u - 1, by omega⟩
      rfl
