/-! round: the class's fewest miles -/
theorem pow7 {n : Nat} (h : n ≤ 7) : 1 ≤ 2 ^ n ∧ 2 ^ n ≤ 128 := ⟨Nat.one_le_two_pow, Nat.pow_le_pow_right (by decide) h⟩
theorem K4.tr {σ σ1 σ2 : Mem} (h : K4 σ σ1) (h1 : K4 σ1 σ2) : K4 σ σ2 := fun c i z1 z2 z3 => (h1 c i z1 z2 z3).trans (h c i z1 z2 z3)
theorem lp_78 (N : Nat) (hN : 300 ≤ N) {τ : Mem} {n hm : Nat} {its : Nat → Nat} (hn : n ≤ 7) (hh : hm < 12) : ∀ (u mu M : Nat) (σ : Mem), mu + u = 2 ^ n → u < M → Cr τ n hm its σ → Tb (fwa (ini τ)) n hm its mu σ → ∃ σ', itr (fun _ _ => none) (st_X3_goRound_78 N (nI (2 ^ n - 1))) M (nI mu) σ = some (nI (cc (Bm (fwa (ini τ)) n hm its (2 ^ n - 1) hm).1), σ') ∧ Cr τ n hm its σ' ∧ Tb (fwa (ini τ)) n hm its (2 ^ n) σ' ∧ K4 σ σ'
  | u, mu, 0, σ, _, h2, _, _ => absurd h2 (by omega)
  | 0, mu, M + 1, σ, h1, _, hC, hT => by
    have h2 := pow7 hn
    have hmu : mu = 2 ^ n := by omega
    rw [hmu] at hT
    refine ⟨σ, ?_, hC, hT, fun _ _ _ _ _ => rfl⟩
    show st_X3_goRound_78 N (nI (2 ^ n - 1)) _ (nI mu) σ = _
    unfold st_X3_goRound_78
    have ht := hT (2 ^ n - 1) n (by omega) (Nat.le_refl _)
    rw [show pl n hm its n = hm from if_pos rfl] at ht
    rw [if_pos (nI_lt (by omega) (by omega)), hC.2.2.1, li_8, pk_mul, nI_add, chk_n (by omega) (by decide), ix_n (by omega), ht]
  | u + 1, mu, M + 1, σ, h1, h2, hC, hT => by
    have h2 := pow7 hn
    obtain ⟨σ1, a1, a2, a3, a4⟩ := lp_87 N hN (nI (2 ^ n - 1)) hn hh (show mu < 128 by omega) (show mu < 2 ^ n by omega) (fun s16 => lt (nI mu + 1) (fun x4_17 => itr (fun _ _ => none) (st_X3_goRound_78 N (nI (2 ^ n - 1))) M x4_17 s16)) (n + 1) 0 N σ (by omega) (by omega) hC hT (fun y hy => absurd hy (by omega))
    have e : itr (fun _ _ => none) (st_X3_goRound_78 N (nI (2 ^ n - 1))) (M + 1) (nI mu) σ = itr (fun _ _ => none) (st_X3_goRound_78 N (nI (2 ^ n - 1))) M (nI (mu + 1)) σ1 := by
      show st_X3_goRound_78 N (nI (2 ^ n - 1)) _ (nI mu) σ = _
      rw [← nI_1 mu]
      revert a1
      generalize itr (fun _ _ => none) (st_X3_goRound_78 N (nI (2 ^ n - 1))) M = rec
      intro a1
      unfold st_X3_goRound_78
      rw [if_neg (Int32.not_lt.mpr (nI_le (show mu ≤ 2 ^ n - 1 by omega) (by omega)))]
      exact a1
    obtain ⟨σ', r1, r2, r3, r4⟩ := lp_78 N hN hn hh u (mu + 1) M σ1 (by omega) (by omega) a2 a3
    exact ⟨σ', e.trans r1, r2, r3, a4.tr r4⟩
theorem shl_tab : ∀ n, n < 8 → ((1 : Int32) <<< (nI n &&& 31)) - 1 = nI (2 ^ n - 1) := by decide +kernel
theorem s_goRound (N : Nat) (hN : 300 ≤ N) {τ σ : Mem} {hm : Nat} {m : Int32} (hc : cnt m 12 ≤ 7) (hh : hm < 12) (hp : Rp σ τ) (hw : Rw σ τ) : ∃ σ', f_X3_goRound N (nI hm) m σ = some (nI (cc (Bm (fwa (ini τ)) (cnt m 12) hm (it m) (2 ^ cnt m 12 - 1) hm).1), σ') ∧ Cr τ (cnt m 12) hm (it m) σ' ∧ Tb (fwa (ini τ)) (cnt m 12) hm (it m) (2 ^ cnt m 12) σ' := by
  have h2 := pow7 hc
  obtain ⟨σ1, a1, a2, a3, a4⟩ := lp_gr7 N (x1 := nI hm) hc (fun (s9 : Mem) => chk (gi s9 3 5) 8 (lt (si s9 30 (ix (gi s9 3 5)) (nI hm)) (fun s10 => lt (((1 : Int32) <<< ((gi s10 3 5) &&& 31)) - 1) (fun v11 => itr (fun _ _ => none) (st_X3_goRound_78 N v11) N 0 s10)))) 12 0 N (si σ 3 5 0) (by omega) (by omega) (gi_eq _ _ _ _) (fun i hi => absurd hi (Nat.not_lt_zero _))
  have fr : ∀ c i, ¬ c = 30 → ¬ (c = 3 ∧ i = 5) → gi (si σ1 30 (cnt m 12) (nI hm)) c i = gi σ c i := fun c i y1 y2 => by
    rw [gi_ne y1, a4 c i y1 y2, gi_si, if_neg y2]
  have hC : Cr τ (cnt m 12) hm (it m) (si σ1 30 (cnt m 12) (nI hm)) := by
    refine ⟨hp.fr (fr _ _ (by decide) (by decide)) (fun p q _ _ => fr _ _ (by omega) (by omega)) rfl (fun _ _ => rfl), ?_, ?_, fun i hi => ?_, gi_eq _ _ _ _⟩
    · rcases hw with y | ⟨y1, y2⟩
      · exact Or.inl (by rw [fr _ _ (by decide) (by decide)]; exact y)
      · exact Or.inr ⟨by rw [fr _ _ (by decide) (by decide)]; exact y1, fun p q hp hq => by rw [fr _ _ (by omega) (by omega)]; exact y2 p q hp hq⟩
    · rw [gi_ne (by decide)]; exact a2
    · rw [gi_ni (by omega)]; exact a3 i hi
  obtain ⟨σ2, b1, b2, b3, -⟩ := lp_78 N hN hc hh (2 ^ cnt m 12) 0 N (si σ1 30 (cnt m 12) (nI hm)) (by omega) (by omega) hC (fun mu' x h => absurd h (Nat.not_lt_zero _))
  refine ⟨σ2, ?_, b2, b3⟩
  unfold f_X3_goRound
  rw [lt_p]
  refine a1.trans ?_
  simp only [lt_p]
  rw [a2, chk_n (by omega) (by decide), ix_n (by omega), hC.2.2.1, shl_tab _ (by omega)]
  exact b1
