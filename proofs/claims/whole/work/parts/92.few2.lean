/-! round: the table filled -/
theorem lsf_len (m : Int32) : ∀ (u i : Nat), (lsf m u i).length ≤ u
  | 0, i => Nat.le_refl _
  | u + 1, i => by
    have := lsf_len m u (i + 1)
    show (if bt m i = true then i :: lsf m u (i + 1) else lsf m u (i + 1)).length ≤ u + 1
    by_cases z : bt m i = true
    · rw [if_pos z, List.length_cons]
      omega
    · rw [if_neg z]
      omega
theorem e_few (N : Nat) (hN : 300 ≤ N) {τ σ : Mem} {n hm x mu : Nat} {its : Nat → Nat} (hn : n ≤ 7) (hh : hm < 12) (hx : x ≤ n) (hmu : mu < 128) (hmn : mu < 2 ^ n) (hC : Cr τ n hm its σ) (hT : Tb (fwa (ini τ)) n hm its mu σ) : ∃ σ', f_X3_fewestAhead N (nI mu) (nI x) σ = some (nI (cc (Bm (fwa (ini τ)) n hm its mu (pl n hm its x)).1), σ') ∧ Cr τ n hm its σ' ∧ K3 σ σ' := by
  unfold f_X3_fewestAhead
  by_cases z : mu = 0
  · subst z
    have hpn : pl n hm its n = hm := if_pos rfl
    obtain ⟨σ', w1, w2, w3⟩ := e_wayC N hN hn hh hC hx (Nat.le_refl n)
    rw [hpn] at w1
    refine ⟨σ', ?_, w2, w3⟩
    rw [if_pos (show nI 0 = 0 from rfl), chk_n (by omega) (by decide), hC.2.2.1, chk_n (by omega) (by decide), ix_n (by omega), ix_n (by omega), w1, bd_some]
    unfold Bm
    rw [lsf_z]
    show some (nI (dc (fwa (ini τ) (pl n hm its x) hm)), σ') = some (nI (cc (100000000 - dd (fwa (ini τ) (pl n hm its x) hm))), σ')
    have hs := fun d => short hC.1 (hC.at hh hx).2 hh (d := d)
    revert hs
    generalize fwa (ini τ) (pl n hm its x) hm = o
    intro hs
    cases o with
    | none => rfl
    | some d =>
      have := hs d rfl
      have e : cc (100000000 - dd (some d)) = d := by
        show (if 100000000 - d = 0 then 1000000 else 100000000 - (100000000 - d)) = d
        rw [if_neg (by omega)]
        omega
      rw [e]
      rfl
  · have hl := lsf_pos n (by omega) mu hmu hmn (by omega)
    have hl2 := lsf_len (nI mu) n 0
    obtain ⟨k, hk⟩ : ∃ k, (lsf (nI mu) n 0).length = k + 1 := ⟨(lsf (nI mu) n 0).length - 1, by omega⟩
    obtain ⟨σ', r1, r2, r3⟩ := lp_few N hN hn hh hx hmu hk (by omega) n 0 N (0, []) σ (by omega) (by omega) (Or.inl rfl) hC hT
    refine ⟨σ', ?_, r2, r3⟩
    rw [if_neg (show ¬ nI mu = 0 from nI_nq (b := 0) z (by omega) (by decide))]
    unfold Bm
    rw [hk]
    exact r1
theorem Cr.t {τ σ : Mem} {n hm : Nat} {its : Nat → Nat} (h : Cr τ n hm its σ) (j : Nat) (v : Int32) : Cr τ n hm its (si σ 31 j v) := by
  obtain ⟨h1, h2, h3, h4, h5⟩ := h
  refine ⟨h1.fr (gi_ne (by decide)) (fun p q _ _ => gi_ne (by omega)) rfl (fun _ _ => rfl), ?_, ?_, fun i hi => ?_, ?_⟩
  · rcases h2 with y | ⟨y1, y2⟩
    · exact Or.inl (by rw [gi_ne (by decide)]; exact y)
    · exact Or.inr ⟨by rw [gi_ne (by decide)]; exact y1, fun p q hp hq => by rw [gi_ne (by omega)]; exact y2 p q hp hq⟩
  · rw [gi_ne (by decide)]; exact h3
  · rw [gi_ne (by decide)]; exact h4 i hi
  · rw [gi_ne (by decide)]; exact h5
def K4 (σ σ' : Mem) : Prop := ∀ c i, ¬ (18 ≤ c ∧ c < 30) → ¬ (c = 3 ∧ i = 3) → ¬ c = 31 → gi σ' c i = gi σ c i
theorem lp_87 (N : Nat) (hN : 300 ≤ N) {τ : Mem} {n hm mu : Nat} {its : Nat → Nat} (x3 : Int32) (hn : n ≤ 7) (hh : hm < 12) (hmu : mu < 128) (hmn : mu < 2 ^ n) (K : Mem → Option (Int32 × Mem)) : ∀ (u x M : Nat) (σ : Mem), x + u = n + 1 → u < M → Cr τ n hm its σ → Tb (fwa (ini τ)) n hm its mu σ → (∀ y, y < x → gi σ 31 (mu * 8 + y) = nI (cc (Bm (fwa (ini τ)) n hm its mu (pl n hm its y)).1)) → ∃ σ', itr (fun _ _ => none) (st_X3_goRound_87 N x3 (nI mu) K) M (nI x) σ = K σ' ∧ Cr τ n hm its σ' ∧ Tb (fwa (ini τ)) n hm its (mu + 1) σ' ∧ K4 σ σ'
  | u, x, 0, σ, _, h2, _, _, _ => absurd h2 (by omega)
  | 0, x, M + 1, σ, h1, _, hC, hT, hY => by
    refine ⟨σ, ?_, hC, fun mu' y h h' => ?_, fun _ _ _ _ _ => rfl⟩
    · show st_X3_goRound_87 N x3 (nI mu) K _ (nI x) σ = _
      unfold st_X3_goRound_87
      rw [hC.2.2.1, if_pos (nI_lt (by omega) (by omega))]
    · by_cases z : mu' = mu
      · rw [z]; exact hY y (by omega)
      · exact hT mu' y (by omega) h'
  | u + 1, x, M + 1, σ, h1, h2, hC, hT, hY => by
    obtain ⟨σ1, a1, a2, a3⟩ := e_few N hN hn hh (show x ≤ n by omega) hmu hmn hC hT
    have e : ∀ rec, st_X3_goRound_87 N x3 (nI mu) K rec (nI x) σ = rec (nI (x + 1)) (si σ1 31 (mu * 8 + x) (nI (cc (Bm (fwa (ini τ)) n hm its mu (pl n hm its x)).1))) := by
      intro rec
      unfold st_X3_goRound_87
      simp only [lt_p]
      rw [hC.2.2.1, if_neg (Int32.not_lt.mpr (nI_le (show x ≤ n by omega) (by omega))), a1, bd_some, li_8, pk_mul, nI_add, chk_n (by omega) (by decide), ix_n (by omega), nI_1]
    have e' : itr (fun _ _ => none) (st_X3_goRound_87 N x3 (nI mu) K) (M + 1) (nI x) σ = _ := e (itr (fun _ _ => none) (st_X3_goRound_87 N x3 (nI mu) K) M)
    obtain ⟨σ', r1, r2, r3, r4⟩ := lp_87 N hN x3 hn hh hmu hmn K u (x + 1) M (si σ1 31 (mu * 8 + x) (nI (cc (Bm (fwa (ini τ)) n hm its mu (pl n hm its x)).1))) (by omega) (by omega) (a2.t _ _) (fun mu' y h h' => by
      rw [gi_ni (by omega)]
      exact (hT.k a3) mu' y h h') (fun y hy => by
      by_cases z : y = x
      · rw [z, gi_eq]
      · rw [gi_ni (by omega), a3 _ _ (by decide) (by omega)]
        exact hY y (by omega))
    exact ⟨σ', e'.trans r1, r2, r3, fun c i y1 y2 y3 => by rw [r4 c i y1 y2 y3, gi_ne y3, a3 c i y1 y2]⟩
