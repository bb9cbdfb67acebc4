/-! round: the reference's answer -/
theorem r_ref (N : Nat) (hN : 6000 ≤ N) {σ τ : Mem} {hm : Nat} {m : Int32} (hp : Rp σ τ) (h1 : 1 ≤ cnt m 12) (hc : cnt m 12 ≤ 7) (hh : hm < 12) (x3 : Int32) (K : Int32 → Mem → Option (Int32 × Mem)) : ∃ τ', bd (f_X10_laysWays N τ) (fun _ s12 => bd (f_X10_listsOnes N m s12) (fun _ s14 => bd (f_X10_beginsRows N (nI (cnt m 12)) s14) (fun _ s16 => itr (fun _ _ _ => none) (st_X10_round_102 N (nI hm) x3 (nI (cnt m 12)) K) N 100000000 1 s16))) = K (nI (100000000 - (bst (re (fwa (ini τ)) hm) (rh (fwa (ini τ)) (it m)) (rx (it m)) (cnt m 12) (List.range (cnt m 12)) hm).1)) τ' ∧ (0 < (bst (re (fwa (ini τ)) hm) (rh (fwa (ini τ)) (it m)) (rx (it m)) (cnt m 12) (List.range (cnt m 12)) hm).1 → Krr τ' (cnt m 12) (it m) (bst (re (fwa (ini τ)) hm) (rh (fwa (ini τ)) (it m)) (rx (it m)) (cnt m 12) (List.range (cnt m 12)) hm).2) := by
  obtain ⟨τ1, a1, a2, a3⟩ := s_laysWays N (by omega) hp
  obtain ⟨τ2, b1, b2, b3⟩ := s_lists N (by omega) hc τ1
  obtain ⟨τ3, c1, c2, c3⟩ := s_begins N (by omega) hc τ2
  obtain ⟨l, l1, l2⟩ := prm_head h1 hc
  have hch := chn_all h1 hc
  rw [l1] at hch
  have hW : ∀ p q, p < 12 → q < 12 → dd (fwa (ini τ) p q) ≤ 100000000 := fun p q h h' => by
    cases ho : fwa (ini τ) p q with
    | none => exact Nat.le_refl _
    | some d =>
      have := short hp h h' ho
      show d ≤ 100000000
      omega
  obtain ⟨τ4, r1, r2, -⟩ := lp_r102 N (by omega) (its := it m) (W := fwa (ini τ)) h1 hc hh hW x3 K l (List.range (cnt m 12)) N (0, []) τ3 hch (by omega) c2 (fun i hi => by rw [c3 _ _ (by decide)]; exact b2 i hi) (fun p q h h' => by rw [c3 _ _ (by decide), b3 _ _ (by decide)]; exact a2 p q h h') (Nat.zero_le _) (fun h => absurd h (Nat.lt_irrefl _))
  rw [← l1, fb_prm (re (fwa (ini τ)) hm) (rh (fwa (ini τ)) (it m)) (rx (it m)) (rh_Sp _ _)] at r1 r2
  rw [a1, bd_some, b1, bd_some, c1, bd_some]
  by_cases z : 0 < (bst (re (fwa (ini τ)) hm) (rh (fwa (ini τ)) (it m)) (rx (it m)) (cnt m 12) (List.range (cnt m 12)) hm).1
  · rw [show tk (0, []) (bst (re (fwa (ini τ)) hm) (rh (fwa (ini τ)) (it m)) (rx (it m)) (cnt m 12) (List.range (cnt m 12)) hm) = bst (re (fwa (ini τ)) hm) (rh (fwa (ini τ)) (it m)) (rx (it m)) (cnt m 12) (List.range (cnt m 12)) hm from if_pos z] at r1 r2
    exact ⟨τ4, r1, r2⟩
  · rw [show tk (0, []) (bst (re (fwa (ini τ)) hm) (rh (fwa (ini τ)) (it m)) (rx (it m)) (cnt m 12) (List.range (cnt m 12)) hm) = (0, []) from if_neg z] at r1 r2
    refine ⟨τ4, ?_, fun h => absurd h z⟩
    rw [show (bst (re (fwa (ini τ)) hm) (rh (fwa (ini τ)) (it m)) (rx (it m)) (cnt m 12) (List.range (cnt m 12)) hm).1 = 0 by omega]
    exact r1
