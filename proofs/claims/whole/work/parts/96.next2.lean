/-! round: the next stop is the head of the row -/
theorem e_nxt (N : Nat) (hN : 300 ≤ N) {τ σ : Mem} {n hm x mu : Nat} {its : Nat → Nat} (hn : n ≤ 7) (hh : hm < 12) (hx : x ≤ n) (hmu : mu < 128) (hmn : mu < 2 ^ n) (hm0 : 0 < mu) (h0 : 0 < (Bm (fwa (ini τ)) n hm its mu (pl n hm its x)).1) (hC : Cr τ n hm its σ) (hT : Tb (fwa (ini τ)) n hm its (mu + 1) σ) : ∃ i σ', i < n ∧ bt (nI mu) i = true ∧ f_X3_nextStop N (nI mu) (nI x) σ = some (nI i, σ') ∧ (Bm (fwa (ini τ)) n hm its mu (pl n hm its x)).2 = i :: (Bm (fwa (ini τ)) n hm its (mu - 2 ^ i) (its i)).2 ∧ 0 < (Bm (fwa (ini τ)) n hm its (mu - 2 ^ i) (its i)).1 ∧ Cr τ n hm its σ' ∧ K3 σ σ' := by
  have hW : ∀ p q d, p < 12 → q < 12 → fwa (ini τ) p q = some d → d ≤ 1287 := fun p q d hp hq hd => short hC.1 hp hq hd
  have hl := lsf_pos n (by omega) mu hmu hmn hm0
  have hl2 := lsf_len (nI mu) n 0
  obtain ⟨k, hk⟩ : ∃ k, (lsf (nI mu) n 0).length = k + 1 := ⟨(lsf (nI mu) n 0).length - 1, by omega⟩
  have hB : Bm (fwa (ini τ)) n hm its mu (pl n hm its x) = (lsf (nI mu) n 0).foldl (fun a i => tk a (Cd (fwa (ini τ)) n hm its mu k (pl n hm its x) i)) (0, []) := by
    unfold Bm
    rw [hk]
    rfl
  have hV : Vd (k + 1) (Bm (fwa (ini τ)) n hm its mu (pl n hm its x)).1 := by
    unfold Bm
    rw [hk]
    exact bst_vd hh hW (k + 1) _ _ (hC.at hh hx).2 (fun j hj => (hC.2.2.2.1 j (by have := lsf_ge hj; omega)).2)
  obtain ⟨σ', r1, r2, r3⟩ := lp_nxt N hN hn hh hx hmu hk (by omega) hV h0 n 0 N σ (by omega) (by omega) hC hT
  obtain ⟨i, i1, i2, i3⟩ := fold_fst (fun i => Cd (fwa (ini τ)) n hm its mu k (pl n hm its x) i) (lsf (nI mu) n 0) (0, []) (by rw [← hB]; exact h0)
  obtain ⟨-, g2, g3⟩ := lsf_ge i1
  have hi : i < n := by omega
  have hlen : ((lsf (nI mu) n 0).erase i).length = k := by
    rw [List.length_erase_of_mem i1, hk]
    rfl
  have hBm : Bm (fwa (ini τ)) n hm its (mu - 2 ^ i) (its i) = bst (re (fwa (ini τ)) hm) (rh (fwa (ini τ)) its) (rx its) k ((lsf (nI mu) n 0).erase i) (its i) := by
    unfold Bm
    rw [msk_lst hmu hn hi g3, hlen]
  have hE : Bm (fwa (ini τ)) n hm its mu (pl n hm its x) = Cd (fwa (ini τ)) n hm its mu k (pl n hm its x) i := hB.trans i3
  refine ⟨i, σ', hi, g3, ?_, ?_, ?_, r2, r3⟩
  · unfold f_X3_nextStop
    rw [li_8, pk_mul, nI_add, chk_n (by omega) (by decide), lt_p, ix_n (by omega), hT mu x (by omega) hx]
    refine r1.trans ?_
    rw [← hB] at i2
    rw [i2]
    rfl
  · rw [hE, hBm]
    rfl
  · rw [hBm]
    rw [hE] at h0
    have h0' : 0 < (bst (re (fwa (ini τ)) hm) (rh (fwa (ini τ)) its) (rx its) k ((lsf (nI mu) n 0).erase i) (its i)).1 - dd (fwa (ini τ) (pl n hm its x) (its i)) := h0
    omega
