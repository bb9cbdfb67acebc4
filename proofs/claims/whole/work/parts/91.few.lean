/-! round: the fewest miles ahead -/
theorem lsf_mem {m : Int32} {x : Nat} (hx : bt m x = true) : ∀ (u i : Nat), i ≤ x → x < i + u → x ∈ lsf m u i
  | 0, i, h1, h2 => by omega
  | u + 1, i, h1, h2 => by
    show x ∈ (if bt m i = true then i :: lsf m u (i + 1) else lsf m u (i + 1))
    by_cases z : i = x
    · rw [z, if_pos hx]
      exact List.mem_cons_self ..
    · have := lsf_mem hx u (i + 1) (by omega) (by omega)
      by_cases y : bt m i = true
      · rw [if_pos y]
        exact List.mem_cons_of_mem _ this
      · rw [if_neg y]
        exact this
theorem lsf_z : ∀ (u i : Nat), lsf (nI 0) u i = []
  | 0, i => rfl
  | u + 1, i => by
    show (if bt (nI 0) i = true then i :: lsf (nI 0) u (i + 1) else lsf (nI 0) u (i + 1)) = []
    rw [if_neg (by rw [show nI 0 = 0 from rfl, bt_0]; decide)]
    exact lsf_z u (i + 1)
theorem lsf_pos : ∀ n, n < 8 → ∀ mu, mu < 128 → mu < 2 ^ n → 0 < mu → 0 < (lsf (nI mu) n 0).length := by decide +kernel
def Cd (W : Wm) (n hm : Nat) (its : Nat → Nat) (mu k st : Nat) (i : Nat) : Nat × List Nat := (rh W its st i (bst (re W hm) (rh W its) (rx its) k ((lsf (nI mu) n 0).erase i) (rx its st i)).1, i :: (bst (re W hm) (rh W its) (rx its) k ((lsf (nI mu) n 0).erase i) (rx its st i)).2)
theorem dc_le {o : Option Nat} (h : ∀ d, o = some d → d ≤ 1287) : dc o ≤ 1000000 := by
  cases o with
  | none => exact Nat.le_refl _
  | some d =>
    have := h d rfl
    show d ≤ 1000000
    omega
theorem Tb.k {W : Wm} {n hm mu : Nat} {its : Nat → Nat} {σ σ' : Mem} (h : Tb W n hm its mu σ) (hk : K3 σ σ') : Tb W n hm its mu σ' := fun mu' x h1 h2 => by
  rw [hk _ _ (by decide) (by omega)]
  exact h mu' x h1 h2
theorem lp_few (N : Nat) (hN : 300 ≤ N) {τ : Mem} {n hm x mu k : Nat} {its : Nat → Nat} (hn : n ≤ 7) (hh : hm < 12) (hx : x ≤ n) (hmu : mu < 128) (hk : (lsf (nI mu) n 0).length = k + 1) (hk7 : k + 1 ≤ 7) : ∀ (u i M : Nat) (A : Nat × List Nat) (σ : Mem), i + u = n → u < M → Vd (k + 1) A.1 → Cr τ n hm its σ → Tb (fwa (ini τ)) n hm its mu σ → ∃ σ', itr (fun _ _ _ => none) (st_X3_fewestAhead_30 N (nI mu) (nI x)) M (nI (cc A.1)) (nI i) σ = some (nI (cc ((lsf (nI mu) u i).foldl (fun a i => tk a (Cd (fwa (ini τ)) n hm its mu k (pl n hm its x) i)) A).1), σ') ∧ Cr τ n hm its σ' ∧ K3 σ σ'
  | u, i, 0, A, σ, _, h2, _, _, _ => absurd h2 (by omega)
  | 0, i, M + 1, A, σ, h1, _, hA, hC, hT => by
    refine ⟨σ, ?_, hC, K3.rf _⟩
    show st_X3_fewestAhead_30 N (nI mu) (nI x) _ (nI (cc A.1)) (nI i) σ = _
    unfold st_X3_fewestAhead_30
    rw [hC.2.2.1, if_pos (nI_le (by omega) (by omega))]
    rfl
  | u + 1, i, M + 1, A, σ, h1, h2, hA, hC, hT => by
    have hi : i < n := by omega
    have hW : ∀ p q d, p < 12 → q < 12 → fwa (ini τ) p q = some d → d ≤ 1287 := fun p q d hp hq hd => short hC.1 hp hq hd
    have hpx := (hC.at hh hx).2
    have hii := (hC.2.2.2.1 i hi).2
    show ∃ σ', _ = some (nI (cc ((if bt (nI mu) i = true then i :: lsf (nI mu) u (i + 1) else lsf (nI mu) u (i + 1)).foldl (fun a i => tk a (Cd (fwa (ini τ)) n hm its mu k (pl n hm its x) i)) A).1), σ') ∧ _ ∧ _
    by_cases z : bt (nI mu) i = true
    · rw [if_pos z, List.foldl_cons]
      obtain ⟨σ1, a1, a2, a3⟩ := e_ahead N hN hn hh hC hx hi hmu z hT
      have hlen : ((lsf (nI mu) n 0).erase i).length = k := by
        rw [List.length_erase_of_mem (lsf_mem z n 0 (by omega) (by omega)), hk]
        rfl
      rw [hlen] at a1
      have hV : Vd k (bst (re (fwa (ini τ)) hm) (rh (fwa (ini τ)) its) (rx its) k ((lsf (nI mu) n 0).erase i) (its i)).1 := bst_vd hh hW k _ _ hii (fun j hj => (hC.2.2.2.1 j (by have := lsf_ge (List.mem_of_mem_erase hj); omega)).2)
      have ho : ∀ d, fwa (ini τ) (pl n hm its x) (its i) = some d → d ≤ 1287 := fun d hd => hW _ _ d hpx hii hd
      have hcs := cc_step hk7 hA hV ho
      have c1 := cc_le hk7 hA
      have c2 := cc_le (show k ≤ 7 by omega) hV
      have c3 := dc_le ho
      have e : ∀ rec, st_X3_fewestAhead_30 N (nI mu) (nI x) rec (nI (cc A.1)) (nI i) σ = rec (nI (cc (tk A (Cd (fwa (ini τ)) n hm its mu k (pl n hm its x) i)).1)) (nI (i + 1)) σ1 := by
        intro rec
        unfold st_X3_fewestAhead_30
        simp only [lt_p]
        rw [hC.2.2.1, if_neg (nI_ge (by omega) (by omega)), e_hasBit, bd_some, ite10, if_pos ((hb_iff _ (by omega)).mpr z), a1, bd_some, e_iminN _ _ (by omega) (by omega), hcs, nI_1, tk_max]
        rfl
      have e' : itr (fun _ _ _ => none) (st_X3_fewestAhead_30 N (nI mu) (nI x)) (M + 1) (nI (cc A.1)) (nI i) σ = _ := e (itr (fun _ _ _ => none) (st_X3_fewestAhead_30 N (nI mu) (nI x)) M)
      obtain ⟨σ', r1, r2, r3⟩ := lp_few N hN hn hh hx hmu hk hk7 u (i + 1) M (tk A (Cd (fwa (ini τ)) n hm its mu k (pl n hm its x) i)) σ1 (by omega) (by omega) (vd_tk hA (hV.cand ho)) a2 (hT.k a3)
      exact ⟨σ', e'.trans r1, r2, a3.tr r3⟩
    · rw [if_neg z]
      have e : ∀ rec, st_X3_fewestAhead_30 N (nI mu) (nI x) rec (nI (cc A.1)) (nI i) σ = rec (nI (cc A.1)) (nI (i + 1)) σ := by
        intro rec
        unfold st_X3_fewestAhead_30
        simp only [lt_p]
        rw [hC.2.2.1, if_neg (nI_ge (by omega) (by omega)), e_hasBit, bd_some, ite10, if_neg (fun y => z ((hb_iff _ (by omega)).mp y)), nI_1]
      have e' : itr (fun _ _ _ => none) (st_X3_fewestAhead_30 N (nI mu) (nI x)) (M + 1) (nI (cc A.1)) (nI i) σ = _ := e (itr (fun _ _ _ => none) (st_X3_fewestAhead_30 N (nI mu) (nI x)) M)
      obtain ⟨σ', r1, r2, r3⟩ := lp_few N hN hn hh hx hmu hk hk7 u (i + 1) M A σ (by omega) (by omega) hA hC hT
      exact ⟨σ', e'.trans r1, r2, r3⟩
