/-! round: the next stop -/
def nO : Option Nat → Int32
  | some j => nI j
  | none => -1
theorem cc_iff {k V V' : Nat} {o : Option Nat} (hk : k + 1 ≤ 7) (hV : Vd (k + 1) V) (h0 : 0 < V) (h : Vd k V') (ho : ∀ d, o = some d → d ≤ 1287) : dc o + cc V' = cc V ↔ V' - dd o = V := by
  have h1 := (cc_lt (show k + 1 ≤ 7 from hk) hV).mpr h0
  have h2 : 100000000 - 1287 * (k + 1 + 1) ≤ V ∧ V ≤ 100000000 := hV.resolve_left (by omega)
  have e1 : cc V = 100000000 - V := if_neg (by omega)
  rw [e1] at h1 ⊢
  cases o with
  | none =>
    show 1000000 + cc V' = _ ↔ V' - 100000000 = V
    rcases h with h | h
    · constructor <;> intro q <;> omega
    · constructor <;> intro q <;> omega
  | some d =>
    have hd := ho d rfl
    show d + cc V' = _ ↔ V' - d = V
    unfold cc
    by_cases z : V' = 0
    · rw [if_pos z]
      constructor <;> intro q <;> omega
    · have h3 : 100000000 - 1287 * (k + 1) ≤ V' ∧ V' ≤ 100000000 := h.resolve_left z
      rw [if_neg z]
      constructor <;> intro q <;> omega
theorem lp_nxt (N : Nat) (hN : 300 ≤ N) {τ : Mem} {n hm x mu k V : Nat} {its : Nat → Nat} (hn : n ≤ 7) (hh : hm < 12) (hx : x ≤ n) (hmu : mu < 128) (hk : (lsf (nI mu) n 0).length = k + 1) (hk7 : k + 1 ≤ 7) (hV : Vd (k + 1) V) (h0 : 0 < V) : ∀ (u i M : Nat) (σ : Mem), i + u = n → u < M → Cr τ n hm its σ → Tb (fwa (ini τ)) n hm its (mu + 1) σ → ∃ σ', itr (fun _ _ => none) (st_X3_nextStop_15 N (nI mu) (nI x) (nI (cc V))) M (nI i) σ = some (nO (fst1 (fun j => (Cd (fwa (ini τ)) n hm its mu k (pl n hm its x) j).1) V (lsf (nI mu) u i)), σ') ∧ Cr τ n hm its σ' ∧ K3 σ σ'
  | u, i, 0, σ, _, h2, _, _ => absurd h2 (by omega)
  | 0, i, M + 1, σ, h1, _, hC, hT => by
    refine ⟨σ, ?_, hC, K3.rf _⟩
    show st_X3_nextStop_15 N (nI mu) (nI x) (nI (cc V)) _ (nI i) σ = _
    unfold st_X3_nextStop_15
    rw [hC.2.2.1, if_pos (nI_le (by omega) (by omega))]
    rfl
  | u + 1, i, M + 1, σ, h1, h2, hC, hT => by
    have hi : i < n := by omega
    have hW : ∀ p q d, p < 12 → q < 12 → fwa (ini τ) p q = some d → d ≤ 1287 := fun p q d hp hq hd => short hC.1 hp hq hd
    have hpx := (hC.at hh hx).2
    have hii := (hC.2.2.2.1 i hi).2
    have hT0 : Tb (fwa (ini τ)) n hm its mu σ := fun mu' y h h' => hT mu' y (by omega) h'
    show ∃ σ', _ = some (nO (fst1 (fun j => (Cd (fwa (ini τ)) n hm its mu k (pl n hm its x) j).1) V (if bt (nI mu) i = true then i :: lsf (nI mu) u (i + 1) else lsf (nI mu) u (i + 1))), σ') ∧ _ ∧ _
    by_cases z : bt (nI mu) i = true
    · rw [if_pos z]
      obtain ⟨σ1, a1, a2, a3⟩ := e_ahead N hN hn hh hC hx hi hmu z hT0
      have hlen : ((lsf (nI mu) n 0).erase i).length = k := by
        rw [List.length_erase_of_mem (lsf_mem z n 0 (by omega) (by omega)), hk]
        rfl
      rw [hlen] at a1
      have hV' : Vd k (bst (re (fwa (ini τ)) hm) (rh (fwa (ini τ)) its) (rx its) k ((lsf (nI mu) n 0).erase i) (its i)).1 := bst_vd hh hW k _ _ hii (fun j hj => (hC.2.2.2.1 j (by have := lsf_ge (List.mem_of_mem_erase hj); omega)).2)
      have ho : ∀ d, fwa (ini τ) (pl n hm its x) (its i) = some d → d ≤ 1287 := fun d hd => hW _ _ d hpx hii hd
      have hiff := cc_iff hk7 hV h0 hV' ho
      have c1 := cc_le hk7 hV
      have c2 := cc_le (show k ≤ 7 by omega) hV'
      have c3 := dc_le ho
      have e : ∀ rec, st_X3_nextStop_15 N (nI mu) (nI x) (nI (cc V)) rec (nI i) σ = if (Cd (fwa (ini τ)) n hm its mu k (pl n hm its x) i).1 = V then some (nI i, σ1) else rec (nI (i + 1)) σ1 := by
        intro rec
        unfold st_X3_nextStop_15
        simp only [lt_p]
        rw [hC.2.2.1, if_neg (nI_ge (by omega) (by omega)), e_hasBit, bd_some, ite10, if_pos ((hb_iff _ (by omega)).mpr z), a1, bd_some, nI_1]
        by_cases y : (Cd (fwa (ini τ)) n hm its mu k (pl n hm its x) i).1 = V
        · rw [if_pos y, if_pos (by rw [hiff.mpr y])]
        · rw [if_neg y, if_neg (nI_nq (fun w => y (hiff.mp w)) (by omega) (by omega))]
      have e' : itr (fun _ _ => none) (st_X3_nextStop_15 N (nI mu) (nI x) (nI (cc V))) (M + 1) (nI i) σ = _ := e (itr (fun _ _ => none) (st_X3_nextStop_15 N (nI mu) (nI x) (nI (cc V))) M)
      show ∃ σ', _ = some (nO (if (Cd (fwa (ini τ)) n hm its mu k (pl n hm its x) i).1 = V then some i else fst1 (fun j => (Cd (fwa (ini τ)) n hm its mu k (pl n hm its x) j).1) V (lsf (nI mu) u (i + 1))), σ') ∧ _ ∧ _
      by_cases y : (Cd (fwa (ini τ)) n hm its mu k (pl n hm its x) i).1 = V
      · rw [if_pos y] at e' ⊢
        exact ⟨σ1, e', a2, a3⟩
      · rw [if_neg y] at e' ⊢
        obtain ⟨σ', r1, r2, r3⟩ := lp_nxt N hN hn hh hx hmu hk hk7 hV h0 u (i + 1) M σ1 (by omega) (by omega) a2 (hT.k a3)
        exact ⟨σ', e'.trans r1, r2, a3.tr r3⟩
    · rw [if_neg z]
      have e : ∀ rec, st_X3_nextStop_15 N (nI mu) (nI x) (nI (cc V)) rec (nI i) σ = rec (nI (i + 1)) σ := by
        intro rec
        unfold st_X3_nextStop_15
        simp only [lt_p]
        rw [hC.2.2.1, if_neg (nI_ge (by omega) (by omega)), e_hasBit, bd_some, ite10, if_neg (fun y => z ((hb_iff _ (by omega)).mp y)), nI_1]
      have e' : itr (fun _ _ => none) (st_X3_nextStop_15 N (nI mu) (nI x) (nI (cc V))) (M + 1) (nI i) σ = _ := e (itr (fun _ _ => none) (st_X3_nextStop_15 N (nI mu) (nI x) (nI (cc V))) M)
      obtain ⟨σ', r1, r2, r3⟩ := lp_nxt N hN hn hh hx hmu hk hk7 hV h0 u (i + 1) M σ (by omega) (by omega) hC hT
      exact ⟨σ', e'.trans r1, r2, r3⟩
