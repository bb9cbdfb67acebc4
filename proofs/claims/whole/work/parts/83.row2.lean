/-! the reference's rows -/
def Ro (τ : Mem) (n : Nat) (r : List Nat) : Prop := r.length = n ∧ ∀ i, i < n → gi τ 27 i = nI (r.getD i 0) ∧ r.getD i 0 < n
def K27 (τ τ' : Mem) : Prop := ∀ c i, ¬ c = 27 → gi τ' c i = gi τ c i
theorem getD_set (r : List Nat) (i k v : Nat) (hi : i < r.length) : (r.set i v).getD k 0 = if k = i then v else r.getD k 0 := by
  rw [List.getD_eq_getElem?_getD, List.getElem?_set, List.getD_eq_getElem?_getD]
  by_cases z : i = k
  · rw [if_pos z, if_pos hi, if_pos z.symm]
    rfl
  · rw [if_neg z, if_neg (fun y => z y.symm)]
theorem lp_n4 (N : Nat) {n : Nat} {r : List Nat} {τ : Mem} (x1 : Int32) (hn : n ≤ 7) (hr : Ro τ n r) (K : Int32 → Mem → Option (Int32 × Mem)) : ∀ (k M : Nat), k + 1 ≤ n → k < M → itr (fun _ _ => none) (st_X10_nextRow_4 N x1 K) M (nI k - 1) τ = match fnd1 r k with | none => K (-1) τ | some i => K (nI i) τ
  | k, 0, _, h2 => absurd h2 (by omega)
  | 0, M + 1, _, _ => by
    show st_X10_nextRow_4 N x1 K _ (nI 0 - 1) τ = K (-1) τ
    unfold st_X10_nextRow_4
    rw [if_pos (by decide)]
    rfl
  | k + 1, M + 1, h1, h2 => by
    have hs : nI (k + 1) - 1 = nI k := by rw [li_1, pk_sub (by omega)]; rfl
    obtain ⟨a1, a2⟩ := hr.2 k (by omega)
    obtain ⟨b1, b2⟩ := hr.2 (k + 1) (by omega)
    have e : ∀ rec, st_X10_nextRow_4 N x1 K rec (nI (k + 1) - 1) τ = if r.getD k 0 ≤ r.getD (k + 1) 0 then K (nI k) τ else rec (nI k - 1) τ := by
      intro rec
      unfold st_X10_nextRow_4
      simp only [lt_p]
      rw [hs, if_neg (nI_pos (by omega)), chk_n (by omega) (by decide), nI_1, chk_n (by omega) (by decide), ix_n (by omega), ix_n (by omega), a1, b1]
      by_cases z : r.getD k 0 ≤ r.getD (k + 1) 0
      · rw [if_pos z, if_pos (nI_le z (by omega))]
      · rw [if_neg z, if_neg (nI_ge (by omega) (by omega))]
    have e' : itr (fun _ _ => none) (st_X10_nextRow_4 N x1 K) (M + 1) (nI (k + 1) - 1) τ = _ := e (itr (fun _ _ => none) (st_X10_nextRow_4 N x1 K) M)
    rw [e']
    show _ = match (if r.getD k 0 ≤ r.getD (k + 1) 0 then some k else fnd1 r k) with | none => K (-1) τ | some i => K (nI i) τ
    by_cases z : r.getD k 0 ≤ r.getD (k + 1) 0
    · rw [if_pos z, if_pos z]
    · rw [if_neg z, if_neg z]
      exact lp_n4 N x1 hn hr K k M (by omega) (by omega)
theorem lp_n42 (N : Nat) {n i : Nat} {r : List Nat} {τ : Mem} (x1 : Int32) (hn : n ≤ 7) (hr : Ro τ n r) (hi : i < n) (K : Int32 → Mem → Option (Int32 × Mem)) : ∀ (k M : Nat), i ≤ k → k < n → k < M → itr (fun _ _ => none) (st_X10_nextRow_42 N x1 (nI i) K) M (nI k) τ = K (nI (fnd2 r (r.getD i 0) k)) τ
  | k, 0, _, _, h2 => absurd h2 (by omega)
  | k, M + 1, h1, hk, h2 => by
    obtain ⟨a1, a2⟩ := hr.2 k hk
    obtain ⟨b1, b2⟩ := hr.2 i hi
    have e : ∀ rec, st_X10_nextRow_42 N x1 (nI i) K rec (nI k) τ = if r.getD i 0 ≤ r.getD k 0 then K (nI k) τ else rec (nI k - 1) τ := by
      intro rec
      unfold st_X10_nextRow_42
      simp only [lt_p]
      rw [chk_n (by omega) (by decide), chk_n (by omega) (by decide), ix_n (by omega), ix_n (by omega), a1, b1]
      by_cases z : r.getD i 0 ≤ r.getD k 0
      · rw [if_pos z, if_pos (nI_le z (by omega))]
      · rw [if_neg z, if_neg (nI_ge (by omega) (by omega))]
    have e' : itr (fun _ _ => none) (st_X10_nextRow_42 N x1 (nI i) K) (M + 1) (nI k) τ = _ := e (itr (fun _ _ => none) (st_X10_nextRow_42 N x1 (nI i) K) M)
    rw [e']
    match k, h1, hk, h2 with
    | 0, h1, hk, h2 =>
      rw [show i = 0 by omega, if_pos (Nat.le_refl _)]
      rfl
    | k + 1, h1, hk, h2 =>
      show _ = K (nI (if r.getD i 0 ≤ r.getD (k + 1) 0 then k + 1 else fnd2 r (r.getD i 0) k)) τ
      by_cases z : r.getD i 0 ≤ r.getD (k + 1) 0
      · rw [if_pos z, if_pos z]
      · rw [if_neg z, if_neg z, show nI (k + 1) - 1 = nI k by rw [li_1, pk_sub (by omega)]; rfl]
        have hne : ¬ i = k + 1 := fun y => z (by rw [y]; exact Nat.le_refl _)
        exact lp_n42 N x1 hn hr hi K k M (by omega) (by omega) (by omega)
theorem e_chg (N : Nat) {n i j : Nat} {r : List Nat} {τ : Mem} (hn : n ≤ 7) (hr : Ro τ n r) (hi : i < n) (hj : j < n) : ∃ τ', f_X10_changes N (nI i) (nI j) τ = some ((), τ') ∧ Ro τ' n (swp r i j) ∧ K27 τ τ' := by
  obtain ⟨a1, a2⟩ := hr.2 i hi
  obtain ⟨b1, b2⟩ := hr.2 j hj
  refine ⟨si (si τ 27 i (nI (r.getD j 0))) 27 j (nI (r.getD i 0)), ?_, ⟨?_, fun k hk => ?_⟩, fun c k z => by rw [gi_ne z, gi_ne z]⟩
  · unfold f_X10_changes
    simp only [lt_p]
    rw [chk_n (by omega) (by decide), chk_n (by omega) (by decide), chk_n (by omega) (by decide), chk_n (by omega) (by decide), ix_n (by omega), ix_n (by omega), a1, b1]
  · unfold swp
    rw [List.length_set, List.length_set]
    exact hr.1
  · unfold swp
    rw [getD_set _ _ _ _ (by rw [List.length_set, hr.1]; exact hj), getD_set _ _ _ _ (by rw [hr.1]; exact hi), gi_si, gi_si]
    by_cases z : k = j
    · rw [if_pos ⟨rfl, z⟩, if_pos z]
      exact ⟨rfl, a2⟩
    · rw [if_neg (fun y => z y.2), if_neg z]
      by_cases y : k = i
      · rw [if_pos ⟨rfl, y⟩, if_pos y]
        exact ⟨rfl, b2⟩
      · rw [if_neg (fun x => y x.2), if_neg y]
        exact hr.2 k hk
theorem lp_n80 (N : Nat) {n : Nat} (hn : n ≤ 7) : ∀ (f i j M : Nat) (r : List Nat) (τ : Mem), j ≤ i + f → f < M → j < n → i ≤ n → Ro τ n r → ∃ τ', itr (fun _ _ _ => none) (st_X10_nextRow_80 N) M (nI i) (nI j) τ = some (1, τ') ∧ Ro τ' n (rvs f i j r) ∧ K27 τ τ'
  | f, i, j, 0, r, τ, _, h2, _, _, _ => absurd h2 (by omega)
  | 0, i, j, M + 1, r, τ, h1, _, h3, h4, hr => by
    refine ⟨τ, ?_, hr, fun _ _ _ => rfl⟩
    show st_X10_nextRow_80 N _ (nI i) (nI j) τ = _
    unfold st_X10_nextRow_80
    rw [if_pos (nI_le (by omega) (by omega))]
  | f + 1, i, j, M + 1, r, τ, h1, h2, h3, h4, hr => by
    by_cases z : j ≤ i
    · refine ⟨τ, ?_, ?_, fun _ _ _ => rfl⟩
      · show st_X10_nextRow_80 N _ (nI i) (nI j) τ = _
        unfold st_X10_nextRow_80
        rw [if_pos (nI_le (by omega) (by omega))]
      · show Ro τ n (if j ≤ i then r else _)
        rw [if_pos z]
        exact hr
    · obtain ⟨τ1, a1, a2, a3⟩ := e_chg N hn hr (show i < n by omega) h3
      have hs : nI j + (-1) = nI (j - 1) := by
        obtain ⟨j', rfl⟩ : ∃ j', j = j' + 1 := ⟨j - 1, by omega⟩
        rw [← nI_1, Int32.add_assoc, show (1 : Int32) + (-1) = 0 by decide, Int32.add_zero]
        rfl
      have e : ∀ rec, st_X10_nextRow_80 N rec (nI i) (nI j) τ = rec (nI (i + 1)) (nI (j - 1)) τ1 := by
        intro rec
        unfold st_X10_nextRow_80
        simp only [lt_p]
        rw [if_neg (nI_ge (by omega) (by omega)), a1, bd_some, nI_1, hs]
      have e' : itr (fun _ _ _ => none) (st_X10_nextRow_80 N) (M + 1) (nI i) (nI j) τ = _ := e (itr (fun _ _ _ => none) (st_X10_nextRow_80 N) M)
      obtain ⟨τ', r1, r2, r3⟩ := lp_n80 N hn f (i + 1) (j - 1) M (swp r i j) τ1 (by omega) (by omega) (by omega) (by omega) a2
      refine ⟨τ', e'.trans r1, ?_, fun c k y => (r3 c k y).trans (a3 c k y)⟩
      show Ro τ' n (if j ≤ i then r else rvs f (i + 1) (j - 1) (swp r i j))
      rw [if_neg z]
      exact r2
theorem fnd1_lt {r : List Nat} : ∀ {k i : Nat}, fnd1 r k = some i → i < k
  | 0, i, h => by cases h
  | k + 1, i, h => by
    have h' : (if r.getD k 0 ≤ r.getD (k + 1) 0 then some k else fnd1 r k) = some i := h
    by_cases z : r.getD k 0 ≤ r.getD (k + 1) 0
    · rw [if_pos z] at h'
      have := Option.some.inj h'
      omega
    · rw [if_neg z] at h'
      have := fnd1_lt h'
      omega
theorem fnd2_le {r : List Nat} {v : Nat} : ∀ k, fnd2 r v k ≤ k
  | 0 => Nat.le_refl _
  | k + 1 => by
    show (if v ≤ r.getD (k + 1) 0 then k + 1 else fnd2 r v k) ≤ k + 1
    have := fnd2_le (r := r) (v := v) k
    by_cases z : v ≤ r.getD (k + 1) 0
    · rw [if_pos z]
      exact Nat.le_refl _
    · rw [if_neg z]
      omega
theorem s_nextRow (N : Nat) (hN : 300 ≤ N) {n : Nat} {r : List Nat} {τ : Mem} (h1 : 1 ≤ n) (hn : n ≤ 7) (hr : Ro τ n r) : (nxr n r = none → f_X10_nextRow N (nI n) τ = some (0, τ)) ∧ ∀ r', nxr n r = some r' → ∃ τ', f_X10_nextRow N (nI n) τ = some (1, τ') ∧ Ro τ' n r' ∧ K27 τ τ' := by
  have hs2 : nI n - 2 = nI (n - 1) - 1 := by
    obtain ⟨m, rfl⟩ : ∃ m, n = m + 1 := ⟨n - 1, by omega⟩
    rw [show m + 1 - 1 = m by omega, ← nI_1, Int32.sub_eq_add_neg, Int32.add_assoc, Int32.sub_eq_add_neg]
    rfl
  have hs1 : nI n - 1 = nI (n - 1) := by rw [li_1, pk_sub h1]
  unfold f_X10_nextRow nxr
  simp only [lt_p]
  rw [hs2, lp_n4 N (nI n) hn hr _ (n - 1) N (by omega) (by omega)]
  cases hf : fnd1 r (n - 1) with
  | none =>
    refine ⟨fun _ => ?_, fun r' h => by cases h⟩
    show (if (0 : Int32) ≤ -1 then _ else some (0, τ)) = some (0, τ)
    rw [if_neg (by decide)]
  | some i =>
    have hi := fnd1_lt hf
    refine ⟨(fun h => by cases h), fun r' h => ?_⟩
    rw [← Option.some.inj h]
    have hj := fnd2_le (r := r) (v := r.getD i 0) (n - 1)
    obtain ⟨τ1, a1, a2, a3⟩ := e_chg N hn hr (show i < n by omega) (show fnd2 r (r.getD i 0) (n - 1) < n by omega)
    obtain ⟨τ2, b1, b2, b3⟩ := lp_n80 N hn n (i + 1) (n - 1) N _ τ1 (by omega) (by omega) (by omega) (by omega) a2
    refine ⟨τ2, ?_, b2, fun c k y => (b3 c k y).trans (a3 c k y)⟩
    show (if (0 : Int32) ≤ nI i then _ else _) = _
    rw [if_pos (show (0 : Int32) ≤ nI i from Int32.not_lt.mp (nI_pos (by omega))), hs1, lp_n42 N (nI n) hn hr (show i < n by omega) _ (n - 1) N (by omega) (by omega) (by omega), a1, bd_some, nI_1]
    exact b1
