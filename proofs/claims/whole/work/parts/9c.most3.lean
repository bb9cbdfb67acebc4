/-! readsMost: the class's table -/
def Gtb (G : Nat → Nat → Nat) (n : Nat) (m : Int32) (σ : Mem) : Prop := ∀ j i, j < n → i < 6 → bt m i = true → gi σ (104 + j) i = nI (G j i)
def Tm (G : Nat → Nat → Nat) (n : Nat) (m : Int32) (mu0 : Nat) (σ : Mem) : Prop := ∀ mu, mu < mu0 → sb m mu → gi σ 109 mu = nI ((Bl G n mu).1 - 1)
theorem e_gf (N : Nat) {G : Nat → Nat → Nat} (hG : ∀ j k, G j k ≤ 999) {n mu i k : Nat} {m : Int32} {σ : Mem} (hn : n ≤ 5) (hmu : mu < 64) (hs : sb m mu) (hi : i < 6) (hb' : bt (nI mu) i = true) (hk : (lsf (nI mu) 6 0).length = k + 1) (hkn : k + 1 ≤ n) (hg : Gtb G n m σ) (hT : Tm G n m mu σ) : f_X2_giftsFrom N (nI mu) (nI (n - (k + 1))) (nI i) σ = some (nI ((Cq G id (lsf (nI mu) 6 0) k (n - (k + 1)) i).1 - 1), σ) ∧ 1 ≤ (Cq G id (lsf (nI mu) 6 0) k (n - (k + 1)) i).1 ∧ (Cq G id (lsf (nI mu) 6 0) k (n - (k + 1)) i).1 ≤ 8000 := by
  obtain ⟨e1, e2⟩ := msk_tab mu (by omega) i (by omega) hb'
  have h2 : 1 ≤ 2 ^ i := Nat.one_le_two_pow
  have ht := hT (mu - 2 ^ i) (by omega) (sb_less hmu hi hb' hs)
  have hB := Bl_less (G := G) hmu hi hb' hk hkn
  obtain ⟨b1, b2⟩ := Bl_1 hG n (mu - 2 ^ i)
  rw [hB] at ht b1 b2
  have hgi := hG (n - (k + 1)) i
  have hc : (Cq G id (lsf (nI mu) 6 0) k (n - (k + 1)) i).1 = (bst me (mh G id) mx k ((lsf (nI mu) 6 0).erase i) (n - (k + 1) + 1)).1 + G (n - (k + 1)) i := mh_1 b1
  have hw : inR (nI (n - (k + 1))) 0 4 := inR_of (a := 0) (b := 4) (by omega) (by omega) (by decide)
  refine ⟨?_, by omega, by omega⟩
  unfold f_X2_giftsFrom
  rw [e_within, bd_some, ite10, if_pos hw, chk_n (by omega) (by decide), chk_n hi (by decide), e1, chk_n (by omega) (by decide), ix_n (by omega), ix_n (by omega), ix_n (by omega), ht, show 103 + 1 + (n - (k + 1)) = 104 + (n - (k + 1)) by omega, hg _ i (by omega) hi (hs i hi hb'), nI_add, hc]
  congr 3
  omega
theorem lp_mst (N : Nat) {G : Nat → Nat → Nat} (hG : ∀ j k, G j k ≤ 999) {n mu k : Nat} {m : Int32} {σ : Mem} (hn : n ≤ 5) (hmu : mu < 64) (hs : sb m mu) (hk : (lsf (nI mu) 6 0).length = k + 1) (hkn : k + 1 ≤ n) (hg : Gtb G n m σ) (hT : Tm G n m mu σ) : ∀ (u i M : Nat) (A : Nat × List Nat), i + u = 6 → u < M → A.1 ≤ 8000 → itr (fun _ _ _ => none) (st_X2_mostOf_5 N (nI mu) (nI (n - (k + 1)))) M (nI (A.1 - 1)) (nI i) σ = some (nI (((lsf (nI mu) u i).foldl (fun a i => tk a (Cq G id (lsf (nI mu) 6 0) k (n - (k + 1)) i)) A).1 - 1), σ)
  | u, i, 0, A, _, h2, _ => absurd h2 (by omega)
  | 0, i, M + 1, A, h1, _, _ => by
    show st_X2_mostOf_5 N (nI mu) (nI (n - (k + 1))) _ (nI (A.1 - 1)) (nI i) σ = _
    unfold st_X2_mostOf_5
    rw [if_pos (show (6 : Int32) ≤ nI i from nI_le (a := 6) (by omega) (by omega))]
    rfl
  | u + 1, i, M + 1, A, h1, h2, hA => by
    show _ = some (nI (((if bt (nI mu) i = true then i :: lsf (nI mu) u (i + 1) else lsf (nI mu) u (i + 1)).foldl (fun a i => tk a (Cq G id (lsf (nI mu) 6 0) k (n - (k + 1)) i)) A).1 - 1), σ)
    by_cases z : bt (nI mu) i = true
    · rw [if_pos z, List.foldl_cons]
      obtain ⟨f1, f2, f3⟩ := e_gf N hG hn hmu hs (show i < 6 by omega) z hk hkn hg hT
      have e : ∀ rec, st_X2_mostOf_5 N (nI mu) (nI (n - (k + 1))) rec (nI (A.1 - 1)) (nI i) σ = rec (nI ((tk A (Cq G id (lsf (nI mu) 6 0) k (n - (k + 1)) i)).1 - 1)) (nI (i + 1)) σ := by
        intro rec
        unfold st_X2_mostOf_5
        simp only [lt_p]
        rw [if_neg (show ¬ (6 : Int32) ≤ nI i from nI_ge (b := 6) (by omega) (by decide)), e_hasBit, bd_some, ite10, if_pos ((hb_iff _ (by omega)).mpr z), f1, bd_some, e_imaxN _ _ (by omega) (by omega), nI_1, tk_max]
        congr 2
        omega
      have e' : itr (fun _ _ _ => none) (st_X2_mostOf_5 N (nI mu) (nI (n - (k + 1)))) (M + 1) (nI (A.1 - 1)) (nI i) σ = _ := e (itr (fun _ _ _ => none) (st_X2_mostOf_5 N (nI mu) (nI (n - (k + 1)))) M)
      rw [e']
      refine lp_mst N hG hn hmu hs hk hkn hg hT u (i + 1) M _ (by omega) (by omega) ?_
      rw [tk_max]
      exact Nat.max_le.mpr ⟨hA, f3⟩
    · rw [if_neg z]
      have e : ∀ rec, st_X2_mostOf_5 N (nI mu) (nI (n - (k + 1))) rec (nI (A.1 - 1)) (nI i) σ = rec (nI (A.1 - 1)) (nI (i + 1)) σ := by
        intro rec
        unfold st_X2_mostOf_5
        simp only [lt_p]
        rw [if_neg (show ¬ (6 : Int32) ≤ nI i from nI_ge (b := 6) (by omega) (by decide)), e_hasBit, bd_some, ite10, if_neg (fun y => z ((hb_iff _ (by omega)).mp y)), nI_1]
      have e' : itr (fun _ _ _ => none) (st_X2_mostOf_5 N (nI mu) (nI (n - (k + 1)))) (M + 1) (nI (A.1 - 1)) (nI i) σ = _ := e (itr (fun _ _ _ => none) (st_X2_mostOf_5 N (nI mu) (nI (n - (k + 1)))) M)
      rw [e']
      exact lp_mst N hG hn hmu hs hk hkn hg hT u (i + 1) M A (by omega) (by omega) hA
theorem bc_6 : ∀ mu, mu < 64 → bc (nI mu) = nI (lsf (nI mu) 6 0).length := by decide +kernel
theorem lsf_p6 : ∀ mu, mu < 64 → 0 < mu → 0 < (lsf (nI mu) 6 0).length := by decide +kernel
theorem sb_len {m : Int32} {mu : Nat} (h : sb m mu) : (lsf (nI mu) 6 0).length ≤ (lsf m 6 0).length := lsf_sub 6 0 (fun x _ h2 => h x (by omega))
theorem lp_100 (N : Nat) (hN : 300 ≤ N) {G : Nat → Nat → Nat} (hG : ∀ j k, G j k ≤ 999) {n m : Nat} (hn : n ≤ 5) (hm : m < 64) (hl : (lsf (nI m) 6 0).length = n) (K : Mem → Option (Int32 × Mem)) : ∀ (u mu M : Nat) (σ : Mem), mu + u = m + 1 → u < M → 0 < mu → Gtb G n (nI m) σ → Tm G n (nI m) mu σ → ∃ σ', itr (fun _ _ => none) (st_X2_readMost_100 N (nI m) (nI n) K) M (nI mu) σ = K σ' ∧ Tm G n (nI m) (m + 1) σ' ∧ ∀ c i, ¬ c = 109 → gi σ' c i = gi σ c i
  | u, mu, 0, σ, _, h2, _, _, _ => absurd h2 (by omega)
  | 0, mu, M + 1, σ, h1, _, _, hg, hT => by
    refine ⟨σ, ?_, fun mu' h => hT mu' (by omega), fun _ _ _ => rfl⟩
    show st_X2_readMost_100 N (nI m) (nI n) K _ (nI mu) σ = _
    unfold st_X2_readMost_100
    rw [if_pos (nI_lt (by omega) (by omega))]
  | u + 1, mu, M + 1, σ, h1, h2, h0, hg, hT => by
    have hmu : mu < 64 := by omega
    have c1 : ¬ nI m < nI mu := Int32.not_lt.mpr (nI_le (by omega) (by omega))
    have c2 : ¬ (64 : Int32) ≤ nI mu := nI_ge (b := 64) (by omega) (by decide)
    by_cases z : sb (nI m) mu
    · have hp := lsf_p6 mu hmu h0
      have hle := sb_len z
      rw [hl] at hle
      obtain ⟨k, hk⟩ : ∃ k, (lsf (nI mu) 6 0).length = k + 1 := ⟨(lsf (nI mu) 6 0).length - 1, by omega⟩
      rw [hk] at hle
      have hmo : f_X2_mostOf N (nI mu) (nI (n - (k + 1))) σ = some (nI ((Bl G n mu).1 - 1), σ) := by
        rw [Bl_fold hk]
        exact lp_mst N hG hn hmu z hk hle hg hT 6 0 N (0, []) (by omega) (by omega) (Nat.zero_le _)
      have e : ∀ rec, st_X2_readMost_100 N (nI m) (nI n) K rec (nI mu) σ = rec (nI (mu + 1)) (si σ 109 mu (nI ((Bl G n mu).1 - 1))) := by
        intro rec
        unfold st_X2_readMost_100
        simp only [lt_p]
        rw [if_neg c1, if_neg c2, if_pos ((sb_iff hmu).mpr z), e_bc, bd_some, bc_6 mu hmu, hk, pk_sub hle, hmo, bd_some, chk_n hmu (by decide), ix_n (by omega), nI_1]
      have e' : itr (fun _ _ => none) (st_X2_readMost_100 N (nI m) (nI n) K) (M + 1) (nI mu) σ = _ := e (itr (fun _ _ => none) (st_X2_readMost_100 N (nI m) (nI n) K) M)
      obtain ⟨σ', r1, r2, r3⟩ := lp_100 N hN hG hn hm hl K u (mu + 1) M (si σ 109 mu (nI ((Bl G n mu).1 - 1))) (by omega) (by omega) (by omega) (fun j i hj hi hb' => by rw [gi_ne (by omega)]; exact hg j i hj hi hb') (fun mu' h hs => by
        by_cases y : mu' = mu
        · rw [y, gi_eq]
        · rw [gi_ni y]; exact hT mu' (by omega) hs)
      exact ⟨σ', e'.trans r1, r2, fun c i hc => by rw [r3 c i hc, gi_ne hc]⟩
    · have e : ∀ rec, st_X2_readMost_100 N (nI m) (nI n) K rec (nI mu) σ = rec (nI (mu + 1)) σ := by
        intro rec
        unfold st_X2_readMost_100
        simp only [lt_p]
        rw [if_neg c1, if_neg c2, if_neg (fun y => z ((sb_iff hmu).mp y)), nI_1]
      have e' : itr (fun _ _ => none) (st_X2_readMost_100 N (nI m) (nI n) K) (M + 1) (nI mu) σ = _ := e (itr (fun _ _ => none) (st_X2_readMost_100 N (nI m) (nI n) K) M)
      obtain ⟨σ', r1, r2, r3⟩ := lp_100 N hN hG hn hm hl K u (mu + 1) M σ (by omega) (by omega) (by omega) hg (fun mu' h hs => by
        by_cases y : mu' = mu
        · exact absurd (y ▸ hs) z
        · exact hT mu' (by omega) hs)
      exact ⟨σ', e'.trans r1, r2, r3⟩
/-! the gifts laid out -/
theorem lp_q35 (N : Nat) (hN : 300 ≤ N) {lw p j : Nat} {LV : LVt} {LX : LXt} {σ0 τ0 : Mem} {m : Int32} (hL : Lw lw LV LX σ0 τ0) (hB : Rb 32 σ0 (Al τ0 1)) (hp : p < 12) (hj : j < 5) (x5 : Int32) (K : Mem → Option (Int32 × Mem)) : ∀ (u k M : Nat) (σ : Mem), k + u = 6 → u < M → Kg lw σ0 σ → (∀ i, i < k → bt m i = true → gi σ (104 + j) i = nI (Gq LV τ0 p j i)) → ∃ σ', itr (fun _ _ => none) (st_X2_readMost_35 N (nI p) m 32 lw x5 (nI j) (trd τ0 p 1 j) K) M (nI k) σ = K σ' ∧ Kg lw σ0 σ' ∧ (∀ i, i < 6 → bt m i = true → gi σ' (104 + j) i = nI (Gq LV τ0 p j i)) ∧ ∀ c i, ¬ c = lw + 7 → ¬ c = 104 + j → gi σ' c i = gi σ c i
  | u, k, 0, σ, _, h2, _, _ => absurd h2 (by omega)
  | 0, k, M + 1, σ, h1, _, kg, hI => by
    refine ⟨σ, ?_, kg, fun i hi => hI i (by omega), fun _ _ _ _ => rfl⟩
    show st_X2_readMost_35 N (nI p) m 32 lw x5 (nI j) (trd τ0 p 1 j) K _ (nI k) σ = _
    unfold st_X2_readMost_35
    rw [if_pos (show (6 : Int32) ≤ nI k from nI_le (a := 6) (by omega) (by omega))]
  | u + 1, k, M + 1, σ, h1, h2, kg, hI => by
    have hlw := isLw_or hL.1
    have c6 : ¬ (6 : Int32) ≤ nI k := nI_ge (b := 6) (by omega) (by decide)
    have e104 : 103 + 1 + j = 104 + j := by omega
    have hB1 : Rb 32 σ (Al τ0 1) := hB.fr (fun c i hc => by unfold Bc at hc; exact kg c i (by omega) (by omega)) (fun _ _ _ => rfl)
    have hL1 : Lw lw LV LX σ τ0 := hL.fr (fun c i z1 z2 => kg c i (by omega) (by omega)) rfl (fun _ _ _ _ => rfl)
    by_cases z : bt m k = true
    · obtain ⟨σ1, f1, f2⟩ := e_gift N hN (lw := lw) (p := p) (k := k) (j := j) (r := trd τ0 p 1 j) (τ := τ0) hL1 hB1 hp (by omega)
      have e : ∀ rec, st_X2_readMost_35 N (nI p) m 32 lw x5 (nI j) (trd τ0 p 1 j) K rec (nI k) σ = rec (nI (k + 1)) (si σ1 (104 + j) k (nI (Gq LV τ0 p j k))) := by
        intro rec
        unfold st_X2_readMost_35
        simp only [lt_p]
        rw [if_neg c6, chk_n hj (by decide), e_hasBit, bd_some, ite10, if_pos ((hb_iff _ (by omega)).mpr z), f1, bd_some, chk_n (by omega) (by decide), ix_n (show j < 2 ^ 31 by omega), ix_n (show k < 2 ^ 31 by omega), nI_1, e104]
        rfl
      have e' : itr (fun _ _ => none) (st_X2_readMost_35 N (nI p) m 32 lw x5 (nI j) (trd τ0 p 1 j) K) (M + 1) (nI k) σ = _ := e (itr (fun _ _ => none) (st_X2_readMost_35 N (nI p) m 32 lw x5 (nI j) (trd τ0 p 1 j) K) M)
      obtain ⟨σ', r1, r2, r3, r4⟩ := lp_q35 N hN hL hB hp hj x5 K u (k + 1) M (si σ1 (104 + j) k (nI (Gq LV τ0 p j k))) (by omega) (by omega) (fun c i z1 z2 => by rw [gi_ne (by omega), f2 c i z1]; exact kg c i z1 z2) (fun i hi hb' => by
        by_cases y : i = k
        · rw [y, gi_eq]
        · rw [gi_ni y, f2 _ _ (by omega)]; exact hI i (by omega) hb')
      exact ⟨σ', e'.trans r1, r2, r3, fun c i y1 y2 => by rw [r4 c i y1 y2, gi_ne y2, f2 c i y1]⟩
    · have e : ∀ rec, st_X2_readMost_35 N (nI p) m 32 lw x5 (nI j) (trd τ0 p 1 j) K rec (nI k) σ = rec (nI (k + 1)) (si σ (104 + j) k 0) := by
        intro rec
        unfold st_X2_readMost_35
        simp only [lt_p]
        rw [if_neg c6, chk_n hj (by decide), e_hasBit, bd_some, ite10, if_neg (fun y => z ((hb_iff _ (by omega)).mp y)), chk_n (by omega) (by decide), ix_n (show j < 2 ^ 31 by omega), ix_n (show k < 2 ^ 31 by omega), nI_1, e104]
      have e' : itr (fun _ _ => none) (st_X2_readMost_35 N (nI p) m 32 lw x5 (nI j) (trd τ0 p 1 j) K) (M + 1) (nI k) σ = _ := e (itr (fun _ _ => none) (st_X2_readMost_35 N (nI p) m 32 lw x5 (nI j) (trd τ0 p 1 j) K) M)
      obtain ⟨σ', r1, r2, r3, r4⟩ := lp_q35 N hN hL hB hp hj x5 K u (k + 1) M (si σ (104 + j) k 0) (by omega) (by omega) (fun c i z1 z2 => by rw [gi_ne (by omega)]; exact kg c i z1 z2) (fun i hi hb' => by
        by_cases y : i = k
        · rw [y] at hb'; exact absurd hb' z
        · rw [gi_ni y]; exact hI i (by omega) hb')
      exact ⟨σ', e'.trans r1, r2, r3, fun c i y1 y2 => by rw [r4 c i y1 y2, gi_ne y2]⟩
theorem lp_q9 (N : Nat) (hN : 300 ≤ N) {lw p n : Nat} {LV : LVt} {LX : LXt} {σ0 τ0 : Mem} {m : Int32} (hL : Lw lw LV LX σ0 τ0) (hB : Rb 32 σ0 (Al τ0 1)) (hp : p < 12) (hn : n ≤ 5) (K : Mem → Option (Int32 × Mem)) : ∀ (u j M : Nat) (σ : Mem), j + u = n → u < M → Kg lw σ0 σ → Gtb (Gq LV τ0 p) j m σ → ∃ σ', itr (fun _ _ => none) (st_X2_readMost_9 N (nI p) m 32 lw (nI n) K) M (nI j) σ = K σ' ∧ Kg lw σ0 σ' ∧ Gtb (Gq LV τ0 p) n m σ'
  | u, j, 0, σ, _, h2, _, _ => absurd h2 (by omega)
  | 0, j, M + 1, σ, h1, _, kg, hg => by
    refine ⟨σ, ?_, kg, fun j' i hj' => hg j' i (by omega)⟩
    show st_X2_readMost_9 N (nI p) m 32 lw (nI n) K _ (nI j) σ = _
    unfold st_X2_readMost_9
    rw [if_pos (nI_le (by omega) (by omega))]
  | u + 1, j, M + 1, σ, h1, h2, kg, hg => by
    have hlw := isLw_or hL.1
    have hB1 : Rb 32 σ (Al τ0 1) := hB.fr (fun c i hc => by unfold Bc at hc; exact kg c i (by omega) (by omega)) (fun _ _ _ => rfl)
    obtain ⟨σ1, a1, a2, a3, a4⟩ := lp_q35 N hN (m := m) hL hB hp (show j < 5 by omega) (nI n) (fun s14 => lt (nI j + 1) (fun x6_15 => itr (fun _ _ => none) (st_X2_readMost_9 N (nI p) m 32 lw (nI n) K) M x6_15 s14)) 6 0 N σ (by omega) (by omega) kg (fun i hi => absurd hi (Nat.not_lt_zero _))
    have e : itr (fun _ _ => none) (st_X2_readMost_9 N (nI p) m 32 lw (nI n) K) (M + 1) (nI j) σ = itr (fun _ _ => none) (st_X2_readMost_9 N (nI p) m 32 lw (nI n) K) M (nI (j + 1)) σ1 := by
      show st_X2_readMost_9 N (nI p) m 32 lw (nI n) K _ (nI j) σ = _
      rw [← nI_1 j]
      revert a1
      generalize itr (fun _ _ => none) (st_X2_readMost_9 N (nI p) m 32 lw (nI n) K) M = rec
      intro a1
      unfold st_X2_readMost_9
      rw [if_neg (nI_ge (by omega) (by omega)), if_neg (show ¬ (5 : Int32) ≤ nI j from nI_ge (b := 5) (by omega) (by decide)), e_tbj N (by omega) hB1 hp (by omega), bd_some]
      exact a1
    obtain ⟨σ', r1, r2, r3⟩ := lp_q9 N hN hL hB hp hn K u (j + 1) M σ1 (by omega) (by omega) a2 (fun j' i hj' hi hb' => by
      by_cases y : j' = j
      · rw [y]; exact a3 i hi hb'
      · rw [a4 _ _ (by omega) (by omega)]; exact hg j' i (by omega) hi hb')
    exact ⟨σ', e.trans r1, r2, r3⟩
theorem e_readMost (N : Nat) (hN : 300 ≤ N) {lw p n m : Nat} {LV : LVt} {LX : LXt} {σ τ : Mem} (hL : Lw lw LV LX σ τ) (hB : Rb 32 σ (Al τ 1)) (hp : p < 12) (hn : n ≤ 5) (hm : m < 64) (h0 : 0 < m) (hl : (lsf (nI m) 6 0).length = n) : ∃ σ', f_X2_readMost N (nI p) (nI m) 32 lw σ = some (nI ((Bl (Gq LV τ p) n m).1 - 1), σ') ∧ Gtb (Gq LV τ p) n (nI m) σ' ∧ Tm (Gq LV τ p) n (nI m) (m + 1) σ' := by
  have hlw := isLw_or hL.1
  have hG : ∀ j k, Gq LV τ p j k ≤ 999 := fun j k => Gq_le hL p j k
  unfold f_X2_readMost
  rw [e_bc, bd_some, bc_6 m hm, hl]
  generalize hK1 : (fun (s16 : Mem) => chk (0 : Int32) 64 (lt (si s16 109 (ix (0 : Int32)) 0) (fun s17 => itr (fun _ _ => none) (st_X2_readMost_100 N (nI m) (nI n) (fun (s25 : Mem) => bd (f_X9_isWithin N (nI m) 0 ((64 : Int32) - 1) s25) (fun r27 s26 => if r27 = 0 then (some ((0 : Int32), s26)) else chk (nI m) 64 (some (gi s26 109 (ix (nI m)), s26))))) N 1 s17))) = K1
  obtain ⟨σ1, a1, a2, a3⟩ := lp_q9 N hN (m := nI m) hL hB hp hn K1 n 0 N σ (by omega) (by omega) (fun _ _ _ _ => rfl) (fun j i hj => absurd hj (Nat.not_lt_zero _))
  have a1' : itr (fun _ _ => none) (st_X2_readMost_9 N (nI p) (nI m) 32 lw (nI n) K1) N 0 σ = K1 σ1 := a1
  rw [a1', ← hK1]
  generalize hK2 : (fun (s25 : Mem) => bd (f_X9_isWithin N (nI m) 0 ((64 : Int32) - 1) s25) (fun r27 s26 => if r27 = 0 then (some ((0 : Int32), s26)) else chk (nI m) 64 (some (gi s26 109 (ix (nI m)), s26)))) = K2
  have e0 : (Bl (Gq LV τ p) n 0).1 = 1 := by
    unfold Bl
    rw [lsf_z]
    rfl
  obtain ⟨σ2, b1, b2, b3⟩ := lp_100 N hN hG hn hm hl K2 m 1 N (si σ1 109 0 0) (by omega) (by omega) (by omega) (fun j i hj hi hb' => by rw [gi_ne (by omega)]; exact a3 j i hj hi hb') (fun mu h hs => by
    have : mu = 0 := by omega
    rw [this, gi_eq, e0]
    rfl)
  refine ⟨σ2, ?_, fun j i hj hi hb' => by rw [b3 _ _ (by omega), gi_ne (by omega)]; exact a3 j i hj hi hb', b2⟩
  have hw : inR (nI m) 0 ((64 : Int32) - 1) := inR_of (a := 0) (b := 63) (by omega) (by omega) (by decide)
  show chk (0 : Int32) 64 (lt (si σ1 109 (ix (0 : Int32)) 0) (fun s17 => itr (fun _ _ => none) (st_X2_readMost_100 N (nI m) (nI n) K2) N 1 s17)) = _
  rw [lt_p, show chk (0 : Int32) 64 (itr (fun _ _ => none) (st_X2_readMost_100 N (nI m) (nI n) K2) N 1 (si σ1 109 (ix (0 : Int32)) 0)) = itr (fun _ _ => none) (st_X2_readMost_100 N (nI m) (nI n) K2) N (nI 1) (si σ1 109 0 0) from chk_n (n := 0) (by decide) (by decide), b1, ← hK2]
  show bd (f_X9_isWithin N (nI m) 0 ((64 : Int32) - 1) σ2) (fun r27 s26 => if r27 = 0 then (some ((0 : Int32), s26)) else chk (nI m) 64 (some (gi s26 109 (ix (nI m)), s26))) = _
  rw [e_within, bd_some, ite10, if_pos hw, chk_n hm (by decide), ix_n (by omega), b2 m (by omega) (fun i _ h => h)]
