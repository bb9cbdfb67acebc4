/-! how far one text is from another -/
def levRow (prev : Nat → Nat) (a : Nat) (c : Nat → Nat) : Nat → Nat
  | 0 => a + 1
  | b + 1 => min (prev b + c b) (1 + min (prev (b + 1)) (levRow prev a c b))
def lev (u v : Nat → Int32) : Nat → Nat → Nat
  | 0 => fun b => b
  | a + 1 => levRow (lev u v a) a (fun b => if u a = v b then 0 else 1)
theorem lev_0 (u v : Nat → Int32) (b : Nat) : lev u v 0 b = b := rfl
theorem lev_s0 (u v : Nat → Int32) (a : Nat) : lev u v (a + 1) 0 = a + 1 := rfl
theorem lev_ss (u v : Nat → Int32) (a b : Nat) : lev u v (a + 1) (b + 1) = min (lev u v a b + (if u a = v b then 0 else 1)) (1 + min (lev u v a (b + 1)) (lev u v (a + 1) b)) := rfl
theorem lev_a0 (u v : Nat → Int32) : ∀ a, lev u v a 0 = a
  | 0 => rfl
  | _ + 1 => rfl
theorem lev_le (u v : Nat → Int32) : ∀ a b, lev u v a b ≤ max a b
  | 0, b => by rw [lev_0]; omega
  | a + 1, 0 => by rw [lev_s0]; omega
  | a + 1, b + 1 => by
    rw [lev_ss]
    have h := lev_le u v a b
    have : (if u a = v b then 0 else 1) ≤ 1 := by split <;> omega
    omega
theorem lev_sym (u v : Nat → Int32) : ∀ n a b, a + b ≤ n → lev u v a b = lev v u b a
  | _, 0, b, _ => by rw [lev_0, lev_a0]
  | _, a + 1, 0, _ => by rw [lev_s0, lev_0]
  | 0, a + 1, b + 1, h => by omega
  | n + 1, a + 1, b + 1, h => by
    rw [lev_ss, lev_ss, lev_sym u v n a b (by omega), lev_sym u v n a (b + 1) (by omega), lev_sym u v n (a + 1) b (by omega)]
    have e : (if u a = v b then 0 else 1) = (if v b = u a then 0 else 1) := by
      by_cases q : u a = v b
      · rw [if_pos q, if_pos q.symm]
      · rw [if_neg q, if_neg (fun w => q w.symm)]
    rw [e, Nat.min_comm (lev v u (b + 1) a)]
theorem lev_congr {u u' v v' : Nat → Int32} : ∀ a b, (∀ i j, i < a → j < b → (u i = v j ↔ u' i = v' j)) → lev u v a b = lev u' v' a b
  | 0, b, _ => rfl
  | a + 1, 0, _ => rfl
  | a + 1, b + 1, h => by
    have e : (if u a = v b then 0 else 1) = (if u' a = v' b then 0 else 1) := by
      by_cases q : u a = v b
      · rw [if_pos q, if_pos ((h a b (by omega) (by omega)).mp q)]
      · rw [if_neg q, if_neg (fun w => q ((h a b (by omega) (by omega)).mpr w))]
    rw [lev_ss, lev_ss, e, lev_congr a b (fun i j hi hj => h i j (by omega) (by omega)), lev_congr a (b + 1) (fun i j hi hj => h i j (by omega) hj), lev_congr (a + 1) b (fun i j hi hj => h i j hi (by omega))]
/-- row r of s holds f up to m; all other cells are s0's -/
def RowIs (r : Nat) (s0 s : Mem) (f : Nat → Nat) (m : Nat) : Prop := (∀ i, i ≤ m → gi s r i = nI (f i)) ∧ ∀ c i, ¬ c = r → gi s c i = gi s0 c i
theorem lp_ch19 (N c : Nat) (x2 : Int32) (q : Nat) {m : Nat} (hm : m ≤ 40) (K : Mem → Option (Int32 × Mem)) (s0 : Mem) : ∀ (n i M : Nat) (s : Mem), i + n = m + 1 → n < M → (∀ j, j < i → gi s 120 j = nI j) → (∀ c i, ¬ c = 120 → gi s c i = gi s0 c i) → ∃ s', itr (fun _ _ => none) (st_X1_changes_19 N c x2 q (nI m) K) M (nI i) s = K s' ∧ RowIs 120 s0 s' (fun i => i) m
  | n, i, 0, s, _, h, _, _ => absurd h (by omega)
  | 0, i, M + 1, s, h, _, h1, h2 => by
    refine ⟨s, ?_, fun j hj => h1 j (by omega), h2⟩
    show st_X1_changes_19 N c x2 q (nI m) K _ (nI i) s = _
    unfold st_X1_changes_19
    rw [if_pos (nI_lt (by omega) (by omega))]
  | n + 1, i, M + 1, s, h, h0, h1, h2 => by
    have e : ∀ rec : Int32 → Mem → Option (Int32 × Mem), st_X1_changes_19 N c x2 q (nI m) K rec (nI i) s = rec (nI (i + 1)) (si s 120 i (nI i)) := by
      intro rec
      unfold st_X1_changes_19
      rw [if_neg (nI_nlt (by omega) (by omega)), chk_n (by omega) (by decide), ix_n (by omega)]
      simp only [lt_e, nI_1]
    show ∃ s', st_X1_changes_19 N c x2 q (nI m) K (itr _ _ M) (nI i) s = K s' ∧ _
    rw [e]
    refine lp_ch19 N c x2 q hm K s0 n (i + 1) M _ (by omega) (by omega) (fun j hj => ?_) (fun c i hc => by rw [gi_ne hc]; exact h2 c i hc)
    by_cases e2 : j = i
    · rw [e2, gi_eq]
    · rw [gi_ni e2]; exact h1 j (by omega)
/-- row b + 1 up to i, row b behind it -/
def lmx (u v : Nat → Int32) (b i j : Nat) : Nat := if j ≤ i then lev u v (b + 1) j else lev u v b j
theorem lmx_le {u v : Nat → Int32} {b i j : Nat} (h : j ≤ i) : lmx u v b i j = lev u v (b + 1) j := if_pos h
theorem lmx_gt {u v : Nat → Int32} {b i j : Nat} (h : ¬ j ≤ i) : lmx u v b i j = lev u v b j := if_neg h
theorem lp_ch78 (N : Nat) {c q m b : Nat} (x2 : Int32) (hm : m ≤ 40) (hb : b < 40) (hc : b < lenC c) (hq : lenC q = 40) (hc2 : lenC c < 2 ^ 31) (hc120 : ¬ c = 120) (hq120 : ¬ q = 120) (K : Mem → Option (Int32 × Mem)) (s0 : Mem) (u v : Nat → Int32) (hu : gi s0 c b = u b) (hv : ∀ i, i < m → gi s0 q i = v i) : ∀ (n i M : Nat) (s : Mem), i + n = m → n < M → RowIs 120 s0 s (lmx u v b i) m → ∃ s', itr (fun _ _ _ => none) (st_X1_changes_78 N c x2 q (nI m) (nI b) K) M (nI (lev u v b i)) (nI i) s = K s' ∧ RowIs 120 s0 s' (lev u v (b + 1)) m
  | n, i, 0, s, _, h, _ => absurd h (by omega)
  | 0, i, M + 1, s, h, _, h1 => by
    refine ⟨s, ?_, fun j hj => ?_, h1.2⟩
    · show st_X1_changes_78 N c x2 q (nI m) (nI b) K _ _ (nI i) s = _
      unfold st_X1_changes_78
      rw [if_pos (nI_le (by omega) (by omega))]
    · rw [h1.1 j hj, lmx_le (by omega)]
  | n + 1, i, M + 1, s, h, h0, h1 => by
    have l1 := lev_le u v b i
    have l2 := lev_le u v b (i + 1)
    have l3 := lev_le u v (b + 1) i
    have e : ∀ rec : Int32 → Int32 → Mem → Option (Int32 × Mem), st_X1_changes_78 N c x2 q (nI m) (nI b) K rec (nI (lev u v b i)) (nI i) s = rec (nI (lev u v b (i + 1))) (nI (i + 1)) (si s 120 (i + 1) (nI (lev u v (b + 1) (i + 1)))) := by
      intro rec
      have g1 : gi s 120 (i + 1) = nI (lev u v b (i + 1)) := by rw [h1.1 (i + 1) (by omega), lmx_gt (by omega)]
      have g2 : gi s 120 i = nI (lev u v (b + 1) i) := by rw [h1.1 i (by omega), lmx_le (by omega)]
      unfold st_X1_changes_78
      rw [if_neg (nI_ge (by omega) (by omega)), chk_n hc hc2, hq, chk_n (by omega) (by decide), ix_n (by omega), ix_n (by omega), h1.2 c b hc120, h1.2 q i hq120, hu, hv i (by omega)]
      simp only [lt_e, nI_1]
      rw [chk_n (by omega) (by decide), ix_n (by omega), g1, chk_n (by omega) (by decide), chk_n (by omega) (by decide), g2, e_iminN _ _ (by omega) (by omega), nI_1, lev_ss]
      by_cases w : u b = v i
      · rw [if_pos w, if_pos w, show nI (lev u v b i) + 0 = nI (lev u v b i + 0) from Int32.add_zero _, e_iminN _ _ (by omega) (by omega), Nat.add_comm (min _ _) 1]
      · rw [if_neg w, if_neg w, e_iminN _ _ (by omega) (by omega), Nat.add_comm (min _ _) 1, chk_n (by omega) (by decide), chk_n (by omega) (by decide), chk_n (by omega) (by decide)]
    show ∃ s', st_X1_changes_78 N c x2 q (nI m) (nI b) K (itr _ _ M) _ (nI i) s = K s' ∧ _
    rw [e]
    refine lp_ch78 N x2 hm hb hc hq hc2 hc120 hq120 K s0 u v hu hv n (i + 1) M _ (by omega) (by omega) ⟨fun j hj => ?_, fun c i hc => by rw [gi_ne hc]; exact h1.2 c i hc⟩
    by_cases e2 : j = i + 1
    · rw [e2, gi_eq, lmx_le (by omega)]
    · rw [gi_ni e2, h1.1 j hj]
      by_cases e3 : j ≤ i
      · rw [lmx_le e3, lmx_le (by omega)]
      · rw [lmx_gt e3, lmx_gt (by omega)]
theorem lp_ch44 (N : Nat) (hN : 50 ≤ N) {c q m x : Nat} (hm : m ≤ 40) (hx : x ≤ 40) (hc : x ≤ lenC c) (hq : lenC q = 40) (hc2 : lenC c < 2 ^ 31) (hc120 : ¬ c = 120) (hq120 : ¬ q = 120) (s0 : Mem) (u v : Nat → Int32) (hu : ∀ i, i < x → gi s0 c i = u i) (hv : ∀ i, i < m → gi s0 q i = v i) : ∀ (n b M : Nat) (s : Mem), b + n = x → n < M → RowIs 120 s0 s (lev u v b) m → ∃ s', itr (fun _ _ => none) (st_X1_changes_44 N c (nI x) q (nI m)) M (nI b) s = some (nI (lev u v x m), s')
  | n, b, 0, s, _, h, _ => absurd h (by omega)
  | 0, b, M + 1, s, h, _, h1 => by
    refine ⟨s, ?_⟩
    show st_X1_changes_44 N c (nI x) q (nI m) _ (nI b) s = _
    unfold st_X1_changes_44
    rw [if_pos (nI_le (by omega) (by omega)), chk_n (by omega) (by decide), ix_n (by omega), h1.1 m (by omega), show b = x by omega]
  | n + 1, b, M + 1, s, h, h0, h1 => by
    show ∃ s', st_X1_changes_44 N c (nI x) q (nI m) (itr _ _ M) (nI b) s = _
    have hR : RowIs 120 s0 (si s 120 0 (nI (b + 1))) (lmx u v b 0) m := by
      refine ⟨fun j hj => ?_, fun c i hc => by rw [gi_ne hc]; exact h1.2 c i hc⟩
      by_cases e2 : j = 0
      · subst e2
        rw [gi_eq, lmx_le (by omega)]
        rfl
      · rw [gi_ni e2, lmx_gt (by omega)]
        exact h1.1 j hj
    generalize hrec : itr (fun _ _ => none) (st_X1_changes_44 N c (nI x) q (nI m)) M = rec
    unfold st_X1_changes_44
    rw [if_neg (nI_ge (by omega) (by omega)), if_neg (by rw [li_40]; exact nI_ge (by omega) (by decide))]
    simp only [lt_e, nI_1, ck_0_41, ix_0]
    rw [h1.1 0 (by omega), ← nI_0]
    obtain ⟨s', e1, e2⟩ := lp_ch78 N (nI x) hm (by omega) (show b < lenC c by omega) hq hc2 hc120 hq120 (fun s15 => rec (nI (b + 1)) s15) s0 u v (hu b (by omega)) hv m 0 N _ (by omega) (by omega) hR
    rw [e1, ← hrec]
    exact lp_ch44 N hN hm hx hc hq hc2 hc120 hq120 s0 u v hu hv n (b + 1) M s' (by omega) (by omega) e2
theorem e_changes (N : Nat) (hN : 50 ≤ N) {c m x j : Nat} (hj : j < 6) (hm : m ≤ 40) (hx : x ≤ 40) (hc : x ≤ lenC c) (hc2 : lenC c < 2 ^ 31) (hc120 : ¬ c = 120) (s : Mem) (hs : gi s 119 j = nI m) (u v : Nat → Int32) (hu : ∀ i, i < x → gi s c i = u i) (hv : ∀ i, i < m → gi s (113 + j) i = v i) : ∃ s', f_X1_changes N c (nI x) (nI j) s = some (nI (lev u v x m), s') := by
  unfold f_X1_changes
  have hq : layC[112 + 1 + j]? = some (0, 40) := lr_112 hj
  have hl : lenC (112 + 1 + j) = 40 := by
    unfold lenC
    rw [List.getD_eq_getElem?_getD, hq]
    rfl
  rw [chk_n hj (by decide), ix_n (by omega), lt_e, isAr_of hq, ckc_t, chk_n hj (by decide), hs, lt_e, ← nI_0]
  obtain ⟨s1, e1, h1⟩ := lp_ch19 N c (nI x) (112 + 1 + j) hm (fun s6 => itr (fun _ _ => none) (st_X1_changes_44 N c (nI x) (112 + 1 + j) (nI m)) N (nI 0) s6) s (m + 1) 0 N s (by omega) (by omega) (fun j hj => by omega) (fun _ _ _ => rfl)
  rw [e1]
  exact lp_ch44 N hN hm hx hc hl hc2 hc120 (by omega) s u v hu (fun i hi => by rw [show 112 + 1 + j = 113 + j by omega]; exact hv i hi) x 0 N s1 (by omega) (by omega) h1
