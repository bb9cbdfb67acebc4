/-! copies: the books, the reference's row; keep, undo -/
theorem chkC_0 {α : Type} (n : Nat) (hn : n < 2 ^ 31) (e : Option α) : chkC 0 0 (nI n) n n e = e := by
  unfold chkC
  rw [if_neg (by decide), if_neg (by decide), if_neg (nI_pos hn), if_neg (by rw [ix_n hn]; show ¬ n < 0 + n; omega), if_neg (by rw [ix_n hn]; show ¬ n < 0 + n; omega)]
theorem gi_cpy0 (s : Mem) (c0 c1 n : Nat) (hn : n < 2 ^ 31) (c i : Nat) : gi (cpy s c0 c1 0 0 (nI n)) c i = if c = c1 ∧ i < n then gi s c0 i else gi s c i := by
  rw [gi_cpy, ix_n hn]
  show (if c = c1 then va_cpy (s.1 c0) (s.1 c1) 0 0 n i else gi s c i) = _
  by_cases h : c = c1
  · subst h
    rw [if_pos rfl]
    by_cases h2 : i < n
    · rw [pk_cpy_in (by omega) (by omega), if_pos ⟨rfl, h2⟩]
      show gi s c0 (0 + (i - 0)) = _
      rw [show 0 + (i - 0) = i by omega]
    · rw [pk_cpy_out (by omega), if_neg (fun q => h2 q.2)]
      rfl
  · rw [if_neg h, if_neg (fun q => h q.1)]
def tcp (b x : Nat) : Nat → Nat → Mem → Mem
  | 0, _, s => s
  | n + 1, k, s => tcp b x n (k + 1) (cpy s (x + 7 + 1 + k) (b + 7 + 1 + k) 0 0 12)
theorem tcp_gi (b x : Nat) (hd : b + 15 ≤ x ∨ x + 15 ≤ b) : ∀ (n k : Nat) (s : Mem) (c i : Nat), k + n = 6 → gi (tcp b x n k s) c i = if b + 8 + k ≤ c ∧ c < b + 14 ∧ i < 12 then gi s (c + x - b) i else gi s c i
  | 0, k, s, c, i, h => by
    rw [if_neg (by omega)]
    rfl
  | n + 1, k, s, c, i, h => by
    show gi (tcp b x n (k + 1) _) c i = _
    rw [tcp_gi b x hd n (k + 1) _ c i (by omega), li_12, gi_cpy0 _ _ _ 12 (by decide), gi_cpy0 _ _ _ 12 (by decide)]
    by_cases h1 : b + 8 + (k + 1) ≤ c ∧ c < b + 14 ∧ i < 12
    · rw [if_pos h1, if_neg (by omega), if_pos (show b + 8 + k ≤ c ∧ c < b + 14 ∧ i < 12 by omega)]
    · rw [if_neg h1]
      by_cases h2 : c = b + 7 + 1 + k ∧ i < 12
      · rw [if_pos h2, if_pos (show b + 8 + k ≤ c ∧ c < b + 14 ∧ i < 12 by omega), show c + x - b = x + 7 + 1 + k by omega]
      · rw [if_neg h2, if_neg (show ¬ (b + 8 + k ≤ c ∧ c < b + 14 ∧ i < 12) by omega)]
theorem sl_copy (N b x : Nat) (k137 : Mem → Option (Unit × Mem)) (rec : Int32 → Mem → Option (Unit × Mem)) {k : Nat} (hk : k < 6) (s : Mem) : st_X0_copy_106 N b x k137 rec (nI k) s = rec (nI (k + 1)) (cpy s (x + 7 + 1 + k) (b + 7 + 1 + k) 0 0 12) := by
  unfold st_X0_copy_106
  rw [if_neg (by rw [li_6]; exact nI_ge hk (by decide)), chk_n hk (by decide), chk_n hk (by decide), li_12, chkC_0 12 (by decide), ix_n (by omega)]
  simp only [lt_e, nI_1]
theorem lp_copy (N b x : Nat) (k137 : Mem → Option (Unit × Mem)) : ∀ (n k M : Nat) (s : Mem), k + n = 6 → n < M → itr (fun _ _ => none) (st_X0_copy_106 N b x k137) M (nI k) s = k137 (tcp b x n k s)
  | n, k, 0, s, _, h2 => absurd h2 (by omega)
  | 0, k, M + 1, s, h1, _ => by
    rw [show k = 6 by omega]
    show st_X0_copy_106 N b x k137 _ (nI 6) s = _
    unfold st_X0_copy_106
    rw [if_pos (by decide)]
    rfl
  | n + 1, k, M + 1, s, h1, h2 => (sl_copy N b x k137 _ (by omega) s).trans (lp_copy N b x k137 n (k + 1) M _ (by omega) (by omega))
/-- how long the books' arrays are -/
def bLen (k : Nat) : Nat := if k = 1 then 12 else if k = 14 then 3 else if k ≤ 6 then 6 else 12
theorem e_copy (N : Nat) (hN : 20 ≤ N) {b x : Nat} (hd : b + 15 ≤ x ∨ x + 15 ≤ b) (s : Mem) : ∃ s', f_X0_copy N b x s = some ((), s') ∧ (∀ k i, 1 ≤ k → k < 15 → ¬ k = 7 → i < bLen k → gi s' (b + k) i = gi s (x + k) i) ∧ (gi s' b 1 = gi s x 1 ∧ gi s' b 2 = gi s x 2 ∧ gi s' b 10 = gi s x 10 ∧ gi s' b 11 = gi s x 11 ∧ gi s' b 12 = gi s x 12 ∧ gi s' b 13 = gi s x 13) := by
  unfold f_X0_copy
  simp only [lt_e]
  rw [li_12, li_6, li_3, chkC_0 12 (by decide), chkC_0 6 (by decide), chkC_0 6 (by decide), chkC_0 6 (by decide), chkC_0 6 (by decide), chkC_0 6 (by decide), chkC_0 3 (by decide), ← nI_0, lp_copy N b x _ 6 0 N _ (by omega) (by omega)]
  refine ⟨_, rfl, fun k i h1 h2 h3 h4 => ?_, ?_⟩
  · rw [nI_0]
    simp (disch := omega) only [gi_ne]
    rw [tcp_gi b x hd 6 0 _ _ _ (by omega)]
    unfold bLen at h4
    by_cases q : 8 ≤ k ∧ k < 14
    · rw [if_neg (by omega), if_neg (by omega), if_neg (by omega)] at h4
      rw [if_pos (by omega), show b + k + x - b = x + k by omega]
      simp only [gi_cpy0 _ _ _ 12 (by decide), gi_cpy0 _ _ _ 6 (by decide), gi_cpy0 _ _ _ 3 (by decide)]
      simp (disch := omega) only [if_neg]
    · rw [if_neg (by omega)]
      simp only [gi_cpy0 _ _ _ 12 (by decide), gi_cpy0 _ _ _ 6 (by decide), gi_cpy0 _ _ _ 3 (by decide)]
      rcases (show k = 1 ∨ k = 2 ∨ k = 3 ∨ k = 4 ∨ k = 5 ∨ k = 6 ∨ k = 14 by omega) with rfl | rfl | rfl | rfl | rfl | rfl | rfl
      all_goals simp at h4
      all_goals simp (disch := omega) only [if_neg, if_pos]
      all_goals rw [if_pos ⟨trivial, h4⟩]
  · rw [nI_0]
    have e : ∀ c i, (c = x ∨ c = b) → gi (tcp b x 6 0 (cpy (cpy (cpy (cpy (cpy (cpy (cpy s (x + 1) (b + 1) 0 0 (nI 12)) (x + 2) (b + 2) 0 0 (nI 6)) (x + 3) (b + 3) 0 0 (nI 6)) (x + 4) (b + 4) 0 0 (nI 6)) (x + 5) (b + 5) 0 0 (nI 6)) (x + 6) (b + 6) 0 0 (nI 6)) (x + 14) (b + 14) 0 0 (nI 3))) c i = gi s c i := by
      intro c i hc
      rw [tcp_gi b x hd 6 0 _ _ _ (by omega), if_neg (by omega)]
      simp only [gi_cpy0 _ _ _ 12 (by decide), gi_cpy0 _ _ _ 6 (by decide), gi_cpy0 _ _ _ 3 (by decide)]
      simp (disch := omega) only [if_neg]
    simp (disch := omega) only [gi_ne, gi_ni, gi_eq, e]
    exact ⟨trivial, trivial, trivial, trivial, trivial, trivial⟩
def mcp (a b : Nat) : Nat → Nat → Mem → Mem
  | 0, _, s => s
  | n + 1, i, s => mcp a b n (i + 1) (si s b i (gi s a i))
theorem mcp_gi {a b : Nat} (hab : ¬ a = b) : ∀ (n i : Nat) (s : Mem) (c j : Nat), gi (mcp a b n i s) c j = if c = b ∧ i ≤ j ∧ j < i + n then gi s a j else gi s c j
  | 0, i, s, c, j => by
    rw [if_neg (by omega)]
    rfl
  | n + 1, i, s, c, j => by
    show gi (mcp a b n (i + 1) _) c j = _
    rw [mcp_gi hab n (i + 1) _ c j, gi_ne hab, gi_si]
    by_cases h1 : c = b ∧ i + 1 ≤ j ∧ j < i + 1 + n
    · rw [if_pos h1, if_pos (show c = b ∧ i ≤ j ∧ j < i + (n + 1) by omega)]
    · rw [if_neg h1]
      by_cases h2 : c = b ∧ j = i
      · rw [if_pos h2, if_pos (show c = b ∧ i ≤ j ∧ j < i + (n + 1) by omega), h2.2]
      · rw [if_neg h2, if_neg (show ¬ (c = b ∧ i ≤ j ∧ j < i + (n + 1)) by omega)]
theorem sl_copies (N : Nat) {a b : Nat} (ha : lenM a = 151) (hb : lenM b = 151) (rec : Int32 → Mem → Option (Unit × Mem)) {i : Nat} (hi : i < 151) (s : Mem) : st_X10_copies_2 N a b rec (nI i) s = rec (nI (i + 1)) (si s b i (gi s a i)) := by
  unfold st_X10_copies_2
  rw [if_neg (by rw [li_151]; exact nI_ge hi (by decide)), ha, hb, chk_n hi (by decide), chk_n hi (by decide), ix_n (by omega)]
  simp only [lt_e, nI_1]
theorem lp_copies (N : Nat) {a b : Nat} (ha : lenM a = 151) (hb : lenM b = 151) : ∀ (n i M : Nat) (s : Mem), i + n = 151 → n < M → itr (fun _ _ => none) (st_X10_copies_2 N a b) M (nI i) s = some ((), mcp a b n i s)
  | n, i, 0, s, _, h2 => absurd h2 (by omega)
  | 0, i, M + 1, s, h1, _ => by
    rw [show i = 151 by omega]
    show st_X10_copies_2 N a b _ (nI 151) s = _
    unfold st_X10_copies_2
    rw [if_pos (by decide)]
    rfl
  | n + 1, i, M + 1, s, h1, h2 => (sl_copies N ha hb _ (by omega) s).trans (lp_copies N ha hb n (i + 1) M _ (by omega) (by omega))
theorem e_copies (N : Nat) (hN : 200 ≤ N) {a b : Nat} (ha : lenM a = 151) (hb : lenM b = 151) (hab : ¬ a = b) (s : Mem) : ∃ s', f_X10_copies N a b s = some ((), s') ∧ ∀ c i, gi s' c i = if c = b ∧ i < 151 then gi s a i else gi s c i := by
  unfold f_X10_copies
  rw [← nI_0, lp_copies N ha hb 151 0 N s (by omega) (by omega)]
  refine ⟨_, rfl, fun c i => ?_⟩
  rw [mcp_gi hab]
  by_cases h : c = b ∧ i < 151
  · rw [if_pos h, if_pos (show c = b ∧ 0 ≤ i ∧ i < 0 + 151 by omega)]
  · rw [if_neg h, if_neg (show ¬ (c = b ∧ 0 ≤ i ∧ i < 0 + 151) by omega)]
theorem Rb.cp {b x : Nat} {σ σ' : Mem} {α : Nat → Int32} (h : Rb x σ α) (h1 : ∀ k i, 1 ≤ k → k < 15 → ¬ k = 7 → i < bLen k → gi σ' (b + k) i = gi σ (x + k) i) (h2 : gi σ' b 1 = gi σ x 1 ∧ gi σ' b 2 = gi σ x 2 ∧ gi σ' b 10 = gi σ x 10 ∧ gi σ' b 11 = gi σ x 11 ∧ gi σ' b 12 = gi σ x 12 ∧ gi σ' b 13 = gi σ x 13) : Rb b σ' α := by
  obtain ⟨⟨a1, a2, a3, a4, a5, a6, a7⟩, a8, a9, a10, a11⟩ := h
  obtain ⟨c1, c2, c3, c4, c5, c6⟩ := h2
  refine ⟨⟨fun p hp => ?_, c1.trans a2, c2.trans a3, c3.trans a4, c4.trans a5, c5.trans a6, c6.trans a7⟩, fun k hk => ?_, fun k p hk hp => ?_, fun k i hk hi hi2 => ?_, fun p j hp hj => ?_⟩
  · rw [h1 1 p (by omega) (by omega) (by omega) hp]; exact a1 p hp
  · rw [h1 2 k (by omega) (by omega) (by omega) hk, h1 3 k (by omega) (by omega) (by omega) hk, h1 4 k (by omega) (by omega) (by omega) hk, h1 6 k (by omega) (by omega) (by omega) hk]
    exact a8 k hk
  · have e : gi σ' (b + 8 + k) p = gi σ (x + 8 + k) p := by
      rw [show b + 8 + k = b + (8 + k) by omega, show x + 8 + k = x + (8 + k) by omega]
      refine h1 (8 + k) p (by omega) (by omega) (by omega) ?_
      unfold bLen
      rw [if_neg (by omega), if_neg (by omega), if_neg (by omega)]
      exact hp
    rw [h1 5 k (by omega) (by omega) (by omega) hk, e]
    exact a9 k p hk hp
  · rw [h1 5 k (by omega) (by omega) (by omega) hk]
    exact a10 k i hk hi hi2
  · rw [h1 14 j (by omega) (by omega) (by omega) hj]
    exact a11 p j hp hj
theorem s_keep (N : Nat) (hN : 200 ≤ N) {σ τ : Mem} (hn : Rn σ τ) : ∃ r σ' τ', f_X9_keep N σ = some (r, σ') ∧ f_X10_keep N τ = some (r, τ') ∧ Rn σ' τ' ∧ Rk σ' τ' := by
  unfold f_X9_keep f_X10_keep
  obtain ⟨s1, e1, c1, c2⟩ := e_copy N (by omega) (b := 47) (x := 32) (by omega) σ
  obtain ⟨t1, e2, d1⟩ := e_copies N hN (a := 1) (b := 3) rfl rfl (by decide) (si τ 0 55 1)
  have fr := fun c i hw => (fr_X0_copy N 47 32 σ _ _ e1 c i hw).1
  simp only [lt_e, e1, e2, bd_some, ck_147_151, ix_147]
  obtain ⟨a, b, c⟩ := hn
  have hα : ∀ i, gi t1 1 i = gi τ 1 i := fun i => by rw [d1, if_neg (by omega), gi_ne (by decide)]
  have hβ : ∀ i, i < 151 → gi t1 3 i = gi τ 1 i := fun i hi => by rw [d1, if_pos ⟨rfl, hi⟩, gi_ne (by decide)]
  have hf : ∀ k i, k < 15 → gi s1 (32 + k) i = gi σ (32 + k) i := fun k i hk => fr _ _ (by unfold W_X0_copy; omega)
  refine ⟨gi τ 1 147, si s1 0 11 1, t1, ?_, ?_, ?_, ?_⟩
  · rw [gi_ne (by decide), hf 0 11 (by omega), a.1.2.2.2.2.1]
    rfl
  · rw [hα]
  · refine ⟨a.fr (fun c i hc => ?_) (fun i _ _ => hα i), b.fr (fun i _ _ => hα i), ?_⟩
    · unfold Bc at hc
      rw [gi_ne (by omega), show c = 32 + (c - 32) by omega]
      exact hf _ _ (by omega)
    · rw [hα]
      exact c.fr (fun i _ => hα i)
  · right
    refine ⟨gi_eq _ _ _ _, ?_, ?_, ?_, ?_⟩
    · rw [d1, if_neg (by omega), gi_eq]
    · refine ((Rb.cp (b := 47) a c1 c2).fr (fun c i hc => ?_) (fun i hi _ => hβ i hi))
      unfold Bc at hc
      exact gi_ne (by omega)
    · exact b.fr (fun i hi _ => hβ i hi)
    · rw [hα]
      exact c.fr (fun i hi => hβ i (by omega))
theorem s_undo (N : Nat) (hN : 200 ≤ N) {σ τ : Mem} (hn : Rn σ τ) (hk : Rk σ τ) : ∃ r σ' τ', f_X9_undo N σ = some (r, σ') ∧ f_X10_undo N τ = some (r, τ') ∧ Rn σ' τ' ∧ Rk σ' τ' := by
  unfold f_X9_undo f_X10_undo
  rcases id hk with ⟨k1, k2⟩ | ⟨k1, k2, k3, k4, k5⟩
  · rw [if_pos k1, if_pos k2]
    exact ⟨0, _, _, rfl, rfl, hn, hk⟩
  · rw [if_neg (by rw [k1]; decide), if_neg (by rw [k2]; decide)]
    obtain ⟨s1, e1, c1, c2⟩ := e_copy N (by omega) (b := 32) (x := 47) (by omega) σ
    obtain ⟨t1, e2, d1⟩ := e_copies N hN (a := 3) (b := 1) rfl rfl (by decide) τ
    have fr := fun c i hw => (fr_X0_copy N 32 47 σ _ _ e1 c i hw).1
    simp only [lt_e, e1, e2, bd_some, ck_145_151, ix_145]
    have hα : ∀ i, i < 151 → ¬ i = 145 → gi (si t1 1 145 (gi τ 1 145)) 1 i = gi τ 3 i := fun i hi h => by rw [gi_ni h, d1, if_pos ⟨rfl, hi⟩]
    have hβ : ∀ i, gi (si t1 1 145 (gi τ 1 145)) 3 i = gi τ 3 i := fun i => by rw [gi_ne (by decide), d1, if_neg (by omega)]
    have hf : ∀ k i, k < 15 → gi s1 (47 + k) i = gi σ (47 + k) i := fun k i hk => fr _ _ (by unfold W_X0_copy; omega)
    refine ⟨1, _, _, rfl, rfl, ⟨?_, ?_, ?_⟩, ?_⟩
    · exact (Rb.cp (b := 32) k3 c1 c2).fr (fun _ _ _ => rfl) hα
    · exact k4.fr hα
    · rw [gi_eq]
      exact k5.fr (fun i hi => hα i (by omega) (by omega))
    · right
      refine ⟨?_, ?_, ?_, ?_, ?_⟩
      · rw [fr 0 11 (by unfold W_X0_copy; omega)]; exact k1
      · rw [gi_ne (by decide), d1, if_neg (by omega)]; exact k2
      · refine k3.fr (fun c i hc => ?_) (fun i _ _ => hβ i)
        unfold Bc at hc
        rw [show c = 47 + (c - 47) by omega]
        exact hf _ _ (by omega)
      · exact k4.fr (fun i _ _ => hβ i)
      · rw [gi_eq]
        exact k5.fr (fun i _ => hβ i)
