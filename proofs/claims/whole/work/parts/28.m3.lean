/-! toldAt, letterIs, parishIs -/
/-- a set by a test, from i on -/
def bsf (f : Nat → Bool) : Nat → Nat → Int32 → Int32
  | 0, _, a => a
  | n + 1, i, a => bsf f n (i + 1) (if f i = true then a ||| ((1 : Int32) <<< (nI i &&& 31)) else a)
theorem bsf_bt (f : Nat → Bool) : ∀ (n i : Nat) (a : Int32) (j : Nat), i + n ≤ 32 → j < 32 → bt (bsf f n i a) j = (bt a j || (decide (i ≤ j ∧ j < i + n) && f j))
  | 0, i, a, j, _, _ => by
    have : decide (i ≤ j ∧ j < i + 0) = false := decide_eq_false (by omega)
    rw [this]
    simp [bsf]
  | n + 1, i, a, j, h, hj => by
    show bt (bsf f n (i + 1) _) j = _
    rw [bsf_bt f n (i + 1) _ j (by omega) hj]
    by_cases e : j = i
    · subst e
      have h1 : decide (j + 1 ≤ j ∧ j < j + 1 + n) = false := decide_eq_false (by omega)
      have h2 : decide (j ≤ j ∧ j < j + (n + 1)) = true := by simp
      rw [h1, h2]
      by_cases hf : f j = true
      · rw [if_pos hf, b_set a (by omega) hj]; simp [hf]
      · rw [if_neg hf]; simp [Bool.not_eq_true _ ▸ hf]
    · have h3 : decide (i + 1 ≤ j ∧ j < i + 1 + n) = decide (i ≤ j ∧ j < i + (n + 1)) := decide_eq_decide.mpr (by omega)
      rw [h3]
      by_cases hf : f i = true
      · rw [if_pos hf, b_set a (by omega) hj]; simp [e]
      · rw [if_neg hf]
theorem bsf_congr {f g : Nat → Bool} : ∀ (n i : Nat) (a : Int32), (∀ j, i ≤ j → j < i + n → f j = g j) → bsf f n i a = bsf g n i a
  | 0, _, _, _ => rfl
  | n + 1, i, a, h => by
    show bsf f n (i + 1) _ = bsf g n (i + 1) _
    rw [h i (by omega) (by omega)]
    exact bsf_congr n (i + 1) _ (fun j h1 h2 => h j (by omega) (by omega))
theorem e_known (N : Nat) {k p : Nat} (s : Mem) : f_X10_known N (nI k) (nI p) s = some (nI (12 + 12 * k + p), s) := by
  unfold f_X10_known
  rw [li_12, pk_mul, nI_add, nI_add]
theorem e_isKnown (N : Nat) {k p : Nat} (hk : k < 6) (hp : p < 12) (s : Mem) : f_X10_isKnown N (nI k) (nI p) s = some (if gi s 1 (12 + 12 * k + p) = -1 then 0 else 1, s) := by
  unfold f_X10_isKnown
  rw [e_known, bd_some, chk_n (by omega) (by decide), ix_n (by omega), ite_some]
/-- the bit of a parish among those that read j months ago -/
def rbit (s : Mem) (b p j : Nat) : Int32 := ((gi s (b + 14) j) >>> (nI p &&& 31)) &&& 1
theorem sl_tb (N b : Nat) {p m : Nat} (e : Int32) (rec : Int32 → Int32 → Mem → Option (Int32 × Mem)) (acc : Int32) {j : Nat} (hj : j < 3) (hm : m < 2 ^ 30) (s : Mem) : st_X0_tiredBehind_6 N b (nI p) (nI m) e rec acc (nI j) s = rec (acc + (if j < m then e else rbit s b p (j - m))) (nI (j + 1)) s := by
  unfold st_X0_tiredBehind_6
  rw [if_neg (by rw [li_3]; exact nI_ge hj (by decide))]
  by_cases h : j < m
  · rw [if_neg (nI_ge h (by omega)), if_pos h]
    simp only [lt_e, nI_1]
  · rw [if_pos (nI_le (by omega) (by omega)), if_neg h, pk_sub (by omega), chk_n (by omega) (by decide), ix_n (by omega)]
    simp only [lt_e, nI_1]
    rfl
theorem e_tb (N : Nat) (hN : 10 ≤ N) (b : Nat) {p m : Nat} (e : Int32) (hm : m < 2 ^ 30) (s : Mem) : f_X0_tiredBehind N b (nI p) (nI m) e s = some ((if 0 < m then e else rbit s b p (0 - m)) + (if 1 < m then e else rbit s b p (1 - m)) + (if 2 < m then e else rbit s b p (2 - m)), s) := by
  unfold f_X0_tiredBehind
  obtain ⟨M, rfl⟩ : ∃ M, N = M + 4 := ⟨N - 4, by omega⟩
  rw [show itr (fun _ _ _ => none) (st_X0_tiredBehind_6 (M + 4) b (nI p) (nI m) e) (M + 4) 0 0 s = st_X0_tiredBehind_6 (M + 4) b (nI p) (nI m) e (itr (fun _ _ _ => none) (st_X0_tiredBehind_6 (M + 4) b (nI p) (nI m) e) (M + 3)) 0 (nI 0) s from rfl, sl_tb (M + 4) b e _ _ (by omega) hm]
  rw [show itr (fun _ _ _ => none) (st_X0_tiredBehind_6 (M + 4) b (nI p) (nI m) e) (M + 3) = st_X0_tiredBehind_6 (M + 4) b (nI p) (nI m) e (itr (fun _ _ _ => none) (st_X0_tiredBehind_6 (M + 4) b (nI p) (nI m) e) (M + 2)) from rfl, sl_tb (M + 4) b e _ _ (by omega) hm]
  rw [show itr (fun _ _ _ => none) (st_X0_tiredBehind_6 (M + 4) b (nI p) (nI m) e) (M + 2) = st_X0_tiredBehind_6 (M + 4) b (nI p) (nI m) e (itr (fun _ _ _ => none) (st_X0_tiredBehind_6 (M + 4) b (nI p) (nI m) e) (M + 1)) from rfl, sl_tb (M + 4) b e _ _ (by omega) hm]
  show st_X0_tiredBehind_6 (M + 4) b (nI p) (nI m) e _ _ (nI 3) s = _
  unfold st_X0_tiredBehind_6
  rw [if_pos (by decide), Int32.zero_add]
theorem Rb.rb1 {b : Nat} {σ : Mem} {α : Nat → Int32} (h : Rb b σ α) {p j : Nat} (hp : p < 12) (hj : j < 3) : rbit σ b p j = α (90 + 3 * p + j) := by
  have h11 := h.2.2.2.2 p j hp hj
  unfold rbit
  have hx : ((gi σ (b + 14) j) >>> (nI p &&& 31)) &&& 1 = if bt (gi σ (b + 14) j) p = true then 1 else 0 := by
    have h1 : ∀ i, i < 32 → bt (1 : Int32) i = decide (i = 0) := by decide +kernel
    apply b_ext
    intro i hi
    rw [b_and, h1 i hi]
    by_cases e : i = 0
    · subst e
      rw [b_sshr p (by omega) _ (by omega), if_pos (by omega)]
      show (bt _ p && _) = _
      by_cases q : bt (gi σ (b + 14) j) p = true
      · rw [if_pos q, q]; decide
      · rw [if_neg q, Bool.eq_false_iff.mpr q]; decide
    · by_cases q : bt (gi σ (b + 14) j) p = true
      · rw [if_pos q, h1 i hi]; simp [e]
      · rw [if_neg q, b_0]; simp [e]
  rw [hx]
  rcases h11 with ⟨a, c⟩ | ⟨a, c⟩
  · rw [if_pos a, c]
  · rw [if_neg (by rw [a]; decide), c]
theorem e_tired0 (N : Nat) (hN : 10 ≤ N) {b : Nat} {σ : Mem} {α : Nat → Int32} (h : Rb b σ α) {p : Nat} (hp : p < 12) : f_X0_tired N b (nI p) σ = some (α (90 + 3 * p) + α (90 + 3 * p + 1) + α (90 + 3 * p + 2), σ) := by
  unfold f_X0_tired
  rw [← nI_0, e_tb N hN b _ (by decide), bd_some, if_neg (by decide), if_neg (by decide), if_neg (by decide)]
  show some (rbit σ b p 0 + rbit σ b p 1 + rbit σ b p 2, σ) = _
  rw [h.rb1 hp (by decide), h.rb1 hp (by decide), h.rb1 hp (by decide)]
  rfl
theorem e_tiredM (N : Nat) {p : Nat} (hp : p < 12) (s : Mem) : f_X10_tired N (nI p) s = some (gi s 1 (90 + 3 * p) + gi s 1 (90 + 3 * p + 1) + gi s 1 (90 + 3 * p + 2), s) := by
  unfold f_X10_tired
  rw [li_90, li_3, pk_mul, nI_add, li_1, li_2, nI_add, nI_add, chk_n (by omega) (by decide), chk_n (by omega) (by decide), chk_n (by omega) (by decide), ix_n (by omega), ix_n (by omega), ix_n (by omega)]
theorem s_toldAt (N : Nat) {σ τ : Mem} (hp : Rp σ τ) (hn : Rn σ τ) (x1 x2 : Int32) : ∃ r, f_X9_toldAt N x1 x2 σ = some (r, σ) ∧ f_X10_toldAt N x1 x2 τ = some (r, τ) := by
  unfold f_X9_toldAt f_X10_toldAt
  simp only [e_told0, e_told3, e_isParish, e_isLetterM, bd_some, ite10]
  rw [← hp.1, show gi τ 1 146 = gi σ 32 1 from hn.1.1.2.1.symm]
  by_cases h1 : inR x1 0 5 ∧ hb (gi σ 32 1) x1
  · by_cases h2 : inR x2 0 11 ∧ hb (gi σ 3 0) x2
    · rw [if_pos h1, if_pos h2, if_pos h1, if_pos h2]
      obtain ⟨k, -, hk', rfl⟩ := inR_n (a := 0) (b := 5) rfl rfl (by decide) (by decide) h1.1
      obtain ⟨p, -, hp', rfl⟩ := inR_n (a := 0) (b := 11) rfl rfl (by decide) (by decide) h2.1
      simp (disch := omega) only [chk_n, ix_n, e_hasBit, bd_some, ite10, e_isKnown, e_known]
      have h9 := hn.1.2.2.1 k p (by omega) (by omega)
      rcases h9 with ⟨a, b, c⟩ | ⟨a, b⟩
      · rw [if_pos ((hb_iff _ (by omega)).mpr a), if_neg (show ¬ gi τ 1 (12 + 12 * k + p) = -1 from b), if_neg (by decide)]
        exact ⟨gi τ 1 (12 + 12 * k + p), by rw [show 39 + 1 + k = 32 + 8 + k by omega, c]; rfl, rfl⟩
      · rw [if_neg (fun q => by rw [hb_iff _ (by omega), a] at q; cases q), if_pos (show gi τ 1 (12 + 12 * k + p) = -1 from b), if_pos rfl]
        exact ⟨_, rfl, rfl⟩
    · rw [if_pos h1, if_neg h2, if_pos h1, if_neg h2]
      exact ⟨_, rfl, rfl⟩
  · rw [if_neg h1, if_neg h1]
    exact ⟨_, rfl, rfl⟩
theorem sl_knownSet (N : Nat) {k p : Nat} (hk : k < 6) (hp : p < 12) (rec : Int32 → Int32 → Mem → Option (Int32 × Mem)) (a : Int32) (s : Mem) : st_X10_knownSet_4 N (nI k) rec a (nI p) s = rec (if (!decide (gi s 1 (12 + 12 * k + p) = -1)) = true then a ||| ((1 : Int32) <<< (nI p &&& 31)) else a) (nI (p + 1)) s := by
  unfold st_X10_knownSet_4
  rw [if_neg (by rw [li_12]; exact nI_ge hp (by decide)), e_isKnown N hk hp, bd_some]
  simp only [lt_e, nI_1, Int32.or_zero]
  by_cases h : gi s 1 (12 + 12 * k + p) = -1
  · rw [if_pos h, if_pos rfl, if_neg (by simp [h])]
  · rw [if_neg h, if_neg (by decide), if_pos (by simp [h])]
theorem lp_knownSet (N : Nat) {k : Nat} (hk : k < 6) : ∀ (n p M : Nat) (a : Int32) (s : Mem), p + n = 12 → n < M → itr (fun _ _ _ => none) (st_X10_knownSet_4 N (nI k)) M a (nI p) s = some (bsf (fun p => !decide (gi s 1 (12 + 12 * k + p) = -1)) n p a, s)
  | n, p, 0, a, s, _, h2 => absurd h2 (by omega)
  | 0, p, M + 1, a, s, h1, _ => by
    rw [show p = 12 by omega]
    show st_X10_knownSet_4 N (nI k) _ a (nI 12) s = _
    unfold st_X10_knownSet_4
    rw [if_pos (by decide)]
    rfl
  | n + 1, p, M + 1, a, s, h1, h2 => (sl_knownSet N hk (by omega) _ a s).trans (lp_knownSet N hk n (p + 1) M _ s (by omega) (by omega))
theorem s_letterIs (N : Nat) (hN : 20 ≤ N) {σ τ : Mem} (hn : Rn σ τ) (x1 x2 : Int32) : ∃ r, f_X9_letterIs N x1 x2 σ = some (r, σ) ∧ f_X10_letterIs N x1 x2 τ = some (r, τ) := by
  unfold f_X9_letterIs f_X10_letterIs
  simp only [e_told0, e_isLetterM, bd_some, ite10]
  rw [show gi τ 1 146 = gi σ 32 1 from hn.1.1.2.1.symm]
  by_cases h1 : inR x1 0 5 ∧ hb (gi σ 32 1) x1
  · rw [if_pos h1, if_pos h1]
    obtain ⟨k, -, hk', rfl⟩ := inR_n (a := 0) (b := 5) rfl rfl (by decide) (by decide) h1.1
    obtain ⟨c1, c2, c3, c4⟩ := hn.1.2.1 k (by omega)
    rw [li_126, li_132, li_138, li_84]
    simp (disch := omega) only [nI_add, chk_n, ix_n, e_force0, e_has, bd_some, ite10, ck_144_151, ix_144]
    rw [show gi τ 1 144 = gi σ 32 2 from hn.1.1.2.2.1.symm]
    by_cases q0 : x2 = 0
    · rw [if_pos q0, if_pos q0]; exact ⟨_, rfl, by rw [show gi σ 34 k = gi τ 1 (126 + k) from c1]⟩
    rw [if_neg q0, if_neg q0]
    by_cases q1 : x2 = 1
    · rw [if_pos q1, if_pos q1]; exact ⟨_, rfl, by rw [show gi σ 35 k = gi τ 1 (132 + k) from c2]⟩
    rw [if_neg q1, if_neg q1]
    by_cases q2 : x2 = 2
    · rw [if_pos q2, if_pos q2]; exact ⟨_, rfl, by rw [show gi σ 36 k = gi τ 1 (138 + k) from c3]⟩
    rw [if_neg q2, if_neg q2]
    by_cases q3 : x2 = 3
    · rw [if_pos q3, if_pos q3]
      by_cases q : hb (gi σ 32 2) (nI k)
      · rw [if_pos ⟨h1.1, q⟩, if_pos q]; exact ⟨_, rfl, rfl⟩
      · rw [if_neg (fun w => q w.2), if_neg q]; exact ⟨_, rfl, rfl⟩
    rw [if_neg q3, if_neg q3]
    by_cases q4 : x2 = 4
    · rw [if_pos q4, if_pos q4]
      unfold f_X10_knownSet
      rw [← nI_0, lp_knownSet N (by omega) 12 0 N _ τ (by omega) (by omega), bd_some]
      refine ⟨_, rfl, ?_⟩
      congr 2
      apply b_ext
      intro i hi
      rw [nI_0, bsf_bt _ 12 0 0 i (by omega) hi, b_0]
      by_cases hi2 : i < 12
      · rcases hn.1.2.2.1 k i (by omega) hi2 with ⟨a, b, -⟩ | ⟨a, b⟩
        · rw [show bt (gi σ 37 k) i = true from a]
          simp [hi2, show ¬ gi τ 1 (12 + 12 * k + i) = -1 from b]
        · rw [show bt (gi σ 37 k) i = false from a]
          simp [show gi τ 1 (12 + 12 * k + i) = -1 from b]
      · rw [show bt (gi σ 37 k) i = false from hn.1.2.2.2.1 k i (by omega) (by omega) hi]
        simp [hi2]
    rw [if_neg q4, if_neg q4]
    by_cases q5 : x2 = 5
    · rw [if_pos q5, if_pos q5]; exact ⟨_, rfl, by rw [show gi σ 38 k = gi τ 1 (84 + k) from c4]⟩
    rw [if_neg q5, if_neg q5]
    exact ⟨_, rfl, rfl⟩
  · rw [if_neg h1, if_neg h1]
    exact ⟨_, rfl, rfl⟩
theorem sl_lettersAt (N : Nat) {c : Nat} (hc : lenC c = 6) {p k : Nat} (hp : p < 12) (hk : k < 6) (rec : Int32 → Int32 → Mem → Option (Int32 × Mem)) (a : Int32) (s : Mem) : st_X9_lettersAt_4 N c (nI p) rec a (nI k) s = rec (if bt (gi s c k) p = true then a ||| ((1 : Int32) <<< (nI k &&& 31)) else a) (nI (k + 1)) s := by
  unfold st_X9_lettersAt_4
  rw [if_neg (by rw [li_6]; exact nI_ge hk (by decide)), hc, if_neg (nI_ge hk (by decide)), chk_n hk (by decide), ix_n (by omega), e_hasBit, bd_some, ite10]
  simp only [lt_e, nI_1]
  by_cases h : bt (gi s c k) p = true
  · rw [if_pos ((hb_iff _ (by omega)).mpr h), if_pos h]
  · rw [if_neg (fun q => h ((hb_iff _ (by omega)).mp q)), if_neg h]
theorem lp_lettersAt (N : Nat) {c : Nat} (hc : lenC c = 6) {p : Nat} (hp : p < 12) : ∀ (n k M : Nat) (a : Int32) (s : Mem), k + n = 6 → n < M → itr (fun _ _ _ => none) (st_X9_lettersAt_4 N c (nI p)) M a (nI k) s = some (bsf (fun k => bt (gi s c k) p) n k a, s)
  | n, k, 0, a, s, _, h2 => absurd h2 (by omega)
  | 0, k, M + 1, a, s, h1, _ => by
    rw [show k = 6 by omega]
    show st_X9_lettersAt_4 N c (nI p) _ a (nI 6) s = _
    unfold st_X9_lettersAt_4
    rw [if_pos (by decide)]
    rfl
  | n + 1, k, M + 1, a, s, h1, h2 => (sl_lettersAt N hc hp (by omega) _ a s).trans (lp_lettersAt N hc hp n (k + 1) M _ s (by omega) (by omega))
/-- what the reference asks of letter k at parish p: known (2), read (3) -/
def piF (s : Mem) (p : Nat) (w : Int32) (k : Nat) : Bool := bt (gi s 1 146) k && (if w = 2 then !decide (gi s 1 (12 + 12 * k + p) = -1) else bt (gi s 1 (84 + k)) p)
theorem sl_parishIs (N : Nat) {p k : Nat} (hp : p < 12) (hk : k < 6) (w : Int32) (rec : Int32 → Int32 → Mem → Option (Int32 × Mem)) (a : Int32) (s : Mem) : st_X10_parishIs_50 N (nI p) w rec a (nI k) s = rec (if piF s p w k = true then a ||| ((1 : Int32) <<< (nI k &&& 31)) else a) (nI (k + 1)) s := by
  unfold st_X10_parishIs_50
  rw [if_neg (by rw [li_6]; exact nI_ge hk (by decide)), e_isKnown N hk hp]
  simp only [lt_e, bd_some, e_isLetterM, ite10, nI_1]
  rw [li_84, nI_add, chk_n (by omega) (by decide), ix_n (by omega), e_has, bd_some]
  have hin : inR (nI k) 0 5 := inR_of (a := 0) (b := 5) (by omega) (by omega) (by decide)
  unfold piF
  by_cases ht : bt (gi s 1 146) k = true
  · have ht2 : inR (nI k) 0 5 ∧ hb (gi s 1 146) (nI k) := ⟨hin, (hb_iff _ (by omega)).mpr ht⟩
    simp only [if_pos ht2]
    rw [ht]
    by_cases hw : w = 2
    · rw [if_pos hw, if_pos hw]
      by_cases h : gi s 1 (12 + 12 * k + p) = -1
      · rw [if_pos h, if_pos rfl, if_neg (by simp [h])]
      · rw [if_neg h, if_neg (by decide), if_pos (by simp [h])]
    · rw [if_neg hw, if_neg hw, ite10]
      by_cases h : bt (gi s 1 (84 + k)) p = true
      · rw [if_pos ((hb_iff _ (by omega)).mpr h), if_pos (by simp [h])]
      · rw [if_neg (fun q => h ((hb_iff _ (by omega)).mp q)), if_neg (by simp [h])]
  · have ht2 : ¬ (inR (nI k) 0 5 ∧ hb (gi s 1 146) (nI k)) := fun q => ht ((hb_iff _ (by omega)).mp q.2)
    simp only [if_neg ht2]
    rw [Bool.eq_false_iff.mpr ht, Bool.false_and, if_neg (show ¬ false = true by decide)]
    by_cases hw : w = 2
    · rw [if_pos hw]
    · rw [if_neg hw]
theorem lp_parishIs (N : Nat) {p : Nat} (hp : p < 12) (w : Int32) : ∀ (n k M : Nat) (a : Int32) (s : Mem), k + n = 6 → n < M → itr (fun _ _ _ => none) (st_X10_parishIs_50 N (nI p) w) M a (nI k) s = some (bsf (piF s p w) n k a, s)
  | n, k, 0, a, s, _, h2 => absurd h2 (by omega)
  | 0, k, M + 1, a, s, h1, _ => by
    rw [show k = 6 by omega]
    show st_X10_parishIs_50 N (nI p) w _ a (nI 6) s = _
    unfold st_X10_parishIs_50
    rw [if_pos (by decide)]
    rfl
  | n + 1, k, M + 1, a, s, h1, h2 => (sl_parishIs N hp (by omega) w _ a s).trans (lp_parishIs N hp w n (k + 1) M _ s (by omega) (by omega))
theorem s_parishIs (N : Nat) (hN : 20 ≤ N) {σ τ : Mem} (hp : Rp σ τ) (hn : Rn σ τ) (x1 x2 : Int32) : ∃ r, f_X9_parishIs N x1 x2 σ = some (r, σ) ∧ f_X10_parishIs N x1 x2 τ = some (r, τ) := by
  unfold f_X9_parishIs f_X10_parishIs
  simp only [e_told3, e_isParish, e_in, bd_some, ite10]
  rw [← hp.1]
  by_cases h1 : inR x1 0 11 ∧ hb (gi σ 3 0) x1
  · rw [if_pos h1, if_pos h1]
    obtain ⟨p, -, hp', rfl⟩ := inR_n (a := 0) (b := 11) rfl rfl (by decide) (by decide) h1.1
    have hp2 : p < 12 := by omega
    obtain ⟨hb32, hinv, -⟩ := hn
    rw [e_tired0 N (by omega) hb32 hp2, e_tiredM N hp2, Int32.zero_add, chk_n hp2 (by decide), chk_n (by omega) (by decide), ix_n (by omega), bd_some, bd_some]
    unfold f_X9_lettersAt
    rw [← nI_0, lp_lettersAt N (c := 37) rfl hp2 6 0 N _ σ (by omega) (by omega), lp_lettersAt N (c := 38) rfl hp2 6 0 N _ σ (by omega) (by omega), lp_parishIs N hp2 x2 6 0 N _ τ (by omega) (by omega), bd_some, bd_some]
    by_cases q0 : x2 = nI 0
    · subst q0
      rw [if_pos rfl, if_pos (by decide), if_neg (by decide), if_pos rfl]
      exact ⟨_, rfl, by rw [show gi σ 33 p = gi τ 1 p from hb32.1.1 p hp2]⟩
    rw [if_neg q0]
    by_cases q1 : x2 = 1
    · subst q1
      rw [if_pos rfl, if_pos (by decide), if_neg (by decide), if_neg (by decide)]
      exact ⟨_, rfl, rfl⟩
    rw [if_neg q1]
    by_cases q2 : x2 = 2
    · subst q2
      rw [if_pos rfl, if_pos (by decide), if_pos (by decide)]
      refine ⟨_, rfl, ?_⟩
      rw [bsf_congr (g := fun k => bt (gi σ 37 k) p) 6 0 (nI 0) (fun k _ hk => ?_)]
      unfold piF
      rw [if_pos rfl]
      rcases hb32.2.2.1 k p (by omega) hp2 with ⟨a, b, -⟩ | ⟨a, b⟩
      · rw [show bt (gi σ 37 k) p = true from a]
        by_cases ht : bt (gi τ 1 146) k = true
        · rw [ht]; simp [show ¬ gi τ 1 (12 + 12 * k + p) = -1 from b]
        · exact absurd ((hinv.2.2.2.2 k (by omega) (Bool.eq_false_iff.mpr ht)).1 p hp2) b
      · rw [show bt (gi σ 37 k) p = false from a]
        simp [show gi τ 1 (12 + 12 * k + p) = -1 from b]
    rw [if_neg q2]
    by_cases q3 : x2 = 3
    · subst q3
      rw [if_pos rfl, if_pos (by decide), if_pos (by decide)]
      refine ⟨_, rfl, ?_⟩
      rw [bsf_congr (g := fun k => bt (gi σ 38 k) p) 6 0 (nI 0) (fun k _ hk => ?_)]
      unfold piF
      rw [if_neg (by decide), show gi σ 38 k = gi τ 1 (84 + k) from (hb32.2.1 k (by omega)).2.2.2]
      by_cases ht : bt (gi τ 1 146) k = true
      · rw [ht]; simp
      · rw [show gi τ 1 (84 + k) = 0 from (hinv.2.2.2.2 k (by omega) (Bool.eq_false_iff.mpr ht)).2.1, b_0]; simp
    rw [if_neg q3, if_neg (fun q => ?_)]
    · exact ⟨_, rfl, rfl⟩
    · obtain ⟨n, -, hn3, rfl⟩ := inR_n (a := 0) (b := 3) rfl rfl (by decide) (by decide) q
      rcases (show n = 0 ∨ n = 1 ∨ n = 2 ∨ n = 3 by omega) with rfl | rfl | rfl | rfl
      · exact q0 rfl
      · exact q1 rfl
      · exact q2 rfl
      · exact q3 rfl
  · rw [if_neg h1, if_neg h1]
    exact ⟨_, rfl, rfl⟩
