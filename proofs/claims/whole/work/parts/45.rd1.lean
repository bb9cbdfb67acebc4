/-! the two readers of a text: their small methods -/
/-- what stands at a place of the text -/
def hr (txt : Nat → Nat) (n i : Nat) : Int32 := if i < n then nI (txt i) else -1
def Tx (txt : Nat → Nat) (n : Nat) : Prop := n ≤ 240 ∧ ∀ j, j < n → txt j < 256
theorem hr_in {txt : Nat → Nat} {n i : Nat} (h : i < n) : hr txt n i = nI (txt i) := if_pos h
theorem hr_out {txt : Nat → Nat} {n i : Nat} (h : ¬ i < n) : hr txt n i = -1 := if_neg h
theorem nI_nm1 {k : Nat} (h : k < 2 ^ 31) : ¬ (-1 : Int32) = nI k := fun q => nI_ne_m1 h q.symm
/-- a sign that stands there: the place is within the text -/
theorem hr_pos {txt : Nat → Nat} {n i k : Nat} (hk : k < 2 ^ 31) (h : hr txt n i = nI k) : i < n := by
  by_cases q : i < n
  · exact q
  · rw [hr_out q] at h; exact absurd h (nI_nm1 hk)
-- the class's reader: what stands fast, what moves, what is kept
def CT (b n : Nat) (txt : Nat → Nat) (σ : Mem) : Prop := (gi σ 93 0 = 2 ∧ gi σ 93 1 = nI n ∧ gi σ 93 4 = nI b) ∧ ∀ j, j < n → gi σ 2 j = nI (txt j)
def CD (b : Nat) (σ : Mem) (i : Nat) (F : Int32) (c : Nat) : Prop := gi σ 93 2 = nI i ∧ gi σ 93 3 = F ∧ gi σ b 6 = nI c
def CF (b c : Nat) (σ σ' : Mem) : Prop := ∀ c' i', ¬ (c' = 93 ∧ (i' = 2 ∨ i' = 3)) → ¬ (c' = b ∧ i' = 6) → ¬ (c' = b + 5 ∧ c ≤ i') → gi σ' c' i' = gi σ c' i'
theorem CF.rf (b c : Nat) (σ : Mem) : CF b c σ σ := fun _ _ _ _ _ => rfl
theorem CF.tr {b c c1 : Nat} {σ σ1 σ2 : Mem} (h : CF b c σ σ1) (h1 : CF b c1 σ1 σ2) (hc : c ≤ c1) : CF b c σ σ2 := fun c' i' a d e => (h1 c' i' a d (by omega)).trans (h c' i' a d e)
theorem CT.fr {b n c : Nat} {txt : Nat → Nat} {σ σ' : Mem} (hb : isLw b = true) (h : CT b n txt σ) (f : CF b c σ σ') : CT b n txt σ' := by
  have hb' := isLw_or hb
  obtain ⟨⟨a, d, e⟩, t⟩ := h
  refine ⟨⟨?_, ?_, ?_⟩, fun j hj => ?_⟩
  · rw [f _ _ (by omega) (by omega) (by omega)]; exact a
  · rw [f _ _ (by omega) (by omega) (by omega)]; exact d
  · rw [f _ _ (by omega) (by omega) (by omega)]; exact e
  · rw [f _ _ (by omega) (by omega) (by omega)]; exact t j hj
theorem CF.at' (b c : Nat) (σ : Mem) (v : Int32) : CF b c σ (si σ 93 2 v) := fun c' i' a d e => by
  rw [gi_si, if_neg (by omega)]
theorem CF.ft (b c : Nat) (σ : Mem) (v : Int32) : CF b c σ (si σ 93 3 v) := fun c' i' a d e => by
  rw [gi_si, if_neg (by omega)]
theorem CF.ad (b c : Nat) (σ : Mem) {q : Nat} (hq : c ≤ q) (v w : Int32) : CF b c σ (si (si σ (b + 5) q v) b 6 w) := fun c' i' a d e => by
  rw [gi_si, if_neg (by omega), gi_si, if_neg (by omega)]
-- the reference's
def RT (n : Nat) (txt : Nat → Nat) (τ : Mem) : Prop := gi τ 0 7 = nI n ∧ ∀ j, j < n → gi τ 5 j &&& 255 = nI (txt j)
def RD (τ : Mem) (i o r w : Nat) : Prop := gi τ 0 6 = nI i ∧ gi τ 0 10 = nI o ∧ gi τ 0 11 = nI r ∧ gi τ 0 12 = nI w
def RF (r w : Nat) (τ τ' : Mem) : Prop := ∀ c' i', ¬ (c' = 0 ∧ (i' = 6 ∨ i' = 8 ∨ i' = 9 ∨ i' = 10 ∨ i' = 11 ∨ i' = 12)) → ¬ (c' = 6 ∧ r ≤ i') → ¬ (c' = 7 ∧ w ≤ i') → gi τ' c' i' = gi τ c' i'
theorem RF.rf (r w : Nat) (τ : Mem) : RF r w τ τ := fun _ _ _ _ _ => rfl
theorem RF.tr {r w r1 w1 : Nat} {τ τ1 τ2 : Mem} (h : RF r w τ τ1) (h1 : RF r1 w1 τ1 τ2) (hr : r ≤ r1) (hw : w ≤ w1) : RF r w τ τ2 := fun c' i' a d e => (h1 c' i' a (by omega) (by omega)).trans (h c' i' a d e)
theorem RF.up {r w r1 w1 : Nat} {τ τ1 : Mem} (h : RF r1 w1 τ τ1) (hr : r ≤ r1) (hw : w ≤ w1) : RF r w τ τ1 := fun c' i' a d e => h c' i' a (by omega) (by omega)
theorem RT.fr {n r w : Nat} {txt : Nat → Nat} {τ τ' : Mem} (h : RT n txt τ) (f : RF r w τ τ') : RT n txt τ' := by
  refine ⟨?_, fun j hj => ?_⟩
  · rw [f _ _ (by omega) (by omega) (by omega)]; exact h.1
  · rw [f _ _ (by omega) (by omega) (by omega)]; exact h.2 j hj
theorem RF.f0 (r w : Nat) (τ : Mem) {k : Nat} (hk : k = 6 ∨ k = 8 ∨ k = 9 ∨ k = 10 ∨ k = 11 ∨ k = 12) (v : Int32) : RF r w τ (si τ 0 k v) := fun c' i' a d e => by
  rw [gi_si, if_neg (by omega)]
theorem RF.f6 (r w : Nat) (τ : Mem) {k : Nat} (hk : r ≤ k) (v : Int32) : RF r w τ (si τ 6 k v) := fun c' i' a d e => by
  rw [gi_si, if_neg (by omega)]
theorem RF.f7 (r w : Nat) (τ : Mem) {k : Nat} (hk : w ≤ k) (v : Int32) : RF r w τ (si τ 7 k v) := fun c' i' a d e => by
  rw [gi_si, if_neg (by omega)]
-- what stands here
theorem e_hereC (N : Nat) {b n i c : Nat} {F : Int32} {txt : Nat → Nat} {σ : Mem} (hn : n ≤ 240) (hi : i ≤ n) (h : CT b n txt σ) (hd : CD b σ i F c) : f_X6_here N σ = some (hr txt n i, σ) := by
  obtain ⟨⟨a, d, e⟩, t⟩ := h
  unfold f_X6_here
  rw [hd.1, d, if_neg (nI_pos (by omega))]
  by_cases hi2 : i < n
  · rw [if_neg (nI_ge hi2 (by omega)), a, hr_in hi2]
    simp only [lt_p]
    rw [show ix (2 : Int32) = 2 from rfl, show isAr 2 = true from rfl, ckc_t, show lenC 2 = 260 from rfl, if_neg (nI_ge (by omega) (by decide)), ckc_t, chk_n (by omega) (by decide), ix_n (by omega), t i hi2]
  · rw [if_pos (nI_le (by omega) (by omega)), hr_out hi2]
theorem e_hereM (N : Nat) {n i o r w : Nat} {txt : Nat → Nat} {τ : Mem} (hn : n ≤ 240) (hi : i ≤ n) (h : RT n txt τ) (hd : RD τ i o r w) : f_X10_here N τ = some (hr txt n i, τ) := by
  unfold f_X10_here
  rw [hd.1, h.1]
  by_cases hi2 : i < n
  · rw [if_neg (nI_ge hi2 (by omega)), chk_n (by omega) (by decide), ix_n (by omega), h.2 i hi2, hr_in hi2]
  · rw [if_pos (nI_le (by omega) (by omega)), hr_out hi2]
-- faults
def flt (x i : Nat) : Int32 := ((-1000) : Int32) * nI x - nI i
theorem flt_ne {x i : Nat} (h1 : 1 ≤ x) (h2 : x ≤ 7) (hi : i ≤ 240) : ¬ flt x i = 0 := fun q => by
  have h : ∀ x, x < 8 → 1 ≤ x → ((-1000) : Int32) * nI x = -(nI (1000 * x)) := by decide +kernel
  unfold flt at q
  rw [h x (by omega) h1] at q
  have q2 := congrArg (fun y => y + nI i) q
  simp only [Int32.sub_add_cancel, Int32.zero_add] at q2
  have q3 := congrArg (fun y => nI (1000 * x) + y) q2
  simp only [Int32.add_right_neg] at q3
  rw [nI_add] at q3
  have q4 : nI 0 = nI (1000 * x + i) := q3
  have := (nI_eq (by omega) (by omega)).mp q4
  omega
theorem flt_neg {x i : Nat} (h1 : 1 ≤ x) (h2 : x ≤ 7) (hi : i ≤ 240) : flt x i < 0 := by
  have h : ∀ x, x < 8 → 1 ≤ x → ((-1000) : Int32) * nI x = -(nI (1000 * x)) := by decide +kernel
  unfold flt
  rw [h x (by omega) h1, Int32.lt_iff_toInt_lt, Int32.toInt_sub, Int32.toInt_neg, nI_toInt (by omega), nI_toInt (by omega), Int32.toInt_zero]
  rw [Int.bmod_eq_of_le (n := -((1000 * x : Nat) : Int)) (by omega) (by omega)]
  rw [Int.bmod_eq_of_le (by omega) (by omega)]
  omega
theorem e_failC (N : Nat) {b i c : Nat} {σ : Mem} (x : Nat) (hd : CD b σ i 0 c) : f_X6_fail N (nI x) σ = some ((), si σ 93 3 (flt x i)) := by
  unfold f_X6_fail
  rw [if_pos hd.2.1, hd.1]
  rfl
theorem e_failF (N : Nat) {b i c : Nat} {F x : Int32} {σ : Mem} (hF : ¬ F = 0) (hd : gi σ 93 3 = F) : f_X6_fail N x σ = some ((), σ) := by
  unfold f_X6_fail
  rw [if_neg (by rw [hd]; exact hF)]
theorem e_wrongAt (N x i : Nat) (τ : Mem) : f_X10_wrongAt N (nI x) (nI i) τ = some (0, si τ 0 8 (flt x i)) := rfl
-- digits
theorem e_digC (N : Nat) {x : Nat} (hx : x < 256) (s : Mem) : f_X9_isDigit N (nI x) s = some (if 48 ≤ x ∧ x ≤ 57 then 1 else 0, s) := by
  unfold f_X9_isDigit
  by_cases h1 : x < 48
  · rw [if_pos (show nI x < 48 from nI_lt (b := 48) h1 (by decide)), if_neg (by omega)]
  · rw [if_neg (show ¬ nI x < 48 from nI_nlt (b := 48) (by omega) (by omega))]
    by_cases h2 : 57 < x
    · rw [if_pos (show (57 : Int32) < nI x from nI_lt (a := 57) h2 (by omega)), if_neg (by omega)]
    · rw [if_neg (show ¬ (57 : Int32) < nI x from nI_nlt (a := 57) (by omega) (by decide)), if_pos (by omega)]
theorem e_digC_m (N : Nat) (s : Mem) : f_X9_isDigit N (-1) s = some (0, s) := by
  unfold f_X9_isDigit
  rw [if_pos (by decide)]
/-- a digit stands there -/
def isD (txt : Nat → Nat) (n i : Nat) : Prop := i < n ∧ 48 ≤ txt i ∧ txt i ≤ 57
theorem e_digH (N : Nat) {n i : Nat} {txt : Nat → Nat} (hT : Tx txt n) (s : Mem) : (isD txt n i → f_X9_isDigit N (hr txt n i) s = some (1, s)) ∧ (¬ isD txt n i → f_X9_isDigit N (hr txt n i) s = some (0, s)) := by
  by_cases h : i < n
  · rw [hr_in h, e_digC N (hT.2 i h)]
    exact ⟨fun q => by rw [if_pos q.2], fun q => by rw [if_neg (fun z => q ⟨h, z⟩)]⟩
  · rw [hr_out h, e_digC_m]
    exact ⟨fun q => absurd q.1 h, fun _ => rfl⟩
theorem e_digM (N : Nat) {n i o r w : Nat} {txt : Nat → Nat} {τ : Mem} (hT : Tx txt n) (hi : i ≤ n) (h : RT n txt τ) (hd : RD τ i o r w) : (isD txt n i → f_X10_isDigit N τ = some (1, τ)) ∧ (¬ isD txt n i → f_X10_isDigit N τ = some (0, τ)) := by
  have e : f_X10_isDigit N τ = f_X9_isDigit N (hr txt n i) τ := by
    unfold f_X10_isDigit f_X9_isDigit
    rw [e_hereM N hT.1 hi h hd]
    simp only [bd_some]
    rw [e_hereM N hT.1 hi h hd]
    simp only [bd_some]
  rw [e]
  exact e_digH N hT τ
-- the signs of a text
theorem lp_idx (N k : Nat) (L : Nat) (hL : L = lenS k) (hL2 : L ≤ 7) (x : Int32) : ∀ (m p M : Nat) (s : Mem), p + m = L → m < M → ∃ r, itr (fun _ _ => none) (st_J1_indexOfChar_4cfef_7 N k (nI L) x) M (nI p) s = some (r, s) ∧ ((r < 0 ∧ ∀ q, p ≤ q → q < L → ¬ bytC k q = x) ∨ (¬ r < 0 ∧ ∃ q, p ≤ q ∧ q < L ∧ bytC k q = x))
  | m, p, 0, s, _, h2 => absurd h2 (by omega)
  | 0, p, M + 1, s, h1, _ => by
    refine ⟨-1, ?_, Or.inl ⟨by decide, fun q a b => by omega⟩⟩
    show st_J1_indexOfChar_4cfef_7 N k (nI L) x _ (nI p) s = _
    unfold st_J1_indexOfChar_4cfef_7
    rw [if_pos (nI_le (by omega) (by omega))]
  | m + 1, p, M + 1, s, h1, h2 => by
    have e : itr (fun _ _ => none) (st_J1_indexOfChar_4cfef_7 N k (nI L) x) (M + 1) (nI p) s = if bytC k p = x then some (nI p, s) else itr (fun _ _ => none) (st_J1_indexOfChar_4cfef_7 N k (nI L) x) M (nI (p + 1)) s := by
      show st_J1_indexOfChar_4cfef_7 N k (nI L) x _ (nI p) s = _
      generalize itr (fun _ _ => none) (st_J1_indexOfChar_4cfef_7 N k (nI L) x) M = rec
      unfold st_J1_indexOfChar_4cfef_7
      simp only [lt_p]
      rw [if_neg (nI_ge (by omega) (by omega)), ← hL, chk_n (by omega) (by omega), ix_n (by omega), nI_1]
    rw [e]
    by_cases hx : bytC k p = x
    · rw [if_pos hx]
      exact ⟨_, rfl, Or.inr ⟨nI_pos (by omega), p, by omega, by omega, hx⟩⟩
    · rw [if_neg hx]
      obtain ⟨r, e1, e2⟩ := lp_idx N k L hL hL2 x m (p + 1) M s (by omega) (by omega)
      refine ⟨r, e1, ?_⟩
      rcases e2 with ⟨a, d⟩ | ⟨a, q, q1, q2, q3⟩
      · refine Or.inl ⟨a, fun q q1 q2 => ?_⟩
        by_cases z : q = p
        · rw [z]; exact hx
        · exact d q (by omega) q2
      · exact Or.inr ⟨a, q, by omega, q2, q3⟩
theorem bytC_8 : ∀ x, x < 256 → (nI x).toInt8.toInt32 = nI x ∨ 128 ≤ x := by decide +kernel
def inS (k x : Nat) : Prop := ∃ q, q < lenS k ∧ bytC k q = nI x
theorem e_isOf (N : Nat) (hN : 10 ≤ N) {k x : Nat} (hk : k < 5) (hx : x < 256) (s : Mem) : (inS k x → f_X6_isOf N k (nI x) s = some (1, s)) ∧ (¬ inS k x → f_X6_isOf N k (nI x) s = some (0, s)) := by
  have hlen : ∀ k, k < 5 → lenS k ≤ 7 ∧ 0 < lenS k := by decide
  obtain ⟨l1, l2⟩ := hlen k hk
  have h0 : ∀ k, k < 5 → ∀ q, q < 7 → q < lenS k → ¬ bytC k q = nI 0 := by decide +kernel
  unfold f_X6_isOf
  by_cases hx0 : x = 0
  · subst hx0
    rw [if_pos (show nI 0 ≤ 0 from by decide)]
    exact ⟨fun q => by obtain ⟨q, q1, q2⟩ := q; exact absurd q2 (h0 k hk q (by omega) q1), fun _ => rfl⟩
  · rw [if_neg (nI_nle (by omega) (by omega))]
    have ec : ((nI x).toUInt32 % 65536).toInt32 = nI x := by
      rw [pk_char, pk_tn (by omega), Nat.mod_eq_of_lt (by omega)]
    rw [ec]
    unfold f_J0_indexOf_0f7a4 f_J0_indexOf_7cf53 f_J0_isLatin1_aae02 f_J0_length_8abf5 f_J0_coder_7d493
    rw [if_neg (show ¬ (1 : Int32) = 0 by decide), if_pos rfl, bd_some, if_neg (show ¬ (1 : Int32) = 0 by decide), if_neg (show ¬ (1 : Int32) = 0 by decide), bd_some, bd_some]
    have es : nI (lenS k) >>> ((0 : Int32) &&& 31) = nI (lenS k) := by
      have : ∀ k, k < 5 → nI (lenS k) >>> ((0 : Int32) &&& 31) = nI (lenS k) := by decide +kernel
      exact this k hk
    rw [es]
    unfold f_J1_indexOf_4cfef f_J1_canEncode_9a6ad
    rw [if_neg (nI_pos (by omega)), if_neg (show ¬ (255 : Int32) < nI x from nI_nlt (a := 255) (by omega) (by decide)), bd_some, if_neg (show ¬ (1 : Int32) = 0 by decide)]
    simp only [lt_p]
    have em : imax 0 0 = 0 := by decide
    have em2 : ∀ k, k < 5 → imin (nI (lenS k)) (nI (lenS k)) = nI (lenS k) := by decide +kernel
    rw [em, em2 k hk, if_pos (show (0 : Int32) < nI (lenS k) from nI_lt (a := 0) l2 (by omega))]
    unfold f_J1_indexOfChar_4cfef
    simp only [lt_p]
    obtain ⟨r, e1, e2⟩ := lp_idx N k (lenS k) rfl l1 ((nI x).toInt8.toInt32) (lenS k) 0 N s (by omega) (by omega)
    rw [show (0 : Int32) = nI 0 from rfl, e1]
    simp only [bd_some]
    have hb : ∀ q, q < lenS k → (bytC k q = (nI x).toInt8.toInt32 ↔ bytC k q = nI x) := by
      intro q hq
      rcases bytC_8 x hx with e | e
      · rw [e]
      · have h1 : ∀ x, x < 256 → 128 ≤ x → (nI x).toInt8.toInt32 < 0 ∧ ¬ nI x < 128 := by decide +kernel
        have h2 : ∀ k, k < 5 → ∀ q, q < 7 → q < lenS k → ¬ bytC k q < 0 ∧ bytC k q < 128 := by decide +kernel
        obtain ⟨z1, z2⟩ := h1 x hx e
        obtain ⟨y1, y2⟩ := h2 k hk q (by omega) hq
        exact ⟨fun z => absurd (by rw [z]; exact z1) y1, fun z => absurd (by rw [← z]; exact y2) z2⟩
    rcases e2 with ⟨a, d⟩ | ⟨a, q, q1, q2, q3⟩
    · rw [if_pos (show r < nI 0 from a)]
      exact ⟨fun z => by obtain ⟨q, q1, q2⟩ := z; exact absurd ((hb q q1).mpr q2) (d q (by omega) q1), fun _ => rfl⟩
    · rw [if_neg (show ¬ r < nI 0 from a)]
      exact ⟨fun _ => rfl, fun z => absurd ⟨q, q2, (hb q q2).mp q3⟩ z⟩
theorem e_isOf_m (N k : Nat) (s : Mem) : f_X6_isOf N k (-1) s = some (0, s) := by
  unfold f_X6_isOf
  rw [if_pos (by decide)]
/-- one of the signs k stands there -/
def isS (k : Nat) (txt : Nat → Nat) (n i : Nat) : Prop := i < n ∧ inS k (txt i)
theorem e_isH (N : Nat) (hN : 10 ≤ N) {k n i : Nat} {txt : Nat → Nat} (hk : k < 5) (hT : Tx txt n) (s : Mem) : (isS k txt n i → f_X6_isOf N k (hr txt n i) s = some (1, s)) ∧ (¬ isS k txt n i → f_X6_isOf N k (hr txt n i) s = some (0, s)) := by
  by_cases h : i < n
  · rw [hr_in h]
    exact ⟨fun q => (e_isOf N hN hk (hT.2 i h) s).1 q.2, fun q => (e_isOf N hN hk (hT.2 i h) s).2 (fun z => q ⟨h, z⟩)⟩
  · rw [hr_out h, e_isOf_m]
    exact ⟨fun q => absurd q.1 h, fun _ => rfl⟩
-- a code more
theorem e_addC (N : Nat) {b i c : Nat} {F : Int32} {σ : Mem} (x : Int32) (hd : CD b σ i F c) (hc : c < 240) : f_X4_add N b x σ = some ((), si (si σ (b + 5) c x) b 6 (nI (c + 1))) := by
  unfold f_X4_add
  rw [hd.2.2, if_neg (show ¬ (240 : Int32) ≤ nI c from nI_ge (a := c) (b := 240) hc (by decide)), chk_n hc (by decide), ix_n (by omega)]
  simp only [lt_p]
  rw [gi_ne (by omega), hd.2.2, nI_1]
