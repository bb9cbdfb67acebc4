/-! fromWhom -/
def pick (F : Nat → Nat) (m : Int32) : Nat → Option Nat
  | 0 => none
  | n + 1 => (pick F m n).elim (if bt m n = true then some n else none) (fun b => if bt m n = true then (if F b ≤ F n then some b else some n) else some b)
theorem pick_s (F : Nat → Nat) (m : Int32) (n : Nat) : pick F m (n + 1) = (pick F m n).elim (if bt m n = true then some n else none) (fun b => if bt m n = true then (if F b ≤ F n then some b else some n) else some b) := rfl
theorem pick_no {F : Nat → Nat} {m : Int32} {n : Nat} (h : bt m n = false) : pick F m (n + 1) = pick F m n := by
  rw [pick_s, h]
  cases pick F m n <;> rfl
theorem pick_0 {F : Nat → Nat} {m : Int32} {n : Nat} (h : bt m n = true) (h2 : pick F m n = none) : pick F m (n + 1) = some n := by
  rw [pick_s, h, h2]
  rfl
theorem pick_1 {F : Nat → Nat} {m : Int32} {n b : Nat} (h : bt m n = true) (h2 : pick F m n = some b) : pick F m (n + 1) = if F b ≤ F n then some b else some n := by
  rw [pick_s, h, h2]
  rfl
theorem pick_lt {F : Nat → Nat} {m : Int32} : ∀ {n b : Nat}, pick F m n = some b → b < n ∧ bt m b = true
  | 0, b, h => nomatch h
  | n + 1, b, h => by
    by_cases q : bt m n = true
    · cases e : pick F m n with
      | none =>
        rw [pick_0 q e] at h
        cases h
        exact ⟨by omega, q⟩
      | some a =>
        have ih := pick_lt e
        rw [pick_1 q e] at h
        by_cases w : F a ≤ F n
        · rw [if_pos w] at h
          cases h
          exact ⟨by omega, ih.2⟩
        · rw [if_neg w] at h
          cases h
          exact ⟨by omega, q⟩
    · rw [pick_no (Bool.eq_false_iff.mpr q)] at h
      have ih := pick_lt h
      exact ⟨by omega, ih.2⟩
theorem pick_none {F : Nat → Nat} {m : Int32} : ∀ {n : Nat}, pick F m n = none → ∀ i, i < n → bt m i = false
  | 0, _, i, h => absurd h (by omega)
  | n + 1, h, i, hi => by
    by_cases q : bt m n = true
    · cases e : pick F m n with
      | none => rw [pick_0 q e] at h; cases h
      | some a =>
        rw [pick_1 q e] at h
        by_cases w : F a ≤ F n
        · rw [if_pos w] at h; cases h
        · rw [if_neg w] at h; cases h
    · have q' := Bool.eq_false_iff.mpr q
      rw [pick_no q'] at h
      by_cases w : i = n
      · rw [w]; exact q'
      · exact pick_none h i (by omega)
theorem pick_of {F : Nat → Nat} {m : Int32} {n : Nat} (h : ∀ i, i < n → bt m i = false) : pick F m n = none := by
  cases e : pick F m n with
  | none => rfl
  | some a =>
    have := pick_lt e
    rw [h a this.1] at this
    exact absurd this.2 (by decide)
/-- with one value everywhere the lowest is picked -/
theorem pick_const {v : Nat} {m : Int32} {l : Nat} (h : bt m l = true) (h2 : ∀ i, i < l → bt m i = false) : ∀ n, l < n → pick (fun _ => v) m n = some l
  | 0, h => absurd h (by omega)
  | n + 1, hn => by
    by_cases e : l = n
    · rw [← e]
      exact pick_0 h (pick_of h2)
    · have ih := pick_const (v := v) h h2 n (by omega)
      by_cases q : bt m n = true
      · rw [pick_1 q ih, if_pos (Nat.le_refl _)]
      · rw [pick_no (Bool.eq_false_iff.mpr q)]; exact ih
def enc (o : Option Nat) : Int32 := o.elim (-1) nI
theorem lp_fw62 (N : Nat) (x1 x3 m : Int32) (F : Nat → Nat) (K : Int32 → Mem → Option (Int32 × Mem)) (s : Mem) (hF : ∀ i, i < 6 → bt m i = true → gi s 37 i = nI (F i) ∧ F i < 2 ^ 31) : ∀ (n k M : Nat), k + n = 6 → n < M → itr (fun _ _ _ => none) (st_X10_fromWhom_62 N x1 m x3 K) M (enc (pick F m k)) (nI k) s = K (enc (pick F m 6)) s
  | n, k, 0, _, h => absurd h (by omega)
  | 0, k, M + 1, h, _ => by
    rw [show k = 6 by omega]
    show st_X10_fromWhom_62 N x1 m x3 K _ _ (nI 6) s = _
    unfold st_X10_fromWhom_62
    rw [if_pos (by decide)]
  | n + 1, k, M + 1, h, h0 => by
    have ih := lp_fw62 N x1 x3 m F K s hF n (k + 1) M (by omega) (by omega)
    show st_X10_fromWhom_62 N x1 m x3 K (itr _ _ M) _ (nI k) s = _
    rw [← ih]
    generalize itr (fun _ _ _ => none) (st_X10_fromWhom_62 N x1 m x3 K) M = rec
    unfold st_X10_fromWhom_62
    rw [if_neg (by rw [li_6]; exact nI_ge (by omega) (by decide)), e_has, bd_some, ite10]
    simp only [lt_e, nI_1]
    by_cases q : bt m k = true
    · rw [if_pos ((hb_iff _ (by omega)).mpr q)]
      cases e : pick F m k with
      | none => rw [if_pos (show enc none = -1 from rfl), pick_0 q e]; rfl
      | some b =>
        have hb := pick_lt e
        have f1 := hF k (by omega) q
        have f2 := hF b (by omega) hb.2
        show (if nI b = -1 then _ else chk _ _ (chk (nI b) _ (if gi s 37 (ix (nI b)) ≤ _ then rec (nI b) _ s else _))) = _
        rw [if_neg (nI_ne_m1 (by omega)), chk_n (by omega) (by decide), chk_n (by omega) (by decide), ix_n (by omega), ix_n (by omega), f1.1, f2.1, pick_1 q e]
        by_cases w : F b ≤ F k
        · rw [if_pos (nI_le w f1.2), if_pos w]; rfl
        · rw [if_neg (nI_ge (by omega) f2.2), if_neg w]; rfl
    · rw [if_neg (fun w => q ((hb_iff _ (by omega)).mp w)), pick_no (Bool.eq_false_iff.mpr q)]
/-- the reference's rows of distances move on by the one taken last -/
theorem lp_fw143 (N : Nat) (hN : 50 ≤ N) (x1 x3 m : Int32) {σ τ : Mem} (hx : Rx σ τ) (F : Nat → Nat) (hF : ∀ i, i < 6 → F i < 2 ^ 31) {b : Nat} (hb6 : b < 6) (K : Mem → Option (Int32 × Mem)) : ∀ (n k M : Nat) (s : Mem), k + n = 6 → n < M → (∀ c i, ¬ c = 35 → ¬ c = 36 → ¬ c = 37 → gi s c i = gi τ c i) → (∀ i, i < 6 → bt m i = true → gi s 37 i = nI (if i < k then min (F i) (Dm τ b i) else F i)) → ∃ s', itr (fun _ _ => none) (st_X10_fromWhom_143 N x1 m x3 (nI b) K) M (nI k) s = K s' ∧ (∀ c i, ¬ c = 35 → ¬ c = 36 → ¬ c = 37 → gi s' c i = gi τ c i) ∧ (∀ i, i < 6 → bt m i = true → gi s' 37 i = nI (min (F i) (Dm τ b i)))
  | n, k, 0, s, _, h, _, _ => absurd h (by omega)
  | 0, k, M + 1, s, h, _, h1, h2 => by
    refine ⟨s, ?_, h1, fun i hi q => by rw [h2 i hi q, if_pos (by omega)]⟩
    rw [show k = 6 by omega]
    show st_X10_fromWhom_143 N x1 m x3 (nI b) K _ (nI 6) s = _
    unfold st_X10_fromWhom_143
    rw [if_pos (by decide)]
  | n + 1, k, M + 1, s, h, h0, h1, h2 => by
    have ih := lp_fw143 N hN x1 x3 m hx F hF hb6 K n (k + 1) M
    show ∃ s', st_X10_fromWhom_143 N x1 m x3 (nI b) K (itr _ _ M) (nI k) s = K s' ∧ _
    generalize itr (fun _ _ => none) (st_X10_fromWhom_143 N x1 m x3 (nI b) K) M = rec at ih ⊢
    unfold st_X10_fromWhom_143
    rw [if_neg (by rw [li_6]; exact nI_ge (by omega) (by decide)), e_has, bd_some, ite10]
    simp only [lt_e, nI_1]
    by_cases q : bt m k = true
    · obtain ⟨s1, e1, f1⟩ := e_farD N hN hx hb6 (show k < 6 by omega) s (fun c i hc => h1 c i (by omega) (by omega) (by omega))
      have d1 := Dm_le hx hb6 (show k < 6 by omega)
      have d2 := hF k (by omega)
      rw [if_pos ((hb_iff _ (by omega)).mpr q), chk_n (by omega) (by decide), e1, bd_some, ix_n (by omega), h2 k (by omega) q, if_neg (by omega), e_minM N _ _ (by omega) (by omega), bd_some, chk_n (by omega) (by decide)]
      refine ih _ (by omega) (by omega) (fun c i hc hc2 hc3 => by rw [gi_ne hc3, f1 c i hc hc2]; exact h1 c i hc hc2 hc3) (fun i hi w => ?_)
      by_cases e : i = k
      · rw [e, gi_eq, if_pos (by omega)]
      · rw [gi_ni e, f1 37 i (by decide) (by decide), h2 i hi w]
        by_cases u : i < k
        · rw [if_pos u, if_pos (by omega)]
        · rw [if_neg u, if_neg (by omega)]
    · rw [if_neg (fun w => q ((hb_iff _ (by omega)).mp w))]
      refine ih _ (by omega) (by omega) h1 (fun i hi w => ?_)
      rw [h2 i hi w]
      by_cases u : i < k
      · rw [if_pos u, if_pos (by omega)]
      · rw [if_neg u, if_neg (fun v => by
          have : i = k := by omega
          rw [this] at w
          exact q w)]
-- the class's side
theorem lp_low (N : Nat) (m : Int32) (s : Mem) : ∀ (n k M : Nat), k + n = 5 → n < M → (∀ i, i < k → bt m i = false) → ∃ l, l ≤ 5 ∧ itr (fun _ _ => none) (st_X1_lowest_2 N m) M (nI k) s = some (nI l, s) ∧ (∀ i, i < l → bt m i = false) ∧ (l < 5 → bt m l = true)
  | n, k, 0, _, h, _ => absurd h (by omega)
  | 0, k, M + 1, h, _, h1 => by
    rw [show k = 5 by omega] at h1 ⊢
    refine ⟨5, by omega, ?_, h1, fun h => absurd h (by omega)⟩
    show st_X1_lowest_2 N m _ (nI 5) s = _
    unfold st_X1_lowest_2
    rw [if_pos (by decide)]
  | n + 1, k, M + 1, h, h0, h1 => by
    have ih := lp_low N m s n (k + 1) M (by omega) (by omega)
    show ∃ l, l ≤ 5 ∧ st_X1_lowest_2 N m (itr _ _ M) (nI k) s = _ ∧ _
    generalize itr (fun _ _ => none) (st_X1_lowest_2 N m) M = rec at ih ⊢
    unfold st_X1_lowest_2
    rw [if_neg (by rw [li_5]; exact nI_ge (by omega) (by decide)), e_hasBit, bd_some, ite10]
    simp only [lt_e, nI_1]
    by_cases q : bt m k = true
    · rw [if_pos ((hb_iff _ (by omega)).mpr q)]
      exact ⟨k, by omega, rfl, h1, fun _ => q⟩
    · rw [if_neg (fun w => q ((hb_iff _ (by omega)).mp w))]
      refine ih (fun i hi => ?_)
      by_cases e : i = k
      · rw [e]; exact Bool.eq_false_iff.mpr q
      · exact h1 i (by omega)
theorem b_zero {m : Int32} (h : ∀ i, i < 32 → bt m i = false) : m = 0 := b_ext (fun i hi => by rw [h i hi, b_0])
theorem e_lowest (N : Nat) (hN : 50 ≤ N) {m : Int32} (hm : ∀ i, 6 ≤ i → i < 32 → bt m i = false) (h0 : ¬ m = 0) (s : Mem) : ∃ l, l < 6 ∧ f_X1_lowest N m s = some (nI l, s) ∧ (∀ i, i < l → bt m i = false) ∧ bt m l = true := by
  obtain ⟨l, a, b, c, d⟩ := lp_low N m s 5 0 N (by omega) (by omega) (fun i h => absurd h (by omega))
  refine ⟨l, by omega, b, c, ?_⟩
  by_cases e : l < 5
  · exact d e
  · refine Bool.not_eq_false _ ▸ fun w => h0 (b_zero (fun i hi => ?_))
    by_cases q : i < l
    · exact c i q
    · by_cases q2 : i = l
      · rw [q2]; exact w
      · exact hm i (by omega) hi
theorem lp_no8 (N : Nat) (hN : 50 ≤ N) (m : Int32) {σ τ : Mem} (hx : Rx σ τ) (T : Nat → Nat) (hT : ∀ i, i < 6 → T i ≤ 40) {b l : Nat} (hb6 : b < 6) (hl : bt m l = true) (hl2 : ∀ i, i < l → bt m i = false) (F : Nat → Nat) (hF : ∀ i, i < 6 → F i = min (T i) (Dm τ i b)) : ∀ (n k M : Nat) (s : Mem), k + n = 6 → n < M → (∀ c i, ¬ c = 120 → ¬ c = 121 → gi s c i = gi σ c i) → (∀ i, i < 6 → bt m i = true → gi s 121 i = nI (if i < k then F i else T i)) → ∃ s', itr (fun _ _ _ => none) (st_X1_nearestOf_8 N m (nI b)) M (nI ((pick F m k).getD l)) (nI k) s = some (nI ((pick F m 6).getD l), s') ∧ (∀ c i, ¬ c = 120 → ¬ c = 121 → gi s' c i = gi σ c i) ∧ (∀ i, i < 6 → bt m i = true → gi s' 121 i = nI (F i))
  | n, k, 0, s, _, h, _, _ => absurd h (by omega)
  | 0, k, M + 1, s, h, _, h1, h2 => by
    refine ⟨s, ?_, h1, fun i hi q => by rw [h2 i hi q, if_pos (by omega)]⟩
    rw [show k = 6 by omega]
    show st_X1_nearestOf_8 N m (nI b) _ _ (nI 6) s = _
    unfold st_X1_nearestOf_8
    rw [if_pos (by decide)]
  | n + 1, k, M + 1, s, h, h0, h1, h2 => by
    have ih := lp_no8 N hN m hx T hT hb6 hl hl2 F hF n (k + 1) M
    show ∃ s', st_X1_nearestOf_8 N m (nI b) (itr _ _ M) _ (nI k) s = _ ∧ _
    generalize itr (fun _ _ _ => none) (st_X1_nearestOf_8 N m (nI b)) M = rec at ih ⊢
    unfold st_X1_nearestOf_8
    rw [if_neg (by rw [li_6]; exact nI_ge (by omega) (by decide)), e_hasBit, bd_some, ite10]
    simp only [lt_e, nI_1]
    by_cases q : bt m k = true
    · obtain ⟨s1, e1, f1⟩ := e_apartD N hN hx (show k < 6 by omega) hb6 s (fun c i hc hc2 => h1 c i (by omega) (by omega))
      have d1 := Dm_le hx (show k < 6 by omega) hb6
      have d2 := hT k (by omega)
      rw [if_pos ((hb_iff _ (by omega)).mpr q), chk_n (by omega) (by decide), e1, bd_some, ix_n (by omega), h2 k (by omega) q, if_neg (Nat.lt_irrefl k), e_iminN _ _ (by omega) (by omega), ← hF k (by omega), chk_n (by omega) (by decide), chk_n (by omega) (by decide)]
      have ih' := ih (si s1 121 k (nI (F k))) (by omega) (by omega) (fun c i hc hc2 => by rw [gi_ne hc2, f1 c i hc]; exact h1 c i hc hc2) (fun i hi w => by
        by_cases e : i = k
        · rw [e, gi_eq, if_pos (by omega)]
        · rw [gi_ni e, f1 121 i (by decide), h2 i hi w]
          by_cases u : i < k
          · rw [if_pos u, if_pos (by omega)]
          · rw [if_neg u, if_neg (by omega)])
      cases e : pick F m k with
      | none =>
        have hlk : l = k := by
          have := pick_none e
          have a1 : ¬ l < k := fun w => by have := this l w; rw [hl] at this; exact absurd this (by decide)
          have a2 : ¬ k < l := fun w => by have := hl2 k w; rw [q] at this; exact absurd this (by decide)
          omega
        rw [pick_0 q e] at ih'
        show ∃ s', chk (nI l) _ (if gi _ 121 (ix (nI l)) ≤ _ then rec (nI l) _ _ else _) = _ ∧ _
        rw [hlk, chk_n (by omega) (by decide), ix_n (by omega), if_pos (Int32.le_refl _)]
        rw [hlk] at ih'
        exact ih'
      | some a =>
        have ha := pick_lt e
        have fa := hF a (by omega)
        have fk := hF k (by omega)
        rw [pick_1 q e] at ih'
        show ∃ s', chk (nI a) _ (if gi _ 121 (ix (nI a)) ≤ _ then rec (nI a) _ _ else _) = _ ∧ _
        rw [chk_n (by omega) (by decide), ix_n (by omega), gi_eq, gi_ni (by omega), f1 121 a (by decide), h2 a (by omega) ha.2, if_pos ha.1]
        by_cases w : F a ≤ F k
        · rw [if_pos w] at ih'
          rw [if_pos (nI_le w (by omega))]
          exact ih'
        · rw [if_neg w] at ih'
          rw [if_neg (nI_ge (by omega) (by have := hT a (by omega); omega))]
          exact ih'
    · rw [if_neg (fun w => q ((hb_iff _ (by omega)).mp w))]
      rw [pick_no (Bool.eq_false_iff.mpr q)] at ih
      refine ih _ (by omega) (by omega) h1 (fun i hi w => ?_)
      rw [h2 i hi w]
      by_cases u : i < k
      · rw [if_pos u, if_pos (by omega)]
      · rw [if_neg u, if_neg (fun v => by
          have : i = k := by omega
          rw [this] at w
          exact q w)]
/-- how many of the first six bits stand -/
def cnt (m : Int32) : Nat → Nat
  | 0 => 0
  | n + 1 => cnt m n + if bt m n = true then 1 else 0
theorem cnt_s (m : Int32) (n : Nat) : cnt m (n + 1) = cnt m n + if bt m n = true then 1 else 0 := rfl
theorem cnt_le (m : Int32) : ∀ n, cnt m n ≤ n
  | 0 => Nat.le_refl 0
  | n + 1 => by
    have := cnt_le m n
    rw [cnt_s]
    by_cases q : bt m n = true
    · rw [if_pos q]; omega
    · rw [if_neg q]; omega
theorem cnt_clr {m : Int32} {b : Nat} (hb : b < 32) (h : bt m b = true) : ∀ n, n ≤ 32 → cnt (m &&& (((1 : Int32) <<< (nI b &&& 31)) ^^^ (-1))) n + (if b < n then 1 else 0) = cnt m n
  | 0, _ => by rw [if_neg (by omega)]; rfl
  | n + 1, hn => by
    have ih := cnt_clr hb h n (by omega)
    rw [cnt_s, cnt_s, b_clr m hb (by omega)]
    generalize cnt (m &&& (((1 : Int32) <<< (nI b &&& 31)) ^^^ (-1))) n = X at ih ⊢
    generalize cnt m n = Y at ih ⊢
    by_cases e : n = b
    · rw [if_neg (show ¬ b < n by omega)] at ih
      rw [if_pos (show b < n + 1 by omega), e, h]
      simp
      omega
    · by_cases q : bt m n = true
      · rw [q]
        simp only [decide_eq_false e]
        by_cases w : b < n
        · rw [if_pos w] at ih
          rw [if_pos (show b < n + 1 by omega)]
          simp
          omega
        · rw [if_neg w] at ih
          rw [if_neg (show ¬ b < n + 1 by omega)]
          simp
          omega
      · rw [Bool.eq_false_iff.mpr q]
        by_cases w : b < n
        · rw [if_pos w] at ih
          rw [if_pos (show b < n + 1 by omega)]
          simp
          omega
        · rw [if_neg w] at ih
          rw [if_neg (show ¬ b < n + 1 by omega)]
          simp
          omega
theorem cnt_0 {m : Int32} : ∀ n, cnt m n = 0 → ∀ i, i < n → bt m i = false
  | 0, _, i, hi => absurd hi (by omega)
  | n + 1, h, i, hi => by
    rw [cnt_s] at h
    by_cases q : bt m n = true
    · rw [if_pos q] at h; omega
    · rw [if_neg q] at h
      by_cases e : i = n
      · rw [e]; exact Bool.eq_false_iff.mpr q
      · exact cnt_0 n h i (by omega)
theorem clr_hi {m : Int32} {b : Nat} (hb : b < 32) (hm : ∀ i, 6 ≤ i → i < 32 → bt m i = false) : ∀ i, 6 ≤ i → i < 32 → bt (m &&& (((1 : Int32) <<< (nI b &&& 31)) ^^^ (-1))) i = false := fun i hi hi2 => by rw [b_clr m hb hi2, hm i hi hi2]; rfl
/-- both trees grow alike -/
theorem lp_tree (N : Nat) (hN : 50 ≤ N) {σ τ : Mem} (hx : Rx σ τ) : ∀ (n : Nat) (r M M' : Nat) (m sum : Int32) (l : Nat) (T : Nat → Nat) (s t : Mem), cnt m 6 = n → n + r ≤ 6 → n < M → n < M' → l < 6 → (∀ i, 6 ≤ i → i < 32 → bt m i = false) → (∀ i, i < 6 → T i ≤ 40) → (∀ c i, ¬ c = 120 → ¬ c = 121 → gi s c i = gi σ c i) → (∀ i, i < 6 → bt m i = true → gi s 121 i = nI (T i)) → (∀ c i, ¬ c = 35 → ¬ c = 36 → ¬ c = 37 → gi t c i = gi τ c i) → (∀ i, i < 6 → bt m i = true → gi t 37 i = nI (min (T i) (Dm τ i l))) → ∃ v s' t', itr (fun _ _ _ _ _ => none) (st_X1_tree_50 N) M m (nI l) sum (nI r) s = some (v, s') ∧ itr (fun _ _ _ _ => none) (st_X10_fromWhom_52 N) M' sum m 0 t = some (v, t')
  | n, r, 0, M', m, sum, l, T, s, t, _, _, h, _, _, _, _, _, _, _, _ => absurd h (by omega)
  | n, r, M + 1, 0, m, sum, l, T, s, t, _, _, _, h, _, _, _, _, _, _, _ => absurd h (by omega)
  | 0, r, M + 1, M' + 1, m, sum, l, T, s, t, hc, _, _, _, _, hm, _, _, _, _, _ => by
    have hz : m = 0 := b_zero (fun i hi => by
      by_cases q : i < 6
      · exact cnt_0 6 hc i q
      · exact hm i (by omega) hi)
    refine ⟨sum, s, t, ?_, ?_⟩
    · show st_X1_tree_50 N _ m (nI l) sum (nI r) s = _
      unfold st_X1_tree_50
      rw [if_pos hz]
      split <;> rfl
    · show st_X10_fromWhom_52 N _ sum m 0 t = _
      unfold st_X10_fromWhom_52
      rw [if_pos hz]
  | n + 1, r, M + 1, M' + 1, m, sum, l, T, s, t, hc, hr, h1, h2, hl, hm, hT, hs, hs2, ht, ht2 => by
    have hz : ¬ m = 0 := fun w => by
      rw [w] at hc
      have : cnt 0 6 = 0 := by
        show (((((0 + if bt 0 0 = true then 1 else 0) + if bt 0 1 = true then 1 else 0) + if bt 0 2 = true then 1 else 0) + if bt 0 3 = true then 1 else 0) + if bt 0 4 = true then 1 else 0) + (if bt 0 5 = true then 1 else 0) = 0
        simp only [b_0]
        rfl
      omega
    have ih := fun b => lp_tree N hN hx n (r + 1) M M' (m &&& (((1 : Int32) <<< (nI b &&& 31)) ^^^ (-1)))
    show ∃ v s' t', st_X1_tree_50 N (itr _ _ M) m (nI l) sum (nI r) s = _ ∧ st_X10_fromWhom_52 N (itr _ _ M') sum m 0 t = _
    generalize itr (fun _ _ _ _ _ => none) (st_X1_tree_50 N) M = rc at ih ⊢
    generalize itr (fun _ _ _ _ => none) (st_X10_fromWhom_52 N) M' = rm at ih ⊢
    obtain ⟨w, w6, w1, w2, w3⟩ := e_lowest N hN hm hz s
    obtain ⟨s1, e1, f1, f2⟩ := lp_no8 N hN m hx T hT hl w3 w2 (fun i => min (T i) (Dm τ i l)) (fun _ _ => rfl) 6 0 N s (by omega) (by omega) hs (fun i hi q => by rw [if_neg (by omega)]; exact hs2 i hi q)
    have e1' : f_X1_nearestOf N m (nI l) s = some (nI ((pick (fun i => min (T i) (Dm τ i l)) m 6).getD w), s1) := by
      unfold f_X1_nearestOf
      rw [w1, bd_some]
      exact e1
    unfold st_X1_tree_50 st_X10_fromWhom_52
    rw [if_neg (by rw [li_6]; exact nI_ge (by omega) (by decide)), if_neg hz, if_neg hz, e1', bd_some]
    have e2 := lp_fw62 N sum 0 m (fun i => min (T i) (Dm τ i l)) (fun (x4_14 : Int32) (s13 : Mem) => lt (fun (t16 : Int32) (s15 : Mem) => lt (sum + t16) (fun v17 => lt (m &&& (((1 : Int32) <<< (x4_14 &&& 31)) ^^^ (-1))) (fun v18 => itr (fun _ _ => none) (st_X10_fromWhom_143 N v17 v18 0 x4_14 (fun  (s28 : Mem) => rm v17 v18 0 s28)) N 0 s15))) (fun j127 => if (0 : Int32) = 0 then (chk x4_14 6 (j127 (gi s13 37 (ix x4_14)) s13)) else j127 0 s13)) t (fun i hi q => ⟨ht2 i hi q, by have := hT i hi; omega⟩) 6 0 N (by omega) (by omega)
    cases e : pick (fun i => min (T i) (Dm τ i l)) m 6 with
    | none =>
      have := pick_none e w w6
      rw [w3] at this
      exact absurd this (by decide)
    | some b =>
      have hb := pick_lt e
      rw [e] at e2
      have e3 : enc (some b) = nI b := rfl
      rw [e3] at e2
      simp only [lt_e, if_true] at e2
      rw [chk_n (by omega) (by decide), ix_n (by omega), ht2 b hb.1 hb.2] at e2
      have dl := Dm_le hx hb.1 hl
      obtain ⟨t1, g1, g2, g3⟩ := lp_fw143 N hN (sum + nI (min (T b) (Dm τ b l))) 0 (m &&& (((1 : Int32) <<< (nI b &&& 31)) ^^^ (-1))) hx (fun i => min (T i) (Dm τ i l)) (fun i hi => by have := hT i hi; omega) hb.1 (fun  (s28 : Mem) => rm (sum + nI (min (T b) (Dm τ b l))) (m &&& (((1 : Int32) <<< (nI b &&& 31)) ^^^ (-1))) 0 s28) 6 0 N t (by omega) (by omega) ht (fun i hi q => by
        rw [if_neg (by omega)]
        refine ht2 i hi ?_
        rw [b_clr m (by omega) (by omega)] at q
        exact (Bool.and_eq_true_iff.mp q).1)
      have hcnt := cnt_clr (m := m) (b := b) (by omega) hb.2 6 (by omega)
      rw [if_pos hb.1] at hcnt
      obtain ⟨v, s', t', k1, k2⟩ := ih b (sum + nI (min (T b) (Dm τ b l))) b (fun i => min (T i) (Dm τ i l)) s1 t1 (by omega) (by omega) (by omega) (by omega) hb.1 (clr_hi (by omega) hm) (fun i hi => by have := hT i hi; omega) f1 (fun i hi q => by
        refine f2 i hi ?_
        rw [b_clr m (by omega) (by omega)] at q
        exact (Bool.and_eq_true_iff.mp q).1) g2 (fun i hi q => by rw [g3 i hi q, Dm_sym τ i b])
      refine ⟨v, s', t', ?_, e2.trans (g1.trans k2)⟩
      show lt (m ^^^ ((1 : Int32) <<< (nI b &&& 31))) (fun v11 => chk (nI b) 6 (lt (sum + (gi s1 121 (ix (nI b)))) (fun v12 => lt (nI r + 1) (fun x4_13 => rc v11 (nI b) v12 x4_13 s1)))) = _
      simp only [lt_e, nI_1]
      rw [b_flip m (by omega) hb.2, chk_n (by omega) (by decide), ix_n (by omega), f2 b hb.1 hb.2]
      exact k1
theorem nI_m1 (k : Nat) : nI (k + 1) + (-1) = nI k := (Int32.sub_eq_add_neg _ _).symm.trans (nI_pred k)
/-- the set of the texts that are written -/
def WrS (τ : Mem) (w : Int32) : Prop := ∀ i, i < 32 → bt w i = (decide (i < 6) && decide (0 < ix (gi τ 34 i)))
theorem lp_wr (N : Nat) {σ τ : Mem} (hx : Rx σ τ) : ∀ (n k M : Nat) (w : Int32), k + n = 6 → n < M → (∀ i, i < 32 → bt w i = (decide (i < k) && decide (0 < ix (gi τ 34 i)))) → ∃ w', itr (fun _ _ _ => none) (st_X1_written_4 N) M w (nI k) σ = some (w', σ) ∧ WrS τ w'
  | n, k, 0, w, _, h, _ => absurd h (by omega)
  | 0, k, M + 1, w, h, _, h1 => by
    rw [show k = 6 by omega] at h1 ⊢
    refine ⟨w, ?_, h1⟩
    show st_X1_written_4 N _ w (nI 6) σ = _
    unfold st_X1_written_4
    rw [if_pos (by decide)]
  | n + 1, k, M + 1, w, h, h0, h1 => by
    have ih := lp_wr N hx n (k + 1) M
    show ∃ w', st_X1_written_4 N (itr _ _ M) w (nI k) σ = _ ∧ _
    generalize itr (fun _ _ _ => none) (st_X1_written_4 N) M = rec at ih ⊢
    obtain ⟨z1, z2, z3⟩ := hx.size (show k < 6 by omega)
    unfold st_X1_written_4
    rw [if_neg (by rw [li_6]; exact nI_ge (by omega) (by decide)), e_written N (by omega) z2 z1, bd_some, ite10]
    simp only [lt_e, nI_1]
    by_cases q : 0 < ix (gi τ 34 k)
    · rw [if_pos q]
      refine ih _ (by omega) (by omega) (fun i hi => ?_)
      rw [b_set w (by omega) hi, h1 i hi]
      by_cases e : i = k
      · rw [e, decide_eq_true q]
        simp
      · by_cases e2 : i < k
        · rw [decide_eq_true e2, decide_eq_true (show i < k + 1 by omega), decide_eq_false e, Bool.or_false]
        · rw [decide_eq_false e2, decide_eq_false (show ¬ i < k + 1 by omega), decide_eq_false e, Bool.or_false]
    · rw [if_neg q]
      refine ih _ (by omega) (by omega) (fun i hi => ?_)
      rw [h1 i hi]
      by_cases e : i = k
      · rw [e, decide_eq_false q, Bool.and_false, Bool.and_false]
      · by_cases e2 : i < k
        · rw [decide_eq_true e2, decide_eq_true (show i < k + 1 by omega)]
        · rw [decide_eq_false e2, decide_eq_false (show ¬ i < k + 1 by omega)]
theorem lp_fw6 (N : Nat) (x1 : Int32) {σ τ : Mem} (hx : Rx σ τ) (K : Int32 → Mem → Option (Int32 × Mem)) : ∀ (k M : Nat) (w : Int32) (t : Mem), k ≤ 6 → k < M → (∀ c i, ¬ c = 37 → gi t c i = gi τ c i) → (∀ i, k ≤ i → i < 6 → gi t 37 i = nI 100000000) → (∀ i, i < 32 → bt w i = (decide (k ≤ i ∧ i < 6) && decide (0 < ix (gi τ 34 i)))) → ∃ w' t', itr (fun _ _ _ => none) (st_X10_fromWhom_6 N x1 K) M w (nI k + (-1)) t = K w' t' ∧ WrS τ w' ∧ (∀ c i, ¬ c = 37 → gi t' c i = gi τ c i) ∧ (∀ i, i < 6 → gi t' 37 i = nI 100000000)
  | k, 0, w, t, _, h, _, _, _ => absurd h (by omega)
  | 0, M + 1, w, t, h, _, h1, h2, h3 => by
    refine ⟨w, t, ?_, fun i hi => ?_, h1, fun i hi => h2 i (by omega) hi⟩
    · show st_X10_fromWhom_6 N x1 K _ w (nI 0 + (-1)) t = _
      unfold st_X10_fromWhom_6
      rw [if_pos (by decide)]
    · rw [h3 i hi]
      by_cases e : i < 6
      · rw [decide_eq_true e, decide_eq_true (show 0 ≤ i ∧ i < 6 by omega)]
      · rw [decide_eq_false e, decide_eq_false (show ¬ (0 ≤ i ∧ i < 6) by omega)]
  | k + 1, M + 1, w, t, h, h0, h1, h2, h3 => by
    have ih := lp_fw6 N x1 hx K k M
    rw [show itr (fun _ _ _ => none) (st_X10_fromWhom_6 N x1 K) (M + 1) = st_X10_fromWhom_6 N x1 K (itr (fun _ _ _ => none) (st_X10_fromWhom_6 N x1 K) M) from rfl]
    generalize itr (fun _ _ _ => none) (st_X10_fromWhom_6 N x1 K) M = rec at ih ⊢
    obtain ⟨n, z1, z2, z3, -⟩ := hx.1 k (show k < 6 by omega)
    have z4 : ix (gi τ 34 k) = n := by rw [z3, ix_n (by omega)]
    rw [nI_m1]
    unfold st_X10_fromWhom_6
    rw [if_neg (show ¬ nI k < 0 from nI_nlt (Nat.zero_le k) (by omega)), chk_n (by omega) (by decide), ix_n (by omega)]
    simp only [lt_e]
    rw [chk_n (by omega) (by decide), gi_ne (by decide), h1 34 k (by decide), z3]
    have a1 : ∀ c i, ¬ c = 37 → gi (si t 37 k 100000000) c i = gi τ c i := fun c i hc => by rw [gi_ne hc]; exact h1 c i hc
    have a2 : ∀ i, k ≤ i → i < 6 → gi (si t 37 k 100000000) 37 i = nI 100000000 := fun i hi hi2 => by
      by_cases e : i = k
      · rw [e, gi_eq]; rfl
      · rw [gi_ni e]; exact h2 i (by omega) hi2
    by_cases q : 0 < n
    · rw [if_neg (nI_ne0 q (by omega))]
      refine ih _ _ (by omega) (by omega) a1 a2 (fun i hi => ?_)
      rw [b_set w (by omega) hi, h3 i hi]
      by_cases e : i = k
      · rw [e, z4, decide_eq_true q, decide_eq_true (show k ≤ k ∧ k < 6 by omega)]
        simp
      · by_cases e2 : k + 1 ≤ i ∧ i < 6
        · rw [decide_eq_true e2, decide_eq_true (show k ≤ i ∧ i < 6 by omega), decide_eq_false e, Bool.or_false]
        · rw [decide_eq_false e2, decide_eq_false (show ¬ (k ≤ i ∧ i < 6) by omega), decide_eq_false e, Bool.or_false]
    · rw [if_pos (by rw [show n = 0 by omega]; rfl)]
      refine ih _ _ (by omega) (by omega) a1 a2 (fun i hi => ?_)
      rw [h3 i hi]
      by_cases e : i = k
      · rw [e, z4, decide_eq_false q, Bool.and_false, Bool.and_false]
      · by_cases e2 : k + 1 ≤ i ∧ i < 6
        · rw [decide_eq_true e2, decide_eq_true (show k ≤ i ∧ i < 6 by omega)]
        · rw [decide_eq_false e2, decide_eq_false (show ¬ (k ≤ i ∧ i < 6) by omega)]
theorem lp_tr19 (N : Nat) (x1 x2 : Int32) (K : Mem → Option (Int32 × Mem)) (s0 : Mem) : ∀ (n k M : Nat) (s : Mem), k + n = 6 → n < M → (∀ c i, ¬ c = 121 → gi s c i = gi s0 c i) → (∀ i, i < k → gi s 121 i = nI 40) → ∃ s', itr (fun _ _ => none) (st_X1_tree_19 N x1 x2 K) M (nI k) s = K s' ∧ (∀ c i, ¬ c = 121 → gi s' c i = gi s0 c i) ∧ (∀ i, i < 6 → gi s' 121 i = nI 40)
  | n, k, 0, s, _, h, _, _ => absurd h (by omega)
  | 0, k, M + 1, s, h, _, h1, h2 => by
    rw [show k = 6 by omega] at h2 ⊢
    refine ⟨s, ?_, h1, h2⟩
    show st_X1_tree_19 N x1 x2 K _ (nI 6) s = _
    unfold st_X1_tree_19
    rw [if_pos (by decide)]
  | n + 1, k, M + 1, s, h, h0, h1, h2 => by
    have ih := lp_tr19 N x1 x2 K s0 n (k + 1) M
    show ∃ s', st_X1_tree_19 N x1 x2 K (itr _ _ M) (nI k) s = _ ∧ _
    generalize itr (fun _ _ => none) (st_X1_tree_19 N x1 x2 K) M = rec at ih ⊢
    unfold st_X1_tree_19
    rw [if_neg (by rw [li_6]; exact nI_ge (by omega) (by decide)), chk_n (by omega) (by decide), ix_n (by omega)]
    simp only [lt_e, nI_1]
    refine ih _ (by omega) (by omega) (fun c i hc => by rw [gi_ne hc]; exact h1 c i hc) (fun i hi => ?_)
    by_cases e : i = k
    · rw [e, gi_eq]; rfl
    · rw [gi_ni e]; exact h2 i (by omega)
theorem s_fromWhom (N : Nat) (hN : 50 ≤ N) {σ τ : Mem} (hx : Rx σ τ) : ∃ r σ' τ', f_X9_fromWhom N σ = some (r, σ') ∧ f_X10_fromWhom N τ = some (r, τ') := by
  obtain ⟨w, e1, h1⟩ := lp_wr N hx 6 0 N 0 (by omega) (by omega) (fun i hi => by rw [b_0, decide_eq_false (by omega), Bool.false_and])
  obtain ⟨w', t1, g1, h2, h3, h4⟩ := lp_fw6 N 0 hx (fun (x2_6 : Int32) (s5 : Mem) => if x2_6 = 0 then (some ((-2), s5)) else itr (fun _ _ _ _ => none) (st_X10_fromWhom_52 N) N 0 x2_6 1 s5) 6 N 0 τ (by omega) (by omega) (fun _ _ _ => rfl) (fun i hi hi2 => absurd hi (by omega)) (fun i hi => by rw [b_0, decide_eq_false (by omega), Bool.false_and])
  have hw : w' = w := b_ext (fun i hi => by rw [h1 i hi, h2 i hi])
  rw [hw] at g1
  unfold f_X9_fromWhom f_X10_fromWhom f_X1_tree f_X1_written
  have hm : ∀ i, 6 ≤ i → i < 32 → bt w i = false := fun i hi hi2 => by rw [h1 i hi2, decide_eq_false (by omega), Bool.false_and]
  have key : ∃ r σ' τ', (if w = 0 then (some ((-2), σ)) else bd (f_X1_lowest N w σ) (fun r4 s3 => itr (fun _ _ => none) (st_X1_tree_19 N w r4 (fun  (s7 : Mem) => lt (w ^^^ ((1 : Int32) <<< (r4 &&& 31))) (fun v8 => itr (fun _ _ _ _ _ => none) (st_X1_tree_50 N) N v8 r4 0 0 s7))) N 0 s3)) = some ((r : Int32), (σ' : Mem)) ∧ (if w = 0 then (some ((-2), t1)) else itr (fun _ _ _ _ => none) (st_X10_fromWhom_52 N) N 0 w 1 t1) = some (r, (τ' : Mem)) := by
    by_cases h0 : w = 0
    · rw [if_pos h0, if_pos h0]
      exact ⟨_, _, _, rfl, rfl⟩
    · rw [if_neg h0, if_neg h0]
      obtain ⟨l, l6, l1, l2, l3⟩ := e_lowest N hN hm h0 σ
      rw [l1, bd_some]
      obtain ⟨s1, k1, k2, k3⟩ := lp_tr19 N w (nI l) (fun  (s7 : Mem) => lt (w ^^^ ((1 : Int32) <<< (nI l &&& 31))) (fun v8 => itr (fun _ _ _ _ _ => none) (st_X1_tree_50 N) N v8 (nI l) 0 0 s7)) σ 6 0 N σ (by omega) (by omega) (fun _ _ _ => rfl) (fun i hi => absurd hi (by omega))
      have e2 : ∀ rm : Int32 → Int32 → Int32 → Mem → Option (Int32 × Mem), ∃ t2, st_X10_fromWhom_52 N rm 0 w 1 t1 = rm 0 (w &&& (((1 : Int32) <<< (nI l &&& 31)) ^^^ (-1))) 0 t2 ∧ (∀ c i, ¬ c = 35 → ¬ c = 36 → ¬ c = 37 → gi t2 c i = gi τ c i) ∧ (∀ i, i < 6 → bt (w &&& (((1 : Int32) <<< (nI l &&& 31)) ^^^ (-1))) i = true → gi t2 37 i = nI (min 100000000 (Dm τ l i))) := by
        intro rm
        have e2 := lp_fw62 N 0 1 w (fun _ => 100000000) (fun (x4_14 : Int32) (s13 : Mem) => lt (fun (t16 : Int32) (s15 : Mem) => lt (0 + t16) (fun v17 => lt (w &&& (((1 : Int32) <<< (x4_14 &&& 31)) ^^^ (-1))) (fun v18 => itr (fun _ _ => none) (st_X10_fromWhom_143 N v17 v18 0 x4_14 (fun  (s28 : Mem) => rm v17 v18 0 s28)) N 0 s15))) (fun j127 => if (1 : Int32) = 0 then (chk x4_14 6 (j127 (gi s13 37 (ix x4_14)) s13)) else j127 0 s13)) t1 (fun i hi q => ⟨h4 i hi, by decide⟩) 6 0 N (by omega) (by omega)
        rw [pick_const l3 l2 6 l6] at e2
        have e3 : enc (some l) = nI l := rfl
        rw [e3] at e2
        simp only [lt_e] at e2
        rw [if_neg (show ¬ (1 : Int32) = 0 by decide)] at e2
        obtain ⟨t2, g1, g2, g3⟩ := lp_fw143 N hN 0 0 (w &&& (((1 : Int32) <<< (nI l &&& 31)) ^^^ (-1))) hx (fun i => 100000000) (fun i hi => by decide) l6 (fun  (s28 : Mem) => rm 0 (w &&& (((1 : Int32) <<< (nI l &&& 31)) ^^^ (-1))) 0 s28) 6 0 N t1 (by omega) (by omega) (fun c i _ _ hc => h3 c i hc) (fun i hi q => by
          rw [if_neg (by omega)]
          exact h4 i hi)
        refine ⟨t2, ?_, g2, g3⟩
        unfold st_X10_fromWhom_52
        rw [if_neg h0]
        exact e2.trans g1
      obtain ⟨M', hM'⟩ : ∃ M', N = M' + 1 := ⟨N - 1, by omega⟩
      obtain ⟨t2, q1, q2, q3⟩ := e2 (itr (fun _ _ _ _ => none) (st_X10_fromWhom_52 N) M')
      have hcnt := cnt_clr (m := w) (b := l) (by omega) l3 6 (by omega)
      rw [if_pos l6] at hcnt
      have hle := cnt_le w 6
      obtain ⟨v, s', t', p1, p2⟩ := lp_tree N hN hx (cnt (w &&& (((1 : Int32) <<< (nI l &&& 31)) ^^^ (-1))) 6) 0 N M' (w &&& (((1 : Int32) <<< (nI l &&& 31)) ^^^ (-1))) 0 l (fun _ => 40) s1 t2 rfl (by omega) (by omega) (by omega) l6 (clr_hi (by omega) hm) (fun _ _ => Nat.le_refl _) (fun c i _ hc => k2 c i hc) (fun i hi _ => k3 i hi) q2 (fun i hi q => by
        have := Dm_le hx l6 hi
        rw [q3 i hi q, Dm_sym τ i l, Nat.min_eq_right (by omega), Nat.min_eq_right (by omega)])
      refine ⟨v, s', t', k1.trans (Eq.trans ?_ p1), ?_⟩
      · show itr _ (st_X1_tree_50 N) N (w ^^^ ((1 : Int32) <<< (nI l &&& 31))) (nI l) 0 0 s1 = _
        rw [b_flip w (by omega) l3]
        rfl
      rw [hM'] at q1 p2 ⊢
      exact q1.trans p2
  obtain ⟨r, σ', τ', p1, p2⟩ := key
  refine ⟨r, σ', τ', ?_, g1.trans p2⟩
  rw [show (itr (fun _ _ _ => none) (st_X1_written_4 N) N 0 0 σ) = some (w, σ) from e1, bd_some, p1, bd_some]
