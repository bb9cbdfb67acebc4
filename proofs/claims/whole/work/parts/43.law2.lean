/-! the law: pieces of the class's code -/
theorem lt_p {α β : Type} (a : α) (f : α → β) : lt a f = f a := by
  have h : lt a f = f a := rfl
  exact h
/-- where the class keeps the facts -/
def fp (q : Nat) : Nat := if q = 0 then 15 else if q = 1 then 22 else if q = 2 then 17 else if q = 3 then 10 else if q = 4 then 11 else if q = 5 then 3 else 12
theorem fp_lt (q : Nat) : fp q < 26 := by
  unfold fp
  split
  · omega
  split
  · omega
  split
  · omega
  split
  · omega
  split
  · omega
  split
  · omega
  omega
theorem neg_n {c : Nat} (h : 0 < c) (h2 : c < 2 ^ 30) : (-(nI c)) < 0 ∧ ¬ 0 ≤ (-(nI c)) ∧ (-(-(nI c))) = nI c := by
  have h1 : (-(nI c)).toInt = -(c : Int) := by
    rw [Int32.toInt_neg, nI_toInt (by omega)]
    apply Int.bmod_eq_of_le <;> omega
  have h3 : (-(nI c)) < 0 := by
    rw [Int32.lt_iff_toInt_lt, h1, Int32.toInt_zero]; omega
  exact ⟨h3, Int32.not_le.mpr h3, Int32.neg_neg⟩
/-- the code and the facts that a state holds -/
def Cok (b : Nat) (s : Mem) (code φ : Nat → Int32) (i j : Nat) : Prop := (∀ q, i ≤ q → q < j → gi s (b + 5) q = code q) ∧ ∀ q, q < 7 → gi s (b + 7) (fp q) = φ q
abbrev wK : Type := Int32 → Mem → Option (Int64 × Mem)
noncomputable def wit (N b E : Nat) (K : wK) (M : Nat) (top i : Nat) (s : Mem) : Option (Int64 × Mem) := itr (fun _ _ _ => none) (st_X4_worth_5 N b (nI E) K) M (nI top) (nI i) s
/-- the waiting row from a state on: place top holds v, those below are kept -/
def Wt (b : Nat) (s s' : Mem) (top : Nat) (v : Int64) : Prop := s'.1 = s.1 ∧ (∀ c, ¬ c = b + 6 → s'.2 c = s.2 c) ∧ (∀ q, q < top → gl s' (b + 6) q = gl s (b + 6) q) ∧ gl s' (b + 6) top = v
theorem gl_eq (s : Mem) (c i : Nat) (v : Int64) : gl (sl s c i v) c i = v := by rw [gl_sl, if_pos ⟨rfl, rfl⟩]
theorem gl_ni {s : Mem} {c i c' i' : Nat} {v : Int64} (h : ¬ i' = i) : gl (sl s c i v) c' i' = gl s c' i' := by rw [gl_sl, if_neg (fun q => h q.2)]
theorem Wt.sl (b : Nat) (s : Mem) (top : Nat) (v : Int64) : Wt b s (sl s (b + 6) top v) top v := by
  refine ⟨rfl, fun c hc => ?_, fun q hq => gl_ni (by omega), gl_eq _ _ _ _⟩
  show (if c = b + 6 then _ else s.2 c) = s.2 c
  rw [if_neg hc]
theorem Cok.sub {b : Nat} {s : Mem} {code φ : Nat → Int32} {i j i' j' : Nat} (h : Cok b s code φ i j) (h1 : i ≤ i') (h2 : j' ≤ j) : Cok b s code φ i' j' := ⟨fun q a b => h.1 q (by omega) (by omega), h.2⟩
theorem Cok.wt {b : Nat} {s s' : Mem} {code φ : Nat → Int32} {i j : Nat} (h : Cok b s code φ i j) (e : s'.1 = s.1) : Cok b s' code φ i j := by
  unfold Cok gi at *
  rw [e]
  exact h
/-- from place i to place j the code pushes v; d places are wanted -/
def CSeg (code φ : Nat → Int32) (i j d : Nat) (v : Option Int32) : Prop :=
  (i ≤ j ∧ 1 ≤ d) ∧ ∀ (N b E : Nat) (K : wK) (s : Mem) (top : Nat), Cok b s code φ i j → top + d ≤ 32 → j ≤ E → E ≤ 240 → ∃ s', Wt b s s' top (encL v) ∧ ∀ M, wit N b E K (M + (j - i)) top i s = wit N b E K M (top + 1) j s'
theorem wit_s (N b E : Nat) (K : wK) (M top i : Nat) (s : Mem) : wit N b E K (M + 1) top i s = st_X4_worth_5 N b (nI E) K (itr (fun _ _ _ => none) (st_X4_worth_5 N b (nI E) K) M) (nI top) (nI i) s := rfl
theorem cs_num {code φ : Nat → Int32} {i d : Nat} {v : Int32} (hv : 0 ≤ v) (h : code i = v) (hd : 1 ≤ d) : CSeg code φ i (i + 1) d (some v) := by
  refine ⟨⟨by omega, hd⟩, fun N b E K s top hC ht hE hE2 => ⟨sl s (b + 6) top v.toInt64, Wt.sl b s top _, fun M => ?_⟩⟩
  rw [show i + 1 - i = 1 by omega, wit_s]
  unfold wit
  generalize itr (fun _ _ _ => none) (st_X4_worth_5 N b (nI E) K) M = rec
  unfold st_X4_worth_5
  rw [if_neg (nI_ge (by omega) (by omega)), if_neg (l_ge 240 240 rfl (by omega) (by decide)), chk_n (by omega) (by decide), ix_n (by omega), hC.1 i (by omega) (by omega), h]
  simp only [lt_p]
  rw [if_pos hv, if_neg (l_ge 32 32 rfl (by omega) (by decide)), if_neg (Int32.not_lt.mpr hv), chk_n (by omega) (by decide), ix_n (by omega), nI_1, nI_1]
theorem e_isFact (N : Nat) {c : Nat} (hc : c < 2 ^ 30) (s : Mem) : f_X4_isFact N (nI c) s = some (if 97 ≤ c ∧ c ≤ 122 then 1 else 0, s) := by
  unfold f_X4_isFact
  by_cases h1 : c < 97
  · rw [if_pos (show nI c < 97 from nI_lt (b := 97) h1 (by decide)), if_neg (by omega)]
  · rw [if_neg (show ¬ nI c < 97 from nI_nlt (b := 97) (by omega) (by omega))]
    by_cases h2 : 122 < c
    · rw [if_pos (show (122 : Int32) < nI c from nI_lt (a := 122) h2 (by omega)), if_neg (by omega)]
    · rw [if_neg (show ¬ (122 : Int32) < nI c from nI_nlt (a := 122) (by omega) (by decide)), if_pos (by omega)]
theorem fp_cases (q : Nat) (hq : q < 7) : 97 ≤ 97 + fp q ∧ 97 + fp q ≤ 122 := by
  have := fp_lt q
  omega
theorem cs_fact {code φ : Nat → Int32} {i q d : Nat} (hq : q < 7) (h : code i = -(nI (97 + fp q))) (hd : 1 ≤ d) : CSeg code φ i (i + 1) d (some (φ q)) := by
  have hfp := fp_lt q
  obtain ⟨n1, n2, n3⟩ := neg_n (c := 97 + fp q) (by omega) (by omega)
  refine ⟨⟨by omega, hd⟩, fun N b E K s top hC ht hE hE2 => ⟨sl s (b + 6) top (φ q).toInt64, Wt.sl b s top _, fun M => ?_⟩⟩
  rw [show i + 1 - i = 1 by omega, wit_s]
  unfold wit
  generalize itr (fun _ _ _ => none) (st_X4_worth_5 N b (nI E) K) M = rec
  unfold st_X4_worth_5
  rw [if_neg (nI_ge (by omega) (by omega)), if_neg (l_ge 240 240 rfl (by omega) (by decide)), chk_n (by omega) (by decide), ix_n (by omega), hC.1 i (by omega) (by omega), h]
  simp only [lt_p]
  rw [if_neg n2, n3, e_isFact N (by omega), bd_some, if_pos (show 97 ≤ 97 + fp q ∧ 97 + fp q ≤ 122 by omega), if_neg (show ¬ (1 : Int32) = 0 by decide), if_neg (l_ge 32 32 rfl (by omega) (by decide)), if_pos n1, show (97 : Int32) = nI 97 from rfl, pk_sub (by omega), chk_n (by omega) (by decide), chk_n (by omega) (by decide), ix_n (by omega), ix_n (by omega), show 97 + fp q - 97 = fp q by omega, hC.2 q hq, nI_1, nI_1]
theorem cs_not {code φ : Nat → Int32} {i j d : Nat} {a : Option Int32} (hB : isB a) (h1 : CSeg code φ i j d a) (h : code j = -(nI 33)) : CSeg code φ i (j + 1) d (notv a) := by
  obtain ⟨⟨hij, hd⟩, h1⟩ := h1
  obtain ⟨n1, n2, n3⟩ := neg_n (c := 33) (by omega) (by decide)
  refine ⟨⟨by omega, hd⟩, fun N b E K s top hC ht hE hE2 => ?_⟩
  obtain ⟨s1, w1, e1⟩ := h1 N b E K s top (hC.sub (by omega) (by omega)) ht (by omega) hE2
  have hC1 := hC.wt w1.1
  have pre : ∀ M, wit N b E K (M + 1) (top + 1) j s1 = if lg_cmp (gl s1 (b + 6) top) 1099511627776 = 0 then wit N b E K M (top + 1) (j + 1) s1 else wit N b E K M (top + 1) (j + 1) (sl s1 (b + 6) top (1 - gl s1 (b + 6) top)) := fun M => by
    rw [wit_s]
    unfold wit
    generalize itr (fun _ _ _ => none) (st_X4_worth_5 N b (nI E) K) M = rec
    unfold st_X4_worth_5
    rw [if_neg (nI_ge (by omega) (by omega)), if_neg (l_ge 240 240 rfl (by omega) (by decide)), chk_n (by omega) (by decide), ix_n (by omega), hC1.1 j (by omega) (by omega), h]
    simp only [lt_p]
    rw [if_neg n2, n3, e_isFact N (by decide), bd_some, if_neg (show ¬ (97 ≤ 33 ∧ 33 ≤ 122) by omega), if_pos rfl, if_pos (show -(nI 33) = -33 by decide), if_neg (nI_nle (by omega) (by omega)), nI_pred, chk_n (by omega) (by decide), ix_n (by omega), chk_n (by omega) (by decide), chk_n (by omega) (by decide), nI_1]
  have stp : ∃ s', Wt b s1 s' top (encL (notv a)) ∧ ∀ M, wit N b E K (M + 1) (top + 1) j s1 = wit N b E K M (top + 1) (j + 1) s' := by
    rcases hB with rfl | rfl | rfl
    · refine ⟨s1, ⟨rfl, fun _ _ => rfl, fun _ _ => rfl, w1.2.2.2⟩, fun M => ?_⟩
      rw [pre, if_pos (show lg_cmp (gl s1 (b + 6) top) 1099511627776 = 0 from (lg_cmp_eq _ _).mpr w1.2.2.2)]
    · refine ⟨sl s1 (b + 6) top (1 - gl s1 (b + 6) top), ?_, fun M => ?_⟩
      · rw [w1.2.2.2]; exact Wt.sl b s1 top _
      · rw [pre, if_neg (fun q => by rw [lg_cmp_eq, w1.2.2.2] at q; exact encL_ne 0 q)]
    · refine ⟨sl s1 (b + 6) top (1 - gl s1 (b + 6) top), ?_, fun M => ?_⟩
      · rw [w1.2.2.2]; exact Wt.sl b s1 top _
      · rw [pre, if_neg (fun q => by rw [lg_cmp_eq, w1.2.2.2] at q; exact encL_ne 1 q)]
  obtain ⟨s2, w2, e2⟩ := stp
  refine ⟨s2, ⟨w2.1.trans w1.1, fun c hc => (w2.2.1 c hc).trans (w1.2.1 c hc), fun q hq => (w2.2.2.1 q hq).trans (w1.2.2.1 q hq), w2.2.2.2⟩, fun M => ?_⟩
  rw [show M + (j + 1 - i) = (M + 1) + (j - i) by omega, e1, e2]
/-- two pieces and a sign behind them -/
theorem cs_bin {code φ : Nat → Int32} {i j k d1 d2 d c : Nat} {a v w : Option Int32} (hc0 : 0 < c) (hc : c < 2 ^ 30) (hcf : ¬ (97 ≤ c ∧ c ≤ 122)) (hc3 : ¬ c = 33) (hj : ∀ N s, f_X4_joined N (nI c) (encL a) (encL v) s = some (encL w, s)) (h1 : CSeg code φ i j d1 a) (h2 : CSeg code φ j k d2 v) (hd1 : d1 ≤ d) (hd2 : d2 + 1 ≤ d) (h : code k = -(nI c)) : CSeg code φ i (k + 1) d w := by
  obtain ⟨⟨hij, hd1'⟩, h1⟩ := h1
  obtain ⟨⟨hjk, hd2'⟩, h2⟩ := h2
  obtain ⟨n1, n2, n3⟩ := neg_n hc0 hc
  refine ⟨⟨by omega, by omega⟩, fun N b E K s top hC ht hE hE2 => ?_⟩
  obtain ⟨s1, w1, e1⟩ := h1 N b E K s top (hC.sub (by omega) (by omega)) (by omega) (by omega) hE2
  have hC1 := hC.wt w1.1
  obtain ⟨s2, w2, e2⟩ := h2 N b E K s1 (top + 1) (hC1.sub (by omega) (by omega)) (by omega) (by omega) hE2
  have hC2 := hC1.wt w2.1
  have g1 : gl s2 (b + 6) top = encL a := (w2.2.2.1 top (by omega)).trans w1.2.2.2
  have g2 : gl s2 (b + 6) (top + 1) = encL v := w2.2.2.2
  have e3 : ∀ M, wit N b E K (M + 1) (top + 2) k s2 = wit N b E K M (top + 1) (k + 1) (sl s2 (b + 6) top (encL w)) := fun M => by
    rw [wit_s]
    unfold wit
    generalize itr (fun _ _ _ => none) (st_X4_worth_5 N b (nI E) K) M = rec
    unfold st_X4_worth_5
    rw [if_neg (nI_ge (by omega) (by omega)), if_neg (l_ge 240 240 rfl (by omega) (by decide)), chk_n (by omega) (by decide), ix_n (by omega), hC2.1 k (by omega) (by omega), h]
    simp only [lt_p]
    rw [if_neg n2, n3, e_isFact N hc, bd_some, if_neg hcf, if_pos rfl, if_neg (show ¬ -(nI c) = -33 from fun q => hc3 (by
      have q2 := Int32.neg_inj.mp (show -(nI c) = -(nI 33) from q)
      exact (nI_eq (by omega) (by decide)).mp q2)), if_neg (show ¬ nI (top + 2) ≤ 1 from nI_ge (a := 1) (by omega) (by omega)), nI_m1, nI_pred, chk_n (by omega) (by decide), chk_n (by omega) (by decide), ix_n (by omega), ix_n (by omega), g1, g2, hj, bd_some, chk_n (by omega) (by decide), nI_1]
  have w3 := Wt.sl b s2 top (encL w)
  refine ⟨_, ⟨w3.1.trans (w2.1.trans w1.1), fun c hc => (w3.2.1 c hc).trans ((w2.2.1 c hc).trans (w1.2.1 c hc)), fun q hq => (w3.2.2.1 q hq).trans ((w2.2.2.1 q (by omega)).trans (w1.2.2.1 q hq)), w3.2.2.2⟩, fun M => ?_⟩
  rw [show M + (k + 1 - i) = ((M + 1) + (k - j)) + (j - i) by omega, e1, e2, e3]
theorem CSeg.fr {code code' φ : Nat → Int32} {i j d : Nat} {v : Option Int32} (h : CSeg code φ i j d v) (e : ∀ q, i ≤ q → q < j → code' q = code q) : CSeg code' φ i j d v :=
  ⟨h.1, fun N b E K s top hC => h.2 N b E K s top ⟨fun q a b => by rw [hC.1 q a b]; exact e q a b, hC.2⟩⟩
theorem CSeg.up {code φ : Nat → Int32} {i j d d' : Nat} {v : Option Int32} (h : CSeg code φ i j d v) (e : d ≤ d') : CSeg code φ i j d' v :=
  ⟨⟨h.1.1, by have := h.1.2; omega⟩, fun N b E K s top hC ht => h.2 N b E K s top hC (by omega)⟩
