/-! the law: pieces of the reference's code -/
theorem nI_nq {a b : Nat} (h : ¬ a = b) (ha : a < 2 ^ 31) (hb : b < 2 ^ 31) : ¬ nI a = nI b := fun q => h ((nI_eq ha hb).mp q)
theorem un_div {o v : Nat} (ho : o < 16) (hv : v < 1048576) : nI (1048576 * o + v) / 1048576 = nI o := by
  rw [li_1048576, pk_div (by omega) (by omega) (by omega), show (1048576 * o + v) / 1048576 = o by omega]
theorem un_rem {o v : Nat} (ho : o < 16) (hv : v < 1048576) : nI (1048576 * o + v) - nI (1048576 * o + v) / 1048576 * 1048576 = nI v := by
  rw [li_1048576, pk_rem (by omega) (by omega) (by omega), show (1048576 * o + v) % 1048576 = v by omega]
theorem e_reckon (N : Nat) {o : Nat} (h1 : 2 ≤ o) (h2 : o ≤ 9) (x y r : Int32) (h : opn o x y = some r) (s : Mem) : f_X10_reckon N (nI o) x y s = some (r, s) := by
  unfold f_X10_reckon
  have hc : o = 2 ∨ o = 3 ∨ o = 4 ∨ o = 5 ∨ o = 6 ∨ o = 7 ∨ o = 8 ∨ o = 9 := by omega
  rcases hc with rfl | rfl | rfl | rfl | rfl | rfl | rfl | rfl
  · have h' : some (x + y) = some r := h
    cases h'
    rw [if_pos (show nI 2 = 2 from rfl)]
  · have h' : some (x - y) = some r := h
    cases h'
    rw [if_neg (show ¬ nI 3 = 2 by decide), if_pos (show nI 3 = 3 from rfl)]
  · have h' : some (x * y) = some r := h
    cases h'
    rw [if_neg (show ¬ nI 4 = 2 by decide), if_neg (show ¬ nI 4 = 3 by decide), if_pos (show nI 4 = 4 from rfl)]
  · have h' : (if y = 0 then none else some (x / y)) = some r := h
    rw [if_neg (show ¬ nI 5 = 2 by decide), if_neg (show ¬ nI 5 = 3 by decide), if_neg (show ¬ nI 5 = 4 by decide), if_pos (show nI 5 = 5 from rfl)]
    by_cases hy : y = 0
    · rw [if_pos hy] at h'; cases h'
    · rw [if_neg hy] at h'; cases h'
      unfold ckd
      rw [if_neg hy]
  · have h' : (if y = 0 then none else some (x - x / y * y)) = some r := h
    rw [if_neg (show ¬ nI 6 = 2 by decide), if_neg (show ¬ nI 6 = 3 by decide), if_neg (show ¬ nI 6 = 4 by decide), if_neg (show ¬ nI 6 = 5 by decide), if_pos (show nI 6 = 6 from rfl)]
    by_cases hy : y = 0
    · rw [if_pos hy] at h'; cases h'
    · rw [if_neg hy] at h'; cases h'
      unfold ckd
      rw [if_neg hy]
  · have h' : some (if x < y then (1 : Int32) else 0) = some r := h
    cases h'
    rw [if_neg (show ¬ nI 7 = 2 by decide), if_neg (show ¬ nI 7 = 3 by decide), if_neg (show ¬ nI 7 = 4 by decide), if_neg (show ¬ nI 7 = 5 by decide), if_neg (show ¬ nI 7 = 6 by decide), if_pos (show nI 7 = 7 from rfl)]
    by_cases hl : x < y
    · rw [if_neg (Int32.not_le.mpr hl), if_pos hl]
    · rw [if_pos (Int32.not_lt.mp hl), if_neg hl]
  · have h' : some (if y < x then (1 : Int32) else 0) = some r := h
    cases h'
    rw [if_neg (show ¬ nI 8 = 2 by decide), if_neg (show ¬ nI 8 = 3 by decide), if_neg (show ¬ nI 8 = 4 by decide), if_neg (show ¬ nI 8 = 5 by decide), if_neg (show ¬ nI 8 = 6 by decide), if_neg (show ¬ nI 8 = 7 by decide), if_pos (show nI 8 = 8 from rfl)]
    by_cases hl : y < x
    · rw [if_neg (Int32.not_le.mpr hl), if_pos hl]
    · rw [if_pos (Int32.not_lt.mp hl), if_neg hl]
  · have h' : some (if x = y then (1 : Int32) else 0) = some r := h
    cases h'
    rw [if_neg (show ¬ nI 9 = 2 by decide), if_neg (show ¬ nI 9 = 3 by decide), if_neg (show ¬ nI 9 = 4 by decide), if_neg (show ¬ nI 9 = 5 by decide), if_neg (show ¬ nI 9 = 6 by decide), if_neg (show ¬ nI 9 = 7 by decide), if_neg (show ¬ nI 9 = 8 by decide)]
    by_cases hl : x = y
    · rw [if_pos hl, if_pos hl]
    · rw [if_neg hl, if_neg hl]
/-- the code and the facts that a state holds -/
def Rok (s : Mem) (cd φ : Nat → Int32) (i j : Nat) : Prop := (∀ q, i ≤ q → q < j → gi s 12 q = cd q) ∧ ∀ q, q < 7 → gi s 18 q = φ q
noncomputable def rit (N E M n k : Nat) (s : Mem) : Option (Int32 × Mem) := itr (fun _ _ _ => none) (st_X10_comesTo_16 N (nI E) 0) M (nI n) (nI k) s
theorem rit_s (N E M n k : Nat) (s : Mem) : rit N E (M + 1) n k s = st_X10_comesTo_16 N (nI E) 0 (itr (fun _ _ _ => none) (st_X10_comesTo_16 N (nI E) 0) M) (nI n) (nI k) s := rfl
/-- the stack from a state on: place n holds v, those below are kept -/
def Ws (s s' : Mem) (n : Nat) (v : Int32) : Prop := (∀ c i, ¬ c = 17 → gi s' c i = gi s c i) ∧ (∀ q, q < n → gi s' 17 q = gi s 17 q) ∧ gi s' 17 n = v
theorem Rok.sub {s : Mem} {cd φ : Nat → Int32} {i j i' j' : Nat} (h : Rok s cd φ i j) (h1 : i ≤ i') (h2 : j' ≤ j) : Rok s cd φ i' j' := ⟨fun q a b => h.1 q (by omega) (by omega), h.2⟩
theorem Rok.ws {s s' : Mem} {cd φ : Nat → Int32} {i j : Nat} (h : Rok s cd φ i j) (e : ∀ c i, ¬ c = 17 → gi s' c i = gi s c i) : Rok s' cd φ i j := ⟨fun q hq hq2 => by rw [e _ _ (by decide)]; exact h.1 q hq hq2, fun q hq => by rw [e _ _ (by decide)]; exact h.2 q hq⟩
theorem Ws.si (s : Mem) (n : Nat) (v : Int32) : Ws s (si s 17 n v) n v := ⟨fun c i hc => gi_ne hc, fun q hq => gi_ni (by omega), gi_eq _ _ _ _⟩
theorem Ws.tr {s s1 s2 : Mem} {n m : Nat} {v w : Int32} (h1 : Ws s s1 n v) (h2 : Ws s1 s2 m w) (h : n < m) : gi s2 17 n = v := by rw [h2.2.1 n h]; exact h1.2.2
/-- what a piece's value says of a run -/
def Rrun (N E i j n : Nat) (s : Mem) (v : Option Int32) : Prop := (∃ x s' k, v = some x ∧ k ≤ j - i ∧ Ws s s' n x ∧ ∀ M, rit N E (M + k) n i s = rit N E M (n + 1) j s') ∨ (∃ s' k, v = none ∧ k ≤ j - i ∧ (∀ c i, ¬ c = 17 → gi s' c i = gi s c i) ∧ ∀ M, rit N E (M + k) n i s = some (0, s'))
/-- from place i to place j the code pushes v, or all is refused -/
def RSeg (cd φ : Nat → Int32) (i j : Nat) (v : Option Int32) : Prop :=
  i < j ∧ ∀ (N E : Nat) (s : Mem) (n : Nat), Rok s cd φ i j → n + (j - i) ≤ 260 → j ≤ E → E ≤ 260 → Rrun N E i j n s v
theorem rt_push {cd φ : Nat → Int32} {N E n i o v : Nat} {w : Int32} {s : Mem} (hR : Rok s cd φ i (i + 1)) (hi : i < E) (hE : E ≤ 260) (hn : n < 260) (h : cd i = nI (1048576 * o + v)) (hv : v < 1048576) (ho : (o = 0 ∧ w = nI v) ∨ (o = 1 ∧ v < 7 ∧ w = φ v)) (M : Nat) : rit N E (M + 1) n i s = rit N E M (n + 1) (i + 1) (si s 17 n w) := by
  have ho2 : o < 16 := by omega
  rw [rit_s]
  unfold rit
  generalize itr (fun _ _ _ => none) (st_X10_comesTo_16 N (nI E) 0) M = rec
  unfold st_X10_comesTo_16
  simp only [lt_p]
  rw [if_neg (nI_ge hi (by omega)), chk_n (by omega) (by decide), chk_n (by omega) (by decide), ix_n (by omega), hR.1 i (by omega) (by omega), h, un_rem ho2 hv, un_div ho2 hv, nI_1]
  rcases ho with ⟨rfl, rfl⟩ | ⟨rfl, hq, rfl⟩
  · rw [if_pos (show nI 0 = 0 from rfl), if_pos (show nI 0 = 0 from rfl), chk_n hn (by decide), ix_n (by omega), nI_1]
  · rw [if_neg (show ¬ nI 1 = 0 by decide), if_pos (show nI 1 = 1 from rfl), if_neg (show ¬ nI 1 = 0 by decide), chk_n hq (by decide), chk_n hn (by decide), ix_n (by omega), ix_n (by omega), hR.2 v hq, nI_1]
theorem rs_push {cd φ : Nat → Int32} {i o v : Nat} {w : Int32} (h : cd i = nI (1048576 * o + v)) (hv : v < 1048576) (ho : (o = 0 ∧ w = nI v) ∨ (o = 1 ∧ v < 7 ∧ w = φ v)) : RSeg cd φ i (i + 1) (some w) :=
  ⟨by omega, fun N E s n hR hn hE hE2 => Or.inl ⟨w, _, 1, rfl, by omega, Ws.si s n w, fun M => rt_push hR (by omega) hE2 (by omega) h hv ho M⟩⟩
theorem rt_not {cd φ : Nat → Int32} {N E n i : Nat} {s : Mem} (hR : Rok s cd φ i (i + 1)) (hi : i < E) (hE : E ≤ 260) (hn : n < 260) (h : cd i = nI (1048576 * 10 + 0)) (M : Nat) : rit N E (M + 1) (n + 1) i s = rit N E M (n + 1) (i + 1) (si s 17 n (1 - gi s 17 n)) := by
  rw [rit_s]
  unfold rit
  generalize itr (fun _ _ _ => none) (st_X10_comesTo_16 N (nI E) 0) M = rec
  unfold st_X10_comesTo_16
  simp only [lt_p]
  rw [if_neg (nI_ge hi (by omega)), chk_n (by omega) (by decide), chk_n (by omega) (by decide), ix_n (by omega), hR.1 i (by omega) (by omega), h, un_rem (by omega) (by omega), un_div (by omega) (by omega), nI_1 i, nI_pred]
  rw [if_neg (show ¬ nI 10 = 0 by decide), if_neg (show ¬ nI 10 = 1 by decide), if_pos (show nI 10 = 10 from rfl), chk_n hn (by decide), chk_n hn (by decide), ix_n (by omega)]
theorem rs_not {cd φ : Nat → Int32} {i j : Nat} {a : Option Int32} (h1 : RSeg cd φ i j a) (h : cd j = nI (1048576 * 10 + 0)) : RSeg cd φ i (j + 1) (notv a) := by
  obtain ⟨hij, h1⟩ := h1
  refine ⟨by omega, fun N E s n hR hn hE hE2 => ?_⟩
  rcases h1 N E s n (hR.sub (by omega) (by omega)) (by omega) (by omega) hE2 with ⟨x, s', k, rfl, hk, w, e⟩ | ⟨s', k, rfl, hk, w, e⟩
  · refine Or.inl ⟨1 - x, si s' 17 n (1 - gi s' 17 n), k + 1, rfl, by omega, ?_, fun M => ?_⟩
    · rw [w.2.2]
      exact ⟨fun c i hc => by rw [gi_ne hc]; exact w.1 c i hc, fun q hq => by rw [gi_ni (by omega)]; exact w.2.1 q hq, gi_eq _ _ _ _⟩
    · rw [show M + (k + 1) = (M + 1) + k by omega, e, rt_not ((hR.sub (by omega) (by omega)).ws w.1) (by omega) hE2 (by omega) h]
  · exact Or.inr ⟨s', k, rfl, by omega, w, e⟩
theorem rt_bin {cd φ : Nat → Int32} {N E n i o : Nat} {s : Mem} (h1 : 2 ≤ o) (h2 : o ≤ 9) (hR : Rok s cd φ i (i + 1)) (hi : i < E) (hE : E ≤ 260) (hn : n + 1 < 260) (h : cd i = nI (1048576 * o + 0)) (M : Nat) : rit N E (M + 1) (n + 2) i s = match opn o (gi s 17 n) (gi s 17 (n + 1)) with
    | some r => rit N E M (n + 1) (i + 1) (si s 17 n r)
    | none => some (0, s) := by
  rw [rit_s]
  unfold rit
  generalize itr (fun _ _ _ => none) (st_X10_comesTo_16 N (nI E) 0) M = rec
  unfold st_X10_comesTo_16
  simp only [lt_p]
  rw [if_neg (nI_ge hi (by omega)), chk_n (by omega) (by decide), chk_n (by omega) (by decide), ix_n (by omega), hR.1 i (by omega) (by omega), h, un_rem (by omega) (by omega), un_div (by omega) (by omega), nI_1 i, nI_pred, nI_pred]
  rw [if_neg (show ¬ nI o = 0 from nI_nq (b := 0) (by omega) (by omega) (by omega)), if_neg (show ¬ nI o = 1 from nI_nq (b := 1) (by omega) (by omega) (by omega)), if_neg (show ¬ nI o = 10 from nI_nq (b := 10) (by omega) (by omega) (by omega)), if_neg (show ¬ nI o = 11 from nI_nq (b := 11) (by omega) (by omega) (by omega)), if_neg (show ¬ nI o = 12 from nI_nq (b := 12) (by omega) (by omega) (by omega))]
  simp (disch := omega) only [chk_n, ix_n]
  cases e : opn o (gi s 17 n) (gi s 17 (n + 1)) with
  | some r =>
    rw [e_reckon N h1 h2 _ _ r e]
    simp (disch := omega) only [bd_some, chk_n]
    have z : (o = 5 ∨ o = 6) → ¬ gi s 17 (n + 1) = 0 := fun q hz => by
      rcases q with rfl | rfl
      · have e' : (if gi s 17 (n + 1) = 0 then none else some (gi s 17 n / gi s 17 (n + 1))) = some r := e
        rw [if_pos hz] at e'; cases e'
      · have e' : (if gi s 17 (n + 1) = 0 then none else some (gi s 17 n - gi s 17 n / gi s 17 (n + 1) * gi s 17 (n + 1))) = some r := e
        rw [if_pos hz] at e'; cases e'
    by_cases h5 : o = 5
    · rw [if_pos (show nI o = 5 by rw [h5]; rfl), if_neg (z (Or.inl h5))]
    · rw [if_neg (show ¬ nI o = 5 from nI_nq (b := 5) h5 (by omega) (by omega))]
      by_cases h6 : o = 6
      · rw [if_pos (show nI o = 6 by rw [h6]; rfl), if_neg (z (Or.inr h6))]
      · rw [if_neg (show ¬ nI o = 6 from nI_nq (b := 6) h6 (by omega) (by omega))]
  | none =>
    have z : (o = 5 ∨ o = 6) ∧ gi s 17 (n + 1) = 0 := by
      have hc : o = 2 ∨ o = 3 ∨ o = 4 ∨ o = 5 ∨ o = 6 ∨ o = 7 ∨ o = 8 ∨ o = 9 := by omega
      rcases hc with rfl | rfl | rfl | rfl | rfl | rfl | rfl | rfl
      · cases e
      · cases e
      · cases e
      · have e' : (if gi s 17 (n + 1) = 0 then none else some (gi s 17 n / gi s 17 (n + 1))) = none := e
        by_cases hz : gi s 17 (n + 1) = 0
        · exact ⟨Or.inl rfl, hz⟩
        · rw [if_neg hz] at e'; cases e'
      · have e' : (if gi s 17 (n + 1) = 0 then none else some (gi s 17 n - gi s 17 n / gi s 17 (n + 1) * gi s 17 (n + 1))) = none := e
        by_cases hz : gi s 17 (n + 1) = 0
        · exact ⟨Or.inr rfl, hz⟩
        · rw [if_neg hz] at e'; cases e'
      · cases e
      · cases e
      · cases e
    rcases z with ⟨h5 | h6, hz⟩
    · rw [if_pos (show nI o = 5 by rw [h5]; rfl), if_pos hz]
    · rw [if_neg (show ¬ nI o = 5 from nI_nq (b := 5) (by omega) (by omega) (by omega)), if_pos (show nI o = 6 by rw [h6]; rfl), if_pos hz]
theorem rs_bin {cd φ : Nat → Int32} {i j k o : Nat} {a b : Option Int32} (o1 : 2 ≤ o) (o2 : o ≤ 9) (h1 : RSeg cd φ i j a) (h2 : RSeg cd φ j k b) (h : cd k = nI (1048576 * o + 0)) : RSeg cd φ i (k + 1) (opv o a b) := by
  obtain ⟨hij, h1⟩ := h1
  obtain ⟨hjk, h2⟩ := h2
  refine ⟨by omega, fun N E s n hR hn hE hE2 => ?_⟩
  rcases h1 N E s n (hR.sub (by omega) (by omega)) (by omega) (by omega) hE2 with ⟨x, s1, k1, rfl, hk1, w1, e1⟩ | ⟨s1, k1, rfl, hk1, w1, e1⟩
  · rcases h2 N E s1 (n + 1) ((hR.sub (by omega) (by omega)).ws w1.1) (by omega) (by omega) hE2 with ⟨y, s2, k2, rfl, hk2, w2, e2⟩ | ⟨s2, k2, rfl, hk2, w2, e2⟩
    · have g1 : gi s2 17 n = x := w1.tr w2 (by omega)
      have g2 : gi s2 17 (n + 1) = y := w2.2.2
      have st := fun M => rt_bin (N := N) (E := E) (n := n) o1 o2 (((hR.sub (by omega) (by omega)).ws w1.1).ws w2.1) (by omega : k < E) hE2 (by omega) h M
      rw [g1, g2] at st
      have hv : opv o (some x) (some y) = opn o x y := rfl
      rw [hv]
      cases e : opn o x y with
      | some r =>
        rw [e] at st
        refine Or.inl ⟨r, si s2 17 n r, k1 + k2 + 1, rfl, by omega, ⟨fun c i hc => ?_, fun q hq => ?_, gi_eq _ _ _ _⟩, fun M => ?_⟩
        · rw [gi_ne hc, w2.1 c i hc, w1.1 c i hc]
        · rw [gi_ni (by omega), w2.2.1 q (by omega), w1.2.1 q hq]
        · rw [show M + (k1 + k2 + 1) = ((M + 1) + k2) + k1 by omega, e1, e2, st]
      | none =>
        rw [e] at st
        refine Or.inr ⟨s2, k1 + k2 + 1, rfl, by omega, fun c i hc => ?_, fun M => ?_⟩
        · rw [w2.1 c i hc, w1.1 c i hc]
        · rw [show M + (k1 + k2 + 1) = ((M + 1) + k2) + k1 by omega, e1, e2, st]
    · refine Or.inr ⟨s2, k1 + k2, opv_n2 _ _, by omega, fun c i hc => ?_, fun M => ?_⟩
      · rw [w2 c i hc, w1.1 c i hc]
      · rw [show M + (k1 + k2) = (M + k2) + k1 by omega, e1, e2]
  · exact Or.inr ⟨s1, k1, opv_n _ _, by omega, w1, e1⟩
theorem rt_jump {cd φ : Nat → Int32} {N E n i o T : Nat} {t : Int32} {s : Mem} (ho : (o = 11 ∧ t = 0) ∨ (o = 12 ∧ t = 1)) (hR : Rok s cd φ i (i + 1)) (hi : i < E) (hE : E ≤ 260) (hn : n < 260) (hT : T < 1048576) (h : cd i = nI (1048576 * o + T)) (M : Nat) : rit N E (M + 1) (n + 1) i s = if gi s 17 n = t then rit N E M (n + 1) T s else rit N E M n (i + 1) s := by
  rw [rit_s]
  unfold rit
  generalize itr (fun _ _ _ => none) (st_X10_comesTo_16 N (nI E) 0) M = rec
  unfold st_X10_comesTo_16
  simp only [lt_p]
  rw [if_neg (nI_ge hi (by omega)), chk_n (by omega) (by decide), chk_n (by omega) (by decide), ix_n (by omega), hR.1 i (by omega) (by omega), h, un_rem (by omega) hT, un_div (by omega) hT, nI_1 i, nI_pred, Int32.zero_add]
  rcases ho with ⟨rfl, rfl⟩ | ⟨rfl, rfl⟩
  · rw [if_neg (show ¬ nI 11 = 0 by decide), if_neg (show ¬ nI 11 = 1 by decide), if_neg (show ¬ nI 11 = 10 by decide), if_pos (show nI 11 = 11 from rfl), if_neg (show ¬ nI 11 = 12 by decide), chk_n hn (by decide), ix_n (by omega)]
  · rw [if_neg (show ¬ nI 12 = 0 by decide), if_neg (show ¬ nI 12 = 1 by decide), if_neg (show ¬ nI 12 = 10 by decide), if_neg (show ¬ nI 12 = 11 by decide), if_pos (show nI 12 = 12 from rfl), if_pos (show nI 12 = 12 from rfl), chk_n hn (by decide), ix_n (by omega)]
theorem rs_jump {cd φ : Nat → Int32} {i j f o : Nat} {a b v : Option Int32} {t : Int32} (ho : (o = 11 ∧ t = 0) ∨ (o = 12 ∧ t = 1)) (hB : isB a) (hv : v = if a = some t then a else if a = none then none else b) (h1 : RSeg cd φ i f a) (h2 : RSeg cd φ (f + 1) j b) (hj : j ≤ 260) (h : cd f = nI (1048576 * o + j)) : RSeg cd φ i j v := by
  obtain ⟨hif, h1⟩ := h1
  obtain ⟨hfj, h2⟩ := h2
  refine ⟨by omega, fun N E s n hR hn hE hE2 => ?_⟩
  rcases h1 N E s n (hR.sub (by omega) (by omega)) (by omega) (by omega) hE2 with ⟨x, s1, k1, rfl, hk1, w1, e1⟩ | ⟨s1, k1, rfl, hk1, w1, e1⟩
  · have st := fun M => rt_jump (N := N) (E := E) (n := n) ho ((hR.sub (by omega) (by omega)).ws w1.1) (by omega : f < E) hE2 (by omega) (by omega) h M
    rw [w1.2.2] at st
    by_cases hx : x = t
    · subst hx
      rw [if_pos rfl] at hv
      simp only [if_true] at st
      subst hv
      refine Or.inl ⟨x, s1, k1 + 1, rfl, by omega, w1, fun M => ?_⟩
      rw [show M + (k1 + 1) = (M + 1) + k1 by omega, e1, st]
    · rw [if_neg (fun q => hx (Option.some.inj q)), if_neg (by intro q; cases q)] at hv
      subst hv
      simp only [if_neg hx] at st
      rcases h2 N E s1 n ((hR.sub (by omega) (by omega)).ws w1.1) (by omega) hE hE2 with ⟨y, s2, k2, rfl, hk2, w2, e2⟩ | ⟨s2, k2, rfl, hk2, w2, e2⟩
      · refine Or.inl ⟨y, s2, k1 + 1 + k2, rfl, by omega, ⟨fun c i hc => ?_, fun q hq => ?_, w2.2.2⟩, fun M => ?_⟩
        · rw [w2.1 c i hc, w1.1 c i hc]
        · rw [w2.2.1 q hq, w1.2.1 q hq]
        · rw [show M + (k1 + 1 + k2) = ((M + k2) + 1) + k1 by omega, e1, st, e2]
      · refine Or.inr ⟨s2, k1 + 1 + k2, rfl, by omega, fun c i hc => ?_, fun M => ?_⟩
        · rw [w2 c i hc, w1.1 c i hc]
        · rw [show M + (k1 + 1 + k2) = ((M + k2) + 1) + k1 by omega, e1, st, e2]
  · rw [if_neg (by intro q; cases q), if_pos rfl] at hv
    subst hv
    exact Or.inr ⟨s1, k1, rfl, by omega, w1, e1⟩
theorem rs_and {cd φ : Nat → Int32} {i j f : Nat} {a b : Option Int32} (hB : isB a) (h1 : RSeg cd φ i f a) (h2 : RSeg cd φ (f + 1) j b) (hj : j ≤ 260) (h : cd f = nI (1048576 * 11 + j)) : RSeg cd φ i j (andv a b) := by
  refine rs_jump (t := 0) (Or.inl ⟨rfl, rfl⟩) hB ?_ h1 h2 hj h
  unfold andv
  rcases hB with rfl | rfl | rfl
  · rw [if_neg (by decide), if_neg (by decide), if_pos rfl]
  · rw [if_neg (by decide), if_pos rfl]
  · rw [if_pos rfl, if_neg (by decide), if_neg (by decide)]
theorem rs_or {cd φ : Nat → Int32} {i j f : Nat} {a b : Option Int32} (hB : isB a) (h1 : RSeg cd φ i f a) (h2 : RSeg cd φ (f + 1) j b) (hj : j ≤ 260) (h : cd f = nI (1048576 * 12 + j)) : RSeg cd φ i j (orv a b) := by
  refine rs_jump (t := 1) (Or.inr ⟨rfl, rfl⟩) hB ?_ h1 h2 hj h
  unfold orv
  rcases hB with rfl | rfl | rfl
  · rw [if_neg (by decide), if_neg (by decide), if_pos rfl]
  · rw [if_pos rfl, if_neg (by decide), if_neg (by decide)]
  · rw [if_neg (by decide), if_pos rfl]
theorem RSeg.fr {cd cd' φ : Nat → Int32} {i j : Nat} {v : Option Int32} (h : RSeg cd φ i j v) (e : ∀ q, i ≤ q → q < j → cd' q = cd q) : RSeg cd' φ i j v :=
  ⟨h.1, fun N E s n hR => h.2 N E s n ⟨fun q a b => by rw [hR.1 q a b]; exact e q a b, hR.2⟩⟩
