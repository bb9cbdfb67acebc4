/-! sums: the reference's loop, a step at a time -/
noncomputable def rfK (N : Nat) (s5 : Mem) : Option (Int32 × Mem) := bd (f_X10_isDigit N s5) (fun r7 s6 => if r7 = 0 then (bd (f_X10_here N s6) (fun r9 s8 => bd (f_X10_factOf N r9 s8) (fun r11 s10 => if r11 = (-1) then (bd (f_X10_wrongAt N 1 (gi s10 0 6) s10) (fun r16 s15 => ckz r16 (some (r16, s15)))) else bd (f_X10_notes N 1 r11 s10) (fun _ s12 => lt (si s12 0 6 ((gi s12 0 6) + 1)) (fun s14 => some (1, s14)))))) else bd (f_X10_readsNumber N s6) (fun r18 s17 => if r18 = 0 then (some (0, s17)) else bd (f_X10_notes N 0 (gi s17 0 9) s17) (fun _ s19 => some (1, s19))))
noncomputable def sK (N base : Nat) (s26 : Mem) : Option (Int32 × Mem) := bd (f_X10_hasOpenSum N (nI base) s26) (fun r28 s27 => if r28 = 0 then (bd (f_X10_closesSums N 1 s27) (fun _ s29 => some (1, s29))) else bd (f_X10_wrongAt N 1 (gi s27 0 6) s27) (fun r32 s31 => ckz r32 (some (r32, s31))))
noncomputable def aF (N base M : Nat) (τ : Mem) : Option (Int32 × Mem) := itr (fun _ => none) (st_X10_readsSum_14 N (nI base) (sK N base)) M τ
noncomputable def eF (N base q M : Nat) (τ : Mem) : Option (Int32 × Mem) := bd (itr (fun _ => none) (st_X10_readsFactor_0 N (rfK N)) q τ) (fun r s => if r = 0 then some (0, s) else aF N base M s)
theorem readsFactor_e (N : Nat) (τ : Mem) : f_X10_readsFactor N τ = itr (fun _ => none) (st_X10_readsFactor_0 N (rfK N)) N τ := rfl
theorem readsSum_e (N w : Nat) (τ : Mem) (h : gi τ 0 12 = nI w) : f_X10_readsSum N τ = eF N w N N τ := by
  unfold f_X10_readsSum
  rw [lt_p, h]
  rfl
theorem aF_s (N base M : Nat) (τ : Mem) : aF N base (M + 1) τ = st_X10_readsSum_14 N (nI base) (sK N base) (aF N base M) τ := rfl
theorem eF_s (N base q M : Nat) (τ : Mem) : eF N base (q + 1) M τ = bd (st_X10_readsFactor_0 N (rfK N) (itr (fun _ => none) (st_X10_readsFactor_0 N (rfK N)) q) τ) (fun r s => if r = 0 then some (0, s) else aF N base M s) := rfl
/-- a mark more, a sign further -/
def psh (τ : Mem) (w o i : Nat) : Mem := si (si (si τ 7 w (nI (1048576 * o + 0))) 0 12 (nI (w + 1))) 0 6 (nI i)
theorem RD.pshd {τ : Mem} {i op r w o i' : Nat} (hd : RD τ i op r w) : RD (psh τ w o i') i' op r (w + 1) := by
  unfold psh RD
  obtain ⟨a, b, c, d⟩ := hd
  simp (disch := omega) only [gi_ne, gi_ni, gi_eq]
  exact ⟨trivial, b, c, trivial⟩
theorem RF.pshd (τ : Mem) {r w o i : Nat} : RF r w τ (psh τ w o i) := ((RF.f7 r w τ (Nat.le_refl w) _).tr (RF.f0 r w _ (by omega) _) (by omega) (by omega)).tr (RF.f0 r w _ (by omega) _) (by omega) (by omega)
theorem mark_psh (τ : Mem) (w o i q : Nat) : gi (psh τ w o i) 7 q = if q = w then nI (1048576 * o + 0) else gi τ 7 q := by
  unfold psh
  rw [gi_ne (by decide), gi_ne (by decide), gi_si]
  by_cases h : q = w
  · rw [if_pos ⟨rfl, h⟩, if_pos h]
  · rw [if_neg (fun z => h z.2), if_neg h]
theorem said_psh (τ : Mem) (w o i q : Nat) : gi (psh τ w o i) 6 q = gi τ 6 q := by
  unfold psh
  rw [gi_ne (by decide), gi_ne (by decide), gi_ne (by decide)]
theorem mul_mk (o : Nat) : (1048576 : Int32) * nI o = nI (1048576 * o + 0) := by
  rw [li_1048576, pk_mul, Nat.add_zero]
theorem af_sign (N base M : Nat) {n j op r1 w1 r2 w o x : Nat} {txt : Nat → Nat} {τ τ1 : Mem} (hT : Tx txt n) (hj : j ≤ n) (hR : RT n txt τ) (hd : RD τ j op r1 w1) (h1 : 2 ≤ o) (h2 : o ≤ 6) (hs : hr txt n j = nI (sgn o)) (hx : x = if o < 4 then 1 else 0) (hc : f_X10_closesSums N (nI x) τ = some ((), τ1)) (hd1 : RD τ1 j op r2 w) (hw : w < 260) : aF N base (M + 1) τ = eF N base N M (psh τ1 w o (j + 1)) := by
  rw [aF_s]
  unfold st_X10_readsSum_14
  have e3 : gi (si (si τ1 7 w (nI (1048576 * o + 0))) 0 12 (nI (w + 1))) 0 6 + 1 = nI (j + 1) := by
    rw [gi_ni (by decide), gi_ne (by decide), hd1.1, nI_1]
  have e4 : gi (si τ1 7 w (nI (1048576 * o + 0))) 0 12 + 1 = nI (w + 1) := by
    rw [gi_ne (by decide), hd1.2.2.2, nI_1]
  simp only [lt_p, e_hereM N hT.1 hj hR hd, bd_some, hs, e_sumSign N h1 h2]
  rw [if_neg (nI_ne_m1 (by omega))]
  have body : ∀ f : Int32, f = nI x → (bd (f_X10_closesSums N f τ) (fun _ s19 => chk (gi s19 0 12) 260 (bd (f_X10_readsFactor N (si (si (si s19 7 (ix (gi s19 0 12)) ((1048576 : Int32) * nI o)) 0 12 ((gi (si s19 7 (ix (gi s19 0 12)) ((1048576 : Int32) * nI o)) 0 12) + 1)) 0 6 ((gi (si (si s19 7 (ix (gi s19 0 12)) ((1048576 : Int32) * nI o)) 0 12 ((gi (si s19 7 (ix (gi s19 0 12)) ((1048576 : Int32) * nI o)) 0 12) + 1)) 0 6) + 1))) (fun r25 s24 => if r25 = 0 then (some (0, s24)) else aF N base M s24)))) = eF N base N M (psh τ1 w o (j + 1)) := by
    intro f hf
    rw [hf, hc, bd_some, hd1.2.2.2, chk_n hw (by decide), ix_n (by omega), mul_mk, e4, e3, readsFactor_e]
    rfl
  by_cases h4 : o < 4
  · rw [if_neg (show ¬ (4 : Int32) ≤ nI o from nI_ge (b := 4) h4 (by decide))]
    rw [if_pos h4] at hx
    exact body 1 (by rw [hx]; rfl)
  · rw [if_pos (show (4 : Int32) ≤ nI o from nI_le (a := 4) (by omega) (by omega))]
    rw [if_neg h4] at hx
    exact body 0 (by rw [hx]; rfl)
theorem af_end (N base M : Nat) {n j op r1 w1 : Nat} {txt : Nat → Nat} {τ : Mem} (hT : Tx txt n) (hj : j ≤ n) (hR : RT n txt τ) (hd : RD τ j op r1 w1) (h0 : ¬ isS 0 txt n j) (h1 : ¬ isS 1 txt n j) (h93 : ¬ hr txt n j = 93 ∨ f_X10_hasOpenSum N (nI base) τ = some (0, τ)) : aF N base (M + 1) τ = sK N base τ := by
  rw [aF_s]
  unfold st_X10_readsSum_14
  simp only [lt_p, e_hereM N hT.1 hj hR hd, bd_some, e_sumSign_n N hT h0 h1]
  rw [if_pos trivial]
  by_cases q : hr txt n j = 93
  · rw [if_pos q]
    rcases h93 with h | h
    · exact absurd q h
    · rw [h, bd_some, if_pos rfl]
  · rw [if_neg q]
/-- a mark less, one less open, a sign further -/
def pop (τ : Mem) (w op i : Nat) : Mem := si (si (si τ 0 12 (nI w)) 0 10 (nI op)) 0 6 (nI i)
theorem RD.popd {τ : Mem} {i op op' r w w' i' : Nat} (hd : RD τ i op' r w') : RD (pop τ w op i') i' op r w := by
  unfold pop RD
  obtain ⟨a, b, c, d⟩ := hd
  simp (disch := omega) only [gi_ne, gi_ni, gi_eq]
  exact ⟨trivial, trivial, c, trivial⟩
theorem RF.popd (τ : Mem) {r w0 w op i : Nat} : RF r w0 τ (pop τ w op i) := ((RF.f0 r w0 τ (by omega) _).tr (RF.f0 r w0 _ (by omega) _) (by omega) (by omega)).tr (RF.f0 r w0 _ (by omega) _) (by omega) (by omega)
theorem row_pop (τ : Mem) (w op i q : Nat) {c : Nat} (hc : ¬ c = 0) : gi (pop τ w op i) c q = gi τ c q := by
  unfold pop
  rw [gi_ne hc, gi_ne hc, gi_ne hc]
theorem af_close (N base M : Nat) {n j op r1 w1 r2 w : Nat} {txt : Nat → Nat} {τ τ1 : Mem} (hT : Tx txt n) (hj : j ≤ n) (hR : RT n txt τ) (hd : RD τ j (op + 1) r1 w1) (hs : hr txt n j = 93) (ho : f_X10_hasOpenSum N (nI base) τ = some (1, τ)) (hc : f_X10_closesSums N 1 τ = some ((), τ1)) (hd1 : RD τ1 j (op + 1) r2 (w + 1)) : aF N base (M + 1) τ = aF N base M (pop τ1 w op (j + 1)) := by
  have k0 : ¬ isS 0 txt n j := fun q => by
    have hl := hT.2 j q.1
    have e := (inS_0 hl).mp q.2
    rw [hr_in q.1] at hs
    have := (nI_eq (b := 93) (by omega) (by decide)).mp hs
    omega
  have k1 : ¬ isS 1 txt n j := fun q => by
    have hl := hT.2 j q.1
    have e := (inS_1 hl).mp q.2
    rw [hr_in q.1] at hs
    have := (nI_eq (b := 93) (by omega) (by decide)).mp hs
    omega
  rw [aF_s]
  unfold st_X10_readsSum_14
  simp only [lt_p, e_hereM N hT.1 hj hR hd, bd_some, e_sumSign_n N hT k0 k1]
  rw [if_pos trivial, if_pos hs, ho, bd_some, if_neg (by decide), hc, bd_some, hd1.2.2.2, nI_pred]
  have e1 : gi (si τ1 0 12 (nI w)) 0 10 - 1 = nI op := by rw [gi_ni (by decide), hd1.2.1, nI_pred]
  rw [e1]
  have e2 : gi (si (si τ1 0 12 (nI w)) 0 10 (nI op)) 0 6 + 1 = nI (j + 1) := by rw [gi_ni (by decide), gi_ni (by decide), hd1.1, nI_1]
  rw [e2]
  rfl
-- is a bracket open
theorem lp_open (N : Nat) {τ : Mem} {i op r w : Nat} (hd : RD τ i op r w) (hw : w ≤ 260) : ∀ (m p M : Nat), p + m = w → m < M → ((∀ q, p ≤ q → q < w → ¬ gi τ 7 q / 1048576 = 14) → itr (fun _ _ => none) (st_X10_hasOpenSum_2 N) M (nI p) τ = some (0, τ)) ∧ ((∃ q, p ≤ q ∧ q < w ∧ gi τ 7 q / 1048576 = 14) → itr (fun _ _ => none) (st_X10_hasOpenSum_2 N) M (nI p) τ = some (1, τ))
  | m, p, 0, _, h2 => absurd h2 (by omega)
  | 0, p, M + 1, h1, _ => by
    have e : itr (fun _ _ => none) (st_X10_hasOpenSum_2 N) (M + 1) (nI p) τ = some (0, τ) := by
      show st_X10_hasOpenSum_2 N _ (nI p) τ = _
      unfold st_X10_hasOpenSum_2
      rw [hd.2.2.2, if_pos (nI_le (by omega) (by omega))]
    exact ⟨fun _ => e, fun ⟨q, q1, q2, _⟩ => by omega⟩
  | m + 1, p, M + 1, h1, h2 => by
    have e : itr (fun _ _ => none) (st_X10_hasOpenSum_2 N) (M + 1) (nI p) τ = if gi τ 7 p / 1048576 = 14 then some (1, τ) else itr (fun _ _ => none) (st_X10_hasOpenSum_2 N) M (nI (p + 1)) τ := by
      show st_X10_hasOpenSum_2 N _ (nI p) τ = _
      generalize itr (fun _ _ => none) (st_X10_hasOpenSum_2 N) M = rec
      unfold st_X10_hasOpenSum_2
      simp only [lt_p]
      rw [hd.2.2.2, if_neg (nI_ge (by omega) (by omega)), chk_n (by omega) (by decide), ix_n (by omega), nI_1]
    obtain ⟨i1, i2⟩ := lp_open N hd hw m (p + 1) M (by omega) (by omega)
    rw [e]
    by_cases hq : gi τ 7 p / 1048576 = 14
    · rw [if_pos hq]
      exact ⟨fun z => absurd hq (z p (by omega) (by omega)), fun _ => rfl⟩
    · rw [if_neg hq]
      refine ⟨fun z => i1 (fun q q1 q2 => z q (by omega) q2), fun ⟨q, q1, q2, q3⟩ => i2 ⟨q, ?_, q2, q3⟩⟩
      rcases (show p = q ∨ p + 1 ≤ q by omega) with rfl | h
      · exact absurd q3 hq
      · exact h
theorem ho_yes (N base : Nat) {τ : Mem} {i op r w q : Nat} (hN : 300 ≤ N) (hd : RD τ i op r w) (hw : w ≤ 260) (h1 : base ≤ q) (h2 : q < w) (h3 : gi τ 7 q = nI (1048576 * 14 + 0)) : f_X10_hasOpenSum N (nI base) τ = some (1, τ) := by
  unfold f_X10_hasOpenSum
  refine (lp_open N hd hw (w - base) base N (by omega) (by omega)).2 ⟨q, h1, h2, ?_⟩
  rw [h3, un_div (by omega) (by omega)]
  rfl
theorem ho_no (N base : Nat) {τ : Mem} {i op r w : Nat} (hN : 300 ≤ N) (hd : RD τ i op r w) (hw : w ≤ 260) (hb : base ≤ w) (h : ∀ q, base ≤ q → q < w → ∃ o, o < 14 ∧ gi τ 7 q = nI (1048576 * o + 0)) : f_X10_hasOpenSum N (nI base) τ = some (0, τ) := by
  unfold f_X10_hasOpenSum
  refine (lp_open N hd hw (w - base) base N (by omega) (by omega)).1 (fun q q1 q2 => ?_)
  obtain ⟨o, ho, e⟩ := h q q1 q2
  rw [e, un_div (by omega) (by omega)]
  exact nI_nq (b := 14) (by omega) (by omega) (by omega)
theorem PdN.marks : ∀ {k : Nat} {τ : Mem} {r w r1 w1 : Nat} {V : Vf}, PdN k τ r w r1 w1 V → ∀ q, w ≤ q → q < w1 → ∃ o, o < 14 ∧ gi τ 7 q = nI (1048576 * o + 0)
  | 0, τ, r, w, r1, w1, V, h, q, q1, q2 => by
    have h1 : w1 = w := h.1
    omega
  | k + 1, τ, r, w, r1, w1, V, h, q, q1, q2 => by
    rcases h with h | ⟨o, m, A, B, h1, h2, h3, h4, h5⟩
    · exact PdN.marks h q q1 q2
    · rcases (show w = q ∨ w + 1 ≤ q by omega) with rfl | z
      · exact ⟨o, by unfold opr at h1; omega, h2⟩
      · exact PdN.marks h4 q z q2
-- a factor is expected
theorem ef_open (N base q M : Nat) {n i op r w : Nat} {txt : Nat → Nat} {τ : Mem} (hT : Tx txt n) (hi : i ≤ n) (hR : RT n txt τ) (hd : RD τ i op r w) (hs : hr txt n i = 91) (ho : op < 6) (hw : w < 260) : eF N base (q + 1) M τ = eF N base q M (psh (si τ 0 10 (nI (op + 1))) w 14 (i + 1)) := by
  have eo : f_X10_opens N 14 τ = some (1, psh (si τ 0 10 (nI (op + 1))) w 14 (i + 1)) := by
    unfold f_X10_opens
    simp only [lt_p]
    rw [hd.2.1, if_neg (show ¬ nI op = 6 from nI_nq (b := 6) (by omega) (by omega) (by omega)), nI_1]
    have a1 : gi (si τ 0 10 (nI (op + 1))) 0 12 = nI w := by rw [gi_ni (by decide)]; exact hd.2.2.2
    rw [a1, chk_n hw (by decide), ix_n (by omega), show (14 : Int32) = nI 14 from rfl, mul_mk]
    have a2 : gi (si (si τ 0 10 (nI (op + 1))) 7 w (nI (1048576 * 14 + 0))) 0 12 + 1 = nI (w + 1) := by rw [gi_ne (by decide), a1, nI_1]
    rw [a2]
    have a3 : gi (si (si (si τ 0 10 (nI (op + 1))) 7 w (nI (1048576 * 14 + 0))) 0 12 (nI (w + 1))) 0 6 + 1 = nI (i + 1) := by rw [gi_ni (by decide), gi_ne (by decide), gi_ni (by decide), hd.1, nI_1]
    rw [a3]
    rfl
  rw [eF_s]
  unfold eF
  generalize itr (fun _ => none) (st_X10_readsFactor_0 N (rfK N)) q = rec
  unfold st_X10_readsFactor_0
  rw [e_hereM N hT.1 hi hR hd, bd_some, if_pos hs, eo, bd_some, if_neg (by decide)]
theorem ef_over (N base q M : Nat) {n i r w : Nat} {txt : Nat → Nat} {τ : Mem} (hT : Tx txt n) (hi : i ≤ n) (hR : RT n txt τ) (hd : RD τ i 6 r w) (hs : hr txt n i = 91) : eF N base (q + 1) M τ = some (0, si τ 0 8 (flt 5 i)) := by
  have eo : f_X10_opens N 14 τ = some (0, si τ 0 8 (flt 5 i)) := by
    unfold f_X10_opens
    rw [hd.2.1, if_pos (show nI 6 = 6 from rfl), hd.1, show (5 : Int32) = nI 5 from rfl, e_wrongAt, bd_some, ckz_0]
  rw [eF_s]
  unfold st_X10_readsFactor_0
  rw [e_hereM N hT.1 hi hR hd, bd_some, if_pos hs, eo, bd_some, if_pos rfl, bd_some, if_pos rfl]
theorem ef_in (N base q M : Nat) {n i op r w : Nat} {txt : Nat → Nat} {τ : Mem} (hT : Tx txt n) (hi : i ≤ n) (hR : RT n txt τ) (hd : RD τ i op r w) (hs : ¬ hr txt n i = 91) : eF N base (q + 1) M τ = bd (rfK N τ) (fun r s => if r = 0 then some (0, s) else aF N base M s) := by
  rw [eF_s]
  unfold st_X10_readsFactor_0
  rw [e_hereM N hT.1 hi hR hd, bd_some, if_neg hs]
/-- a code more -/
def note1 (τ : Mem) (r o v : Nat) : Mem := si (si τ 6 r (nI (1048576 * o + v))) 0 11 (nI (r + 1))
theorem RD.note {τ : Mem} {i op r w o v : Nat} (hd : RD τ i op r w) : RD (note1 τ r o v) i op (r + 1) w := by
  unfold note1 RD
  obtain ⟨a, b, c, d⟩ := hd
  simp (disch := omega) only [gi_ne, gi_ni, gi_eq]
  exact ⟨a, b, trivial, d⟩
theorem RF.note (τ : Mem) {r w o v : Nat} : RF r w τ (note1 τ r o v) := (RF.f6 r w τ (Nat.le_refl r) _).tr (RF.f0 r w _ (by omega) _) (by omega) (by omega)
theorem said_note (τ : Mem) (r o v q : Nat) : gi (note1 τ r o v) 6 q = if q = r then nI (1048576 * o + v) else gi τ 6 q := by
  unfold note1
  rw [gi_ne (by decide), gi_si]
  by_cases h : q = r
  · rw [if_pos ⟨rfl, h⟩, if_pos h]
  · rw [if_neg (fun z => h z.2), if_neg h]
theorem e_factOf (N : Nat) {q : Nat} (hq : q < 7) (s : Mem) : f_X10_factOf N (nI (97 + fp q)) s = some (nI q, s) := by
  unfold f_X10_factOf
  rcases (show q = 0 ∨ q = 1 ∨ q = 2 ∨ q = 3 ∨ q = 4 ∨ q = 5 ∨ q = 6 by omega) with rfl | rfl | rfl | rfl | rfl | rfl | rfl <;> rfl
theorem e_factOf_n (N : Nat) {txt : Nat → Nat} {n j : Nat} (hT : Tx txt n) (h : ¬ isS 4 txt n j) (s : Mem) : f_X10_factOf N (hr txt n j) s = some (-1, s) := by
  have k0 : ∀ q, q < 7 → ¬ hr txt n j = nI (97 + fp q) := fun q hq => hr_nq hT (by have := fp_lt q; omega) (fun z => h ⟨z.1, (inS_4 (hT.2 j z.1)).mpr ⟨q, hq, z.2⟩⟩)
  unfold f_X10_factOf
  rw [if_neg (show ¬ hr txt n j = 100 from k0 5 (by omega)), if_neg (show ¬ hr txt n j = 107 from k0 3 (by omega)), if_neg (show ¬ hr txt n j = 108 from k0 4 (by omega)), if_neg (show ¬ hr txt n j = 109 from k0 6 (by omega)), if_neg (show ¬ hr txt n j = 112 from k0 0 (by omega)), if_neg (show ¬ hr txt n j = 114 from k0 2 (by omega)), if_neg (show ¬ hr txt n j = 119 from k0 1 (by omega))]
theorem ef_fact (N base q M : Nat) {n i op r w k : Nat} {txt : Nat → Nat} {τ : Mem} (hT : Tx txt n) (hi : i < n) (hR : RT n txt τ) (hd : RD τ i op r w) (hk : k < 7) (hs : txt i = 97 + fp k) (hr' : r < 260) : eF N base (q + 1) M τ = aF N base M (si (note1 τ r 1 k) 0 6 (nI (i + 1))) := by
  have hf := fp_lt k
  have hh : hr txt n i = nI (97 + fp k) := by rw [hr_in hi, hs]
  have hnd : ¬ isD txt n i := fun z => by have := z.2; omega
  rw [ef_in N base q M hT (by omega) hR hd (by rw [hh]; exact nI_nq (b := 91) (by omega) (by omega) (by omega))]
  unfold rfK
  have e2 : f_X10_notes N 1 (nI k) τ = some ((), note1 τ r 1 k) := e_notes N 1 k hd hr'
  rw [(e_digM N hT (by omega) hR hd).2 hnd, bd_some, if_pos rfl, e_hereM N hT.1 (by omega) hR hd, bd_some, hh, e_factOf N hk, bd_some, if_neg (nI_ne_m1 (by omega)), e2, bd_some, lt_p, (hd.note (o := 1) (v := k)).1, nI_1, bd_some, if_neg (by decide)]
theorem ef_bad (N base q M : Nat) {n i op r w : Nat} {txt : Nat → Nat} {τ : Mem} (hT : Tx txt n) (hi : i ≤ n) (hR : RT n txt τ) (hd : RD τ i op r w) (h1 : ¬ hr txt n i = 91) (h2 : ¬ isD txt n i) (h3 : ¬ isS 4 txt n i) : eF N base (q + 1) M τ = some (0, si τ 0 8 (flt 1 i)) := by
  rw [ef_in N base q M hT hi hR hd h1]
  unfold rfK
  rw [(e_digM N hT hi hR hd).2 h2, bd_some, if_pos rfl, e_hereM N hT.1 hi hR hd, bd_some, e_factOf_n N hT h3, bd_some, if_pos rfl, hd.1, show (1 : Int32) = nI 1 from rfl, e_wrongAt, bd_some, ckz_0, bd_some, if_pos rfl]
