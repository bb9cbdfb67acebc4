/-! sums: the two readers go side by side -/
def lim (t : Nat) : Nat := if t = 0 then 1 else if t = 1 then 10 else if t = 2 then 100 else if t = 3 then 1000 else if t = 4 then 10000 else 100000
theorem lim_s {t v d : Nat} (ht : t < 5) (hv : v < lim t) (hd : d ≤ 9) : v * 10 + d < lim (t + 1) := by
  unfold lim at *
  rcases (show t = 0 ∨ t = 1 ∨ t = 2 ∨ t = 3 ∨ t = 4 by omega) with rfl | rfl | rfl | rfl | rfl <;> simp at hv ⊢ <;> omega
theorem lim_5 {t v : Nat} (ht : t ≤ 5) (hv : v < lim t) : v < 100000 := by
  unfold lim at hv
  rcases (show t = 0 ∨ t = 1 ∨ t = 2 ∨ t = 3 ∨ t = 4 ∨ t = 5 by omega) with rfl | rfl | rfl | rfl | rfl | rfl <;> simp at hv <;> omega
theorem lp_num (N b n i c r w op : Nat) (txt : Nat → Nat) (hb : isLw b = true) (hT : Tx txt n) (g0 : Int32 → Int32 → Mem → Option (Unit × Mem)) (g1 : Int32 → Mem → Option (Unit × Mem)) (k146 : Int32 → Mem → Option (Unit × Mem)) : ∀ (m t v Mc Mr : Nat) (σ τ : Mem), t + m = 5 → m < Mc → m < Mr → v < lim t → i + t ≤ n → CT b n txt σ → CD b σ (i + t) 0 c → RT n txt τ → RD τ (i + t) op r w → gi τ 0 9 = nI v → ∃ (t' v' : Nat) (σ' τ' : Mem), (t ≤ t' ∧ t' ≤ 5 ∧ v' < 100000 ∧ i + t' ≤ n) ∧ (isD txt n (i + t) → t < 5 → t + 1 ≤ t') ∧ (itr (fun _ _ _ => none) (st_X6_readFactor_101 N g0 g1 k146) Mc (nI v) (nI t) σ = k146 (nI v') σ' ∧ CF b c σ σ' ∧ CD b σ' (i + t') 0 c) ∧ RF r w τ τ' ∧ ((isD txt n (i + t') ∧ t' = 5 ∧ itr (fun _ => none) (st_X10_readsNumber_10 N (nI i)) Mr τ = some (0, τ') ∧ gi τ' 0 8 = flt 2 (i + t')) ∨ (¬ isD txt n (i + t') ∧ itr (fun _ => none) (st_X10_readsNumber_10 N (nI i)) Mr τ = some (1, τ') ∧ RD τ' (i + t') op r w ∧ gi τ' 0 9 = nI v'))
  | m, t, v, 0, _, σ, τ, _, h2, _, _, _, _, _, _, _, _ => absurd h2 (by omega)
  | m, t, v, Mc + 1, 0, σ, τ, _, _, h2, _, _, _, _, _, _, _ => absurd h2 (by omega)
  | m, t, v, Mc + 1, Mr + 1, σ, τ, h1, h2, h3, hv, hi, hC, hD, hR, hd, h9 => by
    have ec : itr (fun _ _ _ => none) (st_X6_readFactor_101 N g0 g1 k146) (Mc + 1) (nI v) (nI t) σ = st_X6_readFactor_101 N g0 g1 k146 (itr (fun _ _ _ => none) (st_X6_readFactor_101 N g0 g1 k146) Mc) (nI v) (nI t) σ := rfl
    have er : itr (fun _ => none) (st_X10_readsNumber_10 N (nI i)) (Mr + 1) τ = st_X10_readsNumber_10 N (nI i) (itr (fun _ => none) (st_X10_readsNumber_10 N (nI i)) Mr) τ := rfl
    by_cases hdg : isD txt n (i + t)
    · by_cases ht : t = 5
      · refine ⟨t, v, σ, si τ 0 8 (flt 2 (i + t)), ⟨by omega, by omega, lim_5 (by omega) hv, hi⟩, fun _ z => by omega, ⟨?_, CF.rf _ _ _, hD⟩, RF.f0 _ _ _ (by omega) _, Or.inl ⟨hdg, ht, ?_, gi_eq _ _ _ _⟩⟩
        · rw [ec]
          unfold st_X6_readFactor_101
          rw [if_pos (show (5 : Int32) ≤ nI t from nI_le (a := 5) (by omega) (by omega))]
        · rw [er]
          unfold st_X10_readsNumber_10
          rw [(e_digM N hT hi hR hd).1 hdg, bd_some, if_neg (by decide), hd.1, if_pos (show nI (i + t) = nI i + 5 by rw [ht]; exact (nI_add i 5).symm), show (2 : Int32) = nI 2 from rfl, e_wrongAt, bd_some, ckz_0]
      · have hl := hT.2 _ hdg.1
        have hg := hdg.2
        have hnum : nI v * 10 + nI (txt (i + t)) - 48 = nI (v * 10 + (txt (i + t) - 48)) := by
          rw [li_10, li_48, pk_mul, nI_add, pk_sub (by omega), show v * 10 + txt (i + t) - 48 = v * 10 + (txt (i + t) - 48) by omega]
        have hnum2 : (10 : Int32) * nI v + nI (txt (i + t)) - 48 = nI (v * 10 + (txt (i + t) - 48)) := by
          rw [Int32.mul_comm]; exact hnum
        have c1 : st_X6_readFactor_101 N g0 g1 k146 (itr (fun _ _ _ => none) (st_X6_readFactor_101 N g0 g1 k146) Mc) (nI v) (nI t) σ = itr (fun _ _ _ => none) (st_X6_readFactor_101 N g0 g1 k146) Mc (nI (v * 10 + (txt (i + t) - 48))) (nI (t + 1)) (si σ 93 2 (nI (i + (t + 1)))) := by
          generalize itr (fun _ _ _ => none) (st_X6_readFactor_101 N g0 g1 k146) Mc = rec
          unfold st_X6_readFactor_101
          rw [if_neg (show ¬ (5 : Int32) ≤ nI t from nI_ge (b := 5) (by omega) (by decide)), e_hereC N hT.1 hi hC hD, bd_some, (e_digH N hT σ).1 hdg, bd_some, if_neg (by decide), e_hereC N hT.1 hi hC hD, bd_some, hr_in hdg.1]
          simp only [lt_p]
          rw [hnum, hD.1, nI_1, nI_1]
          rfl
        have r1 : st_X10_readsNumber_10 N (nI i) (itr (fun _ => none) (st_X10_readsNumber_10 N (nI i)) Mr) τ = itr (fun _ => none) (st_X10_readsNumber_10 N (nI i)) Mr (si (si τ 0 9 (nI (v * 10 + (txt (i + t) - 48)))) 0 6 (nI (i + (t + 1)))) := by
          generalize itr (fun _ => none) (st_X10_readsNumber_10 N (nI i)) Mr = rec
          unfold st_X10_readsNumber_10
          rw [(e_digM N hT hi hR hd).1 hdg, bd_some, if_neg (by decide), hd.1, if_neg (show ¬ nI (i + t) = nI i + 5 from fun q => by rw [show (5 : Int32) = nI 5 from rfl, nI_add] at q; have := (nI_eq (by have := hT.1; omega) (by have := hT.1; omega)).mp q; omega), e_hereM N hT.1 hi hR hd, bd_some, hr_in hdg.1, h9]
          simp only [lt_p]
          rw [hnum2, gi_ni (by decide), hd.1, nI_1]
          rfl
        have hD1 : CD b (si σ 93 2 (nI (i + (t + 1)))) (i + (t + 1)) 0 c := by
          have hb' := isLw_or hb
          exact ⟨gi_eq _ _ _ _, by rw [gi_ni (by decide)]; exact hD.2.1, by rw [gi_ne (by omega)]; exact hD.2.2⟩
        have hd1 : RD (si (si τ 0 9 (nI (v * 10 + (txt (i + t) - 48)))) 0 6 (nI (i + (t + 1)))) (i + (t + 1)) op r w := by
          unfold RD
          simp (disch := omega) only [gi_ne, gi_ni, gi_eq]
          exact ⟨trivial, hd.2.1, hd.2.2.1, hd.2.2.2⟩
        have f1 : RF r w τ (si (si τ 0 9 (nI (v * 10 + (txt (i + t) - 48)))) 0 6 (nI (i + (t + 1)))) := (RF.f0 r w τ (by omega) _).tr (RF.f0 r w _ (by omega) _) (by omega) (by omega)
        have f2 : CF b c σ (si σ 93 2 (nI (i + (t + 1)))) := CF.at' _ _ _ _
        obtain ⟨t', v', σ', τ', ⟨q1, q2, q3, q4⟩, q5, ⟨q6, q7, q8⟩, q9, q10⟩ := lp_num N b n i c r w op txt hb hT g0 g1 k146 (m - 1) (t + 1) (v * 10 + (txt (i + t) - 48)) Mc Mr _ _ (by omega) (by omega) (by omega) (lim_s (by omega) hv (by omega)) (by have := hdg.1; omega) (hC.fr hb f2) hD1 (hR.fr f1) hd1 (by rw [gi_ni (by decide), gi_eq])
        refine ⟨t', v', σ', τ', ⟨by omega, q2, q3, q4⟩, fun _ _ => q1, ⟨?_, f2.tr q7 (by omega), q8⟩, f1.tr q9 (by omega) (by omega), ?_⟩
        · rw [ec, c1, q6]
        · rw [er, r1]; exact q10
    · refine ⟨t, v, σ, τ, ⟨by omega, by omega, lim_5 (by omega) hv, hi⟩, fun z => absurd z hdg, ⟨?_, CF.rf _ _ _, hD⟩, RF.rf _ _ _, Or.inr ⟨hdg, ?_, hd, h9⟩⟩
      · rw [ec]
        unfold st_X6_readFactor_101
        by_cases ht : t = 5
        · rw [if_pos (show (5 : Int32) ≤ nI t from nI_le (a := 5) (by omega) (by omega))]
        · rw [if_neg (show ¬ (5 : Int32) ≤ nI t from nI_ge (b := 5) (by omega) (by decide)), e_hereC N hT.1 hi hC hD, bd_some, (e_digH N hT σ).2 hdg, bd_some, if_pos rfl]
      · rw [er]
        unfold st_X10_readsNumber_10
        rw [(e_digM N hT hi hR hd).2 hdg, bd_some, if_pos rfl]
/-- the class has told a fault -/
def CX (b c : Nat) (σ σ' : Mem) (F : Int32) : Prop := CF b c σ σ' ∧ gi σ' 93 3 = F ∧ F < 0 ∧ ∃ c', c ≤ c' ∧ c' ≤ 240 ∧ gi σ' b 6 = nI c'
theorem CX.ne {b c : Nat} {σ σ' : Mem} {F : Int32} (h : CX b c σ σ' F) : ¬ F = 0 := fun q => by
  have h1 := h.2.2.1
  rw [q] at h1
  exact absurd h1 (by decide)
theorem CX.mk' {b c x i : Nat} {σ σ1 : Mem} {F : Int32} {c1 : Nat} (hb : isLw b = true) (h : CF b c σ σ1) (hd : CD b σ1 i F c1) (h1 : c ≤ c1) (h2 : c1 ≤ 240) (hx : 1 ≤ x) (hx7 : x ≤ 7) (hi : i ≤ 240) : CX b c σ (si σ1 93 3 (flt x i)) (flt x i) := by
  have hb' := isLw_or hb
  exact ⟨h.tr (CF.ft _ _ _ _) h1, gi_eq _ _ _ _, flt_neg hx hx7 hi, c1, h1, h2, by rw [gi_ne (by omega)]; exact hd.2.2⟩
theorem CX.tr {b c c1 : Nat} {σ σ1 σ2 : Mem} {F : Int32} (h : CF b c σ σ1) (h1 : CX b c1 σ1 σ2 F) (hc : c ≤ c1) : CX b c σ σ2 F := by
  obtain ⟨a, d, e, c', f, g, i⟩ := h1
  exact ⟨h.tr a hc, d, e, c', by omega, g, i⟩
theorem e_addS (N : Nat) {b c : Nat} {σ : Mem} (x : Int32) (hd : gi σ b 6 = nI c) (hc : c < 240) : f_X4_add N b x σ = some ((), si (si σ (b + 5) c x) b 6 (nI (c + 1))) := by
  unfold f_X4_add
  rw [hd, if_neg (show ¬ (240 : Int32) ≤ nI c from nI_ge (a := c) (b := 240) hc (by decide)), chk_n hc (by decide), ix_n (by omega)]
  simp only [lt_p]
  rw [gi_ne (by omega), hd, nI_1]
/-- a code more, behind a fault -/
theorem CX.add (N : Nat) {b c : Nat} {σ σ' : Mem} {F : Int32} (hb : isLw b = true) (h : CX b c σ σ' F) (x : Int32) : ∃ σ2, f_X4_add N b x σ' = some ((), σ2) ∧ CX b c σ σ2 F := by
  have hb' := isLw_or hb
  obtain ⟨a, d, e, c', f, g, i⟩ := h
  by_cases hc : c' < 240
  · refine ⟨_, e_addS N x i hc, a.tr (CF.ad b c' σ' (Nat.le_refl _) _ _) f, ?_, e, c' + 1, by omega, by omega, gi_eq _ _ _ _⟩
    rw [gi_ne (by omega), gi_ne (by omega)]
    exact d
  · refine ⟨σ', ?_, a, d, e, c', f, g, i⟩
    unfold f_X4_add
    rw [i, if_pos (show (240 : Int32) ≤ nI c' from nI_le (a := 240) (by omega) (by omega))]
def OutS (N base b n : Nat) (txt : Nat → Nat) (k o uC uR e : Nat) (σ τ : Mem) (i c r w : Nat) (run : Nat → Option (Int32 × Mem)) (res : Option (Unit × Mem)) : Prop :=
  (∃ (σ' τ' : Mem) (j c1 r1 w1 kk : Nat) (V : Vf), res = some ((), σ') ∧ (i + e ≤ j ∧ j ≤ n ∧ kk + e ≤ j - i ∧ c1 + uC ≤ j ∧ w1 ≤ j ∧ r1 + (w1 - w) + uR ≤ j) ∧ (CF b c σ σ' ∧ CD b σ' j 0 c1 ∧ ∀ φ, CSeg (fun q => gi σ' (b + 5) q) φ c c1 (13 + k - 2 * o) (V φ)) ∧ (RF r w τ τ' ∧ RD τ' j o r1 w1 ∧ PdN k τ' r w r1 w1 V) ∧ ((1 ≤ k → ¬ isS 0 txt n j) ∧ (2 ≤ k → ¬ isS 1 txt n j)) ∧ ∀ M, run (M + kk) = aF N base M τ') ∨
  (∃ (σ' τ' : Mem) (F : Int32) (kk : Nat), res = some ((), σ') ∧ CX b c σ σ' F ∧ kk ≤ n - i ∧ RF r w τ τ' ∧ gi τ' 0 8 = F ∧ ∀ M, run (M + kk) = some (0, τ'))
/-- the class's g reads what the reference reads: a FACTOR (k 0), a TERM (1), a SUM (2), with o open -/
def SimS (N base b n : Nat) (txt : Nat → Nat) (k o : Nat) (g : Mem → Option (Unit × Mem)) : Prop := ∀ (uC uR : Nat) (σ τ : Mem) (i c r w q : Nat), CT b n txt σ → CD b σ i 0 c → RT n txt τ → RD τ i o r w → i ≤ n → c + uC ≤ i → r + uR ≤ i → w ≤ i → base ≤ w → (k = 0 ∨ Bar (k - 1) τ w) → 7 ≤ q + o → OutS N base b n txt k o uC uR 1 σ τ i c r w (fun M => eF N base q M τ) (g σ)
theorem e_passT (N : Nat) {b n j c x : Nat} {txt : Nat → Nat} {σ : Mem} (hn : n ≤ 240) (hj : j ≤ n) (h : CT b n txt σ) (hd : CD b σ j 0 c) (hx : hr txt n j = nI x) : f_X6_pass N (nI x) σ = some ((), si σ 93 2 (nI (j + 1))) := by
  unfold f_X6_pass
  rw [if_pos hd.2.1, e_hereC N hn hj h hd, bd_some, if_pos hx, lt_p, hd.1, nI_1]
theorem e_passN (N : Nat) {b n j c x : Nat} {txt : Nat → Nat} {σ : Mem} (hn : n ≤ 240) (hj : j ≤ n) (h : CT b n txt σ) (hd : CD b σ j 0 c) (hx : ¬ hr txt n j = nI x) : f_X6_pass N (nI x) σ = some ((), si σ 93 3 (flt 1 j)) := by
  unfold f_X6_pass
  rw [if_pos hd.2.1, e_hereC N hn hj h hd, bd_some, if_neg hx, show (1 : Int32) = nI 1 from rfl, e_failC N 1 hd, bd_some]
theorem e_passF (N : Nat) {σ : Mem} {F x : Int32} (hF : ¬ F = 0) (hd : gi σ 93 3 = F) : f_X6_pass N x σ = some ((), σ) := by
  unfold f_X6_pass f_X6_fail
  rw [if_neg (by rw [hd]; exact hF), if_neg (by rw [hd]; exact hF), bd_some]
noncomputable def nK (N : Nat) (x3 : Int32) (s19 : Mem) : Option (Unit × Mem) := ckc (isLw (ix (gi s19 93 4))) (bd (f_X4_add N (ix (gi s19 93 4)) x3 s19) (fun _ s22 => bd (f_X6_here N s22) (fun r25 s24 => bd (f_X9_isDigit N r25 s24) (fun r27 s26 => if r27 = 0 then (some ((), s26)) else bd (f_X6_fail N 2 s26) (fun _ s28 => some ((), s28))))))
theorem ix_b {b : Nat} (hb : isLw b = true) : ix (nI b) = b := ix_n (by have := isLw_or hb; omega)
theorem sim_factor (N base b n : Nat) (txt : Nat → Nat) (hb : isLw b = true) (hT : Tx txt n) (hN : 300 ≤ N) {o : Nat} (ho : o ≤ 6) (g0 : Int32 → Int32 → Mem → Option (Unit × Mem)) (g1 : Int32 → Mem → Option (Unit × Mem)) (hI : o < 6 → SimS N base b n txt 2 (o + 1) (fun s => g0 0 (nI (o + 1)) s)) : SimS N base b n txt 0 o (fun s => f1_X6_readFactor N g0 g1 (nI o) s) := by
  intro uC uR σ τ i c r w q hC hD hR hd hi hc hr' hw hbs hbar hq
  have hb' := isLw_or hb
  have hn := hT.1
  obtain ⟨q, rfl⟩ : ∃ q', q = q' + 1 := ⟨q - 1, by omega⟩
  show OutS N base b n txt 0 o uC uR 1 σ τ i c r w _ (f1_X6_readFactor N g0 g1 (nI o) σ)
  unfold f1_X6_readFactor
  simp only [lt_p]
  rw [e_hereC N hn hi hC hD, bd_some]
  have hD1 : ∀ i1, CD b (si σ 93 2 (nI i1)) i1 0 c := fun i1 => ⟨gi_eq _ _ _ _, by rw [gi_ni (by decide)]; exact hD.2.1, by rw [gi_ne (by omega)]; exact hD.2.2⟩
  by_cases h4 : isS 4 txt n i
  · rw [(e_isH N (by omega) (by decide) hT σ).1 h4, bd_some, if_neg (by decide), hD.1, nI_1, gi_ni (by decide), hC.1.2.2, ix_b hb, hb, ckc_t, hr_in h4.1]
    obtain ⟨kf, hkf, ekf⟩ := (inS_4 (hT.2 i h4.1)).mp h4.2
    rw [e_addS N _ (hD1 (i + 1)).2.2 (by have := h4.1; omega), bd_some]
    refine Or.inl ⟨_, si (note1 τ r 1 kf) 0 6 (nI (i + 1)), i + 1, c + 1, r + 1, w, 0, fun φ => some (φ kf), rfl, ⟨by omega, h4.1, by omega, by omega, by omega, by omega⟩, ⟨?_, ⟨?_, ?_, gi_eq _ _ _ _⟩, fun φ => ?_⟩, ⟨?_, ?_, rfl, fun φ => ?_⟩, ⟨fun z => by omega, fun z => by omega⟩, fun M => ?_⟩
    · exact (CF.at' b c σ _).tr (CF.ad b c _ (Nat.le_refl _) _ _) (by omega)
    · rw [gi_ne (by omega), gi_ne (by omega), gi_eq]
    · rw [gi_ne (by omega), gi_ne (by omega), gi_ni (by decide)]; exact hD.2.1
    · refine cs_fact hkf ?_ (by omega)
      show gi _ (b + 5) c = _
      rw [gi_ne (by omega), gi_eq, ekf]
    · exact (RF.note τ).tr (RF.f0 r w _ (by omega) _) (by omega) (by omega)
    · have h1 := hd.note (o := 1) (v := kf)
      unfold RD
      simp (disch := omega) only [gi_ne, gi_ni, gi_eq]
      exact ⟨trivial, h1.2.1, h1.2.2.1, h1.2.2.2⟩
    · refine rs_push (o := 1) (v := kf) ?_ (by omega) (Or.inr ⟨rfl, hkf, rfl⟩)
      show gi _ 6 r = _
      rw [gi_ne (by decide), said_note, if_pos rfl]
    · exact ef_fact N base q _ hT h4.1 hR hd hkf ekf (by omega)
  · rw [(e_isH N (by omega) (by decide) hT σ).2 h4, bd_some, if_pos rfl]
    by_cases h91 : hr txt n i = 91
    · have hin := hr_pos (k := 91) (by decide) h91
      by_cases ho6 : o < 6
      · simp only [if_pos h91]
        rw [if_pos (show nI o < 6 from nI_lt (b := 6) ho6 (by decide)), hD.1, nI_1, nI_1]
        have hd0 : RD (si τ 0 10 (nI (o + 1))) i (o + 1) r w := by
          unfold RD
          simp (disch := omega) only [gi_ne, gi_ni, gi_eq]
          exact ⟨hd.1, trivial, hd.2.2.1, hd.2.2.2⟩
        have f0 : RF r w τ (si τ 0 10 (nI (o + 1))) := RF.f0 r w τ (by omega) _
        have ht1 := hd0.pshd (o := 14) (i' := i + 1)
        have ft1 : RF r w τ (psh (si τ 0 10 (nI (o + 1))) w 14 (i + 1)) := f0.tr (RF.pshd (r := r) _) (by omega) (by omega)
        have hm : gi (psh (si τ 0 10 (nI (o + 1))) w 14 (i + 1)) 7 w = nI (1048576 * 14 + 0) := by rw [mark_psh, if_pos rfl]
        have hst := fun M => ef_open N base q M hT hi hR hd h91 ho6 (by omega)
        generalize psh (si τ 0 10 (nI (o + 1))) w 14 (i + 1) = τ1 at ht1 ft1 hm hst
        have fs1 : CF b c σ (si σ 93 2 (nI (i + 1))) := CF.at' b c σ _
        have hC1 := hC.fr hb fs1
        have hbar1 : Bar 1 τ1 (w + 1) := Or.inr ⟨w, 14, 0, rfl, by omega, by omega, hm, Or.inl (by omega)⟩
        have hih := hI ho6 uC uR (si σ 93 2 (nI (i + 1))) τ1 (i + 1) c r (w + 1) q hC1 (hD1 (i + 1)) (hR.fr ft1) ht1 (by omega) (by omega) (by omega) (by omega) (by omega) (Or.inr hbar1) (by omega)
        rcases hih with ⟨σ2, τ2, j, c1, r1, w1, kk, V, e1, ⟨b1, b2, b3, b4, b5, b6⟩, ⟨fc, dc, sc⟩, ⟨fr, dr, pr⟩, ⟨st0, st1⟩, er⟩ | ⟨σ2, τ2, F, kk, e1, x1, b1, fr, x2, er⟩
        · have hC2 := hC1.fr hb fc
          have hR2 := (hR.fr ft1).fr fr
          have hlt := pr.lt
          have hm2 : gi τ2 7 w = nI (1048576 * 14 + 0) := by rw [fr _ _ (by omega) (by omega) (by omega)]; exact hm
          have hop := ho_yes N base (q := w) hN dr (by omega) hbs (by omega) hm2
          have e1' : g0 0 (nI (o + 1)) (si σ 93 2 (nI (i + 1))) = some ((), σ2) := e1
          rw [e1', bd_some]
          have ff := ft1.tr (fr.up (r := r) (w := w) (by omega) (by omega)) (by omega) (by omega)
          by_cases h93 : hr txt n j = 93
          · have hjn := hr_pos (k := 93) (by decide) h93
            have hcs := (sc (fun _ => 0)).1.1
            rw [show (93 : Int32) = nI 93 from rfl, e_passT N hn b2 hC2 dc h93, bd_some]
            obtain ⟨τ3, e3, d3, s3, f3⟩ := cl_all N (x := 1) (k := 2) (by omega) (Or.inr ⟨rfl, rfl⟩) dr pr (by omega) (by omega) (hbar1.fr fr (by omega)) (by omega)
            have ff3 := ff.tr (f3.up (r := r) (w := w) (by omega) (by omega)) (by omega) (by omega)
            refine Or.inl ⟨_, pop τ3 w o (j + 1), j + 1, c1, r1 + (w1 - (w + 1)), w, kk + 1, V, rfl, ⟨by omega, by omega, by omega, by omega, by omega, by omega⟩, ⟨(fs1.tr fc (by omega)).tr (CF.at' b c _ _) (by omega), ⟨gi_eq _ _ _ _, by rw [gi_ni (by decide)]; exact dc.2.1, by rw [gi_ne (by omega)]; exact dc.2.2⟩, fun φ => ?_⟩, ⟨ff3.tr (RF.popd (r := r) (w0 := w) τ3) (by omega) (by omega), d3.popd, rfl, fun φ => ?_⟩, ⟨fun z => by omega, fun z => by omega⟩, fun M => ?_⟩
            · refine ((sc φ).fr (fun q q1 q2 => ?_)).up (by omega)
              show gi (si σ2 93 2 _) (b + 5) q = _
              rw [gi_ne (by omega)]
            · exact (s3 φ).fr (fun q q1 q2 => row_pop τ3 w o (j + 1) q (by decide))
            · show eF N base (q + 1) (M + (kk + 1)) τ = _
              rw [hst, show M + (kk + 1) = (M + 1) + kk by omega]
              have e4 : eF N base q ((M + 1) + kk) τ1 = aF N base (M + 1) τ2 := er (M + 1)
              rw [e4]
              exact af_close N base M hT b2 hR2 dr h93 hop e3 d3
          · rw [show (93 : Int32) = nI 93 from rfl, e_passN N hn b2 hC2 dc h93, bd_some]
            have hcs := (sc (fun _ => 0)).1.1
            refine Or.inr ⟨_, si τ2 0 8 (flt 1 j), flt 1 j, kk + 1, rfl, CX.mk' hb (fs1.tr fc (by omega)) dc hcs (by omega) (by omega) (by omega) (by omega), by omega, ff.tr (RF.f0 r w _ (by omega) _) (by omega) (by omega), gi_eq _ _ _ _, fun M => ?_⟩
            show eF N base (q + 1) (M + (kk + 1)) τ = _
            rw [hst, show M + (kk + 1) = (M + 1) + kk by omega]
            have e4 : eF N base q ((M + 1) + kk) τ1 = aF N base (M + 1) τ2 := er (M + 1)
            rw [e4, af_end N base M hT b2 hR2 dr (st0 (by omega)) (st1 (by omega)) (Or.inl h93)]
            unfold sK
            rw [hop, bd_some, if_neg (by decide), dr.1, show (1 : Int32) = nI 1 from rfl, e_wrongAt, bd_some, ckz_0]
        · have e1' : g0 0 (nI (o + 1)) (si σ 93 2 (nI (i + 1))) = some ((), σ2) := e1
          rw [e1', bd_some, e_passF N x1.ne x1.2.1, bd_some]
          refine Or.inr ⟨_, τ2, F, kk, rfl, CX.tr fs1 x1 (by omega), by omega, ft1.tr (fr.up (r := r) (w := w) (by omega) (by omega)) (by omega) (by omega), x2, fun M => ?_⟩
          show eF N base (q + 1) (M + kk) τ = _
          rw [hst]
          exact er M
      · obtain rfl : o = 6 := by omega
        simp only [if_pos h91]
        rw [if_neg (show ¬ nI 6 < 6 by decide), show (5 : Int32) = nI 5 from rfl, e_failC N 5 hD, bd_some]
        exact Or.inr ⟨_, _, flt 5 i, 0, rfl, CX.mk' hb (CF.rf _ _ _) hD (by omega) (by omega) (by omega) (by omega) (by omega), by omega, RF.f0 _ _ _ (by omega) _, gi_eq _ _ _ _, fun M => ef_over N base q _ hT hi hR hd h91⟩
    · simp only [if_neg h91]
      by_cases hdg : isD txt n i
      · rw [(e_digH N hT σ).1 hdg, bd_some, if_neg (by decide)]
        show OutS N base b n txt 0 o uC uR 1 σ τ i c r w _ (itr (fun _ _ _ => none) (st_X6_readFactor_101 N g0 g1 (nK N)) N (nI 0) (nI 0) σ)
        have f9 : RF r w τ (si τ 0 9 0) := RF.f0 r w τ (by omega) _
        have hd9 : RD (si τ 0 9 0) i o r w := by
          unfold RD
          simp (disch := omega) only [gi_ne, gi_ni, gi_eq]
          exact hd
        obtain ⟨t', v', σ', τ', ⟨q1, q2, q3, q4⟩, q5, ⟨q6, q7, q8⟩, q9, q10⟩ := lp_num N b n i c r w o txt hb hT g0 g1 (nK N) 5 0 0 N N σ (si τ 0 9 0) (by omega) (by omega) (by omega) (by decide) hi hC hD (hR.fr f9) hd9 (gi_eq _ _ _ _)
        have q5' := q5 hdg (by omega)
        have hC' := hC.fr hb q7
        have f10 := f9.tr q9 (by omega) (by omega)
        have hst : ∀ M, eF N base (q + 1) M τ = bd (bd (itr (fun _ => none) (st_X10_readsNumber_10 N (nI i)) N (si τ 0 9 0)) (fun r18 s17 => if r18 = 0 then (some ((0 : Int32), s17)) else bd (f_X10_notes N 0 (gi s17 0 9) s17) (fun _ s19 => some ((1 : Int32), s19)))) (fun r s => if r = 0 then some (0, s) else aF N base M s) := fun M => by
          rw [ef_in N base q M hT hi hR hd h91]
          unfold rfK
          rw [(e_digM N hT hi hR hd).1 hdg, bd_some, if_neg (by decide)]
          unfold f_X10_readsNumber
          simp only [lt_p]
          rw [hd.1]
        have hD2 : CD b (si (si σ' (b + 5) c (nI v')) b 6 (nI (c + 1))) (i + t') 0 (c + 1) := ⟨by rw [gi_ne (by omega), gi_ne (by omega)]; exact q8.1, by rw [gi_ne (by omega), gi_ne (by omega)]; exact q8.2.1, gi_eq _ _ _ _⟩
        have f2 : CF b c σ (si (si σ' (b + 5) c (nI v')) b 6 (nI (c + 1))) := q7.tr (CF.ad b c σ' (Nat.le_refl _) _ _) (by omega)
        have hin := hdg.1
        rw [q6]
        unfold nK
        rw [hC'.1.2.2, ix_b hb, hb, ckc_t, e_addS N _ q8.2.2 (by omega), bd_some, e_hereC N hn q4 (hC.fr hb f2) hD2, bd_some]
        rcases q10 with ⟨z1, z2, z3, z4⟩ | ⟨z1, z2, z3, z4⟩
        · rw [(e_digH N hT _).1 z1, bd_some, if_neg (by decide), show (2 : Int32) = nI 2 from rfl, e_failC N 2 hD2, bd_some]
          refine Or.inr ⟨_, τ', flt 2 (i + t'), 0, rfl, CX.mk' hb f2 hD2 (by omega) (by omega) (by omega) (by omega) (by omega), by omega, f10, z4, fun M => ?_⟩
          show eF N base (q + 1) (M + 0) τ = _
          rw [hst, z3, bd_some, if_pos rfl, bd_some, if_pos rfl]
        · rw [(e_digH N hT _).2 z1, bd_some, if_pos rfl]
          refine Or.inl ⟨_, note1 τ' r 0 v', i + t', c + 1, r + 1, w, 0, fun _ => some (nI v'), rfl, ⟨by omega, q4, by omega, by omega, by omega, by omega⟩, ⟨f2, hD2, fun φ => ?_⟩, ⟨f10.tr (RF.note τ') (by omega) (by omega), z3.note, rfl, fun φ => ?_⟩, ⟨fun z => by omega, fun z => by omega⟩, fun M => ?_⟩
          · refine cs_num (nI_pos' (by omega)) ?_ (by omega)
            show gi _ (b + 5) c = _
            rw [gi_ne (by omega), gi_eq]
          · refine rs_push (o := 0) (v := v') ?_ (by omega) (Or.inl ⟨rfl, rfl⟩)
            show gi _ 6 r = _
            rw [said_note, if_pos rfl]
          · show eF N base (q + 1) (M + 0) τ = _
            rw [hst, z2, bd_some, if_neg (by decide), z4, show (0 : Int32) = nI 0 from rfl, e_notes N 0 v' z3 (by omega), bd_some, bd_some, if_neg (by decide)]
            rfl
      · rw [(e_digH N hT σ).2 hdg, bd_some, if_pos rfl, show (1 : Int32) = nI 1 from rfl, e_failC N 1 hD, bd_some]
        exact Or.inr ⟨_, _, flt 1 i, 0, rfl, CX.mk' hb (CF.rf _ _ _) hD (by omega) (by omega) (by omega) (by omega) (by omega), by omega, RF.f0 _ _ _ (by omega) _, gi_eq _ _ _ _, fun M => ef_bad N base q _ hT hi hR hd h91 hdg h4⟩
