/-! report: a LINE, side by side -/
def ZT (n : Nat) (txt : Nat → Nat) (σ : Mem) : Prop := (gi σ 95 4 = 2 ∧ gi σ 95 5 = nI n) ∧ ∀ j, j < n → gi σ 2 j = nI (txt j)
def ZD (σ : Mem) (i : Nat) (F : Int32) : Prop := gi σ 95 6 = nI i ∧ gi σ 95 7 = F
/-- what a LINE's reading leaves alone -/
def ZF (ln : Nat) (σ σ' : Mem) : Prop := ∀ c i, ¬ (c = 95 ∧ (i = 6 ∨ i = 7)) → ¬ ((96 ≤ c ∧ c ≤ 99) ∧ i = ln) → gi σ' c i = gi σ c i
def YF (ln : Nat) (τ τ' : Mem) : Prop := ∀ c i, ¬ (c = 0 ∧ (i = 6 ∨ i = 8 ∨ i = 9 ∨ i = 32)) → ¬ ((19 ≤ c ∧ c ≤ 22) ∧ i = ln) → gi τ' c i = gi τ c i
theorem ZF.rf (ln : Nat) (σ : Mem) : ZF ln σ σ := fun _ _ _ _ => rfl
theorem YF.rf (ln : Nat) (τ : Mem) : YF ln τ τ := fun _ _ _ _ => rfl
theorem ZF.tr {ln : Nat} {σ σ1 σ2 : Mem} (h : ZF ln σ σ1) (h1 : ZF ln σ1 σ2) : ZF ln σ σ2 := fun c i a b => (h1 c i a b).trans (h c i a b)
theorem YF.tr {ln : Nat} {τ τ1 τ2 : Mem} (h : YF ln τ τ1) (h1 : YF ln τ1 τ2) : YF ln τ τ2 := fun c i a b => (h1 c i a b).trans (h c i a b)
theorem ZF.w (ln : Nat) (σ : Mem) {c i : Nat} {v : Int32} (h : (c = 95 ∧ (i = 6 ∨ i = 7)) ∨ ((96 ≤ c ∧ c ≤ 99) ∧ i = ln)) : ZF ln σ (si σ c i v) := fun c' i' a b => by rw [gi_si, if_neg (by omega)]
theorem YF.w (ln : Nat) (τ : Mem) {c i : Nat} {v : Int32} (h : (c = 0 ∧ (i = 6 ∨ i = 8 ∨ i = 9 ∨ i = 32)) ∨ ((19 ≤ c ∧ c ≤ 22) ∧ i = ln)) : YF ln τ (si τ c i v) := fun c' i' a b => by rw [gi_si, if_neg (by omega)]
theorem ZT.fr {n ln : Nat} {txt : Nat → Nat} {σ σ' : Mem} (h : ZT n txt σ) (f : ZF ln σ σ') : ZT n txt σ' := ⟨⟨by rw [f _ _ (by omega) (by omega)]; exact h.1.1, by rw [f _ _ (by omega) (by omega)]; exact h.1.2⟩, fun j hj => by rw [f _ _ (by omega) (by omega)]; exact h.2 j hj⟩
theorem RT.y {n ln : Nat} {txt : Nat → Nat} {τ τ' : Mem} (h : RT n txt τ) (f : YF ln τ τ') : RT n txt τ' := ⟨by rw [f _ _ (by omega) (by omega)]; exact h.1, fun j hj => by rw [f _ _ (by omega) (by omega)]; exact h.2 j hj⟩
theorem e_hereZ (N : Nat) {n i : Nat} {F : Int32} {txt : Nat → Nat} {σ : Mem} (hn : n ≤ 240) (hi : i ≤ n) (h : ZT n txt σ) (hd : ZD σ i F) : f_X7_here N σ = some (hr txt n i, σ) := by
  obtain ⟨⟨a, d⟩, t⟩ := h
  unfold f_X7_here
  rw [hd.1, d, if_neg (nI_pos (by omega))]
  by_cases hi2 : i < n
  · rw [if_neg (nI_ge hi2 (by omega)), a, hr_in hi2]
    simp only [lt_p]
    rw [show ix (2 : Int32) = 2 from rfl, show isAr 2 = true from rfl, ckc_t, show lenC 2 = 260 from rfl, if_neg (nI_ge (by omega) (by decide)), ckc_t, chk_n (by omega) (by decide), ix_n (by omega), t i hi2]
  · rw [if_pos (nI_le (by omega) (by omega)), hr_out hi2]
/-- here, by the reference's place alone -/
theorem e_hereP (N : Nat) {n i : Nat} {txt : Nat → Nat} {τ : Mem} (hn : n ≤ 240) (hi : i ≤ n) (h : RT n txt τ) (hd : gi τ 0 6 = nI i) : f_X10_here N τ = some (hr txt n i, τ) := by
  obtain ⟨o, ho⟩ := nI_all (gi τ 0 10)
  obtain ⟨r, hr'⟩ := nI_all (gi τ 0 11)
  obtain ⟨w, hw⟩ := nI_all (gi τ 0 12)
  exact e_hereM N hn hi h (o := o) (r := r) (w := w) ⟨hd, ho, hr', hw⟩
theorem e_digP (N : Nat) {n i : Nat} {txt : Nat → Nat} {τ : Mem} (hT : Tx txt n) (hi : i ≤ n) (h : RT n txt τ) (hd : gi τ 0 6 = nI i) : (isD txt n i → f_X10_isDigit N τ = some (1, τ)) ∧ (¬ isD txt n i → f_X10_isDigit N τ = some (0, τ)) := by
  obtain ⟨o, ho⟩ := nI_all (gi τ 0 10)
  obtain ⟨r, hr'⟩ := nI_all (gi τ 0 11)
  obtain ⟨w, hw⟩ := nI_all (gi τ 0 12)
  exact e_digM N hT hi h (o := o) (r := r) (w := w) ⟨hd, ho, hr', hw⟩
theorem e_failZ (N x : Nat) {i : Nat} {σ : Mem} (hd : ZD σ i 0) : f_X7_fail N (nI x) σ = some ((), si σ 95 7 (flt x i)) := by
  unfold f_X7_fail
  rw [if_pos hd.2, hd.1]
  rfl
theorem e_failZF (N : Nat) {x F : Int32} {σ : Mem} (hF : ¬ F = 0) (hd : gi σ 95 7 = F) : f_X7_fail N x σ = some ((), σ) := by
  unfold f_X7_fail
  rw [if_neg (by rw [hd]; exact hF)]
theorem lp_amt (N n i ln : Nat) (txt : Nat → Nat) (hT : Tx txt n) (k63 : Int32 → Mem → Option (Int32 × Mem)) : ∀ (m t v Mc Mr : Nat) (σ τ : Mem), t + m = 4 → m < Mc → m < Mr → v < lim t → i + t ≤ n → ZT n txt σ → ZD σ (i + t) 0 → RT n txt τ → gi τ 0 6 = nI (i + t) → gi τ 0 9 = nI v → ∃ (t' v' : Nat) (σ' τ' : Mem), (t ≤ t' ∧ t' ≤ 4 ∧ v' ≤ 9999 ∧ i + t' ≤ n) ∧ (itr (fun _ _ _ => none) (st_X7_readNumber_19 N k63) Mc (nI v) (nI t) σ = k63 (nI v') σ' ∧ ZF ln σ σ' ∧ ZD σ' (i + t') 0) ∧ YF ln τ τ' ∧ gi τ' 0 32 = gi τ 0 32 ∧ ((isD txt n (i + t') ∧ itr (fun _ => none) (st_X10_readsAmount_27 N (nI i)) Mr τ = some (0, τ') ∧ gi τ' 0 8 = flt 2 (i + t')) ∨ (¬ isD txt n (i + t') ∧ itr (fun _ => none) (st_X10_readsAmount_27 N (nI i)) Mr τ = some (1, τ') ∧ gi τ' 0 6 = nI (i + t') ∧ gi τ' 0 9 = nI v'))
  | m, t, v, 0, _, σ, τ, _, h2, _, _, _, _, _, _, _, _ => absurd h2 (by omega)
  | m, t, v, Mc + 1, 0, σ, τ, _, _, h2, _, _, _, _, _, _, _ => absurd h2 (by omega)
  | m, t, v, Mc + 1, Mr + 1, σ, τ, h1, h2, h3, hv, hi, hC, hD, hR, hd, h9 => by
    have ec : itr (fun _ _ _ => none) (st_X7_readNumber_19 N k63) (Mc + 1) (nI v) (nI t) σ = st_X7_readNumber_19 N k63 (itr (fun _ _ _ => none) (st_X7_readNumber_19 N k63) Mc) (nI v) (nI t) σ := rfl
    have er : itr (fun _ => none) (st_X10_readsAmount_27 N (nI i)) (Mr + 1) τ = st_X10_readsAmount_27 N (nI i) (itr (fun _ => none) (st_X10_readsAmount_27 N (nI i)) Mr) τ := rfl
    have hv4 : v ≤ 9999 := by
      unfold lim at hv
      rcases (show t = 0 ∨ t = 1 ∨ t = 2 ∨ t = 3 ∨ t = 4 by omega) with rfl | rfl | rfl | rfl | rfl <;> simp at hv <;> omega
    by_cases hdg : isD txt n (i + t)
    · by_cases ht : t = 4
      · refine ⟨t, v, σ, si τ 0 8 (flt 2 (i + t)), ⟨by omega, by omega, hv4, hi⟩, ⟨?_, ZF.rf _ _, hD⟩, YF.w _ _ (by omega), gi_ni (by decide), Or.inl ⟨hdg, ?_, gi_eq _ _ _ _⟩⟩
        · rw [ec]
          unfold st_X7_readNumber_19
          rw [if_pos (show (4 : Int32) ≤ nI t from nI_le (a := 4) (by omega) (by omega))]
        · rw [er]
          unfold st_X10_readsAmount_27
          rw [(e_digP N hT hi hR hd).1 hdg, bd_some, if_neg (by decide), hd, if_pos (show nI (i + t) = nI i + 4 by rw [ht]; exact (nI_add i 4).symm), show (2 : Int32) = nI 2 from rfl, e_wrongAt, bd_some, ckz_0]
      · have hl := hT.2 _ hdg.1
        have hg := hdg.2
        have hnum : nI v * 10 + nI (txt (i + t)) - 48 = nI (v * 10 + (txt (i + t) - 48)) := by
          rw [li_10, li_48, pk_mul, nI_add, pk_sub (by omega), show v * 10 + txt (i + t) - 48 = v * 10 + (txt (i + t) - 48) by omega]
        have hnum2 : (10 : Int32) * nI v + nI (txt (i + t)) - 48 = nI (v * 10 + (txt (i + t) - 48)) := by
          rw [Int32.mul_comm]; exact hnum
        have c1 : st_X7_readNumber_19 N k63 (itr (fun _ _ _ => none) (st_X7_readNumber_19 N k63) Mc) (nI v) (nI t) σ = itr (fun _ _ _ => none) (st_X7_readNumber_19 N k63) Mc (nI (v * 10 + (txt (i + t) - 48))) (nI (t + 1)) (si σ 95 6 (nI (i + (t + 1)))) := by
          generalize itr (fun _ _ _ => none) (st_X7_readNumber_19 N k63) Mc = rec
          unfold st_X7_readNumber_19
          rw [if_neg (show ¬ (4 : Int32) ≤ nI t from nI_ge (b := 4) (by omega) (by decide)), e_hereZ N hT.1 hi hC hD, bd_some, (e_digH N hT σ).1 hdg, bd_some, if_neg (by decide), e_hereZ N hT.1 hi hC hD, bd_some, hr_in hdg.1]
          simp only [lt_p]
          rw [hnum, hD.1, nI_1, nI_1]
          rfl
        have r1 : st_X10_readsAmount_27 N (nI i) (itr (fun _ => none) (st_X10_readsAmount_27 N (nI i)) Mr) τ = itr (fun _ => none) (st_X10_readsAmount_27 N (nI i)) Mr (si (si τ 0 9 (nI (v * 10 + (txt (i + t) - 48)))) 0 6 (nI (i + (t + 1)))) := by
          generalize itr (fun _ => none) (st_X10_readsAmount_27 N (nI i)) Mr = rec
          unfold st_X10_readsAmount_27
          rw [(e_digP N hT hi hR hd).1 hdg, bd_some, if_neg (by decide), hd, if_neg (show ¬ nI (i + t) = nI i + 4 from fun q => by rw [show (4 : Int32) = nI 4 from rfl, nI_add] at q; have := (nI_eq (by have := hT.1; omega) (by have := hT.1; omega)).mp q; omega), e_hereP N hT.1 hi hR hd, bd_some, hr_in hdg.1, h9]
          simp only [lt_p]
          rw [hnum2, gi_ni (by decide), hd, nI_1]
          rfl
        have f1 : YF ln τ (si (si τ 0 9 (nI (v * 10 + (txt (i + t) - 48)))) 0 6 (nI (i + (t + 1)))) := (YF.w ln τ (by omega)).tr (YF.w ln _ (by omega))
        have f2 : ZF ln σ (si σ 95 6 (nI (i + (t + 1)))) := ZF.w ln σ (by omega)
        obtain ⟨t', v', σ', τ', ⟨q1, q2, q3, q4⟩, ⟨q6, q7, q8⟩, q9, q9', q10⟩ := lp_amt N n i ln txt hT k63 (m - 1) (t + 1) (v * 10 + (txt (i + t) - 48)) Mc Mr _ _ (by omega) (by omega) (by omega) (lim_s (by omega) hv (by omega)) (by have := hdg.1; omega) (hC.fr f2) ⟨gi_eq _ _ _ _, by rw [gi_ni (by decide)]; exact hD.2⟩ (hR.y f1) (gi_eq _ _ _ _) (by rw [gi_ni (by decide), gi_eq])
        refine ⟨t', v', σ', τ', ⟨by omega, q2, q3, q4⟩, ⟨?_, f2.tr q7, q8⟩, f1.tr q9, q9'.trans (by rw [gi_ni (by decide), gi_ni (by decide)]), ?_⟩
        · rw [ec, c1, q6]
        · rw [er, r1]; exact q10
    · refine ⟨t, v, σ, τ, ⟨by omega, by omega, hv4, hi⟩, ⟨?_, ZF.rf _ _, hD⟩, YF.rf _ _, rfl, Or.inr ⟨hdg, ?_, hd, h9⟩⟩
      · rw [ec]
        unfold st_X7_readNumber_19
        by_cases ht : t = 4
        · rw [if_pos (show (4 : Int32) ≤ nI t from nI_le (a := 4) (by omega) (by omega))]
        · rw [if_neg (show ¬ (4 : Int32) ≤ nI t from nI_ge (b := 4) (by omega) (by decide)), e_hereZ N hT.1 hi hC hD, bd_some, (e_digH N hT σ).2 hdg, bd_some, if_pos rfl]
      · rw [er]
        unfold st_X10_readsAmount_27
        rw [(e_digP N hT hi hR hd).2 hdg, bd_some, if_pos rfl]
/-- a number of a LINE -/
theorem s_amt (N n i ln : Nat) (txt : Nat → Nat) (hN : 300 ≤ N) (hT : Tx txt n) {σ τ : Mem} (hi : i ≤ n) (hC : ZT n txt σ) (hD : ZD σ i 0) (hR : RT n txt τ) (hd : gi τ 0 6 = nI i) :
    (∃ (σ' τ' : Mem) (j v : Nat), f_X7_readNumber N σ = some (nI v, σ') ∧ f_X10_readsAmount N τ = some (1, τ') ∧ (i ≤ j ∧ j ≤ n ∧ v ≤ 9999) ∧ (ZF ln σ σ' ∧ ZD σ' j 0) ∧ (YF ln τ τ' ∧ gi τ' 0 32 = gi τ 0 32 ∧ gi τ' 0 6 = nI j ∧ gi τ' 0 9 = nI v)) ∨
    (∃ (σ' τ' : Mem) (F z : Int32), f_X7_readNumber N σ = some (z, σ') ∧ f_X10_readsAmount N τ = some (0, τ') ∧ ZF ln σ σ' ∧ gi σ' 95 7 = F ∧ F < 0 ∧ YF ln τ τ' ∧ gi τ' 0 8 = F) := by
  have hn := hT.1
  unfold f_X7_readNumber f_X10_readsAmount
  rw [lt_p, e_hereZ N hn hi hC hD, bd_some]
  by_cases hdg : isD txt n i
  · rw [(e_digH N hT σ).1 hdg, bd_some, (e_digP N hT hi hR hd).1 hdg, bd_some]
    simp only [lt_p]
    rw [if_neg (show ¬ (1 : Int32) = 0 by decide), if_neg (show ¬ (1 : Int32) = 0 by decide), hd]
    obtain ⟨t', v', σ', τ', ⟨q1, q2, q3, q4⟩, ⟨q6, q7, q8⟩, q9, q9', q10⟩ := lp_amt N n i ln txt hT (fun (x1_16 : Int32) (s15 : Mem) => bd (f_X7_here N s15) (fun r18 s17 => bd (f_X9_isDigit N r18 s17) (fun r20 s19 => if r20 = 0 then (some (x1_16, s19)) else bd (f_X7_fail N 2 s19) (fun _ s21 => some (x1_16, s21))))) 4 0 0 N N σ (si τ 0 9 0) (by omega) (by omega) (by omega) (by decide) hi hC hD (hR.y (YF.w ln τ (by omega))) (by rw [gi_ni (by decide)]; exact hd) (gi_eq _ _ _ _)
    have f9 : YF ln τ τ' := (YF.w ln τ (by omega)).tr q9
    rw [show (0 : Int32) = nI 0 from rfl] at q6 ⊢
    rw [q6]
    show (∃ (σ'' τ'' : Mem) (j v : Nat), bd (f_X7_here N σ') (fun r18 s17 => bd (f_X9_isDigit N r18 s17) (fun r20 s19 => if r20 = 0 then (some (nI v', s19)) else bd (f_X7_fail N 2 s19) (fun _ s21 => some (nI v', s21)))) = _ ∧ _) ∨ (∃ (σ'' τ'' : Mem) (F z : Int32), bd (f_X7_here N σ') (fun r18 s17 => bd (f_X9_isDigit N r18 s17) (fun r20 s19 => if r20 = 0 then (some (nI v', s19)) else bd (f_X7_fail N 2 s19) (fun _ s21 => some (nI v', s21)))) = _ ∧ _)
    rw [e_hereZ N hn q4 (hC.fr q7) q8, bd_some]
    rcases q10 with ⟨z1, z2, z3⟩ | ⟨z1, z2, z3, z4⟩
    · rw [(e_digH N hT σ').1 z1, bd_some, if_neg (by decide), show (2 : Int32) = nI 2 from rfl, e_failZ N 2 q8, bd_some]
      exact Or.inr ⟨_, τ', flt 2 (i + t'), nI v', rfl, z2, q7.tr (ZF.w ln σ' (by omega)), gi_eq _ _ _ _, flt_neg (by omega) (by omega) (by omega), f9, z3⟩
    · rw [(e_digH N hT σ').2 z1, bd_some, if_pos rfl]
      exact Or.inl ⟨σ', τ', i + t', v', rfl, z2, ⟨by omega, q4, q3⟩, ⟨q7, q8⟩, f9, q9'.trans (gi_ni (by decide)), z3, z4⟩
  · rw [(e_digH N hT σ).2 hdg, bd_some, (e_digP N hT hi hR hd).2 hdg, bd_some]
    simp only [lt_p]
    rw [if_pos trivial, if_pos trivial, show (1 : Int32) = nI 1 from rfl, e_failZ N 1 hD, bd_some, hd, e_wrongAt, bd_some, ckz_0]
    refine Or.inr ⟨si σ 95 7 (flt 1 i), si τ 0 8 (flt 1 i), flt 1 i, 0, ?_, rfl, ZF.w ln σ (by omega), gi_eq _ _ _ _, flt_neg (by omega) (by omega) (by omega), YF.w ln τ (by omega), gi_eq _ _ _ _⟩
    have hD1 : ZD (si σ 95 7 (flt 1 i)) i (flt 1 i) := ⟨by rw [gi_ni (by decide)]; exact hD.1, gi_eq _ _ _ _⟩
    have eh := e_hereZ N hn hi (hC.fr (ZF.w ln σ (by omega))) hD1
    have e0 : ∀ K M, itr (fun _ _ _ => none) (st_X7_readNumber_19 N K) (M + 1) 0 0 (si σ 95 7 (flt 1 i)) = K 0 (si σ 95 7 (flt 1 i)) := by
      intro K M
      show st_X7_readNumber_19 N K _ 0 0 _ = _
      unfold st_X7_readNumber_19
      rw [if_neg (by decide), eh, bd_some, (e_digH N hT _).2 hdg, bd_some, if_pos rfl]
    have e1 : ∀ K, itr (fun _ _ _ => none) (st_X7_readNumber_19 N K) N 0 0 (si σ 95 7 (flt 1 i)) = K 0 (si σ 95 7 (flt 1 i)) := fun K => by
      have z := e0 K (N - 1)
      rw [show N - 1 + 1 = N by omega] at z
      exact z
    rw [e1]
    show bd (f_X7_here N (si σ 95 7 (flt 1 i))) _ = _
    rw [eh, bd_some, (e_digH N hT _).2 hdg, bd_some, if_pos rfl]
