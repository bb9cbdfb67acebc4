/-! report whole -/
/-- what the reading of LINES leaves alone -/
def ZG (σ σ' : Mem) : Prop := ∀ c i, ¬ (c = 95 ∧ (i = 6 ∨ i = 7)) → ¬ (96 ≤ c ∧ c ≤ 99) → gi σ' c i = gi σ c i
def YG (τ τ' : Mem) : Prop := ∀ c i, ¬ (c = 0 ∧ (i = 6 ∨ i = 8 ∨ i = 9 ∨ i = 32)) → ¬ (19 ≤ c ∧ c ≤ 22) → gi τ' c i = gi τ c i
theorem ZF.g {ln : Nat} {σ σ' : Mem} (h : ZF ln σ σ') : ZG σ σ' := fun c i a b => h c i a (by omega)
theorem YF.g {ln : Nat} {τ τ' : Mem} (h : YF ln τ τ') : YG τ τ' := fun c i a b => h c i a (by omega)
theorem ZG.tr {σ σ1 σ2 : Mem} (h : ZG σ σ1) (h1 : ZG σ1 σ2) : ZG σ σ2 := fun c i a b => (h1 c i a b).trans (h c i a b)
theorem YG.tr {τ τ1 τ2 : Mem} (h : YG τ τ1) (h1 : YG τ1 τ2) : YG τ τ2 := fun c i a b => (h1 c i a b).trans (h c i a b)
theorem hereZF (N : Nat) {n : Nat} {txt : Nat → Nat} {σ : Mem} (h : ZT n txt σ) : ∃ x, f_X7_here N σ = some (x, σ) := by
  obtain ⟨⟨a, d⟩, t⟩ := h
  unfold f_X7_here
  by_cases h1 : gi σ 95 6 < 0
  · exact ⟨-1, if_pos h1⟩
  · rw [if_neg h1]
    by_cases h2 : gi σ 95 5 ≤ gi σ 95 6
    · exact ⟨-1, if_pos h2⟩
    · rw [if_neg h2, a]
      simp only [lt_p]
      rw [show ix (2 : Int32) = 2 from rfl, show isAr 2 = true from rfl, ckc_t, show lenC 2 = 260 from rfl]
      by_cases h3 : nI 260 ≤ gi σ 95 6
      · exact ⟨-1, if_pos h3⟩
      · rw [if_neg h3, ckc_t]
        obtain ⟨j, hj, ej⟩ := nI_of h1
        rw [ej] at h3 ⊢
        have : j < 260 := by
          rcases Nat.lt_or_ge j 260 with z | z
          · exact z
          · exact absurd (nI_le z hj) h3
        rw [chk_n this (by decide)]
        exact ⟨_, rfl⟩
theorem LnAll.fr {m ln : Nat} {told : Int32} {σ τ σ' τ' : Mem} (h : LnAll m told σ τ) (h1 : ∀ c i, 96 ≤ c → c ≤ 99 → i < m → gi σ' c i = gi σ c i) (h2 : ∀ c i, 19 ≤ c → c ≤ 22 → i < m → gi τ' c i = gi τ c i) : LnAll m told σ' τ' := by
  intro q hq
  obtain ⟨k, p, g, v, a, b, c⟩ := h q hq
  refine ⟨k, p, g, v, ⟨?_, ?_, ?_, ?_⟩, ⟨?_, ?_, ?_, ?_⟩, c⟩
  · rw [h1 _ _ (by omega) (by omega) hq]; exact a.1
  · rw [h1 _ _ (by omega) (by omega) hq]; exact a.2.1
  · rw [h1 _ _ (by omega) (by omega) hq]; exact a.2.2.1
  · rw [h1 _ _ (by omega) (by omega) hq]; exact a.2.2.2
  · rw [h2 _ _ (by omega) (by omega) hq]; exact b.1
  · rw [h2 _ _ (by omega) (by omega) hq]; exact b.2.1
  · rw [h2 _ _ (by omega) (by omega) hq]; exact b.2.2.1
  · rw [h2 _ _ (by omega) (by omega) hq]; exact b.2.2.2
theorem lp_rep (N n : Nat) (txt : Nat → Nat) (hT : Tx txt n) (hN : 300 ≤ N) (t6 t5 : Int32) (k75 : Int32 → Mem → Option (Int32 × Mem)) : ∀ (m ln Mc Mr i : Nat) (σ τ : Mem) (G : Option (Int32 × Mem)), ln + m = 20 → m + 1 < Mc → m < Mr → ZT n txt σ → ZD σ i 0 → RT n txt τ → gi τ 0 6 = nI i → gi τ 0 32 = nI ln → gi τ 1 146 = t6 → gi τ 1 145 = t5 → i ≤ n → LnAll ln t6 σ τ → (∀ s, f_X10_readsLine N τ = some (1, s) → G = itr (fun _ _ => none) (st_X10_report_35 N k75) (Mr + 1) 1 s) → (∀ s, f_X10_readsLine N τ = some (0, s) → G = itr (fun _ _ => none) (st_X10_report_35 N k75) (Mr + 1) 0 s) →
    (∃ (σ' τ' : Mem) (m' : Nat), itr (fun _ _ => none) (st_X7_read_28 N t6 t5) Mc (nI ln) σ = some (nI m', σ') ∧ G = k75 1 τ' ∧ (1 ≤ m' ∧ m' ≤ 20) ∧ ZG σ σ' ∧ YG τ τ' ∧ gi τ' 0 32 = nI m' ∧ LnAll m' t6 σ' τ') ∨
    (∃ (σ' τ' : Mem) (F : Int32), itr (fun _ _ => none) (st_X7_read_28 N t6 t5) Mc (nI ln) σ = some (F, σ') ∧ G = k75 0 τ' ∧ ZG σ σ' ∧ YG τ τ' ∧ F < 0 ∧ gi τ' 0 8 = F)
  | m, ln, 0, Mr, i, σ, τ, G, _, h2, _, _, _, _, _, _, _, _, _, _, _, _ => absurd h2 (by omega)
  | m, ln, Mc + 1, Mr, i, σ, τ, G, h1, h2, h3, hC, hD, hR, hd, h32, h6, h5, hi, hA, g1, g0 => by
    have hn := hT.1
    have l0 : ∀ M s, itr (fun _ _ => none) (st_X10_report_35 N k75) (M + 1) 0 s = k75 0 s := fun M s => by
      show st_X10_report_35 N k75 _ 0 s = _
      unfold st_X10_report_35
      rw [if_pos rfl]
    have sC : ∀ rec (σ1 : Mem), lnC N (nI ln) t6 t5 σ = some ((), σ1) → st_X7_read_28 N t6 t5 rec (nI ln) σ = if gi σ1 95 7 = 0 ∧ gi σ1 95 6 = gi σ1 95 5 then some (nI (ln + 1), σ1) else bd (f_X7_here N σ1) (fun r13 s12 => if r13 = 59 then (if (gi s12 95 7) = 0 then rec (nI (ln + 1)) (si s12 95 6 ((gi s12 95 6) + 1)) else some (gi s12 95 7, s12)) else bd (f_X7_fail N 1 s12) (fun _ s14 => if (gi s14 95 7) = 0 then rec (nI (ln + 1)) (si s14 95 6 ((gi s14 95 6) + 1)) else some (gi s14 95 7, s14))) := by
      intro rec σ1 e1
      unfold lnC at e1
      obtain ⟨_, s5, y1, y2⟩ := bd_eq e1
      obtain ⟨_, s7, y3, y4⟩ := bd_eq y2
      unfold st_X7_read_28
      simp only [lt_p, nI_1]
      rw [if_neg (show ¬ (20 : Int32) < nI ln from nI_nlt (a := 20) (by omega) (by decide)), y1, bd_some, y3, bd_some, y4, bd_some]
      by_cases z1 : gi σ1 95 7 = 0
      · rw [if_pos z1]
        by_cases z2 : gi σ1 95 6 = gi σ1 95 5
        · rw [if_pos z2, if_pos ⟨z1, z2⟩]
        · rw [if_neg z2, if_neg (fun z => z2 z.2)]
      · rw [if_neg z1, if_neg (fun z => z1 z.1)]
    have ei : itr (fun _ _ => none) (st_X7_read_28 N t6 t5) (Mc + 1) (nI ln) σ = st_X7_read_28 N t6 t5 (itr (fun _ _ => none) (st_X7_read_28 N t6 t5) Mc) (nI ln) σ := rfl
    have hsl := s_line N n i ln txt hN hT (by omega) hi hC hD hR hd h32
    rw [h6, h5] at hsl
    rcases hsl with ⟨σ1, τ1, j, k, p, g, v, e1, e2, ⟨b1, b2, b3⟩, ⟨f1, D1⟩, ⟨y1, y2, y3⟩, c1, c2, c3⟩ | ⟨σ1, τ1, F, e1, e2, f1, x1, x2, y1, x3⟩
    · have C1 := hC.fr f1
      have R1 := hR.y y1
      have gg := g1 τ1 e2
      rw [sC _ σ1 e1, D1.1, D1.2, C1.1.2] at ei
      have es : itr (fun _ _ => none) (st_X10_report_35 N k75) (Mr + 1) 1 τ1 = if nI n ≤ nI j then k75 1 τ1 else bd (f_X10_takes N 59 τ1) (fun r9 s8 => if r9 = 0 then itr (fun _ _ => none) (st_X10_report_35 N k75) Mr 0 s8 else bd (f_X10_readsLine N s8) (fun r11 s10 => if r11 = 0 then itr (fun _ _ => none) (st_X10_report_35 N k75) Mr 0 s10 else itr (fun _ _ => none) (st_X10_report_35 N k75) Mr 1 s10)) := by
        show st_X10_report_35 N k75 _ 1 τ1 = _
        generalize itr (fun _ _ => none) (st_X10_report_35 N k75) Mr = rec
        unfold st_X10_report_35
        rw [if_neg (show ¬ (1 : Int32) = 0 by decide), y3, R1.1]
      have hA1 : LnAll (ln + 1) t6 σ1 τ1 := by
        intro q hq
        by_cases e : q = ln
        · subst e
          exact ⟨k, p, g, v, c1, c2, c3⟩
        · exact (LnAll.fr (ln := ln) hA (σ' := σ1) (τ' := τ1) (fun c i a b d => f1 c i (by omega) (by omega)) (fun c i a b d => y1 c i (by omega) (by omega))) q (by omega)
      by_cases hj : j = n
      · rw [if_pos ⟨rfl, by rw [hj]⟩] at ei
        rw [if_pos (by rw [hj]; exact nI_le (Nat.le_refl n) (by omega))] at es
        exact Or.inl ⟨σ1, τ1, ln + 1, ei, gg.trans es, ⟨by omega, by omega⟩, f1.g, y1.g, y2, hA1⟩
      · rw [if_neg (fun z => nI_nq hj (by omega) (by omega) z.2), e_hereZ N hn b3 C1 D1, bd_some] at ei
        rw [if_neg (nI_ge (by omega) (by omega))] at es
        by_cases h59 : hr txt n j = 59
        · have hjn := hr_pos (k := 59) (by decide) h59
          have et : f_X10_takes N 59 τ1 = some (1, si τ1 0 6 (nI (j + 1))) := by
            unfold f_X10_takes
            rw [e_hereP N hn b3 R1 y3, bd_some, if_pos h59, lt_p, y3, nI_1]
          rw [if_pos h59, if_pos D1.2, D1.1, nI_1] at ei
          rw [et, bd_some, if_neg (by decide)] at es
          have zf2 : ZF ln σ (si σ1 95 6 (nI (j + 1))) := f1.tr (ZF.w ln σ1 (by omega))
          have yf2 : YF ln τ (si τ1 0 6 (nI (j + 1))) := y1.tr (YF.w ln τ1 (by omega))
          have hrec := lp_rep N n txt hT hN t6 t5 k75 (m - 1) (ln + 1) Mc (Mr - 1) (j + 1) _ _ (bd (f_X10_readsLine N (si τ1 0 6 (nI (j + 1)))) (fun r11 s10 => if r11 = 0 then itr (fun _ _ => none) (st_X10_report_35 N k75) Mr 0 s10 else itr (fun _ _ => none) (st_X10_report_35 N k75) Mr 1 s10)) (by omega) (by omega) (by omega) (hC.fr zf2) ⟨gi_eq _ _ _ _, by rw [gi_ni (by decide)]; exact D1.2⟩ (hR.y yf2) (gi_eq _ _ _ _) (by rw [gi_ni (by decide)]; exact y2) (by rw [yf2 _ _ (by omega) (by omega)]; exact h6) (by rw [yf2 _ _ (by omega) (by omega)]; exact h5) (by omega) (LnAll.fr (ln := ln) hA1 (fun c i a b d => gi_ne (by omega)) (fun c i a b d => gi_ne (by omega))) (fun s hs => by rw [hs, bd_some, if_neg (by decide), show Mr - 1 + 1 = Mr by omega]) (fun s hs => by rw [hs, bd_some, if_pos rfl, show Mr - 1 + 1 = Mr by omega])
          rcases hrec with ⟨σ', τ', m', q1, q2, q3, q4, q5, q6, q7⟩ | ⟨σ', τ', F, q1, q2, q3, q4, q5, q6⟩
          · exact Or.inl ⟨σ', τ', m', ei.trans q1, gg.trans (es.trans q2), q3, zf2.g.tr q4, yf2.g.tr q5, q6, q7⟩
          · exact Or.inr ⟨σ', τ', F, ei.trans q1, gg.trans (es.trans q2), zf2.g.tr q3, yf2.g.tr q4, q5, q6⟩
        · have et : f_X10_takes N 59 τ1 = some (0, si τ1 0 8 (flt 1 j)) := by
            unfold f_X10_takes
            rw [e_hereP N hn b3 R1 y3, bd_some, if_neg h59, y3, show (1 : Int32) = nI 1 from rfl, e_wrongAt, bd_some, ckz_0]
          have hF : ¬ flt 1 j = 0 := flt_ne (by omega) (by omega) (by omega)
          rw [if_neg h59, show (1 : Int32) = nI 1 from rfl, e_failZ N 1 D1, bd_some, gi_eq, if_neg hF] at ei
          rw [et, bd_some, if_pos rfl, show Mr = (Mr - 1) + 1 by omega, l0, show Mr - 1 + 1 = Mr by omega] at es
          exact Or.inr ⟨_, _, flt 1 j, ei, gg.trans es, (f1.tr (ZF.w ln σ1 (by omega))).g, (y1.tr (YF.w ln τ1 (by omega))).g, flt_neg (by omega) (by omega) (by omega), gi_eq _ _ _ _⟩
    · have hF : ¬ F = 0 := fun z => by rw [z] at x2; exact absurd x2 (by decide)
      obtain ⟨x, ex⟩ := hereZF N (hC.fr f1)
      rw [sC _ σ1 e1, if_neg (fun z => hF (x1.symm.trans z.1)), ex, bd_some, x1, if_neg hF, e_failZF N hF x1, bd_some, x1, if_neg hF] at ei
      refine Or.inr ⟨σ1, τ1, F, ei.trans ?_, (g0 τ1 e2).trans (l0 Mr τ1), f1.g, y1.g, x2, x3⟩
      by_cases z : x = 59
      · rw [if_pos z]
      · rw [if_neg z]
noncomputable def repK (N : Nat) (x2 : Int32) (s12 : Mem) : Option (Int32 × Mem) := if x2 = 0 then (some (gi (si s12 0 5 0) 0 8, si s12 0 5 0)) else itr (fun _ _ => none) (st_X10_report_91 N) N 0 (si s12 0 5 0)
theorem s_report (N : Nat) (hN : 300 ≤ N) {σ τ : Mem} (ht : Rt σ τ) (hp : Rp σ τ) (hn : Rn σ τ) (x1 : Int32) : ∃ r σ' τ', f_X9_report N x1 σ = some (r, σ') ∧ f_X10_report N x1 τ = some (r, τ') ∧ Rt σ' τ' ∧ Rn σ' τ' ∧ gi τ' 1 145 = gi τ 1 145 := by
  obtain ⟨⟨n0, hn0, t1, t2⟩, t3⟩ := id ht
  unfold f_X9_report f_X10_report
  rw [e_tapeHas, e_in, bd_some, bd_some, ite10, ite10, t1, t2]
  by_cases h1 : inR x1 1 120
  · by_cases h2 : x1 ≤ nI n0
    · rw [if_pos ⟨h1, h2⟩, if_pos h1, if_pos h2]
      obtain ⟨n, hn1, hn2, rfl⟩ := inR_n (a := 1) (b := 120) rfl rfl (by decide) (by decide) h1
      have hnn : n ≤ n0 := (nI_leI (by omega) (by omega)).mp h2
      have htx : ∀ j, j < 260 → ∃ k, k < 256 ∧ gi σ 2 j = nI k ∧ gi τ 5 j &&& 255 = nI k := fun j hj => by
        obtain ⟨k, hk, e⟩ := pk_andE (gi τ 5 j) (m := 255) 8 (by decide)
        exact ⟨k, hk, by rw [(t3 j hj).1, e], e⟩
      obtain ⟨txt, htx⟩ : ∃ txt : Nat → Nat, ∀ j, j < 260 → txt j < 256 ∧ gi σ 2 j = nI (txt j) ∧ gi τ 5 j &&& 255 = nI (txt j) := ⟨fun j => ix (gi σ 2 j), fun j hj => by
        obtain ⟨k, k1, k2, k3⟩ := htx j hj
        show ix (gi σ 2 j) < 256 ∧ _ = nI (ix (gi σ 2 j)) ∧ _ = nI (ix (gi σ 2 j))
        rw [k2, ix_n (by omega)]
        exact ⟨k1, rfl, k3⟩⟩
      have hT : Tx txt n := ⟨by omega, fun j hj => (htx j (by omega)).1⟩
      rw [e_take, bd_some, show isAr 2 = true from rfl, ckc_t]
      have em : imin (nI n) (nI (lenC 2)) = nI n := by
        show imin (nI n) (nI 260) = _
        unfold imin
        rw [if_neg (nI_nlt (by omega) (by decide))]
      have e146 : gi (si σ 1 1 0) 32 1 = gi τ 1 146 := by rw [gi_ne (by decide)]; exact hn.1.1.2.1
      have e145 : gi (si σ 1 1 0) 3 0 = gi τ 1 145 := by rw [gi_ne (by decide)]; exact hp.1
      have eC : f_X7_read N 2 (nI n) (gi (si σ 1 1 0) 32 1) (gi (si σ 1 1 0) 3 0) (si σ 1 1 0) = itr (fun _ _ => none) (st_X7_read_28 N (gi τ 1 146) (gi τ 1 145)) N (nI 0) (si (si (si (si (si σ 1 1 0) 95 4 (nI 2)) 95 5 (nI n)) 95 6 0) 95 7 0) := by
        unfold f_X7_read
        simp only [lt_p, em, e146, e145]
        rfl
      have C0 : ZT n txt (si (si (si (si (si σ 1 1 0) 95 4 (nI 2)) 95 5 (nI n)) 95 6 0) 95 7 0) := by
        refine ⟨⟨?_, ?_⟩, fun j hj => ?_⟩
        · simp (disch := omega) only [gi_ne, gi_ni, gi_eq]; rfl
        · simp (disch := omega) only [gi_ne, gi_ni, gi_eq]
        · simp (disch := omega) only [gi_ne, gi_ni, gi_eq]; exact (htx j (by omega)).2.1
      have D0 : ZD (si (si (si (si (si σ 1 1 0) 95 4 (nI 2)) 95 5 (nI n)) 95 6 0) 95 7 0) 0 0 := ⟨by simp (disch := omega) only [gi_ne, gi_ni, gi_eq]; rfl, gi_eq _ _ _ _⟩
      have k0 : ∀ c i, ¬ c = 95 → ¬ c = 1 → gi (si (si (si (si (si σ 1 1 0) 95 4 (nI 2)) 95 5 (nI n)) 95 6 0) 95 7 0) c i = gi σ c i := fun c i z1 z2 => by
        simp (disch := omega) only [gi_ne]
      have k1 : gi (si (si (si (si (si σ 1 1 0) 95 4 (nI 2)) 95 5 (nI n)) 95 6 0) 95 7 0) 1 1 = 0 := by
        simp (disch := omega) only [gi_ne, gi_eq]
      generalize si (si (si (si (si σ 1 1 0) 95 4 (nI 2)) 95 5 (nI n)) 95 6 0) 95 7 0 = σ0 at eC C0 D0 k0 k1
      unfold f_X10_beginsText
      simp only [lt_p, bd_some]
      have R0 : RT n txt (si (si (si (si (si τ 0 6 0) 0 7 (nI n)) 0 11 0) 0 13 0) 0 32 0) := by
        refine ⟨?_, fun j hj => ?_⟩
        · simp (disch := omega) only [gi_ne, gi_ni, gi_eq]
        · simp (disch := omega) only [gi_ne]; exact (htx j (by omega)).2.2
      have d0 : gi (si (si (si (si (si τ 0 6 0) 0 7 (nI n)) 0 11 0) 0 13 0) 0 32 0) 0 6 = nI 0 := by
        simp (disch := omega) only [gi_ne, gi_ni, gi_eq]; rfl
      have d32 : gi (si (si (si (si (si τ 0 6 0) 0 7 (nI n)) 0 11 0) 0 13 0) 0 32 0) 0 32 = nI 0 := gi_eq _ _ _ _
      have j0 : ∀ c i, ¬ c = 0 → gi (si (si (si (si (si τ 0 6 0) 0 7 (nI n)) 0 11 0) 0 13 0) 0 32 0) c i = gi τ c i := fun c i z => by
        simp (disch := omega) only [gi_ne]
      generalize si (si (si (si (si τ 0 6 0) 0 7 (nI n)) 0 11 0) 0 13 0) 0 32 0 = τ0 at R0 d0 d32 j0 ⊢
      rw [eC]
      show ∃ r σ' τ', _ ∧ bd (f_X10_readsLine N τ0) (fun r7 s6 => itr (fun _ _ => none) (st_X10_report_35 N (repK N)) N r7 s6) = some (r, τ') ∧ _
      have hlp := lp_rep N n txt hT hN (gi τ 1 146) (gi τ 1 145) (repK N) 20 0 N (N - 1) 0 σ0 τ0 (bd (f_X10_readsLine N τ0) (fun r7 s6 => itr (fun _ _ => none) (st_X10_report_35 N (repK N)) N r7 s6)) (by omega) (by omega) (by omega) C0 D0 R0 d0 d32 (j0 _ _ (by decide)) (j0 _ _ (by decide)) (by omega) (fun q hq => by omega) (fun s hs => by rw [hs, bd_some, show N - 1 + 1 = N by omega]) (fun s hs => by rw [hs, bd_some, show N - 1 + 1 = N by omega])
      rcases hlp with ⟨σ', τ', m', y1, y2, ⟨y3, y3'⟩, y4, y5, y6, y7⟩ | ⟨σ', τ', F, y1, y2, y3, y4, y5, y6⟩
      · rw [y1, y2, bd_some]
        have zc : ∀ c i, ¬ c = 95 → ¬ (96 ≤ c ∧ c ≤ 99) → ¬ c = 1 → gi σ' c i = gi σ c i := fun c i a1 a2 a3 => by rw [y4 c i (by omega) a2]; exact k0 c i a1 a3
        have zm : ∀ c i, ¬ c = 0 → ¬ (19 ≤ c ∧ c ≤ 22) → gi (si τ' 0 5 0) c i = gi τ c i := fun c i a1 a2 => by rw [gi_ne a1, y5 c i (by omega) a2]; exact j0 c i a1
        have hα : Al (si τ' 0 5 0) 1 = Al τ 1 := by
          funext i
          exact zm 1 i (by decide) (by omega)
        obtain ⟨σ2, τ2, r1, r2, r3, r4, r5, r6⟩ := lp_app N (m := m') y3' m' 0 N N σ' (si τ' 0 5 0) (by omega) (by omega) (by omega) (by rw [hα]; exact hn.1.fr (fun c i hc => by unfold Bc at hc; exact zc c i (by omega) (by omega) (by omega)) (fun _ _ _ => rfl)) (by rw [hα]; exact hn.2.1) (by rw [gi_ni (by decide)]; exact y6) (by
          have e6 : gi (si τ' 0 5 0) 1 146 = gi τ 1 146 := zm _ _ (by decide) (by omega)
          rw [e6]
          exact LnAll.fr (ln := 0) y7 (fun _ _ _ _ _ => rfl) (fun c i a b d => gi_ne (by omega)))
        have el : repK N 1 τ' = some (nI m', τ2) := by
          unfold repK
          rw [if_neg (by decide)]
          exact r2
        rw [el]
        have e145' : gi τ2 1 145 = gi τ 1 145 := by rw [r6 _ _ (by omega)]; exact zm _ _ (by decide) (by omega)
        refine ⟨nI m', σ2, τ2, r1, rfl, ⟨⟨0, by omega, ?_, ?_⟩, fun j hj => ?_⟩, ⟨r3, r4, ?_⟩, e145'⟩
        · rw [r5 _ _ (by omega) (by omega), y4 _ _ (by omega) (by omega), k1]; rfl
        · rw [r6 _ _ (by omega), gi_eq]; rfl
        · rw [r5 _ _ (by omega) (by omega), zc _ _ (by omega) (by omega) (by omega), r6 _ _ (by omega), zm _ _ (by omega) (by omega)]
          exact t3 j hj
        · rw [e145']
          exact hn.2.2.fr (fun i hi => by
            show gi τ2 1 i = gi τ 1 i
            rw [r6 _ _ (by omega)]; exact zm _ _ (by decide) (by omega))
      · rw [y1, y2, bd_some]
        have el : repK N 0 τ' = some (F, si τ' 0 5 0) := by
          unfold repK
          rw [if_pos rfl, gi_ni (by decide), y6]
        rw [el]
        have zc : ∀ c i, ¬ c = 95 → ¬ (96 ≤ c ∧ c ≤ 99) → ¬ c = 1 → gi σ' c i = gi σ c i := fun c i a1 a2 a3 => by rw [y3 c i (by omega) a2]; exact k0 c i a1 a3
        have zm : ∀ c i, ¬ c = 0 → ¬ (19 ≤ c ∧ c ≤ 22) → gi (si τ' 0 5 0) c i = gi τ c i := fun c i a1 a2 => by rw [gi_ne a1, y4 c i (by omega) a2]; exact j0 c i a1
        have hα : Al (si τ' 0 5 0) 1 = Al τ 1 := by
          funext i
          exact zm 1 i (by decide) (by omega)
        have ea : itr (fun _ _ => none) (st_X9_report_48 N F) N 0 σ' = some (F, σ') := by
          have z : ∀ M, itr (fun _ _ => none) (st_X9_report_48 N F) (M + 1) 0 σ' = some (F, σ') := fun M => by
            show st_X9_report_48 N F _ 0 σ' = _
            unfold st_X9_report_48
            rw [if_pos (Int32.le_of_lt y5)]
          have z2 := z (N - 1)
          rw [show N - 1 + 1 = N by omega] at z2
          exact z2
        refine ⟨F, σ', _, ea, rfl, ⟨⟨0, by omega, ?_, gi_eq _ _ _ _⟩, fun j hj => ?_⟩, ⟨?_, ?_, ?_⟩, zm _ _ (by decide) (by omega)⟩
        · rw [y3 _ _ (by omega) (by omega), k1]; rfl
        · rw [zc _ _ (by omega) (by omega) (by omega), zm _ _ (by omega) (by omega)]
          exact t3 j hj
        · rw [hα]
          exact hn.1.fr (fun c i hc => by unfold Bc at hc; exact zc c i (by omega) (by omega) (by omega)) (fun _ _ _ => rfl)
        · rw [hα]; exact hn.2.1
        · rw [zm _ _ (by decide) (by omega), hα]; exact hn.2.2
    · rw [if_neg (fun z => h2 z.2), if_pos h1, if_neg h2]
      exact ⟨-1, _, _, rfl, rfl, ht, hn, rfl⟩
  · rw [if_neg (fun z => h1 z.1), if_neg h1]
    exact ⟨-1, _, _, rfl, rfl, ht, hn, rfl⟩
