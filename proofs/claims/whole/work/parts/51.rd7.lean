/-! conditions: a TEST, side by side -/
def OutC (N b n : Nat) (txt : Nat → Nat) (k o uC uR : Nat) (σ τ : Mem) (i c r w : Nat) (run : Nat → Option (Int32 × Mem)) (res : Option (Unit × Mem)) : Prop :=
  (∃ (σ' τ' : Mem) (j c1 r1 w1 kk q : Nat) (V : Vf), res = some ((), σ') ∧ (i ≤ j ∧ j ≤ n ∧ kk ≤ j - i ∧ c1 + uC ≤ j ∧ w1 ≤ j ∧ r1 + uR ≤ j ∧ o ≤ q) ∧ (CF b c σ σ' ∧ CD b σ' j 0 c1 ∧ (∀ φ, CSeg (fun q => gi σ' (b + 5) q) φ c c1 (16 + k - 2 * o) (V φ)) ∧ ∀ φ, isB (V φ)) ∧ (RF r w τ τ' ∧ RD τ' j o r1 w1 ∧ PdC k τ' r w r1 w1 V) ∧ ((1 ≤ k → ¬ hr txt n j = 38) ∧ (2 ≤ k → ¬ hr txt n j = 124)) ∧ ((k = 0 → ∃ e, o < e ∧ ∀ M, run (M + kk) = BE N M e q τ') ∧ (1 ≤ k → ∀ M, run (M + kk) = AT N M q τ'))) ∨
  (∃ (σ' τ' : Mem) (F : Int32) (kk : Nat), res = some ((), σ') ∧ CX b c σ σ' F ∧ kk ≤ n - i + 1 ∧ RF r w τ τ' ∧ gi τ' 0 8 = F ∧ ∀ M, run (M + kk) = some (0, τ'))
/-- the class's g reads what the reference reads: a TEST (k 0), a PART (1), a C (2), with o open -/
def SimC (N b n : Nat) (txt : Nat → Nat) (k o : Nat) (g : Mem → Option (Unit × Mem)) : Prop := ∀ (uC uR : Nat) (σ τ : Mem) (i c r w : Nat), CT b n txt σ → CD b σ i 0 c → RT n txt τ → RD τ i o r w → i ≤ n → c + uC ≤ i → r + uR ≤ i → w ≤ i → BarC k τ w → OutC N b n txt k o uC uR σ τ i c r w (fun M => XT N M τ) (g σ)
theorem opn_B {o : Nat} (h1 : 7 ≤ o) (h2 : o ≤ 9) (a b : Option Int32) : isB (opv o a b) := by
  cases a with
  | none => exact Or.inl (opv_n _ _)
  | some x =>
    cases b with
    | none => exact Or.inl (opv_n2 _ _)
    | some y =>
      show isB (opn o x y)
      rcases (show o = 7 ∨ o = 8 ∨ o = 9 by omega) with rfl | rfl | rfl
      · show isB (some (if x < y then 1 else 0))
        by_cases h : x < y
        · rw [if_pos h]; exact Or.inr (Or.inr rfl)
        · rw [if_neg h]; exact Or.inr (Or.inl rfl)
      · show isB (some (if y < x then 1 else 0))
        by_cases h : y < x
        · rw [if_pos h]; exact Or.inr (Or.inr rfl)
        · rw [if_neg h]; exact Or.inr (Or.inl rfl)
      · show isB (some (if x = y then 1 else 0))
        by_cases h : x = y
        · rw [if_pos h]; exact Or.inr (Or.inr rfl)
        · rw [if_neg h]; exact Or.inr (Or.inl rfl)
theorem not_B {a : Option Int32} (h : isB a) : isB (notv a) := by
  rcases h with rfl | rfl | rfl
  · exact Or.inl rfl
  · exact Or.inr (Or.inr (by decide))
  · exact Or.inr (Or.inl (by decide))
theorem and_B {a b : Option Int32} (h : isB a) (h2 : isB b) : isB (andv a b) := by
  unfold andv
  by_cases z : a = some 1
  · rw [if_pos z]; exact h2
  · rw [if_neg z]; exact h
theorem or_B {a b : Option Int32} (h : isB a) (h2 : isB b) : isB (orv a b) := by
  unfold orv
  by_cases z : a = some 0
  · rw [if_pos z]; exact h2
  · rw [if_neg z]; exact h
theorem isS_2 {txt : Nat → Nat} {n j : Nat} (hT : Tx txt n) (h : isS 2 txt n j) : ∃ o, 7 ≤ o ∧ o ≤ 9 ∧ j < n ∧ txt j = sgn o := by
  obtain ⟨h1, h2⟩ := h
  rcases (inS_2 (hT.2 j h1)).mp h2 with e | e | e
  · exact ⟨7, by omega, by omega, h1, e⟩
  · exact ⟨8, by omega, by omega, h1, e⟩
  · exact ⟨9, by omega, by omega, h1, e⟩
/-- the class's comparison -/
noncomputable def cmpC (N : Nat) (x1 : Int32) (s5 : Mem) : Option (Unit × Mem) := bd (f_X6_readSum N 100 0 x1 s5) (fun _ s6 => bd (f_X6_here N s6) (fun r9 s8 => if (gi s8 93 3) = 0 then (bd (f_X6_isOf N 2 r9 s8) (fun r13 s12 => if r13 = 0 then (bd (f_X6_fail N 1 s12) (fun _ s20 => some ((), s20))) else lt (si s12 93 2 ((gi s12 93 2) + 1)) (fun s14 => bd (f_X6_readSum N 100 0 x1 s14) (fun _ s15 => lt (ix (gi s15 93 4)) (fun q17 => ckc (isLw q17) (bd (f_X4_add N q17 (-r9) s15) (fun _ s18 => some ((), s18)))))))) else bd (f_X6_fail N 1 s8) (fun _ s10 => some ((), s10))))
theorem bd_asc {α : Type} (a : Option (Unit × Mem)) (F : Mem → Option (α × Mem)) (G : Mem → Option (α × Mem)) : bd (bd a (fun _ s => some ((1 : Int32), s))) (fun r s => if r = 0 then G s else F s) = bd a (fun _ s => F s) := by
  cases a with
  | none => rfl
  | some p => rfl
/-- here, whatever stands behind a fault -/
theorem hereF (N : Nat) {b n c : Nat} {txt : Nat → Nat} {σ σ' : Mem} (hb : isLw b = true) (hC : CT b n txt σ) (h : CF b c σ σ') : ∃ x, f_X6_here N σ' = some (x, σ') := by
  obtain ⟨⟨a, d, e⟩, t⟩ := hC.fr hb h
  unfold f_X6_here
  by_cases h1 : gi σ' 93 2 < 0
  · exact ⟨-1, if_pos h1⟩
  · rw [if_neg h1]
    by_cases h2 : gi σ' 93 1 ≤ gi σ' 93 2
    · exact ⟨-1, if_pos h2⟩
    · rw [if_neg h2, a]
      simp only [lt_p]
      rw [show ix (2 : Int32) = 2 from rfl, show isAr 2 = true from rfl, ckc_t, show lenC 2 = 260 from rfl]
      by_cases h3 : nI 260 ≤ gi σ' 93 2
      · exact ⟨-1, if_pos h3⟩
      · rw [if_neg h3, ckc_t]
        obtain ⟨j, hj, ej⟩ := nI_of h1
        rw [ej] at h3 ⊢
        have : j < 260 := by
          rcases Nat.lt_or_ge j 260 with z | z
          · exact z
          · exact absurd (nI_le z hj) h3
        rw [chk_n this (by decide)]
        exact ⟨_, rfl⟩
theorem s_cmp (N b n : Nat) (txt : Nat → Nat) (hb : isLw b = true) (hT : Tx txt n) (hN : 300 ≤ N) {o uC uR i c r w : Nat} {σ τ : Mem} (ho : o ≤ 6) (hC : CT b n txt σ) (hD : CD b σ i 0 c) (hR : RT n txt τ) (hd : RD τ i o r w) (hi : i ≤ n) (hc : c + uC ≤ i) (hr' : r + uR ≤ i) (hw : w ≤ i) (hbar : BarC 0 τ w) (h33 : ¬ hr txt n i = 33) (h40 : ¬ hr txt n i = 40) : OutC N b n txt 0 o uC uR σ τ i c r w (fun M => XT N M τ) (cmpC N (nI o) σ) := by
  have hb' := isLw_or hb
  have hn := hT.1
  have hx := fun M => xt_cmp N M hT hi hR hd h33 h40
  have er : f_X10_readsCompared N τ = bd (f_X10_readsSum N τ) (fun r2 s1 => if r2 = 0 then (some (0, s1)) else bd (f_X10_here N s1) (fun r4 s3 => lt (fun (t6 : Int32) (s5 : Mem) => if t6 = (-1) then (bd (f_X10_wrongAt N 1 (gi s5 0 6) s5) (fun r15 s14 => ckz r15 (some (r15, s14)))) else lt (si s5 0 6 ((gi s5 0 6) + 1)) (fun s7 => bd (f_X10_readsSum N s7) (fun r9 s8 => if r9 = 0 then (some (0, s8)) else bd (f_X10_notes N t6 0 s8) (fun _ s10 => bd (f_X10_endsPiece N s10) (fun _ s12 => some (1, s12)))))) (fun j52 => if r4 = 60 then (j52 7 s3) else bd (f_X10_here N s3) (fun r17 s16 => if r17 = 62 then (j52 8 s16) else bd (f_X10_here N s16) (fun r19 s18 => if r19 = 61 then (j52 9 s18) else j52 (-1) s18))))) := rfl
  unfold cmpC
  rcases s_sum N b n txt hb hT hN (uC := uC) (uR := uR) ho hC hD hR hd hi hc hr' hw hbar.bar with ⟨σ1, τ1, j, c1, r1, A, e1, e2, ⟨b1, b2, b3, b4⟩, ⟨fc, dc, sc⟩, ⟨fr, dr, sr⟩⟩ | ⟨σ1, τ1, F, e1, e2, x1, fr, x2⟩
  · have hC1 := hC.fr hb fc
    have hR1 := hR.fr fr
    have hcl := (sc (fun _ => 0)).1.1
    have hrl := (sr (fun _ => 0)).1
    rw [e1, bd_some, e_hereC N hn b2 hC1 dc, bd_some, if_pos dc.2.1]
    by_cases hs : isS 2 txt n j
    · obtain ⟨o', o1, o2, hjn, etx⟩ := isS_2 hT hs
      obtain ⟨sg1, sg2, sg3⟩ := sgn_ok o' (by omega)
      have hh : hr txt n j = nI (sgn o') := by rw [hr_in hjn, etx]
      rw [(e_isH N (by omega) (by decide) hT σ1).1 hs, bd_some, if_neg (by decide), lt_p, dc.1, nI_1]
      have fs1 : CF b c1 σ1 (si σ1 93 2 (nI (j + 1))) := CF.at' b c1 σ1 _
      have hD2 : CD b (si σ1 93 2 (nI (j + 1))) (j + 1) 0 c1 := ⟨gi_eq _ _ _ _, by rw [gi_ni (by decide)]; exact dc.2.1, by rw [gi_ne (by omega)]; exact dc.2.2⟩
      have ft1 : RF r1 w τ1 (si τ1 0 6 (nI (j + 1))) := RF.f0 r1 w τ1 (by omega) _
      have hd2 : RD (si τ1 0 6 (nI (j + 1))) (j + 1) o r1 w := by
        unfold RD
        obtain ⟨a, b, c, d⟩ := dr
        simp (disch := omega) only [gi_ne, gi_ni, gi_eq]
        exact ⟨trivial, b, c, d⟩
      have hcomp : ∀ (ts : Int32) (τs : Mem), f_X10_readsSum N (si τ1 0 6 (nI (j + 1))) = some (ts, τs) → f_X10_readsCompared N τ = (if ts = 0 then some (0, τs) else bd (f_X10_notes N (nI o') 0 τs) (fun _ s10 => bd (f_X10_endsPiece N s10) (fun _ s12 => some (1, s12)))) := by
        intro ts τs es
        rw [er, e2, bd_some, if_neg (by decide), e_hereM N hn b2 hR1 dr, bd_some]
        simp only [lt_p, e_hereM N hn b2 hR1 dr, bd_some, dr.1, nI_1, es, hh]
        rcases (show o' = 7 ∨ o' = 8 ∨ o' = 9 by omega) with rfl | rfl | rfl
        · rw [if_pos (show nI (sgn 7) = 60 from rfl), if_neg (by decide)]; rfl
        · rw [if_neg (show ¬ nI (sgn 8) = 60 by decide), if_pos (show nI (sgn 8) = 62 from rfl), if_neg (by decide)]; rfl
        · rw [if_neg (show ¬ nI (sgn 9) = 60 by decide), if_neg (show ¬ nI (sgn 9) = 62 by decide), if_pos (show nI (sgn 9) = 61 from rfl), if_neg (by decide)]; rfl
      have hbar2 : Bar 1 (si τ1 0 6 (nI (j + 1))) w := (hbar.bar.fr fr (Nat.le_refl w)).fr ft1 (Nat.le_refl w)
      rcases s_sum N b n txt hb hT hN (uC := uC + 1) (uR := uR + 1) ho (hC1.fr hb fs1) hD2 (hR1.fr ft1) hd2 (by omega) (by omega) (by omega) (by omega) hbar2 with ⟨σ3, τ3, j3, c3, r3, B, e3, e4, ⟨b5, b6, b7, b8⟩, ⟨fc3, dc3, sc3⟩, ⟨fr3, dr3, sr3⟩⟩ | ⟨σ3, τ3, F, e3, e4, x1, fr3, x2⟩
      · have hC3 := (hC1.fr hb fs1).fr hb fc3
        have hcl3 := (sc3 (fun _ => 0)).1.1
        have hrl3 := (sr3 (fun _ => 0)).1
        rw [e3, bd_some, lt_p, hC3.1.2.2, ix_b hb, hb, ckc_t, e_addS N _ dc3.2.2 (by omega), bd_some]
        have fc4 : CF b c1 σ1 (si (si σ3 (b + 5) c3 (-(hr txt n j))) b 6 (nI (c3 + 1))) := (fs1.tr fc3 (by omega)).tr (CF.ad b c3 σ3 (Nat.le_refl _) _ _) (by omega)
        have f3 : RF r1 w τ1 τ3 := ft1.tr fr3 (by omega) (by omega)
        refine Or.inl ⟨_, note1 τ3 r3 o' 0, j3, c3 + 1, r3 + 1, w, 1, N, fun φ => opv o' (A φ) (B φ), rfl, ⟨by omega, b6, by omega, by omega, by omega, by omega, by omega⟩, ⟨fc.tr fc4 hcl, ⟨by rw [gi_ne (by omega), gi_ne (by omega)]; exact dc3.1, by rw [gi_ne (by omega), gi_ne (by omega)]; exact dc3.2.1, gi_eq _ _ _ _⟩, fun φ => ?_, fun φ => opn_B o1 o2 _ _⟩, ⟨(fr.tr (f3.up (r := r) (w := w) (by omega) (by omega)) (by omega) (by omega)).tr ((RF.note τ3).up (r := r) (w := w) (by omega) (Nat.le_refl w)) (by omega) (by omega), dr3.note, rfl, fun φ => ?_⟩, ⟨fun z => by omega, fun z => by omega⟩, ⟨fun _ => ⟨N, by omega, fun M => ?_⟩, fun z => by omega⟩⟩
        · refine cs_bin (c := sgn o') (d1 := 15 - 2 * o) (d2 := 15 - 2 * o) sg1 (by omega) (by omega) sg3 (fun N s => e_joined N (by omega) (by omega) _ _ s) ((sc φ).fr (fun q q1 q2 => ?_)) ((sc3 φ).fr (fun q q1 q2 => ?_)) (by omega) (by omega) ?_
          · exact fc4 _ _ (by omega) (by omega) (by omega)
          · show gi (si (si σ3 (b + 5) c3 _) b 6 _) (b + 5) q = gi σ3 (b + 5) q
            rw [gi_ne (by omega), gi_ni (by omega)]
          · show gi (si (si σ3 (b + 5) c3 _) b 6 _) (b + 5) c3 = _
            rw [gi_ne (by omega), gi_eq, hh]
        · refine rs_bin (j := r1) (by omega) (by omega) ((sr φ).fr (fun q q1 q2 => ?_)) ((sr3 φ).fr (fun q q1 q2 => ?_)) ?_
          · show gi (note1 τ3 r3 o' 0) 6 q = gi τ1 6 q
            rw [said_note, if_neg (by omega), f3 _ _ (by omega) (by omega) (by omega)]
          · show gi (note1 τ3 r3 o' 0) 6 q = gi τ3 6 q
            rw [said_note, if_neg (by omega)]
          · show gi (note1 τ3 r3 o' 0) 6 r3 = _
            rw [said_note, if_pos rfl]
        · show XT N (M + 1) τ = _
          rw [hx, hcomp 1 τ3 e4, if_neg (by decide), show (0 : Int32) = nI 0 from rfl, e_notes N o' 0 dr3 (by omega), bd_some]
          exact bd_asc _ _ _
      · have hC3 := (hC1.fr hb fs1).fr hb x1.1
        obtain ⟨σ4, e5, x3⟩ := x1.add N hb (-(hr txt n j))
        rw [e3, bd_some, lt_p, hC3.1.2.2, ix_b hb, hb, ckc_t, e5, bd_some]
        refine Or.inr ⟨σ4, τ3, F, 1, rfl, CX.tr (fc.tr fs1 hcl) x3 hcl, by omega, (fr.tr (ft1.up (r := r) (w := w) (by omega) (Nat.le_refl w)) (by omega) (by omega)).tr (fr3.up (r := r) (w := w) (by omega) (Nat.le_refl w)) (by omega) (by omega), x2, fun M => ?_⟩
        show XT N (M + 1) τ = _
        rw [hx, hcomp 0 τ3 e4, if_pos rfl, bd_some, if_pos rfl]
    · rw [(e_isH N (by omega) (by decide) hT σ1).2 hs, bd_some, if_pos rfl, show (1 : Int32) = nI 1 from rfl, e_failC N 1 dc, bd_some]
      refine Or.inr ⟨_, si τ1 0 8 (flt 1 j), flt 1 j, 1, rfl, CX.mk' hb fc dc hcl (by omega) (by omega) (by omega) (by omega), by omega, fr.tr (RF.f0 r w _ (by omega) _) (by omega) (by omega), gi_eq _ _ _ _, fun M => ?_⟩
      show XT N (M + 1) τ = _
      have k2 : ∀ z, (z = 60 ∨ z = 62 ∨ z = 61) → ¬ hr txt n j = nI z := fun z hz => hr_nq hT (by omega) (fun q => hs ⟨q.1, (inS_2 (hT.2 j q.1)).mpr (by rw [q.2]; exact hz)⟩)
      rw [hx, er, e2, bd_some, if_neg (by decide), e_hereM N hn b2 hR1 dr, bd_some]
      simp only [lt_p, e_hereM N hn b2 hR1 dr, bd_some, dr.1]
      rw [if_neg (show ¬ hr txt n j = 60 from k2 60 (by omega)), if_neg (show ¬ hr txt n j = 62 from k2 62 (by omega)), if_neg (show ¬ hr txt n j = 61 from k2 61 (by omega)), if_pos trivial, show (1 : Int32) = nI 1 from rfl, e_wrongAt, bd_some, ckz_0, bd_some, if_pos rfl]
  · obtain ⟨x, ex⟩ := hereF N hb hC x1.1
    rw [e1, bd_some, ex, bd_some, if_neg (by rw [x1.2.1]; exact x1.ne), e_failF (b := 0) (i := 0) (c := 0) N x1.ne x1.2.1, bd_some]
    refine Or.inr ⟨σ1, τ1, F, 1, rfl, x1, by omega, fr, x2, fun M => ?_⟩
    show XT N (M + 1) τ = _
    rw [hx, er, e2, bd_some, if_pos rfl, bd_some, if_pos rfl]
