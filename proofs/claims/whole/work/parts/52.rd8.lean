/-! conditions: TESTS, PARTS, a C, side by side -/
theorem sim_test (N b n : Nat) (txt : Nat → Nat) (hb : isLw b = true) (hT : Tx txt n) (hN : 300 ≤ N) {o : Nat} (ho : o ≤ 6) (g0 : Int32 → Int32 → Mem → Option (Unit × Mem)) (g1 : Int32 → Mem → Option (Unit × Mem)) (hI0 : o < 6 → SimC N b n txt 0 (o + 1) (fun s => g0 2 (nI (o + 1)) s)) (hI2 : o < 6 → SimC N b n txt 2 (o + 1) (fun s => g0 0 (nI (o + 1)) s)) : SimC N b n txt 0 o (fun s => f1_X6_readTest N g0 g1 (nI o) s) := by
  intro uC uR σ τ i c r w hC hD hR hd hi hc hr' hw hbar
  have hb' := isLw_or hb
  have hn := hT.1
  show OutC N b n txt 0 o uC uR σ τ i c r w _ (f1_X6_readTest N g0 g1 (nI o) σ)
  have eT : f1_X6_readTest N g0 g1 (nI o) σ = (if hr txt n i = 33 ∨ hr txt n i = 40 then (if o < 6 then (if hr txt n i = 33 then bd (g0 2 (nI (o + 1)) (si σ 93 2 (nI (i + 1)))) (fun _ s28 => ckc (isLw (ix (gi s28 93 4))) (bd (f_X4_add N (ix (gi s28 93 4)) (-(nI 33)) s28) (fun _ s31 => some ((), s31)))) else bd (g0 0 (nI (o + 1)) (si σ 93 2 (nI (i + 1)))) (fun _ s23 => bd (f_X6_pass N (nI 41) s23) (fun _ s25 => some ((), s25)))) else some ((), si σ 93 3 (flt 5 i))) else cmpC N (nI o) σ) := by
    unfold f1_X6_readTest
    rw [e_hereC N hn hi hC hD, bd_some]
    simp only [lt_p]
    have ef : f_X6_fail N 5 σ = some ((), si σ 93 3 (flt 5 i)) := e_failC N 5 hD
    by_cases h33 : hr txt n i = 33
    · rw [if_pos (Or.inl h33), if_pos h33, if_neg (show ¬ (1 : Int32) = 0 by decide), if_pos h33, if_pos h33, hD.1, nI_1, nI_1, ef, bd_some]
      by_cases h6 : o < 6
      · rw [if_pos (show nI o < 6 from nI_lt (b := 6) h6 (by decide)), if_pos h6, h33]
        rfl
      · rw [if_neg (show ¬ nI o < 6 from nI_nlt (b := 6) (by omega) (by omega)), if_neg h6]
    · by_cases h40 : hr txt n i = 40
      · rw [if_pos (Or.inr h40), if_neg h33, if_pos h40, if_neg (show ¬ (1 : Int32) = 0 by decide), if_neg h33, if_pos h40, if_neg h33, hD.1, nI_1, nI_1, ef, bd_some]
        by_cases h6 : o < 6
        · rw [if_pos (show nI o < 6 from nI_lt (b := 6) h6 (by decide)), if_pos h6]
          rfl
        · rw [if_neg (show ¬ nI o < 6 from nI_nlt (b := 6) (by omega) (by omega)), if_neg h6]
      · rw [if_neg (show ¬ (hr txt n i = 33 ∨ hr txt n i = 40) from fun z => z.elim h33 h40), if_neg h33, if_neg h40, if_pos trivial, if_neg h33, if_neg h40]
        unfold cmpC
        simp only [lt_p]
  rw [eT]
  by_cases hsg : hr txt n i = 33 ∨ hr txt n i = 40
  · rw [if_pos hsg]
    have hin : i < n := by
      rcases hsg with z | z
      · exact hr_pos (k := 33) (by decide) z
      · exact hr_pos (k := 40) (by decide) z
    by_cases h6 : o < 6
    · rw [if_pos h6]
      have hd0 : RD (si τ 0 10 (nI (o + 1))) i (o + 1) r w := by
        unfold RD
        simp (disch := omega) only [gi_ne, gi_ni, gi_eq]
        exact ⟨hd.1, trivial, hd.2.2.1, hd.2.2.2⟩
      have f0 : RF r w τ (si τ 0 10 (nI (o + 1))) := RF.f0 r w τ (by omega) _
      have fs1 : CF b c σ (si σ 93 2 (nI (i + 1))) := CF.at' b c σ _
      have hC1 := hC.fr hb fs1
      have hD1 : CD b (si σ 93 2 (nI (i + 1))) (i + 1) 0 c := ⟨gi_eq _ _ _ _, by rw [gi_ni (by decide)]; exact hD.2.1, by rw [gi_ne (by omega)]; exact hD.2.2⟩
      obtain ⟨ob, hob⟩ : ∃ ob, (hr txt n i = 33 ∧ ob = 10) ∨ (hr txt n i = 40 ∧ ob = 13) := by
        rcases hsg with z | z
        · exact ⟨10, Or.inl ⟨z, rfl⟩⟩
        · exact ⟨13, Or.inr ⟨z, rfl⟩⟩
      have hst := fun M => xt_open N M hT hi hR hd hob h6 (by omega)
      have ht1 := hd0.pshd (o := ob) (i' := i + 1)
      have ft1 : RF r w τ (psh (si τ 0 10 (nI (o + 1))) w ob (i + 1)) := f0.tr (RF.pshd (r := r) _) (by omega) (by omega)
      have hm : gi (psh (si τ 0 10 (nI (o + 1))) w ob (i + 1)) 7 w = nI (1048576 * ob + 0) := by rw [mark_psh, if_pos rfl]
      generalize psh (si τ 0 10 (nI (o + 1))) w ob (i + 1) = τ1 at ht1 ft1 hm hst
      have hR1 := hR.fr ft1
      rcases hob with ⟨h33, rfl⟩ | ⟨h40, rfl⟩
      · rw [if_pos h33]
        have hbar1 : BarC 0 τ1 (w + 1) := ⟨w, 10, 0, rfl, by omega, hm, by omega, by omega, fun z => by omega, fun z => by omega⟩
        rcases hI0 h6 (uC + 1) (uR + 1) (si σ 93 2 (nI (i + 1))) τ1 (i + 1) c r (w + 1) hC1 hD1 hR1 ht1 (by omega) (by omega) (by omega) (by omega) hbar1 with ⟨σ2, τ2, j, c1, r1, w1, kk, q, V, e1, ⟨b1, b2, b3, b4, b5, b6, b7⟩, ⟨fc, dc, sc, sB⟩, ⟨fr, dr, pr⟩, _, ⟨er, _⟩⟩ | ⟨σ2, τ2, F, kk, e1, x1, b1, fr, x2, er⟩
        · have hC2 := hC1.fr hb fc
          have hcl := (sc (fun _ => 0)).1.1
          have e1' : g0 2 (nI (o + 1)) (si σ 93 2 (nI (i + 1))) = some ((), σ2) := e1
          obtain ⟨rfl, sr⟩ := pr
          have er0 := er rfl
          clear er
          obtain ⟨e, he, er⟩ := er0
          have hm2 : gi τ2 7 w = nI (1048576 * 10 + 0) := by rw [fr _ _ (by omega) (by omega) (by omega)]; exact hm
          have hrl := (sr (fun _ => 0)).1
          rw [e1', bd_some, hC2.1.2.2, ix_b hb, hb, ckc_t, e_addS N _ dc.2.2 (by omega), bd_some]
          have fc4 : CF b c σ (si (si σ2 (b + 5) c1 (-(nI 33))) b 6 (nI (c1 + 1))) := (fs1.tr fc (by omega)).tr (CF.ad b c1 σ2 (Nat.le_refl _) _ _) (by omega)
          have ff : RF r w τ (epd τ2 r1 w o) := (ft1.tr (fr.up (r := r) (w := w) (by omega) (by omega)) (by omega) (by omega)).tr ((RF.epdd (w0 := w) τ2).up (r := r) (w := w) (by omega) (Nat.le_refl w)) (by omega) (by omega)
          refine Or.inl ⟨_, epd τ2 r1 w o, j, c1 + 1, r1 + 1, w, kk + 1, q, fun φ => notv (V φ), rfl, ⟨by omega, b2, by omega, by omega, by omega, by omega, by omega⟩, ⟨fc4, ⟨by rw [gi_ne (by omega), gi_ne (by omega)]; exact dc.1, by rw [gi_ne (by omega), gi_ne (by omega)]; exact dc.2.1, gi_eq _ _ _ _⟩, fun φ => ?_, fun φ => not_B (sB φ)⟩, ⟨ff, dr.epdd, rfl, fun φ => ?_⟩, ⟨fun z => by omega, fun z => by omega⟩, ⟨fun _ => ⟨e - 1, by omega, fun M => ?_⟩, fun z => by omega⟩⟩
          · refine (cs_not (sB φ) ((sc φ).fr (fun q q1 q2 => ?_)) ?_).up (by omega)
            · show gi (si (si σ2 (b + 5) c1 _) b 6 _) (b + 5) q = gi σ2 (b + 5) q
              rw [gi_ne (by omega), gi_ni (by omega)]
            · show gi (si (si σ2 (b + 5) c1 _) b 6 _) (b + 5) c1 = _
              rw [gi_ne (by omega), gi_eq]
          · refine rs_not ((sr φ).fr (fun q q1 q2 => ?_)) ?_
            · show gi (epd τ2 r1 w o) 6 q = gi τ2 6 q
              rw [said_epd, if_neg (by omega)]
            · show gi (epd τ2 r1 w o) 6 r1 = _
              rw [said_epd, if_pos rfl]
          · show XT N (M + (kk + 1)) τ = _
            rw [show M + (kk + 1) = (M + kk) + 1 by omega, hst]
            have z : XT N (M + kk) τ1 = BE N M e q τ2 := er M
            rw [z, show e = (e - 1) + 1 by omega]
            exact be_go N M (e - 1) q dr (by omega) (by omega) hm2
        · have hC2 := hC1.fr hb x1.1
          have e1' : g0 2 (nI (o + 1)) (si σ 93 2 (nI (i + 1))) = some ((), σ2) := e1
          obtain ⟨σ4, e5, x3⟩ := x1.add N hb (-(nI 33))
          rw [e1', bd_some, hC2.1.2.2, ix_b hb, hb, ckc_t, e5, bd_some]
          refine Or.inr ⟨σ4, τ2, F, kk + 1, rfl, CX.tr fs1 x3 (by omega), by omega, ft1.tr (fr.up (r := r) (w := w) (by omega) (by omega)) (by omega) (by omega), x2, fun M => ?_⟩
          show XT N (M + (kk + 1)) τ = _
          rw [show M + (kk + 1) = (M + kk) + 1 by omega, hst]
          exact er M
      · have h33 : ¬ hr txt n i = 33 := by rw [h40]; decide
        rw [if_neg h33]
        have hbar1 : BarC 2 τ1 (w + 1) := ⟨w, 13, 0, rfl, by omega, hm, by omega, by omega, fun z => by omega, fun z => by omega⟩
        rcases hI2 h6 uC uR (si σ 93 2 (nI (i + 1))) τ1 (i + 1) c r (w + 1) hC1 hD1 hR1 ht1 (by omega) (by omega) (by omega) (by omega) hbar1 with ⟨σ2, τ2, j, c1, r1, w1, kk, q, V, e1, ⟨b1, b2, b3, b4, b5, b6, b7⟩, ⟨fc, dc, sc, sB⟩, ⟨fr, dr, pr⟩, ⟨st1, st2⟩, ⟨_, er⟩⟩ | ⟨σ2, τ2, F, kk, e1, x1, b1, fr, x2, er⟩
        · have hC2 := hC1.fr hb fc
          have hR2 := hR1.fr fr
          have hcl := (sc (fun _ => 0)).1.1
          have hlt := pr.lt
          have e1' : g0 0 (nI (o + 1)) (si σ 93 2 (nI (i + 1))) = some ((), σ2) := e1
          have er := er (by omega)
          obtain ⟨q, rfl⟩ : ∃ q', q = q' + 1 := ⟨q - 1, by omega⟩
          rw [e1', bd_some]
          have ff := ft1.tr (fr.up (r := r) (w := w) (by omega) (by omega)) (by omega) (by omega)
          by_cases h41 : hr txt n j = 41
          · have hjn := hr_pos (k := 41) (by decide) h41
            rw [e_passT N hn b2 hC2 dc h41, bd_some]
            obtain ⟨τ3, e3, d3, s3, f3⟩ := ln_all N (x := 1) (k := 2) (Or.inr ⟨rfl, rfl⟩) dr pr (by omega) (by omega) (hbar1.fr fr (by omega)) (by omega)
            have ff3 := ff.tr (f3.up (r := r) (w := w) (by omega) (by omega)) (by omega) (by omega)
            have hw0 : ¬ w = 0 := by
              obtain ⟨w', _, _, z, _⟩ := hbar
              omega
            refine Or.inl ⟨_, pop τ3 w o (j + 1), j + 1, c1, r1, w, kk + 1, q, V, rfl, ⟨by omega, by omega, by omega, by omega, by omega, by omega, by omega⟩, ⟨(fs1.tr fc (by omega)).tr (CF.at' b c _ _) (by omega), ⟨gi_eq _ _ _ _, by rw [gi_ni (by decide)]; exact dc.2.1, by rw [gi_ne (by omega)]; exact dc.2.2⟩, fun φ => ?_, sB⟩, ⟨ff3.tr (RF.popd (r := r) (w0 := w) τ3) (by omega) (by omega), d3.popd, rfl, fun φ => ?_⟩, ⟨fun z => by omega, fun z => by omega⟩, ⟨fun _ => ⟨N, by omega, fun M => ?_⟩, fun z => by omega⟩⟩
            · refine ((sc φ).fr (fun q q1 q2 => ?_)).up (by omega)
              show gi (si σ2 93 2 _) (b + 5) q = _
              rw [gi_ne (by omega)]
            · exact (s3 φ).fr (fun q q1 q2 => row_pop τ3 w o (j + 1) q (by decide))
            · show XT N (M + (kk + 1)) τ = _
              rw [show M + (kk + 1) = (M + kk) + 1 by omega, hst]
              have z : XT N (M + kk) τ1 = AT N M (q + 1) τ2 := er M
              rw [z, at_close N M q hT b2 hR2 dr h41 e3 d3 (by omega), if_neg hw0]
          · rw [e_passN N hn b2 hC2 dc h41, bd_some]
            refine Or.inr ⟨_, si τ2 0 8 (flt 1 j), flt 1 j, kk + 1, rfl, CX.mk' hb (fs1.tr fc (by omega)) dc hcl (by omega) (by omega) (by omega) (by omega), by omega, ff.tr (RF.f0 r w _ (by omega) _) (by omega) (by omega), gi_eq _ _ _ _, fun M => ?_⟩
            show XT N (M + (kk + 1)) τ = _
            rw [show M + (kk + 1) = (M + kk) + 1 by omega, hst]
            have z : XT N (M + kk) τ1 = AT N M (q + 1) τ2 := er M
            rw [z]
            exact at_bad N M q hT b2 hR2 dr h41 (st1 (by omega)) (st2 (by omega))
        · have e1' : g0 0 (nI (o + 1)) (si σ 93 2 (nI (i + 1))) = some ((), σ2) := e1
          rw [e1', bd_some, e_passF N x1.ne x1.2.1, bd_some]
          refine Or.inr ⟨σ2, τ2, F, kk + 1, rfl, CX.tr fs1 x1 (by omega), by omega, ft1.tr (fr.up (r := r) (w := w) (by omega) (by omega)) (by omega) (by omega), x2, fun M => ?_⟩
          show XT N (M + (kk + 1)) τ = _
          rw [show M + (kk + 1) = (M + kk) + 1 by omega, hst]
          exact er M
    · obtain rfl : o = 6 := by omega
      rw [if_neg h6]
      exact Or.inr ⟨_, _, flt 5 i, 1, rfl, CX.mk' hb (CF.rf _ _ _) hD (by omega) (by omega) (by omega) (by omega) (by omega), by omega, RF.f0 _ _ _ (by omega) _, gi_eq _ _ _ _, fun M => xt_over N M hT hi hR hd hsg⟩
  · rw [if_neg hsg]
    exact s_cmp N b n txt hb hT hN ho hC hD hR hd hi hc hr' hw hbar (fun z => hsg (Or.inl z)) (fun z => hsg (Or.inr z))
-- & and |
def jsg (k : Nat) : Nat := if k = 0 then 38 else 124
theorem lc_fault (N : Nat) {g0 : Int32 → Int32 → Mem → Option (Unit × Mem)} {g1 : Int32 → Mem → Option (Unit × Mem)} {x1 x2 x3 x4 F : Int32} {σ : Mem} (hF : ¬ F = 0) (hd : gi σ 93 3 = F) (rec : Int32 → Mem → Option (Unit × Mem)) : st_X6_readCondition_42 N g0 g1 x1 x2 x3 rec x4 σ = some ((), σ) := by
  unfold st_X6_readCondition_42
  rw [if_neg (show ¬ gi σ 93 3 = 0 by rw [hd]; exact hF)]
  by_cases h : 240 ≤ x4
  · rw [if_pos h]
  · rw [if_neg h]
theorem jn_B {k : Nat} {a b : Option Int32} (h : isB a) (h2 : isB b) : isB (jn k a b) := by
  unfold jn
  by_cases z : k = 0
  · rw [if_pos z]; exact and_B h h2
  · rw [if_neg z]; exact or_B h h2
theorem e_jn (N : Nat) {k : Nat} (a b : Option Int32) (s : Mem) : f_X4_joined N (nI (jsg k)) (encL a) (encL b) s = some (encL (jn k a b), s) := by
  unfold jsg jn
  by_cases z : k = 0
  · rw [if_pos z, if_pos z]; exact e_joined_and N a b s
  · rw [if_neg z, if_neg z]; exact e_joined_or N a b s
theorem jsg_ok (k : Nat) : 0 < jsg k ∧ jsg k < 2 ^ 30 ∧ ¬ (97 ≤ jsg k ∧ jsg k ≤ 122) ∧ ¬ jsg k = 33 := by
  unfold jsg
  by_cases z : k = 0
  · rw [if_pos z]; decide
  · rw [if_neg z]; decide
/-- a TEST behind which no ! waits: the reference is at its joint -/
theorem be_at (N M e q : Nat) {k w op i r : Nat} {τ : Mem} (he : 0 < e) (hk : 1 ≤ k) (hb : BarC k τ w) (hd : RD τ i op r w) (hw : w ≤ 260) : BE N M e q τ = AT N M q τ := by
  obtain ⟨w', o, v, rfl, a2, a3, a4, a5, a6, a7⟩ := hb
  have := a6 hk
  rw [show e = (e - 1) + 1 by omega]
  exact be_stop N M (e - 1) q hd (by omega) (by omega) a2 a3 (by omega)
