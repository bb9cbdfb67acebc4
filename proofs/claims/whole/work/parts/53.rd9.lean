/-! conditions: PARTS and a C, side by side -/
theorem BarC.dn {k w : Nat} {τ : Mem} (h : BarC (k + 1) τ w) : BarC k τ w := by
  obtain ⟨w', o, v, a, c, d, e1, e2, e3, e4⟩ := h
  exact ⟨w', o, v, a, c, d, e1, e2, fun z => e3 (by omega), fun z => e4 (by omega)⟩
theorem lp_con (N b n : Nat) (txt : Nat → Nat) (hb : isLw b = true) (hT : Tx txt n) (hN : 300 ≤ N) {k o : Nat} (hk : k ≤ 1) (ho : o ≤ 6) (ho1 : 1 ≤ o) (g0 : Int32 → Int32 → Mem → Option (Unit × Mem)) (g1 : Int32 → Mem → Option (Unit × Mem)) (hS : SimC N b n txt k o (fun s => g0 (nI (1 - k) + 1) (nI o) s)) (Mc : Nat) : ∀ (f x4 uC uR : Nat) (σ0 τ0 : Mem) (c r w : Nat) (σ τ : Mem) (j c1 r1 w1 q : Nat) (V : Vf), n - j ≤ f → f + 1 < Mc → x4 ≤ j → j ≤ n → c1 + uC ≤ j → w1 ≤ j → r1 + uR ≤ j → o ≤ q → BarC (k + 1) τ0 w → CT b n txt σ0 → RT n txt τ0 → CF b c σ0 σ → CD b σ j 0 c1 → (∀ φ, CSeg (fun q => gi σ (b + 5) q) φ c c1 (16 + (k + 1) - 2 * o) (V φ)) → (∀ φ, isB (V φ)) → RF r w τ0 τ → RD τ j o r1 w1 → PdC (k + 1) τ r w r1 w1 V → (1 ≤ k → ¬ hr txt n j = 38) → OutC N b n txt (k + 1) o uC uR σ0 τ0 j c r w (fun M => AT N M q τ) (itr (fun _ _ => none) (st_X6_readCondition_42 N g0 g1 (nI (1 - k)) (nI o) (nI (jsg k))) Mc (nI x4) σ) := by
  induction Mc with
  | zero =>
    intro f x4 uC uR σ0 τ0 c r w σ τ j c1 r1 w1 q V h1 h2
    exact absurd h2 (by omega)
  | succ Mc ih =>
    intro f x4 uC uR σ0 τ0 c r w σ τ j c1 r1 w1 q V h1 h2 h3 h4 h5 h6 h7 h8 hbar hC0 hR0 fc hD sc sB fr hd pd hst
    have hb' := isLw_or hb
    have hn := hT.1
    have hC := hC0.fr hb fc
    have hR := hR0.fr fr
    have hlt := pd.lt
    have hcl := (sc (fun _ => 0)).1.1
    obtain ⟨jg1, jg2, jg3, jg4⟩ := jsg_ok k
    have ei : itr (fun _ _ => none) (st_X6_readCondition_42 N g0 g1 (nI (1 - k)) (nI o) (nI (jsg k))) (Mc + 1) (nI x4) σ = st_X6_readCondition_42 N g0 g1 (nI (1 - k)) (nI o) (nI (jsg k)) (itr (fun _ _ => none) (st_X6_readCondition_42 N g0 g1 (nI (1 - k)) (nI o) (nI (jsg k))) Mc) (nI x4) σ := rfl
    by_cases hs : hr txt n j = nI (jsg k)
    · have hjn : j < n := hr_pos (by omega) hs
      obtain ⟨q, rfl⟩ : ∃ q', q = q' + 1 := ⟨q - 1, by omega⟩
      obtain ⟨τ1, e1, d1, s1, f1⟩ := ln_all N (x := k) (k := k + 1) (by omega) hd pd (by omega) (by omega) (hbar.fr fr (by omega)) (by omega)
      have hs' : hr txt n j = if k = 0 then 38 else 124 := by
        rw [hs]
        unfold jsg
        by_cases z : k = 0
        · rw [if_pos z, if_pos z]; rfl
        · rw [if_neg z, if_neg z]; rfl
      have f01 : RF r w τ0 τ1 := fr.tr (f1.up (r := r) (w := w) (by omega) (by omega)) (by omega) (by omega)
      have rst := fun M => at_join N M q hk hT h4 hR hd hs' e1 (hR0.fr f01) d1 (by omega) (by omega)
      have d2 := (e_jumps N (o := 11 + k) d1 (by omega) (by omega)).2
      have f2 : RF r w τ0 (jmp τ1 r1 w (11 + k) j) := f01.tr ((RF.jmpd τ1).up (r := r) (w := w) (by omega) (Nat.le_refl w)) (by omega) (by omega)
      have hm2 := mark_jmp τ1 r1 w (11 + k) j
      have s2 := said_jmp τ1 r1 w (11 + k) j
      generalize jmp τ1 r1 w (11 + k) j = τ2 at rst d2 f2 hm2 s2
      have fs1 : CF b c1 σ (si σ 93 2 (nI (j + 1))) := CF.at' b c1 σ _
      have hC1 := hC.fr hb fs1
      have hD1 : CD b (si σ 93 2 (nI (j + 1))) (j + 1) 0 c1 := ⟨gi_eq _ _ _ _, by rw [gi_ni (by decide)]; exact hD.2.1, by rw [gi_ne (by omega)]; exact hD.2.2⟩
      have hbar2 : BarC k τ2 (w + 1) := ⟨w, 11 + k, r1, rfl, by omega, hm2, by omega, by omega, fun z => by omega, fun z => by omega⟩
      have hih := hS (uC + 1) uR (si σ 93 2 (nI (j + 1))) τ2 (j + 1) c1 (r1 + 1) (w + 1) hC1 hD1 (hR0.fr f2) d2 (by omega) (by omega) (by omega) (by omega) hbar2
      have es : ∀ σ3, g0 (nI (1 - k) + 1) (nI o) (si σ 93 2 (nI (j + 1))) = some ((), σ3) → gi σ3 93 4 = nI b → st_X6_readCondition_42 N g0 g1 (nI (1 - k)) (nI o) (nI (jsg k)) (itr (fun _ _ => none) (st_X6_readCondition_42 N g0 g1 (nI (1 - k)) (nI o) (nI (jsg k))) Mc) (nI x4) σ = bd (f_X4_add N b (-(nI (jsg k))) σ3) (fun _ s15 => itr (fun _ _ => none) (st_X6_readCondition_42 N g0 g1 (nI (1 - k)) (nI o) (nI (jsg k))) Mc (nI (x4 + 1)) s15) := by
        intro σ3 eg e4
        generalize itr (fun _ _ => none) (st_X6_readCondition_42 N g0 g1 (nI (1 - k)) (nI o) (nI (jsg k))) Mc = rec
        unfold st_X6_readCondition_42
        simp only [lt_p]
        rw [if_neg (show ¬ (240 : Int32) ≤ nI x4 from nI_ge (b := 240) (by omega) (by decide)), if_pos hD.2.1, e_hereC N hn h4 hC hD, bd_some, if_pos hs, hD.1, nI_1 j, eg, bd_some, e4, ix_b hb, hb, ckc_t, nI_1 x4]
      rcases hih with ⟨σ3, τ3, j3, c3, r3, w3, k3, q3, B, e3, ⟨b1, b2, b3, b4, b5, b6, b7⟩, ⟨fc3, dc3, sc3, sB3⟩, ⟨fr3, dr3, pr3⟩, ⟨st0, _⟩, ⟨er0, er1⟩⟩ | ⟨σ3, τ3, F, k3, e3, x1, b1, fr3, x2, er3⟩
      · have hC3 := hC1.fr hb fc3
        have hcl3 := (sc3 (fun _ => 0)).1.1
        have hlt3 := pr3.lt
        have hm3 : gi τ3 7 w = nI (1048576 * (11 + k) + r1) := by rw [fr3 _ _ (by omega) (by omega) (by omega)]; exact hm2
        have er3 : ∀ M, XT N (M + k3) τ2 = AT N M q3 τ3 := by
          by_cases z : k = 0
          · obtain ⟨e, he, er⟩ := er0 z
            intro M
            have y : XT N (M + k3) τ2 = BE N M e q3 τ3 := er M
            rw [y, show e = (e - 1) + 1 by omega]
            have hw3 : w3 = w + 1 := by
              subst z
              exact pr3.1
            rw [hw3] at dr3
            exact be_stop N M (e - 1) q3 dr3 (by omega) (by omega) (by omega) hm3 (by omega)
          · exact er1 (by omega)
        clear er0 er1
        have e3' : g0 (nI (1 - k) + 1) (nI o) (si σ 93 2 (nI (j + 1))) = some ((), σ3) := e3
        rw [ei, es σ3 e3' hC3.1.2.2, e_addS N _ dc3.2.2 (by omega), bd_some]
        have fc4 : CF b c1 σ (si (si σ3 (b + 5) c3 (-(nI (jsg k)))) b 6 (nI (c3 + 1))) := (fs1.tr fc3 (by omega)).tr (CF.ad b c3 σ3 (Nat.le_refl _) _ _) (by omega)
        have hD4 : CD b (si (si σ3 (b + 5) c3 (-(nI (jsg k)))) b 6 (nI (c3 + 1))) j3 0 (c3 + 1) := ⟨by rw [gi_ne (by omega), gi_ne (by omega)]; exact dc3.1, by rw [gi_ne (by omega), gi_ne (by omega)]; exact dc3.2.1, gi_eq _ _ _ _⟩
        have sc4 : ∀ φ, CSeg (fun q => gi (si (si σ3 (b + 5) c3 (-(nI (jsg k)))) b 6 (nI (c3 + 1))) (b + 5) q) φ c (c3 + 1) (16 + (k + 1) - 2 * o) (jn k (V φ) (B φ)) := by
          intro φ
          refine cs_bin (d1 := 16 + (k + 1) - 2 * o) (d2 := 16 + k - 2 * o) jg1 jg2 jg3 jg4 (fun N s => e_jn N _ _ s) ((sc φ).fr (fun q q1 q2 => ?_)) ((sc3 φ).fr (fun q q1 q2 => ?_)) (by omega) (by omega) ?_
          · exact fc4 _ _ (by omega) (by omega) (by omega)
          · show gi (si (si σ3 (b + 5) c3 _) b 6 _) (b + 5) q = gi σ3 (b + 5) q
            rw [gi_ne (by omega), gi_ni (by omega)]
          · show gi (si (si σ3 (b + 5) c3 _) b 6 _) (b + 5) c3 = _
            rw [gi_ne (by omega), gi_eq]
        have f3 : RF r w τ0 τ3 := f2.tr (fr3.up (r := r) (w := w) (by omega) (by omega)) (by omega) (by omega)
        have pd3 : PdC (k + 1) τ3 r w r3 w3 (fun φ => jn k (V φ) (B φ)) := by
          refine Or.inr ⟨r1, V, B, ⟨hm3, ?_⟩, fun φ => (s1 φ).fr (fun q q1 q2 => ?_), sB, pr3, fun φ => rfl⟩
          · rw [fr3 _ _ (by omega) (by omega) (by omega), s2, if_pos rfl]
          · show gi τ3 6 q = gi τ1 6 q
            rw [fr3 _ _ (by omega) (by omega) (by omega), s2, if_neg (by omega)]
        have hrec := ih (f - 1) (x4 + 1) uC uR σ0 τ0 c r w _ τ3 j3 (c3 + 1) r3 w3 q3 _ (by omega) (by omega) (by omega) b2 (by omega) (by omega) (by omega) b7 hbar hC0 hR0 (fc.tr fc4 hcl) hD4 sc4 (fun φ => jn_B (sB φ) (sB3 φ)) f3 dr3 pd3 st0
        rcases hrec with ⟨σ5, τ5, j5, c5, r5, w5, k5, q5, V5, y1, ⟨y2, y3, y4, y5, y6, y7, y7'⟩, y8, y9, y10, ⟨y11, y12⟩⟩ | ⟨σ5, τ5, F, k5, y1, y2, y3, y4, y5, y6⟩
        · have y12 := y12 (by omega)
          clear y11
          refine Or.inl ⟨σ5, τ5, j5, c5, r5, w5, k5 + k3, q5, V5, y1, ⟨by omega, y3, by omega, y5, y6, y7, y7'⟩, y8, y9, y10, ⟨fun z => by omega, fun _ M => ?_⟩⟩
          show AT N (M + (k5 + k3)) (q + 1) τ = _
          rw [rst, ← Nat.add_assoc, er3]
          exact y12 M
        · refine Or.inr ⟨σ5, τ5, F, k5 + k3, y1, y2, by omega, y4, y5, fun M => ?_⟩
          show AT N (M + (k5 + k3)) (q + 1) τ = _
          rw [rst, ← Nat.add_assoc, er3]
          exact y6 M
      · have hC3 := hC1.fr hb x1.1
        have e3' : g0 (nI (1 - k) + 1) (nI o) (si σ 93 2 (nI (j + 1))) = some ((), σ3) := e3
        obtain ⟨σ4, e4, x4'⟩ := x1.add N hb (-(nI (jsg k)))
        have ez : itr (fun _ _ => none) (st_X6_readCondition_42 N g0 g1 (nI (1 - k)) (nI o) (nI (jsg k))) Mc (nI (x4 + 1)) σ4 = some ((), σ4) := by
          rw [show Mc = (Mc - 1) + 1 by omega]
          exact lc_fault N x4'.ne x4'.2.1 _
        rw [ei, es σ3 e3' hC3.1.2.2, e4, bd_some]
        refine Or.inr ⟨σ4, τ3, F, k3, ez, CX.tr (fc.tr fs1 hcl) x4' hcl, by omega, f2.tr (fr3.up (r := r) (w := w) (by omega) (by omega)) (by omega) (by omega), x2, fun M => ?_⟩
        show AT N (M + k3) (q + 1) τ = _
        rw [rst]
        exact er3 M
    · refine Or.inl ⟨σ, τ, j, c1, r1, w1, 0, q, V, ?_, ⟨by omega, h4, by omega, h5, h6, h7, h8⟩, ⟨fc, hD, sc, sB⟩, ⟨fr, hd, pd⟩, ⟨fun _ => ?_, fun z => ?_⟩, ⟨fun z => by omega, fun _ M => rfl⟩⟩
      · rw [ei]
        unfold st_X6_readCondition_42
        by_cases hx : 240 ≤ nI x4
        · rw [if_pos hx]
        · rw [if_neg hx, if_pos hD.2.1, e_hereC N hn h4 hC hD, bd_some, if_neg hs]
      · by_cases z : k = 0
        · subst z; exact hs
        · exact hst (by omega)
      · obtain rfl : k = 1 := by omega
        exact hs
theorem sim_con (N b n : Nat) (txt : Nat → Nat) (hb : isLw b = true) (hT : Tx txt n) (hN : 300 ≤ N) {k o : Nat} (hk : k ≤ 1) (ho : o ≤ 6) (ho1 : 1 ≤ o) (g0 : Int32 → Int32 → Mem → Option (Unit × Mem)) (g1 : Int32 → Mem → Option (Unit × Mem)) (hS : SimC N b n txt k o (fun s => g0 (nI (1 - k) + 1) (nI o) s)) : SimC N b n txt (k + 1) o (fun s => f1_X6_readCondition N g0 g1 (nI (1 - k)) (nI o) s) := by
  intro uC uR σ τ i c r w hC hD hR hd hi hc hr' hw hbar
  have hn := hT.1
  have hih := hS uC uR σ τ i c r w hC hD hR hd hi hc hr' hw hbar.dn
  have ef : f1_X6_readCondition N g0 g1 (nI (1 - k)) (nI o) σ = bd (g0 (nI (1 - k) + 1) (nI o) σ) (fun _ s3 => itr (fun _ _ => none) (st_X6_readCondition_42 N g0 g1 (nI (1 - k)) (nI o) (nI (jsg k))) N (nI 0) s3) := by
    unfold f1_X6_readCondition
    simp only [lt_p]
    rcases (show k = 0 ∨ k = 1 by omega) with rfl | rfl
    · rw [if_pos hD.2.1, if_pos (show nI (1 - 0) < 2 by decide), if_neg (show ¬ nI (1 - 0) = 0 by decide)]
      rfl
    · rw [if_pos hD.2.1, if_pos (show nI (1 - 1) < 2 by decide), if_pos (show nI (1 - 1) = 0 by decide)]
      rfl
  show OutC N b n txt (k + 1) o uC uR σ τ i c r w _ (f1_X6_readCondition N g0 g1 (nI (1 - k)) (nI o) σ)
  rw [ef]
  rcases hih with ⟨σ3, τ3, j3, c3, r3, w3, k3, q3, B, e3, ⟨b1, b2, b3, b4, b5, b6, b7⟩, ⟨fc3, dc3, sc3, sB3⟩, ⟨fr3, dr3, pr3⟩, ⟨st0, _⟩, ⟨er0, er1⟩⟩ | ⟨σ3, τ3, F, k3, e3, x1, b1, fr3, x2, er3⟩
  · have e3' : g0 (nI (1 - k) + 1) (nI o) σ = some ((), σ3) := e3
    have hlt3 := pr3.lt
    have er3 : ∀ M, XT N (M + k3) τ = AT N M q3 τ3 := by
      by_cases z : k = 0
      · obtain ⟨e, he, er⟩ := er0 z
        intro M
        have y : XT N (M + k3) τ = BE N M e q3 τ3 := er M
        have hw3 : w3 = w := by
          subst z
          exact pr3.1
        rw [hw3] at dr3
        rw [y]
        exact be_at N M e q3 (by omega) (by omega) (hbar.fr fr3 (Nat.le_refl w)) dr3 (by omega)
      · exact er1 (by omega)
    clear er0 er1
    rw [e3', bd_some]
    have hrec := lp_con N b n txt hb hT hN hk ho ho1 g0 g1 hS N (n - j3) 0 uC uR σ τ c r w σ3 τ3 j3 c3 r3 w3 q3 B (by omega) (by omega) (by omega) b2 b4 b5 b6 b7 hbar hC hR fc3 dc3 (fun φ => (sc3 φ).up (by omega)) sB3 fr3 dr3 (Or.inl pr3) st0
    rcases hrec with ⟨σ5, τ5, j5, c5, r5, w5, k5, q5, V5, y1, ⟨y2, y3, y4, y5, y6, y7, y7'⟩, y8, y9, y10, ⟨y11, y12⟩⟩ | ⟨σ5, τ5, F, k5, y1, y2, y3, y4, y5, y6⟩
    · have y12 := y12 (by omega)
      clear y11
      refine Or.inl ⟨σ5, τ5, j5, c5, r5, w5, k5 + k3, q5, V5, y1, ⟨by omega, y3, by omega, y5, y6, y7, y7'⟩, y8, y9, y10, ⟨fun z => by omega, fun _ M => ?_⟩⟩
      show XT N (M + (k5 + k3)) τ = _
      rw [← Nat.add_assoc, er3]
      exact y12 M
    · refine Or.inr ⟨σ5, τ5, F, k5 + k3, y1, y2, by omega, y4, y5, fun M => ?_⟩
      show XT N (M + (k5 + k3)) τ = _
      rw [← Nat.add_assoc, er3]
      exact y6 M
  · have e3' : g0 (nI (1 - k) + 1) (nI o) σ = some ((), σ3) := e3
    rw [e3', bd_some]
    refine Or.inr ⟨σ3, τ3, F, k3, ?_, x1, b1, fr3, x2, er3⟩
    have z : itr (fun _ _ => none) (st_X6_readCondition_42 N g0 g1 (nI (1 - k)) (nI o) (nI (jsg k))) ((N - 1) + 1) (nI 0) σ3 = some ((), σ3) := lc_fault N x1.ne x1.2.1 _
    rw [show N - 1 + 1 = N by omega] at z
    exact z
theorem sim_tl (N b n : Nat) (txt : Nat → Nat) {o : Nat} (g0 : Int32 → Int32 → Mem → Option (Unit × Mem)) (g1 : Int32 → Mem → Option (Unit × Mem)) (hS : SimC N b n txt 0 o (fun s => g1 (nI o) s)) : SimC N b n txt 0 o (fun s => f1_X6_readCondition N g0 g1 (nI 2) (nI o) s) := by
  intro uC uR σ τ i c r w hC hD hR hd hi hc hr' hw hbar
  have hih := hS uC uR σ τ i c r w hC hD hR hd hi hc hr' hw hbar
  have ef : f1_X6_readCondition N g0 g1 (nI 2) (nI o) σ = bd (g1 (nI o) σ) (fun _ s18 => some ((), s18)) := by
    unfold f1_X6_readCondition
    rw [if_pos hD.2.1, if_neg (show ¬ nI 2 < 2 by decide)]
  have e2 : bd (g1 (nI o) σ) (fun _ s18 => some ((), s18)) = g1 (nI o) σ := by
    cases z : g1 (nI o) σ with
    | none => rfl
    | some p => rfl
  show OutC N b n txt 0 o uC uR σ τ i c r w _ (f1_X6_readCondition N g0 g1 (nI 2) (nI o) σ)
  rw [ef, e2]
  exact hih
theorem sim_C (N b n : Nat) (txt : Nat → Nat) (hb : isLw b = true) (hT : Tx txt n) (hN : 300 ≤ N) : ∀ (d o : Nat), o + d = 6 → 1 ≤ o → (∀ m, 4 * d + 2 ≤ m → SimC N b n txt 0 o (fun s => (gr_X6_readCondition N m).1 (nI 2) (nI o) s)) ∧ (∀ m, 4 * d + 4 ≤ m → SimC N b n txt 2 o (fun s => (gr_X6_readCondition N m).1 (nI 0) (nI o) s))
  | d, o, h1, h2 => by
    have a0 : ∀ m, 4 * d + 1 ≤ m → SimC N b n txt 0 o (fun s => (gr_X6_readCondition N m).2 (nI o) s) := by
      intro m hm
      obtain ⟨m, rfl⟩ : ∃ m', m = m' + 1 := ⟨m - 1, by omega⟩
      match d, h1, hm with
      | 0, h1, _ => exact sim_test N b n txt hb hT hN (by omega) (gr_X6_readCondition N m).1 (gr_X6_readCondition N m).2 (fun z => by omega) (fun z => by omega)
      | d + 1, h1, hm =>
        have hr := sim_C N b n txt hb hT hN d (o + 1) (by omega) (by omega)
        exact sim_test N b n txt hb hT hN (by omega) (gr_X6_readCondition N m).1 (gr_X6_readCondition N m).2 (fun _ => hr.1 m (by omega)) (fun _ => hr.2 m (by omega))
    have a1 : ∀ m, 4 * d + 2 ≤ m → SimC N b n txt 0 o (fun s => (gr_X6_readCondition N m).1 (nI 2) (nI o) s) := by
      intro m hm
      obtain ⟨m, rfl⟩ : ∃ m', m = m' + 1 := ⟨m - 1, by omega⟩
      exact sim_tl N b n txt (gr_X6_readCondition N m).1 (gr_X6_readCondition N m).2 (a0 m (by omega))
    refine ⟨a1, fun m hm => ?_⟩
    obtain ⟨m, rfl⟩ : ∃ m', m = m' + 2 := ⟨m - 2, by omega⟩
    have a2 : SimC N b n txt 1 o (fun s => (gr_X6_readCondition N (m + 1)).1 (nI 1) (nI o) s) := sim_con N b n txt hb hT hN (k := 0) (by omega) (by omega) h2 (gr_X6_readCondition N m).1 (gr_X6_readCondition N m).2 (a1 m (by omega))
    exact sim_con N b n txt hb hT hN (k := 1) (by omega) (by omega) h2 (gr_X6_readCondition N (m + 1)).1 (gr_X6_readCondition N (m + 1)).2 a2
