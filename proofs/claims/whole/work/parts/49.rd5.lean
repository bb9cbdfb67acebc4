/-! sums: TERMS and SUMS, side by side -/
theorem Bar.dn {τ : Mem} {w : Nat} (h : Bar 1 τ w) : Bar 0 τ w := by
  rcases h with h | ⟨w', o, v, a, b, c, d, e⟩
  · exact Or.inl h
  · exact Or.inr ⟨w', o, v, a, b, c, d, Or.inl (by omega)⟩
theorem sgn_ok : ∀ o, o < 10 → 0 < sgn o ∧ sgn o < 97 ∧ ¬ sgn o = 33 := by decide
/-- a loop behind a fault -/
theorem lv_fault (N : Nat) {g0 : Int32 → Int32 → Mem → Option (Unit × Mem)} {g1 : Int32 → Mem → Option (Unit × Mem)} {x1 x2 x4 F : Int32} {t : Nat} {σ : Mem} (hF : ¬ F = 0) (hd : gi σ 93 3 = F) (rec : Int32 → Mem → Option (Unit × Mem)) : st_X6_readSum_42 N g0 g1 x1 x2 t rec x4 σ = some ((), σ) := by
  unfold st_X6_readSum_42
  rw [if_neg (show ¬ gi σ 93 3 = 0 by rw [hd]; exact hF)]
  by_cases h : 240 ≤ x4
  · rw [if_pos h]
  · rw [if_neg h]
theorem lp_lev (N base b n : Nat) (txt : Nat → Nat) (hb : isLw b = true) (hT : Tx txt n) (hN : 300 ≤ N) {k o : Nat} (hk : k ≤ 1) (ho : o ≤ 6) (g0 : Int32 → Int32 → Mem → Option (Unit × Mem)) (g1 : Int32 → Mem → Option (Unit × Mem)) (hS : SimS N base b n txt k o (fun s => g0 (nI (1 - k) + 1) (nI o) s)) (Mc : Nat) : ∀ (f x4 uC uR : Nat) (σ0 τ0 : Mem) (c r w : Nat) (σ τ : Mem) (j c1 r1 w1 : Nat) (V : Vf), n - j ≤ f → f + 1 < Mc → x4 ≤ j → j ≤ n → c1 + uC ≤ j → w1 ≤ j → r1 + (w1 - w) + uR ≤ j → base ≤ w → Bar k τ0 w → CT b n txt σ0 → RT n txt τ0 → CF b c σ0 σ → CD b σ j 0 c1 → (∀ φ, CSeg (fun q => gi σ (b + 5) q) φ c c1 (13 + (k + 1) - 2 * o) (V φ)) → RF r w τ0 τ → RD τ j o r1 w1 → PdN (k + 1) τ r w r1 w1 V → (1 ≤ k → ¬ isS 0 txt n j) → OutS N base b n txt (k + 1) o uC uR 0 σ0 τ0 j c r w (fun M => aF N base M τ) (itr (fun _ _ => none) (st_X6_readSum_42 N g0 g1 (nI (1 - k)) (nI o) k) Mc (nI x4) σ) := by
  induction Mc with
  | zero =>
    intro f x4 uC uR σ0 τ0 c r w σ τ j c1 r1 w1 V h1 h2
    exact absurd h2 (by omega)
  | succ Mc ih =>
    intro f x4 uC uR σ0 τ0 c r w σ τ j c1 r1 w1 V h1 h2 h3 h4 h5 h6 h7 h8 hbar hC0 hR0 fc hD sc fr hd pd hst
    have hb' := isLw_or hb
    have hn := hT.1
    have hC := hC0.fr hb fc
    have hR := hR0.fr fr
    have hlt := pd.lt
    have hcl := (sc (fun _ => 0)).1.1
    have ei : itr (fun _ _ => none) (st_X6_readSum_42 N g0 g1 (nI (1 - k)) (nI o) k) (Mc + 1) (nI x4) σ = st_X6_readSum_42 N g0 g1 (nI (1 - k)) (nI o) k (itr (fun _ _ => none) (st_X6_readSum_42 N g0 g1 (nI (1 - k)) (nI o) k) Mc) (nI x4) σ := rfl
    by_cases hs : isS k txt n j
    · obtain ⟨o', hop, hjn, etx⟩ := isS_o hk hT hs
      have hop2 : 2 ≤ o' ∧ o' ≤ 6 := by unfold opr at hop; omega
      obtain ⟨sg1, sg2, sg3⟩ := sgn_ok o' (by omega)
      obtain ⟨τ1, e1, d1, s1, f1⟩ := cl_all N (x := k) (k := k + 1) (by omega) (by omega) hd pd (by omega) (by omega) (hbar.fr fr (by omega)) (by omega)
      have hh : hr txt n j = nI (sgn o') := by rw [hr_in hjn, etx]
      have hx : k = if o' < 4 then 1 else 0 := by
        unfold opr at hop
        by_cases z : o' < 4
        · rw [if_pos z]; omega
        · rw [if_neg z]; omega
      have rst := fun M => af_sign N base M hT h4 hR hd hop2.1 hop2.2 hh hx e1 d1 (by omega)
      have d2 := d1.pshd (o := o') (i' := j + 1)
      have f2 : RF r w τ0 (psh τ1 w o' (j + 1)) := (fr.tr (f1.up (r := r) (w := w) (by omega) (by omega)) (by omega) (by omega)).tr (RF.pshd (r := r) τ1) (by omega) (by omega)
      have hm2 : gi (psh τ1 w o' (j + 1)) 7 w = nI (1048576 * o' + 0) := by rw [mark_psh, if_pos rfl]
      have s2 : ∀ q, gi (psh τ1 w o' (j + 1)) 6 q = gi τ1 6 q := fun q => said_psh τ1 w o' (j + 1) q
      generalize psh τ1 w o' (j + 1) = τ2 at rst d2 f2 hm2 s2
      have fs1 : CF b c1 σ (si σ 93 2 (nI (j + 1))) := CF.at' b c1 σ _
      have hC1 := hC.fr hb fs1
      have hD1 : CD b (si σ 93 2 (nI (j + 1))) (j + 1) 0 c1 := ⟨gi_eq _ _ _ _, by rw [gi_ni (by decide)]; exact hD.2.1, by rw [gi_ne (by omega)]; exact hD.2.2⟩
      have hbar2 : k = 0 ∨ Bar (k - 1) τ2 (w + 1) := by
        by_cases z : k = 0
        · exact Or.inl z
        · exact Or.inr (Or.inr ⟨w, o', 0, rfl, by omega, by omega, hm2, Or.inr ⟨by omega, by unfold opr at hop; omega⟩⟩)
      have hih := hS (uC + 1) (uR + 1) (si σ 93 2 (nI (j + 1))) τ2 (j + 1) c1 (r1 + (w1 - w)) (w + 1) N hC1 hD1 (hR0.fr f2) d2 (by omega) (by omega) (by omega) (by omega) (by omega) hbar2 (by omega)
      have es : ∀ σ3, g0 (nI (1 - k) + 1) (nI o) (si σ 93 2 (nI (j + 1))) = some ((), σ3) → gi σ3 93 4 = nI b → st_X6_readSum_42 N g0 g1 (nI (1 - k)) (nI o) k (itr (fun _ _ => none) (st_X6_readSum_42 N g0 g1 (nI (1 - k)) (nI o) k) Mc) (nI x4) σ = bd (f_X4_add N b (-(nI (sgn o'))) σ3) (fun _ s15 => itr (fun _ _ => none) (st_X6_readSum_42 N g0 g1 (nI (1 - k)) (nI o) k) Mc (nI (x4 + 1)) s15) := by
        intro σ3 eg e4
        generalize itr (fun _ _ => none) (st_X6_readSum_42 N g0 g1 (nI (1 - k)) (nI o) k) Mc = rec
        unfold st_X6_readSum_42
        simp only [lt_p]
        rw [if_neg (show ¬ (240 : Int32) ≤ nI x4 from nI_ge (b := 240) (by omega) (by decide)), if_pos hD.2.1, e_hereC N hn h4 hC hD, bd_some, (e_isH N (by omega) (by omega) hT σ).1 hs, bd_some, if_neg (by decide), e_hereC N hn h4 hC hD, bd_some, hD.1, nI_1 j, eg, bd_some, e4, ix_b hb, hb, ckc_t, hh, nI_1 x4]
      rcases hih with ⟨σ3, τ3, j3, c3, r3, w3, k3, B, e3, ⟨b1, b2, b3, b4, b5, b6⟩, ⟨fc3, dc3, sc3⟩, ⟨fr3, dr3, pr3⟩, ⟨st0, st1⟩, er3⟩ | ⟨σ3, τ3, F, k3, e3, x1, b1, fr3, x2, er3⟩
      · have hC3 := hC1.fr hb fc3
        have hcl3 := (sc3 (fun _ => 0)).1.1
        have e3' : g0 (nI (1 - k) + 1) (nI o) (si σ 93 2 (nI (j + 1))) = some ((), σ3) := e3
        rw [ei, es σ3 e3' hC3.1.2.2, e_addS N _ dc3.2.2 (by omega), bd_some]
        have fc4 : CF b c1 σ (si (si σ3 (b + 5) c3 (-(nI (sgn o')))) b 6 (nI (c3 + 1))) := (fs1.tr fc3 (by omega)).tr (CF.ad b c3 σ3 (Nat.le_refl _) _ _) (by omega)
        have hD4 : CD b (si (si σ3 (b + 5) c3 (-(nI (sgn o')))) b 6 (nI (c3 + 1))) j3 0 (c3 + 1) := ⟨by rw [gi_ne (by omega), gi_ne (by omega)]; exact dc3.1, by rw [gi_ne (by omega), gi_ne (by omega)]; exact dc3.2.1, gi_eq _ _ _ _⟩
        have sc4 : ∀ φ, CSeg (fun q => gi (si (si σ3 (b + 5) c3 (-(nI (sgn o')))) b 6 (nI (c3 + 1))) (b + 5) q) φ c (c3 + 1) (13 + (k + 1) - 2 * o) (opv o' (V φ) (B φ)) := by
          intro φ
          refine cs_bin (d1 := 13 + (k + 1) - 2 * o) (d2 := 13 + k - 2 * o) sg1 (by omega) (by omega) sg3 (fun N s => e_joined N hop2.1 (by omega) _ _ s) ((sc φ).fr (fun q q1 q2 => ?_)) ((sc3 φ).fr (fun q q1 q2 => ?_)) (by omega) (by omega) ?_
          · exact fc4 _ _ (by omega) (by omega) (by omega)
          · show gi (si (si σ3 (b + 5) c3 _) b 6 _) (b + 5) q = gi σ3 (b + 5) q
            rw [gi_ne (by omega), gi_ni (by omega)]
          · show gi (si (si σ3 (b + 5) c3 _) b 6 _) (b + 5) c3 = _
            rw [gi_ne (by omega), gi_eq]
        have hlt3 := pr3.lt
        have f3 : RF r w τ0 τ3 := f2.tr (fr3.up (r := r) (w := w) (by omega) (by omega)) (by omega) (by omega)
        have pd3 : PdN (k + 1) τ3 r w r3 w3 (fun φ => opv o' (V φ) (B φ)) := by
          refine Or.inr ⟨o', r1 + (w1 - w), V, B, hop, ?_, fun φ => (s1 φ).fr (fun q q1 q2 => ?_), pr3, fun φ => rfl⟩
          · rw [fr3 _ _ (by omega) (by omega) (by omega)]; exact hm2
          · show gi τ3 6 q = gi τ1 6 q
            rw [fr3 _ _ (by omega) (by omega) (by omega)]; exact s2 q
        have hrec := ih (f - 1) (x4 + 1) uC uR σ0 τ0 c r w _ τ3 j3 (c3 + 1) r3 w3 _ (by omega) (by omega) (by omega) b2 (by omega) (by omega) (by omega) h8 hbar hC0 hR0 (fc.tr fc4 hcl) hD4 sc4 f3 dr3 pd3 st0
        rcases hrec with ⟨σ5, τ5, j5, c5, r5, w5, k5, V5, y1, ⟨y2, y3, y4, y5, y6, y7⟩, y8, y9, y10, y11⟩ | ⟨σ5, τ5, F, k5, y1, y2, y3, y4, y5, y6⟩
        · refine Or.inl ⟨σ5, τ5, j5, c5, r5, w5, k5 + k3 + 1, V5, y1, ⟨by omega, y3, by omega, y5, y6, y7⟩, y8, y9, y10, fun M => ?_⟩
          show aF N base (M + (k5 + k3 + 1)) τ = _
          rw [show M + (k5 + k3 + 1) = (M + k5 + k3) + 1 by omega, rst]
          have z : eF N base N ((M + k5) + k3) τ2 = aF N base (M + k5) τ3 := er3 (M + k5)
          rw [z]
          exact y11 M
        · refine Or.inr ⟨σ5, τ5, F, k5 + k3 + 1, y1, y2, by omega, y4, y5, fun M => ?_⟩
          show aF N base (M + (k5 + k3 + 1)) τ = _
          rw [show M + (k5 + k3 + 1) = (M + k5 + k3) + 1 by omega, rst]
          have z : eF N base N ((M + k5) + k3) τ2 = aF N base (M + k5) τ3 := er3 (M + k5)
          rw [z]
          exact y6 M
      · have hC3 := hC1.fr hb x1.1
        have e3' : g0 (nI (1 - k) + 1) (nI o) (si σ 93 2 (nI (j + 1))) = some ((), σ3) := e3
        obtain ⟨σ4, e4, x4'⟩ := x1.add N hb (-(nI (sgn o')))
        have ez : itr (fun _ _ => none) (st_X6_readSum_42 N g0 g1 (nI (1 - k)) (nI o) k) Mc (nI (x4 + 1)) σ4 = some ((), σ4) := by
          rw [show Mc = (Mc - 1) + 1 by omega]
          exact lv_fault N x4'.ne x4'.2.1 _
        rw [ei, es σ3 e3' hC3.1.2.2, e4, bd_some]
        refine Or.inr ⟨σ4, τ3, F, k3 + 1, ez, CX.tr (fc.tr fs1 hcl) x4' hcl, by omega, f2.tr (fr3.up (r := r) (w := w) (by omega) (by omega)) (by omega) (by omega), x2, fun M => ?_⟩
        show aF N base (M + (k3 + 1)) τ = _
        rw [show M + (k3 + 1) = (M + k3) + 1 by omega, rst]
        exact er3 M
    · refine Or.inl ⟨σ, τ, j, c1, r1, w1, 0, V, ?_, ⟨by omega, h4, by omega, h5, h6, h7⟩, ⟨fc, hD, sc⟩, ⟨fr, hd, pd⟩, ⟨fun _ => ?_, fun z => ?_⟩, fun M => rfl⟩
      · rw [ei]
        unfold st_X6_readSum_42
        by_cases hx : 240 ≤ nI x4
        · rw [if_pos hx]
        · rw [if_neg hx, if_pos hD.2.1, e_hereC N hn h4 hC hD, bd_some, (e_isH N (by omega) (by omega) hT σ).2 hs, bd_some, if_pos rfl]
      · by_cases z : k = 0
        · rw [z] at hs; exact hs
        · exact hst (by omega)
      · rw [show k = 1 by omega] at hs; exact hs
theorem sim_lev (N base b n : Nat) (txt : Nat → Nat) (hb : isLw b = true) (hT : Tx txt n) (hN : 300 ≤ N) {k o : Nat} (hk : k ≤ 1) (ho : o ≤ 6) (g0 : Int32 → Int32 → Mem → Option (Unit × Mem)) (g1 : Int32 → Mem → Option (Unit × Mem)) (hS : SimS N base b n txt k o (fun s => g0 (nI (1 - k) + 1) (nI o) s)) : SimS N base b n txt (k + 1) o (fun s => f1_X6_readSum N g0 g1 (nI (1 - k)) (nI o) s) := by
  intro uC uR σ τ i c r w q hC hD hR hd hi hc hr' hw hbs hbar hq
  have hn := hT.1
  have hbar' : Bar k τ w := by
    rcases hbar with z | z
    · omega
    · exact z
  have hih := hS uC uR σ τ i c r w q hC hD hR hd hi hc hr' hw hbs (by
    by_cases z : k = 0
    · exact Or.inl z
    · obtain rfl : k = 1 := by omega
      exact Or.inr hbar'.dn) hq
  have ef : f1_X6_readSum N g0 g1 (nI (1 - k)) (nI o) σ = bd (g0 (nI (1 - k) + 1) (nI o) σ) (fun _ s3 => itr (fun _ _ => none) (st_X6_readSum_42 N g0 g1 (nI (1 - k)) (nI o) k) N (nI 0) s3) := by
    unfold f1_X6_readSum
    simp only [lt_p]
    rcases (show k = 0 ∨ k = 1 by omega) with rfl | rfl
    · rw [if_pos hD.2.1, if_pos (show nI (1 - 0) < 2 by decide), if_neg (show ¬ nI (1 - 0) = 0 by decide)]
      rfl
    · rw [if_pos hD.2.1, if_pos (show nI (1 - 1) < 2 by decide), if_pos (show nI (1 - 1) = 0 by decide)]
      rfl
  show OutS N base b n txt (k + 1) o uC uR 1 σ τ i c r w _ (f1_X6_readSum N g0 g1 (nI (1 - k)) (nI o) σ)
  rw [ef]
  rcases hih with ⟨σ3, τ3, j3, c3, r3, w3, k3, B, e3, ⟨b1, b2, b3, b4, b5, b6⟩, ⟨fc3, dc3, sc3⟩, ⟨fr3, dr3, pr3⟩, ⟨st0, st1⟩, er3⟩ | ⟨σ3, τ3, F, k3, e3, x1, b1, fr3, x2, er3⟩
  · have e3' : g0 (nI (1 - k) + 1) (nI o) σ = some ((), σ3) := e3
    rw [e3', bd_some]
    have hrec := lp_lev N base b n txt hb hT hN hk ho g0 g1 hS N (n - j3) 0 uC uR σ τ c r w σ3 τ3 j3 c3 r3 w3 B (by omega) (by omega) (by omega) b2 b4 b5 b6 hbs hbar' hC hR fc3 dc3 (fun φ => (sc3 φ).up (by omega)) fr3 dr3 (Or.inl pr3) st0
    rcases hrec with ⟨σ5, τ5, j5, c5, r5, w5, k5, V5, y1, ⟨y2, y3, y4, y5, y6, y7⟩, y8, y9, y10, y11⟩ | ⟨σ5, τ5, F, k5, y1, y2, y3, y4, y5, y6⟩
    · refine Or.inl ⟨σ5, τ5, j5, c5, r5, w5, k5 + k3, V5, y1, ⟨by omega, y3, by omega, y5, y6, y7⟩, y8, y9, y10, fun M => ?_⟩
      show eF N base q (M + (k5 + k3)) τ = _
      have z : eF N base q ((M + k5) + k3) τ = aF N base (M + k5) τ3 := er3 (M + k5)
      rw [← Nat.add_assoc, z]
      exact y11 M
    · refine Or.inr ⟨σ5, τ5, F, k5 + k3, y1, y2, by omega, y4, y5, fun M => ?_⟩
      show eF N base q (M + (k5 + k3)) τ = _
      have z : eF N base q ((M + k5) + k3) τ = aF N base (M + k5) τ3 := er3 (M + k5)
      rw [← Nat.add_assoc, z]
      exact y6 M
  · have e3' : g0 (nI (1 - k) + 1) (nI o) σ = some ((), σ3) := e3
    rw [e3', bd_some]
    obtain ⟨N', hN'⟩ : ∃ m, N = m + 1 := ⟨N - 1, by omega⟩
    refine Or.inr ⟨σ3, τ3, F, k3, ?_, x1, b1, fr3, x2, er3⟩
    have z : itr (fun _ _ => none) (st_X6_readSum_42 N g0 g1 (nI (1 - k)) (nI o) k) (N' + 1) (nI 0) σ3 = some ((), σ3) := lv_fault N x1.ne x1.2.1 _
    rw [hN'] at z ⊢
    exact z
theorem sim_fl (N base b n : Nat) (txt : Nat → Nat) {o : Nat} (g0 : Int32 → Int32 → Mem → Option (Unit × Mem)) (g1 : Int32 → Mem → Option (Unit × Mem)) (hS : SimS N base b n txt 0 o (fun s => g1 (nI o) s)) : SimS N base b n txt 0 o (fun s => f1_X6_readSum N g0 g1 (nI 2) (nI o) s) := by
  intro uC uR σ τ i c r w q hC hD hR hd hi hc hr' hw hbs hbar hq
  have hih := hS uC uR σ τ i c r w q hC hD hR hd hi hc hr' hw hbs hbar hq
  have ef : f1_X6_readSum N g0 g1 (nI 2) (nI o) σ = bd (g1 (nI o) σ) (fun _ s18 => some ((), s18)) := by
    unfold f1_X6_readSum
    rw [if_pos hD.2.1, if_neg (show ¬ nI 2 < 2 by decide)]
  have e2 : bd (g1 (nI o) σ) (fun _ s18 => some ((), s18)) = g1 (nI o) σ := by
    cases z : g1 (nI o) σ with
    | none => rfl
    | some p => rfl
  show OutS N base b n txt 0 o uC uR 1 σ τ i c r w _ (f1_X6_readSum N g0 g1 (nI 2) (nI o) σ)
  rw [ef, e2]
  exact hih
theorem sim_sum (N base b n : Nat) (txt : Nat → Nat) (hb : isLw b = true) (hT : Tx txt n) (hN : 300 ≤ N) : ∀ (d o m : Nat), o + d = 6 → 4 * d + 4 ≤ m → SimS N base b n txt 2 o (fun s => (gr_X6_readSum N m).1 (nI 0) (nI o) s)
  | d, o, m, h1, h2 => by
    obtain ⟨m, rfl⟩ : ∃ m', m = m' + 4 := ⟨m - 4, by omega⟩
    have a0 : SimS N base b n txt 0 o (fun s => (gr_X6_readSum N (m + 1)).2 (nI o) s) := by
      refine sim_factor N base b n txt hb hT hN (by omega) (gr_X6_readSum N m).1 (gr_X6_readSum N m).2 (fun ho => ?_)
      match d, h1, h2 with
      | 0, h1, _ => omega
      | d + 1, h1, h2 => exact sim_sum N base b n txt hb hT hN d (o + 1) m (by omega) (by omega)
    have a1 : SimS N base b n txt 0 o (fun s => (gr_X6_readSum N (m + 2)).1 (nI 2) (nI o) s) := sim_fl N base b n txt (gr_X6_readSum N (m + 1)).1 (gr_X6_readSum N (m + 1)).2 a0
    have a2 : SimS N base b n txt 1 o (fun s => (gr_X6_readSum N (m + 3)).1 (nI 1) (nI o) s) := sim_lev N base b n txt hb hT hN (k := 0) (by omega) (by omega) (gr_X6_readSum N (m + 2)).1 (gr_X6_readSum N (m + 2)).2 a1
    exact sim_lev N base b n txt hb hT hN (k := 1) (by omega) (by omega) (gr_X6_readSum N (m + 3)).1 (gr_X6_readSum N (m + 3)).2 a2
/-- a whole SUM -/
theorem s_sum (N b n : Nat) (txt : Nat → Nat) (hb : isLw b = true) (hT : Tx txt n) (hN : 300 ≤ N) {o uC uR i c r w : Nat} {σ τ : Mem} (ho : o ≤ 6) (hC : CT b n txt σ) (hD : CD b σ i 0 c) (hR : RT n txt τ) (hd : RD τ i o r w) (hi : i ≤ n) (hc : c + uC ≤ i) (hr' : r + uR ≤ i) (hw : w ≤ i) (hbar : Bar 1 τ w) :
    (∃ (σ' τ' : Mem) (j c1 r1 : Nat) (V : Vf), f_X6_readSum N 100 0 (nI o) σ = some ((), σ') ∧ f_X10_readsSum N τ = some (1, τ') ∧ (i < j ∧ j ≤ n ∧ c1 + uC ≤ j ∧ r1 + uR ≤ j) ∧ (CF b c σ σ' ∧ CD b σ' j 0 c1 ∧ ∀ φ, CSeg (fun q => gi σ' (b + 5) q) φ c c1 (15 - 2 * o) (V φ)) ∧ (RF r w τ τ' ∧ RD τ' j o r1 w ∧ ∀ φ, RSeg (fun q => gi τ' 6 q) φ r r1 (V φ))) ∨
    (∃ (σ' τ' : Mem) (F : Int32), f_X6_readSum N 100 0 (nI o) σ = some ((), σ') ∧ f_X10_readsSum N τ = some (0, τ') ∧ CX b c σ σ' F ∧ RF r w τ τ' ∧ gi τ' 0 8 = F) := by
  have hn := hT.1
  have hih := sim_sum N w b n txt hb hT hN (6 - o) o 100 (by omega) (by omega) uC uR σ τ i c r w N hC hD hR hd hi hc hr' hw (Nat.le_refl w) (Or.inr hbar) (by omega)
  rw [readsSum_e N w τ hd.2.2.2]
  rcases hih with ⟨σ3, τ3, j3, c3, r3, w3, k3, B, e3, ⟨b1, b2, b3, b4, b5, b6⟩, ⟨fc3, dc3, sc3⟩, ⟨fr3, dr3, pr3⟩, ⟨st0, st1⟩, er3⟩ | ⟨σ3, τ3, F, k3, e3, x1, b1, fr3, x2, er3⟩
  · have hlt := pr3.lt
    have hop := ho_no N w hN dr3 (by omega) (by omega) pr3.marks
    obtain ⟨τ4, e4, d4, s4, f4⟩ := cl_all N (x := 1) (k := 2) (by omega) (Or.inr ⟨rfl, rfl⟩) dr3 pr3 (by omega) (by omega) (hbar.fr fr3 (by omega)) (by omega)
    refine Or.inl ⟨σ3, τ4, j3, c3, r3 + (w3 - w), B, e3, ?_, ⟨by omega, b2, b4, by omega⟩, ⟨fc3, dc3, sc3⟩, ⟨fr3.tr (f4.up (r := r) (w := w) (by omega) (by omega)) (by omega) (by omega), d4, s4⟩⟩
    have z : eF N w N ((N - k3 - 1 + 1) + k3) τ = aF N w (N - k3 - 1 + 1) τ3 := er3 (N - k3 - 1 + 1)
    rw [show N - k3 - 1 + 1 + k3 = N by omega] at z
    rw [z, af_end N w _ hT b2 (hR.fr fr3) dr3 (st0 (by omega)) (st1 (by omega)) (Or.inr hop)]
    unfold sK
    rw [hop, bd_some, if_pos rfl, show (1 : Int32) = nI 1 from rfl, e4, bd_some]
  · refine Or.inr ⟨σ3, τ3, F, e3, ?_, x1, fr3, x2⟩
    have z : eF N w N ((N - k3) + k3) τ = some (0, τ3) := er3 (N - k3)
    rw [show N - k3 + k3 = N by omega] at z
    exact z
