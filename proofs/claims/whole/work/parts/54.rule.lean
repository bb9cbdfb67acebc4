/-! a RULE, side by side -/
noncomputable def condC (N : Nat) (σ : Mem) : Option (Unit × Mem) := bd (f_X6_pass N 40 σ) (fun _ s19 => bd (f_X6_readCondition N 100 0 1 s19) (fun _ s21 => f_X6_pass N 41 s21))
theorem condF (N : Nat) {σ : Mem} {F : Int32} (hF : ¬ F = 0) (hd : gi σ 93 3 = F) : f_X6_readCondition N 100 0 1 σ = some ((), σ) := by
  show f1_X6_readCondition N (gr_X6_readCondition N 99).1 (gr_X6_readCondition N 99).2 0 1 σ = _
  unfold f1_X6_readCondition
  rw [if_neg (by rw [hd]; exact hF)]
theorem condC_F (N : Nat) {σ : Mem} {F : Int32} (hF : ¬ F = 0) (hd : gi σ 93 3 = F) : condC N σ = some ((), σ) := by
  unfold condC
  rw [e_passF N hF hd, bd_some, condF N hF hd, bd_some, e_passF N hF hd]
theorem s_cond (N b n : Nat) (txt : Nat → Nat) (hb : isLw b = true) (hT : Tx txt n) (hN : 300 ≤ N) {o i c r w : Nat} {σ τ : Mem} (hC : CT b n txt σ) (hD : CD b σ i 0 c) (hR : RT n txt τ) (hd : RD τ i o r w) (hi : i ≤ n) (hi0 : 1 ≤ i) (hc : c ≤ i) (hr' : r ≤ i) :
    (∃ (σ' τ' : Mem) (j c1 r1 : Nat) (V : Vf), condC N σ = some ((), σ') ∧ f_X10_readsCondition N τ = some (1, τ') ∧ (i < j ∧ j ≤ n ∧ c1 ≤ j ∧ r1 ≤ j) ∧ (CF b c σ σ' ∧ CD b σ' j 0 c1 ∧ ∀ φ, CSeg (fun q => gi σ' (b + 5) q) φ c c1 16 (V φ)) ∧ (RF r 0 τ τ' ∧ RD τ' j 0 r1 0 ∧ ∀ φ, RSeg (fun q => gi τ' 6 q) φ r r1 (V φ))) ∨
    (∃ (σ' τ' : Mem) (F : Int32), condC N σ = some ((), σ') ∧ f_X10_readsCondition N τ = some (0, τ') ∧ CX b c σ σ' F ∧ RF r 0 τ τ' ∧ gi τ' 0 8 = F) := by
  have hb' := isLw_or hb
  have hn := hT.1
  unfold condC f_X10_readsCondition
  rw [e_hereM N hn hi hR hd, bd_some]
  by_cases h40 : hr txt n i = 40
  · have hin := hr_pos (k := 40) (by decide) h40
    rw [show (40 : Int32) = nI 40 from rfl, e_passT N hn hi hC hD h40, bd_some, if_pos (show hr txt n i = nI 40 from h40)]
    simp only [lt_p]
    have hd0 : RD (si (si τ 0 10 0) 0 12 0) i 0 r 0 := by
      unfold RD
      obtain ⟨a, b, c, d⟩ := hd
      simp (disch := omega) only [gi_ne, gi_ni, gi_eq]
      exact ⟨a, rfl, c, rfl⟩
    have f0 : RF r 0 τ (si (si τ 0 10 0) 0 12 0) := (RF.f0 r 0 τ (by omega) _).tr (RF.f0 r 0 _ (by omega) _) (by omega) (by omega)
    rw [show (13 : Int32) = nI 13 from rfl, e_opens N 13 hd0 (by omega) (by omega), bd_some, if_neg (by decide)]
    have hd1 : RD (si (si (si τ 0 10 0) 0 12 0) 0 10 (nI (0 + 1))) i 1 r 0 := by
      unfold RD
      obtain ⟨a, b, c, d⟩ := hd0
      simp (disch := omega) only [gi_ne, gi_ni, gi_eq]
      exact ⟨hd.1, trivial, hd.2.2.1, rfl⟩
    have d2 := hd1.pshd (o := 13) (i' := i + 1)
    have f2 : RF r 0 τ (psh (si (si (si τ 0 10 0) 0 12 0) 0 10 (nI (0 + 1))) 0 13 (i + 1)) := (f0.tr (RF.f0 r 0 _ (by omega) _) (by omega) (by omega)).tr (RF.pshd (r := r) _) (by omega) (by omega)
    have hm : gi (psh (si (si (si τ 0 10 0) 0 12 0) 0 10 (nI (0 + 1))) 0 13 (i + 1)) 7 0 = nI (1048576 * 13 + 0) := by rw [mark_psh, if_pos rfl]
    generalize psh (si (si (si τ 0 10 0) 0 12 0) 0 10 (nI (0 + 1))) 0 13 (i + 1) = τ1 at d2 f2 hm
    have fs1 : CF b c σ (si σ 93 2 (nI (i + 1))) := CF.at' b c σ _
    have hC1 := hC.fr hb fs1
    have hD1 : CD b (si σ 93 2 (nI (i + 1))) (i + 1) 0 c := ⟨gi_eq _ _ _ _, by rw [gi_ni (by decide)]; exact hD.2.1, by rw [gi_ne (by omega)]; exact hD.2.2⟩
    have hbar1 : BarC 2 τ1 (0 + 1) := ⟨0, 13, 0, rfl, by omega, hm, by omega, by omega, fun z => by omega, fun z => by omega⟩
    have hsim := (sim_C N b n txt hb hT hN 5 1 (by omega) (by omega)).2 100 (by omega)
    have eX : ∀ s, itr (fun _ => none) (st_X10_readsCondition_40 N) N s = XT N N s := fun s => rfl
    rw [eX]
    rcases hsim 0 0 (si σ 93 2 (nI (i + 1))) τ1 (i + 1) c r (0 + 1) hC1 hD1 (hR.fr f2) d2 (by omega) (by omega) (by omega) (by omega) hbar1 with ⟨σ2, τ2, j, c1, r1, w1, kk, q, V, e1, ⟨b1, b2, b3, b4, b5, b6, b7⟩, ⟨fc, dc, sc, sB⟩, ⟨fr, dr, pr⟩, ⟨st1, st2⟩, ⟨_, er⟩⟩ | ⟨σ2, τ2, F, kk, e1, x1, b1, fr, x2, er⟩
    · have hC2 := hC1.fr hb fc
      have hR2 := (hR.fr f2).fr fr
      have hcl := (sc (fun _ => 0)).1.1
      have hlt := pr.lt
      have er := er (by omega)
      obtain ⟨q, rfl⟩ : ∃ q', q = q' + 1 := ⟨q - 1, by omega⟩
      have e1' : f_X6_readCondition N 100 0 1 (si σ 93 2 (nI (i + 1))) = some ((), σ2) := e1
      have ez : XT N N τ1 = AT N (N - kk) (q + 1) τ2 := by
        have z : XT N ((N - kk) + kk) τ1 = AT N (N - kk) (q + 1) τ2 := er (N - kk)
        rw [show N - kk + kk = N by omega] at z
        exact z
      rw [e1', bd_some, ez]
      have ff := f2.tr (fr.up (r := r) (w := 0) (by omega) (by omega)) (by omega) (by omega)
      by_cases h41 : hr txt n j = 41
      · have hjn := hr_pos (k := 41) (by decide) h41
        obtain ⟨τ3, e3, d3, s3, f3⟩ := ln_all N (x := 1) (k := 2) (Or.inr ⟨rfl, rfl⟩) dr pr (by omega) (by omega) (hbar1.fr fr (by omega)) (by omega)
        have ff3 := ff.tr (f3.up (r := r) (w := 0) (by omega) (by omega)) (by omega) (by omega)
        rw [show (41 : Int32) = nI 41 from rfl, e_passT N hn b2 hC2 dc h41, at_close N _ q hT b2 hR2 dr h41 e3 d3 (by omega), if_pos rfl]
        have d4 : RD (pop τ3 0 0 (j + 1)) (j + 1) 0 r1 0 := d3.popd
        refine Or.inl ⟨_, _, j + 1, c1, r1, V, rfl, rfl, ⟨by omega, by omega, by omega, by omega⟩, ⟨(fs1.tr fc (by omega)).tr (CF.at' b c _ _) (by omega), ⟨gi_eq _ _ _ _, by rw [gi_ni (by decide)]; exact dc.2.1, by rw [gi_ne (by omega)]; exact dc.2.2⟩, fun φ => ?_⟩, ⟨ff3.tr (RF.popd (r := r) (w0 := 0) τ3) (by omega) (by omega), d4, fun φ => ?_⟩⟩
        · refine ((sc φ).fr (fun q q1 q2 => ?_)).up (by omega)
          show gi (si σ2 93 2 _) (b + 5) q = _
          rw [gi_ne (by omega)]
        · exact (s3 φ).fr (fun q q1 q2 => row_pop τ3 0 0 (j + 1) q (by decide))
      · rw [show (41 : Int32) = nI 41 from rfl, e_passN N hn b2 hC2 dc h41, at_bad N _ q hT b2 hR2 dr h41 (st1 (by omega)) (st2 (by omega))]
        exact Or.inr ⟨_, _, flt 1 j, rfl, rfl, CX.mk' hb (fs1.tr fc (by omega)) dc hcl (by omega) (by omega) (by omega) (by omega), ff.tr (RF.f0 r 0 _ (by omega) _) (by omega) (by omega), gi_eq _ _ _ _⟩
    · have e1' : f_X6_readCondition N 100 0 1 (si σ 93 2 (nI (i + 1))) = some ((), σ2) := e1
      have ez : XT N N τ1 = some (0, τ2) := by
        have z : XT N ((N - kk) + kk) τ1 = some (0, τ2) := er (N - kk)
        rw [show N - kk + kk = N by omega] at z
        exact z
      rw [e1', bd_some, ez, e_passF N x1.ne x1.2.1]
      exact Or.inr ⟨_, _, F, rfl, rfl, CX.tr fs1 x1 (by omega), f2.tr (fr.up (r := r) (w := 0) (by omega) (by omega)) (by omega) (by omega), x2⟩
  · rw [show (40 : Int32) = nI 40 from rfl, e_passN N hn hi hC hD h40, bd_some, if_neg (show ¬ hr txt n i = nI 40 from h40), hd.1, show (1 : Int32) = nI 1 from rfl, e_wrongAt, bd_some, ckz_0]
    have hx : CX b c σ (si σ 93 3 (flt 1 i)) (flt 1 i) := CX.mk' hb (CF.rf _ _ _) hD (by omega) (by omega) (by omega) (by omega) (by omega)
    refine Or.inr ⟨_, _, flt 1 i, ?_, rfl, hx, RF.f0 r 0 _ (by omega) _, gi_eq _ _ _ _⟩
    have z := condF N hx.ne hx.2.1
    rw [show (nI 1 : Int32) = 1 from rfl, z, bd_some, e_passF N hx.ne hx.2.1]
/-- what a RULE is, in the class and in the reference -/
def RuleOk (code cd : Nat → Int32) (kind s t e s' t' e' : Nat) : Prop := (s ≤ t ∧ t ≤ e ∧ e ≤ 240 ∧ s' ≤ t' ∧ t' ≤ e' ∧ e' ≤ 240) ∧ (kind = 103 ∨ kind = 116 ∨ kind = 104 ∨ kind = 120) ∧ (¬ kind = 120 → ∃ V : Vf, (∀ φ, CSeg code φ s t 32 (V φ)) ∧ ∀ φ, RSeg cd φ s' t' (V φ)) ∧ ∃ V : Vf, (∀ φ, CSeg code φ t e 32 (V φ)) ∧ ∀ φ, RSeg cd φ t' e' (V φ)
def Rules (b x y m c r : Nat) (σ τ : Mem) : Prop := ∀ q, q < m → ∃ kind s t e s' t' e' : Nat, (gi σ (b + 1) q = nI kind ∧ gi σ (b + 2) q = nI s ∧ gi σ (b + 3) q = nI t ∧ gi σ (b + 4) q = nI e) ∧ (gi τ x q = nI kind ∧ gi τ (x + 1) q = nI s' ∧ gi τ (x + 2) q = nI t' ∧ gi τ (x + 3) q = nI e') ∧ (e ≤ c ∧ e' ≤ r) ∧ RuleOk (fun q => gi σ (b + 5) q) (fun q => gi τ y q) kind s t e s' t' e'
theorem RuleOk.fr {code cd code' cd' : Nat → Int32} {kind s t e s' t' e' : Nat} (h : RuleOk code cd kind s t e s' t' e') (h1 : ∀ q, q < e → code' q = code q) (h2 : ∀ q, q < e' → cd' q = cd q) : RuleOk code' cd' kind s t e s' t' e' := by
  obtain ⟨⟨a1, a2, a3, a4, a5, a6⟩, b, c, V, d1, d2⟩ := h
  refine ⟨⟨a1, a2, a3, a4, a5, a6⟩, b, fun z => ?_, V, fun φ => (d1 φ).fr (fun q _ q2 => h1 q q2), fun φ => (d2 φ).fr (fun q _ q2 => h2 q q2)⟩
  obtain ⟨V, c1, c2⟩ := c z
  exact ⟨V, fun φ => (c1 φ).fr (fun q _ q2 => h1 q (by omega)), fun φ => (c2 φ).fr (fun q _ q2 => h2 q (by omega))⟩
theorem Rules.fr {b x y x' y' m c r c' r' : Nat} {σ τ σ' τ' : Mem} (h : Rules b x y m c r σ τ) (h1 : ∀ k q, 1 ≤ k → k ≤ 4 → q < m → gi σ' (b + k) q = gi σ (b + k) q) (h2 : ∀ q, q < c → gi σ' (b + 5) q = gi σ (b + 5) q) (h3 : ∀ k q, k < 4 → q < m → gi τ' (x' + k) q = gi τ (x + k) q) (h4 : ∀ q, q < r → gi τ' y' q = gi τ y q) (hc : c ≤ c') (hr : r ≤ r') : Rules b x' y' m c' r' σ' τ' := by
  intro q hq
  obtain ⟨kind, s, t, e, s', t', e', ⟨a1, a2, a3, a4⟩, ⟨b1, b2, b3, b4⟩, ⟨c1, c2⟩, d⟩ := h q hq
  refine ⟨kind, s, t, e, s', t', e', ⟨?_, ?_, ?_, ?_⟩, ⟨?_, ?_, ?_, ?_⟩, ⟨by omega, by omega⟩, d.fr (fun z hz => h2 z (by omega)) (fun z hz => h4 z (by omega))⟩
  · rw [h1 1 q (by omega) (by omega) hq]; exact a1
  · rw [h1 2 q (by omega) (by omega) hq]; exact a2
  · rw [h1 3 q (by omega) (by omega) hq]; exact a3
  · rw [h1 4 q (by omega) (by omega) hq]; exact a4
  · exact (h3 0 q (by omega) hq).trans b1
  · exact (h3 1 q (by omega) hq).trans b2
  · exact (h3 2 q (by omega) hq).trans b3
  · exact (h3 3 q (by omega) hq).trans b4
/-- what a RULE's reading leaves alone -/
def CG (b : Nat) (σ σ' : Mem) : Prop := ∀ c' i', ¬ (c' = 93 ∧ (i' = 2 ∨ i' = 3)) → ¬ (b ≤ c' ∧ c' ≤ b + 5) → gi σ' c' i' = gi σ c' i'
theorem CF.g {b c : Nat} {σ σ' : Mem} (h : CF b c σ σ') : CG b σ σ' := fun c' i' a d => h c' i' a (by omega) (by omega)
theorem CG.tr {b : Nat} {σ σ1 σ2 : Mem} (h : CG b σ σ1) (h1 : CG b σ1 σ2) : CG b σ σ2 := fun c' i' a d => (h1 c' i' a d).trans (h c' i' a d)
theorem CG.w {b k q : Nat} {v : Int32} {σ : Mem} (hk : k ≤ 5) : CG b σ (si σ (b + k) q v) := fun c' i' a d => by rw [gi_ne (by omega)]
theorem CT.fg {b n : Nat} {txt : Nat → Nat} {σ σ' : Mem} (hb : isLw b = true) (h : CT b n txt σ) (f : CG b σ σ') : CT b n txt σ' := by
  have hb' := isLw_or hb
  obtain ⟨⟨a, d, e⟩, t⟩ := h
  refine ⟨⟨?_, ?_, ?_⟩, fun j hj => ?_⟩
  · rw [f _ _ (by omega) (by omega)]; exact a
  · rw [f _ _ (by omega) (by omega)]; exact d
  · rw [f _ _ (by omega) (by omega)]; exact e
  · rw [f _ _ (by omega) (by omega)]; exact t j hj
