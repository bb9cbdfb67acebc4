/-! a RULE, whole -/
theorem RT.w {n c i : Nat} {v : Int32} {txt : Nat → Nat} {τ : Mem} (h : RT n txt τ) (h1 : ¬ c = 5) (h2 : ¬ (c = 0 ∧ i = 7)) : RT n txt (si τ c i v) := by
  refine ⟨?_, fun j hj => ?_⟩
  · rw [gi_si, if_neg (fun z => h2 ⟨z.1.symm, z.2.symm⟩)]; exact h.1
  · rw [gi_ne (fun z => h1 z.symm)]; exact h.2 j hj
theorem RD.w {i o r w c k : Nat} {v : Int32} {τ : Mem} (h : RD τ i o r w) (h1 : ¬ (c = 0 ∧ (k = 6 ∨ k = 10 ∨ k = 11 ∨ k = 12))) : RD (si τ c k v) i o r w := by
  obtain ⟨a, b, d, e⟩ := h
  refine ⟨?_, ?_, ?_, ?_⟩
  · rw [gi_si, if_neg (by omega)]; exact a
  · rw [gi_si, if_neg (by omega)]; exact b
  · rw [gi_si, if_neg (by omega)]; exact d
  · rw [gi_si, if_neg (by omega)]; exact e
theorem CD.w {b i c q k : Nat} {F v : Int32} {σ : Mem} (h : CD b σ i F c) (h1 : ¬ (q = 93 ∧ (k = 2 ∨ k = 3))) (h2 : ¬ (q = b ∧ k = 6)) : CD b (si σ q k v) i F c := by
  obtain ⟨a, d, e⟩ := h
  refine ⟨?_, ?_, ?_⟩
  · rw [gi_si, if_neg (by omega)]; exact a
  · rw [gi_si, if_neg (by omega)]; exact d
  · rw [gi_si, if_neg (by omega)]; exact e
theorem bd_bd {α β γ : Type} (a : Option (α × Mem)) (f : α → Mem → Option (β × Mem)) (g : β → Mem → Option (γ × Mem)) : bd (bd a f) g = bd a (fun r s => bd (f r s) g) := by
  cases a with
  | none => rfl
  | some p => rfl
noncomputable def ruE (x1 : Int32) (s23 : Mem) : Option (Unit × Mem) := ckc (isLw (ix (gi s23 93 4))) (ckc (isLw (ix (gi s23 93 4))) (chk x1 16 (some ((), si s23 (ix (gi s23 93 4) + 4) (ix x1) (gi s23 (ix (gi s23 93 4)) 6)))))
noncomputable def ruC (N : Nat) (x1 : Int32) (s15 : Mem) : Option (Unit × Mem) := ckc (isLw (ix (gi s15 93 4))) (ckc (isLw (ix (gi s15 93 4))) (chk x1 16 (bd (f_X6_pass N 40 (si s15 (ix (gi s15 93 4) + 3) (ix x1) (gi s15 (ix (gi s15 93 4)) 6))) (fun _ s19 => bd (f_X6_readCondition N 100 0 1 s19) (fun _ s21 => bd (f_X6_pass N 41 s21) (fun _ s23 => ruE x1 s23))))))
theorem ruE_e {b ru : Nat} {s : Mem} (hb : isLw b = true) (h : gi s 93 4 = nI b) (hru : ru < 16) : ruE (nI ru) s = some ((), si s (b + 4) ru (gi s b 6)) := by
  unfold ruE
  rw [h, ix_b hb, hb, ckc_t, ckc_t, chk_n hru (by decide), ix_n (by omega)]
theorem ruC_e (N : Nat) {b ru : Nat} {s : Mem} (hb : isLw b = true) (h : gi s 93 4 = nI b) (hru : ru < 16) : ruC N (nI ru) s = bd (condC N (si s (b + 3) ru (gi s b 6))) (fun _ s23 => ruE (nI ru) s23) := by
  unfold ruC condC
  rw [h, ix_b hb, hb, ckc_t, ckc_t, chk_n hru (by decide), ix_n (by omega), bd_bd]
  simp only [bd_bd]
theorem rule_C (N : Nat) {b n ru i c k : Nat} {txt : Nat → Nat} {σ : Mem} (hb : isLw b = true) (hT : Tx txt n) (hN : 300 ≤ N) (hC : CT b n txt σ) (hD : CD b σ i 0 c) (hi : i ≤ n) (hs : isS 3 txt n i) (hk : txt i = k) (hru : ru < 16) : f_X6_readRule N (nI ru) σ = (if nI k = 120 then ruC N (nI ru) (si (si (si (si σ 93 2 (nI (i + 1))) b 0 (nI (ru + 1))) (b + 1) ru (nI k)) (b + 2) ru (nI c)) else bd (f_X6_readSum N 100 0 0 (si (si (si (si σ 93 2 (nI (i + 1))) b 0 (nI (ru + 1))) (b + 1) ru (nI k)) (b + 2) ru (nI c))) (fun _ s28 => ruC N (nI ru) s28)) := by
  have hb' := isLw_or hb
  have hn := hT.1
  have e4 : gi (si σ 93 2 (nI (i + 1))) 93 4 = nI b := by rw [gi_ni (by decide)]; exact hC.1.2.2
  have e5 : gi (si (si σ 93 2 (nI (i + 1))) b 0 (nI (ru + 1))) 93 4 = nI b := by rw [gi_ne (by omega)]; exact e4
  have e6 : gi (si (si (si σ 93 2 (nI (i + 1))) b 0 (nI (ru + 1))) (b + 1) ru (nI k)) 93 4 = nI b := by rw [gi_ne (by omega)]; exact e5
  have e7 : gi (si (si (si σ 93 2 (nI (i + 1))) b 0 (nI (ru + 1))) (b + 1) ru (nI k)) b 6 = nI c := by rw [gi_ne (by omega), gi_ni (by decide), gi_ne (by omega)]; exact hD.2.2
  unfold f_X6_readRule
  rw [e_hereC N hn hi hC hD, bd_some, if_pos hD.2.1, (e_isH N (by omega) (by decide) hT σ).1 hs, bd_some, if_neg (by decide), if_pos (show nI ru < 16 from nI_lt (b := 16) hru (by decide)), hr_in hs.1, hk, hD.1]
  unfold ruC ruE
  have hix : ix (nI ru) = ru := ix_n (by omega)
  simp only [lt_p, nI_1, e4, ix_b hb, hb, ckc_t, hix, e5, e6, e7]
  rw [chk_n hru (by decide), chk_n hru (by decide)]
noncomputable def ruM (N : Nat) (s9 : Mem) : Option (Int32 × Mem) := chk (gi s9 0 13) 16 (bd (f_X10_readsCondition N (si s9 10 (ix (gi s9 0 13)) (gi s9 0 11))) (fun r12 s11 => if r12 = 0 then (some (0, s11)) else chk (gi s11 0 13) 16 (some (1, si (si s11 11 (ix (gi s11 0 13)) (gi s11 0 11)) 0 13 (gi (si s11 11 (ix (gi s11 0 13)) (gi s11 0 11)) 0 13 + 1)))))
theorem rule_M (N : Nat) {n ru i o r w k : Nat} {txt : Nat → Nat} {τ : Mem} (hT : Tx txt n) (hR : RT n txt τ) (hd : RD τ i o r w) (h13 : gi τ 0 13 = nI ru) (hi : i < n) (hk : txt i = k) (hkk : k = 103 ∨ k = 116 ∨ k = 104 ∨ k = 120) (hru : ru < 16) : f_X10_readsRule N τ = (if nI k = 120 then ruM N (si (si (si (si (si τ 8 ru (nI k)) 0 6 (nI (i + 1))) 9 ru (nI r)) 0 10 0) 0 12 0) else bd (f_X10_readsSum N (si (si (si (si (si τ 8 ru (nI k)) 0 6 (nI (i + 1))) 9 ru (nI r)) 0 10 0) 0 12 0)) (fun r16 s15 => if r16 = 0 then (some (0, s15)) else ruM N s15)) := by
  have hn := hT.1
  have e1 : gi (si τ 8 ru (nI k)) 0 6 = nI i := by rw [gi_ne (by decide)]; exact hd.1
  have e2 : gi (si (si τ 8 ru (nI k)) 0 6 (nI (i + 1))) 0 13 = nI ru := by rw [gi_ni (by decide), gi_ne (by decide)]; exact h13
  have e3 : gi (si (si τ 8 ru (nI k)) 0 6 (nI (i + 1))) 0 11 = nI r := by rw [gi_ni (by decide), gi_ne (by decide)]; exact hd.2.2.1
  unfold f_X10_readsRule
  rw [e_hereM N hn (by omega) hR hd, bd_some, hr_in hi, hk]
  simp only [lt_p, h13]
  rw [if_neg (show ¬ nI ru = 16 from nI_nq (b := 16) (by omega) (by omega) (by omega)), chk_n hru (by decide), ix_n (by omega)]
  simp only [e1, nI_1, e2, e3]
  rw [chk_n hru (by decide), ix_n (by omega)]
  rcases hkk with rfl | rfl | rfl | rfl
  · rw [if_pos (show nI 103 = 103 from rfl)]; rfl
  · rw [if_neg (show ¬ nI 116 = 103 by decide), if_pos (show nI 116 = 116 from rfl)]; rfl
  · rw [if_neg (show ¬ nI 104 = 103 by decide), if_neg (show ¬ nI 104 = 116 by decide), if_pos (show nI 104 = 104 from rfl)]; rfl
  · rw [if_neg (show ¬ nI 120 = 103 by decide), if_neg (show ¬ nI 120 = 116 by decide), if_neg (show ¬ nI 120 = 104 by decide)]; rfl
theorem s_rule (N b n : Nat) (txt : Nat → Nat) (hb : isLw b = true) (hT : Tx txt n) (hN : 300 ≤ N) {ru i c r o w : Nat} {σ τ : Mem} (hru : ru ≤ 16) (hC : CT b n txt σ) (hD : CD b σ i 0 c) (hR : RT n txt τ) (hd : RD τ i o r w) (h13 : gi τ 0 13 = nI ru) (hi : i ≤ n) (hc : c ≤ i) (hr' : r ≤ i) (hrl : Rules b 8 6 ru c r σ τ) :
    (∃ (σ' τ' : Mem) (j c1 r1 o' w' : Nat), f_X6_readRule N (nI ru) σ = some ((), σ') ∧ f_X10_readsRule N τ = some (1, τ') ∧ (ru < 16 ∧ i < j ∧ j ≤ n ∧ c1 ≤ j ∧ r1 ≤ j) ∧ (CG b σ σ' ∧ CD b σ' j 0 c1 ∧ gi σ' b 0 = nI (ru + 1)) ∧ (RT n txt τ' ∧ RD τ' j o' r1 w' ∧ gi τ' 0 13 = nI (ru + 1)) ∧ Rules b 8 6 (ru + 1) c1 r1 σ' τ') ∨
    (∃ (σ' τ' : Mem) (F : Int32), f_X6_readRule N (nI ru) σ = some ((), σ') ∧ f_X10_readsRule N τ = some (0, τ') ∧ CG b σ σ' ∧ gi σ' 93 3 = F ∧ F < 0 ∧ gi τ' 0 8 = F) := by
  have hb' := isLw_or hb
  have hn := hT.1
  by_cases hs : isS 3 txt n i
  · have hin := hs.1
    have hkk := (inS_3 (hT.2 i hin)).mp hs.2
    by_cases hr16 : ru < 16
    · rw [rule_C N hb hT hN hC hD hi hs rfl hr16, rule_M N hT hR hd h13 hin rfl hkk hr16]
      generalize hke : txt i = k at hkk
      have g1 : CG b σ (si (si (si (si σ 93 2 (nI (i + 1))) b 0 (nI (ru + 1))) (b + 1) ru (nI k)) (b + 2) ru (nI c)) := (((CF.at' b c σ _).g.tr (CG.w (k := 0) (by omega))).tr (CG.w (by omega))).tr (CG.w (by omega))
      have D1 : CD b (si (si (si (si σ 93 2 (nI (i + 1))) b 0 (nI (ru + 1))) (b + 1) ru (nI k)) (b + 2) ru (nI c)) (i + 1) 0 c := by
        refine CD.w (CD.w (CD.w ?_ (by omega) (by omega)) (by omega) (by omega)) (by omega) (by omega)
        exact ⟨gi_eq _ _ _ _, by rw [gi_ni (by decide)]; exact hD.2.1, by rw [gi_ne (by omega)]; exact hD.2.2⟩
      have w1 : ∀ q, q < ru → ∀ k', 1 ≤ k' → k' ≤ 4 → gi (si (si (si (si σ 93 2 (nI (i + 1))) b 0 (nI (ru + 1))) (b + 1) ru (nI k)) (b + 2) ru (nI c)) (b + k') q = gi σ (b + k') q := by
        intro q hq k' hk1 hk2
        rw [gi_ni (by omega), gi_ni (by omega), gi_ne (by omega), gi_ne (by omega)]
      have w2 : ∀ q, gi (si (si (si (si σ 93 2 (nI (i + 1))) b 0 (nI (ru + 1))) (b + 1) ru (nI k)) (b + 2) ru (nI c)) (b + 5) q = gi σ (b + 5) q := by
        intro q
        rw [gi_ne (by omega), gi_ne (by omega), gi_ne (by omega), gi_ne (by omega)]
      have w3 : gi (si (si (si (si σ 93 2 (nI (i + 1))) b 0 (nI (ru + 1))) (b + 1) ru (nI k)) (b + 2) ru (nI c)) b 0 = nI (ru + 1) ∧ gi (si (si (si (si σ 93 2 (nI (i + 1))) b 0 (nI (ru + 1))) (b + 1) ru (nI k)) (b + 2) ru (nI c)) (b + 1) ru = nI k ∧ gi (si (si (si (si σ 93 2 (nI (i + 1))) b 0 (nI (ru + 1))) (b + 1) ru (nI k)) (b + 2) ru (nI c)) (b + 2) ru = nI c := by
        refine ⟨?_, ?_, gi_eq _ _ _ _⟩
        · rw [gi_ne (by omega), gi_ne (by omega), gi_eq]
        · rw [gi_ne (by omega), gi_eq]
      generalize si (si (si (si σ 93 2 (nI (i + 1))) b 0 (nI (ru + 1))) (b + 1) ru (nI k)) (b + 2) ru (nI c) = σ1 at g1 D1 w1 w2 w3 ⊢
      have R1 : RT n txt (si (si (si (si (si τ 8 ru (nI k)) 0 6 (nI (i + 1))) 9 ru (nI r)) 0 10 0) 0 12 0) := ((((hR.w (by omega) (by omega)).w (by omega) (by omega)).w (by omega) (by omega)).w (by omega) (by omega)).w (by omega) (by omega)
      have d1 : RD (si (si (si (si (si τ 8 ru (nI k)) 0 6 (nI (i + 1))) 9 ru (nI r)) 0 10 0) 0 12 0) (i + 1) 0 r 0 := by
        unfold RD
        simp (disch := omega) only [gi_ne, gi_ni, gi_eq]
        exact ⟨trivial, rfl, hd.2.2.1, rfl⟩
      have v1 : ∀ q, q < ru → ∀ k', k' < 4 → gi (si (si (si (si (si τ 8 ru (nI k)) 0 6 (nI (i + 1))) 9 ru (nI r)) 0 10 0) 0 12 0) (8 + k') q = gi τ (8 + k') q := by
        intro q hq k' hk1
        rw [gi_ne (by omega), gi_ne (by omega), gi_ni (by omega), gi_ne (by omega), gi_ni (by omega)]
      have v2 : ∀ q, gi (si (si (si (si (si τ 8 ru (nI k)) 0 6 (nI (i + 1))) 9 ru (nI r)) 0 10 0) 0 12 0) 6 q = gi τ 6 q := by
        intro q
        rw [gi_ne (by omega), gi_ne (by omega), gi_ne (by omega), gi_ne (by omega), gi_ne (by omega)]
      have v3 : gi (si (si (si (si (si τ 8 ru (nI k)) 0 6 (nI (i + 1))) 9 ru (nI r)) 0 10 0) 0 12 0) 0 13 = nI ru ∧ gi (si (si (si (si (si τ 8 ru (nI k)) 0 6 (nI (i + 1))) 9 ru (nI r)) 0 10 0) 0 12 0) 8 ru = nI k ∧ gi (si (si (si (si (si τ 8 ru (nI k)) 0 6 (nI (i + 1))) 9 ru (nI r)) 0 10 0) 0 12 0) 9 ru = nI r := by
        simp (disch := omega) only [gi_ne, gi_ni, gi_eq]
        exact ⟨h13, trivial, trivial⟩
      generalize si (si (si (si (si τ 8 ru (nI k)) 0 6 (nI (i + 1))) 9 ru (nI r)) 0 10 0) 0 12 0 = τ1 at R1 d1 v1 v2 v3 ⊢
      have C1 := hC.fg hb g1
      -- the E
      have hE : (∃ (σ2 τ2 : Mem) (j2 c2 r2 : Nat), ((if nI k = 120 then ruC N (nI ru) σ1 else bd (f_X6_readSum N 100 0 0 σ1) (fun _ s28 => ruC N (nI ru) s28)) = ruC N (nI ru) σ2) ∧ ((if nI k = 120 then ruM N τ1 else bd (f_X10_readsSum N τ1) (fun r16 s15 => if r16 = 0 then (some (0, s15)) else ruM N s15)) = ruM N τ2) ∧ (i < j2 ∧ j2 ≤ n ∧ c2 ≤ j2 ∧ r2 ≤ j2 ∧ c ≤ c2 ∧ r ≤ r2) ∧ (CF b c σ1 σ2 ∧ CD b σ2 j2 0 c2) ∧ (RF r 0 τ1 τ2 ∧ RD τ2 j2 0 r2 0) ∧ (¬ k = 120 → ∃ V : Vf, (∀ φ, CSeg (fun q => gi σ2 (b + 5) q) φ c c2 15 (V φ)) ∧ ∀ φ, RSeg (fun q => gi τ2 6 q) φ r r2 (V φ))) ∨ (∃ (σ2 τ2 : Mem) (F : Int32), ((if nI k = 120 then ruC N (nI ru) σ1 else bd (f_X6_readSum N 100 0 0 σ1) (fun _ s28 => ruC N (nI ru) s28)) = ruC N (nI ru) σ2) ∧ ((if nI k = 120 then ruM N τ1 else bd (f_X10_readsSum N τ1) (fun r16 s15 => if r16 = 0 then (some (0, s15)) else ruM N s15)) = some (0, τ2)) ∧ CX b c σ1 σ2 F ∧ gi τ2 0 8 = F) := by
        by_cases hk : k = 120
        · have hk' : nI k = 120 := by rw [hk]; rfl
          rw [if_pos hk', if_pos hk']
          exact Or.inl ⟨σ1, τ1, i + 1, c, r, rfl, rfl, ⟨by omega, by omega, by omega, by omega, by omega, by omega⟩, ⟨CF.rf _ _ _, D1⟩, ⟨RF.rf _ _ _, d1⟩, fun z => absurd hk z⟩
        · have hk' : ¬ nI k = 120 := nI_nq (b := 120) hk (by omega) (by omega)
          rw [if_neg hk', if_neg hk']
          rcases s_sum N b n txt hb hT hN (o := 0) (uC := 0) (uR := 0) (by omega) C1 D1 R1 d1 (by omega) (by omega) (by omega) (by omega) (Or.inl rfl) with ⟨σ2, τ2, j, c2, r2, V, e1, e2, ⟨b1, b2, b3, b4⟩, ⟨fc, dc, sc⟩, ⟨fr, dr, sr⟩⟩ | ⟨σ2, τ2, F, e1, e2, x1, fr, x2⟩
          · have hcl := (sc (fun _ => 0)).1.1
            have hrl' := (sr (fun _ => 0)).1
            have e1' : f_X6_readSum N 100 0 0 σ1 = some ((), σ2) := e1
            rw [e1', bd_some, e2, bd_some, if_neg (by decide)]
            exact Or.inl ⟨σ2, τ2, j, c2, r2, rfl, rfl, ⟨by omega, b2, by omega, by omega, by omega, by omega⟩, ⟨fc, dc⟩, ⟨fr, dr⟩, fun _ => ⟨V, sc, sr⟩⟩
          · have e1' : f_X6_readSum N 100 0 0 σ1 = some ((), σ2) := e1
            rw [e1', bd_some, e2, bd_some, if_pos rfl]
            exact Or.inr ⟨σ2, τ2, F, rfl, rfl, x1, x2⟩
      rcases hE with ⟨σ2, τ2, j2, c2, r2, e1, e2, ⟨b1, b2, b3, b4, b5, b6⟩, ⟨fc, D2⟩, ⟨fr, d2⟩, hV⟩ | ⟨σ2, τ2, F, e1, e2, x1, x2⟩
      · have C2 := C1.fr hb fc
        have R2 := R1.fr fr
        have z13 : gi τ2 0 13 = nI ru := by rw [fr _ _ (by omega) (by omega) (by omega)]; exact v3.1
        rw [e1, e2, ruC_e N hb C2.1.2.2 hr16, D2.2.2]
        unfold ruM
        rw [z13, d2.2.2.1, chk_n hr16 (by decide), ix_n (by omega)]
        have D3 : CD b (si σ2 (b + 3) ru (nI c2)) j2 0 c2 := D2.w (by omega) (by omega)
        have C3 : CT b n txt (si σ2 (b + 3) ru (nI c2)) := C2.fg hb (CG.w (by omega))
        have R3 : RT n txt (si τ2 10 ru (nI r2)) := R2.w (by omega) (by omega)
        have d3 : RD (si τ2 10 ru (nI r2)) j2 0 r2 0 := d2.w (by omega)
        rcases s_cond N b n txt hb hT hN C3 D3 R3 d3 b2 (by omega) b3 b4 with ⟨σ4, τ4, j4, c4, r4, W, y1, y2, ⟨y3, y4, y5, y6⟩, ⟨fc4, D4, sc4⟩, ⟨fr4, d4, sr4⟩⟩ | ⟨σ4, τ4, F, y1, y2, x1, fr4, x2⟩
        · have C4 := C3.fr hb fc4
          have R4 := R3.fr fr4
          have hcl4 := (sc4 (fun _ => 0)).1.1
          have hrl4 := (sr4 (fun _ => 0)).1
          have u13 : gi τ4 0 13 = nI ru := by rw [fr4 _ _ (by omega) (by omega) (by omega), gi_ne (by omega)]; exact z13
          rw [y1, y2, bd_some, bd_some, ruE_e hb C4.1.2.2 hr16, D4.2.2, if_neg (by decide), u13, d4.2.2.1, chk_n hr16 (by decide), ix_n (by omega), gi_ne (by decide), u13, nI_1]
          have D5 : CD b (si σ4 (b + 4) ru (nI c4)) j4 0 c4 := D4.w (by omega) (by omega)
          have R5 : RT n txt (si (si τ4 11 ru (nI r4)) 0 13 (nI (ru + 1))) := (R4.w (by omega) (by omega)).w (by omega) (by omega)
          have d5 : RD (si (si τ4 11 ru (nI r4)) 0 13 (nI (ru + 1))) j4 0 r4 0 := (d4.w (by omega)).w (by omega)
          have G5 : CG b σ (si σ4 (b + 4) ru (nI c4)) := (((g1.tr fc.g).tr (CG.w (by omega))).tr fc4.g).tr (CG.w (by omega))
          -- the class's rows
          have p1 : ∀ q k', 1 ≤ k' → k' ≤ 4 → gi (si σ4 (b + 4) ru (nI c4)) (b + k') q = if k' = 4 ∧ q = ru then nI c4 else if k' = 3 ∧ q = ru then nI c2 else gi σ1 (b + k') q := by
            intro q k' q1 q2
            rw [gi_si]
            by_cases z : k' = 4 ∧ q = ru
            · rw [if_pos (by omega), if_pos z]
            · rw [if_neg (by omega), if_neg z, fc4 _ _ (by omega) (by omega) (by omega), gi_si]
              by_cases z2 : k' = 3 ∧ q = ru
              · rw [if_pos (by omega), if_pos z2]
              · rw [if_neg (by omega), if_neg z2, fc _ _ (by omega) (by omega) (by omega)]
          have p2 : ∀ q, q < c2 → gi (si σ4 (b + 4) ru (nI c4)) (b + 5) q = gi σ2 (b + 5) q := by
            intro q hq
            rw [gi_ne (by omega), fc4 _ _ (by omega) (by omega) (by omega), gi_ne (by omega)]
          have p3 : gi (si σ4 (b + 4) ru (nI c4)) b 0 = nI (ru + 1) := by
            rw [gi_ne (by omega), fc4 _ _ (by omega) (by omega) (by omega), gi_ne (by omega), fc _ _ (by omega) (by omega) (by omega)]
            exact w3.1
          -- the reference's
          have m1 : ∀ q k', k' < 4 → gi (si (si τ4 11 ru (nI r4)) 0 13 (nI (ru + 1))) (8 + k') q = if k' = 3 ∧ q = ru then nI r4 else if k' = 2 ∧ q = ru then nI r2 else gi τ1 (8 + k') q := by
            intro q k' q1
            rw [gi_ne (by omega), gi_si]
            by_cases z : k' = 3 ∧ q = ru
            · rw [if_pos (by omega), if_pos z]
            · rw [if_neg (by omega), if_neg z, fr4 _ _ (by omega) (by omega) (by omega), gi_si]
              by_cases z2 : k' = 2 ∧ q = ru
              · rw [if_pos (by omega), if_pos z2]
              · rw [if_neg (by omega), if_neg z2, fr _ _ (by omega) (by omega) (by omega)]
          have m2 : ∀ q, q < r2 → gi (si (si τ4 11 ru (nI r4)) 0 13 (nI (ru + 1))) 6 q = gi τ2 6 q := by
            intro q hq
            rw [gi_ne (by omega), gi_ne (by omega), fr4 _ _ (by omega) (by omega) (by omega), gi_ne (by omega)]
          refine Or.inl ⟨_, _, j4, c4, r4, 0, 0, rfl, rfl, ⟨hr16, by omega, y4, y5, y6⟩, ⟨G5, D5, p3⟩, ⟨R5, d5, gi_eq _ _ _ _⟩, ?_⟩
          intro q hq
          by_cases hqr : q = ru
          · subst hqr
            refine ⟨k, c, c2, c4, r, r2, r4, ⟨?_, ?_, ?_, ?_⟩, ⟨?_, ?_, ?_, ?_⟩, ⟨by omega, by omega⟩, ⟨by omega, by omega, by omega, by omega, by omega, by omega⟩, hkk, fun hk => ?_, W, fun φ => ?_, fun φ => ?_⟩
            · rw [p1 q 1 (by omega) (by omega), if_neg (by omega), if_neg (by omega)]; exact w3.2.1
            · rw [p1 q 2 (by omega) (by omega), if_neg (by omega), if_neg (by omega)]; exact w3.2.2
            · rw [p1 q 3 (by omega) (by omega), if_neg (by omega), if_pos (by omega)]
            · rw [p1 q 4 (by omega) (by omega), if_pos (by omega)]
            · have := m1 q 0 (by omega); rw [if_neg (by omega), if_neg (by omega)] at this; exact this.trans v3.2.1
            · have := m1 q 1 (by omega); rw [if_neg (by omega), if_neg (by omega)] at this; exact this.trans v3.2.2
            · have := m1 q 2 (by omega); rw [if_neg (by omega), if_pos (by omega)] at this; exact this
            · have := m1 q 3 (by omega); rw [if_pos (by omega)] at this; exact this
            · obtain ⟨V, s1, s2⟩ := hV hk
              exact ⟨V, fun φ => ((s1 φ).fr (fun z _ z2 => p2 z z2)).up (by omega), fun φ => (s2 φ).fr (fun z _ z2 => m2 z z2)⟩
            · refine ((sc4 φ).fr (fun z _ _ => ?_)).up (by omega)
              show gi (si σ4 (b + 4) q _) (b + 5) z = _
              rw [gi_ne (by omega)]
            · refine (sr4 φ).fr (fun z _ _ => ?_)
              show gi (si (si τ4 11 q _) 0 13 _) 6 z = _
              rw [gi_ne (by omega), gi_ne (by omega)]
          · have hq' : q < ru := by omega
            have h0 := hrl.fr (c' := c4) (r' := r4) (x' := 8) (y' := 6) (σ' := si σ4 (b + 4) ru (nI c4)) (τ' := si (si τ4 11 ru (nI r4)) 0 13 (nI (ru + 1))) (fun k' q q1 q2 q3 => by rw [p1 q k' q1 q2, if_neg (by omega), if_neg (by omega)]; exact w1 q q3 k' q1 q2) (fun q q1 => by rw [p2 q (by omega), fc _ _ (by omega) (by omega) (by omega)]; exact w2 q) (fun k' q q1 q3 => by rw [m1 q k' q1, if_neg (by omega), if_neg (by omega)]; exact v1 q q3 k' q1) (fun q q1 => by rw [m2 q (by omega), fr _ _ (by omega) (by omega) (by omega)]; exact v2 q) (by omega) (by omega)
            exact h0 q hq'
        · have C4 := C3.fr hb x1.1
          rw [y1, y2, bd_some, bd_some, ruE_e hb C4.1.2.2 hr16, if_pos rfl]
          refine Or.inr ⟨_, _, F, rfl, rfl, (((g1.tr fc.g).tr (CG.w (by omega))).tr x1.1.g).tr (CG.w (by omega)), ?_, x1.2.2.1, x2⟩
          rw [gi_ne (by omega)]; exact x1.2.1
      · have C2 := C1.fr hb x1.1
        rw [e1, e2, ruC_e N hb C2.1.2.2 hr16]
        have f3 : gi (si σ2 (b + 3) ru (gi σ2 b 6)) 93 3 = F := by rw [gi_ne (by omega)]; exact x1.2.1
        have C3 : CT b n txt (si σ2 (b + 3) ru (gi σ2 b 6)) := C2.fg hb (CG.w (by omega))
        rw [condC_F N x1.ne f3, bd_some, ruE_e hb C3.1.2.2 hr16]
        refine Or.inr ⟨_, _, F, rfl, rfl, ((g1.tr x1.1.g).tr (CG.w (by omega))).tr (CG.w (by omega)), ?_, x1.2.2.1, x2⟩
        rw [gi_ne (by omega)]; exact f3
    · obtain rfl : ru = 16 := by omega
      refine Or.inr ⟨si σ 93 3 (flt 4 i), si τ 0 8 (flt 4 i), flt 4 i, ?_, ?_, (CF.ft b c σ _).g, gi_eq _ _ _ _, flt_neg (by omega) (by omega) (by omega), gi_eq _ _ _ _⟩
      · unfold f_X6_readRule
        rw [e_hereC N hn hi hC hD, bd_some, if_pos hD.2.1, (e_isH N (by omega) (by decide) hT σ).1 hs, bd_some, if_neg (by decide), if_neg (show ¬ nI 16 < 16 by decide), show (4 : Int32) = nI 4 from rfl, e_failC N 4 hD, bd_some]
      · unfold f_X10_readsRule
        rw [e_hereM N hn hi hR hd, bd_some, hr_in hin]
        simp only [lt_p, h13]
        rw [if_pos (show nI 16 = 16 from rfl), hd.1, show (4 : Int32) = nI 4 from rfl, e_wrongAt, bd_some, ckz_0]
        rcases hkk with e | e | e | e <;> rw [e]
        · rw [if_pos (show nI 103 = 103 from rfl)]
        · rw [if_neg (show ¬ nI 116 = 103 by decide), if_pos (show nI 116 = 116 from rfl)]
        · rw [if_neg (show ¬ nI 104 = 103 by decide), if_neg (show ¬ nI 104 = 116 by decide), if_pos (show nI 104 = 104 from rfl)]
        · rw [if_neg (show ¬ nI 120 = 103 by decide), if_neg (show ¬ nI 120 = 116 by decide), if_neg (show ¬ nI 120 = 104 by decide), if_pos (show nI 120 = 120 from rfl)]
  · have k2 : ∀ z, (z = 103 ∨ z = 116 ∨ z = 104 ∨ z = 120) → ¬ hr txt n i = nI z := fun z hz => hr_nq hT (by omega) (fun q => hs ⟨q.1, (inS_3 (hT.2 i q.1)).mpr (by rw [q.2]; exact hz)⟩)
    refine Or.inr ⟨si σ 93 3 (flt 1 i), si τ 0 8 (flt 1 i), flt 1 i, ?_, ?_, (CF.ft b c σ _).g, gi_eq _ _ _ _, flt_neg (by omega) (by omega) (by omega), gi_eq _ _ _ _⟩
    · unfold f_X6_readRule
      rw [e_hereC N hn hi hC hD, bd_some, if_pos hD.2.1, (e_isH N (by omega) (by decide) hT σ).2 hs, bd_some, if_pos rfl, show (1 : Int32) = nI 1 from rfl, e_failC N 1 hD, bd_some]
    · unfold f_X10_readsRule
      rw [e_hereM N hn hi hR hd, bd_some]
      simp only [lt_p]
      rw [if_neg (show ¬ hr txt n i = 103 from k2 103 (by omega)), if_neg (show ¬ hr txt n i = 116 from k2 116 (by omega)), if_neg (show ¬ hr txt n i = 104 from k2 104 (by omega)), if_neg (show ¬ hr txt n i = 120 from k2 120 (by omega)), hd.1, show (1 : Int32) = nI 1 from rfl, e_wrongAt, bd_some, ckz_0]
