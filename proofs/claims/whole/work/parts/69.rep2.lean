/-! report: LINES, side by side -/
noncomputable def lnC (N : Nat) (x5 x3 x4 : Int32) (σ : Mem) : Option (Unit × Mem) := bd (f_X7_readLetter N x5 x3 σ) (fun _ s5 => bd (f_X7_readParish N x5 x4 s5) (fun _ s7 => f_X7_readSaid N x5 s7))
theorem parF (N : Nat) {x1 x2 F : Int32} {σ : Mem} (hF : ¬ F = 0) (hd : gi σ 95 7 = F) : f_X7_readParish N x1 x2 σ = some ((), σ) := by
  unfold f_X7_readParish
  rw [if_neg (by rw [hd]; exact hF)]
theorem saiF (N : Nat) {x1 F : Int32} {σ : Mem} (hF : ¬ F = 0) (hd : gi σ 95 7 = F) : f_X7_readSaid N x1 σ = some ((), σ) := by
  unfold f_X7_readSaid
  rw [if_neg (by rw [hd]; exact hF)]
/-- a LINE's data -/
def LnC (σ : Mem) (ln k p g v : Nat) : Prop := gi σ 96 ln = nI k ∧ gi σ 97 ln = nI p ∧ gi σ 98 ln = nI g ∧ gi σ 99 ln = nI v
def LnM (τ : Mem) (ln k p g v : Nat) : Prop := gi τ 19 ln = nI k ∧ gi τ 20 ln = nI p ∧ gi τ 21 ln = nI g ∧ gi τ 22 ln = nI v
def LnD (told : Int32) (k p g v : Nat) : Prop := k < 6 ∧ p < 12 ∧ (g = 58 ∨ g = 43 ∨ g = 33) ∧ v ≤ 9999 ∧ bt told k = true
theorem s_line (N n i ln : Nat) (txt : Nat → Nat) (hN : 300 ≤ N) (hT : Tx txt n) {σ τ : Mem} (hln : ln ≤ 20) (hi : i ≤ n) (hC : ZT n txt σ) (hD : ZD σ i 0) (hR : RT n txt τ) (hd : gi τ 0 6 = nI i) (h32 : gi τ 0 32 = nI ln) :
    (∃ (σ' τ' : Mem) (j k p g v : Nat), lnC N (nI ln) (gi τ 1 146) (gi τ 1 145) σ = some ((), σ') ∧ f_X10_readsLine N τ = some (1, τ') ∧ (ln < 20 ∧ i < j ∧ j ≤ n) ∧ (ZF ln σ σ' ∧ ZD σ' j 0) ∧ (YF ln τ τ' ∧ gi τ' 0 32 = nI (ln + 1) ∧ gi τ' 0 6 = nI j) ∧ LnC σ' ln k p g v ∧ LnM τ' ln k p g v ∧ LnD (gi τ 1 146) k p g v) ∨
    (∃ (σ' τ' : Mem) (F : Int32), lnC N (nI ln) (gi τ 1 146) (gi τ 1 145) σ = some ((), σ') ∧ f_X10_readsLine N τ = some (0, τ') ∧ ZF ln σ σ' ∧ gi σ' 95 7 = F ∧ F < 0 ∧ YF ln τ τ' ∧ gi τ' 0 8 = F) := by
  have hn := hT.1
  have hnf : ∀ {x : Int32}, x < 0 → ¬ x = 0 := fun h z => by rw [z] at h; exact absurd h (by decide)
  have failc : ∀ (x i' : Nat) (σ1 τ1 : Mem), 1 ≤ x → x ≤ 7 → i' ≤ 240 → ZF ln σ σ1 → YF ln τ τ1 → ZF ln σ (si σ1 95 7 (flt x i')) ∧ gi (si σ1 95 7 (flt x i')) 95 7 = flt x i' ∧ flt x i' < 0 ∧ YF ln τ (si τ1 0 8 (flt x i')) ∧ gi (si τ1 0 8 (flt x i')) 0 8 = flt x i' := fun x i' σ1 τ1 a b c d e => ⟨d.tr (ZF.w ln σ1 (by omega)), gi_eq _ _ _ _, flt_neg a b c, e.tr (YF.w ln τ1 (by omega)), gi_eq _ _ _ _⟩
  unfold lnC f_X7_readLetter f_X10_readsLine
  rw [e_hereZ N hn hi hC hD, e_hereP N hn hi hR hd, bd_some, bd_some]
  simp only [lt_p, e_isLetterC, e_in, bd_some, ite10, h32, e_isLetterM, e_hasBit]
  by_cases h1 : inR (hr txt n i - 65) 0 5
  · obtain ⟨k, -, hk', ek⟩ := inR_n (a := 0) (b := 5) rfl rfl (by decide) (by decide) h1
    have hin : i < n := by
      by_cases z : i < n
      · exact z
      · rw [hr_out z] at h1; exact absurd h1.1 (by decide)
    rw [if_pos h1, if_pos h1]
    by_cases hl20 : ln < 20
    · rw [if_pos (show nI ln < 20 from nI_lt (b := 20) hl20 (by decide)), if_neg (show ¬ nI ln = 20 from nI_nq (b := 20) (by omega) (by omega) (by omega))]
      by_cases h2 : hb (gi τ 1 146) (hr txt n i - 65)
      · rw [if_pos h2, if_pos ⟨h1, h2⟩, chk_n hl20 (by decide), bd_some, ix_n (show ln < 2 ^ 31 by omega), ek]
        rw [ek] at h2
        have hbk := (hb_iff (gi τ 1 146) (show k < 32 by omega)).mp h2
        -- the parish
        have e6 : gi (si σ 96 ln (nI k)) 95 6 + 1 = nI (i + 1) := by rw [gi_ne (by decide), hD.1, nI_1]
        have f1 : ZF ln σ (si (si σ 96 ln (nI k)) 95 6 (nI (i + 1))) := (ZF.w ln σ (by omega)).tr (ZF.w ln _ (by omega))
        have D1 : ZD (si (si σ 96 ln (nI k)) 95 6 (nI (i + 1))) (i + 1) 0 := ⟨gi_eq _ _ _ _, by rw [gi_ni (by decide), gi_ne (by decide)]; exact hD.2⟩
        have g1 : YF ln τ (si τ 0 6 (nI (i + 1))) := YF.w ln τ (by omega)
        have R1 := hR.y g1
        have C1 := hC.fr f1
        have r96 : gi (si (si σ 96 ln (nI k)) 95 6 (nI (i + 1))) 96 ln = nI k := by rw [gi_ne (by decide), gi_eq]
        have e32 : gi (si τ 0 6 (nI (i + 1))) 0 32 = nI ln := by rw [gi_ni (by decide)]; exact h32
        have e145 : gi (si τ 0 6 (nI (i + 1))) 1 145 = gi τ 1 145 := gi_ne (by decide)
        rw [e6, hd, nI_1]
        have ed1 : gi (si τ 0 6 (nI (i + 1))) 0 6 = nI (i + 1) := gi_eq _ _ _ _
        generalize si (si σ 96 ln (nI k)) 95 6 (nI (i + 1)) = σ1 at f1 D1 C1 r96 ⊢
        generalize si τ 0 6 (nI (i + 1)) = τ1 at g1 R1 e32 e145 ed1 ⊢
        have hp : f_X7_readParish N (nI ln) (gi τ 1 145) σ1 = if inR (hr txt n (i + 1) - 97) 0 11 then (if hb (gi τ 1 145) (hr txt n (i + 1) - 97) then some ((), si (si σ1 97 ln (hr txt n (i + 1) - 97)) 95 6 (nI (i + 1 + 1))) else some ((), si σ1 95 7 (flt 7 (i + 1)))) else some ((), si σ1 95 7 (flt 1 (i + 1))) := by
          unfold f_X7_readParish
          rw [if_pos D1.2, if_pos (show nI ln < 20 from nI_lt (b := 20) hl20 (by decide)), e_hereZ N hn (by omega) C1 D1, bd_some]
          simp only [lt_p, e_within, e_hasBit, bd_some, ite10]
          have z1 : f_X7_fail N 1 σ1 = _ := e_failZ N 1 D1
          have z7 : f_X7_fail N 7 σ1 = _ := e_failZ N 7 D1
          have z6 : ∀ v, gi (si σ1 97 ln v) 95 6 + 1 = nI (i + 1 + 1) := fun v => by rw [gi_ne (by decide), D1.1, nI_1]
          rw [z1, z7, bd_some, bd_some, chk_n hl20 (by decide), ix_n (show ln < 2 ^ 31 by omega), z6]
        rw [hp, e_hereP N hn (by omega) R1 ed1, bd_some]
        simp only [e_isParish, bd_some, ite10, e145]
        by_cases h3 : inR (hr txt n (i + 1) - 97) 0 11
        · obtain ⟨p, -, hp', ep⟩ := inR_n (a := 0) (b := 11) rfl rfl (by decide) (by decide) h3
          have hin1 : i + 1 < n := by
            by_cases z : i + 1 < n
            · exact z
            · rw [hr_out z] at h3; exact absurd h3.1 (by decide)
          rw [if_pos h3, if_pos h3]
          by_cases h4 : hb (gi τ 1 145) (hr txt n (i + 1) - 97)
          · rw [if_pos h4, if_pos ⟨h3, h4⟩, bd_some, ep, ed1, nI_1]
            -- the sign
            have f2 : ZF ln σ (si (si σ1 97 ln (nI p)) 95 6 (nI (i + 1 + 1))) := (f1.tr (ZF.w ln σ1 (by omega))).tr (ZF.w ln _ (by omega))
            have D2 : ZD (si (si σ1 97 ln (nI p)) 95 6 (nI (i + 1 + 1))) (i + 1 + 1) 0 := ⟨gi_eq _ _ _ _, by rw [gi_ni (by decide), gi_ne (by decide)]; exact D1.2⟩
            have g2 : YF ln τ (si τ1 0 6 (nI (i + 1 + 1))) := g1.tr (YF.w ln τ1 (by omega))
            have R2 := hR.y g2
            have C2 := hC.fr f2
            have r96' : gi (si (si σ1 97 ln (nI p)) 95 6 (nI (i + 1 + 1))) 96 ln = nI k := by rw [gi_ne (by decide), gi_ne (by decide)]; exact r96
            have r97 : gi (si (si σ1 97 ln (nI p)) 95 6 (nI (i + 1 + 1))) 97 ln = nI p := by rw [gi_ne (by decide), gi_eq]
            have e32' : gi (si τ1 0 6 (nI (i + 1 + 1))) 0 32 = nI ln := by rw [gi_ni (by decide)]; exact e32
            have ed2 : gi (si τ1 0 6 (nI (i + 1 + 1))) 0 6 = nI (i + 1 + 1) := gi_eq _ _ _ _
            generalize si (si σ1 97 ln (nI p)) 95 6 (nI (i + 1 + 1)) = σ2 at f2 D2 C2 r96' r97 ⊢
            generalize si τ1 0 6 (nI (i + 1 + 1)) = τ2 at g2 R2 e32' ed2 ⊢
            rw [e_hereP N hn (by omega) R2 ed2, bd_some]
            by_cases h5 : hr txt n (i + 1 + 1) = 58 ∨ hr txt n (i + 1 + 1) = 43 ∨ hr txt n (i + 1 + 1) = 33
            · obtain ⟨g, hg, eg⟩ : ∃ g, (g = 58 ∨ g = 43 ∨ g = 33) ∧ hr txt n (i + 1 + 1) = nI g := by
                rcases h5 with z | z | z
                · exact ⟨58, Or.inl rfl, z⟩
                · exact ⟨43, Or.inr (Or.inl rfl), z⟩
                · exact ⟨33, Or.inr (Or.inr rfl), z⟩
              have hin2 := hr_pos (k := g) (by omega) eg
              -- the states behind the sign
              have f3 : ZF ln σ (si (si σ2 95 6 (nI (i + 1 + 1 + 1))) 98 ln (nI g)) := (f2.tr (ZF.w ln σ2 (by omega))).tr (ZF.w ln _ (by omega))
              have D3 : ZD (si (si σ2 95 6 (nI (i + 1 + 1 + 1))) 98 ln (nI g)) (i + 1 + 1 + 1) 0 := ⟨by rw [gi_ne (by decide), gi_eq], by rw [gi_ne (by decide), gi_ni (by decide)]; exact D2.2⟩
              have s96 : gi (si (si σ2 95 6 (nI (i + 1 + 1 + 1))) 98 ln (nI g)) 96 ln = nI k := by rw [gi_ne (by decide), gi_ne (by decide)]; exact r96'
              have s97 : gi (si (si σ2 95 6 (nI (i + 1 + 1 + 1))) 98 ln (nI g)) 97 ln = nI p := by rw [gi_ne (by decide), gi_ne (by decide)]; exact r97
              have s98 : gi (si (si σ2 95 6 (nI (i + 1 + 1 + 1))) 98 ln (nI g)) 98 ln = nI g := gi_eq _ _ _ _
              have eS : f_X7_readSaid N (nI ln) σ2 = if nI g = 33 then some ((), si (si (si σ2 95 6 (nI (i + 1 + 1 + 1))) 98 ln (nI g)) 99 ln 0) else bd (f_X7_readNumber N (si (si σ2 95 6 (nI (i + 1 + 1 + 1))) 98 ln (nI g))) (fun r7 s6 => some ((), si s6 99 ln r7)) := by
                unfold f_X7_readSaid
                rw [if_pos D2.2, if_pos (show nI ln < 20 from nI_lt (b := 20) hl20 (by decide)), e_hereZ N hn (by omega) C2 D2, bd_some, eg]
                have hix : ix (nI ln) = ln := ix_n (by omega)
                have hck : ∀ {α : Type} (e : Option α), chk (nI ln) 20 e = e := fun e => chk_n hl20 (by decide)
                simp only [lt_p, hix, hck]
                rw [D2.1, nI_1]
                rcases hg with rfl | rfl | rfl
                · rw [if_pos (show nI 58 = 58 from rfl)]
                · rw [if_neg (show ¬ nI 43 = 58 by decide), if_pos (show nI 43 = 43 from rfl)]
                · rw [if_neg (show ¬ nI 33 = 58 by decide), if_neg (show ¬ nI 33 = 43 by decide), if_pos (show nI 33 = 33 from rfl)]
              have g3 : YF ln τ (si (si τ2 0 6 (nI (i + 1 + 1 + 1))) 0 9 0) := (g2.tr (YF.w ln τ2 (by omega))).tr (YF.w ln _ (by omega))
              have e32b : gi (si (si τ2 0 6 (nI (i + 1 + 1 + 1))) 0 9 0) 0 32 = nI ln := by rw [gi_ni (by decide), gi_ni (by decide)]; exact e32'
              have ed3 : gi (si (si τ2 0 6 (nI (i + 1 + 1 + 1))) 0 9 0) 0 6 = nI (i + 1 + 1 + 1) := by rw [gi_ni (by decide), gi_eq]
              have ed9 : gi (si (si τ2 0 6 (nI (i + 1 + 1 + 1))) 0 9 0) 0 9 = nI 0 := gi_eq _ _ _ _
              -- the reference's rest of a line
              have eR : ∀ (τ4 : Mem) (v : Nat), gi τ4 0 32 = nI ln → gi τ4 0 9 = nI v → chk (gi τ4 0 32) 20 (chk (gi (si τ4 19 (ix (gi τ4 0 32)) (nI k)) 0 32) 20 (chk (gi (si (si τ4 19 (ix (gi τ4 0 32)) (nI k)) 20 (ix (gi (si τ4 19 (ix (gi τ4 0 32)) (nI k)) 0 32)) (nI p)) 0 32) 20 (chk (gi (si (si (si τ4 19 (ix (gi τ4 0 32)) (nI k)) 20 (ix (gi (si τ4 19 (ix (gi τ4 0 32)) (nI k)) 0 32)) (nI p)) 21 (ix (gi (si (si τ4 19 (ix (gi τ4 0 32)) (nI k)) 20 (ix (gi (si τ4 19 (ix (gi τ4 0 32)) (nI k)) 0 32)) (nI p)) 0 32)) (nI g)) 0 32) 20 (some ((1 : Int32), si (si (si (si (si τ4 19 (ix (gi τ4 0 32)) (nI k)) 20 (ix (gi (si τ4 19 (ix (gi τ4 0 32)) (nI k)) 0 32)) (nI p)) 21 (ix (gi (si (si τ4 19 (ix (gi τ4 0 32)) (nI k)) 20 (ix (gi (si τ4 19 (ix (gi τ4 0 32)) (nI k)) 0 32)) (nI p)) 0 32)) (nI g)) 22 (ix (gi (si (si (si τ4 19 (ix (gi τ4 0 32)) (nI k)) 20 (ix (gi (si τ4 19 (ix (gi τ4 0 32)) (nI k)) 0 32)) (nI p)) 21 (ix (gi (si (si τ4 19 (ix (gi τ4 0 32)) (nI k)) 20 (ix (gi (si τ4 19 (ix (gi τ4 0 32)) (nI k)) 0 32)) (nI p)) 0 32)) (nI g)) 0 32)) (gi (si (si (si τ4 19 (ix (gi τ4 0 32)) (nI k)) 20 (ix (gi (si τ4 19 (ix (gi τ4 0 32)) (nI k)) 0 32)) (nI p)) 21 (ix (gi (si (si τ4 19 (ix (gi τ4 0 32)) (nI k)) 20 (ix (gi (si τ4 19 (ix (gi τ4 0 32)) (nI k)) 0 32)) (nI p)) 0 32)) (nI g)) 0 9)) 0 32 (gi (si (si (si (si τ4 19 (ix (gi τ4 0 32)) (nI k)) 20 (ix (gi (si τ4 19 (ix (gi τ4 0 32)) (nI k)) 0 32)) (nI p)) 21 (ix (gi (si (si τ4 19 (ix (gi τ4 0 32)) (nI k)) 20 (ix (gi (si τ4 19 (ix (gi τ4 0 32)) (nI k)) 0 32)) (nI p)) 0 32)) (nI g)) 22 (ix (gi (si (si (si τ4 19 (ix (gi τ4 0 32)) (nI k)) 20 (ix (gi (si τ4 19 (ix (gi τ4 0 32)) (nI k)) 0 32)) (nI p)) 21 (ix (gi (si (si τ4 19 (ix (gi τ4 0 32)) (nI k)) 20 (ix (gi (si τ4 19 (ix (gi τ4 0 32)) (nI k)) 0 32)) (nI p)) 0 32)) (nI g)) 0 32)) (gi (si (si (si τ4 19 (ix (gi τ4 0 32)) (nI k)) 20 (ix (gi (si τ4 19 (ix (gi τ4 0 32)) (nI k)) 0 32)) (nI p)) 21 (ix (gi (si (si τ4 19 (ix (gi τ4 0 32)) (nI k)) 20 (ix (gi (si τ4 19 (ix (gi τ4 0 32)) (nI k)) 0 32)) (nI p)) 0 32)) (nI g)) 0 9)) 0 32 + 1)))))) = some (1, si (si (si (si (si τ4 19 ln (nI k)) 20 ln (nI p)) 21 ln (nI g)) 22 ln (nI v)) 0 32 (nI (ln + 1))) := by
                intro τ4 v q1 q2
                have hix : ix (nI ln) = ln := ix_n (by omega)
                have hck : ∀ {α : Type} (e : Option α), chk (nI ln) 20 e = e := fun e => chk_n hl20 (by decide)
                simp (disch := decide) only [gi_ne, q1, hix, hck, q2, nI_1]
              have hLD : ∀ v, v ≤ 9999 → LnD (gi τ 1 146) k p g v := fun v hv => ⟨by omega, by omega, hg, hv, hbk⟩
              have okend : ∀ (σ4 τ4 : Mem) (j v : Nat), i < j → j ≤ n → v ≤ 9999 → ZF ln σ σ4 → ZD σ4 j 0 → YF ln τ τ4 → gi τ4 0 6 = nI j → gi τ4 0 32 = nI ln → gi σ4 96 ln = nI k → gi σ4 97 ln = nI p → gi σ4 98 ln = nI g → (ln < 20 ∧ i < j ∧ j ≤ n) ∧ (ZF ln σ (si σ4 99 ln (nI v)) ∧ ZD (si σ4 99 ln (nI v)) j 0) ∧ (YF ln τ (si (si (si (si (si τ4 19 ln (nI k)) 20 ln (nI p)) 21 ln (nI g)) 22 ln (nI v)) 0 32 (nI (ln + 1))) ∧ gi (si (si (si (si (si τ4 19 ln (nI k)) 20 ln (nI p)) 21 ln (nI g)) 22 ln (nI v)) 0 32 (nI (ln + 1))) 0 32 = nI (ln + 1) ∧ gi (si (si (si (si (si τ4 19 ln (nI k)) 20 ln (nI p)) 21 ln (nI g)) 22 ln (nI v)) 0 32 (nI (ln + 1))) 0 6 = nI j) ∧ LnC (si σ4 99 ln (nI v)) ln k p g v ∧ LnM (si (si (si (si (si τ4 19 ln (nI k)) 20 ln (nI p)) 21 ln (nI g)) 22 ln (nI v)) 0 32 (nI (ln + 1))) ln k p g v ∧ LnD (gi τ 1 146) k p g v := by
                intro σ4 τ4 j v a1 a2 a3 a4 a5 a6 a7 a8 a9 a10 a11
                refine ⟨⟨hl20, a1, a2⟩, ⟨a4.tr (ZF.w ln σ4 (by omega)), by rw [gi_ne (by decide)]; exact a5.1, by rw [gi_ne (by decide)]; exact a5.2⟩, ⟨((((a6.tr (YF.w ln _ (by omega))).tr (YF.w ln _ (by omega))).tr (YF.w ln _ (by omega))).tr (YF.w ln _ (by omega))).tr (YF.w ln _ (by omega)), gi_eq _ _ _ _, ?_⟩, ⟨?_, ?_, ?_, gi_eq _ _ _ _⟩, ⟨?_, ?_, ?_, ?_⟩, hLD v a3⟩
                · rw [gi_ni (by decide), gi_ne (by decide), gi_ne (by decide), gi_ne (by decide), gi_ne (by decide)]; exact a7
                · rw [gi_ne (by decide)]; exact a9
                · rw [gi_ne (by decide)]; exact a10
                · rw [gi_ne (by decide)]; exact a11
                · simp (disch := decide) only [gi_ne, gi_eq]
                · simp (disch := decide) only [gi_ne, gi_eq]
                · simp (disch := decide) only [gi_ne, gi_eq]
                · simp (disch := decide) only [gi_ne, gi_eq]
              -- the reference at the sign
              rw [eS, eg]
              have h1' : gi τ2 0 6 + 1 = nI (i + 1 + 1 + 1) := by rw [ed2, nI_1]
              rw [h1']
              have D3' := D3
              by_cases hg33 : g = 33
              · have z33 : nI g = 33 := by rw [hg33]; rfl
                have z58 : ¬ nI g = 58 := by rw [hg33]; decide
                have z43 : ¬ nI g = 43 := by rw [hg33]; decide
                rw [if_pos z33, if_neg z58, if_neg z43, if_pos z33, if_pos z33, eR _ 0 e32b ed9]
                exact Or.inl ⟨_, _, i + 1 + 1 + 1, k, p, g, 0, rfl, rfl, okend _ _ (i + 1 + 1 + 1) 0 (by omega) (by omega) (by omega) f3 D3 g3 ed3 e32b s96 s97 s98⟩
              · have z33 : ¬ nI g = 33 := nI_nq (b := 33) hg33 (by omega) (by omega)
                rcases s_amt N n (i + 1 + 1 + 1) ln txt hN hT (by omega) (hC.fr f3) D3 (hR.y g3) ed3 with ⟨σ4, τ4, j, v, y1, y2, ⟨y3, y4, y5⟩, ⟨y6, y7⟩, ⟨y8, y9, y10, y11⟩⟩ | ⟨σ4, τ4, F, z, y1, y2, y3, y4, y5, y6, y7⟩
                · have y6' : ∀ c i', ¬ c = 95 → gi σ4 c i' = gi (si (si σ2 95 6 (nI (i + 1 + 1 + 1))) 98 ln (nI g)) c i' := fun c i' hc => (fr_X7_readNumber N _ _ _ y1 c i' (fun z => by unfold W_X7_readNumber W_X7_here W_X7_fail W_X9_isDigit at z; simp only [false_or] at z; omega)).1
                  have hfin := okend σ4 τ4 j v (by omega) y4 y5 (f3.tr y6) y7 (g3.tr y8) y10 (y9.trans e32b) (by rw [y6' 96 ln (by omega)]; exact s96) (by rw [y6' 97 ln (by omega)]; exact s97) (by rw [y6' 98 ln (by omega)]; exact s98)
                  rw [if_neg z33, y1, bd_some, y2, bd_some, if_neg (show ¬ (1 : Int32) = 0 by decide), if_neg z33, eR τ4 v (y9.trans e32b) y11]
                  rcases hg with rfl | rfl | rfl
                  · rw [if_pos (show nI 58 = 58 from rfl)]
                    exact Or.inl ⟨_, _, j, k, p, 58, v, rfl, rfl, hfin⟩
                  · rw [if_neg (show ¬ nI 43 = 58 by decide), if_pos (show nI 43 = 43 from rfl)]
                    exact Or.inl ⟨_, _, j, k, p, 43, v, rfl, rfl, hfin⟩
                  · exact absurd rfl hg33
                · rw [if_neg z33, y1, bd_some, y2, bd_some, if_pos rfl, if_neg z33]
                  have e7 : gi (si σ4 99 ln z) 95 7 = F := by rw [gi_ne (by decide)]; exact y4
                  rcases hg with rfl | rfl | rfl
                  · rw [if_pos (show nI 58 = 58 from rfl)]
                    exact Or.inr ⟨_, _, F, rfl, rfl, (f3.tr y3).tr (ZF.w ln _ (by omega)), e7, y5, g3.tr y6, y7⟩
                  · rw [if_neg (show ¬ nI 43 = 58 by decide), if_pos (show nI 43 = 43 from rfl)]
                    exact Or.inr ⟨_, _, F, rfl, rfl, (f3.tr y3).tr (ZF.w ln _ (by omega)), e7, y5, g3.tr y6, y7⟩
                  · exact absurd rfl hg33
            · have n58 : ¬ hr txt n (i + 1 + 1) = 58 := fun z => h5 (Or.inl z)
              have n43 : ¬ hr txt n (i + 1 + 1) = 43 := fun z => h5 (Or.inr (Or.inl z))
              have n33 : ¬ hr txt n (i + 1 + 1) = 33 := fun z => h5 (Or.inr (Or.inr z))
              have eS : f_X7_readSaid N (nI ln) σ2 = some ((), si σ2 95 7 (flt 1 (i + 1 + 1))) := by
                unfold f_X7_readSaid
                rw [if_pos D2.2, if_pos (show nI ln < 20 from nI_lt (b := 20) hl20 (by decide)), e_hereZ N hn (by omega) C2 D2, bd_some]
                simp only [lt_p]
                rw [if_neg n58, if_neg n43, if_neg n33, show (1 : Int32) = nI 1 from rfl, e_failZ N 1 D2, bd_some]
              rw [eS, if_neg n58, if_neg n43, if_neg n33, ed2, show (1 : Int32) = nI 1 from rfl, e_wrongAt, bd_some, ckz_0]
              exact Or.inr ⟨_, _, _, rfl, rfl, failc 1 (i + 1 + 1) σ2 τ2 (by omega) (by omega) (by omega) f2 g2⟩
          · have hF : ¬ flt 7 (i + 1) = 0 := flt_ne (by omega) (by omega) (by omega)
            rw [if_neg h4, if_neg (fun z => h4 z.2), bd_some, saiF N hF (gi_eq _ _ _ _), ed1, show (7 : Int32) = nI 7 from rfl, e_wrongAt, bd_some, ckz_0]
            exact Or.inr ⟨_, _, _, rfl, rfl, failc 7 (i + 1) σ1 τ1 (by omega) (by omega) (by omega) f1 g1⟩
        · have hF : ¬ flt 1 (i + 1) = 0 := flt_ne (by omega) (by omega) (by omega)
          rw [if_neg h3, if_neg h3, bd_some, saiF N hF (gi_eq _ _ _ _), ed1, show (1 : Int32) = nI 1 from rfl, e_wrongAt, bd_some, ckz_0]
          exact Or.inr ⟨_, _, _, rfl, rfl, failc 1 (i + 1) σ1 τ1 (by omega) (by omega) (by omega) f1 g1⟩
      · have hF : ¬ flt 7 i = 0 := flt_ne (by omega) (by omega) (by omega)
        rw [if_neg h2, if_neg (fun z => h2 z.2), show (7 : Int32) = nI 7 from rfl, e_failZ N 7 hD, bd_some, bd_some, parF N hF (gi_eq _ _ _ _), bd_some, saiF N hF (gi_eq _ _ _ _), hd, e_wrongAt, bd_some, ckz_0]
        exact Or.inr ⟨_, _, _, rfl, rfl, failc 7 i σ τ (by omega) (by omega) (by omega) (ZF.rf _ _) (YF.rf _ _)⟩
    · obtain rfl : ln = 20 := by omega
      have hF : ¬ flt 4 i = 0 := flt_ne (by omega) (by omega) (by omega)
      rw [if_neg (show ¬ nI 20 < 20 by decide), if_pos (show nI 20 = 20 from rfl), show (4 : Int32) = nI 4 from rfl, e_failZ N 4 hD, bd_some, bd_some, parF N hF (gi_eq _ _ _ _), bd_some, saiF N hF (gi_eq _ _ _ _), hd, e_wrongAt, bd_some, ckz_0]
      exact Or.inr ⟨_, _, _, rfl, rfl, failc 4 i σ τ (by omega) (by omega) (by omega) (ZF.rf _ _) (YF.rf _ _)⟩
  · have hF : ¬ flt 1 i = 0 := flt_ne (by omega) (by omega) (by omega)
    rw [if_neg h1, if_neg h1, show (1 : Int32) = nI 1 from rfl, e_failZ N 1 hD, bd_some, bd_some, parF N hF (gi_eq _ _ _ _), bd_some, saiF N hF (gi_eq _ _ _ _), hd, e_wrongAt, bd_some, ckz_0]
    exact Or.inr ⟨_, _, _, rfl, rfl, failc 1 i σ τ (by omega) (by omega) (by omega) (ZF.rf _ _) (YF.rf _ _)⟩
