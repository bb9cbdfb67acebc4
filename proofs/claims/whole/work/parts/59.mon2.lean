/-! months: a letter goes on by roads -/
theorem e_tiredS (N : Nat) (hN : 10 ≤ N) {b : Nat} {σ0 σ : Mem} {α : Nat → Int32} (h : Rb b σ0 α) {p : Nat} (hp : p < 12) (e : ∀ j, j < 3 → gi σ (b + 14) j = gi σ0 (b + 14) j) : f_X0_tired N b (nI p) σ = some (α (90 + 3 * p) + α (90 + 3 * p + 1) + α (90 + 3 * p + 2), σ) := by
  unfold f_X0_tired
  rw [← nI_0, e_tb N hN b _ (by decide), bd_some, if_neg (by decide), if_neg (by decide), if_neg (by decide)]
  have r : ∀ j, j < 3 → rbit σ b p j = rbit σ0 b p j := fun j hj => by
    unfold rbit
    rw [e j hj]
  show some (rbit σ b p 0 + rbit σ b p 1 + rbit σ b p 2, σ) = _
  rw [r 0 (by decide), r 1 (by decide), r 2 (by decide), h.rb1 hp (by decide), h.rb1 hp (by decide), h.rb1 hp (by decide)]
  rfl
theorem e_tellOn (N : Nat) (hN : 300 ≤ N) {b lw k p mo l : Nat} {d w r : Int32} {LV : LVt} {LX : LXt} {σ τ : Mem} (hL : Lw lw LV LX σ τ) (hbk : b = 32 ∨ b = 62) (hp : p < 12) (hl : l ≤ 99999) (hw : gi σ (b + 1) p = w) (hr : f_X0_tired N b (nI p) σ = some (r, σ)) (hmo : gi σ b 11 = nI mo) : ∃ σ', f_X0_tellOn N b (nI k) (nI p) (nI l) d lw σ = some (nI (min 99999 (l + LV 116 999 (fc (nI p) w r (nI k) (nI l) d (nI mo - nI mo / 12 * 12)))), σ') ∧ KC lw σ σ' := by
  have hlw := isLw_or hL.1
  unfold f_X0_tellOn
  rw [chk_n hp (by decide), hr, bd_some, ix_n (by omega), hw]
  obtain ⟨σ1, e1, k1, f1⟩ := e_askOf N lw (nI p) w r (nI k) σ
  obtain ⟨σ2, e2, k2, f2, f3⟩ := e_askBy N lw (nI l) d (nI mo) f1
  have k12 := k1.tr k2
  obtain ⟨σ3, e3, e4⟩ := (hL.k k12 (KM.rf τ)).num N hN (kind := 116) (most := 999) (Or.inr (Or.inl rfl)) (by decide) f3
  have e3' : f_X4_number N lw 116 999 σ2 = _ := e3
  have hle := hL.2.2.2 116 999 (fc (nI p) w r (nI k) (nI l) d (nI mo - nI mo / 12 * 12)) (by decide)
  rw [e1, bd_some, k1 _ _ (by omega), hmo, e2, bd_some, e3', bd_some, nI_add, li_99999, e_iminN _ _ (by decide) (by omega)]
  exact ⟨σ3, rfl, k12.tr (KC.of e4)⟩
/-- α with the month that is asked of -/
def Am (τ : Mem) (mo : Nat) : Nat → Int32 := va_up (Al τ 1) 147 (nI mo)
theorem Am_ne {τ : Mem} {mo i : Nat} (h : ¬ i = 147) : Am τ mo i = gi τ 1 i := up_ne h
/-- p may hear of letter k -/
def Hc (LX : LXt) (mo k : Nat) (τ : Mem) (p : Nat) : Prop := bt (gi τ 1 145) p = true ∧ gi τ 1 (12 + 12 * k + p) = -1 ∧ ∃ q, q < 12 ∧ hrs LX k p (nI mo - nI mo / 12 * 12) τ q
def Gp (LX : LXt) (mo b lw k p : Nat) (src : Int32) (σ0 τ0 σ τ : Mem) : Prop :=
  (∀ c i, ¬ c = lw + 7 → ¬ c = b + 8 + k → ¬ (c = b + 5 ∧ i = k) → gi σ c i = gi σ0 c i) ∧
  (∀ c i, ¬ c = 17 → ¬ c = 18 → ¬ c = 23 → gi τ c i = gi τ0 c i) ∧
  (∀ q, q < p → (gi τ 23 q = -1 ∧ bt (gi σ (b + 5) k) q = bt src q ∧ gi σ (b + 8 + k) q = gi σ0 (b + 8 + k) q ∧ ¬ Hc LX mo k τ0 q) ∨ (∃ t, t ≤ 99999 ∧ gi τ 23 q = nI t ∧ bt src q = false ∧ bt (gi σ (b + 5) k) q = true ∧ gi σ (b + 8 + k) q = nI t ∧ Hc LX mo k τ0 q)) ∧
  (∀ q, p ≤ q → q < 12 → bt (gi σ (b + 5) k) q = bt src q ∧ gi σ (b + 8 + k) q = gi σ0 (b + 8 + k) q) ∧
  ∀ i, 12 ≤ i → i < 32 → bt (gi σ (b + 5) k) i = false
theorem Gp.tale {LX : LXt} {mo b lw k p : Nat} {src : Int32} {σ0 τ0 σ τ : Mem} (h : Gp LX mo b lw k p src σ0 τ0 σ τ) {q : Nat} (hq : q < 12) (hs : bt src q = true) : gi σ (b + 8 + k) q = gi σ0 (b + 8 + k) q := by
  rcases Nat.lt_or_ge q p with z | z
  · rcases h.2.2.1 q z with ⟨_, _, e, _⟩ | ⟨_, _, _, e, _⟩
    · exact e
    · rw [e] at hs; cases hs
  · exact (h.2.2.2.1 q z hq).2
theorem lp_go (N : Nat) (hN : 300 ≤ N) {b lw k mo : Nat} {LV : LVt} {LX : LXt} {σ0 τ0 : Mem} (hbk : b = 32 ∨ b = 62) (hk : k < 6) (hL : Lw lw LV LX σ0 τ0) (hp : Rp σ0 τ0) (hB : Rb b σ0 (Am τ0 mo)) (hi : Inv (Al τ0 1)) (K : Int32 → Mem → Option (Int32 × Mem)) : ∀ (u p M1 M2 : Nat) (σ τ : Mem) (x3 : Int32), p + u = 12 → u < M1 → u < M2 → (x3 = 0 ∨ x3 = 1) → Gp LX mo b lw k p (gi σ0 (b + 5) k) σ0 τ0 σ τ → ∃ σ' τ' z, itr (fun _ _ => none) (st_X0_spread_11 N b (nI k) lw (gi σ0 (b + 5) k)) M1 (nI p) σ = some ((), σ') ∧ itr (fun _ _ _ => none) (st_X10_goesOn_5 N (nI k) (nI mo) K) M2 x3 (nI p) τ = K z τ' ∧ (z = 0 ∨ z = 1) ∧ Gp LX mo b lw k 12 (gi σ0 (b + 5) k) σ0 τ0 σ' τ'
  | u, p, 0, _, σ, τ, x3, _, h2, _, _, _ => absurd h2 (by omega)
  | u, p, M1 + 1, 0, σ, τ, x3, _, _, h3, _, _ => absurd h3 (by omega)
  | 0, p, M1 + 1, M2 + 1, σ, τ, x3, h1, _, _, hx3, hG => by
    obtain rfl : p = 12 := by omega
    refine ⟨σ, τ, x3, ?_, ?_, hx3, hG⟩
    · show st_X0_spread_11 N b (nI k) lw _ _ (nI 12) σ = _
      unfold st_X0_spread_11
      rw [if_pos (by decide)]
    · show st_X10_goesOn_5 N (nI k) (nI mo) K _ x3 (nI 12) τ = _
      unfold st_X10_goesOn_5
      rw [if_pos (by decide)]
  | u + 1, p, M1 + 1, M2 + 1, σ, τ, x3, h1, h2, h3, hx3, hG => by
    have hlw := isLw_or hL.1
    obtain ⟨g1, g2, g3, g4, g5⟩ := id hG
    have hp12 : p < 12 := by omega
    have hx : ix (nI p) = p := ix_n (by omega)
    have hxk : ix (nI k) = k := ix_n (by omega)
    have e3 : gi σ 3 0 = gi τ0 1 145 := by rw [g1 _ _ (by omega) (by omega) (by omega)]; exact hp.1
    have hin : inR (nI p) 0 11 := inR_of (a := 0) (b := 11) (Nat.zero_le _) (by omega) (by decide)
    -- the next place, where nothing is heard
    have step0 : ¬ Hc LX mo k τ0 p → ∀ τ2, KM (si τ 23 p (-1)) τ2 → Gp LX mo b lw k (p + 1) (gi σ0 (b + 5) k) σ0 τ0 σ τ2 := by
      intro hnc τ2 km
      refine ⟨g1, fun c i z1 z2 z3 => by rw [km c i z1 z2, gi_ne z3]; exact g2 c i z1 z2 z3, fun q hq => ?_, fun q q1 q2 => g4 q (by omega) q2, g5⟩
      by_cases e : q = p
      · subst e
        exact Or.inl ⟨by rw [km _ _ (by decide) (by decide), gi_eq], (g4 q (Nat.le_refl _) hp12).1, (g4 q (Nat.le_refl _) hp12).2, hnc⟩
      · rw [km _ _ (by decide) (by decide), gi_ni e]
        exact g3 q (by omega)
    have skip : ∀ σ2 τ2 x3', (x3' = 0 ∨ x3' = 1) → Gp LX mo b lw k (p + 1) (gi σ0 (b + 5) k) σ0 τ0 σ2 τ2 → itr (fun _ _ => none) (st_X0_spread_11 N b (nI k) lw (gi σ0 (b + 5) k)) (M1 + 1) (nI p) σ = itr (fun _ _ => none) (st_X0_spread_11 N b (nI k) lw (gi σ0 (b + 5) k)) M1 (nI (p + 1)) σ2 → itr (fun _ _ _ => none) (st_X10_goesOn_5 N (nI k) (nI mo) K) (M2 + 1) x3 (nI p) τ = itr (fun _ _ _ => none) (st_X10_goesOn_5 N (nI k) (nI mo) K) M2 x3' (nI (p + 1)) τ2 → ∃ σ' τ' z, itr (fun _ _ => none) (st_X0_spread_11 N b (nI k) lw (gi σ0 (b + 5) k)) (M1 + 1) (nI p) σ = some ((), σ') ∧ itr (fun _ _ _ => none) (st_X10_goesOn_5 N (nI k) (nI mo) K) (M2 + 1) x3 (nI p) τ = K z τ' ∧ (z = 0 ∨ z = 1) ∧ Gp LX mo b lw k 12 (gi σ0 (b + 5) k) σ0 τ0 σ' τ' := by
      intro σ2 τ2 x3' hx hG2 e1 e2
      rw [e1, e2]
      exact lp_go N hN hbk hk hL hp hB hi K u (p + 1) M1 M2 σ2 τ2 x3' (by omega) (by omega) (by omega) hx hG2
    have eC : itr (fun _ _ => none) (st_X0_spread_11 N b (nI k) lw (gi σ0 (b + 5) k)) (M1 + 1) (nI p) σ = st_X0_spread_11 N b (nI k) lw (gi σ0 (b + 5) k) (itr (fun _ _ => none) (st_X0_spread_11 N b (nI k) lw (gi σ0 (b + 5) k)) M1) (nI p) σ := rfl
    have eM : itr (fun _ _ _ => none) (st_X10_goesOn_5 N (nI k) (nI mo) K) (M2 + 1) x3 (nI p) τ = st_X10_goesOn_5 N (nI k) (nI mo) K (itr (fun _ _ _ => none) (st_X10_goesOn_5 N (nI k) (nI mo) K) M2) x3 (nI p) τ := rfl
    have hα : ∀ i, gi (si τ 23 p (-1)) 1 i = gi τ0 1 i := fun i => by rw [gi_ne (by decide)]; exact g2 _ _ (by decide) (by decide) (by decide)
    by_cases ht : bt (gi τ0 1 145) p = true
    · have hth : hb (gi τ0 1 145) (nI p) := (hb_iff _ (by omega)).mpr ht
      have a9 := hB.2.2.1 k p hk hp12
      rw [Am_ne (by omega)] at a9
      rcases a9 with ⟨z1, z2, z3⟩ | ⟨z1, z2⟩
      · -- it is known there
        refine skip σ (si τ 23 p (-1)) x3 hx3 (step0 (fun y => z2 y.2.1) _ (KM.rf _)) ?_ ?_
        · rw [eC]
          generalize itr (fun _ _ => none) (st_X0_spread_11 N b (nI k) lw (gi σ0 (b + 5) k)) M1 = rec
          unfold st_X0_spread_11
          simp only [lt_p, nI_1]
          rw [if_neg (show ¬ (12 : Int32) ≤ nI p from nI_ge (b := 12) hp12 (by decide)), e_told3, bd_some, ite10, e3, if_pos ⟨hin, hth⟩, e_hasBit, bd_some, ite10, if_pos ((hb_iff _ (by omega)).mpr z1)]
        · rw [eM]
          generalize itr (fun _ _ _ => none) (st_X10_goesOn_5 N (nI k) (nI mo) K) M2 = rec
          unfold st_X10_goesOn_5
          simp only [lt_p, nI_1]
          rw [if_neg (show ¬ (12 : Int32) ≤ nI p from nI_ge (b := 12) hp12 (by decide)), chk_n hp12 (by decide), hx, e_isParish, bd_some, ite10, hα, if_pos ⟨hin, hth⟩, e_isKnown N hk hp12, bd_some, hα, if_neg z2, if_neg (by decide)]
      · -- it may hear
        have hS : Sf b lw k p mo (gi σ0 (b + 5) k) σ (si τ 23 p (-1)) := by
          refine ⟨⟨hbk, hk, hp12, hL.1⟩, fun q hq => ?_, fun q hq => ?_, ?_⟩
          · rw [g1 _ _ (by omega) (by omega) (by omega), gi_ne (by decide), g2 _ _ (by decide) (by decide) (by decide)]
            exact hp.2.2 q p hq hp12
          · rw [hα]
            have c9 := hB.2.2.1 k q hk hq
            rw [Am_ne (by omega)] at c9
            rcases c9 with ⟨y1, y2, y3⟩ | y
            · exact Or.inl ⟨y1, y2, by rw [hG.tale hq y1]; exact y3⟩
            · exact Or.inr y
          · rw [g1 _ _ (by omega) (by omega) (by omega), hB.1.2.2.2.2.1]
            exact up_eq
        have hL1 : Lw lw LV LX σ (si τ 23 p (-1)) := hL.fr (fun c i y1 y2 => g1 c i (by omega) (by omega) (by omega)) (by rw [gi_ne (by decide)]; exact g2 _ _ (by decide) (by decide) (by decide)) (fun c i y1 y2 => by rw [gi_ne (by omega)]; exact g2 _ _ (by omega) (by omega) (by omega))
        have htir : tir (si τ 23 p (-1)) p = Am τ0 mo (90 + 3 * p) + Am τ0 mo (90 + 3 * p + 1) + Am τ0 mo (90 + 3 * p + 2) := by
          unfold tir
          rw [hα, hα, hα, Am_ne (by omega), Am_ne (by omega), Am_ne (by omega)]
        have htd : f_X0_tired N b (nI p) σ = some (tir (si τ 23 p (-1)) p, σ) := by
          rw [htir]
          exact e_tiredS N (by omega) hB hp12 (fun j hj => g1 _ _ (by omega) (by omega) (by omega))
        have hwe : gi σ (b + 1) p = gi (si τ 23 p (-1)) 1 p := by
          rw [g1 _ _ (by omega) (by omega) (by omega), hα, hB.1.1 p hp12, Am_ne (by omega)]
        obtain ⟨σ1, e1, k1, f1⟩ := e_askOf N lw (nI p) (gi (si τ 23 p (-1)) 1 p) (tir (si τ 23 p (-1)) p) (nI k) σ
        obtain ⟨σ2, τ2, z, r1, r2, r3, r4, r5, r6⟩ := lp_src N hN 12 0 N N σ1 (si τ 23 p (-1)) (-1) (nI 100) (by omega) (by omega) (by omega) (hL1.k k1 (KM.rf _)) (hS.k k1 (KM.rf _)) f1 (Or.inl ⟨rfl, rfl⟩)
        have esf : f_X0_sourceFor N b (nI k) (nI p) (gi σ0 (b + 5) k) lw σ = some (z, σ2) := by
          unfold f_X0_sourceFor
          rw [chk_n hp12 (by decide), htd, bd_some, hx, hwe, e1, bd_some]
          exact r1
        have ehf : f_X10_hearsFrom N (nI k) (nI p) (nI mo) (si τ 23 p (-1)) = some (z, τ2) := r2
        have kc := k1.tr r3
        have sC : ∀ rec, st_X0_spread_11 N b (nI k) lw (gi σ0 (b + 5) k) rec (nI p) σ = if z < 0 then rec (nI (p + 1)) σ2 else chk (nI k) 6 (chk (nI k) 6 (chk z 12 (chk z 12 (chk (nI p) 12 (bd (f_X0_tellOn N b (nI k) (nI p) (gi σ2 ((b + 7) + 1 + k) (ix z)) (gi σ2 (4 + 1 + ix z) p) lw σ2) (fun r15 s14 => chk (nI p) 12 (chk (nI k) 6 (chk (nI k) 6 (rec (nI (p + 1)) (si (si s14 ((b + 7) + 1 + k) p r15) (b + 5) k ((gi (si s14 ((b + 7) + 1 + k) p r15) (b + 5) k) ||| ((1 : Int32) <<< (nI p &&& 31)))))))))))))  := by
          intro rec
          unfold st_X0_spread_11
          simp only [lt_p, nI_1, hx, hxk]
          rw [if_neg (show ¬ (12 : Int32) ≤ nI p from nI_ge (b := 12) hp12 (by decide)), e_told3, bd_some, ite10, e3, if_pos ⟨hin, hth⟩, e_hasBit, bd_some, ite10, if_neg (fun y => by rw [(hb_iff _ (by omega)).mp y] at z1; cases z1), esf, bd_some]
        have sM : ∀ rec, st_X10_goesOn_5 N (nI k) (nI mo) K rec x3 (nI p) τ = if z = -1 then rec x3 (nI (p + 1)) τ2 else bd (f_X10_known N (nI k) z τ2) (fun r10 s9 => chk r10 151 (chk (((12 : Int32) * z) + nI p) 144 (bd (f_X10_tired N (nI p) s9) (fun r12 s11 => bd (f_X10_feels N (nI p) (nI k) (gi s9 1 (ix r10)) (gi s9 4 (ix (((12 : Int32) * z) + nI p))) r12 (nI mo) s11) (fun _ s13 => bd (f_X10_known N (nI k) z s13) (fun r16 s15 => chk r16 151 (bd (f_X10_byLaw N 116 999 s15) (fun r18 s17 => bd (f_X10_min N 99999 ((gi s15 1 (ix r16)) + r18) s17) (fun r20 s19 => chk (nI p) 12 (rec 1 (nI (p + 1)) (si s19 23 p r20))))))))))) := by
          intro rec
          unfold st_X10_goesOn_5
          simp only [lt_p, nI_1, hx]
          rw [if_neg (show ¬ (12 : Int32) ≤ nI p from nI_ge (b := 12) hp12 (by decide)), chk_n hp12 (by decide), e_isParish, bd_some, ite10, hα, if_pos ⟨hin, hth⟩, e_isKnown N hk hp12, bd_some, hα, if_pos z2, if_pos rfl, ehf, bd_some]
        rw [sC] at eC
        rw [sM] at eM
        have hH : z = -1 ↔ ¬ Hc LX mo k τ0 p := by
          refine r6.trans ⟨fun h y => ?_, fun h => ⟨rfl, fun q' _ hq' y => h ⟨ht, z2, q', hq', ?_⟩⟩⟩
          · obtain ⟨q', hq', y3⟩ := y.2.2
            have := h.2 q' (Nat.zero_le _) hq'
            rw [hrs_k (τ := τ0) hα (fun i => by rw [gi_ne (by decide)]; exact g2 _ _ (by decide) (by decide) (by decide))] at this
            exact this y3
          · rw [hrs_k (τ := τ0) hα (fun i => by rw [gi_ne (by decide)]; exact g2 _ _ (by decide) (by decide) (by decide))] at y
            exact y
        clear r6
        rcases r5 with rfl | ⟨q', hq', rfl, hsq⟩
        · rw [if_pos (by decide)] at eC
          rw [if_pos rfl] at eM
          have hG2 : Gp LX mo b lw k (p + 1) (gi σ0 (b + 5) k) σ0 τ0 σ2 τ2 := by
            obtain ⟨s1, s2, s3, s4, s5⟩ := step0 (hH.mp rfl) τ2 r4
            have kk : gi σ2 (b + 5) k = gi σ (b + 5) k := kc _ _ (by omega)
            have kt : ∀ q, gi σ2 (b + 8 + k) q = gi σ (b + 8 + k) q := fun q => kc _ _ (by omega)
            refine ⟨fun c i y1 y2 y3 => by rw [kc c i y1]; exact g1 c i y1 y2 y3, s2, fun q hq => ?_, fun q q1 q2 => ?_, fun i i1 i2 => ?_⟩
            · rw [kk, kt]; exact s3 q hq
            · rw [kk, kt]; exact s4 q q1 q2
            · rw [kk]; exact s5 i i1 i2
          exact skip σ2 τ2 x3 hx3 hG2 eC eM
        · rw [if_neg (nI_pos (by omega))] at eC
          rw [if_neg (nI_ne_m1 (by omega))] at eM
          -- the tale at q'
          obtain ⟨m, hm, m1, m2⟩ := hp.2.2 q' p hq' hp12
          have a9' := hB.2.2.1 k q' hk hq'
          rw [Am_ne (by omega)] at a9'
          have i7 := hi.2.2.2.1 k q' hk hq'
          have htq : ∃ l, l ≤ 99999 ∧ gi τ0 1 (12 + 12 * k + q') = nI l ∧ gi σ0 (b + 8 + k) q' = nI l := by
            rcases a9' with ⟨y1, y2, y3⟩ | ⟨y1, y2⟩
            · rcases i7 with y | ⟨t, t1, t2⟩
              · exact absurd y y2
              · exact ⟨t, t1, t2, y3.trans t2⟩
            · rw [y1] at hsq; cases hsq
          obtain ⟨l, l1, l2, l3⟩ := htq
          have t1 : gi σ2 ((b + 7) + 1 + k) (ix (nI q')) = nI l := by
            rw [ix_n (by omega), show b + 7 + 1 + k = b + 8 + k by omega, kc _ _ (by omega), hG.tale hq' hsq]; exact l3
          have t2 : gi σ2 (4 + 1 + ix (nI q')) p = nI m := by
            rw [ix_n (by omega), show 4 + 1 + q' = 5 + q' by omega, kc _ _ (by omega), g1 _ _ (by omega) (by omega) (by omega)]; exact m1
          have hL2 := hL1.k kc r4
          have htd2 : f_X0_tired N b (nI p) σ2 = some (tir (si τ 23 p (-1)) p, σ2) := by
            rw [htir]
            exact e_tiredS N (by omega) hB hp12 (fun j hj => by rw [kc _ _ (by omega)]; exact g1 _ _ (by omega) (by omega) (by omega))
          have hmo2 : gi σ2 b 11 = nI mo := by rw [kc _ _ (by omega)]; exact hS.2.2.2
          obtain ⟨σ3, w1, w2⟩ := e_tellOn N hN (b := b) (k := k) (p := p) (mo := mo) (l := l) (d := nI m) (w := gi (si τ 23 p (-1)) 1 p) (r := tir (si τ 23 p (-1)) p) hL2 hbk hp12 l1 (by rw [kc _ _ (by omega)]; exact hwe) htd2 hmo2
          rw [chk_n hk (by decide), chk_n hk (by decide), chk_n hq' (by decide), chk_n hq' (by decide), chk_n hp12 (by decide), t1, t2, w1, bd_some, chk_n hp12 (by decide), chk_n hk (by decide), chk_n hk (by decide)] at eC
          -- the reference's
          have hα2 : ∀ i, gi τ2 1 i = gi τ0 1 i := fun i => by rw [r4 _ _ (by decide) (by decide)]; exact hα i
          have h4 : gi τ2 4 (12 * q' + p) = nI m := by rw [r4 _ _ (by decide) (by decide), gi_ne (by decide), g2 _ _ (by decide) (by decide) (by decide)]; exact m2
          obtain ⟨τ3, y1, y2, y3⟩ := e_feels N (nI k) (nI l) (nI m) (tir τ2 p) (nI mo) τ2 hp12
          have e16 : gi τ2 1 p = gi (si τ 23 p (-1)) 1 p := r4 _ _ (by decide) (by decide)
          have e17 : tir τ2 p = tir (si τ 23 p (-1)) p := by
            unfold tir
            rw [r4 _ _ (by decide) (by decide), r4 _ _ (by decide) (by decide), r4 _ _ (by decide) (by decide)]
          obtain ⟨τ4, y4, y5⟩ := (hL2.k (KC.rf _ _) y2).numM N hN (kind := 116) (most := 999) (Or.inr (Or.inl rfl)) (by decide) y3
          have y4' : f_X10_byLaw N 116 999 τ3 = _ := y4
          have hle := hL.2.2.2 116 999 (fc (nI p) (gi τ2 1 p) (tir τ2 p) (nI k) (nI l) (nI m) (nI mo - nI mo / 12 * 12)) (by decide)
          have etr : gi τ2 1 (90 + 3 * p) + gi τ2 1 (90 + 3 * p + 1) + gi τ2 1 (90 + 3 * p + 2) = tir τ2 p := rfl
          have hα3 : gi τ3 1 (12 + 12 * k + q') = nI l := by rw [y2 _ _ (by decide) (by decide), hα2]; exact l2
          rw [e_known, bd_some, chk_n (by omega) (by decide), li_12, pk_mul, nI_add, chk_n (by omega) (by decide), e_tiredM N hp12, bd_some, ix_n (by omega), ix_n (by omega), hα2 (12 + 12 * k + q'), l2, h4, etr, y1, bd_some, e_known, bd_some, chk_n (by omega) (by decide), y4', bd_some, ix_n (by omega), hα3, nI_add, li_99999, e_minM N _ _ (by decide) (by omega), bd_some, chk_n hp12 (by decide)] at eM
          rw [e16, e17] at eM hle
          have hGn : Gp LX mo b lw k (p + 1) (gi σ0 (b + 5) k) σ0 τ0 (si (si σ3 ((b + 7) + 1 + k) p (nI (min 99999 (l + LV 116 999 (fc (nI p) (gi (si τ 23 p (-1)) 1 p) (tir (si τ 23 p (-1)) p) (nI k) (nI l) (nI m) (nI mo - nI mo / 12 * 12)))))) (b + 5) k ((gi (si σ3 ((b + 7) + 1 + k) p (nI (min 99999 (l + LV 116 999 (fc (nI p) (gi (si τ 23 p (-1)) 1 p) (tir (si τ 23 p (-1)) p) (nI k) (nI l) (nI m) (nI mo - nI mo / 12 * 12)))))) (b + 5) k) ||| ((1 : Int32) <<< (nI p &&& 31)))) (si τ4 23 p (nI (min 99999 (l + LV 116 999 (fc (nI p) (gi (si τ 23 p (-1)) 1 p) (tir (si τ 23 p (-1)) p) (nI k) (nI l) (nI m) (nI mo - nI mo / 12 * 12)))))) := by
            generalize hv : min 99999 (l + LV 116 999 (fc (nI p) (gi (si τ 23 p (-1)) 1 p) (tir (si τ 23 p (-1)) p) (nI k) (nI l) (nI m) (nI mo - nI mo / 12 * 12))) = v
            have hv9 : v ≤ 99999 := by rw [← hv]; exact Nat.min_le_left _ _
            have kc3 := kc.tr w2
            have km4 : KM (si τ 23 p (-1)) τ4 := (r4.tr y2).tr (fun c i y _ => y5 c i y)
            have kk : gi (si σ3 ((b + 7) + 1 + k) p (nI v)) (b + 5) k = gi σ (b + 5) k := by rw [gi_ne (by omega)]; exact kc3 _ _ (by omega)
            refine ⟨fun c i q1 q2 q3 => ?_, fun c i q1 q2 q3 => ?_, fun q hq => ?_, fun q q1 q2 => ?_, fun i i1 i2 => ?_⟩
            · rw [gi_si, if_neg q3, gi_ne (by omega), kc3 c i q1]; exact g1 c i q1 q2 q3
            · rw [gi_ne q3, km4 c i q1 q2, gi_ne q3]; exact g2 c i q1 q2 q3
            · rw [gi_eq, kk, b_set _ (by omega) (by omega), show b + 8 + k = b + 7 + 1 + k by omega, gi_ne (show ¬ b + 7 + 1 + k = b + 5 by omega)]
              by_cases e : q = p
              · subst e
                refine Or.inr ⟨v, hv9, gi_eq _ _ _ _, z1, by simp, gi_eq _ _ _ _, Classical.byContradiction (fun y => nI_ne_m1 (show q' < 2 ^ 31 by omega) (hH.mpr y))⟩
              · rw [gi_ni e, gi_ni e, km4 _ _ (by decide) (by decide), gi_ni e, kc3 _ _ (by omega)]
                have g3' := g3 q (by omega)
                rw [show b + 8 + k = b + 7 + 1 + k by omega] at g3'
                have hd : decide (q = p) = false := decide_eq_false e
                rw [hd, Bool.or_false]
                exact g3'
            · rw [gi_eq, kk, b_set _ (by omega) (by omega), show b + 8 + k = b + 7 + 1 + k by omega, gi_ne (show ¬ b + 7 + 1 + k = b + 5 by omega), gi_ni (by omega), kc3 _ _ (by omega)]
              have g4' := g4 q (by omega) q2
              rw [show b + 8 + k = b + 7 + 1 + k by omega] at g4'
              have hd : decide (q = p) = false := decide_eq_false (by omega)
              rw [hd, Bool.or_false]
              exact g4'
            · rw [gi_eq, kk, b_set _ (by omega) i2, g5 i i1 i2]
              have hd : decide (i = p) = false := decide_eq_false (by omega)
              rw [hd]; rfl
          exact skip _ _ 1 (Or.inr rfl) hGn eC eM
    · have hnt : ¬ (inR (nI p) 0 11 ∧ hb (gi τ0 1 145) (nI p)) := fun z => ht ((hb_iff _ (by omega)).mp z.2)
      refine skip σ (si τ 23 p (-1)) x3 hx3 (step0 (fun y => ht y.1) _ (KM.rf _)) ?_ ?_
      · rw [eC]
        generalize itr (fun _ _ => none) (st_X0_spread_11 N b (nI k) lw (gi σ0 (b + 5) k)) M1 = rec
        unfold st_X0_spread_11
        simp only [lt_p, nI_1]
        rw [if_neg (show ¬ (12 : Int32) ≤ nI p from nI_ge (b := 12) hp12 (by decide)), e_told3, bd_some, ite10, e3, if_neg hnt]
      · rw [eM]
        generalize itr (fun _ _ _ => none) (st_X10_goesOn_5 N (nI k) (nI mo) K) M2 = rec
        unfold st_X10_goesOn_5
        simp only [lt_p, nI_1]
        rw [if_neg (show ¬ (12 : Int32) ≤ nI p from nI_ge (b := 12) hp12 (by decide)), chk_n hp12 (by decide), hx, e_isParish, bd_some, ite10, hα, if_neg hnt]
