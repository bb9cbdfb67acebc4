/-! tales: the walk whole -/
theorem bt_0 (i : Nat) : bt 0 i = false := by
  show (0#32).getLsbD i = false
  exact BitVec.getLsbD_zero
theorem cnt_z : cnt 0 12 = 0 := by decide
theorem t_node (N : Nat) (hN : 300 ≤ N) {LV : LVt} {LX : LXt} {lw mo k : Nat} (hk : k < 6) : ∀ (n lev : Nat), lev + n = 4 → Node N LV LX lw mo k n lev
  | n, lev, hlev => fun D M w t p l passed σ τ hwp htl hD hM hT hw hh hlow hnp hc hMo => by
    obtain ⟨D, rfl⟩ : ∃ D', D = D' + 1 := ⟨D - 1, by omega⟩
    obtain ⟨hL, hp, hB, h147⟩ := id hT
    have hlw := isLw_or hL.1
    obtain ⟨w1, w2, w3, w4⟩ := hw lev (Nat.le_refl _)
    rw [hwp] at w1 w2
    rw [htl] at w3 w4
    have hc4 : cnt passed 12 ≤ 12 := cnt_le _ _
    have e0 : gr_X2_follow N (D + 1) (nI k) (nI p) (nI l) passed 32 lw σ = f1_X2_follow N (gr_X2_follow N D) (nI k) (nI p) (nI l) passed 32 lw σ := rfl
    have e1 : f1_X2_follow N (gr_X2_follow N D) (nI k) (nI p) (nI l) passed 32 lw σ = if nI lev < 4 then itr (fun _ _ => none) (st_X2_follow_37 N (gr_X2_follow N D) (nI k) (nI p) (nI l) 32 lw (passed ||| ((1 : Int32) <<< (nI p &&& 31)))) N 0 (si σ 110 p (imax (gi σ 110 p) (nI l))) else some ((), si σ 110 p (imax (gi σ 110 p) (nI l))) := by
      unfold f1_X2_follow
      rw [chk_n w2 (by decide), chk_n w2 (by decide), ix_n (by omega), lt_p, lt_p, e_bc, bd_some, bc_cnt hlow, hc]
    have kp : Kpt lw σ (si σ 110 p (imax (gi σ 110 p) (nI l))) := fun c i _ z => gi_ne z
    match n, hlev, hM, hD with
    | 0, hlev, hM, hD =>
      obtain ⟨M, rfl⟩ : ∃ M', M = M' + 1 := ⟨M - 1, by have : Cn 0 = 1 := rfl; omega⟩
      have hl4 : lev = 4 := by omega
      refine ⟨si σ 110 p (imax (gi σ 110 p) (nI l)), τ, M, ?_, ?_, Nat.le_refl _, hMo, kp, Kqt.rf _, fun _ _ => ⟨rfl, rfl⟩⟩
      · rw [e0, e1, if_neg (by rw [hl4]; decide)]
      · show st_X10_laysTales_73 N (nI k) _ (nI lev) (nI 0) τ = _
        rw [st73, if_neg (nI_pos (by omega)), chk_n (by omega) (by decide), ix_n (by omega), w1]
        rw [hl4]
        exact (lp_t85e N _ 12 0 N (by omega) (by omega)).trans (K73_12 _ _ _ _ _ _)
    | n + 1, hlev, hM, hD =>
      have hC : Cn (n + 1) = 1 + 12 * (1 + Cn n) := rfl
      obtain ⟨σ', τ', M', r1, r2, r3, r4, r5, r6, r7⟩ := t_loop N hN hk hlev (t_node N hN hk n (lev + 1) (by omega)) (D := D) (by omega) hwp htl hh (fun i h1 h2 => by
        rw [b_set _ (by omega) h2, hlow i h1 h2]
        have : decide (i = p) = false := decide_eq_false (by omega)
        rw [this]
        rfl) (by rw [cnt_set (by omega) hnp 12 (by omega), if_pos w2, hc]) 12 0 N M (si σ 110 p (imax (gi σ 110 p) (nI l))) τ (by omega) (by omega) (by omega) (hT.k kp (Kqt.rf _)) hw hMo
      refine ⟨σ', τ', M', ?_, r2, by omega, r4, kp.tr r5, r6, r7⟩
      rw [e0, e1, if_pos (show nI lev < 4 from nI_lt (b := 4) (by omega) (by decide))]
      exact r1
  termination_by n => n
theorem lp_f3 (N : Nat) {x1 : Int32} {lw : Nat} (K : Mem → Option (Int32 × Mem)) : ∀ (u p M : Nat) (σ : Mem), p + u = 12 → u < M → ∃ σ', itr (fun _ _ => none) (st_X2_falseTales_3 N x1 32 lw K) M (nI p) σ = K σ' ∧ (∀ c i, ¬ c = 110 → gi σ' c i = gi σ c i) ∧ (∀ i, i < p → gi σ' 110 i = gi σ 110 i) ∧ ∀ i, p ≤ i → i < 12 → gi σ' 110 i = -1
  | u, p, 0, σ, _, h2 => absurd h2 (by omega)
  | 0, p, M + 1, σ, h1, _ => by
    refine ⟨σ, ?_, fun _ _ _ => rfl, fun _ _ => rfl, fun i hi hi2 => absurd hi2 (by omega)⟩
    show st_X2_falseTales_3 N x1 32 lw K _ (nI p) σ = _
    unfold st_X2_falseTales_3
    rw [if_pos (show (12 : Int32) ≤ nI p from nI_le (a := 12) (by omega) (by omega))]
  | u + 1, p, M + 1, σ, h1, h2 => by
    have hp : p < 12 := by omega
    have e : ∀ rec, st_X2_falseTales_3 N x1 32 lw K rec (nI p) σ = rec (nI (p + 1)) (si σ 110 p (-1)) := by
      intro rec
      unfold st_X2_falseTales_3
      simp only [lt_p, nI_1]
      rw [if_neg (show ¬ (12 : Int32) ≤ nI p from nI_ge (b := 12) hp (by decide)), chk_n hp (by decide), ix_n (by omega)]
    have e' : itr (fun _ _ => none) (st_X2_falseTales_3 N x1 32 lw K) (M + 1) (nI p) σ = _ := e (itr (fun _ _ => none) (st_X2_falseTales_3 N x1 32 lw K) M)
    obtain ⟨σ', r1, r2, r3, r4⟩ := lp_f3 N K u (p + 1) M (si σ 110 p (-1)) (by omega) (by omega)
    refine ⟨σ', e'.trans r1, fun c i h => ?_, fun i h => ?_, fun i h h' => ?_⟩
    · rw [r2 c i h, gi_ne h]
    · rw [r3 i (by omega), gi_ni (by omega)]
    · by_cases y : i = p
      · rw [y, r3 p (by omega), gi_eq]
      · exact r4 i (by omega) h'
theorem lp_l2 (N : Nat) {x1 : Int32} (K : Mem → Option (Unit × Mem)) : ∀ (u p M : Nat) (τ : Mem), p + u = 12 → u < M → ∃ τ', itr (fun _ _ => none) (st_X10_laysTales_2 N x1 K) M (nI p) τ = K τ' ∧ (∀ c i, ¬ c = 30 → gi τ' c i = gi τ c i) ∧ (∀ i, i < p → gi τ' 30 i = gi τ 30 i) ∧ ∀ i, p ≤ i → i < 12 → gi τ' 30 i = -1
  | u, p, 0, τ, _, h2 => absurd h2 (by omega)
  | 0, p, M + 1, τ, h1, _ => by
    refine ⟨τ, ?_, fun _ _ _ => rfl, fun _ _ => rfl, fun i hi hi2 => absurd hi2 (by omega)⟩
    show st_X10_laysTales_2 N x1 K _ (nI p) τ = _
    unfold st_X10_laysTales_2
    rw [if_pos (show (12 : Int32) ≤ nI p from nI_le (a := 12) (by omega) (by omega))]
  | u + 1, p, M + 1, τ, h1, h2 => by
    have hp : p < 12 := by omega
    have e : ∀ rec, st_X10_laysTales_2 N x1 K rec (nI p) τ = rec (nI (p + 1)) (si τ 30 p (-1)) := by
      intro rec
      unfold st_X10_laysTales_2
      simp only [lt_p, nI_1]
      rw [if_neg (show ¬ (12 : Int32) ≤ nI p from nI_ge (b := 12) hp (by decide)), chk_n hp (by decide), ix_n (by omega)]
    have e' : itr (fun _ _ => none) (st_X10_laysTales_2 N x1 K) (M + 1) (nI p) τ = _ := e (itr (fun _ _ => none) (st_X10_laysTales_2 N x1 K) M)
    obtain ⟨τ', r1, r2, r3, r4⟩ := lp_l2 N K u (p + 1) M (si τ 30 p (-1)) (by omega) (by omega)
    refine ⟨τ', e'.trans r1, fun c i h => ?_, fun i h => ?_, fun i h h' => ?_⟩
    · rw [r2 c i h, gi_ne h]
    · rw [r3 i (by omega), gi_ni (by omega)]
    · by_cases y : i = p
      · rw [y, r3 p (by omega), gi_eq]
      · exact r4 i (by omega) h'
theorem imax_m1 {l : Nat} (h : l < 2 ^ 31) : imax (-1) (nI l) = nI l := by
  unfold imax
  rw [if_pos (Int32.lt_of_lt_of_le (show (-1 : Int32) < 0 by decide) (Int32.not_lt.mp (nI_pos h)))]
/-- the largest tales are alike -/
theorem s_laysT (N : Nat) (hN : 50000 ≤ N) {LV : LVt} {LX : LXt} {lw mo k : Nat} {σ τ : Mem} (hk : k < 6) (hT : Tw LV LX lw mo σ τ) (hi : Inv (Al τ 1)) (K : Mem → Option (Int32 × Mem)) : ∃ σ' τ', itr (fun _ _ => none) (st_X2_falseTales_3 N (nI k) 32 lw (fun  (s3 : Mem) => chk (nI k) 6 (chk (nI k) 6 (bd (f_X2_follow N 100 (nI k) (gi s3 (32 + 2) (ix (nI k))) (gi s3 (32 + 3) (ix (nI k))) 0 32 lw s3) (fun _ s4 => K s4))))) N 0 σ = K σ' ∧ f_X10_laysTales N (nI k) τ = some ((), τ') ∧ (∀ q, q < 12 → gi σ' 110 q = gi τ' 30 q) ∧ Kpt lw σ σ' ∧ Kqt τ τ' := by
  obtain ⟨⟨h, hh12, eh⟩, ⟨l, hl9, el⟩, -, -⟩ := hi.2.2.1 k hk
  have hix : ix (nI k) = k := ix_n (by omega)
  have hlw := isLw_or hT.1.1
  obtain ⟨σ1, a1, a2, -, a4⟩ := lp_f3 N (x1 := nI k) (lw := lw) (fun  (s3 : Mem) => chk (nI k) 6 (chk (nI k) 6 (bd (f_X2_follow N 100 (nI k) (gi s3 (32 + 2) (ix (nI k))) (gi s3 (32 + 3) (ix (nI k))) 0 32 lw s3) (fun _ s4 => K s4)))) 12 0 N σ (by omega) (by omega)
  unfold f_X10_laysTales
  obtain ⟨τ1, b1, b2, -, b4⟩ := lp_l2 N (x1 := nI k) (fun  (s3 : Mem) => chk ((126 : Int32) + nI k) 151 (chk 0 5 (lt (si s3 31 (ix (0 : Int32)) (gi s3 1 (ix ((126 : Int32) + nI k)))) (fun s4 => chk ((132 : Int32) + nI k) 151 (chk 0 5 (lt (si s4 32 (ix (0 : Int32)) (gi s4 1 (ix ((132 : Int32) + nI k)))) (fun s5 => chk 0 5 (chk 0 5 (chk (gi s5 31 (ix (0 : Int32))) 12 (lt (si s5 30 (ix (gi s5 31 (ix (0 : Int32)))) (gi s5 32 (ix (0 : Int32)))) (fun s6 => itr (fun _ _ _ => none) (st_X10_laysTales_73 N (nI k)) N 0 0 s6))))))))))) 12 0 N τ (by omega) (by omega)
  have kp1 : Kpt lw σ σ1 := fun c i _ z => a2 c i z
  have eh1 : gi τ1 1 (126 + k) = nI h := by rw [b2 _ _ (by decide)]; exact eh
  have el1 : gi τ1 1 (132 + k) = nI l := by rw [b2 _ _ (by decide)]; exact el
  have c34 : gi σ1 34 k = nI h := by rw [a2 _ _ (by decide)]; exact ((hT.2.2.1.2.1 k hk).1).trans eh
  have c35 : gi σ1 35 k = nI l := by rw [a2 _ _ (by decide)]; exact ((hT.2.2.1.2.1 k hk).2.1).trans el
  have eC : itr (fun _ _ => none) (st_X2_falseTales_3 N (nI k) 32 lw (fun  (s3 : Mem) => chk (nI k) 6 (chk (nI k) 6 (bd (f_X2_follow N 100 (nI k) (gi s3 (32 + 2) (ix (nI k))) (gi s3 (32 + 3) (ix (nI k))) 0 32 lw s3) (fun _ s4 => K s4))))) N 0 σ = bd (gr_X2_follow N 100 (nI k) (nI h) (nI l) 0 32 lw σ1) (fun _ s4 => K s4) := by
    refine a1.trans ?_
    rw [chk_n hk (by decide), chk_n hk (by decide), hix, show 32 + 2 = 34 from rfl, show 32 + 3 = 35 from rfl, c34, c35]
    rfl
  have hz : ix (0 : Int32) = 0 := by decide
  have c0 : ∀ {α : Type} (e : Option α), chk 0 5 e = e := fun e => chk_n (n := 0) (by decide) (by decide)
  have g1 : gi (si τ1 31 0 (nI h)) 1 (132 + k) = nI l := by rw [gi_ne (by decide)]; exact el1
  have g2 : gi (si (si τ1 31 0 (nI h)) 32 0 (nI l)) 31 0 = nI h := by rw [gi_ne (by decide), gi_eq]
  have g3 : gi (si (si τ1 31 0 (nI h)) 32 0 (nI l)) 32 0 = nI l := gi_eq _ _ _ _
  have eM : itr (fun _ _ => none) (st_X10_laysTales_2 N (nI k) (fun  (s3 : Mem) => chk ((126 : Int32) + nI k) 151 (chk 0 5 (lt (si s3 31 (ix (0 : Int32)) (gi s3 1 (ix ((126 : Int32) + nI k)))) (fun s4 => chk ((132 : Int32) + nI k) 151 (chk 0 5 (lt (si s4 32 (ix (0 : Int32)) (gi s4 1 (ix ((132 : Int32) + nI k)))) (fun s5 => chk 0 5 (chk 0 5 (chk (gi s5 31 (ix (0 : Int32))) 12 (lt (si s5 30 (ix (gi s5 31 (ix (0 : Int32)))) (gi s5 32 (ix (0 : Int32)))) (fun s6 => itr (fun _ _ _ => none) (st_X10_laysTales_73 N (nI k)) N 0 0 s6)))))))))))) N 0 τ = itr (fun _ _ _ => none) (st_X10_laysTales_73 N (nI k)) N (nI 0) 0 (si (si (si τ1 31 0 (nI h)) 32 0 (nI l)) 30 h (nI l)) := by
    refine b1.trans ?_
    simp only [lt_p]
    rw [li_126, nI_add, chk_n (by omega) (by decide), c0, hz, ix_n (by omega), eh1, li_132, nI_add, chk_n (by omega) (by decide), c0, ix_n (by omega), g1, c0, c0, g2, g3, chk_n hh12 (by decide), ix_n (by omega)]
    rfl
  have kq1 : Kqt τ (si (si (si τ1 31 0 (nI h)) 32 0 (nI l)) 30 h (nI l)) := fun c i _ _ z3 z4 z5 => by rw [gi_ne z3, gi_ne z5, gi_ne z4, b2 c i z3]
  obtain ⟨σ2, τ2, M', r1, r2, r3, r4, r5, r6, -⟩ := t_node N (by omega) hk 4 0 (by omega) 100 N (fun _ => h) (fun _ => l) h l 0 σ1 (si (si (si τ1 31 0 (nI h)) 32 0 (nI l)) 30 h (nI l)) rfl rfl (by omega) (by have : Cn 4 = 45241 := rfl; omega) (hT.k kp1 kq1) (fun i hi => by
    obtain rfl : i = 0 := by omega
    exact ⟨by rw [gi_ne (by decide)]; exact g2, hh12, by rw [gi_ne (by decide)]; exact g3, show l ≤ 99999 by omega⟩) (fun q hq => by
    rw [b_set _ (by omega) hq, show bt 0 q = false from bt_0 q]
    simp
    exact ⟨fun e => e.symm, fun e => e.symm⟩) (fun i _ _ => bt_0 i) (bt_0 h) cnt_z (fun q hq => by
    rw [gi_si, gi_si, a4 h (by omega) hh12, imax_m1 (by omega)]
    by_cases e : q = h
    · rw [if_pos ⟨rfl, e⟩, if_pos ⟨rfl, e⟩]
    · rw [if_neg (fun y => e y.2), if_neg (fun y => e y.2), a4 q (by omega) hq, gi_ne (by decide), gi_ne (by decide), b4 q (by omega) hq])
  have hM' : 1 ≤ M' := by have : Cn 4 = 45241 := rfl; omega
  obtain ⟨M', rfl⟩ : ∃ M2, M' = M2 + 1 := ⟨M' - 1, by omega⟩
  refine ⟨σ2, τ2, ?_, ?_, r4, kp1.tr r5, kq1.tr r6⟩
  · rw [eC, r1, bd_some]
  · rw [eM, r2]
    show st_X10_laysTales_73 N (nI k) _ (nI 0 - 1) _ τ2 = _
    rw [st73, if_pos (by decide)]
