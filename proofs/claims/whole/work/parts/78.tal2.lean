/-! tales: both walks, side by side -/
def Node (N : Nat) (LV : LVt) (LX : LXt) (lw mo k n lev : Nat) : Prop := ∀ (D M : Nat) (w t : Nat → Nat) (p l : Nat) (passed : Int32) (σ τ : Mem), w lev = p → t lev = l → n < D → Cn n ≤ M → Tw LV LX lw mo σ τ → Wy lev w t τ → Hm (passed ||| ((1 : Int32) <<< (nI p &&& 31))) lev w → (∀ i, 12 ≤ i → i < 32 → bt passed i = false) → bt passed p = false → cnt passed 12 = lev → (∀ q, q < 12 → gi (si σ 110 p (imax (gi σ 110 p) (nI l))) 110 q = gi τ 30 q) → ∃ σ' τ' M', gr_X2_follow N D (nI k) (nI p) (nI l) passed 32 lw σ = some ((), σ') ∧ itr (fun _ _ _ => none) (st_X10_laysTales_73 N (nI k)) M (nI lev) 0 τ = itr (fun _ _ _ => none) (st_X10_laysTales_73 N (nI k)) M' (nI lev - 1) (nI p + 1) τ' ∧ M ≤ M' + Cn n ∧ (∀ q, q < 12 → gi σ' 110 q = gi τ' 30 q) ∧ Kpt lw σ σ' ∧ Kqt τ τ' ∧ ∀ i, i ≤ lev → gi τ' 31 i = gi τ 31 i ∧ gi τ' 32 i = gi τ 32 i
theorem t_73 (N : Nat) (hN : 300 ≤ N) {k lev p q u : Nat} {w t : Nat → Nat} {here : Int32} {τ : Mem} (hl : lev < 4) (hw : Wy lev w t τ) (hwp : w lev = p) (hh : Hm here lev w) (hq : q + u = 12) (rec : Int32 → Int32 → Mem → Option (Unit × Mem)) : st_X10_laysTales_73 N (nI k) rec (nI lev) (nI q) τ = K73 N (nI k) (nI lev) (nI p) rec (nI (nxt (gd τ p here) u q)) τ := by
  obtain ⟨w1, w2, -, -⟩ := hw lev (Nat.le_refl _)
  rw [hwp] at w1 w2
  rw [st73, if_neg (nI_pos (by omega)), chk_n (by omega) (by decide), ix_n (by omega), w1]
  exact lp_t85 N hN hl hw w2 hh _ u q N hq (by omega)
theorem K73_12 (N : Nat) (x1 x2 v7 : Int32) (rec : Int32 → Int32 → Mem → Option (Unit × Mem)) (τ : Mem) : K73 N x1 x2 v7 rec (nI 12) τ = rec (x2 - 1) (v7 + 1) τ := by
  unfold K73
  rw [if_pos (show nI 12 = 12 from rfl)]
  rfl
theorem t_loop (N : Nat) (hN : 300 ≤ N) {LV : LVt} {LX : LXt} {lw mo k n lev : Nat} (hk : k < 6) (hlev : lev + (n + 1) = 4) (ih : Node N LV LX lw mo k n (lev + 1)) {D : Nat} (hD : n < D) {w t : Nat → Nat} {p l : Nat} {here : Int32} (hwp : w lev = p) (htl : t lev = l) (hh : Hm here lev w) (hlow : ∀ i, 12 ≤ i → i < 32 → bt here i = false) (hc : cnt here 12 = lev + 1) : ∀ (u q Mc M : Nat) (σ τ : Mem), q + u = 12 → u < Mc → 1 + u * (1 + Cn n) ≤ M → Tw LV LX lw mo σ τ → Wy lev w t τ → (∀ q, q < 12 → gi σ 110 q = gi τ 30 q) → ∃ σ' τ' M', itr (fun _ _ => none) (st_X2_follow_37 N (gr_X2_follow N D) (nI k) (nI p) (nI l) 32 lw here) Mc (nI q) σ = some ((), σ') ∧ itr (fun _ _ _ => none) (st_X10_laysTales_73 N (nI k)) M (nI lev) (nI q) τ = itr (fun _ _ _ => none) (st_X10_laysTales_73 N (nI k)) M' (nI lev - 1) (nI p + 1) τ' ∧ M ≤ M' + (1 + u * (1 + Cn n)) ∧ (∀ q, q < 12 → gi σ' 110 q = gi τ' 30 q) ∧ Kpt lw σ σ' ∧ Kqt τ τ' ∧ ∀ i, i ≤ lev → gi τ' 31 i = gi τ 31 i ∧ gi τ' 32 i = gi τ 32 i
  | u, q, 0, _, σ, τ, _, h2, _, _, _, _ => absurd h2 (by omega)
  | u, q, Mc + 1, 0, σ, τ, _, _, h3, _, _, _ => absurd h3 (by omega)
  | 0, q, Mc + 1, M + 1, σ, τ, h1, _, _, hT, hw, hMo => by
    obtain rfl : q = 12 := by omega
    refine ⟨σ, τ, M, ?_, ?_, by omega, hMo, Kpt.rf _ _, Kqt.rf _, fun _ _ => ⟨rfl, rfl⟩⟩
    · show st_X2_follow_37 N (gr_X2_follow N D) (nI k) (nI p) (nI l) 32 lw here _ (nI 12) σ = _
      unfold st_X2_follow_37
      rw [if_pos (by decide)]
    · show st_X10_laysTales_73 N (nI k) _ (nI lev) (nI 12) τ = _
      rw [t_73 N hN (by omega) hw hwp hh (u := 0) (by omega)]
      exact K73_12 _ _ _ _ _ _
  | u + 1, q, Mc + 1, M + 1, σ, τ, h1, h2, h3, hT, hw, hMo => by
    have hX : (u + 1) * (1 + Cn n) = u * (1 + Cn n) + (1 + Cn n) := Nat.succ_mul _ _
    have hq : q < 12 := by omega
    obtain ⟨hL, hp, hB, h147⟩ := id hT
    have hlw := isLw_or hL.1
    obtain ⟨w1, w2, w3, w4⟩ := hw lev (Nat.le_refl _)
    rw [hwp] at w1 w2
    rw [htl] at w3 w4
    obtain ⟨m, hm, m1, m2⟩ := hp.2.2 p q w2 hq
    have hgd : gd τ p here q = true ↔ (0 < m ∧ bt here q = false) := by
      unfold gd
      rw [m2]
      by_cases z : m = 0
      · subst z
        simp
        intro y
        exact absurd (show nI 0 = 0 from rfl) y
      · have := nI_ne0 (show 0 < m by omega) (by omega)
        simp [this]
        intro _
        omega
    have sC : ∀ rec, st_X2_follow_37 N (gr_X2_follow N D) (nI k) (nI p) (nI l) 32 lw here rec (nI q) σ = if gd τ p here q = true then bd (f_X0_tellOn N 32 (nI k) (nI q) (nI l) (nI m) lw σ) (fun r12 s11 => bd (gr_X2_follow N D (nI k) (nI q) r12 here 32 lw s11) (fun _ s13 => rec (nI (q + 1)) s13)) else rec (nI (q + 1)) σ := by
      intro rec
      unfold st_X2_follow_37
      simp only [lt_p, nI_1]
      rw [if_neg (show ¬ (12 : Int32) ≤ nI q from nI_ge (b := 12) hq (by decide)), chk_n w2 (by decide), chk_n hq (by decide), ix_n (by omega), ix_n (by omega), show 4 + 1 + p = 5 + p by omega, m1, e_hasBit, bd_some, ite10]
      by_cases z : 0 < m
      · rw [if_neg (nI_nle z (by omega))]
        by_cases y : bt here q = false
        · rw [if_pos (hgd.mpr ⟨z, y⟩), if_neg (fun x => by rw [(hb_iff _ (by omega)).mp x] at y; cases y)]
        · rw [if_neg (fun x => y (hgd.mp x).2), if_pos ((hb_iff _ (by omega)).mpr (by
            cases v : bt here q with
            | true => rfl
            | false => exact absurd v y))]
      · rw [if_pos (show nI m ≤ 0 by rw [show m = 0 by omega]; decide), if_neg (fun x => z (hgd.mp x).1)]
    have eC : itr (fun _ _ => none) (st_X2_follow_37 N (gr_X2_follow N D) (nI k) (nI p) (nI l) 32 lw here) (Mc + 1) (nI q) σ = _ := sC (itr (fun _ _ => none) (st_X2_follow_37 N (gr_X2_follow N D) (nI k) (nI p) (nI l) 32 lw here) Mc)
    have eM : itr (fun _ _ _ => none) (st_X10_laysTales_73 N (nI k)) (M + 1) (nI lev) (nI q) τ = K73 N (nI k) (nI lev) (nI p) (itr (fun _ _ _ => none) (st_X10_laysTales_73 N (nI k)) M) (nI (if gd τ p here q = true then q else nxt (gd τ p here) u (q + 1))) τ := t_73 N hN (by omega) hw hwp hh (u := u + 1) (by omega) _
    by_cases hg : gd τ p here q = true
    · rw [if_pos hg] at eC eM
      obtain ⟨hm0, hbq⟩ := hgd.mp hg
      obtain ⟨τ5, p1, p2, p3, p4, p5, p6, p7⟩ := t_push N hN (k := k) hT (by omega) hw hwp hq m2
      rw [htl] at p3 p4
      have htd : f_X0_tired N 32 (nI q) σ = some (tir τ q, σ) := e_tiredS N (by omega) hB hq (fun _ _ => rfl)
      have hwe : gi σ (32 + 1) q = gi τ 1 q := hB.1.1 q hq
      have hmo : gi σ 32 11 = nI mo := hB.1.2.2.2.2.1.trans h147
      obtain ⟨σ1, t1, t2⟩ := e_tellOn N hN (b := 32) (k := k) (p := q) (mo := mo) (l := l) (d := nI m) (w := gi τ 1 q) (r := tir τ q) hL (Or.inl rfl) hq w4 hwe htd hmo
      generalize hv : min 99999 (l + LV 116 999 (fc (nI q) (gi τ 1 q) (tir τ q) (nI k) (nI l) (nI m) (nI mo - nI mo / 12 * 12))) = l' at *
      have hl' : l' ≤ 99999 := by rw [← hv]; exact Nat.min_le_left _ _
      have kp1 : Kpt lw σ σ1 := fun c i z _ => t2 c i z
      have k110 : ∀ i, gi σ1 110 i = gi σ 110 i := fun i => t2 _ _ (by omega)
      obtain ⟨σ2, τ6, M2, r1, r2, r3, r4, r5, r6, r7⟩ := ih D M (fun i => if i = lev + 1 then q else w i) (fun i => if i = lev + 1 then l' else t i) q l' here σ1 τ5 (if_pos rfl) (if_pos rfl) hD (by omega) (hT.k kp1 p7) (fun i hi => by
        show gi τ5 31 i = nI (if i = lev + 1 then q else w i) ∧ (if i = lev + 1 then q else w i) < 12 ∧ gi τ5 32 i = nI (if i = lev + 1 then l' else t i) ∧ (if i = lev + 1 then l' else t i) ≤ 99999
        by_cases e : i = lev + 1
        · rw [if_pos e, if_pos e, e]
          exact ⟨p2, hq, p3, hl'⟩
        · rw [if_neg e, if_neg e, (p6 i (by omega)).1, (p6 i (by omega)).2]
          exact hw i (by omega)) (fun q' hq' => by
        rw [b_set _ (by omega) hq', Bool.or_eq_true, hh q' hq', decide_eq_true_iff]
        constructor
        · rintro (⟨j, j1, j2⟩ | e)
          · exact ⟨j, by omega, (if_neg (by omega)).trans j2⟩
          · exact ⟨lev + 1, Nat.le_refl _, (if_pos rfl).trans e.symm⟩
        · rintro ⟨j, j1, j2⟩
          by_cases e : j = lev + 1
          · exact Or.inr ((if_pos e).symm.trans j2).symm
          · exact Or.inl ⟨j, by omega, (if_neg e).symm.trans j2⟩) hlow hbq hc (fun q' hq' => by
        rw [gi_si, k110]
        by_cases e : q' = q
        · rw [if_pos ⟨rfl, e⟩, e, p4, hMo q hq]
        · rw [if_neg (fun y => e y.2), p5 q' e, k110, hMo q' hq'])
      rw [t1, bd_some, r1, bd_some] at eC
      rw [p1, r2, show nI (lev + 1) - 1 = nI lev by rw [li_1, pk_sub (by omega)]; rfl, nI_1] at eM
      obtain ⟨σ3, τ7, M3, s1, s2, s3, s4, s5, s6, s7⟩ := t_loop N hN hk hlev ih hD hwp htl hh hlow hc u (q + 1) Mc M2 σ2 τ6 (by omega) (by omega) (by omega) ((hT.k kp1 p7).k r5 r6) (fun i hi => by
        rw [(r7 i (by omega)).1, (r7 i (by omega)).2, (p6 i hi).1, (p6 i hi).2]
        exact hw i hi) r4
      refine ⟨σ3, τ7, M3, eC.trans s1, eM.trans s2, by omega, s4, (kp1.tr r5).tr s5, (p7.tr r6).tr s6, fun i hi => ?_⟩
      rw [(s7 i hi).1, (s7 i hi).2, (r7 i (by omega)).1, (r7 i (by omega)).2, (p6 i hi).1, (p6 i hi).2]
      exact ⟨rfl, rfl⟩
    · rw [if_neg hg] at eC eM
      have eM2 : itr (fun _ _ _ => none) (st_X10_laysTales_73 N (nI k)) (M + 1) (nI lev) (nI q) τ = itr (fun _ _ _ => none) (st_X10_laysTales_73 N (nI k)) (M + 1) (nI lev) (nI (q + 1)) τ := eM.trans (t_73 N hN (by omega) hw hwp hh (u := u) (by omega) _).symm
      obtain ⟨σ3, τ7, M3, s1, s2, s3, s4⟩ := t_loop N hN hk hlev ih hD hwp htl hh hlow hc u (q + 1) Mc (M + 1) σ τ (by omega) (by omega) (by omega) hT hw hMo
      exact ⟨σ3, τ7, M3, eC.trans s1, eM2.trans s2, by omega, s4⟩
