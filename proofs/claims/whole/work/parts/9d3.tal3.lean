/-! tales: both walks, side by side; the class stops where no tale is unproved -/
def Ur (U0 : Int32) (k : Nat) (σ τ : Mem) : Prop := (∀ q, q < 12 → bt (gi σ 101 4) q = (bt U0 q && decide (gi τ 30 q < gi σ (40 + k) q))) ∧ ∀ i, 12 ≤ i → i < 32 → bt (gi σ 101 4) i = false
theorem Ur.z {U0 : Int32} {k : Nat} {σ τ τ' : Mem} (h : Ur U0 k σ τ) (h0 : gi σ 101 4 = 0) (hm : Mo τ τ') : Ur U0 k σ τ' := ⟨fun q hq => by
    have a := h.1 q hq
    rw [h0, bt_0] at a
    rw [h0, bt_0]
    cases hb : bt U0 q with
    | false => rfl
    | true =>
      rw [hb, Bool.true_and] at a
      have a2 : ¬ gi τ 30 q < gi σ (40 + k) q := of_decide_eq_false a.symm
      rw [Bool.true_and, decide_eq_false (Int32.not_lt.mpr (Int32.le_trans (Int32.not_lt.mp a2) (hm q hq)))], h.2⟩
theorem Ur.skip {U0 : Int32} {k q0 : Nat} {σ τ τ' : Mem} {v : Int32} (h : Ur U0 k σ τ) (h0 : ¬ bt (gi σ 101 4) q0 = true) (p4 : gi τ' 30 q0 = imax (gi τ 30 q0) v) (p5 : ∀ i, ¬ i = q0 → gi τ' 30 i = gi τ 30 i) : Ur U0 k σ τ' := ⟨fun q hq => by
    by_cases e : q = q0
    · subst e
      have a := h.1 q hq
      rw [show bt (gi σ 101 4) q = false by
        cases z : bt (gi σ 101 4) q with
        | false => rfl
        | true => exact absurd z h0] at a ⊢
      cases hb : bt U0 q with
      | false => rfl
      | true =>
        rw [hb, Bool.true_and] at a
        have a2 : ¬ gi τ 30 q < gi σ (40 + k) q := of_decide_eq_false a.symm
        rw [Bool.true_and, p4, decide_eq_false (fun y => a2 ((imax_lt _ _ _).mp y).1)]
    · rw [p5 q e]
      exact h.1 q hq, h.2⟩
theorem Ur.k {U0 : Int32} {k lw : Nat} {σ σ' τ : Mem} (h : Ur U0 k σ τ) (hlw : lw = 77 ∨ lw = 85) (hk : k < 6) (h1 : ∀ c i, ¬ c = lw + 7 → gi σ' c i = gi σ c i) : Ur U0 k σ' τ := ⟨fun q hq => by
    rw [h1 101 4 (by omega), h1 (40 + k) q (by omega)]
    exact h.1 q hq, fun i a b => by
    rw [h1 101 4 (by omega)]
    exact h.2 i a b⟩
def mk1 (k : Nat) (σ : Mem) (p : Nat) (l : Int32) : Mem := if l < gi σ (40 + k) p then σ else si σ 101 4 (gi σ 101 4 &&& (((1 : Int32) <<< (nI p &&& 31)) ^^^ (-1)))
theorem mk1_k (lw k : Nat) (σ : Mem) (p : Nat) (l : Int32) : Kpt lw σ (mk1 k σ p l) := fun c i _ z => by
  unfold mk1
  by_cases e : l < gi σ (40 + k) p
  · rw [if_pos e]
  · rw [if_neg e, gi_ne z]
theorem Ur.mk {U0 : Int32} {k q : Nat} {σ τ τ' : Mem} {l : Int32} (h : Ur U0 k σ τ) (hk : k < 6) (hq : q < 12) (p4 : gi τ' 30 q = imax (gi τ 30 q) l) (p5 : ∀ i, ¬ i = q → gi τ' 30 i = gi τ 30 i) : Ur U0 k (mk1 k σ q l) τ' := by
  unfold mk1
  by_cases z : l < gi σ (40 + k) q
  · rw [if_pos z]
    refine ⟨fun i hi => ?_, h.2⟩
    rw [h.1 i hi]
    by_cases e : i = q
    · subst e
      rw [p4, show decide (imax (gi τ 30 i) l < gi σ (40 + k) i) = decide (gi τ 30 i < gi σ (40 + k) i) from decide_eq_decide.mpr ((imax_lt _ _ _).trans ⟨fun y => y.1, fun y => ⟨y, z⟩⟩)]
    · rw [p5 i e]
  · rw [if_neg z]
    refine ⟨fun i hi => ?_, fun i a b => ?_⟩
    · rw [gi_eq, gi_ne (show ¬ 40 + k = 101 by omega), b_clr _ (by omega) (by omega), h.1 i hi]
      by_cases e : i = q
      · subst e
        rw [p4, decide_eq_false (fun y : imax (gi τ 30 i) l < gi σ (40 + k) i => z ((imax_lt _ _ _).mp y).2)]
        simp
      · rw [p5 i e, decide_eq_false e]
        simp
    · rw [gi_eq, b_clr _ (by omega) b, h.2 i a b]
      rfl
theorem follow_end (N : Nat) {g0 : Int32 → Int32 → Int32 → Int32 → Nat → Nat → Mem → Option (Unit × Mem)} {x1 x2 x3 x8 : Int32} {x5 x7 : Nat} {s : Mem} : ∀ M, 0 < M → itr (fun _ _ => none) (st_X2_follow_45 N g0 x1 x2 x3 x5 x7 x8 (nI 5)) M 0 s = some ((), s)
  | 0, h => absurd h (by decide)
  | M + 1, _ => by
    show st_X2_follow_45 N g0 x1 x2 x3 x5 x7 x8 (nI 5) _ 0 s = _
    unfold st_X2_follow_45
    rw [if_neg (by decide), if_pos (by decide)]
def Node (N : Nat) (LV : LVt) (LX : LXt) (lw mo k n lev : Nat) (U0 : Int32) : Prop := ∀ (D M : Nat) (w t : Nat → Nat) (p l : Nat) (passed : Int32) (σ τ : Mem), w lev = p → t lev = l → n < D → Cn n ≤ M → Tw LV LX lw mo σ τ → Wy lev w t τ → Hm (passed ||| ((1 : Int32) <<< (nI p &&& 31))) lev w → (∀ i, 12 ≤ i → i < 32 → bt passed i = false) → bt passed p = false → cnt passed 12 = lev → Ur U0 k (mk1 k σ p (nI l)) τ → ∃ σ' τ' M', gr_X2_follow N D (nI k) (nI p) (nI l) passed 32 lw σ = some ((), σ') ∧ itr (fun _ _ _ => none) (st_X10_laysTales_73 N (nI k)) M (nI lev) 0 τ = itr (fun _ _ _ => none) (st_X10_laysTales_73 N (nI k)) M' (nI lev - 1) (nI p + 1) τ' ∧ M ≤ M' + Cn n ∧ Ur U0 k σ' τ' ∧ Kpt lw σ σ' ∧ Kqt τ τ' ∧ ∀ i, i ≤ lev → gi τ' 31 i = gi τ 31 i ∧ gi τ' 32 i = gi τ 32 i
theorem t_loop (N : Nat) (hN : 300 ≤ N) {LV : LVt} {LX : LXt} {lw mo k n lev : Nat} {U0 : Int32} (hk : k < 6) (hlev : lev + (n + 1) = 4) (ih : Node N LV LX lw mo k n (lev + 1) U0) {D : Nat} (hD : n < D) {w t : Nat → Nat} {p l : Nat} {here : Int32} (hwp : w lev = p) (htl : t lev = l) (hh : Hm here lev w) (hlow : ∀ i, 12 ≤ i → i < 32 → bt here i = false) (hc : cnt here 12 = lev + 1) : ∀ (u q Mc M : Nat) (σ τ : Mem), q + u = 12 → u < Mc → 1 + u * (1 + Cn n) ≤ M → Tw LV LX lw mo σ τ → Wy lev w t τ → Ur U0 k σ τ → ∃ σ' τ' M', itr (fun _ _ => none) (st_X2_follow_45 N (gr_X2_follow N D) (nI k) (nI p) (nI l) 32 lw here (nI (lev + 1))) Mc (nI q) σ = some ((), σ') ∧ itr (fun _ _ _ => none) (st_X10_laysTales_73 N (nI k)) M (nI lev) (nI q) τ = itr (fun _ _ _ => none) (st_X10_laysTales_73 N (nI k)) M' (nI lev - 1) (nI p + 1) τ' ∧ M ≤ M' + (1 + u * (1 + Cn n)) ∧ Ur U0 k σ' τ' ∧ Kpt lw σ σ' ∧ Kqt τ τ' ∧ ∀ i, i ≤ lev → gi τ' 31 i = gi τ 31 i ∧ gi τ' 32 i = gi τ 32 i
  | u, q, 0, _, σ, τ, _, h2, _, _, _, _ => absurd h2 (by omega)
  | u, q, Mc + 1, 0, σ, τ, _, _, h3, _, _, _ => absurd h3 (by omega)
  | 0, q, Mc + 1, M + 1, σ, τ, h1, _, _, hT, hw, hU => by
    obtain rfl : q = 12 := by omega
    refine ⟨σ, τ, M, ?_, ?_, by omega, hU, Kpt.rf _ _, Kqt.rf _, fun _ _ => ⟨rfl, rfl⟩⟩
    · show st_X2_follow_45 N (gr_X2_follow N D) (nI k) (nI p) (nI l) 32 lw here (nI (lev + 1)) _ (nI 12) σ = _
      unfold st_X2_follow_45
      rw [if_pos (by decide)]
    · show st_X10_laysTales_73 N (nI k) _ (nI lev) (nI 12) τ = _
      rw [t_73 N hN (by omega) hw hwp hh (u := 0) (by omega)]
      exact K73_12 _ _ _ _ _ _
  | u + 1, q, Mc + 1, M + 1, σ, τ, h1, h2, h3, hT, hw, hU => by
    have hX : (u + 1) * (1 + Cn n) = u * (1 + Cn n) + (1 + Cn n) := Nat.succ_mul _ _
    have hq : q < 12 := by omega
    obtain ⟨hL, hp, hB, h147⟩ := id hT
    have hlw := isLw_or hL.1
    obtain ⟨w1, w2, w3, w4⟩ := hw lev (Nat.le_refl _)
    rw [hwp] at w1 w2
    rw [htl] at w3 w4
    obtain ⟨m, hm, m1, m2⟩ := hp.2.2 p q w2 hq
    have hgd : gd τ p here q = true ↔ (0 < m ∧ bt here q = false) := by
      unfold gd
      rw [m2]
      by_cases z : m = 0
      · subst z
        simp
        intro y
        exact absurd (show nI 0 = 0 from rfl) y
      · have := nI_ne0 (show 0 < m by omega) (by omega)
        simp [this]
        intro _
        omega
    have sC : ∀ rec, st_X2_follow_45 N (gr_X2_follow N D) (nI k) (nI p) (nI l) 32 lw here (nI (lev + 1)) rec (nI q) σ = if gi σ 101 4 = 0 then some ((), σ) else if gd τ p here q = true ∧ (lev + 1 < 4 ∨ bt (gi σ 101 4) q = true) then bd (f_X0_tellOn N 32 (nI k) (nI q) (nI l) (nI m) lw σ) (fun r14 s13 => bd (gr_X2_follow N D (nI k) (nI q) r14 here 32 lw s13) (fun _ s15 => rec (nI (q + 1)) s15)) else rec (nI (q + 1)) σ := by
      intro rec
      unfold st_X2_follow_45
      simp only [lt_p, nI_1, e_hasBit, bd_some, ite10]
      rw [if_neg (show ¬ (12 : Int32) ≤ nI q from nI_ge (b := 12) hq (by decide)), if_neg (show ¬ (4 : Int32) < nI (lev + 1) from Int32.not_lt.mpr (nI_le (b := 4) (by omega) (by decide))), chk_n w2 (by decide), chk_n hq (by decide), ix_n (by omega), ix_n (by omega), show 4 + 1 + p = 5 + p by omega, m1]
      by_cases h0 : gi σ 101 4 = 0
      · rw [if_pos h0, if_pos h0]
      · rw [if_neg h0, if_neg h0]
        by_cases z : 0 < m
        · rw [if_neg (nI_nle z (by omega))]
          by_cases y : bt here q = false
          · rw [if_neg (show ¬ hb here (nI q) from fun x => by rw [(hb_iff _ (by omega)).mp x] at y; cases y)]
            by_cases v : lev + 1 < 4
            · rw [if_pos (show nI (lev + 1) < 4 from nI_lt (b := 4) v (by decide)), if_pos ⟨hgd.mpr ⟨z, y⟩, Or.inl v⟩]
            · rw [if_neg (show ¬ nI (lev + 1) < 4 from Int32.not_lt.mpr (nI_le (a := 4) (by omega) (by omega)))]
              by_cases x : bt (gi σ 101 4) q = true
              · rw [if_pos ((hb_iff _ (by omega)).mpr x), if_pos ⟨hgd.mpr ⟨z, y⟩, Or.inr x⟩]
              · rw [if_neg (fun s => x ((hb_iff _ (by omega)).mp s)), if_neg (fun s => s.2.elim v x)]
          · rw [if_pos (show hb here (nI q) from (hb_iff _ (by omega)).mpr (by
              cases v : bt here q with
              | true => rfl
              | false => exact absurd v y)), if_neg (fun x => y (hgd.mp x.1).2)]
        · rw [if_pos (show nI m ≤ 0 by rw [show m = 0 by omega]; decide), if_neg (fun x => z (hgd.mp x.1).1)]
    have eC : itr (fun _ _ => none) (st_X2_follow_45 N (gr_X2_follow N D) (nI k) (nI p) (nI l) 32 lw here (nI (lev + 1))) (Mc + 1) (nI q) σ = _ := sC (itr (fun _ _ => none) (st_X2_follow_45 N (gr_X2_follow N D) (nI k) (nI p) (nI l) 32 lw here (nI (lev + 1))) Mc)
    have eM : itr (fun _ _ _ => none) (st_X10_laysTales_73 N (nI k)) (M + 1) (nI lev) (nI q) τ = K73 N (nI k) (nI lev) (nI p) (itr (fun _ _ _ => none) (st_X10_laysTales_73 N (nI k)) M) (nI (if gd τ p here q = true then q else nxt (gd τ p here) u (q + 1))) τ := t_73 N hN (by omega) hw hwp hh (u := u + 1) (by omega) _
    by_cases h0 : gi σ 101 4 = 0
    · rw [if_pos h0] at eC
      obtain ⟨τ', M', r1, r2, r3, r4, r5⟩ := t_loopM N hN hlev (t_nodeM N hN n (lev + 1) (by omega)) hwp hh (u + 1) q (M + 1) τ h1 h3 hT hw
      exact ⟨σ, τ', M', eC, r1, r2, hU.z h0 r3, Kpt.rf _ _, r4, r5⟩
    · rw [if_neg h0] at eC
      by_cases hg : gd τ p here q = true
      · rw [if_pos hg] at eM
        obtain ⟨hm0, hbq⟩ := hgd.mp hg
        obtain ⟨τ5, p1, p2, p3, p4, p5, p6, p7⟩ := t_push N hN (k := k) hT (by omega) hw hwp hq m2
        rw [htl] at p3 p4
        by_cases hy : lev + 1 < 4 ∨ bt (gi σ 101 4) q = true
        · rw [if_pos ⟨hg, hy⟩] at eC
          have htd : f_X0_tired N 32 (nI q) σ = some (tir τ q, σ) := e_tiredS N (by omega) hB hq (fun _ _ => rfl)
          have hwe : gi σ (32 + 1) q = gi τ 1 q := hB.1.1 q hq
          have hmo : gi σ 32 11 = nI mo := hB.1.2.2.2.2.1.trans h147
          obtain ⟨σ1, t1, t2⟩ := e_tellOn N hN (b := 32) (k := k) (p := q) (mo := mo) (l := l) (d := nI m) (w := gi τ 1 q) (r := tir τ q) hL (Or.inl rfl) hq w4 hwe htd hmo
          generalize hv : min 99999 (l + LV 116 999 (fc (nI q) (gi τ 1 q) (tir τ q) (nI k) (nI l) (nI m) (nI mo - nI mo / 12 * 12))) = l' at *
          have hl' : l' ≤ 99999 := by rw [← hv]; exact Nat.min_le_left _ _
          have kp1 : Kpt lw σ σ1 := fun c i z _ => t2 c i z
          obtain ⟨σ2, τ6, M2, r1, r2, r3, r4, r5, r6, r7⟩ := ih D M (fun i => if i = lev + 1 then q else w i) (fun i => if i = lev + 1 then l' else t i) q l' here σ1 τ5 (if_pos rfl) (if_pos rfl) hD (by omega) (hT.k kp1 p7) (hw.push hq hl' p2 p3 p6) (hh.push hq) hlow hbq hc ((hU.k hlw hk t2).mk hk hq p4 p5)
          rw [t1, bd_some, r1, bd_some] at eC
          rw [p1, r2, show nI (lev + 1) - 1 = nI lev by rw [li_1, pk_sub (by omega)]; rfl, nI_1] at eM
          obtain ⟨σ3, τ7, M3, s1, s2, s3, s4, s5, s6, s7⟩ := t_loop N hN hk hlev ih hD hwp htl hh hlow hc u (q + 1) Mc M2 σ2 τ6 (by omega) (by omega) (by omega) ((hT.k kp1 p7).k r5 r6) ((hw.kept p6).kept (fun i hi => r7 i (by omega))) r4
          refine ⟨σ3, τ7, M3, eC.trans s1, eM.trans s2, by omega, s4, (kp1.tr r5).tr s5, (p7.tr r6).tr s6, fun i hi => ?_⟩
          rw [(s7 i hi).1, (s7 i hi).2, (r7 i (by omega)).1, (r7 i (by omega)).2, (p6 i hi).1, (p6 i hi).2]
          exact ⟨rfl, rfl⟩
        · rw [if_neg (fun x => hy x.2)] at eC
          have hy1 : ¬ lev + 1 < 4 := fun x => hy (Or.inl x)
          have hn0 : n = 0 := by omega
          have hCn : Cn n = 1 := by rw [hn0]; rfl
          obtain ⟨M, rfl⟩ : ∃ M1, M = M1 + 1 := ⟨M - 1, by omega⟩
          generalize hv : min 99999 (l + LV 116 999 (fc (nI q) (gi τ 1 q) (tir τ q) (nI k) (nI l) (nI m) (nI mo - nI mo / 12 * 12))) = l' at p3 p4
          have hl' : l' ≤ 99999 := by rw [← hv]; exact Nat.min_le_left _ _
          have lf := t_leaf N hN (k := k) (M := M) (p := q) (show lev + 1 = 4 by omega) (hw.push hq hl' p2 p3 p6) (if_pos rfl)
          rw [p1, lf, show nI (lev + 1) - 1 = nI lev by rw [li_1, pk_sub (by omega)]; rfl, nI_1] at eM
          obtain ⟨σ3, τ7, M3, s1, s2, s3, s4, s5, s6, s7⟩ := t_loop N hN hk hlev ih hD hwp htl hh hlow hc u (q + 1) Mc M σ τ5 (by omega) (by omega) (by omega) (hT.k (Kpt.rf _ _) p7) (hw.kept p6) (hU.skip (fun x => hy (Or.inr x)) p4 p5)
          refine ⟨σ3, τ7, M3, eC.trans s1, eM.trans s2, by omega, s4, s5, p7.tr s6, fun i hi => ?_⟩
          rw [(s7 i hi).1, (s7 i hi).2, (p6 i hi).1, (p6 i hi).2]
          exact ⟨rfl, rfl⟩
      · rw [if_neg (fun x => hg x.1)] at eC
        rw [if_neg hg] at eM
        have eM2 : itr (fun _ _ _ => none) (st_X10_laysTales_73 N (nI k)) (M + 1) (nI lev) (nI q) τ = itr (fun _ _ _ => none) (st_X10_laysTales_73 N (nI k)) (M + 1) (nI lev) (nI (q + 1)) τ := eM.trans (t_73 N hN (by omega) hw hwp hh (u := u) (by omega) _).symm
        obtain ⟨σ3, τ7, M3, s1, s2, s3, s4⟩ := t_loop N hN hk hlev ih hD hwp htl hh hlow hc u (q + 1) Mc (M + 1) σ τ (by omega) (by omega) (by omega) hT hw hU
        exact ⟨σ3, τ7, M3, eC.trans s1, eM2.trans s2, by omega, s4⟩
theorem t_node (N : Nat) (hN : 300 ≤ N) {LV : LVt} {LX : LXt} {lw mo k : Nat} {U0 : Int32} (hk : k < 6) : ∀ (n lev : Nat), lev + n = 4 → Node N LV LX lw mo k n lev U0
  | n, lev, hlev => fun D M w t p l passed σ τ hwp htl hD hM hT hw hh hlow hnp hc hU => by
    obtain ⟨D, rfl⟩ : ∃ D', D = D' + 1 := ⟨D - 1, by omega⟩
    obtain ⟨w1, w2, w3, w4⟩ := hw lev (Nat.le_refl _)
    rw [hwp] at w1 w2
    rw [htl] at w3 w4
    have hlow' : ∀ i, 12 ≤ i → i < 32 → bt (passed ||| ((1 : Int32) <<< (nI p &&& 31))) i = false := fun i h1 h2 => by
      rw [b_set _ (by omega) h2, hlow i h1 h2]
      have : decide (i = p) = false := decide_eq_false (by omega)
      rw [this]
      rfl
    have hc' : cnt (passed ||| ((1 : Int32) <<< (nI p &&& 31))) 12 = lev + 1 := by rw [cnt_set (by omega) hnp 12 (by omega), if_pos w2, hc]
    have e0 : gr_X2_follow N (D + 1) (nI k) (nI p) (nI l) passed 32 lw σ = f1_X2_follow N (gr_X2_follow N D) (nI k) (nI p) (nI l) passed 32 lw σ := rfl
    have e1 : f1_X2_follow N (gr_X2_follow N D) (nI k) (nI p) (nI l) passed 32 lw σ = itr (fun _ _ => none) (st_X2_follow_45 N (gr_X2_follow N D) (nI k) (nI p) (nI l) 32 lw (passed ||| ((1 : Int32) <<< (nI p &&& 31))) (nI (lev + 1))) N 0 (mk1 k σ p (nI l)) := by
      have key : ∀ s : Mem, lt (passed ||| ((1 : Int32) <<< (nI p &&& 31))) (fun v3 => bd (f_J6_bitCount_0f7a4 N v3 s) (fun r5 s4 => itr (fun _ _ => none) (st_X2_follow_45 N (gr_X2_follow N D) (nI k) (nI p) (nI l) 32 lw v3 r5) N 0 s4)) = itr (fun _ _ => none) (st_X2_follow_45 N (gr_X2_follow N D) (nI k) (nI p) (nI l) 32 lw (passed ||| ((1 : Int32) <<< (nI p &&& 31))) (nI (lev + 1))) N 0 s := fun s => by
        rw [lt_p, e_bc, bd_some, bc_cnt hlow', hc']
      unfold f1_X2_follow mk1
      rw [chk_n hk (by decide), chk_n w2 (by decide), lt_p, ix_n (by omega), ix_n (by omega), show 32 + 7 + 1 + k = 40 + k by omega]
      by_cases z : nI l < gi σ (40 + k) p
      · rw [if_pos z, if_pos z]
        exact key σ
      · rw [if_neg z, if_neg z]
        exact key _
    match n, hlev, hM, hD with
    | 0, hlev, hM, hD =>
      obtain ⟨M, rfl⟩ : ∃ M', M = M' + 1 := ⟨M - 1, by have : Cn 0 = 1 := rfl; omega⟩
      refine ⟨mk1 k σ p (nI l), τ, M, ?_, t_leaf N hN (by omega) hw hwp, Nat.le_refl _, hU, mk1_k _ _ _ _ _, Kqt.rf _, fun _ _ => ⟨rfl, rfl⟩⟩
      rw [e0, e1, show lev + 1 = 5 by omega]
      exact follow_end N N (by omega)
    | n + 1, hlev, hM, hD =>
      have hC : Cn (n + 1) = 1 + 12 * (1 + Cn n) := rfl
      obtain ⟨σ', τ', M', r1, r2, r3, r4, r5, r6, r7⟩ := t_loop N hN hk hlev (t_node N hN hk n (lev + 1) (by omega)) (D := D) (by omega) hwp htl hh hlow' hc' 12 0 N M (mk1 k σ p (nI l)) τ (by omega) (by omega) (by omega) (hT.k (mk1_k _ _ _ _ _) (Kqt.rf _)) hw hU
      refine ⟨σ', τ', M', ?_, r2, by omega, r4, (mk1_k _ _ _ _ _).tr r5, r6, r7⟩
      rw [e0, e1]
      exact r1
  termination_by n => n
