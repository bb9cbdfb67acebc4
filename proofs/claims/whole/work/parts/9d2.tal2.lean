/-! tales: the reference's walk by itself -/
theorem le_imax (a b : Int32) : a ≤ imax a b := by
  unfold imax
  by_cases h : a < b
  · rw [if_pos h]; exact Int32.le_of_lt h
  · rw [if_neg h]; exact Int32.le_refl _
theorem imax_lt (a b c : Int32) : imax a b < c ↔ a < c ∧ b < c := by
  unfold imax
  by_cases h : a < b
  · rw [if_pos h]
    exact ⟨fun q => ⟨Int32.lt_of_lt_of_le h (Int32.le_of_lt q), q⟩, fun q => q.2⟩
  · rw [if_neg h]
    exact ⟨fun q => ⟨q, Int32.not_le.mp (fun z => h (Int32.lt_of_lt_of_le q z))⟩, fun q => q.1⟩
def Mo (τ τ' : Mem) : Prop := ∀ q, q < 12 → gi τ 30 q ≤ gi τ' 30 q
theorem Mo.rf (τ : Mem) : Mo τ τ := fun _ _ => Int32.le_refl _
theorem Mo.tr {τ τ1 τ2 : Mem} (h : Mo τ τ1) (h1 : Mo τ1 τ2) : Mo τ τ2 := fun q hq => Int32.le_trans (h q hq) (h1 q hq)
theorem Mo.push {τ τ5 : Mem} {q : Nat} {v : Int32} (p4 : gi τ5 30 q = imax (gi τ 30 q) v) (p5 : ∀ i, ¬ i = q → gi τ5 30 i = gi τ 30 i) : Mo τ τ5 := fun i _ => by
  by_cases e : i = q
  · rw [e, p4]; exact le_imax _ _
  · rw [p5 i e]; exact Int32.le_refl _
theorem t_73 (N : Nat) (hN : 300 ≤ N) {k lev p q u : Nat} {w t : Nat → Nat} {here : Int32} {τ : Mem} (hl : lev < 4) (hw : Wy lev w t τ) (hwp : w lev = p) (hh : Hm here lev w) (hq : q + u = 12) (rec : Int32 → Int32 → Mem → Option (Unit × Mem)) : st_X10_laysTales_73 N (nI k) rec (nI lev) (nI q) τ = K73 N (nI k) (nI lev) (nI p) rec (nI (nxt (gd τ p here) u q)) τ := by
  obtain ⟨w1, w2, -, -⟩ := hw lev (Nat.le_refl _)
  rw [hwp] at w1 w2
  rw [st73, if_neg (nI_pos (by omega)), chk_n (by omega) (by decide), ix_n (by omega), w1]
  exact lp_t85 N hN hl hw w2 hh _ u q N hq (by omega)
theorem K73_12 (N : Nat) (x1 x2 v7 : Int32) (rec : Int32 → Int32 → Mem → Option (Unit × Mem)) (τ : Mem) : K73 N x1 x2 v7 rec (nI 12) τ = rec (x2 - 1) (v7 + 1) τ := by
  unfold K73
  rw [if_pos (show nI 12 = 12 from rfl)]
  rfl
theorem Hm.push {here : Int32} {lev q : Nat} {w : Nat → Nat} (hh : Hm here lev w) (hq : q < 12) : Hm (here ||| ((1 : Int32) <<< (nI q &&& 31))) (lev + 1) (fun i => if i = lev + 1 then q else w i) := fun q' hq' => by
  rw [b_set _ (by omega) hq', Bool.or_eq_true, hh q' hq', decide_eq_true_iff]
  constructor
  · rintro (⟨j, j1, j2⟩ | e)
    · exact ⟨j, by omega, (if_neg (by omega)).trans j2⟩
    · exact ⟨lev + 1, Nat.le_refl _, (if_pos rfl).trans e.symm⟩
  · rintro ⟨j, j1, j2⟩
    by_cases e : j = lev + 1
    · exact Or.inr ((if_pos e).symm.trans j2).symm
    · exact Or.inl ⟨j, by omega, (if_neg e).symm.trans j2⟩
theorem Wy.push {lev q l' : Nat} {w t : Nat → Nat} {τ τ5 : Mem} (hw : Wy lev w t τ) (hq : q < 12) (hl' : l' ≤ 99999) (p2 : gi τ5 31 (lev + 1) = nI q) (p3 : gi τ5 32 (lev + 1) = nI l') (p6 : ∀ i, i ≤ lev → gi τ5 31 i = gi τ 31 i ∧ gi τ5 32 i = gi τ 32 i) : Wy (lev + 1) (fun i => if i = lev + 1 then q else w i) (fun i => if i = lev + 1 then l' else t i) τ5 := fun i hi => by
  show gi τ5 31 i = nI (if i = lev + 1 then q else w i) ∧ (if i = lev + 1 then q else w i) < 12 ∧ gi τ5 32 i = nI (if i = lev + 1 then l' else t i) ∧ (if i = lev + 1 then l' else t i) ≤ 99999
  by_cases e : i = lev + 1
  · rw [if_pos e, if_pos e, e]
    exact ⟨p2, hq, p3, hl'⟩
  · rw [if_neg e, if_neg e, (p6 i (by omega)).1, (p6 i (by omega)).2]
    exact hw i (by omega)
theorem Wy.kept {lev : Nat} {w t : Nat → Nat} {τ τ' : Mem} (hw : Wy lev w t τ) (h : ∀ i, i ≤ lev → gi τ' 31 i = gi τ 31 i ∧ gi τ' 32 i = gi τ 32 i) : Wy lev w t τ' := fun i hi => by
  rw [(h i hi).1, (h i hi).2]
  exact hw i hi
/-- at the fourth road the walk turns back -/
theorem t_leaf (N : Nat) (hN : 300 ≤ N) {k p lev M : Nat} {w t : Nat → Nat} {τ : Mem} (hl : lev = 4) (hw : Wy lev w t τ) (hwp : w lev = p) : itr (fun _ _ _ => none) (st_X10_laysTales_73 N (nI k)) (M + 1) (nI lev) 0 τ = itr (fun _ _ _ => none) (st_X10_laysTales_73 N (nI k)) M (nI lev - 1) (nI p + 1) τ := by
  obtain ⟨w1, w2, -, -⟩ := hw lev (Nat.le_refl _)
  rw [hwp] at w1 w2
  show st_X10_laysTales_73 N (nI k) _ (nI lev) (nI 0) τ = _
  rw [st73, if_neg (nI_pos (by omega)), chk_n (by omega) (by decide), ix_n (by omega), w1]
  rw [hl]
  exact (lp_t85e N _ 12 0 N (by omega) (by omega)).trans (K73_12 _ _ _ _ _ _)
def NodeM (N : Nat) (LV : LVt) (LX : LXt) (lw mo k n lev : Nat) (σ : Mem) : Prop := ∀ (M : Nat) (w t : Nat → Nat) (p : Nat) (here : Int32) (τ : Mem), w lev = p → Cn n ≤ M → Tw LV LX lw mo σ τ → Wy lev w t τ → Hm here lev w → ∃ τ' M', itr (fun _ _ _ => none) (st_X10_laysTales_73 N (nI k)) M (nI lev) 0 τ = itr (fun _ _ _ => none) (st_X10_laysTales_73 N (nI k)) M' (nI lev - 1) (nI p + 1) τ' ∧ M ≤ M' + Cn n ∧ Mo τ τ' ∧ Kqt τ τ' ∧ ∀ i, i ≤ lev → gi τ' 31 i = gi τ 31 i ∧ gi τ' 32 i = gi τ 32 i
theorem t_loopM (N : Nat) (hN : 300 ≤ N) {LV : LVt} {LX : LXt} {lw mo k n lev : Nat} {σ : Mem} (hlev : lev + (n + 1) = 4) (ih : NodeM N LV LX lw mo k n (lev + 1) σ) {w t : Nat → Nat} {p : Nat} {here : Int32} (hwp : w lev = p) (hh : Hm here lev w) : ∀ (u q M : Nat) (τ : Mem), q + u = 12 → 1 + u * (1 + Cn n) ≤ M → Tw LV LX lw mo σ τ → Wy lev w t τ → ∃ τ' M', itr (fun _ _ _ => none) (st_X10_laysTales_73 N (nI k)) M (nI lev) (nI q) τ = itr (fun _ _ _ => none) (st_X10_laysTales_73 N (nI k)) M' (nI lev - 1) (nI p + 1) τ' ∧ M ≤ M' + (1 + u * (1 + Cn n)) ∧ Mo τ τ' ∧ Kqt τ τ' ∧ ∀ i, i ≤ lev → gi τ' 31 i = gi τ 31 i ∧ gi τ' 32 i = gi τ 32 i
  | u, q, 0, τ, _, h3, _, _ => absurd h3 (by omega)
  | 0, q, M + 1, τ, h1, _, hT, hw => by
    obtain rfl : q = 12 := by omega
    refine ⟨τ, M, ?_, by omega, Mo.rf _, Kqt.rf _, fun _ _ => ⟨rfl, rfl⟩⟩
    show st_X10_laysTales_73 N (nI k) _ (nI lev) (nI 12) τ = _
    rw [t_73 N hN (by omega) hw hwp hh (u := 0) (by omega)]
    exact K73_12 _ _ _ _ _ _
  | u + 1, q, M + 1, τ, h1, h3, hT, hw => by
    have hX : (u + 1) * (1 + Cn n) = u * (1 + Cn n) + (1 + Cn n) := Nat.succ_mul _ _
    have hq : q < 12 := by omega
    obtain ⟨w1, w2, w3, w4⟩ := hw lev (Nat.le_refl _)
    rw [hwp] at w1 w2
    obtain ⟨m, hm, m1, m2⟩ := hT.2.1.2.2 p q w2 hq
    have eM : itr (fun _ _ _ => none) (st_X10_laysTales_73 N (nI k)) (M + 1) (nI lev) (nI q) τ = K73 N (nI k) (nI lev) (nI p) (itr (fun _ _ _ => none) (st_X10_laysTales_73 N (nI k)) M) (nI (if gd τ p here q = true then q else nxt (gd τ p here) u (q + 1))) τ := t_73 N hN (by omega) hw hwp hh (u := u + 1) (by omega) _
    by_cases hg : gd τ p here q = true
    · rw [if_pos hg] at eM
      obtain ⟨τ5, p1, p2, p3, p4, p5, p6, p7⟩ := t_push N hN (k := k) hT (by omega) hw hwp hq m2
      generalize hv : min 99999 (t lev + LV 116 999 (fc (nI q) (gi τ 1 q) (tir τ q) (nI k) (nI (t lev)) (nI m) (nI mo - nI mo / 12 * 12))) = l' at p3 p4
      have hl' : l' ≤ 99999 := by rw [← hv]; exact Nat.min_le_left _ _
      obtain ⟨τ6, M2, r2, r3, r4, r6, r7⟩ := ih M (fun i => if i = lev + 1 then q else w i) (fun i => if i = lev + 1 then l' else t i) q (here ||| ((1 : Int32) <<< (nI q &&& 31))) τ5 (if_pos rfl) (by omega) (hT.k (Kpt.rf _ _) p7) (hw.push hq hl' p2 p3 p6) (hh.push hq)
      rw [p1, r2, show nI (lev + 1) - 1 = nI lev by rw [li_1, pk_sub (by omega)]; rfl, nI_1] at eM
      obtain ⟨τ7, M3, s2, s3, s4, s6, s7⟩ := t_loopM N hN hlev ih hwp hh u (q + 1) M2 τ6 (by omega) (by omega) ((hT.k (Kpt.rf _ _) p7).k (Kpt.rf _ _) r6) ((hw.kept p6).kept (fun i hi => r7 i (by omega)))
      refine ⟨τ7, M3, eM.trans s2, by omega, ((Mo.push p4 p5).tr r4).tr s4, (p7.tr r6).tr s6, fun i hi => ?_⟩
      rw [(s7 i hi).1, (s7 i hi).2, (r7 i (by omega)).1, (r7 i (by omega)).2, (p6 i hi).1, (p6 i hi).2]
      exact ⟨rfl, rfl⟩
    · rw [if_neg hg] at eM
      have eM2 : itr (fun _ _ _ => none) (st_X10_laysTales_73 N (nI k)) (M + 1) (nI lev) (nI q) τ = itr (fun _ _ _ => none) (st_X10_laysTales_73 N (nI k)) (M + 1) (nI lev) (nI (q + 1)) τ := eM.trans (t_73 N hN (by omega) hw hwp hh (u := u) (by omega) _).symm
      obtain ⟨τ7, M3, s2, s3, s4⟩ := t_loopM N hN hlev ih hwp hh u (q + 1) (M + 1) τ (by omega) (by omega) hT hw
      exact ⟨τ7, M3, eM2.trans s2, by omega, s4⟩
theorem t_nodeM (N : Nat) (hN : 300 ≤ N) {LV : LVt} {LX : LXt} {lw mo k : Nat} {σ : Mem} : ∀ (n lev : Nat), lev + n = 4 → NodeM N LV LX lw mo k n lev σ
  | 0, lev, hlev => fun M w t p here τ hwp hM hT hw hh => by
    obtain ⟨M, rfl⟩ : ∃ M', M = M' + 1 := ⟨M - 1, by have : Cn 0 = 1 := rfl; omega⟩
    exact ⟨τ, M, t_leaf N hN (by omega) hw hwp, Nat.le_refl _, Mo.rf _, Kqt.rf _, fun _ _ => ⟨rfl, rfl⟩⟩
  | n + 1, lev, hlev => fun M w t p here τ hwp hM hT hw hh => by
    have hC : Cn (n + 1) = 1 + 12 * (1 + Cn n) := rfl
    obtain ⟨τ', M', r1, r2, r3⟩ := t_loopM N hN (by omega) (t_nodeM N hN n (lev + 1) (by omega)) hwp hh 12 0 M τ (by omega) (by omega) hT hw
    exact ⟨τ', M', r1, by omega, r3⟩
