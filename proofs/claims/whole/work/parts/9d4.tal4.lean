/-! tales: the walk whole -/
theorem lp_l2 (N : Nat) {x1 : Int32} (K : Mem → Option (Unit × Mem)) : ∀ (u p M : Nat) (τ : Mem), p + u = 12 → u < M → ∃ τ', itr (fun _ _ => none) (st_X10_laysTales_2 N x1 K) M (nI p) τ = K τ' ∧ (∀ c i, ¬ c = 30 → gi τ' c i = gi τ c i) ∧ (∀ i, i < p → gi τ' 30 i = gi τ 30 i) ∧ ∀ i, p ≤ i → i < 12 → gi τ' 30 i = -1
  | u, p, 0, τ, _, h2 => absurd h2 (by omega)
  | 0, p, M + 1, τ, h1, _ => by
    refine ⟨τ, ?_, fun _ _ _ => rfl, fun _ _ => rfl, fun i hi hi2 => absurd hi2 (by omega)⟩
    show st_X10_laysTales_2 N x1 K _ (nI p) τ = _
    unfold st_X10_laysTales_2
    rw [if_pos (show (12 : Int32) ≤ nI p from nI_le (a := 12) (by omega) (by omega))]
  | u + 1, p, M + 1, τ, h1, h2 => by
    have hp : p < 12 := by omega
    have e : ∀ rec, st_X10_laysTales_2 N x1 K rec (nI p) τ = rec (nI (p + 1)) (si τ 30 p (-1)) := by
      intro rec
      unfold st_X10_laysTales_2
      simp only [lt_p, nI_1]
      rw [if_neg (show ¬ (12 : Int32) ≤ nI p from nI_ge (b := 12) hp (by decide)), chk_n hp (by decide), ix_n (by omega)]
    have e' : itr (fun _ _ => none) (st_X10_laysTales_2 N x1 K) (M + 1) (nI p) τ = _ := e (itr (fun _ _ => none) (st_X10_laysTales_2 N x1 K) M)
    obtain ⟨τ', r1, r2, r3, r4⟩ := lp_l2 N K u (p + 1) M (si τ 30 p (-1)) (by omega) (by omega)
    refine ⟨τ', e'.trans r1, fun c i h => ?_, fun i h => ?_, fun i h h' => ?_⟩
    · rw [r2 c i h, gi_ne h]
    · rw [r3 i (by omega), gi_ni (by omega)]
    · by_cases y : i = p
      · rw [y, r3 p (by omega), gi_eq]
      · exact r4 i (by omega) h'
theorem imax_m1 {l : Nat} (h : l < 2 ^ 31) : imax (-1) (nI l) = nI l := by
  unfold imax
  rw [if_pos (Int32.lt_of_lt_of_le (show (-1 : Int32) < 0 by decide) (Int32.not_lt.mp (nI_pos h)))]
/-- the walk from home: which tales are unproved -/
theorem s_laysT (N : Nat) (hN : 50000 ≤ N) {LV : LVt} {LX : LXt} {lw mo k : Nat} {σ τ : Mem} (hk : k < 6) (hT : Tw LV LX lw mo σ τ) (hi : Inv (Al τ 1)) (U0 : Int32) (hU0 : gi σ 101 4 = U0) (hlow : ∀ i, 12 ≤ i → i < 32 → bt U0 i = false) (hnn : ∀ q, q < 12 → bt U0 q = true → (-1 : Int32) < gi σ (40 + k) q) : ∃ σ' τ', f_X2_follow N 100 (nI k) (gi σ 34 k) (gi σ 35 k) 0 32 lw σ = some ((), σ') ∧ f_X10_laysTales N (nI k) τ = some ((), τ') ∧ Ur U0 k σ' τ' ∧ Kpt lw σ σ' ∧ Kqt τ τ' := by
  obtain ⟨⟨h, hh12, eh⟩, ⟨l, hl9, el⟩, -, -⟩ := hi.2.2.1 k hk
  unfold f_X10_laysTales
  obtain ⟨τ1, b1, b2, -, b4⟩ := lp_l2 N (x1 := nI k) (fun  (s3 : Mem) => chk ((126 : Int32) + nI k) 151 (chk 0 5 (lt (si s3 31 (ix (0 : Int32)) (gi s3 1 (ix ((126 : Int32) + nI k)))) (fun s4 => chk ((132 : Int32) + nI k) 151 (chk 0 5 (lt (si s4 32 (ix (0 : Int32)) (gi s4 1 (ix ((132 : Int32) + nI k)))) (fun s5 => chk 0 5 (chk 0 5 (chk (gi s5 31 (ix (0 : Int32))) 12 (lt (si s5 30 (ix (gi s5 31 (ix (0 : Int32)))) (gi s5 32 (ix (0 : Int32)))) (fun s6 => itr (fun _ _ _ => none) (st_X10_laysTales_73 N (nI k)) N 0 0 s6))))))))))) 12 0 N τ (by omega) (by omega)
  have eh1 : gi τ1 1 (126 + k) = nI h := by rw [b2 _ _ (by decide)]; exact eh
  have el1 : gi τ1 1 (132 + k) = nI l := by rw [b2 _ _ (by decide)]; exact el
  have c34 : gi σ 34 k = nI h := ((hT.2.2.1.2.1 k hk).1).trans eh
  have c35 : gi σ 35 k = nI l := ((hT.2.2.1.2.1 k hk).2.1).trans el
  have hz : ix (0 : Int32) = 0 := by decide
  have c0 : ∀ {α : Type} (e : Option α), chk 0 5 e = e := fun e => chk_n (n := 0) (by decide) (by decide)
  have g1 : gi (si τ1 31 0 (nI h)) 1 (132 + k) = nI l := by rw [gi_ne (by decide)]; exact el1
  have g2 : gi (si (si τ1 31 0 (nI h)) 32 0 (nI l)) 31 0 = nI h := by rw [gi_ne (by decide), gi_eq]
  have g3 : gi (si (si τ1 31 0 (nI h)) 32 0 (nI l)) 32 0 = nI l := gi_eq _ _ _ _
  have eM : itr (fun _ _ => none) (st_X10_laysTales_2 N (nI k) (fun  (s3 : Mem) => chk ((126 : Int32) + nI k) 151 (chk 0 5 (lt (si s3 31 (ix (0 : Int32)) (gi s3 1 (ix ((126 : Int32) + nI k)))) (fun s4 => chk ((132 : Int32) + nI k) 151 (chk 0 5 (lt (si s4 32 (ix (0 : Int32)) (gi s4 1 (ix ((132 : Int32) + nI k)))) (fun s5 => chk 0 5 (chk 0 5 (chk (gi s5 31 (ix (0 : Int32))) 12 (lt (si s5 30 (ix (gi s5 31 (ix (0 : Int32)))) (gi s5 32 (ix (0 : Int32)))) (fun s6 => itr (fun _ _ _ => none) (st_X10_laysTales_73 N (nI k)) N 0 0 s6)))))))))))) N 0 τ = itr (fun _ _ _ => none) (st_X10_laysTales_73 N (nI k)) N (nI 0) 0 (si (si (si τ1 31 0 (nI h)) 32 0 (nI l)) 30 h (nI l)) := by
    refine b1.trans ?_
    simp only [lt_p]
    rw [li_126, nI_add, chk_n (by omega) (by decide), c0, hz, ix_n (by omega), eh1, li_132, nI_add, chk_n (by omega) (by decide), c0, ix_n (by omega), g1, c0, c0, g2, g3, chk_n hh12 (by decide), ix_n (by omega)]
    rfl
  have kq1 : Kqt τ (si (si (si τ1 31 0 (nI h)) 32 0 (nI l)) 30 h (nI l)) := fun c i _ _ z3 z4 z5 => by rw [gi_ne z3, gi_ne z5, gi_ne z4, b2 c i z3]
  have u1 : Ur U0 k σ τ1 := ⟨fun q hq => by
    rw [hU0, b4 q (by omega) hq]
    cases hb : bt U0 q with
    | false => rfl
    | true => rw [decide_eq_true (hnn q hq hb)]; rfl, fun i a b => by rw [hU0]; exact hlow i a b⟩
  have u2 : Ur U0 k (mk1 k σ h (nI l)) (si (si (si τ1 31 0 (nI h)) 32 0 (nI l)) 30 h (nI l)) := u1.mk hk hh12 (by rw [gi_eq, b4 h (by omega) hh12, imax_m1 (by omega)]) (fun i e => by rw [gi_ni e, gi_ne (by decide), gi_ne (by decide)])
  obtain ⟨σ2, τ2, M', r1, r2, r3, r4, r5, r6, -⟩ := t_node N (by omega) (U0 := U0) hk 4 0 (by omega) 100 N (fun _ => h) (fun _ => l) h l 0 σ (si (si (si τ1 31 0 (nI h)) 32 0 (nI l)) 30 h (nI l)) rfl rfl (by omega) (by have : Cn 4 = 45241 := rfl; omega) (hT.k (Kpt.rf _ _) kq1) (fun i hi => by
    obtain rfl : i = 0 := by omega
    exact ⟨by rw [gi_ne (by decide)]; exact g2, hh12, by rw [gi_ne (by decide)]; exact g3, show l ≤ 99999 by omega⟩) (fun q hq => by
    rw [b_set _ (by omega) hq, show bt 0 q = false from bt_0 q]
    simp
    exact ⟨fun e => e.symm, fun e => e.symm⟩) (fun i _ _ => bt_0 i) (bt_0 h) cnt_z u2
  have hM' : 1 ≤ M' := by have : Cn 4 = 45241 := rfl; omega
  obtain ⟨M', rfl⟩ : ∃ M2, M' = M2 + 1 := ⟨M' - 1, by omega⟩
  refine ⟨σ2, τ2, ?_, ?_, r4, r5, kq1.tr r6⟩
  · rw [c34, c35]
    exact r1
  · rw [eM, r2]
    show st_X10_laysTales_73 N (nI k) _ (nI 0 - 1) _ τ2 = _
    rw [st73, if_pos (by decide)]
theorem set_step {Q : Nat → Prop} {x3 x3n x3' : Int32} {p : Nat} (hp : p < 12) (hn : (x3n = x3 ∧ ¬ Q p) ∨ (x3n = x3 ||| ((1 : Int32) <<< (nI p &&& 31)) ∧ Q p)) (h : ∀ i, i < 32 → (bt x3' i = true ↔ bt x3n i = true ∨ (p + 1 ≤ i ∧ i < 12 ∧ Q i))) : ∀ i, i < 32 → (bt x3' i = true ↔ bt x3 i = true ∨ (p ≤ i ∧ i < 12 ∧ Q i)) := fun i hi => (h i hi).trans (by
  rcases hn with ⟨rfl, z⟩ | ⟨rfl, z⟩
  · refine ⟨fun a => a.elim Or.inl (fun a => Or.inr ⟨by have := a.1; omega, a.2⟩), fun a => a.elim Or.inl (fun a => Or.inr ⟨?_, a.2⟩)⟩
    have a1 := a.1
    by_cases y : i = p
    · rw [y] at a
      exact absurd a.2.2 z
    · omega
  · rw [b_set _ (by omega) hi, Bool.or_eq_true, decide_eq_true_iff]
    constructor
    · rintro ((a | e) | ⟨a, b⟩)
      · exact Or.inl a
      · rw [e]
        exact Or.inr ⟨Nat.le_refl _, hp, z⟩
      · exact Or.inr ⟨by omega, b⟩
    · rintro (a | ⟨a, b⟩)
      · exact Or.inl (Or.inl a)
      · by_cases y : i = p
        · exact Or.inl (Or.inr y)
        · exact Or.inr ⟨by omega, b⟩)
/-- those told smaller than the loss -/
theorem lp_small (N : Nat) {k lw : Nat} {σ : Mem} (hk : k < 6) (K : Int32 → Mem → Option (Int32 × Mem)) : ∀ (u p M : Nat) (x5 : Int32), p + u = 12 → u < M → ∃ x5', itr (fun _ _ _ => none) (st_X2_falseTales_6 N (nI k) 32 lw K) M x5 (nI p) σ = K x5' σ ∧ ∀ i, i < 32 → (bt x5' i = true ↔ bt x5 i = true ∨ (p ≤ i ∧ i < 12 ∧ bt (gi σ 37 k) i = true ∧ gi σ (40 + k) i < gi σ 35 k))
  | u, p, 0, x5, _, h2 => absurd h2 (by omega)
  | 0, p, M + 1, x5, h1, _ => by
    refine ⟨x5, ?_, fun i _ => ⟨Or.inl, fun z => z.elim id (fun y => by omega)⟩⟩
    show st_X2_falseTales_6 N (nI k) 32 lw K _ x5 (nI p) σ = _
    unfold st_X2_falseTales_6
    rw [if_pos (show (12 : Int32) ≤ nI p from nI_le (a := 12) (by omega) (by omega))]
  | u + 1, p, M + 1, x5, h1, h2 => by
    have hp : p < 12 := by omega
    have e : ∀ rec, st_X2_falseTales_6 N (nI k) 32 lw K rec x5 (nI p) σ = if bt (gi σ 37 k) p = true ∧ gi σ (40 + k) p < gi σ 35 k then rec (x5 ||| ((1 : Int32) <<< (nI p &&& 31))) (nI (p + 1)) σ else rec x5 (nI (p + 1)) σ := by
      intro rec
      unfold st_X2_falseTales_6
      have c2 : ∀ {α : Type} (e : Option α), chk (nI k) 6 e = e := fun e => chk_n hk (by decide)
      simp only [lt_p, nI_1, e_hasBit, bd_some, ite10, c2]
      rw [if_neg (show ¬ (12 : Int32) ≤ nI p from nI_ge (b := 12) hp (by decide)), chk_n hp (by decide), ix_n (by omega), ix_n (by omega), show 32 + 5 = 37 from rfl, show 32 + 3 = 35 from rfl, show 32 + 7 + 1 + k = 40 + k by omega]
      by_cases z : bt (gi σ 37 k) p = true
      · rw [if_pos (show hb (gi σ 37 k) (nI p) from (hb_iff _ (by omega)).mpr z)]
        by_cases y : gi σ (40 + k) p < gi σ 35 k
        · rw [if_neg (Int32.not_le.mpr y), if_pos ⟨z, y⟩]
        · rw [if_pos (Int32.not_lt.mp y), if_neg (fun x => y x.2)]
      · rw [if_neg (show ¬ hb (gi σ 37 k) (nI p) from fun x => z ((hb_iff _ (by omega)).mp x)), if_neg (fun x => z x.1)]
    have e' : itr (fun _ _ _ => none) (st_X2_falseTales_6 N (nI k) 32 lw K) (M + 1) x5 (nI p) σ = _ := e (itr (fun _ _ _ => none) (st_X2_falseTales_6 N (nI k) 32 lw K) M)
    by_cases z : bt (gi σ 37 k) p = true ∧ gi σ (40 + k) p < gi σ 35 k
    · rw [if_pos z] at e'
      obtain ⟨x5', r1, r2⟩ := lp_small N hk K u (p + 1) M (x5 ||| ((1 : Int32) <<< (nI p &&& 31))) (by omega) (by omega)
      exact ⟨x5', e'.trans r1, set_step (Q := fun i => bt (gi σ 37 k) i = true ∧ gi σ (40 + k) i < gi σ 35 k) hp (Or.inr ⟨rfl, z⟩) r2⟩
    · rw [if_neg z] at e'
      obtain ⟨x5', r1, r2⟩ := lp_small N hk K u (p + 1) M x5 (by omega) (by omega)
      exact ⟨x5', e'.trans r1, set_step (Q := fun i => bt (gi σ 37 k) i = true ∧ gi σ (40 + k) i < gi σ 35 k) hp (Or.inl ⟨rfl, z⟩) r2⟩
