/-! spreads: what is asked -/
theorem lp_sp3 (N : Nat) {k lw : Nat} (hk : k < 6) (K : Mem → Option (Unit × Mem)) : ∀ (u p M : Nat) (σ : Mem), p + u = 12 → u < M → ∃ σ', itr (fun _ _ => none) (st_X2_spread_3 N (nI k) 62 lw K) M (nI p) σ = K σ' ∧ (∀ c i, ¬ c = 102 → gi σ' c i = gi σ c i) ∧ (∀ i, i < p → gi σ' 102 i = gi σ 102 i) ∧ ∀ i, p ≤ i → i < 12 → gi σ' 102 i = if bt (gi σ 67 k) i = true then 0 else -2
  | u, p, 0, σ, _, h2 => absurd h2 (by omega)
  | 0, p, M + 1, σ, h1, _ => by
    refine ⟨σ, ?_, fun _ _ _ => rfl, fun _ _ => rfl, fun i hi hi2 => absurd hi2 (by omega)⟩
    show st_X2_spread_3 N (nI k) 62 lw K _ (nI p) σ = _
    unfold st_X2_spread_3
    rw [if_pos (show (12 : Int32) ≤ nI p from nI_le (a := 12) (by omega) (by omega))]
  | u + 1, p, M + 1, σ, h1, h2 => by
    have hp : p < 12 := by omega
    have e : ∀ rec, st_X2_spread_3 N (nI k) 62 lw K rec (nI p) σ = rec (nI (p + 1)) (si σ 102 p (if bt (gi σ 67 k) p = true then 0 else -2)) := by
      intro rec
      unfold st_X2_spread_3
      have i1 : ix (nI p) = p := ix_n (by omega)
      have i2 : ix (nI k) = k := ix_n (by omega)
      have c1 : ∀ {α : Type} (e : Option α), chk (nI p) 12 e = e := fun e => chk_n hp (by decide)
      have c2 : ∀ {α : Type} (e : Option α), chk (nI k) 6 e = e := fun e => chk_n hk (by decide)
      simp only [lt_p, nI_1, i1, i2, c1, c2, e_hasBit, bd_some, ite10]
      rw [if_neg (show ¬ (12 : Int32) ≤ nI p from nI_ge (b := 12) hp (by decide))]
      by_cases z : bt (gi σ 67 k) p = true
      · rw [if_pos ((hb_iff _ (by omega)).mpr z), if_pos z]
      · rw [if_neg (fun y => z ((hb_iff _ (by omega)).mp y)), if_neg z]
    have e' : itr (fun _ _ => none) (st_X2_spread_3 N (nI k) 62 lw K) (M + 1) (nI p) σ = _ := e (itr (fun _ _ => none) (st_X2_spread_3 N (nI k) 62 lw K) M)
    obtain ⟨σ', r1, r2, r3, r4⟩ := lp_sp3 N hk K u (p + 1) M (si σ 102 p (if bt (gi σ 67 k) p = true then 0 else -2)) (by omega) (by omega)
    refine ⟨σ', e'.trans r1, fun c i h => ?_, fun i h => ?_, fun i h h' => ?_⟩
    · rw [r2 c i h, gi_ne h]
    · rw [r3 i (by omega), gi_ni (by omega)]
    · by_cases y : i = p
      · rw [y, r3 p (by omega), gi_eq]
      · rw [r4 i (by omega) h', gi_ne (by decide)]
theorem lp_sp60 (N : Nat) {k : Nat} (hk : k < 6) (x2 : Int32) (K : Mem → Option (Int32 × Mem)) : ∀ (u p M : Nat) (τ : Mem), p + u = 12 → u < M → ∃ τ', itr (fun _ _ => none) (st_X10_spreads_60 N (nI k) x2 K) M (nI p) τ = K τ' ∧ (∀ c i, ¬ c = 24 → gi τ' c i = gi τ c i) ∧ (∀ i, i < p → gi τ' 24 i = gi τ 24 i) ∧ ∀ i, p ≤ i → i < 12 → gi τ' 24 i = if gi τ 1 (12 + 12 * k + i) = -1 then -2 else 0
  | u, p, 0, τ, _, h2 => absurd h2 (by omega)
  | 0, p, M + 1, τ, h1, _ => by
    refine ⟨τ, ?_, fun _ _ _ => rfl, fun _ _ => rfl, fun i hi hi2 => absurd hi2 (by omega)⟩
    show st_X10_spreads_60 N (nI k) x2 K _ (nI p) τ = _
    unfold st_X10_spreads_60
    rw [if_pos (show (12 : Int32) ≤ nI p from nI_le (a := 12) (by omega) (by omega))]
  | u + 1, p, M + 1, τ, h1, h2 => by
    have hp : p < 12 := by omega
    have e : ∀ rec, st_X10_spreads_60 N (nI k) x2 K rec (nI p) τ = rec (nI (p + 1)) (si τ 24 p (if gi τ 1 (12 + 12 * k + p) = -1 then -2 else 0)) := by
      intro rec
      unfold st_X10_spreads_60
      have i1 : ix (nI p) = p := ix_n (by omega)
      have c1 : ∀ {α : Type} (e : Option α), chk (nI p) 12 e = e := fun e => chk_n hp (by decide)
      simp only [lt_p, nI_1, i1, c1, e_isKnown N hk hp, bd_some]
      rw [if_neg (show ¬ (12 : Int32) ≤ nI p from nI_ge (b := 12) hp (by decide))]
      by_cases w : gi τ 1 (12 + 12 * k + p) = -1
      · rw [if_pos w, if_pos w, if_pos rfl]
      · rw [if_neg w, if_neg w, if_neg (by decide)]
    have e' : itr (fun _ _ => none) (st_X10_spreads_60 N (nI k) x2 K) (M + 1) (nI p) τ = _ := e (itr (fun _ _ => none) (st_X10_spreads_60 N (nI k) x2 K) M)
    obtain ⟨τ', r1, r2, r3, r4⟩ := lp_sp60 N hk x2 K u (p + 1) M (si τ 24 p (if gi τ 1 (12 + 12 * k + p) = -1 then -2 else 0)) (by omega) (by omega)
    refine ⟨τ', e'.trans r1, fun c i h => ?_, fun i h => ?_, fun i h h' => ?_⟩
    · rw [r2 c i h, gi_ne h]
    · rw [r3 i (by omega), gi_ni (by omega)]
    · by_cases y : i = p
      · rw [y, r3 p (by omega), gi_eq]
      · rw [r4 i (by omega) h', gi_ne (show ¬ 1 = 24 by decide)]
def Vb (σ τ : Mem) : Prop := ∀ p, p < 12 → gi σ 102 p = gi τ 24 p ∧ (gi τ 24 p = -2 ∨ ∃ m, m ≤ 100 ∧ gi τ 24 p = nI m)
theorem e_beh (N : Nat) {σ τ : Mem} (hv : Vb σ τ) {x4 x5 : Int32} (h : (x5 = -2 ∧ x4 = -2) ∨ ∃ q, q < 12 ∧ x5 = nI q ∧ x4 = gi τ 24 q) : f_X2_behindIn N x5 σ = some (x4, σ) := by
  unfold f_X2_behindIn
  rw [e_within, bd_some, ite10]
  rcases h with ⟨rfl, rfl⟩ | ⟨q, hq, rfl, rfl⟩
  · rw [if_neg (show ¬ inR (-2) 0 11 by decide)]
  · rw [if_pos (show inR (nI q) 0 11 from inR_of (a := 0) (b := 11) (Nat.zero_le _) (by omega) (by decide)), chk_n hq (by decide), ix_n (by omega), (hv q hq).1]
theorem m2_le {σ τ : Mem} (hv : Vb σ τ) {x4 x5 : Int32} (h : (x5 = -2 ∧ x4 = -2) ∨ ∃ q, q < 12 ∧ x5 = nI q ∧ x4 = gi τ 24 q) : (-2 : Int32) ≤ x4 := by
  rcases h with ⟨_, rfl⟩ | ⟨q, hq, _, rfl⟩
  · decide
  · rcases (hv q hq).2 with e | ⟨m, hm, e⟩
    · rw [e]; decide
    · rw [e]
      exact Int32.le_trans (show (-2 : Int32) ≤ 0 by decide) (Int32.not_lt.mp (nI_pos (by omega)))
theorem lp_s208 (N : Nat) {σ τ : Mem} (hv : Vb σ τ) (x2 : Int32) (K : Int32 → Int32 → Int32 → Mem → Option (Int32 × Mem)) : ∀ (u p M1 M2 M3 : Nat) (n x4 x5 : Int32), p + u = 12 → u < M1 → u < M2 → u < M3 → ((x5 = -2 ∧ x4 = -2) ∨ ∃ q, q < 12 ∧ x5 = nI q ∧ x4 = gi τ 24 q) → ∃ n' x4' x5', itr (fun _ _ _ _ _ => none) (st_X10_spreads_208 N x2 K) M1 n x4 x5 (nI p) τ = K n' x4' x5' τ ∧ itr (fun _ _ _ => none) (st_X2_howMany_4 N) M2 n (nI p) σ = some (n', σ) ∧ itr (fun _ _ _ => none) (st_X2_last_5 N) M3 x5 (nI p) σ = some (x5', σ) ∧ f_X2_behindIn N x5' σ = some (x4', σ)
  | u, p, 0, _, _, n, x4, x5, _, h2, _, _, _ => absurd h2 (by omega)
  | u, p, M1 + 1, 0, _, n, x4, x5, _, _, h2, _, _ => absurd h2 (by omega)
  | u, p, M1 + 1, M2 + 1, 0, n, x4, x5, _, _, _, h2, _ => absurd h2 (by omega)
  | 0, p, M1 + 1, M2 + 1, M3 + 1, n, x4, x5, h1, _, _, _, hx => by
    have hp : (12 : Int32) ≤ nI p := nI_le (a := 12) (by omega) (by omega)
    refine ⟨n, x4, x5, ?_, ?_, ?_, e_beh N hv hx⟩
    · show st_X10_spreads_208 N x2 K _ n x4 x5 (nI p) τ = _
      unfold st_X10_spreads_208
      rw [if_pos hp]
    · show st_X2_howMany_4 N _ n (nI p) σ = _
      unfold st_X2_howMany_4
      rw [if_pos hp]
    · show st_X2_last_5 N _ x5 (nI p) σ = _
      unfold st_X2_last_5
      rw [if_pos hp]
  | u + 1, p, M1 + 1, M2 + 1, M3 + 1, n, x4, x5, h1, h2, h3, h4, hx => by
    have hp : p < 12 := by omega
    have hp' : ¬ (12 : Int32) ≤ nI p := nI_ge (b := 12) hp (by decide)
    have i1 : ix (nI p) = p := ix_n (by omega)
    have c1 : ∀ {α : Type} (e : Option α), chk (nI p) 12 e = e := fun e => chk_n hp (by decide)
    have eb := e_beh N hv hx
    obtain ⟨ev, hc⟩ := hv p hp
    have sM : ∀ rec, st_X10_spreads_208 N x2 K rec n x4 x5 (nI p) τ = if gi τ 24 p = -2 then rec n x4 x5 (nI (p + 1)) τ else if x4 < gi τ 24 p then rec (n + 1) (gi τ 24 p) (nI p) (nI (p + 1)) τ else rec (n + 1) x4 x5 (nI (p + 1)) τ := by
      intro rec
      unfold st_X10_spreads_208
      simp only [lt_p, nI_1, i1, c1]
      rw [if_neg hp']
    have sH : ∀ rec, st_X2_howMany_4 N rec n (nI p) σ = if gi τ 24 p < 0 then rec n (nI (p + 1)) σ else rec (n + 1) (nI (p + 1)) σ := by
      intro rec
      unfold st_X2_howMany_4
      simp only [lt_p, nI_1, i1, c1, ev]
      rw [if_neg hp']
    have sL : ∀ rec, st_X2_last_5 N rec x5 (nI p) σ = if gi τ 24 p ≤ x4 then rec x5 (nI (p + 1)) σ else rec (nI p) (nI (p + 1)) σ := by
      intro rec
      unfold st_X2_last_5
      simp only [lt_p, nI_1, i1, c1, ev, eb, bd_some]
      rw [if_neg hp']
    have eM : itr (fun _ _ _ _ _ => none) (st_X10_spreads_208 N x2 K) (M1 + 1) n x4 x5 (nI p) τ = _ := sM (itr (fun _ _ _ _ _ => none) (st_X10_spreads_208 N x2 K) M1)
    have eH : itr (fun _ _ _ => none) (st_X2_howMany_4 N) (M2 + 1) n (nI p) σ = _ := sH (itr (fun _ _ _ => none) (st_X2_howMany_4 N) M2)
    have eL : itr (fun _ _ _ => none) (st_X2_last_5 N) (M3 + 1) x5 (nI p) σ = _ := sL (itr (fun _ _ _ => none) (st_X2_last_5 N) M3)
    rcases hc with e | ⟨m, hm, e⟩
    · rw [if_pos e] at eM
      rw [if_pos (by rw [e]; decide)] at eH
      rw [if_pos (by rw [e]; exact m2_le hv hx)] at eL
      rw [eM, eH, eL]
      exact lp_s208 N hv x2 K u (p + 1) M1 M2 M3 n x4 x5 (by omega) (by omega) (by omega) (by omega) hx
    · rw [if_neg (by rw [e]; exact nI_nm2 (by omega))] at eM
      rw [if_neg (by rw [e]; exact nI_pos (by omega))] at eH
      by_cases w : x4 < gi τ 24 p
      · rw [if_pos w] at eM
        rw [if_neg (Int32.not_le.mpr w)] at eL
        rw [eM, eH, eL]
        exact lp_s208 N hv x2 K u (p + 1) M1 M2 M3 (n + 1) _ _ (by omega) (by omega) (by omega) (by omega) (Or.inr ⟨p, hp, rfl, rfl⟩)
      · rw [if_neg w] at eM
        rw [if_pos (Int32.not_lt.mp w)] at eL
        rw [eM, eH, eL]
        exact lp_s208 N hv x2 K u (p + 1) M1 M2 M3 (n + 1) x4 x5 (by omega) (by omega) (by omega) (by omega) hx
/-- the months are told; what is asked is answered alike -/
theorem s_sprd (N : Nat) (hN : 300 ≤ N) {σ τ : Mem} (hl : Rl σ τ) (hp : Rp σ τ) (hn : Rn σ τ) {k : Nat} (hk : k < 6) {x2 : Int32} (hx2 : inR x2 100 102 ∨ inR x2 0 11) : ∃ r σ' τ', bd (f_X0_isInForce N 32 (nI k) σ) (fun r7 s6 => if r7 = 0 then (some ((-3), s6)) else bd (f_X0_copy N 62 32 s6) (fun _ s8 => lt (ix (gi s8 0 10)) (fun q10 => ckc (isLw q10) (bd (f_X2_spread N (nI k) 62 q10 s8) (fun _ s11 => if x2 = 100 then (bd (f_X2_howMany N s11) (fun r22 s21 => some (r22, s21))) else if x2 = 101 then (bd (f_X2_last N s11) (fun r18 s17 => bd (f_X2_behindIn N r18 s17) (fun r20 s19 => some (r20, s19)))) else if x2 = 102 then (bd (f_X2_last N s11) (fun r16 s15 => some (r16, s15))) else bd (f_X2_behindIn N x2 s11) (fun r14 s13 => some (r14, s13))))))) = some (r, σ') ∧ chk 144 151 (bd (f_X10_has N (gi τ 1 (ix (144 : Int32))) (nI k) τ) (fun r7 s6 => if r7 = 0 then (some ((-3), s6)) else bd (f_X10_copies N 1 2 s6) (fun _ s8 => itr (fun _ _ => none) (st_X10_spreads_60 N (nI k) x2 (fun  (s16 : Mem) => itr (fun _ _ => none) (st_X10_spreads_95 N (nI k) x2 (fun  (s27 : Mem) => bd (f_X10_copies N 2 1 s27) (fun _ s28 => if 100 ≤ x2 then (itr (fun _ _ _ _ _ => none) (st_X10_spreads_208 N x2 (fun (x3_36 : Int32) (x4_37 : Int32) (x5_38 : Int32) (s35 : Mem) => if x2 = 100 then (some (x3_36, s35)) else if x2 = 101 then (some (x4_37, s35)) else some (x5_38, s35))) N 0 (-2) (-2) 0 s28) else chk x2 12 (some (gi s28 24 (ix x2), s28))))) N 1 s16)) N 0 s8))) = some (r, τ') ∧ (∀ i, i < 151 → gi τ' 1 i = gi τ 1 i) := by
  obtain ⟨lw, LV, LX, hlw, h10, hle, hLC, hLM⟩ := hl.law
  have hlw' := isLw_or hlw
  have e144 : gi σ 32 2 = gi τ 1 144 := hn.1.1.2.2.1
  have hin : inR (nI k) 0 5 := inR_of (a := 0) (b := 5) (Nat.zero_le _) (by omega) (by decide)
  unfold f_X0_isInForce
  rw [e_isLetterC, bd_some, ite10, if_pos hin, e_hasBit, bd_some, ite10, e144, ck_144_151, e_has, bd_some, ite10, show ix (144 : Int32) = 144 by decide]
  by_cases hf : hb (gi τ 1 144) (nI k)
  · rw [if_pos hf, if_pos hf, bd_some, if_neg (by decide)]
    have hf' : bt (gi τ 1 144) k = true := (hb_iff _ (by omega)).mp hf
    obtain ⟨σ1, e1, c1, c2⟩ := e_copy N (by omega) (b := 62) (x := 32) (by omega) σ
    obtain ⟨τ1, e2, d1⟩ := e_copies N (by omega) (a := 1) (b := 2) rfl rfl (by decide) τ
    have f1 : ∀ c i, ¬ (62 ≤ c ∧ c < 77) → gi σ1 c i = gi σ c i := fun c i h => (fr_X0_copy N 62 32 σ _ _ e1 c i (by unfold W_X0_copy; omega)).1
    have g1 : ∀ c i, ¬ c = 2 → gi τ1 c i = gi τ c i := fun c i h => by rw [d1, if_neg (fun z => h z.1)]
    have hα : Al τ1 1 = Al τ 1 := by
      funext i
      exact g1 1 i (by decide)
    obtain ⟨mo0, hmo, emo⟩ := hn.2.1.1.2.2.1
    have hAm : Am τ1 (mo0 + 0) = Al τ 1 := by
      funext i
      unfold Am
      rw [hα]
      by_cases z : i = 147
      · rw [z, up_eq]; exact emo.symm
      · rw [up_ne z]
    have hS : Sr LV LX k lw mo0 0 σ1 τ1 := by
      refine ⟨⟨Lw.fr (lw := lw) ⟨hlw, hLC, hLM, hle⟩ (fun c i z1 z2 => f1 c i (by omega)) (g1 _ _ (by decide)) (fun c i z1 z2 => g1 _ _ (by omega)), hp.fr (f1 _ _ (by omega)) (fun p q hp hq => f1 _ _ (by omega)) (g1 _ _ (by decide)) (fun j _ => g1 _ _ (by decide))⟩, ⟨?_, ?_⟩, ?_, ?_⟩
      · rw [hAm]; exact Rb.cp (b := 62) hn.1 c1 c2
      · rw [hα]; exact hn.2.1
      · rw [g1 _ _ (by decide)]; exact emo
      · rw [g1 _ _ (by decide)]; exact hf'
    obtain ⟨σ2, u1, u2, -, u4⟩ := lp_sp3 N (lw := lw) hk (fun s7 => itr (fun _ _ _ => none) (st_X2_spread_49 N (nI k) 62 lw) N 0 1 s7) 12 0 N σ1 (by omega) (by omega)
    obtain ⟨τ2, v1, v2, -, v4⟩ := lp_sp60 N hk x2 (fun  (s16 : Mem) => itr (fun _ _ => none) (st_X10_spreads_95 N (nI k) x2 (fun  (s27 : Mem) => bd (f_X10_copies N 2 1 s27) (fun _ s28 => if 100 ≤ x2 then (itr (fun _ _ _ _ _ => none) (st_X10_spreads_208 N x2 (fun (x3_36 : Int32) (x4_37 : Int32) (x5_38 : Int32) (s35 : Mem) => if x2 = 100 then (some (x3_36, s35)) else if x2 = 101 then (some (x4_37, s35)) else some (x5_38, s35))) N 0 (-2) (-2) 0 s28) else chk x2 12 (some (gi s28 24 (ix x2), s28))))) N 1 s16) 12 0 N τ1 (by omega) (by omega)
    have hX : Bx k σ2 τ2 := fun p hp' => by
      have h9 := hS.2.1.1.2.2.1 k p hk hp'
      rw [Am_ne (by omega)] at h9
      rw [u4 p (by omega) hp', v4 p (by omega) hp', v2 1 _ (by decide)]
      rcases h9 with ⟨y1, y2, _⟩ | ⟨y1, y2⟩
      · rw [if_pos y1, if_neg y2]
        exact ⟨rfl, Or.inr ⟨0, by omega, rfl, y2⟩⟩
      · rw [if_neg (show ¬ bt (gi σ1 67 k) p = true from fun y => by rw [show gi σ1 67 k = gi σ1 (62 + 5) k from rfl, y1] at y; cases y), if_pos y2]
        exact ⟨rfl, Or.inl ⟨rfl, y2⟩⟩
    obtain ⟨σ3, τ3, r1, r2, r3, r4, r5⟩ := lp_s95 N hN hk hmo x2 (fun  (s27 : Mem) => bd (f_X10_copies N 2 1 s27) (fun _ s28 => if 100 ≤ x2 then (itr (fun _ _ _ _ _ => none) (st_X10_spreads_208 N x2 (fun (x3_36 : Int32) (x4_37 : Int32) (x5_38 : Int32) (s35 : Mem) => if x2 = 100 then (some (x3_36, s35)) else if x2 = 101 then (some (x4_37, s35)) else some (x5_38, s35))) N 0 (-2) (-2) 0 s28) else chk x2 12 (some (gi s28 24 (ix x2), s28)))) 100 0 0 N N σ2 τ2 (by omega) (by omega) (by omega) (by omega) (by omega) (hS.k u2 v2) hX (fun i p hi => absurd hi (by omega))
    obtain ⟨τ4, b1, b2, b3⟩ := s_back N hN (τ := τ) (τ2 := τ3) (fun i hi => by rw [r5 _ _ (by decide) (by decide) (by decide) (by decide) (by omega), v2 _ _ (by decide), d1, if_pos ⟨rfl, hi⟩])
    have hv : Vb σ3 τ4 := fun p hp' => by
      rw [b3 24 p (by decide)]
      exact r3 p hp'
    have eC : f_X2_spread N (nI k) 62 lw σ1 = some ((), σ3) := u1.trans r1
    rw [e1, bd_some, lt_p, f1 _ _ (by omega), h10, ix_b hlw, hlw, ckc_t, eC, bd_some, e2, bd_some]
    have eM := v1.trans r2
    rw [b1, bd_some] at eM
    by_cases h100 : inR x2 100 102
    · obtain ⟨n', x4', x5', q1, q2, q3, q4⟩ := lp_s208 N hv x2 (fun (x3_36 : Int32) (x4_37 : Int32) (x5_38 : Int32) (s35 : Mem) => if x2 = 100 then (some (x3_36, s35)) else if x2 = 101 then (some (x4_37, s35)) else some (x5_38, s35)) 12 0 N N N 0 (-2) (-2) (by omega) (by omega) (by omega) (by omega) (Or.inl ⟨rfl, rfl⟩)
      have q2' : f_X2_howMany N σ3 = some (n', σ3) := q2
      have q3' : f_X2_last N σ3 = some (x5', σ3) := q3
      rw [if_pos h100.1] at eM
      have eM2 := eM.trans q1
      rw [q2', q3', bd_some, bd_some, bd_some, q4, bd_some]
      obtain ⟨y, y1, y2, rfl⟩ := inR_n (a := 100) (b := 102) rfl rfl (by decide) (by decide) h100
      rcases (show y = 100 ∨ y = 101 ∨ y = 102 by omega) with rfl | rfl | rfl
      · rw [if_pos (show nI 100 = 100 from rfl)] at eM2 ⊢
        exact ⟨n', σ3, τ4, rfl, eM2, b2⟩
      · rw [if_neg (show ¬ nI 101 = 100 by decide), if_pos (show nI 101 = 101 from rfl)] at eM2 ⊢
        exact ⟨x4', σ3, τ4, rfl, eM2, b2⟩
      · rw [if_neg (show ¬ nI 102 = 100 by decide), if_neg (show ¬ nI 102 = 101 by decide)] at eM2 ⊢
        rw [if_pos (show nI 102 = 102 from rfl)]
        exact ⟨x5', σ3, τ4, rfl, eM2, b2⟩
    · have h11 : inR x2 0 11 := hx2.resolve_left h100
      obtain ⟨y, -, y2, rfl⟩ := inR_n (a := 0) (b := 11) rfl rfl (by decide) (by decide) h11
      rw [if_neg (show ¬ (100 : Int32) ≤ nI y from nI_ge (b := 100) (by omega) (by decide)), chk_n (by omega) (by decide), show gi τ4 24 (ix (nI y)) = gi τ4 24 y by rw [ix_n (by omega)]] at eM
      rw [if_neg (show ¬ nI y = 100 from nI_nq (b := 100) (by omega) (by omega) (by decide)), if_neg (show ¬ nI y = 101 from nI_nq (b := 101) (by omega) (by omega) (by decide)), if_neg (show ¬ nI y = 102 from nI_nq (b := 102) (by omega) (by omega) (by decide)), e_beh N hv (Or.inr ⟨y, by omega, rfl, rfl⟩), bd_some]
      exact ⟨gi τ4 24 y, σ3, τ4, rfl, eM, b2⟩
  · rw [if_neg hf, if_neg hf, bd_some, if_pos rfl]
    exact ⟨-3, σ, τ, rfl, rfl, fun _ _ => rfl⟩
theorem s_spreads (N : Nat) (hN : 300 ≤ N) {σ τ : Mem} (hl : Rl σ τ) (hp : Rp σ τ) (hn : Rn σ τ) (x1 x2 : Int32) : ∃ r σ' τ', f_X9_spreads N x1 x2 σ = some (r, σ') ∧ f_X10_spreads N x1 x2 τ = some (r, τ') ∧ ∀ i, i < 151 → gi τ' 1 i = gi τ 1 i := by
  unfold f_X9_spreads f_X10_spreads
  rw [e_told0, e_isLetterM, bd_some, bd_some, ite10, ite10, show gi σ 32 1 = gi τ 1 146 from hn.1.1.2.1]
  by_cases h1 : inR x1 0 5 ∧ hb (gi τ 1 146) x1
  · rw [if_pos h1, if_pos h1, e_within, e_in, bd_some, bd_some, lt_p, lt_p, ite10, ite10]
    obtain ⟨k, -, hk, rfl⟩ := inR_n (a := 0) (b := 5) rfl rfl (by decide) (by decide) h1.1
    by_cases h2 : inR x2 100 102
    · rw [if_pos h2, if_pos h2]
      exact s_sprd N hN hl hp hn (by omega) (Or.inl h2)
    · rw [if_neg h2, if_neg h2, e_told3, e_isParish, bd_some, bd_some, ite10, ite10, hp.1]
      by_cases h3 : inR x2 0 11 ∧ hb (gi τ 1 145) x2
      · rw [if_pos h3, if_pos h3]
        exact s_sprd N hN hl hp hn (by omega) (Or.inr h3.1)
      · rw [if_neg h3, if_neg h3]
        exact ⟨-1, σ, τ, rfl, rfl, fun _ _ => rfl⟩
  · rw [if_neg h1, if_neg h1]
    exact ⟨-1, σ, τ, rfl, rfl, fun _ _ => rfl⟩
