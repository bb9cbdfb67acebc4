/-! readsMost: the reference's rows -/
def me (_ : Nat) : Nat := 1
def mh (G : Nat → Nat → Nat) (its : Nat → Nat) (j i s : Nat) : Nat := if s = 0 then 0 else s + G j (its i)
def mx (j _ : Nat) : Nat := j + 1
theorem mh_Sp (G : Nat → Nat → Nat) (its : Nat → Nat) : Sp (mh G its) := fun j i => by
  unfold mh
  refine ⟨if_pos rfl, fun s s' h => ?_, fun s s' h => ?_⟩
  · by_cases z : s = 0
    · rw [if_pos z]; exact Nat.zero_le _
    · rw [if_neg z, if_neg (by omega)]; omega
  · right
    rw [if_neg (show ¬ s' = 0 by omega)]
    by_cases z : s = 0
    · rw [if_pos z]; omega
    · rw [if_neg z]; omega
/-- what is given in all -/
def sgm (G : Nat → Nat → Nat) (its : Nat → Nat) : Nat → List Nat → Nat
  | _, [] => 0
  | j, i :: l => G j (its i) + sgm G its (j + 1) l
theorem sc_sgm (G : Nat → Nat → Nat) (its : Nat → Nat) : ∀ (l : List Nat) (j : Nat), sc me (mh G its) mx j l = 1 + sgm G its j l
  | [], j => rfl
  | i :: l, j => by
    show mh G its j i (sc me (mh G its) mx (j + 1) l) = 1 + (G j (its i) + sgm G its (j + 1) l)
    rw [sc_sgm G its l (j + 1)]
    unfold mh
    rw [if_neg (by omega)]
    omega
theorem sgm_le {G : Nat → Nat → Nat} {its : Nat → Nat} (hG : ∀ j k, G j k ≤ 999) : ∀ (l : List Nat) (j : Nat), sgm G its j l ≤ 999 * l.length
  | [], j => Nat.zero_le _
  | i :: l, j => by
    have h1 := hG j (its i)
    have h2 := sgm_le (its := its) hG l (j + 1)
    show G j (its i) + sgm G its (j + 1) l ≤ 999 * (l.length + 1)
    omega
theorem nb_le {s V : Nat} (hs : s < 2 ^ 30) (hV : V < 2 ^ 30) : nI s ≤ nI V - 1 ↔ s + 1 ≤ V := by
  by_cases z : V = 0
  · subst z
    constructor
    · intro h
      exact absurd (Int32.le_trans (nI_pos' (show s < 2 ^ 31 by omega)) h) (by decide)
    · intro h
      omega
  · obtain ⟨v, rfl⟩ : ∃ v, V = v + 1 := ⟨V - 1, by omega⟩
    rw [nI_pred, nI_leI (by omega) (by omega)]
    omega
def Gq (LV : LVt) (τ0 : Mem) (p j k : Nat) : Nat := gft LV τ0 p k (trd τ0 p 1 j) j
def Kf (τ τ' : Mem) : Prop := ∀ c i, ¬ c = 17 → ¬ c = 18 → ¬ c = 29 → gi τ' c i = gi τ c i
theorem Gq_le {lw : Nat} {LV : LVt} {LX : LXt} {σ τ : Mem} (hL : Lw lw LV LX σ τ) (p j k : Nat) : Gq LV τ p j k ≤ 999 := hL.2.2.2 _ _ _ (by decide)
theorem lp_m102 (N : Nat) (hN : 300 ≤ N) {lw p n : Nat} {LV : LVt} {LX : LXt} {σ0 τ0 : Mem} {its : Nat → Nat} {r : List Nat} (hL : Lw lw LV LX σ0 τ0) (hp : p < 12) (hn : n ≤ 7) (h6 : ∀ i, i < n → its i < 6) (x3 : Int32) : ∀ (u j M a : Nat) (τ : Mem), j + u = n → u < M → Kh τ0 τ → Pn τ0 p 1 j τ → Ro τ n r → Ls τ n its → ∃ τ', (∀ (x5 : Int32) (K : Int32 → Mem → Option (Int32 × Mem)), itr (fun _ _ _ => none) (st_X10_readsMost_102 N (nI p) x3 (nI n) x5 K) M (nI a) (nI j) τ = K (nI (a + sgm (Gq LV τ0 p) its j (r.drop j))) τ') ∧ Kf τ τ'
  | u, j, 0, a, τ, _, h2, _, _, _, _ => absurd h2 (by omega)
  | 0, j, M + 1, a, τ, h1, _, _, _, hr, _ => by
    refine ⟨τ, fun x5 K => ?_, fun _ _ _ _ _ => rfl⟩
    show st_X10_readsMost_102 N (nI p) x3 (nI n) x5 K _ (nI a) (nI j) τ = _
    unfold st_X10_readsMost_102
    rw [if_pos (nI_le (by omega) (by omega)), List.drop_eq_nil_of_le (by rw [hr.1]; omega)]
    rfl
  | u + 1, j, M + 1, a, τ, h1, h2, hK, hP, hr, hl => by
    obtain ⟨a1, a2⟩ := hr.2 j (by omega)
    obtain ⟨b1, b2⟩ := hl _ a2
    have hL1 : Lw lw LV LX σ0 τ := hL.fr (fun _ _ _ _ => rfl) (hK _ _ (by decide) (by decide) (by omega)) (fun c i z1 z2 => hK c i (by omega) (by omega) (by omega))
    obtain ⟨τ1, g1, g2⟩ := e_givenIn N hN (p := p) (k := its (r.getD j 0)) (j := j) hL1 hp (h6 _ a2)
    have er : gi τ 29 0 + gi τ 29 1 + gi τ 29 2 = trd τ0 p 1 j := by
      rw [hP 0 (by omega), hP 1 (by omega), hP 2 (by omega)]
      rfl
    rw [er, gft_k (fun i => hK 1 i (by decide) (by decide) (by omega))] at g1
    have hP1 : Pn τ0 p 1 j τ1 := fun i hi => by rw [g2 _ _ (by decide) (by decide)]; exact hP i hi
    have hK1 : Kh τ0 (si (si (si τ1 29 2 (gi τ1 29 1)) 29 1 (gi τ1 29 0)) 29 0 1) := fun c i z1 z2 z3 => by
      rw [gi_ne (by omega), gi_ne (by omega), gi_ne (by omega), g2 c i z1 z2]; exact hK c i z1 z2 z3
    have kf : Kf τ (si (si (si τ1 29 2 (gi τ1 29 1)) 29 1 (gi τ1 29 0)) 29 0 1) := fun c i z1 z2 z3 => by
      rw [gi_ne z3, gi_ne z3, gi_ne z3, g2 c i z1 z2]
    have e : ∀ x5 K rec, st_X10_readsMost_102 N (nI p) x3 (nI n) x5 K rec (nI a) (nI j) τ = rec (nI (a + Gq LV τ0 p j (its (r.getD j 0)))) (nI (j + 1)) (si (si (si τ1 29 2 (gi τ1 29 1)) 29 1 (gi τ1 29 0)) 29 0 1) := by
      intro x5 K rec
      unfold st_X10_readsMost_102
      simp only [lt_p]
      rw [if_neg (nI_ge (by omega) (by omega)), chk_n (by omega) (by decide), ix_n (show j < 2 ^ 31 by omega), a1, chk_n (by omega) (by decide), ix_n (by omega), b1, g1, bd_some, e_pastGoes, bd_some, nI_1, nI_add]
      rfl
    have e' : ∀ x5 K, itr (fun _ _ _ => none) (st_X10_readsMost_102 N (nI p) x3 (nI n) x5 K) (M + 1) (nI a) (nI j) τ = _ := fun x5 K => e x5 K (itr (fun _ _ _ => none) (st_X10_readsMost_102 N (nI p) x3 (nI n) x5 K) M)
    obtain ⟨τ', r1, r2⟩ := lp_m102 N hN hL hp hn h6 x3 u (j + 1) M (a + Gq LV τ0 p j (its (r.getD j 0))) _ (by omega) (by omega) hK1 hP1.s ⟨hr.1, fun i hi => by rw [kf _ _ (by decide) (by decide) (by decide)]; exact hr.2 i hi⟩ (fun i hi => by rw [kf _ _ (by decide) (by decide) (by decide)]; exact hl i hi)
    refine ⟨τ', fun x5 K => (e' x5 K).trans ((r1 x5 K).trans ?_), fun c i z1 z2 z3 => by rw [r2 c i z1 z2 z3]; exact kf c i z1 z2 z3⟩
    rw [drop_cons (show j < r.length by rw [hr.1]; omega)]
    show K (nI (a + Gq LV τ0 p j (its (r.getD j 0)) + sgm (Gq LV τ0 p) its (j + 1) (r.drop (j + 1)))) τ' = K (nI (a + (Gq LV τ0 p j (its (r.getD j 0)) + sgm (Gq LV τ0 p) its (j + 1) (r.drop (j + 1))))) τ'
    rw [Nat.add_assoc]
theorem lp_m86 (N : Nat) (hN : 300 ≤ N) {lw p n : Nat} {LV : LVt} {LX : LXt} {σ0 τ0 : Mem} {its : Nat → Nat} (hL : Lw lw LV LX σ0 τ0) (hp : p < 12) (h1n : 1 ≤ n) (hn : n ≤ 7) (h6 : ∀ i, i < n → its i < 6) (x3 : Int32) (K : Int32 → Mem → Option (Int32 × Mem)) : ∀ (l : List (List Nat)) (r : List Nat) (M : Nat) (b : Nat × List Nat) (τ : Mem), chn n (r :: l) = true → l.length + 1 < M → Ro τ n r → Ls τ n its → Kh τ0 τ → b.1 ≤ 10000 → (0 < b.1 → Krr τ n its b.2) → ∃ τ', itr (fun _ _ _ => none) (st_X10_readsMost_86 N (nI p) x3 (nI n) K) M (nI b.1 - 1) 1 τ = K (nI (fb (sc me (mh (Gq LV τ0 p) its) mx 0) (r :: l) b).1 - 1) τ' ∧ (0 < (fb (sc me (mh (Gq LV τ0 p) its) mx 0) (r :: l) b).1 → Krr τ' n its (fb (sc me (mh (Gq LV τ0 p) its) mx 0) (r :: l) b).2) ∧ Kh τ0 τ'
  | l, r, 0, b, τ, _, h2, _, _, _, _, _ => absurd h2 (by omega)
  | l, r, M + 1, b, τ, hc, h2, hr, hl, hKh, hb1, hk => by
    have hsg := sgm_le (its := its) (fun j k => Gq_le hL p j k) r 0
    rw [hr.1] at hsg
    have hsc := sc_sgm (Gq LV τ0 p) its r 0
    -- the row is weighed, and kept if it is better
    have step : ∃ τ1, (∀ rec, st_X10_readsMost_86 N (nI p) x3 (nI n) K rec (nI b.1 - 1) 1 τ = bd (f_X10_nextRow N (nI n) τ1) (fun r27 s26 => rec (nI (if b.1 < sc me (mh (Gq LV τ0 p) its) mx 0 r then (sc me (mh (Gq LV τ0 p) its) mx 0 r, r) else b).1 - 1) r27 s26)) ∧ (0 < (if b.1 < sc me (mh (Gq LV τ0 p) its) mx 0 r then (sc me (mh (Gq LV τ0 p) its) mx 0 r, r) else b).1 → Krr τ1 n its (if b.1 < sc me (mh (Gq LV τ0 p) its) mx 0 r then (sc me (mh (Gq LV τ0 p) its) mx 0 r, r) else b).2) ∧ ∀ c i, ¬ c = 17 → ¬ c = 18 → ¬ c = 28 → ¬ c = 29 → gi τ1 c i = gi τ c i := by
      obtain ⟨τa, t1, t2, t3⟩ := e_takesPast N (by omega) (p := p) hp 1 τ
      have hPa : Pn τ0 p 1 0 τa := fun i hi => by
        rw [t2 i hi]
        unfold pst
        rw [if_neg (Nat.not_lt_zero _), if_neg (Nat.not_lt_zero _)]
        exact hKh 1 _ (by decide) (by decide) (by omega)
      have hra : Ro τa n r := ⟨hr.1, fun i hi => by rw [t3 _ _ (by decide)]; exact hr.2 i hi⟩
      have hla : Ls τa n its := fun i hi => by rw [t3 _ _ (by decide)]; exact hl i hi
      obtain ⟨τb, i1, i2⟩ := lp_m102 N hN hL hp hn h6 x3 n 0 N 0 τa (by omega) (by omega) (fun c i z1 z2 z3 => by rw [t3 c i (by omega)]; exact hKh c i z1 z2 z3) hPa hra hla
      by_cases z : b.1 < sc me (mh (Gq LV τ0 p) its) mx 0 r
      · rw [if_pos z]
        have key : ∃ τ1, (∀ rec : Int32 → Int32 → Mem → Option (Int32 × Mem), st_X10_readsMost_86 N (nI p) x3 (nI n) K rec (nI b.1 - 1) 1 τ = bd (f_X10_nextRow N (nI n) τ1) (fun r27 s26 => rec (nI (sc me (mh (Gq LV τ0 p) its) mx 0 r) - 1) r27 s26)) ∧ Krr τ1 n its r ∧ ∀ c i, ¬ c = 17 → ¬ c = 18 → ¬ c = 28 → ¬ c = 29 → gi τ1 c i = gi τ c i := by
          have hrb : Ro τb n r := ⟨hr.1, fun i hi => by rw [i2 _ _ (by decide) (by decide) (by decide)]; exact hra.2 i hi⟩
          have hlb : Ls τb n its := fun i hi => by rw [i2 _ _ (by decide) (by decide) (by decide)]; exact hla i hi
          obtain ⟨τ1, k1, k2, k3⟩ := s_keeps N hN hn hrb hlb
          refine ⟨τ1, fun rec => ?_, k2, fun c i z1 z2 z3 z4 => by rw [k3 c i z3, i2 c i z1 z2 z4, t3 c i z4]⟩
          unfold st_X10_readsMost_86
          rw [if_neg (show ¬ (1 : Int32) = 0 by decide), t1, bd_some]
          refine (i1 _ _).trans ?_
          simp only [lt_p]
          rw [List.drop_zero, Nat.zero_add, if_neg (fun y => by have := (nb_le (by omega) (by omega)).mp y; omega), k1, bd_some, hsc, Nat.add_comm 1, nI_pred]
        obtain ⟨τ1, q1, q2, q3⟩ := key
        exact ⟨τ1, q1, fun _ => q2, q3⟩
      · rw [if_neg z]
        refine ⟨τb, fun rec => ?_, fun h i hi => by rw [i2 _ _ (by decide) (by decide) (by decide), t3 _ _ (by decide)]; exact hk h i hi, fun c i z1 z2 z3 z4 => by rw [i2 c i z1 z2 z4, t3 c i z4]⟩
        unfold st_X10_readsMost_86
        rw [if_neg (show ¬ (1 : Int32) = 0 by decide), t1, bd_some]
        refine (i1 _ _).trans ?_
        simp only [lt_p]
        rw [List.drop_zero, Nat.zero_add, if_pos ((nb_le (by omega) (by omega)).mpr (by omega))]
    obtain ⟨τ1, s1, s2, s3⟩ := step
    have hr1 : Ro τ1 n r := ⟨hr.1, fun i hi => by rw [s3 _ _ (by decide) (by decide) (by decide) (by decide)]; exact hr.2 i hi⟩
    have hb2 : (if b.1 < sc me (mh (Gq LV τ0 p) its) mx 0 r then (sc me (mh (Gq LV τ0 p) its) mx 0 r, r) else b).1 ≤ 10000 := by
      by_cases z : b.1 < sc me (mh (Gq LV τ0 p) its) mx 0 r
      · rw [if_pos z, hsc]; show 1 + sgm (Gq LV τ0 p) its 0 r ≤ 10000; omega
      · rw [if_neg z]; exact hb1
    have e' : itr (fun _ _ _ => none) (st_X10_readsMost_86 N (nI p) x3 (nI n) K) (M + 1) (nI b.1 - 1) 1 τ = _ := s1 (itr (fun _ _ _ => none) (st_X10_readsMost_86 N (nI p) x3 (nI n) K) M)
    have hfb : fb (sc me (mh (Gq LV τ0 p) its) mx 0) (r :: l) b = fb (sc me (mh (Gq LV τ0 p) its) mx 0) l (if b.1 < sc me (mh (Gq LV τ0 p) its) mx 0 r then (sc me (mh (Gq LV τ0 p) its) mx 0 r, r) else b) := rfl
    rw [hfb]
    have hK1 : Kh τ0 τ1 := fun c i z1 z2 z3 => by rw [s3 c i z1 z2 (by omega) (by omega)]; exact hKh c i z1 z2 z3
    clear hfb
    generalize (if b.1 < sc me (mh (Gq LV τ0 p) its) mx 0 r then (sc me (mh (Gq LV τ0 p) its) mx 0 r, r) else b) = b2 at *
    have hnx := s_nextRow N hN h1n hn hr1
    match l, hc, h2 with
    | [], hc, h2 =>
      have hno : nxr n r = none := by
        have : (nxr n r == none) = true := hc
        simpa using this
      rw [hnx.1 hno, bd_some] at e'
      obtain ⟨M, rfl⟩ : ∃ M', M = M' + 1 := ⟨M - 1, by have : ([] : List (List Nat)).length = 0 := rfl; omega⟩
      refine ⟨τ1, e'.trans ?_, s2, hK1⟩
      show st_X10_readsMost_86 N (nI p) x3 (nI n) K _ _ 0 τ1 = _
      unfold st_X10_readsMost_86
      rw [if_pos rfl]
      rfl
    | r2 :: l2, hc, h2 =>
      have hc2 : nxr n r = some r2 ∧ chn n (r2 :: l2) = true := by
        have : (nxr n r == some r2 && chn n (r2 :: l2)) = true := hc
        rw [Bool.and_eq_true] at this
        exact ⟨by simpa using this.1, this.2⟩
      obtain ⟨τ2, n1, n2, n3⟩ := hnx.2 r2 hc2.1
      rw [n1, bd_some] at e'
      obtain ⟨τ', r1, r2', r3⟩ := lp_m86 N hN hL hp h1n hn h6 x3 K l2 r2 M b2 τ2 hc2.2 (by have : (r2 :: l2).length = l2.length + 1 := rfl; omega) n2 (fun i hi => by rw [n3 _ _ (by decide), s3 _ _ (by decide) (by decide) (by decide) (by decide)]; exact hl i hi) (fun c i z1 z2 z3 => by rw [n3 _ _ (by omega)]; exact hK1 c i z1 z2 z3) hb2 (fun h i hi => by rw [n3 _ _ (by decide)]; exact s2 h i hi)
      exact ⟨τ', e'.trans r1, r2', r3⟩
