/-! round: the reference's first best row -/
def dd : Option Nat → Nat
  | some d => d
  | none => 100000000
theorem eM_dd (o : Option Nat) : eM o = nI (dd o) := by cases o <;> rfl
def re (W : Wm) (hm : Nat) (x : Nat) : Nat := 100000000 - dd (W x hm)
def rh (W : Wm) (its : Nat → Nat) (x i s : Nat) : Nat := s - dd (W x (its i))
def rx (its : Nat → Nat) (_ i : Nat) : Nat := its i
theorem rh_Sp (W : Wm) (its : Nat → Nat) : Sp (rh W its) := fun x i => by
  unfold rh
  exact ⟨Nat.zero_sub _, fun s s' h => by omega, fun s s' h => by omega⟩
theorem sc_le (W : Wm) (its : Nat → Nat) (hm : Nat) : ∀ (l : List Nat) (x : Nat), sc (re W hm) (rh W its) (rx its) x l ≤ 100000000
  | [], x => Nat.sub_le _ _
  | i :: l, x => Nat.le_trans (Nat.sub_le _ _) (sc_le W its hm l _)
theorem drop_cons {r : List Nat} {i : Nat} (h : i < r.length) : r.drop i = r.getD i 0 :: r.drop (i + 1) := by
  rw [List.drop_eq_getElem_cons h, List.getD_eq_getElem?_getD, List.getElem?_eq_getElem h]
  rfl
theorem lp_mil (N : Nat) {n hm : Nat} {its : Nat → Nat} {r : List Nat} {W : Wm} {τ : Mem} (hn : n ≤ 7) (hh : hm < 12) (hr : Ro τ n r) (hl : Ls τ n its) (hF : FM W τ) (hW : ∀ p q, p < 12 → q < 12 → dd (W p q) ≤ 100000000) : ∀ (u i M a x : Nat), i + u = n → u < M → a ≤ 100000000 → x < 12 → itr (fun _ _ _ _ => none) (st_X10_milesOfRow_8 N (nI hm) (nI n) (fun (x3_6 : Int32) (x4_7 : Int32) (s5 : Mem) => chk (((12 : Int32) * x4_7) + nI hm) 144 (bd (f_X10_min N 100000000 (x3_6 + (gi s5 25 (ix (((12 : Int32) * x4_7) + nI hm)))) s5) (fun r9 s8 => some (r9, s8))))) M (nI a) (nI x) (nI i) τ = some (nI (min 100000000 (a + (100000000 - sc (re W hm) (rh W its) (rx its) x (r.drop i)))), τ)
  | u, i, 0, a, x, _, h2, _, _ => absurd h2 (by omega)
  | 0, i, M + 1, a, x, h1, _, ha, hx => by
    show st_X10_milesOfRow_8 N (nI hm) (nI n) _ _ (nI a) (nI x) (nI i) τ = _
    unfold st_X10_milesOfRow_8
    have hD := hW x hm hx hh
    rw [if_pos (nI_le (by omega) (by omega))]
    show chk ((12 : Int32) * nI x + nI hm) 144 (bd (f_X10_min N 100000000 (nI a + gi τ 25 (ix ((12 : Int32) * nI x + nI hm))) τ) (fun r9 s8 => some (r9, s8))) = _
    rw [li_12, pk_mul, nI_add, chk_n (by omega) (by decide), ix_n (by omega), hF x hm hx hh, eM_dd, nI_add, li_100000000, e_minM N _ _ (by decide) (by omega), bd_some, List.drop_eq_nil_of_le (by rw [hr.1]; omega)]
    show _ = some (nI (min 100000000 (a + (100000000 - (100000000 - dd (W x hm))))), τ)
    rw [show 100000000 - (100000000 - dd (W x hm)) = dd (W x hm) by omega]
  | u + 1, i, M + 1, a, x, h1, h2, ha, hx => by
    obtain ⟨a1, a2⟩ := hr.2 i (by omega)
    obtain ⟨b1, b2⟩ := hl _ a2
    have hD := hW x (its (r.getD i 0)) hx b2
    have hs := sc_le W its hm (r.drop (i + 1)) (its (r.getD i 0))
    rw [drop_cons (by rw [hr.1]; omega)]
    have e : ∀ K rec, st_X10_milesOfRow_8 N (nI hm) (nI n) K rec (nI a) (nI x) (nI i) τ = rec (nI (min 100000000 (a + dd (W x (its (r.getD i 0)))))) (nI (its (r.getD i 0))) (nI (i + 1)) τ := by
      intro K rec
      unfold st_X10_milesOfRow_8
      simp only [lt_p]
      rw [if_neg (nI_ge (by omega) (by omega)), chk_n (by omega) (by decide), ix_n (show i < 2 ^ 31 by omega), a1, chk_n (by omega) (by decide), ix_n (show r.getD i 0 < 2 ^ 31 by omega), b1, li_12, pk_mul, nI_add, chk_n (by omega) (by decide), ix_n (by omega), hF x _ hx b2, eM_dd, nI_add, li_100000000, e_minM N _ _ (by decide) (by omega), bd_some, nI_1]
    refine (e _ (itr (fun _ _ _ _ => none) (st_X10_milesOfRow_8 N (nI hm) (nI n) _) M)).trans ?_
    rw [lp_mil N hn hh hr hl hF hW u (i + 1) M _ _ (by omega) (by omega) (Nat.min_le_left _ _) b2]
    show _ = some (nI (min 100000000 (a + (100000000 - (sc (re W hm) (rh W its) (rx its) (its (r.getD i 0)) (r.drop (i + 1)) - dd (W x (its (r.getD i 0))))))), τ)
    generalize sc (re W hm) (rh W its) (rx its) (its (r.getD i 0)) (r.drop (i + 1)) = s at hs ⊢
    generalize dd (W x (its (r.getD i 0))) = d at hD ⊢
    congr 3
    omega
theorem e_mil (N : Nat) (hN : 300 ≤ N) {n hm : Nat} {its : Nat → Nat} {r : List Nat} {W : Wm} {τ : Mem} (hn : n ≤ 7) (hh : hm < 12) (hr : Ro τ n r) (hl : Ls τ n its) (hF : FM W τ) (hW : ∀ p q, p < 12 → q < 12 → dd (W p q) ≤ 100000000) : f_X10_milesOfRow N (nI hm) (nI n) τ = some (nI (100000000 - sc (re W hm) (rh W its) (rx its) hm r), τ) := by
  have := lp_mil N hn hh hr hl hF hW n 0 N 0 hm (by omega) (by omega) (by omega) hh
  rw [Nat.zero_add, Nat.min_eq_right (by omega)] at this
  exact this
theorem lp_r102 (N : Nat) (hN : 300 ≤ N) {n hm : Nat} {its : Nat → Nat} {W : Wm} (h1n : 1 ≤ n) (hn : n ≤ 7) (hh : hm < 12) (hW : ∀ p q, p < 12 → q < 12 → dd (W p q) ≤ 100000000) (x3 : Int32) (K : Int32 → Mem → Option (Int32 × Mem)) : ∀ (l : List (List Nat)) (r : List Nat) (M : Nat) (b : Nat × List Nat) (τ : Mem), chn n (r :: l) = true → l.length + 1 < M → Ro τ n r → Ls τ n its → FM W τ → b.1 ≤ 100000000 → (0 < b.1 → Krr τ n its b.2) → ∃ τ', itr (fun _ _ _ => none) (st_X10_round_102 N (nI hm) x3 (nI n) K) M (nI (100000000 - b.1)) 1 τ = K (nI (100000000 - (fb (sc (re W hm) (rh W its) (rx its) hm) (r :: l) b).1)) τ' ∧ (0 < (fb (sc (re W hm) (rh W its) (rx its) hm) (r :: l) b).1 → Krr τ' n its (fb (sc (re W hm) (rh W its) (rx its) hm) (r :: l) b).2) ∧ ∀ c i, ¬ c = 27 → ¬ c = 28 → gi τ' c i = gi τ c i
  | l, r, 0, b, τ, _, h2, _, _, _, _, _ => absurd h2 (by omega)
  | l, r, M + 1, b, τ, hc, h2, hr, hl, hF, hb1, hk => by
    have hs := sc_le W its hm r hm
    have em := e_mil N hN hn hh hr hl hF hW
    -- the row is weighed, and kept if it is better
    have step : ∃ τ1, (∀ rec, st_X10_round_102 N (nI hm) x3 (nI n) K rec (nI (100000000 - b.1)) 1 τ = bd (f_X10_nextRow N (nI n) τ1) (fun r23 s22 => rec (nI (100000000 - (if b.1 < sc (re W hm) (rh W its) (rx its) hm r then (sc (re W hm) (rh W its) (rx its) hm r, r) else b).1)) r23 s22)) ∧ (0 < (if b.1 < sc (re W hm) (rh W its) (rx its) hm r then (sc (re W hm) (rh W its) (rx its) hm r, r) else b).1 → Krr τ1 n its (if b.1 < sc (re W hm) (rh W its) (rx its) hm r then (sc (re W hm) (rh W its) (rx its) hm r, r) else b).2) ∧ ∀ c i, ¬ c = 28 → gi τ1 c i = gi τ c i := by
      by_cases z : b.1 < sc (re W hm) (rh W its) (rx its) hm r
      · rw [if_pos z]
        obtain ⟨τ1, k1, k2, k3⟩ := s_keeps N hN hn hr hl
        refine ⟨τ1, fun rec => ?_, fun _ => k2, k3⟩
        unfold st_X10_round_102
        simp only [lt_p]
        rw [if_neg (show ¬ (1 : Int32) = 0 by decide), em, bd_some, if_neg (nI_ge (by omega) (by omega)), k1, bd_some]
      · rw [if_neg z]
        refine ⟨τ, fun rec => ?_, hk, fun _ _ _ => rfl⟩
        unfold st_X10_round_102
        simp only [lt_p]
        rw [if_neg (show ¬ (1 : Int32) = 0 by decide), em, bd_some, if_pos (nI_le (by omega) (by omega))]
    obtain ⟨τ1, s1, s2, s3⟩ := step
    have hr1 : Ro τ1 n r := ⟨hr.1, fun i hi => by rw [s3 _ _ (by decide)]; exact hr.2 i hi⟩
    have hb2 : (if b.1 < sc (re W hm) (rh W its) (rx its) hm r then (sc (re W hm) (rh W its) (rx its) hm r, r) else b).1 ≤ 100000000 := by
      by_cases z : b.1 < sc (re W hm) (rh W its) (rx its) hm r
      · rw [if_pos z]; exact hs
      · rw [if_neg z]; exact hb1
    have e' : itr (fun _ _ _ => none) (st_X10_round_102 N (nI hm) x3 (nI n) K) (M + 1) (nI (100000000 - b.1)) 1 τ = _ := s1 (itr (fun _ _ _ => none) (st_X10_round_102 N (nI hm) x3 (nI n) K) M)
    have hfb : fb (sc (re W hm) (rh W its) (rx its) hm) (r :: l) b = fb (sc (re W hm) (rh W its) (rx its) hm) l (if b.1 < sc (re W hm) (rh W its) (rx its) hm r then (sc (re W hm) (rh W its) (rx its) hm r, r) else b) := rfl
    rw [hfb]
    generalize (if b.1 < sc (re W hm) (rh W its) (rx its) hm r then (sc (re W hm) (rh W its) (rx its) hm r, r) else b) = b2 at *
    have hnx := s_nextRow N hN h1n hn hr1
    match l, hc, h2 with
    | [], hc, h2 =>
      have hno : nxr n r = none := by
        have : (nxr n r == none) = true := hc
        simpa using this
      rw [hnx.1 hno, bd_some] at e'
      obtain ⟨M, rfl⟩ : ∃ M', M = M' + 1 := ⟨M - 1, by have : ([] : List (List Nat)).length = 0 := rfl; omega⟩
      refine ⟨τ1, e'.trans ?_, s2, fun c i _ z => s3 c i z⟩
      show st_X10_round_102 N (nI hm) x3 (nI n) K _ _ 0 τ1 = _
      unfold st_X10_round_102
      rw [if_pos rfl]
      rfl
    | r2 :: l2, hc, h2 =>
      have hc2 : nxr n r = some r2 ∧ chn n (r2 :: l2) = true := by
        have : (nxr n r == some r2 && chn n (r2 :: l2)) = true := hc
        rw [Bool.and_eq_true] at this
        exact ⟨by simpa using this.1, this.2⟩
      obtain ⟨τ2, n1, n2, n3⟩ := hnx.2 r2 hc2.1
      rw [n1, bd_some] at e'
      obtain ⟨τ', r1, r2', r3⟩ := lp_r102 N hN h1n hn hh hW x3 K l2 r2 M b2 τ2 hc2.2 (by have : (r2 :: l2).length = l2.length + 1 := rfl; omega) n2 (fun i hi => by rw [n3 _ _ (by decide), s3 _ _ (by decide)]; exact hl i hi) (fun p q hp hq => by rw [n3 _ _ (by decide), s3 _ _ (by decide)]; exact hF p q hp hq) hb2 (fun h i hi => by rw [n3 _ _ (by decide)]; exact s2 h i hi)
      exact ⟨τ', e'.trans r1, r2', fun c i y1 y2 => by rw [r3 c i y1 y2, n3 c i y1, s3 c i y2]⟩
