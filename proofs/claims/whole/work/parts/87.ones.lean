/-! the ones of a set, listed -/
def itf (m : Int32) (j : Nat) : Nat → Nat → Nat
  | 0, p => p
  | u + 1, p => if bt m p = true ∧ cnt m p = j then p else itf m j u (p + 1)
def it (m : Int32) (j : Nat) : Nat := itf m j 12 0
theorem cnt_mono (m : Int32) {p q : Nat} (h : p ≤ q) : cnt m p ≤ cnt m q := by
  induction q with
  | zero => rw [show p = 0 by omega]; exact Nat.le_refl _
  | succ q ih =>
    by_cases z : p = q + 1
    · rw [z]; exact Nat.le_refl _
    · have := ih (by omega)
      rw [cnt_s]
      omega
theorem cnt_one {m : Int32} {p q : Nat} (h : p < q) (hp : bt m p = true) : cnt m p < cnt m q := by
  have := cnt_mono m (show p + 1 ≤ q by omega)
  rw [cnt_s, if_pos hp] at this
  omega
theorem itf_at {m : Int32} {p : Nat} (hp : bt m p = true) : ∀ (u q : Nat), q ≤ p → p < q + u → itf m (cnt m p) u q = p
  | 0, q, h1, h2 => by omega
  | u + 1, q, h1, h2 => by
    show (if bt m q = true ∧ cnt m q = cnt m p then q else itf m (cnt m p) u (q + 1)) = p
    by_cases z : q = p
    · rw [z, if_pos ⟨hp, rfl⟩]
    · rw [if_neg (fun y => by have := cnt_one (show q < p by omega) y.1; omega)]
      exact itf_at hp u (q + 1) (by omega) (by omega)
theorem it_at {m : Int32} {p : Nat} (h : p < 12) (hp : bt m p = true) : it m (cnt m p) = p := itf_at hp 12 0 (by omega) (by omega)
theorem lp_lst (N : Nat) {m : Int32} (hc : cnt m 12 ≤ 7) : ∀ (u p M : Nat) (τ : Mem), p + u = 12 → u < M → (∀ j, j < cnt m p → gi τ 26 j = nI (it m j) ∧ it m j < 12) → ∃ τ', itr (fun _ _ _ => none) (st_X10_listsOnes_4 N m) M (nI (cnt m p)) (nI p) τ = some ((), τ') ∧ (∀ j, j < cnt m 12 → gi τ' 26 j = nI (it m j) ∧ it m j < 12) ∧ ∀ c i, ¬ c = 26 → gi τ' c i = gi τ c i
  | u, p, 0, τ, _, h2, _ => absurd h2 (by omega)
  | 0, p, M + 1, τ, h1, _, h => by
    obtain rfl : p = 12 := by omega
    refine ⟨τ, ?_, h, fun _ _ _ => rfl⟩
    show st_X10_listsOnes_4 N m _ (nI (cnt m 12)) (nI 12) τ = _
    unfold st_X10_listsOnes_4
    rw [if_pos (by decide)]
  | u + 1, p, M + 1, τ, h1, h2, h => by
    have hp : p < 12 := by omega
    have hcs := cnt_s m p
    have hm := cnt_mono m (show p + 1 ≤ 12 by omega)
    by_cases z : bt m p = true
    · rw [if_pos z] at hcs
      have e : ∀ rec, st_X10_listsOnes_4 N m rec (nI (cnt m p)) (nI p) τ = rec (nI (cnt m (p + 1))) (nI (p + 1)) (si τ 26 (cnt m p) (nI p)) := by
        intro rec
        unfold st_X10_listsOnes_4
        simp only [lt_p]
        rw [if_neg (show ¬ (12 : Int32) ≤ nI p from nI_ge (b := 12) hp (by decide)), e_has, bd_some, ite10, if_pos ((hb_iff _ (by omega)).mpr z), chk_n (by omega) (by decide), ix_n (by omega), nI_1, nI_1, hcs]
      have e' : itr (fun _ _ _ => none) (st_X10_listsOnes_4 N m) (M + 1) (nI (cnt m p)) (nI p) τ = _ := e (itr (fun _ _ _ => none) (st_X10_listsOnes_4 N m) M)
      obtain ⟨τ', r1, r2, r3⟩ := lp_lst N hc u (p + 1) M (si τ 26 (cnt m p) (nI p)) (by omega) (by omega) (fun j hj => by
        by_cases y : j = cnt m p
        · rw [y, gi_eq, it_at hp z]
          exact ⟨rfl, hp⟩
        · rw [gi_ni y]
          exact h j (by omega))
      exact ⟨τ', e'.trans r1, r2, fun c i y => by rw [r3 c i y, gi_ne y]⟩
    · rw [if_neg z, Nat.add_zero] at hcs
      have e : ∀ rec, st_X10_listsOnes_4 N m rec (nI (cnt m p)) (nI p) τ = rec (nI (cnt m (p + 1))) (nI (p + 1)) τ := by
        intro rec
        unfold st_X10_listsOnes_4
        simp only [lt_p]
        rw [if_neg (show ¬ (12 : Int32) ≤ nI p from nI_ge (b := 12) hp (by decide)), e_has, bd_some, ite10, if_neg (fun y => z ((hb_iff _ (by omega)).mp y)), nI_1, hcs]
        rfl
      have e' : itr (fun _ _ _ => none) (st_X10_listsOnes_4 N m) (M + 1) (nI (cnt m p)) (nI p) τ = _ := e (itr (fun _ _ _ => none) (st_X10_listsOnes_4 N m) M)
      obtain ⟨τ', r1, r2, r3⟩ := lp_lst N hc u (p + 1) M τ (by omega) (by omega) (fun j hj => h j (by omega))
      exact ⟨τ', e'.trans r1, r2, r3⟩
theorem s_lists (N : Nat) (hN : 300 ≤ N) {m : Int32} (hc : cnt m 12 ≤ 7) (τ : Mem) : ∃ τ', f_X10_listsOnes N m τ = some ((), τ') ∧ Ls τ' (cnt m 12) (it m) ∧ ∀ c i, ¬ c = 26 → gi τ' c i = gi τ c i := lp_lst N hc 12 0 N τ (by omega) (by omega) (fun j hj => absurd hj (Nat.not_lt_zero _))
/-- the class's stops -/
def Lc (σ : Mem) (n : Nat) (its : Nat → Nat) : Prop := ∀ i, i < n → gi σ 30 i = nI (its i) ∧ its i < 12
theorem lp_gr7 (N : Nat) {m x1 : Int32} (hc : cnt m 12 ≤ 7) (K : Mem → Option (Int32 × Mem)) : ∀ (u p M : Nat) (σ : Mem), p + u = 12 → u < M → gi σ 3 5 = nI (cnt m p) → Lc σ (cnt m p) (it m) → ∃ σ', itr (fun _ _ => none) (st_X3_goRound_7 N x1 m K) M (nI p) σ = K σ' ∧ gi σ' 3 5 = nI (cnt m 12) ∧ Lc σ' (cnt m 12) (it m) ∧ ∀ c i, ¬ c = 30 → ¬ (c = 3 ∧ i = 5) → gi σ' c i = gi σ c i
  | u, p, 0, σ, _, h2, _, _ => absurd h2 (by omega)
  | 0, p, M + 1, σ, h1, _, h35, h => by
    obtain rfl : p = 12 := by omega
    refine ⟨σ, ?_, h35, h, fun _ _ _ _ => rfl⟩
    show st_X3_goRound_7 N x1 m K _ (nI 12) σ = _
    unfold st_X3_goRound_7
    rw [if_pos (by decide)]
  | u + 1, p, M + 1, σ, h1, h2, h35, h => by
    have hp : p < 12 := by omega
    have hcs := cnt_s m p
    have hm := cnt_mono m (show p + 1 ≤ 12 by omega)
    by_cases z : bt m p = true
    · rw [if_pos z] at hcs
      have g35 : gi (si σ 30 (cnt m p) (nI p)) 3 5 = nI (cnt m p) := by rw [gi_ne (by decide)]; exact h35
      have e : ∀ rec, st_X3_goRound_7 N x1 m K rec (nI p) σ = rec (nI (p + 1)) (si (si σ 30 (cnt m p) (nI p)) 3 5 (nI (cnt m (p + 1)))) := by
        intro rec
        unfold st_X3_goRound_7
        simp only [lt_p]
        rw [if_neg (show ¬ (12 : Int32) ≤ nI p from nI_ge (b := 12) hp (by decide)), e_hasBit, bd_some, ite10, if_pos ((hb_iff _ (by omega)).mpr z), h35, if_neg (show ¬ (7 : Int32) ≤ nI (cnt m p) from nI_ge (b := 7) (by omega) (by decide)), chk_n (by omega) (by decide), ix_n (by omega), g35, nI_1, nI_1, hcs]
      have e' : itr (fun _ _ => none) (st_X3_goRound_7 N x1 m K) (M + 1) (nI p) σ = _ := e (itr (fun _ _ => none) (st_X3_goRound_7 N x1 m K) M)
      obtain ⟨σ', r1, r2, r3, r4⟩ := lp_gr7 N hc K u (p + 1) M (si (si σ 30 (cnt m p) (nI p)) 3 5 (nI (cnt m (p + 1)))) (by omega) (by omega) (gi_eq _ _ _ _) (fun j hj => by
        rw [gi_ne (show ¬ 30 = 3 by decide)]
        by_cases y : j = cnt m p
        · rw [y, gi_eq, it_at hp z]
          exact ⟨rfl, hp⟩
        · rw [gi_ni y]
          exact h j (by omega))
      exact ⟨σ', e'.trans r1, r2, r3, fun c i y1 y2 => by rw [r4 c i y1 y2, gi_si, if_neg y2, gi_ne y1]⟩
    · rw [if_neg z, Nat.add_zero] at hcs
      have e : ∀ rec, st_X3_goRound_7 N x1 m K rec (nI p) σ = rec (nI (p + 1)) σ := by
        intro rec
        unfold st_X3_goRound_7
        simp only [lt_p]
        rw [if_neg (show ¬ (12 : Int32) ≤ nI p from nI_ge (b := 12) hp (by decide)), e_hasBit, bd_some, ite10, if_neg (fun y => z ((hb_iff _ (by omega)).mp y)), nI_1]
      have e' : itr (fun _ _ => none) (st_X3_goRound_7 N x1 m K) (M + 1) (nI p) σ = _ := e (itr (fun _ _ => none) (st_X3_goRound_7 N x1 m K) M)
      obtain ⟨σ', r1, r2, r3, r4⟩ := lp_gr7 N hc K u (p + 1) M σ (by omega) (by omega) (by rw [hcs]; exact h35) (fun j hj => h j (by omega))
      exact ⟨σ', e'.trans r1, r2, r3, r4⟩
