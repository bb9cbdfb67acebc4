/-! the class's worths -/
def cc (V : Nat) : Nat := if V = 0 then 1000000 else 100000000 - V
def dc : Option Nat → Nat
  | some d => d
  | none => 1000000
theorem eC_dc (o : Option Nat) : eC o = nI (dc o) := by cases o <;> rfl
def Vd (k V : Nat) : Prop := V = 0 ∨ (100000000 - 1287 * (k + 1) ≤ V ∧ V ≤ 100000000)
theorem Vd.cand {k V : Nat} {o : Option Nat} (h : Vd k V) (ho : ∀ d, o = some d → d ≤ 1287) : Vd (k + 1) (V - dd o) := by
  cases o with
  | none =>
    left
    show V - 100000000 = 0
    rcases h with h | h <;> omega
  | some d =>
    have := ho d rfl
    show Vd (k + 1) (V - d)
    rcases h with h | h
    · left; omega
    · obtain ⟨h1, h2⟩ := h
      have e1 : 1287 * (k + 1 + 1) = 1287 * (k + 1) + 1287 := Nat.mul_succ _ _
      refine Or.inr ⟨?_, ?_⟩
      · rw [e1]
        generalize 1287 * (k + 1) = x at h1 ⊢
        omega
      · omega
theorem vd_tk {k : Nat} {a b : Nat × List Nat} (ha : Vd k a.1) (hb : Vd k b.1) : Vd k (tk a b).1 := by
  unfold tk
  by_cases z : a.1 < b.1
  · rw [if_pos z]; exact hb
  · rw [if_neg z]; exact ha
theorem tk_max (a b : Nat × List Nat) : (tk a b).1 = max a.1 b.1 := by
  unfold tk
  by_cases z : a.1 < b.1
  · rw [if_pos z]; omega
  · rw [if_neg z]; omega
theorem cc_le {k V : Nat} (hk : k ≤ 7) (h : Vd k V) : cc V ≤ 1000000 := by
  unfold cc
  rcases h with h | h
  · rw [if_pos h]; exact Nat.le_refl _
  · by_cases z : V = 0
    · rw [if_pos z]; exact Nat.le_refl _
    · rw [if_neg z]; omega
theorem cc_lt {k V : Nat} (hk : k ≤ 7) (h : Vd k V) : cc V < 1000000 ↔ 0 < V := by
  unfold cc
  by_cases z : V = 0
  · rw [if_pos z]; omega
  · rw [if_neg z]
    rcases h with h | h
    · omega
    · omega
theorem cc_step {k A V : Nat} {o : Option Nat} (hk : k + 1 ≤ 7) (hA : Vd (k + 1) A) (h : Vd k V) (ho : ∀ d, o = some d → d ≤ 1287) : min (cc A) (dc o + cc V) = cc (max A (V - dd o)) := by
  have h1 := cc_le (show k + 1 ≤ 7 from hk) hA
  have h2 := h.cand ho
  unfold cc at *
  cases o with
  | none =>
    show min _ (1000000 + _) = (if max A (V - 100000000) = 0 then 1000000 else 100000000 - max A (V - 100000000))
    have : V - 100000000 = 0 := by rcases h with h | h <;> omega
    rw [this, Nat.max_eq_left (Nat.zero_le A), Nat.min_eq_left (by omega)]
  | some d =>
    have hd := ho d rfl
    show min _ (d + _) = (if max A (V - d) = 0 then 1000000 else 100000000 - max A (V - d))
    have h2' : Vd (k + 1) (V - d) := h2
    by_cases zA : A = 0
    · rw [if_pos zA]
      by_cases zV : V = 0
      · rw [if_pos zV, if_pos (by omega)]; omega
      · rcases h with h | h
        · omega
        · rw [if_neg zV, if_neg (by omega)]; omega
    · rw [if_neg zA]
      rcases hA with hA | hA
      · omega
      · by_cases zV : V = 0
        · rw [if_pos zV, if_neg (by omega)]; omega
        · rcases h with h | h
          · omega
          · rw [if_neg zV, if_neg (by omega)]; omega
theorem fold_vd {k : Nat} {c : Nat → Nat × List Nat} : ∀ (S : List Nat) (a : Nat × List Nat), Vd k a.1 → (∀ i, i ∈ S → Vd k (c i).1) → Vd k (S.foldl (fun a i => tk a (c i)) a).1
  | [], a, h, _ => h
  | i :: S, a, h, hc => fold_vd S _ (vd_tk h (hc i (List.mem_cons_self ..))) (fun j hj => hc j (List.mem_cons_of_mem _ hj))
theorem bst_vd {W : Wm} {its : Nat → Nat} {hm : Nat} (hh : hm < 12) (hW : ∀ p q d, p < 12 → q < 12 → W p q = some d → d ≤ 1287) : ∀ (k : Nat) (S : List Nat) (st : Nat), st < 12 → (∀ i, i ∈ S → its i < 12) → Vd k (bst (re W hm) (rh W its) (rx its) k S st).1
  | 0, S, st, hst, _ => by
    show Vd 0 (100000000 - dd (W st hm))
    cases ho : W st hm with
    | none => left; rfl
    | some d =>
      have := hW st hm d hst hh ho
      right
      show 100000000 - 1287 * (0 + 1) ≤ 100000000 - d ∧ 100000000 - d ≤ 100000000
      omega
  | k + 1, S, st, hst, hS => by
    refine fold_vd (c := fun i => (rh W its st i (bst (re W hm) (rh W its) (rx its) k (S.erase i) (rx its st i)).1, i :: (bst (re W hm) (rh W its) (rx its) k (S.erase i) (rx its st i)).2)) S (0, []) (Or.inl rfl) (fun i hi => ?_)
    show Vd (k + 1) ((bst (re W hm) (rh W its) (rx its) k (S.erase i) (its i)).1 - dd (W st (its i)))
    exact (bst_vd hh hW k (S.erase i) (its i) (hS i hi) (fun j hj => hS j (List.mem_of_mem_erase hj))).cand (fun d hd => hW st (its i) d hst (hS i hi) hd)
