/-! the head of the best row -/
/-- the first of S whose worth is V -/
def fst1 (c : Nat → Nat) (V : Nat) : List Nat → Option Nat
  | [] => none
  | i :: S => if c i = V then some i else fst1 c V S
theorem fold_le (c : Nat → Nat × List Nat) : ∀ (S : List Nat) (a : Nat × List Nat), a.1 ≤ (S.foldl (fun a i => tk a (c i)) a).1 ∧ ∀ i, i ∈ S → (c i).1 ≤ (S.foldl (fun a i => tk a (c i)) a).1
  | [], a => ⟨Nat.le_refl _, fun i h => by cases h⟩
  | j :: S, a => by
    obtain ⟨h1, h2⟩ := fold_le c S (tk a (c j))
    rw [tk_max] at h1
    refine ⟨Nat.le_trans (Nat.le_max_left _ _) h1, fun i hi => ?_⟩
    rcases List.mem_cons.mp hi with y | y
    · rw [y]; exact Nat.le_trans (Nat.le_max_right _ _) h1
    · exact h2 i y
theorem fold_fst (c : Nat → Nat × List Nat) : ∀ (S : List Nat) (a : Nat × List Nat), a.1 < (S.foldl (fun a i => tk a (c i)) a).1 → ∃ i, i ∈ S ∧ fst1 (fun i => (c i).1) (S.foldl (fun a i => tk a (c i)) a).1 S = some i ∧ S.foldl (fun a i => tk a (c i)) a = c i
  | [], a, h => absurd h (Nat.lt_irrefl _)
  | j :: S, a, h => by
    have h' : a.1 < (S.foldl (fun a i => tk a (c i)) (tk a (c j))).1 := h
    show ∃ i, i ∈ j :: S ∧ (if (c j).1 = (S.foldl (fun a i => tk a (c i)) (tk a (c j))).1 then some j else fst1 (fun i => (c i).1) (S.foldl (fun a i => tk a (c i)) (tk a (c j))).1 S) = some i ∧ S.foldl (fun a i => tk a (c i)) (tk a (c j)) = c i
    have hm := (fold_le c S (tk a (c j))).1
    by_cases z : (tk a (c j)).1 < (S.foldl (fun a i => tk a (c i)) (tk a (c j))).1
    · obtain ⟨i, h1, h2, h3⟩ := fold_fst c S (tk a (c j)) z
      rw [tk_max] at z
      refine ⟨i, List.mem_cons_of_mem _ h1, ?_, h3⟩
      rw [if_neg (by omega)]
      exact h2
    · have e : S.foldl (fun a i => tk a (c i)) (tk a (c j)) = tk (tk a (c j)) (S.foldl (fun a i => tk a (c i)) (0, [])) := fold_tk c S _
      have e2 : S.foldl (fun a i => tk a (c i)) (tk a (c j)) = tk a (c j) := by
        rw [e]
        unfold tk at z e ⊢
        by_cases y : (if a.1 < (c j).1 then c j else a).1 < (S.foldl (fun a i => if a.1 < (c i).1 then c i else a) (0, [])).1
        · rw [e, if_pos y] at z
          exact absurd y z
        · rw [if_neg y]
      have e3 : tk a (c j) = c j := by
        rw [e2] at h'
        unfold tk at h' ⊢
        by_cases y : a.1 < (c j).1
        · rw [if_pos y]
        · rw [if_neg y] at h'
          exact absurd h' (Nat.lt_irrefl _)
      refine ⟨j, List.mem_cons_self .., ?_, e2.trans e3⟩
      rw [e2, e3, if_pos rfl]
