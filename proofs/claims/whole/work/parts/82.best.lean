/-! the first best row -/
/-- a row's worth, item behind item -/
def sc {σ : Type} (e : σ → Nat) (h : σ → Nat → Nat → Nat) (nx : σ → Nat → σ) : σ → List Nat → Nat
  | st, [] => e st
  | st, i :: l => h st i (sc e h nx (nx st i) l)
/-- the first row that is worth more than all ahead of it -/
def fb (f : List Nat → Nat) : List (List Nat) → Nat × List Nat → Nat × List Nat
  | [], a => a
  | r :: l, a => fb f l (if a.1 < f r then (f r, r) else a)
def tk (a b : Nat × List Nat) : Nat × List Nat := if a.1 < b.1 then b else a
/-- the best that lies ahead, and its row -/
def bst {σ : Type} (e : σ → Nat) (h : σ → Nat → Nat → Nat) (nx : σ → Nat → σ) : Nat → List Nat → σ → Nat × List Nat
  | 0, _, st => (e st, [])
  | k + 1, S, st => S.foldl (fun a i => tk a (h st i (bst e h nx k (S.erase i) (nx st i)).1, i :: (bst e h nx k (S.erase i) (nx st i)).2)) (0, [])
theorem fb_app (f : List Nat → Nat) : ∀ (l l' : List (List Nat)) (a : Nat × List Nat), fb f (l ++ l') a = fb f l' (fb f l a)
  | [], l', a => rfl
  | r :: l, l', a => fb_app f l l' _
theorem fb_ge (f : List Nat → Nat) : ∀ (l : List (List Nat)) (a : Nat × List Nat), a.1 ≤ (fb f l a).1
  | [], a => Nat.le_refl _
  | r :: l, a => by
    have := fb_ge f l (if a.1 < f r then (f r, r) else a)
    show a.1 ≤ (fb f l (if a.1 < f r then (f r, r) else a)).1
    by_cases z : a.1 < f r
    · rw [if_pos z] at this ⊢
      exact Nat.le_trans (Nat.le_of_lt z) this
    · rw [if_neg z] at this ⊢
      exact this
/-- a step in front of all rows -/
theorem fb_map {f f' : List Nat → Nat} {g : Nat → Nat} {i : Nat} (hf : ∀ l, f (i :: l) = g (f' l)) (hm : ∀ s s', s ≤ s' → g s ≤ g s') (hs : ∀ s s', s < s' → g s' = 0 ∨ g s < g s') (g0 : g 0 = 0 ∨ ∀ l, 0 < f' l) : ∀ (L : List (List Nat)) (a b : Nat × List Nat), (b.1 = 0 ∨ a.1 < g b.1 ∨ True) → fb f (L.map (fun l => i :: l)) (tk a (g b.1, i :: b.2)) = tk a (g (fb f' L b).1, i :: (fb f' L b).2)
  | [], a, b, _ => rfl
  | r :: L, a, b, _ => by
    show fb f (L.map (fun l => i :: l)) (if (tk a (g b.1, i :: b.2)).1 < f (i :: r) then (f (i :: r), i :: r) else tk a (g b.1, i :: b.2)) = tk a (g (fb f' L (if b.1 < f' r then (f' r, r) else b)).1, i :: (fb f' L (if b.1 < f' r then (f' r, r) else b)).2)
    rw [hf]
    have key : (if (tk a (g b.1, i :: b.2)).1 < g (f' r) then (g (f' r), i :: r) else tk a (g b.1, i :: b.2)) = tk a (g (if b.1 < f' r then (f' r, r) else b).1, i :: (if b.1 < f' r then (f' r, r) else b).2) := by
      unfold tk
      by_cases z : b.1 < f' r
      · rw [if_pos z]
        show (if (if a.1 < g b.1 then (g b.1, i :: b.2) else a).1 < g (f' r) then (g (f' r), i :: r) else (if a.1 < g b.1 then (g b.1, i :: b.2) else a)) = if a.1 < g (f' r) then (g (f' r), i :: r) else a
        by_cases y : a.1 < g b.1
        · rw [if_pos y]
          have h1 := hm _ _ (Nat.le_of_lt z)
          have h2 : g b.1 < g (f' r) := (hs _ _ z).resolve_left (by omega)
          rw [if_pos h2, if_pos (by omega)]
        · rw [if_neg y]
      · rw [if_neg z]
        show (if (if a.1 < g b.1 then (g b.1, i :: b.2) else a).1 < g (f' r) then (g (f' r), i :: r) else (if a.1 < g b.1 then (g b.1, i :: b.2) else a)) = if a.1 < g b.1 then (g b.1, i :: b.2) else a
        have h1 := hm _ _ (Nat.le_of_not_lt z)
        by_cases y : a.1 < g b.1
        · rw [if_pos y, if_neg (show ¬ g b.1 < g (f' r) by omega)]
        · rw [if_neg y, if_neg (show ¬ a.1 < g (f' r) by omega)]
    rw [key]
    exact fb_map hf hm hs g0 L a _ (Or.inr (Or.inr trivial))
