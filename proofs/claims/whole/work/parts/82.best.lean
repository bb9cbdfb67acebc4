/-! the first best row -/
/-- a row's worth, item behind item -/
def sc {σ : Type} (e : σ → Nat) (h : σ → Nat → Nat → Nat) (nx : σ → Nat → σ) : σ → List Nat → Nat
  | st, [] => e st
  | st, i :: l => h st i (sc e h nx (nx st i) l)
/-- the first row that is worth more than all ahead of it -/
def fb (f : List Nat → Nat) : List (List Nat) → Nat × List Nat → Nat × List Nat
  | [], a => a
  | r :: l, a => fb f l (if a.1 < f r then (f r, r) else a)
def tk (a b : Nat × List Nat) : Nat × List Nat := if a.1 < b.1 then b else a
/-- the best that lies ahead, and its row -/
def bst {σ : Type} (e : σ → Nat) (h : σ → Nat → Nat → Nat) (nx : σ → Nat → σ) : Nat → List Nat → σ → Nat × List Nat
  | 0, _, st => (e st, [])
  | k + 1, S, st => S.foldl (fun a i => tk a (h st i (bst e h nx k (S.erase i) (nx st i)).1, i :: (bst e h nx k (S.erase i) (nx st i)).2)) (0, [])
theorem fb_app (f : List Nat → Nat) : ∀ (l l' : List (List Nat)) (a : Nat × List Nat), fb f (l ++ l') a = fb f l' (fb f l a)
  | [], l', a => rfl
  | r :: l, l', a => fb_app f l l' _
theorem fb_ge (f : List Nat → Nat) : ∀ (l : List (List Nat)) (a : Nat × List Nat), a.1 ≤ (fb f l a).1
  | [], a => Nat.le_refl _
  | r :: l, a => by
    have := fb_ge f l (if a.1 < f r then (f r, r) else a)
    show a.1 ≤ (fb f l (if a.1 < f r then (f r, r) else a)).1
    by_cases z : a.1 < f r
    · rw [if_pos z] at this ⊢
      exact Nat.le_trans (Nat.le_of_lt z) this
    · rw [if_neg z] at this ⊢
      exact this
/-- a step in front of all rows -/
theorem fb_map {f f' : List Nat → Nat} {g : Nat → Nat} {i : Nat} (hf : ∀ l, f (i :: l) = g (f' l)) (hm : ∀ s s', s ≤ s' → g s ≤ g s') (hs : ∀ s s', s < s' → g s' = 0 ∨ g s < g s') : ∀ (L : List (List Nat)) (a b : Nat × List Nat), fb f (L.map (fun l => i :: l)) (tk a (g b.1, i :: b.2)) = tk a (g (fb f' L b).1, i :: (fb f' L b).2)
  | [], a, b => rfl
  | r :: L, a, b => by
    show fb f (L.map (fun l => i :: l)) (if (tk a (g b.1, i :: b.2)).1 < f (i :: r) then (f (i :: r), i :: r) else tk a (g b.1, i :: b.2)) = tk a (g (fb f' L (if b.1 < f' r then (f' r, r) else b)).1, i :: (fb f' L (if b.1 < f' r then (f' r, r) else b)).2)
    rw [hf]
    have key : (if (tk a (g b.1, i :: b.2)).1 < g (f' r) then (g (f' r), i :: r) else tk a (g b.1, i :: b.2)) = tk a (g (if b.1 < f' r then (f' r, r) else b).1, i :: (if b.1 < f' r then (f' r, r) else b).2) := by
      unfold tk
      by_cases z : b.1 < f' r
      · rw [if_pos z]
        show (if (if a.1 < g b.1 then (g b.1, i :: b.2) else a).1 < g (f' r) then (g (f' r), i :: r) else (if a.1 < g b.1 then (g b.1, i :: b.2) else a)) = if a.1 < g (f' r) then (g (f' r), i :: r) else a
        by_cases y : a.1 < g b.1
        · rw [if_pos y]
          have h1 := hm _ _ (Nat.le_of_lt z)
          have h2 : g b.1 < g (f' r) := (hs _ _ z).resolve_left (by omega)
          rw [if_pos h2, if_pos (by omega)]
        · rw [if_neg y]
      · rw [if_neg z]
        show (if (if a.1 < g b.1 then (g b.1, i :: b.2) else a).1 < g (f' r) then (g (f' r), i :: r) else (if a.1 < g b.1 then (g b.1, i :: b.2) else a)) = if a.1 < g b.1 then (g b.1, i :: b.2) else a
        have h1 := hm _ _ (Nat.le_of_not_lt z)
        by_cases y : a.1 < g b.1
        · rw [if_pos y, if_neg (show ¬ g b.1 < g (f' r) by omega)]
        · rw [if_neg y, if_neg (show ¬ a.1 < g (f' r) by omega)]
    rw [key]
    exact fb_map hf hm hs L a _
theorem tk_0 (a b : Nat × List Nat) (h : b.1 = 0) : tk a b = a := if_neg (by omega)
theorem tk_as (a b c : Nat × List Nat) : tk (tk a b) c = tk a (tk b c) := by
  unfold tk
  by_cases z : a.1 < b.1
  · rw [if_pos z]
    by_cases y : b.1 < c.1
    · rw [if_pos y, if_pos (by omega)]
    · rw [if_neg y, if_pos z]
  · rw [if_neg z]
    by_cases y : b.1 < c.1
    · rw [if_pos y]
    · rw [if_neg y, if_neg z, if_neg (by omega)]
theorem tk_z (a c : Nat × List Nat) : tk a (tk (0, []) c) = tk a c := by
  by_cases z : 0 < c.1
  · rw [show tk (0, []) c = c from if_pos z]
  · rw [show tk (0, []) c = (0, []) from if_neg z, tk_0 a _ rfl, tk_0 a c (by omega)]
theorem fold_tk (c : Nat → Nat × List Nat) : ∀ (S : List Nat) (a : Nat × List Nat), S.foldl (fun a i => tk a (c i)) a = tk a (S.foldl (fun a i => tk a (c i)) (0, []))
  | [], a => (tk_0 a _ rfl).symm
  | i :: S, a => by
    show S.foldl (fun a i => tk a (c i)) (tk a (c i)) = tk a (S.foldl (fun a i => tk a (c i)) (tk (0, []) (c i)))
    rw [fold_tk c S (tk a (c i)), fold_tk c S (tk (0, []) (c i)), tk_as, tk_as, tk_z]
theorem fb_map0 {f f' : List Nat → Nat} {g : Nat → Nat} {i : Nat} (hf : ∀ l, f (i :: l) = g (f' l)) (hm : ∀ s s', s ≤ s' → g s ≤ g s') (hs : ∀ s s', s < s' → g s' = 0 ∨ g s < g s') (g0 : g 0 = 0) (L : List (List Nat)) (a : Nat × List Nat) : fb f (L.map (fun l => i :: l)) a = tk a (g (fb f' L (0, [])).1, i :: (fb f' L (0, [])).2) := by
  have := fb_map hf hm hs L a (0, [])
  rw [tk_0 a (g 0, [i]) g0] at this
  exact this
/-- what a step may do to the worth that lies ahead -/
def Sp {σ : Type} (h : σ → Nat → Nat → Nat) : Prop := ∀ st i, h st i 0 = 0 ∧ (∀ s s', s ≤ s' → h st i s ≤ h st i s') ∧ ∀ s s', s < s' → h st i s' = 0 ∨ h st i s < h st i s'
theorem fb_prm {σ : Type} (e : σ → Nat) (h : σ → Nat → Nat → Nat) (nx : σ → Nat → σ) (hS : Sp h) : ∀ (k : Nat) (S : List Nat) (st : σ) (a : Nat × List Nat), fb (sc e h nx st) (prm k S) a = tk a (bst e h nx k S st)
  | 0, S, st, a => rfl
  | k + 1, S, st, a => by
    show fb (sc e h nx st) (S.flatMap (fun i => (prm k (S.erase i)).map (fun l => i :: l))) a = tk a (S.foldl (fun a i => tk a (h st i (bst e h nx k (S.erase i) (nx st i)).1, i :: (bst e h nx k (S.erase i) (nx st i)).2)) (0, []))
    rw [← fold_tk (fun i => (h st i (bst e h nx k (S.erase i) (nx st i)).1, i :: (bst e h nx k (S.erase i) (nx st i)).2)) S a]
    have key : ∀ (T : List Nat) (a : Nat × List Nat), fb (sc e h nx st) (T.flatMap (fun i => (prm k (S.erase i)).map (fun l => i :: l))) a = T.foldl (fun a i => tk a (h st i (bst e h nx k (S.erase i) (nx st i)).1, i :: (bst e h nx k (S.erase i) (nx st i)).2)) a := by
      intro T
      induction T with
      | nil => intro a; rfl
      | cons i T ih =>
        intro a
        rw [List.flatMap_cons, fb_app, ih, List.foldl_cons]
        congr 1
        rw [fb_map0 (f' := sc e h nx (nx st i)) (g := h st i) (fun l => rfl) (hS st i).2.1 (hS st i).2.2 (hS st i).1, fb_prm e h nx hS k]
        by_cases z : 0 < (bst e h nx k (S.erase i) (nx st i)).1
        · rw [show tk (0, []) (bst e h nx k (S.erase i) (nx st i)) = bst e h nx k (S.erase i) (nx st i) from if_pos z]
        · rw [show tk (0, []) (bst e h nx k (S.erase i) (nx st i)) = (0, []) from if_neg z]
          have z0 : (bst e h nx k (S.erase i) (nx st i)).1 = 0 := by omega
          rw [tk_0 a _ (show (h st i 0, [i]).1 = 0 from (hS st i).1), tk_0 a _ (by rw [z0]; exact (hS st i).1)]
    exact key S a
