/-! sets of stops as lists -/
theorem prm_head {n : Nat} (h1 : 1 ≤ n) (h7 : n ≤ 7) : ∃ l, prm n (List.range n) = List.range n :: l ∧ l.length + 1 ≤ 5040 := by
  have key : (prm n (List.range n)).head? = some (List.range n) ∧ (prm n (List.range n)).length ≤ 5040 := by
    rcases (show n = 1 ∨ n = 2 ∨ n = 3 ∨ n = 4 ∨ n = 5 ∨ n = 6 ∨ n = 7 by omega) with rfl | rfl | rfl | rfl | rfl | rfl | rfl
    · decide +kernel
    · decide +kernel
    · decide +kernel
    · decide +kernel
    · decide +kernel
    · decide +kernel
    · decide +kernel
  revert key
  generalize prm n (List.range n) = L
  intro key
  match L, key with
  | [], key => cases key.1
  | a :: l, key =>
    have : a = List.range n := Option.some.inj key.1
    exact ⟨l, by rw [this], key.2⟩
/-- the ones of m from place i on, u of them looked at -/
def lsf (m : Int32) : Nat → Nat → List Nat
  | 0, _ => []
  | u + 1, i => if bt m i = true then i :: lsf m u (i + 1) else lsf m u (i + 1)
theorem lsf_ge {m : Int32} {x : Nat} : ∀ {u i : Nat}, x ∈ lsf m u i → i ≤ x ∧ x < i + u ∧ bt m x = true
  | 0, i, h => by cases h
  | u + 1, i, h => by
    have h' : x ∈ (if bt m i = true then i :: lsf m u (i + 1) else lsf m u (i + 1)) := h
    by_cases z : bt m i = true
    · rw [if_pos z] at h'
      rcases List.mem_cons.mp h' with y | y
      · subst y; exact ⟨Nat.le_refl _, by omega, z⟩
      · have := lsf_ge y
        exact ⟨by omega, by omega, this.2.2⟩
    · rw [if_neg z] at h'
      have := lsf_ge h'
      exact ⟨by omega, by omega, this.2.2⟩
theorem lsf_eq {m m' : Int32} : ∀ (u i : Nat), (∀ x, i ≤ x → x < i + u → bt m' x = bt m x) → lsf m' u i = lsf m u i
  | 0, i, _ => rfl
  | u + 1, i, h => by
    show (if bt m' i = true then i :: lsf m' u (i + 1) else lsf m' u (i + 1)) = if bt m i = true then i :: lsf m u (i + 1) else lsf m u (i + 1)
    rw [h i (Nat.le_refl _) (by omega), lsf_eq u (i + 1) (fun x h1 h2 => h x (by omega) (by omega))]
theorem lsf_erase {m m' : Int32} {x : Nat} (hx : bt m x = true) (hx' : bt m' x = false) (he : ∀ y, y < 32 → ¬ y = x → bt m' y = bt m y) : ∀ (u i : Nat), i + u ≤ 32 → i ≤ x → x < i + u → (lsf m u i).erase x = lsf m' u i
  | 0, i, _, h1, h2 => by omega
  | u + 1, i, h0, h1, h2 => by
    show (if bt m i = true then i :: lsf m u (i + 1) else lsf m u (i + 1)).erase x = if bt m' i = true then i :: lsf m' u (i + 1) else lsf m' u (i + 1)
    by_cases z : i = x
    · subst z
      rw [if_pos hx, if_neg (by rw [hx']; decide), List.erase_cons_head]
      exact (lsf_eq u (i + 1) (fun y h1 h2 => he y (by omega) (by omega))).symm
    · rw [he i (by omega) z]
      by_cases y : bt m i = true
      · rw [if_pos y, if_pos y, List.erase_cons_tail (by simpa using z), lsf_erase hx hx' he u (i + 1) (by omega) (by omega) (by omega)]
      · rw [if_neg y, if_neg y, lsf_erase hx hx' he u (i + 1) (by omega) (by omega) (by omega)]
theorem msk_tab : ∀ mu, mu < 128 → ∀ i, i < 7 → bt (nI mu) i = true → (nI mu ^^^ ((1 : Int32) <<< (nI i &&& 31))) = nI (mu - 2 ^ i) ∧ 2 ^ i ≤ mu := by decide +kernel
theorem lsf_full : ∀ n, n ≤ 7 → lsf (nI (2 ^ n - 1)) n 0 = List.range n := by decide +kernel
