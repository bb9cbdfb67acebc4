/-! the relation between the class's memory and the reference's -/
theorem gi_eq (s : Mem) (c i : Nat) (v : Int32) : gi (si s c i v) c i = v := by rw [gi_si, if_pos ⟨rfl, rfl⟩]
theorem gi_ne {s : Mem} {c i c' i' : Nat} {v : Int32} (h : ¬ c' = c) : gi (si s c i v) c' i' = gi s c' i' := by rw [gi_si, if_neg (fun q => h q.1)]
theorem gi_ni {s : Mem} {c i c' i' : Nat} {v : Int32} (h : ¬ i' = i) : gi (si s c i v) c' i' = gi s c' i' := by rw [gi_si, if_neg (fun q => h q.2)]
abbrev Bt (x : Int32) : Prop := x.toInt8.toInt32 = x
/-- the tape -/
def Rt (σ τ : Mem) : Prop := (∃ n, n ≤ 260 ∧ gi σ 1 1 = nI n ∧ gi τ 0 5 = nI n) ∧ ∀ j, j < 260 → gi σ 2 j = gi τ 5 j &&& 255 ∧ Bt (gi τ 5 j)
/-- parishes told, roads -/
def Rp (σ τ : Mem) : Prop := gi σ 3 0 = gi τ 1 145 ∧ (∀ i, 12 ≤ i → i < 32 → bt (gi σ 3 0) i = false) ∧ ∀ p q, p < 12 → q < 12 → ∃ m, m ≤ 99 ∧ gi σ (5 + p) q = nI m ∧ gi τ 4 (12 * p + q) = nI m
/-- books at base b hold what α tells -/
def Rb (b : Nat) (σ : Mem) (α : Nat → Int32) : Prop :=
  ((∀ p, p < 12 → gi σ (b + 1) p = α p) ∧ gi σ b 1 = α 146 ∧ gi σ b 2 = α 144 ∧ gi σ b 10 = α 149 ∧ gi σ b 11 = α 147 ∧ gi σ b 12 = α 148 ∧ gi σ b 13 = α 150) ∧
  (∀ k, k < 6 → gi σ (b + 2) k = α (126 + k) ∧ gi σ (b + 3) k = α (132 + k) ∧ gi σ (b + 4) k = α (138 + k) ∧ gi σ (b + 6) k = α (84 + k)) ∧
  (∀ k p, k < 6 → p < 12 → (bt (gi σ (b + 5) k) p = true ∧ ¬ α (12 + 12 * k + p) = -1 ∧ gi σ (b + 8 + k) p = α (12 + 12 * k + p)) ∨ (bt (gi σ (b + 5) k) p = false ∧ α (12 + 12 * k + p) = -1)) ∧
  (∀ k i, k < 6 → 12 ≤ i → i < 32 → bt (gi σ (b + 5) k) i = false) ∧
  (∀ p j, p < 12 → j < 3 → (bt (gi σ (b + 14) j) p = true ∧ α (90 + 3 * p + j) = 1) ∨ (bt (gi σ (b + 14) j) p = false ∧ α (90 + 3 * p + j) = 0))
/-- what α may hold -/
def Inv (α : Nat → Int32) : Prop :=
  ((∀ p, p < 12 → ∃ w, w ≤ 99 ∧ α p = nI w) ∧ (∃ f, f ≤ 999999 ∧ α 149 = nI f) ∧ (∃ m, m ≤ 9999 ∧ α 147 = nI m) ∧ (∃ x, x < 65536 ∧ α 150 = nI x)) ∧
  (∀ i, 6 ≤ i → i < 32 → bt (α 146) i = false ∧ bt (α 144) i = false) ∧
  (∀ k, k < 6 → (∃ h, h < 12 ∧ α (126 + k) = nI h) ∧ (∃ l, l ≤ 9999 ∧ α (132 + k) = nI l) ∧ (∃ f, f ≤ 999999 ∧ α (138 + k) = nI f) ∧ ∀ i, 12 ≤ i → i < 32 → bt (α (84 + k)) i = false) ∧
  (∀ k p, k < 6 → p < 12 → α (12 + 12 * k + p) = -1 ∨ ∃ t, t ≤ 99999 ∧ α (12 + 12 * k + p) = nI t) ∧
  (∀ k, k < 6 → bt (α 146) k = false → (∀ p, p < 12 → α (12 + 12 * k + p) = -1) ∧ α (84 + k) = 0 ∧ bt (α 144) k = false)
/-- untold parishes have no wealth -/
def Iw (set : Int32) (α : Nat → Int32) : Prop := ∀ p, p < 12 → bt set p = false → α p = 0
def Al (τ : Mem) (m : Nat) : Nat → Int32 := fun i => gi τ m i
/-- texts -/
def Rx (σ τ : Mem) : Prop := (∀ k, k < 6 → ∃ n, n ≤ 40 ∧ gi σ 119 k = nI n ∧ gi τ 34 k = nI n ∧ ∀ j, j < n → gi σ (113 + k) j = gi τ 33 (40 * k + j) &&& 255) ∧ ∀ j, j < 280 → Bt (gi τ 33 j)
/-- now, and what was kept -/
def Rn (σ τ : Mem) : Prop := Rb 32 σ (Al τ 1) ∧ Inv (Al τ 1) ∧ Iw (gi τ 1 145) (Al τ 1)
def Rk (σ τ : Mem) : Prop := (gi σ 0 11 = 0 ∧ gi τ 0 55 = 0) ∨ (gi σ 0 11 = 1 ∧ gi τ 0 55 = 1 ∧ Rb 47 σ (Al τ 3) ∧ Inv (Al τ 3) ∧ Iw (gi τ 1 145) (Al τ 3))
-- each part depends on its own cells alone
theorem Rt.fr {σ τ σ' τ' : Mem} (h : Rt σ τ) (h1 : gi σ' 1 1 = gi σ 1 1) (h2 : ∀ j, j < 260 → gi σ' 2 j = gi σ 2 j) (h3 : gi τ' 0 5 = gi τ 0 5) (h4 : ∀ j, j < 260 → gi τ' 5 j = gi τ 5 j) : Rt σ' τ' := by
  obtain ⟨⟨n, a, b, c⟩, d⟩ := h
  refine ⟨⟨n, a, h1.trans b, h3.trans c⟩, fun j hj => ?_⟩
  rw [h2 j hj, h4 j hj]
  exact d j hj
theorem Rp.fr {σ τ σ' τ' : Mem} (h : Rp σ τ) (h1 : gi σ' 3 0 = gi σ 3 0) (h2 : ∀ p q, p < 12 → q < 12 → gi σ' (5 + p) q = gi σ (5 + p) q) (h3 : gi τ' 1 145 = gi τ 1 145) (h4 : ∀ j, j < 144 → gi τ' 4 j = gi τ 4 j) : Rp σ' τ' := by
  obtain ⟨a, b, c⟩ := h
  refine ⟨by rw [h1, h3]; exact a, by rw [h1]; exact b, fun p q hp hq => ?_⟩
  rw [h2 p q hp hq, h4 _ (by omega)]
  exact c p q hp hq
/-- cells that the books at b use: all places of arrays, the fields but readings and heldBack -/
def Bc (b c i : Nat) : Prop := (b ≤ c ∧ c < b + 15) ∧ ¬ (c = b ∧ (i = 14 ∨ i = 15))
theorem Rb.fr {b : Nat} {σ σ' : Mem} {α α' : Nat → Int32} (h : Rb b σ α) (h1 : ∀ c i, Bc b c i → gi σ' c i = gi σ c i) (h2 : ∀ i, i < 151 → ¬ i = 145 → α' i = α i) : Rb b σ' α' := by
  obtain ⟨⟨a1, a2, a3, a4, a5, a6, a7⟩, a8, a9, a10, a11⟩ := h
  refine ⟨⟨fun p hp => ?_, ?_, ?_, ?_, ?_, ?_, ?_⟩, fun k hk => ?_, fun k p hk hp => ?_, fun k i hk hi hi2 => ?_, fun p j hp hj => ?_⟩
  · rw [h1 _ _ (by unfold Bc; omega), h2 _ (by omega) (by omega)]; exact a1 p hp
  · rw [h1 _ _ (by unfold Bc; omega), h2 _ (by omega) (by omega)]; exact a2
  · rw [h1 _ _ (by unfold Bc; omega), h2 _ (by omega) (by omega)]; exact a3
  · rw [h1 _ _ (by unfold Bc; omega), h2 _ (by omega) (by omega)]; exact a4
  · rw [h1 _ _ (by unfold Bc; omega), h2 _ (by omega) (by omega)]; exact a5
  · rw [h1 _ _ (by unfold Bc; omega), h2 _ (by omega) (by omega)]; exact a6
  · rw [h1 _ _ (by unfold Bc; omega), h2 _ (by omega) (by omega)]; exact a7
  · rw [h1 _ _ (by unfold Bc; omega), h1 _ _ (by unfold Bc; omega), h1 _ _ (by unfold Bc; omega), h1 _ _ (by unfold Bc; omega), h2 _ (by omega) (by omega), h2 _ (by omega) (by omega), h2 _ (by omega) (by omega), h2 _ (by omega) (by omega)]
    exact a8 k hk
  · rw [h1 _ _ (by unfold Bc; omega), h1 _ _ (by unfold Bc; omega), h2 _ (by omega) (by omega)]
    exact a9 k p hk hp
  · rw [h1 _ _ (by unfold Bc; omega)]
    exact a10 k i hk hi hi2
  · rw [h1 _ _ (by unfold Bc; omega), h2 _ (by omega) (by omega)]
    exact a11 p j hp hj
theorem Inv.fr {α α' : Nat → Int32} (h : Inv α) (h2 : ∀ i, i < 151 → ¬ i = 145 → α' i = α i) : Inv α' := by
  obtain ⟨⟨a1, a2, a3, a4⟩, a5, a6, a7, a8⟩ := h
  refine ⟨⟨fun p hp => ?_, ?_, ?_, ?_⟩, fun i hi hi2 => ?_, fun k hk => ?_, fun k p hk hp => ?_, fun k hk => ?_⟩
  · rw [h2 _ (by omega) (by omega)]; exact a1 p hp
  · rw [h2 _ (by omega) (by omega)]; exact a2
  · rw [h2 _ (by omega) (by omega)]; exact a3
  · rw [h2 _ (by omega) (by omega)]; exact a4
  · rw [h2 _ (by omega) (by omega), h2 _ (by omega) (by omega)]; exact a5 i hi hi2
  · rw [h2 _ (by omega) (by omega), h2 _ (by omega) (by omega), h2 _ (by omega) (by omega), h2 _ (by omega) (by omega)]; exact a6 k hk
  · rw [h2 _ (by omega) (by omega)]; exact a7 k p hk hp
  · rw [h2 146 (by omega) (by omega), h2 144 (by omega) (by omega), h2 (84 + k) (by omega) (by omega)]
    intro q
    obtain ⟨b1, b2, b3⟩ := a8 k hk q
    exact ⟨fun p hp => by rw [h2 _ (by omega) (by omega)]; exact b1 p hp, b2, b3⟩
theorem Iw.fr {set : Int32} {α α' : Nat → Int32} (h : Iw set α) (h2 : ∀ i, i < 12 → α' i = α i) : Iw set α' := fun p hp q => by rw [h2 p hp]; exact h p hp q
theorem Rx.fr {σ τ σ' τ' : Mem} (h : Rx σ τ) (h1 : ∀ c i, 113 ≤ c → c < 120 → gi σ' c i = gi σ c i) (h2 : ∀ i, i < 280 → gi τ' 33 i = gi τ 33 i) (h3 : ∀ i, i < 6 → gi τ' 34 i = gi τ 34 i) : Rx σ' τ' := by
  obtain ⟨a, b⟩ := h
  refine ⟨fun k hk => ?_, fun j hj => ?_⟩
  · obtain ⟨n, a1, a2, a3, a4⟩ := a k hk
    refine ⟨n, a1, by rw [h1 _ _ (by omega) (by omega)]; exact a2, by rw [h3 k hk]; exact a3, fun j hj => ?_⟩
    rw [h1 _ _ (by omega) (by omega), h2 _ (by omega)]
    exact a4 j hj
  · rw [h2 j hj]; exact b j hj
