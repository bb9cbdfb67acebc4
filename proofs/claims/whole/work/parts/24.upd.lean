/-! one write on each side -/
theorem up_eq {α : Nat → Int32} {k : Nat} {v : Int32} : va_up α k v k = v := if_pos rfl
theorem up_ne {α : Nat → Int32} {k j : Nat} {v : Int32} (h : ¬ j = k) : va_up α k v j = α j := if_neg h
theorem Al_si (τ : Mem) (m i : Nat) (v : Int32) : Al (si τ m i v) m = va_up (Al τ m) i v := by
  funext j
  unfold Al va_up
  rw [gi_si]
  by_cases h : j = i
  · rw [if_pos ⟨rfl, h⟩, if_pos h]
  · rw [if_neg (fun q => h q.2), if_neg h]
theorem Al_ne {τ : Mem} {m c i : Nat} {v : Int32} (h : ¬ m = c) : Al (si τ c i v) m = Al τ m := by
  funext j
  unfold Al
  rw [gi_ne h]
theorem Rb.w {b : Nat} {σ : Mem} {α : Nat → Int32} (h : Rb b σ α) {k : Nat} (hk : k < 12) (v : Int32) : Rb b (si σ (b + 1) k v) (va_up α k v) := by
  obtain ⟨⟨a1, a2, a3, a4, a5, a6, a7⟩, a8, a9, a10, a11⟩ := h
  refine ⟨⟨fun p hp => ?_, ?_, ?_, ?_, ?_, ?_, ?_⟩, fun k' hk' => ?_, fun k' p hk' hp => ?_, fun k' i hk' hi hi2 => ?_, fun p j hp hj => ?_⟩
  · by_cases e : p = k
    · subst e; rw [gi_eq, up_eq]
    · rw [gi_ni e, up_ne e]; exact a1 p hp
  · simp (disch := omega) only [gi_ne, gi_ni, gi_eq, up_ne, up_eq]; exact a2
  · simp (disch := omega) only [gi_ne, gi_ni, gi_eq, up_ne, up_eq]; exact a3
  · simp (disch := omega) only [gi_ne, gi_ni, gi_eq, up_ne, up_eq]; exact a4
  · simp (disch := omega) only [gi_ne, gi_ni, gi_eq, up_ne, up_eq]; exact a5
  · simp (disch := omega) only [gi_ne, gi_ni, gi_eq, up_ne, up_eq]; exact a6
  · simp (disch := omega) only [gi_ne, gi_ni, gi_eq, up_ne, up_eq]; exact a7
  · simp (disch := omega) only [gi_ne, gi_ni, gi_eq, up_ne, up_eq]; exact a8 k' hk'
  · simp (disch := omega) only [gi_ne, gi_ni, gi_eq, up_ne, up_eq]; exact a9 k' p hk' hp
  · simp (disch := omega) only [gi_ne, gi_ni, gi_eq, up_ne, up_eq]; exact a10 k' i hk' hi hi2
  · simp (disch := omega) only [gi_ne, gi_ni, gi_eq, up_ne, up_eq]; exact a11 p j hp hj
theorem Rb.f1 {b : Nat} {σ : Mem} {α : Nat → Int32} (h : Rb b σ α) (v : Int32) : Rb b (si σ b 1 v) (va_up α 146 v) := by
  obtain ⟨⟨a1, a2, a3, a4, a5, a6, a7⟩, a8, a9, a10, a11⟩ := h
  refine ⟨⟨fun p hp => ?_, ?_, ?_, ?_, ?_, ?_, ?_⟩, fun k' hk' => ?_, fun k' p hk' hp => ?_, fun k' i hk' hi hi2 => ?_, fun p j hp hj => ?_⟩
  · simp (disch := omega) only [gi_ne, gi_ni, gi_eq, up_ne, up_eq]; exact a1 p hp
  · rw [gi_eq, up_eq]
  · simp (disch := omega) only [gi_ne, gi_ni, gi_eq, up_ne, up_eq]; exact a3
  · simp (disch := omega) only [gi_ne, gi_ni, gi_eq, up_ne, up_eq]; exact a4
  · simp (disch := omega) only [gi_ne, gi_ni, gi_eq, up_ne, up_eq]; exact a5
  · simp (disch := omega) only [gi_ne, gi_ni, gi_eq, up_ne, up_eq]; exact a6
  · simp (disch := omega) only [gi_ne, gi_ni, gi_eq, up_ne, up_eq]; exact a7
  · simp (disch := omega) only [gi_ne, gi_ni, gi_eq, up_ne, up_eq]; exact a8 k' hk'
  · simp (disch := omega) only [gi_ne, gi_ni, gi_eq, up_ne, up_eq]; exact a9 k' p hk' hp
  · simp (disch := omega) only [gi_ne, gi_ni, gi_eq, up_ne, up_eq]; exact a10 k' i hk' hi hi2
  · simp (disch := omega) only [gi_ne, gi_ni, gi_eq, up_ne, up_eq]; exact a11 p j hp hj
theorem Rb.f2 {b : Nat} {σ : Mem} {α : Nat → Int32} (h : Rb b σ α) (v : Int32) : Rb b (si σ b 2 v) (va_up α 144 v) := by
  obtain ⟨⟨a1, a2, a3, a4, a5, a6, a7⟩, a8, a9, a10, a11⟩ := h
  refine ⟨⟨fun p hp => ?_, ?_, ?_, ?_, ?_, ?_, ?_⟩, fun k' hk' => ?_, fun k' p hk' hp => ?_, fun k' i hk' hi hi2 => ?_, fun p j hp hj => ?_⟩
  · simp (disch := omega) only [gi_ne, gi_ni, gi_eq, up_ne, up_eq]; exact a1 p hp
  · simp (disch := omega) only [gi_ne, gi_ni, gi_eq, up_ne, up_eq]; exact a2
  · rw [gi_eq, up_eq]
  · simp (disch := omega) only [gi_ne, gi_ni, gi_eq, up_ne, up_eq]; exact a4
  · simp (disch := omega) only [gi_ne, gi_ni, gi_eq, up_ne, up_eq]; exact a5
  · simp (disch := omega) only [gi_ne, gi_ni, gi_eq, up_ne, up_eq]; exact a6
  · simp (disch := omega) only [gi_ne, gi_ni, gi_eq, up_ne, up_eq]; exact a7
  · simp (disch := omega) only [gi_ne, gi_ni, gi_eq, up_ne, up_eq]; exact a8 k' hk'
  · simp (disch := omega) only [gi_ne, gi_ni, gi_eq, up_ne, up_eq]; exact a9 k' p hk' hp
  · simp (disch := omega) only [gi_ne, gi_ni, gi_eq, up_ne, up_eq]; exact a10 k' i hk' hi hi2
  · simp (disch := omega) only [gi_ne, gi_ni, gi_eq, up_ne, up_eq]; exact a11 p j hp hj
theorem Rb.f10 {b : Nat} {σ : Mem} {α : Nat → Int32} (h : Rb b σ α) (v : Int32) : Rb b (si σ b 10 v) (va_up α 149 v) := by
  obtain ⟨⟨a1, a2, a3, a4, a5, a6, a7⟩, a8, a9, a10, a11⟩ := h
  refine ⟨⟨fun p hp => ?_, ?_, ?_, ?_, ?_, ?_, ?_⟩, fun k' hk' => ?_, fun k' p hk' hp => ?_, fun k' i hk' hi hi2 => ?_, fun p j hp hj => ?_⟩
  · simp (disch := omega) only [gi_ne, gi_ni, gi_eq, up_ne, up_eq]; exact a1 p hp
  · simp (disch := omega) only [gi_ne, gi_ni, gi_eq, up_ne, up_eq]; exact a2
  · simp (disch := omega) only [gi_ne, gi_ni, gi_eq, up_ne, up_eq]; exact a3
  · rw [gi_eq, up_eq]
  · simp (disch := omega) only [gi_ne, gi_ni, gi_eq, up_ne, up_eq]; exact a5
  · simp (disch := omega) only [gi_ne, gi_ni, gi_eq, up_ne, up_eq]; exact a6
  · simp (disch := omega) only [gi_ne, gi_ni, gi_eq, up_ne, up_eq]; exact a7
  · simp (disch := omega) only [gi_ne, gi_ni, gi_eq, up_ne, up_eq]; exact a8 k' hk'
  · simp (disch := omega) only [gi_ne, gi_ni, gi_eq, up_ne, up_eq]; exact a9 k' p hk' hp
  · simp (disch := omega) only [gi_ne, gi_ni, gi_eq, up_ne, up_eq]; exact a10 k' i hk' hi hi2
  · simp (disch := omega) only [gi_ne, gi_ni, gi_eq, up_ne, up_eq]; exact a11 p j hp hj
theorem Rb.f11 {b : Nat} {σ : Mem} {α : Nat → Int32} (h : Rb b σ α) (v : Int32) : Rb b (si σ b 11 v) (va_up α 147 v) := by
  obtain ⟨⟨a1, a2, a3, a4, a5, a6, a7⟩, a8, a9, a10, a11⟩ := h
  refine ⟨⟨fun p hp => ?_, ?_, ?_, ?_, ?_, ?_, ?_⟩, fun k' hk' => ?_, fun k' p hk' hp => ?_, fun k' i hk' hi hi2 => ?_, fun p j hp hj => ?_⟩
  · simp (disch := omega) only [gi_ne, gi_ni, gi_eq, up_ne, up_eq]; exact a1 p hp
  · simp (disch := omega) only [gi_ne, gi_ni, gi_eq, up_ne, up_eq]; exact a2
  · simp (disch := omega) only [gi_ne, gi_ni, gi_eq, up_ne, up_eq]; exact a3
  · simp (disch := omega) only [gi_ne, gi_ni, gi_eq, up_ne, up_eq]; exact a4
  · rw [gi_eq, up_eq]
  · simp (disch := omega) only [gi_ne, gi_ni, gi_eq, up_ne, up_eq]; exact a6
  · simp (disch := omega) only [gi_ne, gi_ni, gi_eq, up_ne, up_eq]; exact a7
  · simp (disch := omega) only [gi_ne, gi_ni, gi_eq, up_ne, up_eq]; exact a8 k' hk'
  · simp (disch := omega) only [gi_ne, gi_ni, gi_eq, up_ne, up_eq]; exact a9 k' p hk' hp
  · simp (disch := omega) only [gi_ne, gi_ni, gi_eq, up_ne, up_eq]; exact a10 k' i hk' hi hi2
  · simp (disch := omega) only [gi_ne, gi_ni, gi_eq, up_ne, up_eq]; exact a11 p j hp hj
theorem Rb.f12 {b : Nat} {σ : Mem} {α : Nat → Int32} (h : Rb b σ α) (v : Int32) : Rb b (si σ b 12 v) (va_up α 148 v) := by
  obtain ⟨⟨a1, a2, a3, a4, a5, a6, a7⟩, a8, a9, a10, a11⟩ := h
  refine ⟨⟨fun p hp => ?_, ?_, ?_, ?_, ?_, ?_, ?_⟩, fun k' hk' => ?_, fun k' p hk' hp => ?_, fun k' i hk' hi hi2 => ?_, fun p j hp hj => ?_⟩
  · simp (disch := omega) only [gi_ne, gi_ni, gi_eq, up_ne, up_eq]; exact a1 p hp
  · simp (disch := omega) only [gi_ne, gi_ni, gi_eq, up_ne, up_eq]; exact a2
  · simp (disch := omega) only [gi_ne, gi_ni, gi_eq, up_ne, up_eq]; exact a3
  · simp (disch := omega) only [gi_ne, gi_ni, gi_eq, up_ne, up_eq]; exact a4
  · simp (disch := omega) only [gi_ne, gi_ni, gi_eq, up_ne, up_eq]; exact a5
  · rw [gi_eq, up_eq]
  · simp (disch := omega) only [gi_ne, gi_ni, gi_eq, up_ne, up_eq]; exact a7
  · simp (disch := omega) only [gi_ne, gi_ni, gi_eq, up_ne, up_eq]; exact a8 k' hk'
  · simp (disch := omega) only [gi_ne, gi_ni, gi_eq, up_ne, up_eq]; exact a9 k' p hk' hp
  · simp (disch := omega) only [gi_ne, gi_ni, gi_eq, up_ne, up_eq]; exact a10 k' i hk' hi hi2
  · simp (disch := omega) only [gi_ne, gi_ni, gi_eq, up_ne, up_eq]; exact a11 p j hp hj
theorem Rb.f13 {b : Nat} {σ : Mem} {α : Nat → Int32} (h : Rb b σ α) (v : Int32) : Rb b (si σ b 13 v) (va_up α 150 v) := by
  obtain ⟨⟨a1, a2, a3, a4, a5, a6, a7⟩, a8, a9, a10, a11⟩ := h
  refine ⟨⟨fun p hp => ?_, ?_, ?_, ?_, ?_, ?_, ?_⟩, fun k' hk' => ?_, fun k' p hk' hp => ?_, fun k' i hk' hi hi2 => ?_, fun p j hp hj => ?_⟩
  · simp (disch := omega) only [gi_ne, gi_ni, gi_eq, up_ne, up_eq]; exact a1 p hp
  · simp (disch := omega) only [gi_ne, gi_ni, gi_eq, up_ne, up_eq]; exact a2
  · simp (disch := omega) only [gi_ne, gi_ni, gi_eq, up_ne, up_eq]; exact a3
  · simp (disch := omega) only [gi_ne, gi_ni, gi_eq, up_ne, up_eq]; exact a4
  · simp (disch := omega) only [gi_ne, gi_ni, gi_eq, up_ne, up_eq]; exact a5
  · simp (disch := omega) only [gi_ne, gi_ni, gi_eq, up_ne, up_eq]; exact a6
  · rw [gi_eq, up_eq]
  · simp (disch := omega) only [gi_ne, gi_ni, gi_eq, up_ne, up_eq]; exact a8 k' hk'
  · simp (disch := omega) only [gi_ne, gi_ni, gi_eq, up_ne, up_eq]; exact a9 k' p hk' hp
  · simp (disch := omega) only [gi_ne, gi_ni, gi_eq, up_ne, up_eq]; exact a10 k' i hk' hi hi2
  · simp (disch := omega) only [gi_ne, gi_ni, gi_eq, up_ne, up_eq]; exact a11 p j hp hj
theorem Rb.h {b : Nat} {σ : Mem} {α : Nat → Int32} (h : Rb b σ α) {k : Nat} (hk : k < 6) (v : Int32) : Rb b (si σ (b + 2) k v) (va_up α (126 + k) v) := by
  obtain ⟨⟨a1, a2, a3, a4, a5, a6, a7⟩, a8, a9, a10, a11⟩ := h
  refine ⟨⟨fun p hp => ?_, ?_, ?_, ?_, ?_, ?_, ?_⟩, fun k' hk' => ?_, fun k' p hk' hp => ?_, fun k' i hk' hi hi2 => ?_, fun p j hp hj => ?_⟩
  · simp (disch := omega) only [gi_ne, gi_ni, gi_eq, up_ne, up_eq]; exact a1 p hp
  · simp (disch := omega) only [gi_ne, gi_ni, gi_eq, up_ne, up_eq]; exact a2
  · simp (disch := omega) only [gi_ne, gi_ni, gi_eq, up_ne, up_eq]; exact a3
  · simp (disch := omega) only [gi_ne, gi_ni, gi_eq, up_ne, up_eq]; exact a4
  · simp (disch := omega) only [gi_ne, gi_ni, gi_eq, up_ne, up_eq]; exact a5
  · simp (disch := omega) only [gi_ne, gi_ni, gi_eq, up_ne, up_eq]; exact a6
  · simp (disch := omega) only [gi_ne, gi_ni, gi_eq, up_ne, up_eq]; exact a7
  · by_cases e : k' = k
    · subst e
      obtain ⟨c1, c2, c3, c4⟩ := a8 k' hk'
      simp (disch := omega) only [gi_ne, gi_ni, gi_eq, up_ne, up_eq]
      exact ⟨by first | exact c1 | trivial, by first | exact c2 | trivial, by first | exact c3 | trivial, by first | exact c4 | trivial⟩
    · simp (disch := omega) only [gi_ne, gi_ni, gi_eq, up_ne, up_eq]
      exact a8 k' hk'
  · simp (disch := omega) only [gi_ne, gi_ni, gi_eq, up_ne, up_eq]; exact a9 k' p hk' hp
  · simp (disch := omega) only [gi_ne, gi_ni, gi_eq, up_ne, up_eq]; exact a10 k' i hk' hi hi2
  · simp (disch := omega) only [gi_ne, gi_ni, gi_eq, up_ne, up_eq]; exact a11 p j hp hj
theorem Rb.l {b : Nat} {σ : Mem} {α : Nat → Int32} (h : Rb b σ α) {k : Nat} (hk : k < 6) (v : Int32) : Rb b (si σ (b + 3) k v) (va_up α (132 + k) v) := by
  obtain ⟨⟨a1, a2, a3, a4, a5, a6, a7⟩, a8, a9, a10, a11⟩ := h
  refine ⟨⟨fun p hp => ?_, ?_, ?_, ?_, ?_, ?_, ?_⟩, fun k' hk' => ?_, fun k' p hk' hp => ?_, fun k' i hk' hi hi2 => ?_, fun p j hp hj => ?_⟩
  · simp (disch := omega) only [gi_ne, gi_ni, gi_eq, up_ne, up_eq]; exact a1 p hp
  · simp (disch := omega) only [gi_ne, gi_ni, gi_eq, up_ne, up_eq]; exact a2
  · simp (disch := omega) only [gi_ne, gi_ni, gi_eq, up_ne, up_eq]; exact a3
  · simp (disch := omega) only [gi_ne, gi_ni, gi_eq, up_ne, up_eq]; exact a4
  · simp (disch := omega) only [gi_ne, gi_ni, gi_eq, up_ne, up_eq]; exact a5
  · simp (disch := omega) only [gi_ne, gi_ni, gi_eq, up_ne, up_eq]; exact a6
  · simp (disch := omega) only [gi_ne, gi_ni, gi_eq, up_ne, up_eq]; exact a7
  · by_cases e : k' = k
    · subst e
      obtain ⟨c1, c2, c3, c4⟩ := a8 k' hk'
      simp (disch := omega) only [gi_ne, gi_ni, gi_eq, up_ne, up_eq]
      exact ⟨by first | exact c1 | trivial, by first | exact c2 | trivial, by first | exact c3 | trivial, by first | exact c4 | trivial⟩
    · simp (disch := omega) only [gi_ne, gi_ni, gi_eq, up_ne, up_eq]
      exact a8 k' hk'
  · simp (disch := omega) only [gi_ne, gi_ni, gi_eq, up_ne, up_eq]; exact a9 k' p hk' hp
  · simp (disch := omega) only [gi_ne, gi_ni, gi_eq, up_ne, up_eq]; exact a10 k' i hk' hi hi2
  · simp (disch := omega) only [gi_ne, gi_ni, gi_eq, up_ne, up_eq]; exact a11 p j hp hj
theorem Rb.fu {b : Nat} {σ : Mem} {α : Nat → Int32} (h : Rb b σ α) {k : Nat} (hk : k < 6) (v : Int32) : Rb b (si σ (b + 4) k v) (va_up α (138 + k) v) := by
  obtain ⟨⟨a1, a2, a3, a4, a5, a6, a7⟩, a8, a9, a10, a11⟩ := h
  refine ⟨⟨fun p hp => ?_, ?_, ?_, ?_, ?_, ?_, ?_⟩, fun k' hk' => ?_, fun k' p hk' hp => ?_, fun k' i hk' hi hi2 => ?_, fun p j hp hj => ?_⟩
  · simp (disch := omega) only [gi_ne, gi_ni, gi_eq, up_ne, up_eq]; exact a1 p hp
  · simp (disch := omega) only [gi_ne, gi_ni, gi_eq, up_ne, up_eq]; exact a2
  · simp (disch := omega) only [gi_ne, gi_ni, gi_eq, up_ne, up_eq]; exact a3
  · simp (disch := omega) only [gi_ne, gi_ni, gi_eq, up_ne, up_eq]; exact a4
  · simp (disch := omega) only [gi_ne, gi_ni, gi_eq, up_ne, up_eq]; exact a5
  · simp (disch := omega) only [gi_ne, gi_ni, gi_eq, up_ne, up_eq]; exact a6
  · simp (disch := omega) only [gi_ne, gi_ni, gi_eq, up_ne, up_eq]; exact a7
  · by_cases e : k' = k
    · subst e
      obtain ⟨c1, c2, c3, c4⟩ := a8 k' hk'
      simp (disch := omega) only [gi_ne, gi_ni, gi_eq, up_ne, up_eq]
      exact ⟨by first | exact c1 | trivial, by first | exact c2 | trivial, by first | exact c3 | trivial, by first | exact c4 | trivial⟩
    · simp (disch := omega) only [gi_ne, gi_ni, gi_eq, up_ne, up_eq]
      exact a8 k' hk'
  · simp (disch := omega) only [gi_ne, gi_ni, gi_eq, up_ne, up_eq]; exact a9 k' p hk' hp
  · simp (disch := omega) only [gi_ne, gi_ni, gi_eq, up_ne, up_eq]; exact a10 k' i hk' hi hi2
  · simp (disch := omega) only [gi_ne, gi_ni, gi_eq, up_ne, up_eq]; exact a11 p j hp hj
theorem Rb.rd {b : Nat} {σ : Mem} {α : Nat → Int32} (h : Rb b σ α) {k : Nat} (hk : k < 6) (v : Int32) : Rb b (si σ (b + 6) k v) (va_up α (84 + k) v) := by
  obtain ⟨⟨a1, a2, a3, a4, a5, a6, a7⟩, a8, a9, a10, a11⟩ := h
  refine ⟨⟨fun p hp => ?_, ?_, ?_, ?_, ?_, ?_, ?_⟩, fun k' hk' => ?_, fun k' p hk' hp => ?_, fun k' i hk' hi hi2 => ?_, fun p j hp hj => ?_⟩
  · simp (disch := omega) only [gi_ne, gi_ni, gi_eq, up_ne, up_eq]; exact a1 p hp
  · simp (disch := omega) only [gi_ne, gi_ni, gi_eq, up_ne, up_eq]; exact a2
  · simp (disch := omega) only [gi_ne, gi_ni, gi_eq, up_ne, up_eq]; exact a3
  · simp (disch := omega) only [gi_ne, gi_ni, gi_eq, up_ne, up_eq]; exact a4
  · simp (disch := omega) only [gi_ne, gi_ni, gi_eq, up_ne, up_eq]; exact a5
  · simp (disch := omega) only [gi_ne, gi_ni, gi_eq, up_ne, up_eq]; exact a6
  · simp (disch := omega) only [gi_ne, gi_ni, gi_eq, up_ne, up_eq]; exact a7
  · by_cases e : k' = k
    · subst e
      obtain ⟨c1, c2, c3, c4⟩ := a8 k' hk'
      simp (disch := omega) only [gi_ne, gi_ni, gi_eq, up_ne, up_eq]
      exact ⟨by first | exact c1 | trivial, by first | exact c2 | trivial, by first | exact c3 | trivial, by first | exact c4 | trivial⟩
    · simp (disch := omega) only [gi_ne, gi_ni, gi_eq, up_ne, up_eq]
      exact a8 k' hk'
  · simp (disch := omega) only [gi_ne, gi_ni, gi_eq, up_ne, up_eq]; exact a9 k' p hk' hp
  · simp (disch := omega) only [gi_ne, gi_ni, gi_eq, up_ne, up_eq]; exact a10 k' i hk' hi hi2
  · simp (disch := omega) only [gi_ne, gi_ni, gi_eq, up_ne, up_eq]; exact a11 p j hp hj
theorem Inv.w {α : Nat → Int32} (h : Inv α) {k : Nat} (hk : k < 12) {v : Int32} (hv : ∃ w, w ≤ 99 ∧ v = nI w) : Inv (va_up α k v) := by
  obtain ⟨⟨a1, a2, a3, a4⟩, a5, a6, a7, a8⟩ := h
  refine ⟨⟨fun p hp => ?_, ?_, ?_, ?_⟩, fun i hi hi2 => ?_, fun k' hk' => ?_, fun k' p hk' hp => ?_, fun k' hk' => ?_⟩
  · by_cases e : p = k
    · subst e; rw [up_eq]; exact hv
    · rw [up_ne e]; exact a1 p hp
  · simp (disch := omega) only [up_ne, up_eq]; exact a2
  · simp (disch := omega) only [up_ne, up_eq]; exact a3
  · simp (disch := omega) only [up_ne, up_eq]; exact a4
  · simp (disch := omega) only [up_ne, up_eq]; exact a5 i hi hi2
  · simp (disch := omega) only [up_ne, up_eq]; exact a6 k' hk'
  · simp (disch := omega) only [up_ne, up_eq]; exact a7 k' p hk' hp
  · simp (disch := omega) only [up_ne]
    intro q
    obtain ⟨b1, b2, b3⟩ := a8 k' hk' q
    exact ⟨fun p hp => by first | exact b1 p hp | (simp (disch := omega) only [up_ne]; exact b1 p hp), b2, b3⟩
theorem Inv.f10 {α : Nat → Int32} (h : Inv α) {v : Int32} (hv : ∃ f, f ≤ 999999 ∧ v = nI f) : Inv (va_up α 149 v) := by
  obtain ⟨⟨a1, a2, a3, a4⟩, a5, a6, a7, a8⟩ := h
  refine ⟨⟨fun p hp => ?_, ?_, ?_, ?_⟩, fun i hi hi2 => ?_, fun k' hk' => ?_, fun k' p hk' hp => ?_, fun k' hk' => ?_⟩
  · simp (disch := omega) only [up_ne, up_eq]; exact a1 p hp
  · rw [up_eq]; exact hv
  · simp (disch := omega) only [up_ne, up_eq]; exact a3
  · simp (disch := omega) only [up_ne, up_eq]; exact a4
  · simp (disch := omega) only [up_ne, up_eq]; exact a5 i hi hi2
  · simp (disch := omega) only [up_ne, up_eq]; exact a6 k' hk'
  · simp (disch := omega) only [up_ne, up_eq]; exact a7 k' p hk' hp
  · simp (disch := omega) only [up_ne]
    intro q
    obtain ⟨b1, b2, b3⟩ := a8 k' hk' q
    exact ⟨fun p hp => by first | exact b1 p hp | (simp (disch := omega) only [up_ne]; exact b1 p hp), b2, b3⟩
theorem Inv.f11 {α : Nat → Int32} (h : Inv α) {v : Int32} (hv : ∃ m, m ≤ 9999 ∧ v = nI m) : Inv (va_up α 147 v) := by
  obtain ⟨⟨a1, a2, a3, a4⟩, a5, a6, a7, a8⟩ := h
  refine ⟨⟨fun p hp => ?_, ?_, ?_, ?_⟩, fun i hi hi2 => ?_, fun k' hk' => ?_, fun k' p hk' hp => ?_, fun k' hk' => ?_⟩
  · simp (disch := omega) only [up_ne, up_eq]; exact a1 p hp
  · simp (disch := omega) only [up_ne, up_eq]; exact a2
  · rw [up_eq]; exact hv
  · simp (disch := omega) only [up_ne, up_eq]; exact a4
  · simp (disch := omega) only [up_ne, up_eq]; exact a5 i hi hi2
  · simp (disch := omega) only [up_ne, up_eq]; exact a6 k' hk'
  · simp (disch := omega) only [up_ne, up_eq]; exact a7 k' p hk' hp
  · simp (disch := omega) only [up_ne]
    intro q
    obtain ⟨b1, b2, b3⟩ := a8 k' hk' q
    exact ⟨fun p hp => by first | exact b1 p hp | (simp (disch := omega) only [up_ne]; exact b1 p hp), b2, b3⟩
theorem Inv.f13 {α : Nat → Int32} (h : Inv α) {v : Int32} (hv : ∃ x, x < 65536 ∧ v = nI x) : Inv (va_up α 150 v) := by
  obtain ⟨⟨a1, a2, a3, a4⟩, a5, a6, a7, a8⟩ := h
  refine ⟨⟨fun p hp => ?_, ?_, ?_, ?_⟩, fun i hi hi2 => ?_, fun k' hk' => ?_, fun k' p hk' hp => ?_, fun k' hk' => ?_⟩
  · simp (disch := omega) only [up_ne, up_eq]; exact a1 p hp
  · simp (disch := omega) only [up_ne, up_eq]; exact a2
  · simp (disch := omega) only [up_ne, up_eq]; exact a3
  · rw [up_eq]; exact hv
  · simp (disch := omega) only [up_ne, up_eq]; exact a5 i hi hi2
  · simp (disch := omega) only [up_ne, up_eq]; exact a6 k' hk'
  · simp (disch := omega) only [up_ne, up_eq]; exact a7 k' p hk' hp
  · simp (disch := omega) only [up_ne]
    intro q
    obtain ⟨b1, b2, b3⟩ := a8 k' hk' q
    exact ⟨fun p hp => by first | exact b1 p hp | (simp (disch := omega) only [up_ne]; exact b1 p hp), b2, b3⟩
theorem Inv.f12 {α : Nat → Int32} (h : Inv α) (v : Int32) : Inv (va_up α 148 v) := by
  obtain ⟨⟨a1, a2, a3, a4⟩, a5, a6, a7, a8⟩ := h
  refine ⟨⟨fun p hp => ?_, ?_, ?_, ?_⟩, fun i hi hi2 => ?_, fun k' hk' => ?_, fun k' p hk' hp => ?_, fun k' hk' => ?_⟩
  · simp (disch := omega) only [up_ne, up_eq]; exact a1 p hp
  · simp (disch := omega) only [up_ne, up_eq]; exact a2
  · simp (disch := omega) only [up_ne, up_eq]; exact a3
  · simp (disch := omega) only [up_ne, up_eq]; exact a4
  · simp (disch := omega) only [up_ne, up_eq]; exact a5 i hi hi2
  · simp (disch := omega) only [up_ne, up_eq]; exact a6 k' hk'
  · simp (disch := omega) only [up_ne, up_eq]; exact a7 k' p hk' hp
  · simp (disch := omega) only [up_ne]
    intro q
    obtain ⟨b1, b2, b3⟩ := a8 k' hk' q
    exact ⟨fun p hp => by first | exact b1 p hp | (simp (disch := omega) only [up_ne]; exact b1 p hp), b2, b3⟩
theorem Inv.fu {α : Nat → Int32} (h : Inv α) {k : Nat} (hk : k < 6) {v : Int32} (hv : ∃ f, f ≤ 999999 ∧ v = nI f) : Inv (va_up α (138 + k) v) := by
  obtain ⟨⟨a1, a2, a3, a4⟩, a5, a6, a7, a8⟩ := h
  refine ⟨⟨fun p hp => ?_, ?_, ?_, ?_⟩, fun i hi hi2 => ?_, fun k' hk' => ?_, fun k' p hk' hp => ?_, fun k' hk' => ?_⟩
  · simp (disch := omega) only [up_ne, up_eq]; exact a1 p hp
  · simp (disch := omega) only [up_ne, up_eq]; exact a2
  · simp (disch := omega) only [up_ne, up_eq]; exact a3
  · simp (disch := omega) only [up_ne, up_eq]; exact a4
  · simp (disch := omega) only [up_ne, up_eq]; exact a5 i hi hi2
  · by_cases e : k' = k
    · subst e
      obtain ⟨c1, c2, c3, c4⟩ := a6 k' hk'
      simp (disch := omega) only [up_ne, up_eq]
      exact ⟨c1, c2, hv, c4⟩
    · simp (disch := omega) only [up_ne, up_eq]
      exact a6 k' hk'
  · simp (disch := omega) only [up_ne, up_eq]; exact a7 k' p hk' hp
  · simp (disch := omega) only [up_ne]
    intro q
    obtain ⟨b1, b2, b3⟩ := a8 k' hk' q
    exact ⟨fun p hp => by first | exact b1 p hp | (simp (disch := omega) only [up_ne]; exact b1 p hp), b2, b3⟩
