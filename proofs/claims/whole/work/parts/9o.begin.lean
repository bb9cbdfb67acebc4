/-! the memories at the beginning -/
def s0 : Mem := (fun c => if c = 0 then (fun i => if i = 10 then nI 77 else 0) else if c = 32 ∨ c = 47 ∨ c = 62 then (fun i => if i = 13 then 1 else 0) else if c = 93 then (fun i => if i = 0 then nI 94 else if i = 4 then nI 85 else 0) else if c = 95 then (fun i => if i = 4 then nI 100 else 0) else fun _ => 0, fun _ _ => 0)
def t0 : Mem := (fun c => if c = 1 then nowI 84 else fun _ => 0, fun _ _ => 0)
theorem s0_z {c i : Nat} (h1 : ¬ c = 0) (h2 : ¬ (c = 32 ∨ c = 47 ∨ c = 62)) (h3 : ¬ c = 93) (h4 : ¬ c = 95) : gi s0 c i = 0 := by
  show (if c = 0 then (fun i => if i = 10 then nI 77 else 0) else if c = 32 ∨ c = 47 ∨ c = 62 then (fun i => if i = 13 then 1 else 0) else if c = 93 then (fun i => if i = 0 then nI 94 else if i = 4 then nI 85 else 0) else if c = 95 then (fun i => if i = 4 then nI 100 else 0) else fun _ => (0 : Int32)) i = 0
  rw [if_neg h1, if_neg h2, if_neg h3, if_neg h4]
theorem t0_z {c i : Nat} (h : ¬ c = 1) : gi t0 c i = 0 := by
  show (if c = 1 then nowI 84 else fun _ => 0) i = 0
  rw [if_neg h]
theorem t0_n (i : Nat) : gi t0 1 i = nowI 84 i := rfl
theorem now_z {i : Nat} (h1 : ¬ i = 150) (h2 : ¬ (12 ≤ i ∧ i < 84)) : nowI 84 i = 0 := by
  unfold nowI
  rw [if_neg h1, if_neg h2]
theorem now_m {i : Nat} (h1 : 12 ≤ i) (h2 : i < 84) : nowI 84 i = -1 := by
  unfold nowI
  rw [if_neg (by omega), if_pos ⟨h1, h2⟩]
theorem RR0 : RR s0 t0 := by
  have a0 : ∀ i, ¬ i = 150 → ¬ (12 ≤ i ∧ i < 84) → Al t0 1 i = 0 := fun i h1 h2 => now_z h1 h2
  have am : ∀ i, 12 ≤ i → i < 84 → Al t0 1 i = -1 := fun i h1 h2 => now_m h1 h2
  refine ⟨⟨⟨0, by omega, rfl, rfl⟩, fun j _ => ⟨?_, ?_⟩⟩, ⟨rfl, fun i _ _ => bt_0 i, fun p q hp hq => ⟨0, by omega, ?_, ?_⟩⟩, ⟨⟨⟨fun p hp => ?_, rfl, rfl, rfl, rfl, rfl, rfl⟩, fun k hk => ⟨?_, ?_, ?_, ?_⟩, fun k p hk hp => Or.inr ⟨?_, am _ (by omega) (by omega)⟩, fun k i hk hi hi2 => ?_, fun p j hp hj => Or.inr ⟨?_, a0 _ (by omega) (by omega)⟩⟩, ⟨⟨fun p hp => ⟨0, by omega, a0 p (by omega) (by omega)⟩, ⟨0, by omega, rfl⟩, ⟨0, by omega, rfl⟩, ⟨1, by omega, rfl⟩⟩, fun i hi hi2 => ⟨bt_0 i, bt_0 i⟩, fun k hk => ⟨⟨0, by omega, a0 _ (by omega) (by omega)⟩, ⟨0, by omega, a0 _ (by omega) (by omega)⟩, ⟨0, by omega, a0 _ (by omega) (by omega)⟩, fun i _ _ => ?_⟩, fun k p hk hp => Or.inl (am _ (by omega) (by omega)), fun k hk _ => ⟨fun p hp => am _ (by omega) (by omega), a0 _ (by omega) (by omega), bt_0 k⟩⟩, fun p hp _ => a0 p (by omega) (by omega)⟩, Or.inl ⟨rfl, rfl⟩, ⟨fun k hk => ⟨0, by omega, ?_, ?_, fun j hj => absurd hj (Nat.not_lt_zero _)⟩, fun j _ => ?_⟩, ⟨77, 85, 0, 0, 0, ⟨rfl, rfl, by decide⟩, ⟨rfl, rfl⟩, ⟨by omega, rfl, rfl⟩, fun q hq => absurd hq (Nat.not_lt_zero _)⟩, ⟨fun p _ _ j _ => bt_0 p, fun h => ?_⟩, Or.inl rfl⟩
  · rw [s0_z (by decide) (by decide) (by decide) (by decide), t0_z (by decide)]; rfl
  · rw [t0_z (by decide)]; rfl
  · rw [s0_z (by omega) (by omega) (by omega) (by omega)]; rfl
  · rw [t0_z (by decide)]; rfl
  · rw [s0_z (by decide) (by decide) (by decide) (by decide), a0 p (by omega) (by omega)]
  · rw [s0_z (by decide) (by decide) (by decide) (by decide), a0 _ (by omega) (by omega)]
  · rw [s0_z (by decide) (by decide) (by decide) (by decide), a0 _ (by omega) (by omega)]
  · rw [s0_z (by decide) (by decide) (by decide) (by decide), a0 _ (by omega) (by omega)]
  · rw [s0_z (by decide) (by decide) (by decide) (by decide), a0 _ (by omega) (by omega)]
  · rw [s0_z (by decide) (by decide) (by decide) (by decide)]; exact bt_0 p
  · rw [s0_z (by decide) (by decide) (by decide) (by decide)]; exact bt_0 i
  · rw [s0_z (by decide) (by decide) (by decide) (by decide)]; exact bt_0 p
  · rw [a0 (84 + k) (by omega) (by omega)]; exact bt_0 i
  · rw [s0_z (by decide) (by decide) (by decide) (by decide)]; rfl
  · rw [t0_z (by decide)]; rfl
  · rw [t0_z (by decide)]; rfl
  · exact absurd h (by decide)
