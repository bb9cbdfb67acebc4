/-! frames: cells that a function leaves as they are -/
def Sm (W : Nat → Nat → Prop) (s0 s : Mem) : Prop := ∀ c i, ¬ W c i → gi s c i = gi s0 c i ∧ gl s c i = gl s0 c i
def Fr {R : Type} (W : Nat → Nat → Prop) (s0 : Mem) (e : Option (R × Mem)) : Prop := ∀ r s, e = some (r, s) → Sm W s0 s
section Fr
variable {R : Type} {W : Nat → Nat → Prop} {s0 s : Mem} {e a b : Option (R × Mem)}
theorem sm_refl : Sm W s s := fun _ _ _ => ⟨rfl, rfl⟩
theorem sm_trans {W' : Nat → Nat → Prop} {s1 : Mem} (h : Sm W s0 s) (hs : ∀ c i, W' c i → W c i) (h2 : Sm W' s s1) : Sm W s0 s1 := fun c i hw => ⟨(h2 c i (fun q => hw (hs c i q))).1.trans (h c i hw).1, (h2 c i (fun q => hw (hs c i q))).2.trans (h c i hw).2⟩
theorem fr_some {r : R} (h : Sm W s0 s) : Fr W s0 (some (r, s)) := fun r s h2 => by cases h2; exact h
theorem fr_none : Fr W s0 (none : Option (R × Mem)) := fun r s h2 => by cases h2
theorem fr_ite {p : Prop} {inst : Decidable p} (ha : Fr W s0 a) (hb : Fr W s0 b) : Fr W s0 (@ite _ p inst a b) := by
  by_cases h : p
  · rw [if_pos h]; exact ha
  · rw [if_neg h]; exact hb
theorem fr_lt {α : Type} {v : α} {f : α → Option (R × Mem)} (h : Fr W s0 (f v)) : Fr W s0 (lt v f) := h
theorem fr_join {α : Type} {F : α} {B : α → Option (R × Mem)} (HF : α → Prop) (hF : HF F) (hB : ∀ j, HF j → Fr W s0 (B j)) : Fr W s0 (lt F B) := hB F hF
theorem gi_si (s : Mem) (c i : Nat) (v : Int32) (c' i' : Nat) : gi (si s c i v) c' i' = if c' = c ∧ i' = i then v else gi s c' i' := by
  unfold gi si upd
  by_cases h1 : c' = c
  · subst h1
    by_cases h2 : i' = i
    · subst h2; simp
    · simp [h2]
  · simp [h1]
theorem gl_si (s : Mem) (c i : Nat) (v : Int32) (c' i' : Nat) : gl (si s c i v) c' i' = gl s c' i' := rfl
theorem gi_sl (s : Mem) (c i : Nat) (v : Int64) (c' i' : Nat) : gi (sl s c i v) c' i' = gi s c' i' := rfl
theorem gl_sl (s : Mem) (c i : Nat) (v : Int64) (c' i' : Nat) : gl (sl s c i v) c' i' = if c' = c ∧ i' = i then v else gl s c' i' := by
  unfold gl sl vp_updL
  by_cases h1 : c' = c
  · subst h1
    by_cases h2 : i' = i
    · subst h2; simp
    · simp [h2]
  · simp [h1]
theorem fr_si {c i : Nat} {v : Int32} {f : Mem → Option (R × Mem)} (h : Sm W s0 s) (hw : W c i) (k : ∀ s1, Sm W s0 s1 → Fr W s0 (f s1)) : Fr W s0 (lt (si s c i v) f) := by
  refine k _ (fun c' i' hn => ?_)
  rw [gi_si, gl_si, if_neg (fun q => hn (by rw [q.1, q.2]; exact hw))]
  exact h c' i' hn
theorem fr_sl {c i : Nat} {v : Int64} {f : Mem → Option (R × Mem)} (h : Sm W s0 s) (hw : W c i) (k : ∀ s1, Sm W s0 s1 → Fr W s0 (f s1)) : Fr W s0 (lt (sl s c i v) f) := by
  refine k _ (fun c' i' hn => ?_)
  rw [gi_sl, gl_sl, if_neg (fun q => hn (by rw [q.1, q.2]; exact hw))]
  exact h c' i' hn
theorem gi_sr (s : Mem) (c : Nat) (g : Nat → Int32) (c' i' : Nat) : gi (sr s c g) c' i' = if c' = c then g i' else gi s c' i' := by
  unfold gi sr
  by_cases h1 : c' = c
  · simp [h1]
  · simp [h1]
theorem gi_cpy (s : Mem) (c0 c1 : Nat) (sp dp n : Int32) (c' i' : Nat) : gi (cpy s c0 c1 sp dp n) c' i' = if c' = c1 then va_cpy (s.1 c0) (s.1 c1) (ix sp) (ix dp) (ix n) i' else gi s c' i' := gi_sr _ _ _ _ _
theorem gl_cpy (s : Mem) (c0 c1 : Nat) (sp dp n : Int32) (c' i' : Nat) : gl (cpy s c0 c1 sp dp n) c' i' = gl s c' i' := rfl
theorem fr_cpy {c0 c1 : Nat} {sp dp n : Int32} {f : Mem → Option (R × Mem)} (h : Sm W s0 s) (hw : ∀ i, W c1 i) (k : ∀ s1, Sm W s0 s1 → Fr W s0 (f s1)) : Fr W s0 (lt (cpy s c0 c1 sp dp n) f) := by
  refine k _ (fun c' i' hn => ?_)
  rw [gi_cpy, gl_cpy, if_neg (fun q => hn (by rw [q]; exact hw i'))]
  exact h c' i' hn
theorem fr_chk {i : Int32} {n : Nat} (k : ix i < n → Fr W s0 e) : Fr W s0 (chk i n e) := by
  intro r s h
  obtain ⟨h1, h2⟩ := chk_eq h
  exact k (Nat.not_le.mp fun q => h1 (Or.inr q)) r s h2
theorem fr_ckz {x : Int32} (h : Fr W s0 e) : Fr W s0 (ckz x e) := by
  unfold ckz
  exact fr_ite h (fr_ite h fr_none)
theorem fr_ckd {x : Int32} (h : Fr W s0 e) : Fr W s0 (ckd x e) := by
  unfold ckd
  exact fr_ite fr_none h
theorem fr_ckl {x : Int64} (h : Fr W s0 e) : Fr W s0 (ckl x e) := by
  unfold ckl
  exact fr_ite fr_none h
theorem fr_ckc {b : Bool} (h : b = true → Fr W s0 e) : Fr W s0 (ckc b e) := by
  cases b with
  | false => exact fr_none
  | true => exact h rfl
theorem fr_chkC {sp dp n : Int32} {n0 n1 : Nat} (h : Fr W s0 e) : Fr W s0 (chkC sp dp n n0 n1 e) := by
  unfold chkC
  exact fr_ite fr_none (fr_ite fr_none (fr_ite fr_none (fr_ite fr_none (fr_ite fr_none h))))
theorem fr_bd {α : Type} {a : Option (α × Mem)} {k : α → Mem → Option (R × Mem)} (ha : Fr W s0 a) (hk : ∀ r s, Sm W s0 s → Fr W s0 (k r s)) : Fr W s0 (bd a k) := by
  intro r s h
  obtain ⟨r1, s1, h1, h2⟩ := bd_eq h
  exact hk r1 s1 (ha r1 s1 h1) r s h2
theorem fr_call {α : Type} {W' : Nat → Nat → Prop} {a : Option (α × Mem)} {k : α → Mem → Option (R × Mem)} (ha : Fr W' s a) (hs : ∀ c i, W' c i → W c i) (h : Sm W s0 s) (hk : ∀ r s, Sm W s0 s → Fr W s0 (k r s)) : Fr W s0 (bd a k) :=
  fr_bd (fun r s1 h1 => sm_trans h hs (ha r s1 h1)) hk
end Fr
