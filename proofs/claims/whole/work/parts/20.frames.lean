/-! frames: cells that a function leaves as they are -/
def Sm (W : Nat → Nat → Prop) (s0 s : Mem) : Prop := ∀ c i, ¬ W c i → gi s c i = gi s0 c i ∧ gl s c i = gl s0 c i
def Fr {R : Type} (W : Nat → Nat → Prop) (s0 : Mem) (e : Option (R × Mem)) : Prop := ∀ r s, e = some (r, s) → Sm W s0 s
theorem isLw_cases {q : Nat} (h : isLw q = true) (M : Nat → Prop) (h1 : M 77) (h2 : M 85) : M q := by
  rcases isLw_or h with rfl | rfl
  · exact h1
  · exact h2
section Fr
variable {R : Type} {W : Nat → Nat → Prop} {s0 s : Mem} {e a b : Option (R × Mem)}
theorem sm_refl : Sm W s s := fun _ _ _ => ⟨rfl, rfl⟩
theorem sm_trans {W' : Nat → Nat → Prop} {s1 : Mem} (h : Sm W s0 s) (hs : ∀ c i, W' c i → W c i) (h2 : Sm W' s s1) : Sm W s0 s1 := fun c i hw => ⟨(h2 c i (fun q => hw (hs c i q))).1.trans (h c i hw).1, (h2 c i (fun q => hw (hs c i q))).2.trans (h c i hw).2⟩
theorem fr_some {r : R} (h : Sm W s0 s) : Fr W s0 (some (r, s)) := fun r s h2 => by cases h2; exact h
theorem fr_none : Fr W s0 (none : Option (R × Mem)) := fun r s h2 => by cases h2
theorem fr_ite {p : Prop} {inst : Decidable p} (ha : Fr W s0 a) (hb : Fr W s0 b) : Fr W s0 (@ite _ p inst a b) := by
  by_cases h : p
  · rw [if_pos h]; exact ha
  · rw [if_neg h]; exact hb
theorem fr_lt {α : Type} {v : α} {f : α → Option (R × Mem)} (h : Fr W s0 (f v)) : Fr W s0 (lt v f) := h
theorem fr_join {α : Type} {F : α} {B : α → Option (R × Mem)} (HF : α → Prop) (hF : HF F) (hB : ∀ j, HF j → Fr W s0 (B j)) : Fr W s0 (lt F B) := hB F hF
theorem gi_si (s : Mem) (c i : Nat) (v : Int32) (c' i' : Nat) : gi (si s c i v) c' i' = if c' = c ∧ i' = i then v else gi s c' i' := by
  unfold gi si upd
  by_cases h1 : c' = c
  · subst h1
    by_cases h2 : i' = i
    · subst h2; simp
    · simp [h2]
  · simp [h1]
theorem gl_si (s : Mem) (c i : Nat) (v : Int32) (c' i' : Nat) : gl (si s c i v) c' i' = gl s c' i' := rfl
theorem gi_sl (s : Mem) (c i : Nat) (v : Int64) (c' i' : Nat) : gi (sl s c i v) c' i' = gi s c' i' := rfl
theorem gl_sl (s : Mem) (c i : Nat) (v : Int64) (c' i' : Nat) : gl (sl s c i v) c' i' = if c' = c ∧ i' = i then v else gl s c' i' := by
  unfold gl sl vp_updL
  by_cases h1 : c' = c
  · subst h1
    by_cases h2 : i' = i
    · subst h2; simp
    · simp [h2]
  · simp [h1]
theorem fr_si {c i : Nat} {v : Int32} {f : Mem → Option (R × Mem)} (h : Sm W s0 s) (hw : W c i) (k : ∀ s1, Sm W s0 s1 → Fr W s0 (f s1)) : Fr W s0 (lt (si s c i v) f) := by
  refine k _ (fun c' i' hn => ?_)
  rw [gi_si, gl_si, if_neg (fun q => hn (by rw [q.1, q.2]; exact hw))]
  exact h c' i' hn
theorem fr_sl {c i : Nat} {v : Int64} {f : Mem → Option (R × Mem)} (h : Sm W s0 s) (hw : W c i) (k : ∀ s1, Sm W s0 s1 → Fr W s0 (f s1)) : Fr W s0 (lt (sl s c i v) f) := by
  refine k _ (fun c' i' hn => ?_)
  rw [gi_sl, gl_sl, if_neg (fun q => hn (by rw [q.1, q.2]; exact hw))]
  exact h c' i' hn
theorem gi_sr (s : Mem) (c : Nat) (g : Nat → Int32) (c' i' : Nat) : gi (sr s c g) c' i' = if c' = c then g i' else gi s c' i' := by
  unfold gi sr
  by_cases h1 : c' = c
  · simp [h1]
  · simp [h1]
theorem gi_cpy (s : Mem) (c0 c1 : Nat) (sp dp n : Int32) (c' i' : Nat) : gi (cpy s c0 c1 sp dp n) c' i' = if c' = c1 then va_cpy (s.1 c0) (s.1 c1) (ix sp) (ix dp) (ix n) i' else gi s c' i' := gi_sr _ _ _ _ _
theorem gl_cpy (s : Mem) (c0 c1 : Nat) (sp dp n : Int32) (c' i' : Nat) : gl (cpy s c0 c1 sp dp n) c' i' = gl s c' i' := rfl
theorem fr_cpy {c0 c1 : Nat} {sp dp n : Int32} {f : Mem → Option (R × Mem)} (h : Sm W s0 s) (hw : ∀ i, W c1 i) (k : ∀ s1, Sm W s0 s1 → Fr W s0 (f s1)) : Fr W s0 (lt (cpy s c0 c1 sp dp n) f) := by
  refine k _ (fun c' i' hn => ?_)
  rw [gi_cpy, gl_cpy, if_neg (fun q => hn (by rw [q]; exact hw i'))]
  exact h c' i' hn
theorem fr_chk {i : Int32} {n : Nat} (k : ix i < n → Fr W s0 e) : Fr W s0 (chk i n e) := by
  intro r s h
  obtain ⟨h1, h2⟩ := chk_eq h
  exact k (Nat.not_le.mp fun q => h1 (Or.inr q)) r s h2
theorem fr_ckz {x : Int32} (h : Fr W s0 e) : Fr W s0 (ckz x e) := by
  unfold ckz
  exact fr_ite h (fr_ite h fr_none)
theorem fr_ckd {x : Int32} (h : Fr W s0 e) : Fr W s0 (ckd x e) := by
  unfold ckd
  exact fr_ite fr_none h
theorem fr_ckl {x : Int64} (h : Fr W s0 e) : Fr W s0 (ckl x e) := by
  unfold ckl
  exact fr_ite fr_none h
theorem fr_ckc {b : Bool} (h : b = true → Fr W s0 e) : Fr W s0 (ckc b e) := by
  cases b with
  | false => exact fr_none
  | true => exact h rfl
theorem fr_chkC {sp dp n : Int32} {n0 n1 : Nat} (h : Fr W s0 e) : Fr W s0 (chkC sp dp n n0 n1 e) := by
  unfold chkC
  exact fr_ite fr_none (fr_ite fr_none (fr_ite fr_none (fr_ite fr_none (fr_ite fr_none h))))
theorem fr_bd {α : Type} {a : Option (α × Mem)} {k : α → Mem → Option (R × Mem)} (ha : Fr W s0 a) (hk : ∀ r s, Sm W s0 s → Fr W s0 (k r s)) : Fr W s0 (bd a k) := by
  intro r s h
  obtain ⟨r1, s1, h1, h2⟩ := bd_eq h
  exact hk r1 s1 (ha r1 s1 h1) r s h2
theorem fr_call {α : Type} {W' : Nat → Nat → Prop} {a : Option (α × Mem)} {k : α → Mem → Option (R × Mem)} (ha : Fr W' s a) (hs : ∀ c i, W' c i → W c i) (h : Sm W s0 s) (hk : ∀ r s, Sm W s0 s → Fr W s0 (k r s)) : Fr W s0 (bd a k) :=
  fr_bd (fun r s1 h1 => sm_trans h hs (ha r s1 h1)) hk
end Fr
def W_X0_copy (b x1 : Nat) (c i : Nat) : Prop := c = (b + 1) ∨ c = (b + 2) ∨ c = (b + 3) ∨ c = (b + 4) ∨ c = (b + 5) ∨ c = (b + 6) ∨ c = (b + 14) ∨ ((b + 7) + 1 ≤ c ∧ c < (b + 7) + 1 + 6) ∨ (c = b ∧ i = 1) ∨ (c = b ∧ i = 2) ∨ (c = b ∧ i = 10) ∨ (c = b ∧ i = 11) ∨ (c = b ∧ i = 12) ∨ (c = b ∧ i = 13)
theorem frst_X0_copy_106 {s0 : Mem} {N : Nat} {b : Nat} {x1 : Nat} {k137 : Mem → Option (Unit × Mem)} {rec : Int32 → Mem → Option (Unit × Mem)}  (hk137 : ∀ (y0 : Mem), Sm (W_X0_copy b x1) s0 y0 → Fr (W_X0_copy b x1) s0 (k137 y0)) (ih : ∀ (y0 : Int32) (y1 : Mem), Sm (W_X0_copy b x1) s0 y1 → Fr (W_X0_copy b x1) s0 (rec y0 y1)) : ∀ (x2 : Int32) (s : Mem), Sm (W_X0_copy b x1) s0 s → Fr (W_X0_copy b x1) s0 (st_X0_copy_106 N b x1 k137 rec x2 s) := by
  intro x2 s hm
  unfold st_X0_copy_106
  refine fr_ite ?_ ?_
  · exact hk137 _ (by assumption)
  · refine fr_chk (fun _ => ?_)
    refine fr_chk (fun _ => ?_)
    refine fr_chkC ?_
    refine fr_cpy (by assumption) (fun i => Or.inr (Or.inr (Or.inr (Or.inr (Or.inr (Or.inr (Or.inr (Or.inl ⟨by omega, by omega⟩)))))))) (fun _ _ => ?_)
    refine fr_lt ?_
    exact ih _ _ (by assumption)
theorem fr_X0_copy (N : Nat) (b : Nat) (x1 : Nat) (s : Mem) : Fr (W_X0_copy b x1) s (f_X0_copy N b x1 s) := by
  have key : ∀ s0 : Mem, Sm (W_X0_copy b x1) s0 s → Fr (W_X0_copy b x1) s0 (f_X0_copy N b x1 s) := by
    intro s0 hm
    unfold f_X0_copy
    refine fr_chkC ?_
    refine fr_cpy (by assumption) (fun i => Or.inl rfl) (fun _ _ => ?_)
    refine fr_chkC ?_
    refine fr_cpy (by assumption) (fun i => Or.inr (Or.inl rfl)) (fun _ _ => ?_)
    refine fr_chkC ?_
    refine fr_cpy (by assumption) (fun i => Or.inr (Or.inr (Or.inl rfl))) (fun _ _ => ?_)
    refine fr_chkC ?_
    refine fr_cpy (by assumption) (fun i => Or.inr (Or.inr (Or.inr (Or.inl rfl)))) (fun _ _ => ?_)
    refine fr_chkC ?_
    refine fr_cpy (by assumption) (fun i => Or.inr (Or.inr (Or.inr (Or.inr (Or.inl rfl))))) (fun _ _ => ?_)
    refine fr_chkC ?_
    refine fr_cpy (by assumption) (fun i => Or.inr (Or.inr (Or.inr (Or.inr (Or.inr (Or.inl rfl)))))) (fun _ _ => ?_)
    refine fr_chkC ?_
    refine fr_cpy (by assumption) (fun i => Or.inr (Or.inr (Or.inr (Or.inr (Or.inr (Or.inr (Or.inl rfl))))))) (fun _ _ => ?_)
    refine itr_ind (Q := fun (f : Int32 → Mem → Option (Unit × Mem)) => ∀ y0 s, Sm (W_X0_copy b x1) s0 s → Fr (W_X0_copy b x1) s0 (f y0 s)) (fun _ _ _ => fr_none) (fun _ ih106 => ?_) N _ _ (by assumption)
    refine frst_X0_copy_106  ?_ ih106
    · intro s12 hm
      refine fr_si (by assumption) (Or.inr (Or.inr (Or.inr (Or.inr (Or.inr (Or.inr (Or.inr (Or.inr (Or.inl ⟨rfl, rfl⟩))))))))) (fun _ _ => ?_)
      refine fr_si (by assumption) (Or.inr (Or.inr (Or.inr (Or.inr (Or.inr (Or.inr (Or.inr (Or.inr (Or.inr (Or.inl ⟨rfl, rfl⟩)))))))))) (fun _ _ => ?_)
      refine fr_si (by assumption) (Or.inr (Or.inr (Or.inr (Or.inr (Or.inr (Or.inr (Or.inr (Or.inr (Or.inr (Or.inr (Or.inl ⟨rfl, rfl⟩))))))))))) (fun _ _ => ?_)
      refine fr_si (by assumption) (Or.inr (Or.inr (Or.inr (Or.inr (Or.inr (Or.inr (Or.inr (Or.inr (Or.inr (Or.inr (Or.inr (Or.inl ⟨rfl, rfl⟩)))))))))))) (fun _ _ => ?_)
      refine fr_si (by assumption) (Or.inr (Or.inr (Or.inr (Or.inr (Or.inr (Or.inr (Or.inr (Or.inr (Or.inr (Or.inr (Or.inr (Or.inr (Or.inl ⟨rfl, rfl⟩))))))))))))) (fun _ _ => ?_)
      refine fr_si (by assumption) (Or.inr (Or.inr (Or.inr (Or.inr (Or.inr (Or.inr (Or.inr (Or.inr (Or.inr (Or.inr (Or.inr (Or.inr (Or.inr ⟨rfl, rfl⟩))))))))))))) (fun _ _ => ?_)
      exact fr_some (by assumption)
  exact key s sm_refl
def W_X9_hasBit (c i : Nat) : Prop := False
theorem fr_X9_hasBit (N : Nat) (x0 : Int32) (x1 : Int32) (s : Mem) : Fr W_X9_hasBit s (f_X9_hasBit N x0 x1 s) := by
  have key : ∀ s0 : Mem, Sm W_X9_hasBit s0 s → Fr W_X9_hasBit s0 (f_X9_hasBit N x0 x1 s) := by
    intro s0 hm
    unfold f_X9_hasBit
    refine fr_ite ?_ ?_
    · exact fr_some (by assumption)
    · exact fr_some (by assumption)
  exact key s sm_refl
def W_X9_isWithin (c i : Nat) : Prop := False
theorem fr_X9_isWithin (N : Nat) (x0 : Int32) (x1 : Int32) (x2 : Int32) (s : Mem) : Fr W_X9_isWithin s (f_X9_isWithin N x0 x1 x2 s) := by
  have key : ∀ s0 : Mem, Sm W_X9_isWithin s0 s → Fr W_X9_isWithin s0 (f_X9_isWithin N x0 x1 x2 s) := by
    intro s0 hm
    unfold f_X9_isWithin
    refine fr_ite ?_ ?_
    · exact fr_some (by assumption)
    · refine fr_ite ?_ ?_
      · exact fr_some (by assumption)
      · exact fr_some (by assumption)
  exact key s sm_refl
def W_X9_isLetter (c i : Nat) : Prop := W_X9_isWithin c i
theorem fr_X9_isLetter (N : Nat) (x0 : Int32) (s : Mem) : Fr W_X9_isLetter s (f_X9_isLetter N x0 s) := by
  have key : ∀ s0 : Mem, Sm W_X9_isLetter s0 s → Fr W_X9_isLetter s0 (f_X9_isLetter N x0 s) := by
    intro s0 hm
    unfold f_X9_isLetter
    refine fr_call (fr_X9_isWithin _ _ _ _ _) (fun c i h => h) (by assumption) (fun _ _ _ => ?_)
    refine fr_ckz ?_
    exact fr_some (by assumption)
  exact key s sm_refl
def W_X0_isTold (b : Nat) (c i : Nat) : Prop := W_X9_isLetter c i ∨ W_X9_hasBit c i
theorem fr_X0_isTold (N : Nat) (b : Nat) (x1 : Int32) (s : Mem) : Fr (W_X0_isTold b) s (f_X0_isTold N b x1 s) := by
  have key : ∀ s0 : Mem, Sm (W_X0_isTold b) s0 s → Fr (W_X0_isTold b) s0 (f_X0_isTold N b x1 s) := by
    intro s0 hm
    unfold f_X0_isTold
    refine fr_call (fr_X9_isLetter _ _ _) (fun c i h => Or.inl h) (by assumption) (fun _ _ _ => ?_)
    refine fr_ite ?_ ?_
    · exact fr_some (by assumption)
    · refine fr_call (fr_X9_hasBit _ _ _ _) (fun c i h => Or.inr h) (by assumption) (fun _ _ _ => ?_)
      refine fr_ite ?_ ?_
      · exact fr_some (by assumption)
      · exact fr_some (by assumption)
  exact key s sm_refl
def W_X0_isInForce (b : Nat) (c i : Nat) : Prop := W_X9_isLetter c i ∨ W_X9_hasBit c i
theorem fr_X0_isInForce (N : Nat) (b : Nat) (x1 : Int32) (s : Mem) : Fr (W_X0_isInForce b) s (f_X0_isInForce N b x1 s) := by
  have key : ∀ s0 : Mem, Sm (W_X0_isInForce b) s0 s → Fr (W_X0_isInForce b) s0 (f_X0_isInForce N b x1 s) := by
    intro s0 hm
    unfold f_X0_isInForce
    refine fr_call (fr_X9_isLetter _ _ _) (fun c i h => Or.inl h) (by assumption) (fun _ _ _ => ?_)
    refine fr_ite ?_ ?_
    · exact fr_some (by assumption)
    · refine fr_call (fr_X9_hasBit _ _ _ _) (fun c i h => Or.inr h) (by assumption) (fun _ _ _ => ?_)
      refine fr_ite ?_ ?_
      · exact fr_some (by assumption)
      · exact fr_some (by assumption)
  exact key s sm_refl
def W_X0_fundOf (b : Nat) (c i : Nat) : Prop := W_X9_isLetter c i
theorem fr_X0_fundOf (N : Nat) (b : Nat) (x1 : Int32) (s : Mem) : Fr (W_X0_fundOf b) s (f_X0_fundOf N b x1 s) := by
  have key : ∀ s0 : Mem, Sm (W_X0_fundOf b) s0 s → Fr (W_X0_fundOf b) s0 (f_X0_fundOf N b x1 s) := by
    intro s0 hm
    unfold f_X0_fundOf
    refine fr_call (fr_X9_isLetter _ _ _) (fun c i h => h) (by assumption) (fun _ _ _ => ?_)
    refine fr_ite ?_ ?_
    · exact fr_some (by assumption)
    · refine fr_chk (fun _ => ?_)
      exact fr_some (by assumption)
  exact key s sm_refl
def W_X0_begin (b : Nat) (c i : Nat) : Prop := (c = b ∧ i = 1) ∨ (c = b ∧ i = 2) ∨ c = (b + 2) ∨ c = (b + 3) ∨ c = (b + 4) ∨ c = (b + 5) ∨ c = (b + 6) ∨ ((b + 7) + 1 ≤ c ∧ c < (b + 7) + 1 + 6)
theorem fr_X0_begin (N : Nat) (b : Nat) (x1 : Int32) (x2 : Int32) (x3 : Int32) (s : Mem) : Fr (W_X0_begin b) s (f_X0_begin N b x1 x2 x3 s) := by
  have key : ∀ s0 : Mem, Sm (W_X0_begin b) s0 s → Fr (W_X0_begin b) s0 (f_X0_begin N b x1 x2 x3 s) := by
    intro s0 hm
    unfold f_X0_begin
    refine fr_si (by assumption) (Or.inl ⟨rfl, rfl⟩) (fun _ _ => ?_)
    refine fr_si (by assumption) (Or.inr (Or.inl ⟨rfl, rfl⟩)) (fun _ _ => ?_)
    refine fr_chk (fun _ => ?_)
    refine fr_si (by assumption) (Or.inr (Or.inr (Or.inl rfl))) (fun _ _ => ?_)
    refine fr_chk (fun _ => ?_)
    refine fr_si (by assumption) (Or.inr (Or.inr (Or.inr (Or.inl rfl)))) (fun _ _ => ?_)
    refine fr_chk (fun _ => ?_)
    refine fr_si (by assumption) (Or.inr (Or.inr (Or.inr (Or.inr (Or.inl rfl))))) (fun _ _ => ?_)
    refine fr_chk (fun _ => ?_)
    refine fr_si (by assumption) (Or.inr (Or.inr (Or.inr (Or.inr (Or.inr (Or.inl rfl)))))) (fun _ _ => ?_)
    refine fr_chk (fun _ => ?_)
    refine fr_si (by assumption) (Or.inr (Or.inr (Or.inr (Or.inr (Or.inr (Or.inr (Or.inl rfl))))))) (fun _ _ => ?_)
    refine fr_chk (fun _ => ?_)
    refine fr_chk (fun _ => ?_)
    refine fr_si (by assumption) (Or.inr (Or.inr (Or.inr (Or.inr (Or.inr (Or.inr (Or.inr ⟨by omega, by omega⟩))))))) (fun _ _ => ?_)
    exact fr_some (by assumption)
  exact key s sm_refl
def W_X0_give (b : Nat) (c i : Nat) : Prop := c = (b + 4) ∨ (c = b ∧ i = 10) ∨ c = (b + 6)
theorem fr_X0_give (N : Nat) (b : Nat) (x1 : Int32) (x2 : Int32) (x3 : Int32) (s : Mem) : Fr (W_X0_give b) s (f_X0_give N b x1 x2 x3 s) := by
  have key : ∀ s0 : Mem, Sm (W_X0_give b) s0 s → Fr (W_X0_give b) s0 (f_X0_give N b x1 x2 x3 s) := by
    intro s0 hm
    unfold f_X0_give
    refine fr_lt ?_
    refine fr_chk (fun _ => ?_)
    refine fr_chk (fun _ => ?_)
    refine fr_si (by assumption) (Or.inl rfl) (fun _ _ => ?_)
    refine fr_si (by assumption) (Or.inr (Or.inl ⟨rfl, rfl⟩)) (fun _ _ => ?_)
    refine fr_chk (fun _ => ?_)
    refine fr_chk (fun _ => ?_)
    refine fr_si (by assumption) (Or.inr (Or.inr rfl)) (fun _ _ => ?_)
    exact fr_some (by assumption)
  exact key s sm_refl
def W_X0_note (b : Nat) (c i : Nat) : Prop := c = (b + 5) ∨ ((b + 7) + 1 ≤ c ∧ c < (b + 7) + 1 + 6) ∨ W_X0_give b c i ∨ c = (b + 6)
theorem fr_X0_note (N : Nat) (b : Nat) (x1 : Int32) (x2 : Int32) (x3 : Int32) (x4 : Int32) (s : Mem) : Fr (W_X0_note b) s (f_X0_note N b x1 x2 x3 x4 s) := by
  have key : ∀ s0 : Mem, Sm (W_X0_note b) s0 s → Fr (W_X0_note b) s0 (f_X0_note N b x1 x2 x3 x4 s) := by
    intro s0 hm
    unfold f_X0_note
    refine fr_lt ?_
    refine fr_ite ?_ ?_
    · refine fr_chk (fun _ => ?_)
      refine fr_chk (fun _ => ?_)
      refine fr_si (by assumption) (Or.inl rfl) (fun _ _ => ?_)
      refine fr_chk (fun _ => ?_)
      refine fr_chk (fun _ => ?_)
      refine fr_si (by assumption) (Or.inr (Or.inl ⟨by omega, by omega⟩)) (fun _ _ => ?_)
      exact fr_some (by assumption)
    · refine fr_ite ?_ ?_
      · refine fr_call (fr_X0_give _ _ _ _ _ _) (fun c i h => Or.inr (Or.inr (Or.inl h))) (by assumption) (fun _ _ _ => ?_)
        exact fr_some (by assumption)
      · refine fr_chk (fun _ => ?_)
        refine fr_chk (fun _ => ?_)
        refine fr_si (by assumption) (Or.inl rfl) (fun _ _ => ?_)
        refine fr_chk (fun _ => ?_)
        refine fr_chk (fun _ => ?_)
        refine fr_si (by assumption) (Or.inr (Or.inr (Or.inr rfl))) (fun _ _ => ?_)
        exact fr_some (by assumption)
  exact key s sm_refl
def W_X0_tiredBehind (b : Nat) (c i : Nat) : Prop := False
theorem frst_X0_tiredBehind_6 {s0 : Mem} {N : Nat} {b : Nat} {x1 : Int32} {x2 : Int32} {x3 : Int32} {rec : Int32 → Int32 → Mem → Option (Int32 × Mem)}   (ih : ∀ (y0 : Int32) (y1 : Int32) (y2 : Mem), Sm (W_X0_tiredBehind b) s0 y2 → Fr (W_X0_tiredBehind b) s0 (rec y0 y1 y2)) : ∀ (x4 : Int32) (x5 : Int32) (s : Mem), Sm (W_X0_tiredBehind b) s0 s → Fr (W_X0_tiredBehind b) s0 (st_X0_tiredBehind_6 N b x1 x2 x3 rec x4 x5 s) := by
  intro x4 x5 s hm
  unfold st_X0_tiredBehind_6
  refine fr_ite ?_ ?_
  · exact fr_some (by assumption)
  · refine fr_ite ?_ ?_
    · refine fr_chk (fun _ => ?_)
      refine fr_lt ?_
      refine fr_lt ?_
      exact ih _ _ _ (by assumption)
    · refine fr_lt ?_
      refine fr_lt ?_
      exact ih _ _ _ (by assumption)
theorem fr_X0_tiredBehind (N : Nat) (b : Nat) (x1 : Int32) (x2 : Int32) (x3 : Int32) (s : Mem) : Fr (W_X0_tiredBehind b) s (f_X0_tiredBehind N b x1 x2 x3 s) := by
  have key : ∀ s0 : Mem, Sm (W_X0_tiredBehind b) s0 s → Fr (W_X0_tiredBehind b) s0 (f_X0_tiredBehind N b x1 x2 x3 s) := by
    intro s0 hm
    unfold f_X0_tiredBehind
    refine itr_ind (Q := fun (f : Int32 → Int32 → Mem → Option (Int32 × Mem)) => ∀ y0 y1 s, Sm (W_X0_tiredBehind b) s0 s → Fr (W_X0_tiredBehind b) s0 (f y0 y1 s)) (fun _ _ _ _ => fr_none) (fun _ ih6 => ?_) N _ _ _ (by assumption)
    refine frst_X0_tiredBehind_6   ih6
  exact key s sm_refl
def W_X0_tired (b : Nat) (c i : Nat) : Prop := W_X0_tiredBehind b c i
theorem fr_X0_tired (N : Nat) (b : Nat) (x1 : Int32) (s : Mem) : Fr (W_X0_tired b) s (f_X0_tired N b x1 s) := by
  have key : ∀ s0 : Mem, Sm (W_X0_tired b) s0 s → Fr (W_X0_tired b) s0 (f_X0_tired N b x1 s) := by
    intro s0 hm
    unfold f_X0_tired
    refine fr_call (fr_X0_tiredBehind _ _ _ _ _ _) (fun c i h => h) (by assumption) (fun _ _ _ => ?_)
    exact fr_some (by assumption)
  exact key s sm_refl
def W_X0_taleOrLoss (b : Nat) (c i : Nat) : Prop := W_X9_hasBit c i
theorem fr_X0_taleOrLoss (N : Nat) (b : Nat) (x1 : Int32) (x2 : Int32) (s : Mem) : Fr (W_X0_taleOrLoss b) s (f_X0_taleOrLoss N b x1 x2 s) := by
  have key : ∀ s0 : Mem, Sm (W_X0_taleOrLoss b) s0 s → Fr (W_X0_taleOrLoss b) s0 (f_X0_taleOrLoss N b x1 x2 s) := by
    intro s0 hm
    unfold f_X0_taleOrLoss
    refine fr_chk (fun _ => ?_)
    refine fr_call (fr_X9_hasBit _ _ _ _) (fun c i h => h) (by assumption) (fun _ _ _ => ?_)
    refine fr_ite ?_ ?_
    · refine fr_chk (fun _ => ?_)
      exact fr_some (by assumption)
    · refine fr_chk (fun _ => ?_)
      refine fr_chk (fun _ => ?_)
      exact fr_some (by assumption)
  exact key s sm_refl
def W_X4_askBy (b : Nat) (c i : Nat) : Prop := c = (b + 7)
theorem fr_X4_askBy (N : Nat) (b : Nat) (x1 : Int32) (x2 : Int32) (x3 : Int32) (s : Mem) : Fr (W_X4_askBy b) s (f_X4_askBy N b x1 x2 x3 s) := by
  have key : ∀ s0 : Mem, Sm (W_X4_askBy b) s0 s → Fr (W_X4_askBy b) s0 (f_X4_askBy N b x1 x2 x3 s) := by
    intro s0 hm
    unfold f_X4_askBy
    refine fr_chk (fun _ => ?_)
    refine fr_si (by assumption) (rfl) (fun _ _ => ?_)
    refine fr_chk (fun _ => ?_)
    refine fr_si (by assumption) (rfl) (fun _ _ => ?_)
    refine fr_chk (fun _ => ?_)
    refine fr_si (by assumption) (rfl) (fun _ _ => ?_)
    exact fr_some (by assumption)
  exact key s sm_refl
def W_X4_askOf (b : Nat) (c i : Nat) : Prop := c = (b + 7)
theorem fr_X4_askOf (N : Nat) (b : Nat) (x1 : Int32) (x2 : Int32) (x3 : Int32) (x4 : Int32) (s : Mem) : Fr (W_X4_askOf b) s (f_X4_askOf N b x1 x2 x3 x4 s) := by
  have key : ∀ s0 : Mem, Sm (W_X4_askOf b) s0 s → Fr (W_X4_askOf b) s0 (f_X4_askOf N b x1 x2 x3 x4 s) := by
    intro s0 hm
    unfold f_X4_askOf
    refine fr_chk (fun _ => ?_)
    refine fr_si (by assumption) (rfl) (fun _ _ => ?_)
    refine fr_chk (fun _ => ?_)
    refine fr_si (by assumption) (rfl) (fun _ _ => ?_)
    refine fr_chk (fun _ => ?_)
    refine fr_si (by assumption) (rfl) (fun _ _ => ?_)
    refine fr_chk (fun _ => ?_)
    refine fr_si (by assumption) (rfl) (fun _ _ => ?_)
    exact fr_some (by assumption)
  exact key s sm_refl
def W_X4_isFact (c i : Nat) : Prop := False
theorem fr_X4_isFact (N : Nat) (x0 : Int32) (s : Mem) : Fr W_X4_isFact s (f_X4_isFact N x0 s) := by
  have key : ∀ s0 : Mem, Sm W_X4_isFact s0 s → Fr W_X4_isFact s0 (f_X4_isFact N x0 s) := by
    intro s0 hm
    unfold f_X4_isFact
    refine fr_ite ?_ ?_
    · exact fr_some (by assumption)
    · refine fr_ite ?_ ?_
      · exact fr_some (by assumption)
      · exact fr_some (by assumption)
  exact key s sm_refl
def W_X4_joined (c i : Nat) : Prop := False
theorem fr_X4_joined (N : Nat) (x0 : Int32) (x1 : Int64) (x3 : Int64) (s : Mem) : Fr W_X4_joined s (f_X4_joined N x0 x1 x3 s) := by
  have key : ∀ s0 : Mem, Sm W_X4_joined s0 s → Fr W_X4_joined s0 (f_X4_joined N x0 x1 x3 s) := by
    intro s0 hm
    unfold f_X4_joined
    refine fr_ite ?_ ?_
    · refine fr_ite ?_ ?_
      · exact fr_some (by assumption)
      · exact fr_some (by assumption)
    · refine fr_ite ?_ ?_
      · refine fr_ite ?_ ?_
        · exact fr_some (by assumption)
        · exact fr_some (by assumption)
      · refine fr_ite ?_ ?_
        · exact fr_some (by assumption)
        · refine fr_ite ?_ ?_
          · exact fr_some (by assumption)
          · refine fr_ite ?_ ?_
            · refine fr_ite ?_ ?_
              · exact fr_some (by assumption)
              · refine fr_ckl ?_
                exact fr_some (by assumption)
            · refine fr_ite ?_ ?_
              · exact fr_some (by assumption)
              · refine fr_ite ?_ ?_
                · exact fr_some (by assumption)
                · refine fr_ite ?_ ?_
                  · exact fr_some (by assumption)
                  · refine fr_ite ?_ ?_
                    · refine fr_ite ?_ ?_
                      · exact fr_some (by assumption)
                      · refine fr_ckl ?_
                        exact fr_some (by assumption)
                    · refine fr_ite ?_ ?_
                      · refine fr_ite ?_ ?_
                        · exact fr_some (by assumption)
                        · exact fr_some (by assumption)
                      · refine fr_ite ?_ ?_
                        · refine fr_ite ?_ ?_
                          · exact fr_some (by assumption)
                          · exact fr_some (by assumption)
                        · refine fr_ite ?_ ?_
                          · exact fr_some (by assumption)
                          · exact fr_some (by assumption)
  exact key s sm_refl
def W_X4_worth (b : Nat) (c i : Nat) : Prop := c = (b + 6) ∨ W_X4_isFact c i ∨ W_X4_joined c i
theorem frst_X4_worth_5 {s0 : Mem} {N : Nat} {b : Nat} {x2 : Int32} {k172 : Int32 → Mem → Option (Int64 × Mem)} {rec : Int32 → Int32 → Mem → Option (Int64 × Mem)}  (hk172 : ∀ (y0 : Int32) (y1 : Mem), Sm (W_X4_worth b) s0 y1 → Fr (W_X4_worth b) s0 (k172 y0 y1)) (ih : ∀ (y0 : Int32) (y1 : Int32) (y2 : Mem), Sm (W_X4_worth b) s0 y2 → Fr (W_X4_worth b) s0 (rec y0 y1 y2)) : ∀ (x3 : Int32) (x4 : Int32) (s : Mem), Sm (W_X4_worth b) s0 s → Fr (W_X4_worth b) s0 (st_X4_worth_5 N b x2 k172 rec x3 x4 s) := by
  intro x3 x4 s hm
  unfold st_X4_worth_5
  refine fr_ite ?_ ?_
  · exact hk172 _ _ (by assumption)
  · refine fr_ite ?_ ?_
    · exact hk172 _ _ (by assumption)
    · refine fr_chk (fun _ => ?_)
      refine fr_lt ?_
      refine fr_join (fun j => ∀ (s2 : Mem), Sm (W_X4_worth b) s0 s2 → Fr (W_X4_worth b) s0 (j s2)) (fun s2 hm => ?_) (fun j42 hj42 => ?_)
      · refine fr_ite ?_ ?_
        · refine fr_lt ?_
          exact ih _ _ _ (by assumption)
        · refine fr_ite ?_ ?_
          · refine fr_chk (fun _ => ?_)
            refine fr_chk (fun _ => ?_)
            refine fr_sl (by assumption) (Or.inl rfl) (fun _ _ => ?_)
            refine fr_lt ?_
            refine fr_lt ?_
            exact ih _ _ _ (by assumption)
          · refine fr_chk (fun _ => ?_)
            refine fr_sl (by assumption) (Or.inl rfl) (fun _ _ => ?_)
            refine fr_lt ?_
            refine fr_lt ?_
            exact ih _ _ _ (by assumption)
      · refine fr_ite ?_ ?_
        · exact hj42 _ (by assumption)
        · refine fr_call (fr_X4_isFact _ _ _) (fun c i h => Or.inr (Or.inl h)) (by assumption) (fun _ _ _ => ?_)
          refine fr_ite ?_ ?_
          · refine fr_ite ?_ ?_
            · refine fr_ite ?_ ?_
              · refine fr_lt ?_
                exact ih _ _ _ (by assumption)
              · refine fr_chk (fun _ => ?_)
                refine fr_ite ?_ ?_
                · refine fr_lt ?_
                  exact ih _ _ _ (by assumption)
                · refine fr_chk (fun _ => ?_)
                  refine fr_chk (fun _ => ?_)
                  refine fr_sl (by assumption) (Or.inl rfl) (fun _ _ => ?_)
                  refine fr_lt ?_
                  exact ih _ _ _ (by assumption)
            · refine fr_ite ?_ ?_
              · refine fr_lt ?_
                exact ih _ _ _ (by assumption)
              · refine fr_lt ?_
                refine fr_chk (fun _ => ?_)
                refine fr_chk (fun _ => ?_)
                refine fr_call (fr_X4_joined _ _ _ _ _) (fun c i h => Or.inr (Or.inr h)) (by assumption) (fun _ _ _ => ?_)
                refine fr_chk (fun _ => ?_)
                refine fr_sl (by assumption) (Or.inl rfl) (fun _ _ => ?_)
                refine fr_lt ?_
                exact ih _ _ _ (by assumption)
          · exact hj42 _ (by assumption)
theorem fr_X4_worth (N : Nat) (b : Nat) (x1 : Int32) (x2 : Int32) (s : Mem) : Fr (W_X4_worth b) s (f_X4_worth N b x1 x2 s) := by
  have key : ∀ s0 : Mem, Sm (W_X4_worth b) s0 s → Fr (W_X4_worth b) s0 (f_X4_worth N b x1 x2 s) := by
    intro s0 hm
    unfold f_X4_worth
    refine itr_ind (Q := fun (f : Int32 → Int32 → Mem → Option (Int64 × Mem)) => ∀ y0 y1 s, Sm (W_X4_worth b) s0 s → Fr (W_X4_worth b) s0 (f y0 y1 s)) (fun _ _ _ _ => fr_none) (fun _ ih5 => ?_) N _ _ _ (by assumption)
    refine frst_X4_worth_5  ?_ ih5
    · intro x3_23 s22 hm
      refine fr_ite ?_ ?_
      · exact fr_some (by assumption)
      · refine fr_chk (fun _ => ?_)
        exact fr_some (by assumption)
  exact key s sm_refl
def W_X4_number (b : Nat) (c i : Nat) : Prop := W_X4_worth b c i
theorem frst_X4_number_2 {s0 : Mem} {N : Nat} {b : Nat} {x1 : Int32} {x2 : Int32} {k47 : Int32 → Mem → Option (Int32 × Mem)} {rec : Int32 → Mem → Option (Int32 × Mem)}  (hk47 : ∀ (y0 : Int32) (y1 : Mem), Sm (W_X4_number b) s0 y1 → Fr (W_X4_number b) s0 (k47 y0 y1)) (ih : ∀ (y0 : Int32) (y1 : Mem), Sm (W_X4_number b) s0 y1 → Fr (W_X4_number b) s0 (rec y0 y1)) : ∀ (x3 : Int32) (s : Mem), Sm (W_X4_number b) s0 s → Fr (W_X4_number b) s0 (st_X4_number_2 N b x1 x2 k47 rec x3 s) := by
  intro x3 s hm
  unfold st_X4_number_2
  refine fr_ite ?_ ?_
  · exact fr_some (by assumption)
  · refine fr_ite ?_ ?_
    · exact fr_some (by assumption)
    · refine fr_chk (fun _ => ?_)
      refine fr_ite ?_ ?_
      · refine fr_chk (fun _ => ?_)
        refine fr_chk (fun _ => ?_)
        refine fr_call (fr_X4_worth _ _ _ _ _) (fun c i h => h) (by assumption) (fun _ _ _ => ?_)
        refine fr_ite ?_ ?_
        · exact hk47 _ _ (by assumption)
        · refine fr_lt ?_
          exact ih _ _ (by assumption)
      · refine fr_lt ?_
        exact ih _ _ (by assumption)
theorem fr_X4_number (N : Nat) (b : Nat) (x1 : Int32) (x2 : Int32) (s : Mem) : Fr (W_X4_number b) s (f_X4_number N b x1 x2 s) := by
  have key : ∀ s0 : Mem, Sm (W_X4_number b) s0 s → Fr (W_X4_number b) s0 (f_X4_number N b x1 x2 s) := by
    intro s0 hm
    unfold f_X4_number
    refine itr_ind (Q := fun (f : Int32 → Mem → Option (Int32 × Mem)) => ∀ y0 s, Sm (W_X4_number b) s0 s → Fr (W_X4_number b) s0 (f y0 s)) (fun _ _ _ => fr_none) (fun _ ih2 => ?_) N _ _ (by assumption)
    refine frst_X4_number_2  ?_ ih2
    · intro x3_6 s5 hm
      refine fr_chk (fun _ => ?_)
      refine fr_chk (fun _ => ?_)
      refine fr_call (fr_X4_worth _ _ _ _ _) (fun c i h => h) (by assumption) (fun _ _ _ => ?_)
      refine fr_ite ?_ ?_
      · exact fr_some (by assumption)
      · exact fr_some (by assumption)
  exact key s sm_refl
def W_X0_giftBehind (b x5 : Nat) (c i : Nat) : Prop := W_X4_askOf x5 c i ∨ W_X0_taleOrLoss b c i ∨ W_X4_askBy x5 c i ∨ W_X4_number x5 c i
theorem fr_X0_giftBehind (N : Nat) (b : Nat) (x1 : Int32) (x2 : Int32) (x3 : Int32) (x4 : Int32) (x5 : Nat) (s : Mem) : Fr (W_X0_giftBehind b x5) s (f_X0_giftBehind N b x1 x2 x3 x4 x5 s) := by
  have key : ∀ s0 : Mem, Sm (W_X0_giftBehind b x5) s0 s → Fr (W_X0_giftBehind b x5) s0 (f_X0_giftBehind N b x1 x2 x3 x4 x5 s) := by
    intro s0 hm
    unfold f_X0_giftBehind
    refine fr_chk (fun _ => ?_)
    refine fr_call (fr_X4_askOf _ _ _ _ _ _ _) (fun c i h => Or.inl h) (by assumption) (fun _ _ _ => ?_)
    refine fr_call (fr_X0_taleOrLoss _ _ _ _ _) (fun c i h => Or.inr (Or.inl h)) (by assumption) (fun _ _ _ => ?_)
    refine fr_call (fr_X4_askBy _ _ _ _ _ _) (fun c i h => Or.inr (Or.inr (Or.inl h))) (by assumption) (fun _ _ _ => ?_)
    refine fr_call (fr_X4_number _ _ _ _ _) (fun c i h => Or.inr (Or.inr (Or.inr h))) (by assumption) (fun _ _ _ => ?_)
    exact fr_some (by assumption)
  exact key s sm_refl
def W_X0_tellOn (b x5 : Nat) (c i : Nat) : Prop := W_X0_tired b c i ∨ W_X4_askOf x5 c i ∨ W_X4_askBy x5 c i ∨ W_X4_number x5 c i
theorem fr_X0_tellOn (N : Nat) (b : Nat) (x1 : Int32) (x2 : Int32) (x3 : Int32) (x4 : Int32) (x5 : Nat) (s : Mem) : Fr (W_X0_tellOn b x5) s (f_X0_tellOn N b x1 x2 x3 x4 x5 s) := by
  have key : ∀ s0 : Mem, Sm (W_X0_tellOn b x5) s0 s → Fr (W_X0_tellOn b x5) s0 (f_X0_tellOn N b x1 x2 x3 x4 x5 s) := by
    intro s0 hm
    unfold f_X0_tellOn
    refine fr_chk (fun _ => ?_)
    refine fr_call (fr_X0_tired _ _ _ _) (fun c i h => Or.inl h) (by assumption) (fun _ _ _ => ?_)
    refine fr_call (fr_X4_askOf _ _ _ _ _ _ _) (fun c i h => Or.inr (Or.inl h)) (by assumption) (fun _ _ _ => ?_)
    refine fr_call (fr_X4_askBy _ _ _ _ _ _) (fun c i h => Or.inr (Or.inr (Or.inl h))) (by assumption) (fun _ _ _ => ?_)
    refine fr_call (fr_X4_number _ _ _ _ _) (fun c i h => Or.inr (Or.inr (Or.inr h))) (by assumption) (fun _ _ _ => ?_)
    exact fr_some (by assumption)
  exact key s sm_refl
def W_X0_draw (b : Nat) (c i : Nat) : Prop := (c = b ∧ i = 13)
theorem fr_X0_draw (N : Nat) (b : Nat) (s : Mem) : Fr (W_X0_draw b) s (f_X0_draw N b s) := by
  have key : ∀ s0 : Mem, Sm (W_X0_draw b) s0 s → Fr (W_X0_draw b) s0 (f_X0_draw N b s) := by
    intro s0 hm
    unfold f_X0_draw
    refine fr_si (by assumption) (⟨rfl, rfl⟩) (fun _ _ => ?_)
    exact fr_some (by assumption)
  exact key s sm_refl
def W_X0_lowestUnread (b : Nat) (c i : Nat) : Prop := W_X0_isInForce b c i ∨ W_X9_hasBit c i
theorem frst_X0_lowestUnread_2 {s0 : Mem} {N : Nat} {b : Nat} {x1 : Int32} {rec : Int32 → Mem → Option (Int32 × Mem)}   (ih : ∀ (y0 : Int32) (y1 : Mem), Sm (W_X0_lowestUnread b) s0 y1 → Fr (W_X0_lowestUnread b) s0 (rec y0 y1)) : ∀ (x2 : Int32) (s : Mem), Sm (W_X0_lowestUnread b) s0 s → Fr (W_X0_lowestUnread b) s0 (st_X0_lowestUnread_2 N b x1 rec x2 s) := by
  intro x2 s hm
  unfold st_X0_lowestUnread_2
  refine fr_ite ?_ ?_
  · exact fr_some (by assumption)
  · refine fr_call (fr_X0_isInForce _ _ _ _) (fun c i h => Or.inl h) (by assumption) (fun _ _ _ => ?_)
    refine fr_ite ?_ ?_
    · refine fr_lt ?_
      exact ih _ _ (by assumption)
    · refine fr_chk (fun _ => ?_)
      refine fr_chk (fun _ => ?_)
      refine fr_call (fr_X9_hasBit _ _ _ _) (fun c i h => Or.inr h) (by assumption) (fun _ _ _ => ?_)
      refine fr_ite ?_ ?_
      · refine fr_lt ?_
        exact ih _ _ (by assumption)
      · exact fr_some (by assumption)
theorem fr_X0_lowestUnread (N : Nat) (b : Nat) (x1 : Int32) (s : Mem) : Fr (W_X0_lowestUnread b) s (f_X0_lowestUnread N b x1 s) := by
  have key : ∀ s0 : Mem, Sm (W_X0_lowestUnread b) s0 s → Fr (W_X0_lowestUnread b) s0 (f_X0_lowestUnread N b x1 s) := by
    intro s0 hm
    unfold f_X0_lowestUnread
    refine itr_ind (Q := fun (f : Int32 → Mem → Option (Int32 × Mem)) => ∀ y0 s, Sm (W_X0_lowestUnread b) s0 s → Fr (W_X0_lowestUnread b) s0 (f y0 s)) (fun _ _ _ => fr_none) (fun _ ih2 => ?_) N _ _ (by assumption)
    refine frst_X0_lowestUnread_2   ih2
  exact key s sm_refl
def W_X0_readOne (b x2 : Nat) (c i : Nat) : Prop := W_X0_lowestUnread b c i ∨ W_X0_tired b c i ∨ W_X4_askOf x2 c i ∨ W_X4_askBy x2 c i ∨ W_X0_draw b c i ∨ W_X4_number x2 c i ∨ W_X0_give b c i ∨ (c = b ∧ i = 14) ∨ (c = b ∧ i = 15)
theorem fr_X0_readOne (N : Nat) (b : Nat) (x1 : Int32) (x2 : Nat) (s : Mem) : Fr (W_X0_readOne b x2) s (f_X0_readOne N b x1 x2 s) := by
  have key : ∀ s0 : Mem, Sm (W_X0_readOne b x2) s0 s → Fr (W_X0_readOne b x2) s0 (f_X0_readOne N b x1 x2 s) := by
    intro s0 hm
    unfold f_X0_readOne
    refine fr_call (fr_X0_lowestUnread _ _ _ _) (fun c i h => Or.inl h) (by assumption) (fun _ _ _ => ?_)
    refine fr_ite ?_ ?_
    · refine fr_chk (fun _ => ?_)
      refine fr_call (fr_X0_tired _ _ _ _) (fun c i h => Or.inr (Or.inl h)) (by assumption) (fun _ _ _ => ?_)
      refine fr_call (fr_X4_askOf _ _ _ _ _ _ _) (fun c i h => Or.inr (Or.inr (Or.inl h))) (by assumption) (fun _ _ _ => ?_)
      refine fr_chk (fun _ => ?_)
      refine fr_chk (fun _ => ?_)
      refine fr_call (fr_X4_askBy _ _ _ _ _ _) (fun c i h => Or.inr (Or.inr (Or.inr (Or.inl h)))) (by assumption) (fun _ _ _ => ?_)
      refine fr_call (fr_X0_draw _ _ _) (fun c i h => Or.inr (Or.inr (Or.inr (Or.inr (Or.inl h))))) (by assumption) (fun _ _ _ => ?_)
      refine fr_call (fr_X4_number _ _ _ _ _) (fun c i h => Or.inr (Or.inr (Or.inr (Or.inr (Or.inr (Or.inl h)))))) (by assumption) (fun _ _ _ => ?_)
      refine fr_ite ?_ ?_
      · refine fr_call (fr_X4_number _ _ _ _ _) (fun c i h => Or.inr (Or.inr (Or.inr (Or.inr (Or.inr (Or.inl h)))))) (by assumption) (fun _ _ _ => ?_)
        refine fr_call (fr_X0_give _ _ _ _ _ _) (fun c i h => Or.inr (Or.inr (Or.inr (Or.inr (Or.inr (Or.inr (Or.inl h))))))) (by assumption) (fun _ _ _ => ?_)
        refine fr_si (by assumption) (Or.inr (Or.inr (Or.inr (Or.inr (Or.inr (Or.inr (Or.inr (Or.inl ⟨rfl, rfl⟩)))))))) (fun _ _ => ?_)
        exact fr_some (by assumption)
      · refine fr_si (by assumption) (Or.inr (Or.inr (Or.inr (Or.inr (Or.inr (Or.inr (Or.inr (Or.inr ⟨rfl, rfl⟩)))))))) (fun _ _ => ?_)
        exact fr_some (by assumption)
    · exact fr_some (by assumption)
  exact key s sm_refl
def W_X0_rebuild (b : Nat) (c i : Nat) : Prop := W_X0_isInForce b c i ∨ (c = b ∧ i = 2) ∨ (c = b ∧ i = 12)
theorem frst_X0_rebuild_2 {s0 : Mem} {N : Nat} {b : Nat} {rec : Int32 → Mem → Option (Unit × Mem)}   (ih : ∀ (y0 : Int32) (y1 : Mem), Sm (W_X0_rebuild b) s0 y1 → Fr (W_X0_rebuild b) s0 (rec y0 y1)) : ∀ (x1 : Int32) (s : Mem), Sm (W_X0_rebuild b) s0 s → Fr (W_X0_rebuild b) s0 (st_X0_rebuild_2 N b rec x1 s) := by
  intro x1 s hm
  unfold st_X0_rebuild_2
  refine fr_ite ?_ ?_
  · exact fr_some (by assumption)
  · refine fr_call (fr_X0_isInForce _ _ _ _) (fun c i h => Or.inl h) (by assumption) (fun _ _ _ => ?_)
    refine fr_ite ?_ ?_
    · refine fr_lt ?_
      exact ih _ _ (by assumption)
    · refine fr_chk (fun _ => ?_)
      refine fr_chk (fun _ => ?_)
      refine fr_ite ?_ ?_
      · refine fr_lt ?_
        exact ih _ _ (by assumption)
      · refine fr_si (by assumption) (Or.inr (Or.inl ⟨rfl, rfl⟩)) (fun _ _ => ?_)
        refine fr_si (by assumption) (Or.inr (Or.inr ⟨rfl, rfl⟩)) (fun _ _ => ?_)
        refine fr_lt ?_
        exact ih _ _ (by assumption)
theorem fr_X0_rebuild (N : Nat) (b : Nat) (s : Mem) : Fr (W_X0_rebuild b) s (f_X0_rebuild N b s) := by
  have key : ∀ s0 : Mem, Sm (W_X0_rebuild b) s0 s → Fr (W_X0_rebuild b) s0 (f_X0_rebuild N b s) := by
    intro s0 hm
    unfold f_X0_rebuild
    refine itr_ind (Q := fun (f : Int32 → Mem → Option (Unit × Mem)) => ∀ y0 s, Sm (W_X0_rebuild b) s0 s → Fr (W_X0_rebuild b) s0 (f y0 s)) (fun _ _ _ => fr_none) (fun _ ih2 => ?_) N _ _ (by assumption)
    refine frst_X0_rebuild_2   ih2
  exact key s sm_refl
def W_X0_remember (b : Nat) (c i : Nat) : Prop := c = (b + 14)
theorem frst_X0_remember_2 {s0 : Mem} {N : Nat} {b : Nat} {x1 : Int32} {rec : Int32 → Mem → Option (Unit × Mem)}   (ih : ∀ (y0 : Int32) (y1 : Mem), Sm (W_X0_remember b) s0 y1 → Fr (W_X0_remember b) s0 (rec y0 y1)) : ∀ (x2 : Int32) (s : Mem), Sm (W_X0_remember b) s0 s → Fr (W_X0_remember b) s0 (st_X0_remember_2 N b x1 rec x2 s) := by
  intro x2 s hm
  unfold st_X0_remember_2
  refine fr_ite ?_ ?_
  · refine fr_chk (fun _ => ?_)
    refine fr_si (by assumption) (rfl) (fun _ _ => ?_)
    exact fr_some (by assumption)
  · refine fr_chk (fun _ => ?_)
    refine fr_chk (fun _ => ?_)
    refine fr_si (by assumption) (rfl) (fun _ _ => ?_)
    refine fr_lt ?_
    exact ih _ _ (by assumption)
theorem fr_X0_remember (N : Nat) (b : Nat) (x1 : Int32) (s : Mem) : Fr (W_X0_remember b) s (f_X0_remember N b x1 s) := by
  have key : ∀ s0 : Mem, Sm (W_X0_remember b) s0 s → Fr (W_X0_remember b) s0 (f_X0_remember N b x1 s) := by
    intro s0 hm
    unfold f_X0_remember
    refine itr_ind (Q := fun (f : Int32 → Mem → Option (Unit × Mem)) => ∀ y0 s, Sm (W_X0_remember b) s0 s → Fr (W_X0_remember b) s0 (f y0 s)) (fun _ _ _ => fr_none) (fun _ ih2 => ?_) N _ _ (by assumption)
    refine frst_X0_remember_2   ih2
  exact key s sm_refl
def W_X4_shuts (b : Nat) (c i : Nat) : Prop := W_X4_worth b c i
theorem frst_X4_shuts_2 {s0 : Mem} {N : Nat} {b : Nat} {rec : Int32 → Mem → Option (Int32 × Mem)}   (ih : ∀ (y0 : Int32) (y1 : Mem), Sm (W_X4_shuts b) s0 y1 → Fr (W_X4_shuts b) s0 (rec y0 y1)) : ∀ (x1 : Int32) (s : Mem), Sm (W_X4_shuts b) s0 s → Fr (W_X4_shuts b) s0 (st_X4_shuts_2 N b rec x1 s) := by
  intro x1 s hm
  unfold st_X4_shuts_2
  refine fr_ite ?_ ?_
  · exact fr_some (by assumption)
  · refine fr_ite ?_ ?_
    · exact fr_some (by assumption)
    · refine fr_chk (fun _ => ?_)
      refine fr_ite ?_ ?_
      · refine fr_chk (fun _ => ?_)
        refine fr_chk (fun _ => ?_)
        refine fr_call (fr_X4_worth _ _ _ _ _) (fun c i h => h) (by assumption) (fun _ _ _ => ?_)
        refine fr_ite ?_ ?_
        · exact fr_some (by assumption)
        · refine fr_lt ?_
          exact ih _ _ (by assumption)
      · refine fr_lt ?_
        exact ih _ _ (by assumption)
theorem fr_X4_shuts (N : Nat) (b : Nat) (s : Mem) : Fr (W_X4_shuts b) s (f_X4_shuts N b s) := by
  have key : ∀ s0 : Mem, Sm (W_X4_shuts b) s0 s → Fr (W_X4_shuts b) s0 (f_X4_shuts N b s) := by
    intro s0 hm
    unfold f_X4_shuts
    refine itr_ind (Q := fun (f : Int32 → Mem → Option (Int32 × Mem)) => ∀ y0 s, Sm (W_X4_shuts b) s0 s → Fr (W_X4_shuts b) s0 (f y0 s)) (fun _ _ _ => fr_none) (fun _ ih2 => ?_) N _ _ (by assumption)
    refine frst_X4_shuts_2   ih2
  exact key s sm_refl
def W_X0_sourceFor (b x5 : Nat) (c i : Nat) : Prop := W_X0_tired b c i ∨ W_X4_askOf x5 c i ∨ W_X9_hasBit c i ∨ W_X4_askBy x5 c i ∨ W_X4_shuts x5 c i
theorem frst_X0_sourceFor_28 {s0 : Mem} {N : Nat} {b : Nat} {x1 : Int32} {x2 : Int32} {x3 : Int32} {x5 : Nat} {rec : Int32 → Int32 → Int32 → Mem → Option (Int32 × Mem)}   (ih : ∀ (y0 : Int32) (y1 : Int32) (y2 : Int32) (y3 : Mem), Sm (W_X0_sourceFor b x5) s0 y3 → Fr (W_X0_sourceFor b x5) s0 (rec y0 y1 y2 y3)) : ∀ (x6 : Int32) (x7 : Int32) (x8 : Int32) (s : Mem), Sm (W_X0_sourceFor b x5) s0 s → Fr (W_X0_sourceFor b x5) s0 (st_X0_sourceFor_28 N b x1 x2 x3 x5 rec x6 x7 x8 s) := by
  intro x6 x7 x8 s hm
  unfold st_X0_sourceFor_28
  refine fr_ite ?_ ?_
  · exact fr_some (by assumption)
  · refine fr_chk (fun _ => ?_)
    refine fr_chk (fun _ => ?_)
    refine fr_lt ?_
    refine fr_call (fr_X9_hasBit _ _ _ _) (fun c i h => Or.inr (Or.inr (Or.inl h))) (by assumption) (fun _ _ _ => ?_)
    refine fr_ite ?_ ?_
    · refine fr_lt ?_
      exact ih _ _ _ _ (by assumption)
    · refine fr_ite ?_ ?_
      · refine fr_lt ?_
        exact ih _ _ _ _ (by assumption)
      · refine fr_ite ?_ ?_
        · refine fr_lt ?_
          exact ih _ _ _ _ (by assumption)
        · refine fr_chk (fun _ => ?_)
          refine fr_chk (fun _ => ?_)
          refine fr_call (fr_X4_askBy _ _ _ _ _ _) (fun c i h => Or.inr (Or.inr (Or.inr (Or.inl h)))) (by assumption) (fun _ _ _ => ?_)
          refine fr_call (fr_X4_shuts _ _ _) (fun c i h => Or.inr (Or.inr (Or.inr (Or.inr h)))) (by assumption) (fun _ _ _ => ?_)
          refine fr_ite ?_ ?_
          · refine fr_lt ?_
            exact ih _ _ _ _ (by assumption)
          · refine fr_lt ?_
            exact ih _ _ _ _ (by assumption)
theorem fr_X0_sourceFor (N : Nat) (b : Nat) (x1 : Int32) (x2 : Int32) (x3 : Int32) (x5 : Nat) (s : Mem) : Fr (W_X0_sourceFor b x5) s (f_X0_sourceFor N b x1 x2 x3 x5 s) := by
  have key : ∀ s0 : Mem, Sm (W_X0_sourceFor b x5) s0 s → Fr (W_X0_sourceFor b x5) s0 (f_X0_sourceFor N b x1 x2 x3 x5 s) := by
    intro s0 hm
    unfold f_X0_sourceFor
    refine fr_chk (fun _ => ?_)
    refine fr_call (fr_X0_tired _ _ _ _) (fun c i h => Or.inl h) (by assumption) (fun _ _ _ => ?_)
    refine fr_call (fr_X4_askOf _ _ _ _ _ _ _) (fun c i h => Or.inr (Or.inl h)) (by assumption) (fun _ _ _ => ?_)
    refine itr_ind (Q := fun (f : Int32 → Int32 → Int32 → Mem → Option (Int32 × Mem)) => ∀ y0 y1 y2 s, Sm (W_X0_sourceFor b x5) s0 s → Fr (W_X0_sourceFor b x5) s0 (f y0 y1 y2 s)) (fun _ _ _ _ _ => fr_none) (fun _ ih28 => ?_) N _ _ _ _ (by assumption)
    refine frst_X0_sourceFor_28   ih28
  exact key s sm_refl
def W_X3_isTold (c i : Nat) : Prop := W_X9_isWithin c i ∨ W_X9_hasBit c i
theorem fr_X3_isTold (N : Nat) (x1 : Int32) (s : Mem) : Fr W_X3_isTold s (f_X3_isTold N x1 s) := by
  have key : ∀ s0 : Mem, Sm W_X3_isTold s0 s → Fr W_X3_isTold s0 (f_X3_isTold N x1 s) := by
    intro s0 hm
    unfold f_X3_isTold
    refine fr_call (fr_X9_isWithin _ _ _ _ _) (fun c i h => Or.inl h) (by assumption) (fun _ _ _ => ?_)
    refine fr_ite ?_ ?_
    · exact fr_some (by assumption)
    · refine fr_call (fr_X9_hasBit _ _ _ _) (fun c i h => Or.inr h) (by assumption) (fun _ _ _ => ?_)
      refine fr_ite ?_ ?_
      · exact fr_some (by assumption)
      · exact fr_some (by assumption)
  exact key s sm_refl
def W_X0_spread (b x3 : Nat) (c i : Nat) : Prop := W_X3_isTold c i ∨ W_X9_hasBit c i ∨ W_X0_sourceFor b x3 c i ∨ W_X0_tellOn b x3 c i ∨ ((b + 7) + 1 ≤ c ∧ c < (b + 7) + 1 + 6) ∨ c = (b + 5)
theorem frst_X0_spread_11 {s0 : Mem} {N : Nat} {b : Nat} {x1 : Int32} {x3 : Nat} {x4 : Int32} {rec : Int32 → Mem → Option (Unit × Mem)}   (ih : ∀ (y0 : Int32) (y1 : Mem), Sm (W_X0_spread b x3) s0 y1 → Fr (W_X0_spread b x3) s0 (rec y0 y1)) : ∀ (x5 : Int32) (s : Mem), Sm (W_X0_spread b x3) s0 s → Fr (W_X0_spread b x3) s0 (st_X0_spread_11 N b x1 x3 x4 rec x5 s) := by
  intro x5 s hm
  unfold st_X0_spread_11
  refine fr_ite ?_ ?_
  · exact fr_some (by assumption)
  · refine fr_call (fr_X3_isTold _ _ _) (fun c i h => Or.inl h) (by assumption) (fun _ _ _ => ?_)
    refine fr_ite ?_ ?_
    · refine fr_lt ?_
      exact ih _ _ (by assumption)
    · refine fr_call (fr_X9_hasBit _ _ _ _) (fun c i h => Or.inr (Or.inl h)) (by assumption) (fun _ _ _ => ?_)
      refine fr_ite ?_ ?_
      · refine fr_call (fr_X0_sourceFor _ _ _ _ _ _ _) (fun c i h => Or.inr (Or.inr (Or.inl h))) (by assumption) (fun _ _ _ => ?_)
        refine fr_ite ?_ ?_
        · refine fr_lt ?_
          exact ih _ _ (by assumption)
        · refine fr_chk (fun _ => ?_)
          refine fr_chk (fun _ => ?_)
          refine fr_chk (fun _ => ?_)
          refine fr_chk (fun _ => ?_)
          refine fr_chk (fun _ => ?_)
          refine fr_call (fr_X0_tellOn _ _ _ _ _ _ _ _) (fun c i h => Or.inr (Or.inr (Or.inr (Or.inl h)))) (by assumption) (fun _ _ _ => ?_)
          refine fr_chk (fun _ => ?_)
          refine fr_si (by assumption) (Or.inr (Or.inr (Or.inr (Or.inr (Or.inl ⟨by omega, by omega⟩))))) (fun _ _ => ?_)
          refine fr_chk (fun _ => ?_)
          refine fr_chk (fun _ => ?_)
          refine fr_si (by assumption) (Or.inr (Or.inr (Or.inr (Or.inr (Or.inr rfl))))) (fun _ _ => ?_)
          refine fr_lt ?_
          exact ih _ _ (by assumption)
      · refine fr_lt ?_
        exact ih _ _ (by assumption)
theorem fr_X0_spread (N : Nat) (b : Nat) (x1 : Int32) (x3 : Nat) (s : Mem) : Fr (W_X0_spread b x3) s (f_X0_spread N b x1 x3 s) := by
  have key : ∀ s0 : Mem, Sm (W_X0_spread b x3) s0 s → Fr (W_X0_spread b x3) s0 (f_X0_spread N b x1 x3 s) := by
    intro s0 hm
    unfold f_X0_spread
    refine fr_chk (fun _ => ?_)
    refine fr_lt ?_
    refine itr_ind (Q := fun (f : Int32 → Mem → Option (Unit × Mem)) => ∀ y0 s, Sm (W_X0_spread b x3) s0 s → Fr (W_X0_spread b x3) s0 (f y0 s)) (fun _ _ _ => fr_none) (fun _ ih11 => ?_) N _ _ (by assumption)
    refine frst_X0_spread_11   ih11
  exact key s sm_refl
def W_X0_pass (b x3 : Nat) (c i : Nat) : Prop := (c = b ∧ i = 14) ∨ (c = b ∧ i = 15) ∨ W_X0_isInForce b c i ∨ W_X0_spread b x3 c i ∨ W_X3_isTold c i ∨ W_X0_readOne b x3 c i ∨ W_X0_rebuild b c i ∨ W_X0_remember b c i ∨ (c = b ∧ i = 11)
theorem frst_X0_pass_32 {s0 : Mem} {N : Nat} {b : Nat} {x1 : Int32} {x3 : Nat} {x4 : Int32} {k62 : Mem → Option (Unit × Mem)} {rec : Int32 → Mem → Option (Unit × Mem)}  (hk62 : ∀ (y0 : Mem), Sm (W_X0_pass b x3) s0 y0 → Fr (W_X0_pass b x3) s0 (k62 y0)) (ih : ∀ (y0 : Int32) (y1 : Mem), Sm (W_X0_pass b x3) s0 y1 → Fr (W_X0_pass b x3) s0 (rec y0 y1)) : ∀ (x5 : Int32) (s : Mem), Sm (W_X0_pass b x3) s0 s → Fr (W_X0_pass b x3) s0 (st_X0_pass_32 N b x1 x3 x4 k62 rec x5 s) := by
  intro x5 s hm
  unfold st_X0_pass_32
  refine fr_ite ?_ ?_
  · exact hk62 _ (by assumption)
  · refine fr_call (fr_X0_isInForce _ _ _ _) (fun c i h => Or.inr (Or.inr (Or.inl h))) (by assumption) (fun _ _ _ => ?_)
    refine fr_ite ?_ ?_
    · refine fr_lt ?_
      exact ih _ _ (by assumption)
    · refine fr_call (fr_X0_spread _ _ _ _ _) (fun c i h => Or.inr (Or.inr (Or.inr (Or.inl h)))) (by assumption) (fun _ _ _ => ?_)
      refine fr_lt ?_
      exact ih _ _ (by assumption)
theorem frst_X0_pass_68 {s0 : Mem} {N : Nat} {b : Nat} {x1 : Int32} {x3 : Nat} {x4 : Int32} {k109 : Int32 → Mem → Option (Unit × Mem)} {rec : Int32 → Int32 → Mem → Option (Unit × Mem)}  (hk109 : ∀ (y0 : Int32) (y1 : Mem), Sm (W_X0_pass b x3) s0 y1 → Fr (W_X0_pass b x3) s0 (k109 y0 y1)) (ih : ∀ (y0 : Int32) (y1 : Int32) (y2 : Mem), Sm (W_X0_pass b x3) s0 y2 → Fr (W_X0_pass b x3) s0 (rec y0 y1 y2)) : ∀ (x5 : Int32) (x6 : Int32) (s : Mem), Sm (W_X0_pass b x3) s0 s → Fr (W_X0_pass b x3) s0 (st_X0_pass_68 N b x1 x3 x4 k109 rec x5 x6 s) := by
  intro x5 x6 s hm
  unfold st_X0_pass_68
  refine fr_ite ?_ ?_
  · exact hk109 _ _ (by assumption)
  · refine fr_call (fr_X3_isTold _ _ _) (fun c i h => Or.inr (Or.inr (Or.inr (Or.inr (Or.inl h))))) (by assumption) (fun _ _ _ => ?_)
    refine fr_ite ?_ ?_
    · refine fr_lt ?_
      exact ih _ _ _ (by assumption)
    · refine fr_call (fr_X0_readOne _ _ _ _ _) (fun c i h => Or.inr (Or.inr (Or.inr (Or.inr (Or.inr (Or.inl h)))))) (by assumption) (fun _ _ _ => ?_)
      refine fr_ite ?_ ?_
      · refine fr_lt ?_
        exact ih _ _ _ (by assumption)
      · refine fr_lt ?_
        refine fr_lt ?_
        exact ih _ _ _ (by assumption)
theorem frst_X0_pass_13 {s0 : Mem} {N : Nat} {b : Nat} {x1 : Int32} {x3 : Nat} {rec : Int32 → Mem → Option (Unit × Mem)}   (ih : ∀ (y0 : Int32) (y1 : Mem), Sm (W_X0_pass b x3) s0 y1 → Fr (W_X0_pass b x3) s0 (rec y0 y1)) : ∀ (x4 : Int32) (s : Mem), Sm (W_X0_pass b x3) s0 s → Fr (W_X0_pass b x3) s0 (st_X0_pass_13 N b x1 x3 rec x4 s) := by
  intro x4 s hm
  unfold st_X0_pass_13
  refine fr_ite ?_ ?_
  · exact fr_some (by assumption)
  · refine fr_ite ?_ ?_
    · exact fr_some (by assumption)
    · refine itr_ind (Q := fun (f : Int32 → Mem → Option (Unit × Mem)) => ∀ y0 s, Sm (W_X0_pass b x3) s0 s → Fr (W_X0_pass b x3) s0 (f y0 s)) (fun _ _ _ => fr_none) (fun _ ih32 => ?_) N _ _ (by assumption)
      refine frst_X0_pass_32  ?_ ih32
      · intro s9 hm
        refine itr_ind (Q := fun (f : Int32 → Int32 → Mem → Option (Unit × Mem)) => ∀ y0 y1 s, Sm (W_X0_pass b x3) s0 s → Fr (W_X0_pass b x3) s0 (f y0 y1 s)) (fun _ _ _ _ => fr_none) (fun _ ih68 => ?_) N _ _ _ (by assumption)
        refine frst_X0_pass_68  ?_ ih68
        · intro x5_19 s18 hm
          refine fr_call (fr_X0_rebuild _ _ _) (fun c i h => Or.inr (Or.inr (Or.inr (Or.inr (Or.inr (Or.inr (Or.inl h))))))) (by assumption) (fun _ _ _ => ?_)
          refine fr_call (fr_X0_remember _ _ _ _) (fun c i h => Or.inr (Or.inr (Or.inr (Or.inr (Or.inr (Or.inr (Or.inr (Or.inl h)))))))) (by assumption) (fun _ _ _ => ?_)
          refine fr_si (by assumption) (Or.inr (Or.inr (Or.inr (Or.inr (Or.inr (Or.inr (Or.inr (Or.inr ⟨rfl, rfl⟩)))))))) (fun _ _ => ?_)
          refine fr_lt ?_
          exact ih _ _ (by assumption)
theorem fr_X0_pass (N : Nat) (b : Nat) (x1 : Int32) (x3 : Nat) (s : Mem) : Fr (W_X0_pass b x3) s (f_X0_pass N b x1 x3 s) := by
  have key : ∀ s0 : Mem, Sm (W_X0_pass b x3) s0 s → Fr (W_X0_pass b x3) s0 (f_X0_pass N b x1 x3 s) := by
    intro s0 hm
    unfold f_X0_pass
    refine fr_si (by assumption) (Or.inl ⟨rfl, rfl⟩) (fun _ _ => ?_)
    refine fr_si (by assumption) (Or.inr (Or.inl ⟨rfl, rfl⟩)) (fun _ _ => ?_)
    refine itr_ind (Q := fun (f : Int32 → Mem → Option (Unit × Mem)) => ∀ y0 s, Sm (W_X0_pass b x3) s0 s → Fr (W_X0_pass b x3) s0 (f y0 s)) (fun _ _ _ => fr_none) (fun _ ih13 => ?_) N _ _ (by assumption)
    refine frst_X0_pass_13   ih13
  exact key s sm_refl
def W_X0_largestTale (b : Nat) (c i : Nat) : Prop := W_X9_hasBit c i
theorem frst_X0_largestTale_13 {s0 : Mem} {N : Nat} {b : Nat} {x1 : Int32} {rec : Int32 → Int32 → Int32 → Mem → Option (Int32 × Mem)}   (ih : ∀ (y0 : Int32) (y1 : Int32) (y2 : Int32) (y3 : Mem), Sm (W_X0_largestTale b) s0 y3 → Fr (W_X0_largestTale b) s0 (rec y0 y1 y2 y3)) : ∀ (x2 : Int32) (x3 : Int32) (x4 : Int32) (s : Mem), Sm (W_X0_largestTale b) s0 s → Fr (W_X0_largestTale b) s0 (st_X0_largestTale_13 N b x1 rec x2 x3 x4 s) := by
  intro x2 x3 x4 s hm
  unfold st_X0_largestTale_13
  refine fr_ite ?_ ?_
  · exact fr_some (by assumption)
  · refine fr_chk (fun _ => ?_)
    refine fr_call (fr_X9_hasBit _ _ _ _) (fun c i h => h) (by assumption) (fun _ _ _ => ?_)
    refine fr_ite ?_ ?_
    · refine fr_lt ?_
      exact ih _ _ _ _ (by assumption)
    · refine fr_chk (fun _ => ?_)
      refine fr_chk (fun _ => ?_)
      refine fr_ite ?_ ?_
      · refine fr_lt ?_
        exact ih _ _ _ _ (by assumption)
      · refine fr_chk (fun _ => ?_)
        refine fr_chk (fun _ => ?_)
        refine fr_lt ?_
        refine fr_lt ?_
        exact ih _ _ _ _ (by assumption)
theorem fr_X0_largestTale (N : Nat) (b : Nat) (x1 : Int32) (s : Mem) : Fr (W_X0_largestTale b) s (f_X0_largestTale N b x1 s) := by
  have key : ∀ s0 : Mem, Sm (W_X0_largestTale b) s0 s → Fr (W_X0_largestTale b) s0 (f_X0_largestTale N b x1 s) := by
    intro s0 hm
    unfold f_X0_largestTale
    refine fr_chk (fun _ => ?_)
    refine fr_lt ?_
    refine itr_ind (Q := fun (f : Int32 → Int32 → Int32 → Mem → Option (Int32 × Mem)) => ∀ y0 y1 y2 s, Sm (W_X0_largestTale b) s0 s → Fr (W_X0_largestTale b) s0 (f y0 y1 y2 s)) (fun _ _ _ _ _ => fr_none) (fun _ ih13 => ?_) N _ _ _ _ (by assumption)
    refine frst_X0_largestTale_13   ih13
  exact key s sm_refl
def W_X1_write (c i : Nat) : Prop := c = 119 ∨ (112 + 1 ≤ c ∧ c < 112 + 1 + 6)
theorem fr_X1_write (N : Nat) (x1 : Int32) (x2 : Nat) (x3 : Int32) (s : Mem) : Fr W_X1_write s (f_X1_write N x1 x2 x3 s) := by
  have key : ∀ s0 : Mem, Sm W_X1_write s0 s → Fr W_X1_write s0 (f_X1_write N x1 x2 x3 s) := by
    intro s0 hm
    unfold f_X1_write
    refine fr_chk (fun _ => ?_)
    refine fr_si (by assumption) (Or.inl rfl) (fun _ _ => ?_)
    refine fr_chk (fun _ => ?_)
    refine fr_chk (fun _ => ?_)
    refine fr_chkC ?_
    refine fr_cpy (by assumption) (fun i => Or.inr ⟨by omega, by omega⟩) (fun _ _ => ?_)
    exact fr_some (by assumption)
  exact key s sm_refl
def W_X1_isWritten (c i : Nat) : Prop := W_X9_isLetter c i
theorem fr_X1_isWritten (N : Nat) (x1 : Int32) (s : Mem) : Fr W_X1_isWritten s (f_X1_isWritten N x1 s) := by
  have key : ∀ s0 : Mem, Sm W_X1_isWritten s0 s → Fr W_X1_isWritten s0 (f_X1_isWritten N x1 s) := by
    intro s0 hm
    unfold f_X1_isWritten
    refine fr_call (fr_X9_isLetter _ _ _) (fun c i h => h) (by assumption) (fun _ _ _ => ?_)
    refine fr_ite ?_ ?_
    · exact fr_some (by assumption)
    · refine fr_chk (fun _ => ?_)
      refine fr_ite ?_ ?_
      · exact fr_some (by assumption)
      · exact fr_some (by assumption)
  exact key s sm_refl
def W_X1_written (c i : Nat) : Prop := W_X1_isWritten c i
theorem frst_X1_written_4 {s0 : Mem} {N : Nat} {rec : Int32 → Int32 → Mem → Option (Int32 × Mem)}   (ih : ∀ (y0 : Int32) (y1 : Int32) (y2 : Mem), Sm W_X1_written s0 y2 → Fr W_X1_written s0 (rec y0 y1 y2)) : ∀ (x1 : Int32) (x2 : Int32) (s : Mem), Sm W_X1_written s0 s → Fr W_X1_written s0 (st_X1_written_4 N rec x1 x2 s) := by
  intro x1 x2 s hm
  unfold st_X1_written_4
  refine fr_ite ?_ ?_
  · exact fr_some (by assumption)
  · refine fr_call (fr_X1_isWritten _ _ _) (fun c i h => h) (by assumption) (fun _ _ _ => ?_)
    refine fr_ite ?_ ?_
    · refine fr_lt ?_
      exact ih _ _ _ (by assumption)
    · refine fr_lt ?_
      refine fr_lt ?_
      exact ih _ _ _ (by assumption)
theorem fr_X1_written (N : Nat) (s : Mem) : Fr W_X1_written s (f_X1_written N s) := by
  have key : ∀ s0 : Mem, Sm W_X1_written s0 s → Fr W_X1_written s0 (f_X1_written N s) := by
    intro s0 hm
    unfold f_X1_written
    refine itr_ind (Q := fun (f : Int32 → Int32 → Mem → Option (Int32 × Mem)) => ∀ y0 y1 s, Sm W_X1_written s0 s → Fr W_X1_written s0 (f y0 y1 s)) (fun _ _ _ _ => fr_none) (fun _ ih4 => ?_) N _ _ _ (by assumption)
    refine frst_X1_written_4   ih4
  exact key s sm_refl
def W_X1_changes (c i : Nat) : Prop := c = 120
theorem frst_X1_changes_19 {s0 : Mem} {N : Nat} {x1 : Nat} {x2 : Int32} {x4 : Nat} {x5 : Int32} {k41 : Mem → Option (Int32 × Mem)} {rec : Int32 → Mem → Option (Int32 × Mem)}  (hk41 : ∀ (y0 : Mem), Sm W_X1_changes s0 y0 → Fr W_X1_changes s0 (k41 y0)) (ih : ∀ (y0 : Int32) (y1 : Mem), Sm W_X1_changes s0 y1 → Fr W_X1_changes s0 (rec y0 y1)) : ∀ (x6 : Int32) (s : Mem), Sm W_X1_changes s0 s → Fr W_X1_changes s0 (st_X1_changes_19 N x1 x2 x4 x5 k41 rec x6 s) := by
  intro x6 s hm
  unfold st_X1_changes_19
  refine fr_ite ?_ ?_
  · exact hk41 _ (by assumption)
  · refine fr_chk (fun _ => ?_)
    refine fr_si (by assumption) (rfl) (fun _ _ => ?_)
    refine fr_lt ?_
    exact ih _ _ (by assumption)
theorem frst_X1_changes_78 {s0 : Mem} {N : Nat} {x1 : Nat} {x2 : Int32} {x4 : Nat} {x5 : Int32} {x6 : Int32} {k152 : Mem → Option (Int32 × Mem)} {rec : Int32 → Int32 → Mem → Option (Int32 × Mem)}  (hk152 : ∀ (y0 : Mem), Sm W_X1_changes s0 y0 → Fr W_X1_changes s0 (k152 y0)) (ih : ∀ (y0 : Int32) (y1 : Int32) (y2 : Mem), Sm W_X1_changes s0 y2 → Fr W_X1_changes s0 (rec y0 y1 y2)) : ∀ (x7 : Int32) (x8 : Int32) (s : Mem), Sm W_X1_changes s0 s → Fr W_X1_changes s0 (st_X1_changes_78 N x1 x2 x4 x5 x6 k152 rec x7 x8 s) := by
  intro x7 x8 s hm
  unfold st_X1_changes_78
  refine fr_ite ?_ ?_
  · exact hk152 _ (by assumption)
  · refine fr_chk (fun _ => ?_)
    refine fr_chk (fun _ => ?_)
    refine fr_join (fun j => ∀ (t10 : Int32) (s9 : Mem), Sm W_X1_changes s0 s9 → Fr W_X1_changes s0 (j t10 s9)) (fun t10 s9 hm => ?_) (fun j104 hj104 => ?_)
    · refine fr_lt ?_
      refine fr_chk (fun _ => ?_)
      refine fr_lt ?_
      refine fr_chk (fun _ => ?_)
      refine fr_chk (fun _ => ?_)
      refine fr_si (by assumption) (rfl) (fun _ _ => ?_)
      refine fr_lt ?_
      exact ih _ _ _ (by assumption)
    · refine fr_ite ?_ ?_
      · exact hj104 _ _ (by assumption)
      · exact hj104 _ _ (by assumption)
theorem frst_X1_changes_44 {s0 : Mem} {N : Nat} {x1 : Nat} {x2 : Int32} {x4 : Nat} {x5 : Int32} {rec : Int32 → Mem → Option (Int32 × Mem)}   (ih : ∀ (y0 : Int32) (y1 : Mem), Sm W_X1_changes s0 y1 → Fr W_X1_changes s0 (rec y0 y1)) : ∀ (x6 : Int32) (s : Mem), Sm W_X1_changes s0 s → Fr W_X1_changes s0 (st_X1_changes_44 N x1 x2 x4 x5 rec x6 s) := by
  intro x6 s hm
  unfold st_X1_changes_44
  refine fr_ite ?_ ?_
  · refine fr_chk (fun _ => ?_)
    exact fr_some (by assumption)
  · refine fr_ite ?_ ?_
    · refine fr_chk (fun _ => ?_)
      exact fr_some (by assumption)
    · refine fr_chk (fun _ => ?_)
      refine fr_lt ?_
      refine fr_chk (fun _ => ?_)
      refine fr_si (by assumption) (rfl) (fun _ _ => ?_)
      refine itr_ind (Q := fun (f : Int32 → Int32 → Mem → Option (Int32 × Mem)) => ∀ y0 y1 s, Sm W_X1_changes s0 s → Fr W_X1_changes s0 (f y0 y1 s)) (fun _ _ _ _ => fr_none) (fun _ ih78 => ?_) N _ _ _ (by assumption)
      refine frst_X1_changes_78  ?_ ih78
      · intro s15 hm
        refine fr_lt ?_
        exact ih _ _ (by assumption)
theorem fr_X1_changes (N : Nat) (x1 : Nat) (x2 : Int32) (x3 : Int32) (s : Mem) : Fr W_X1_changes s (f_X1_changes N x1 x2 x3 s) := by
  have key : ∀ s0 : Mem, Sm W_X1_changes s0 s → Fr W_X1_changes s0 (f_X1_changes N x1 x2 x3 s) := by
    intro s0 hm
    unfold f_X1_changes
    refine fr_chk (fun _ => ?_)
    refine fr_lt ?_
    refine fr_ckc (fun hq_q2 => ?_)
    refine fr_chk (fun _ => ?_)
    refine fr_lt ?_
    refine itr_ind (Q := fun (f : Int32 → Mem → Option (Int32 × Mem)) => ∀ y0 s, Sm W_X1_changes s0 s → Fr W_X1_changes s0 (f y0 s)) (fun _ _ _ => fr_none) (fun _ ih19 => ?_) N _ _ (by assumption)
    refine frst_X1_changes_19  ?_ ih19
    · intro s6 hm
      refine itr_ind (Q := fun (f : Int32 → Mem → Option (Int32 × Mem)) => ∀ y0 s, Sm W_X1_changes s0 s → Fr W_X1_changes s0 (f y0 s)) (fun _ _ _ => fr_none) (fun _ ih44 => ?_) N _ _ (by assumption)
      refine frst_X1_changes_44   ih44
  exact key s sm_refl
def W_X1_apart (c i : Nat) : Prop := W_X1_changes c i
theorem fr_X1_apart (N : Nat) (x1 : Int32) (x2 : Int32) (s : Mem) : Fr W_X1_apart s (f_X1_apart N x1 x2 s) := by
  have key : ∀ s0 : Mem, Sm W_X1_apart s0 s → Fr W_X1_apart s0 (f_X1_apart N x1 x2 s) := by
    intro s0 hm
    unfold f_X1_apart
    refine fr_chk (fun _ => ?_)
    refine fr_chk (fun _ => ?_)
    refine fr_call (fr_X1_changes _ _ _ _ _) (fun c i h => h) (by assumption) (fun _ _ _ => ?_)
    exact fr_some (by assumption)
  exact key s sm_refl
def W_X1_nearestTo (c i : Nat) : Prop := (c = 111 ∧ i = 4) ∨ W_X1_isWritten c i ∨ W_X1_changes c i
theorem frst_X1_nearestTo_12 {s0 : Mem} {N : Nat} {x1 : Nat} {x2 : Int32} {rec : Int32 → Int32 → Mem → Option (Int32 × Mem)}   (ih : ∀ (y0 : Int32) (y1 : Int32) (y2 : Mem), Sm W_X1_nearestTo s0 y2 → Fr W_X1_nearestTo s0 (rec y0 y1 y2)) : ∀ (x3 : Int32) (x4 : Int32) (s : Mem), Sm W_X1_nearestTo s0 s → Fr W_X1_nearestTo s0 (st_X1_nearestTo_12 N x1 x2 rec x3 x4 s) := by
  intro x3 x4 s hm
  unfold st_X1_nearestTo_12
  refine fr_ite ?_ ?_
  · exact fr_some (by assumption)
  · refine fr_call (fr_X1_isWritten _ _ _) (fun c i h => Or.inr (Or.inl h)) (by assumption) (fun _ _ _ => ?_)
    refine fr_ite ?_ ?_
    · refine fr_lt ?_
      exact ih _ _ _ (by assumption)
    · refine fr_call (fr_X1_changes _ _ _ _ _) (fun c i h => Or.inr (Or.inr h)) (by assumption) (fun _ _ _ => ?_)
      refine fr_ite ?_ ?_
      · refine fr_lt ?_
        exact ih _ _ _ (by assumption)
      · refine fr_si (by assumption) (Or.inl ⟨rfl, rfl⟩) (fun _ _ => ?_)
        refine fr_lt ?_
        exact ih _ _ _ (by assumption)
theorem fr_X1_nearestTo (N : Nat) (x1 : Nat) (x2 : Int32) (s : Mem) : Fr W_X1_nearestTo s (f_X1_nearestTo N x1 x2 s) := by
  have key : ∀ s0 : Mem, Sm W_X1_nearestTo s0 s → Fr W_X1_nearestTo s0 (f_X1_nearestTo N x1 x2 s) := by
    intro s0 hm
    unfold f_X1_nearestTo
    refine fr_si (by assumption) (Or.inl ⟨rfl, rfl⟩) (fun _ _ => ?_)
    refine itr_ind (Q := fun (f : Int32 → Int32 → Mem → Option (Int32 × Mem)) => ∀ y0 y1 s, Sm W_X1_nearestTo s0 s → Fr W_X1_nearestTo s0 (f y0 y1 s)) (fun _ _ _ _ => fr_none) (fun _ ih12 => ?_) N _ _ _ (by assumption)
    refine frst_X1_nearestTo_12   ih12
  exact key s sm_refl
def W_X1_lowest (c i : Nat) : Prop := W_X9_hasBit c i
theorem frst_X1_lowest_2 {s0 : Mem} {N : Nat} {x0 : Int32} {rec : Int32 → Mem → Option (Int32 × Mem)}   (ih : ∀ (y0 : Int32) (y1 : Mem), Sm W_X1_lowest s0 y1 → Fr W_X1_lowest s0 (rec y0 y1)) : ∀ (x1 : Int32) (s : Mem), Sm W_X1_lowest s0 s → Fr W_X1_lowest s0 (st_X1_lowest_2 N x0 rec x1 s) := by
  intro x1 s hm
  unfold st_X1_lowest_2
  refine fr_ite ?_ ?_
  · exact fr_some (by assumption)
  · refine fr_call (fr_X9_hasBit _ _ _ _) (fun c i h => h) (by assumption) (fun _ _ _ => ?_)
    refine fr_ite ?_ ?_
    · refine fr_lt ?_
      exact ih _ _ (by assumption)
    · exact fr_some (by assumption)
theorem fr_X1_lowest (N : Nat) (x0 : Int32) (s : Mem) : Fr W_X1_lowest s (f_X1_lowest N x0 s) := by
  have key : ∀ s0 : Mem, Sm W_X1_lowest s0 s → Fr W_X1_lowest s0 (f_X1_lowest N x0 s) := by
    intro s0 hm
    unfold f_X1_lowest
    refine itr_ind (Q := fun (f : Int32 → Mem → Option (Int32 × Mem)) => ∀ y0 s, Sm W_X1_lowest s0 s → Fr W_X1_lowest s0 (f y0 s)) (fun _ _ _ => fr_none) (fun _ ih2 => ?_) N _ _ (by assumption)
    refine frst_X1_lowest_2   ih2
  exact key s sm_refl
def W_X1_nearestOf (c i : Nat) : Prop := W_X1_lowest c i ∨ W_X9_hasBit c i ∨ W_X1_apart c i ∨ c = 121
theorem frst_X1_nearestOf_8 {s0 : Mem} {N : Nat} {x1 : Int32} {x2 : Int32} {rec : Int32 → Int32 → Mem → Option (Int32 × Mem)}   (ih : ∀ (y0 : Int32) (y1 : Int32) (y2 : Mem), Sm W_X1_nearestOf s0 y2 → Fr W_X1_nearestOf s0 (rec y0 y1 y2)) : ∀ (x3 : Int32) (x4 : Int32) (s : Mem), Sm W_X1_nearestOf s0 s → Fr W_X1_nearestOf s0 (st_X1_nearestOf_8 N x1 x2 rec x3 x4 s) := by
  intro x3 x4 s hm
  unfold st_X1_nearestOf_8
  refine fr_ite ?_ ?_
  · exact fr_some (by assumption)
  · refine fr_call (fr_X9_hasBit _ _ _ _) (fun c i h => Or.inr (Or.inl h)) (by assumption) (fun _ _ _ => ?_)
    refine fr_ite ?_ ?_
    · refine fr_lt ?_
      exact ih _ _ _ (by assumption)
    · refine fr_chk (fun _ => ?_)
      refine fr_call (fr_X1_apart _ _ _ _) (fun c i h => Or.inr (Or.inr (Or.inl h))) (by assumption) (fun _ _ _ => ?_)
      refine fr_chk (fun _ => ?_)
      refine fr_si (by assumption) (Or.inr (Or.inr (Or.inr rfl))) (fun _ _ => ?_)
      refine fr_chk (fun _ => ?_)
      refine fr_chk (fun _ => ?_)
      refine fr_ite ?_ ?_
      · refine fr_lt ?_
        exact ih _ _ _ (by assumption)
      · refine fr_lt ?_
        exact ih _ _ _ (by assumption)
theorem fr_X1_nearestOf (N : Nat) (x1 : Int32) (x2 : Int32) (s : Mem) : Fr W_X1_nearestOf s (f_X1_nearestOf N x1 x2 s) := by
  have key : ∀ s0 : Mem, Sm W_X1_nearestOf s0 s → Fr W_X1_nearestOf s0 (f_X1_nearestOf N x1 x2 s) := by
    intro s0 hm
    unfold f_X1_nearestOf
    refine fr_call (fr_X1_lowest _ _ _) (fun c i h => Or.inl h) (by assumption) (fun _ _ _ => ?_)
    refine itr_ind (Q := fun (f : Int32 → Int32 → Mem → Option (Int32 × Mem)) => ∀ y0 y1 s, Sm W_X1_nearestOf s0 s → Fr W_X1_nearestOf s0 (f y0 y1 s)) (fun _ _ _ _ => fr_none) (fun _ ih8 => ?_) N _ _ _ (by assumption)
    refine frst_X1_nearestOf_8   ih8
  exact key s sm_refl
def W_X1_tree (c i : Nat) : Prop := W_X1_written c i ∨ W_X1_lowest c i ∨ c = 121 ∨ W_X1_nearestOf c i
theorem frst_X1_tree_19 {s0 : Mem} {N : Nat} {x1 : Int32} {x2 : Int32} {k39 : Mem → Option (Int32 × Mem)} {rec : Int32 → Mem → Option (Int32 × Mem)}  (hk39 : ∀ (y0 : Mem), Sm W_X1_tree s0 y0 → Fr W_X1_tree s0 (k39 y0)) (ih : ∀ (y0 : Int32) (y1 : Mem), Sm W_X1_tree s0 y1 → Fr W_X1_tree s0 (rec y0 y1)) : ∀ (x3 : Int32) (s : Mem), Sm W_X1_tree s0 s → Fr W_X1_tree s0 (st_X1_tree_19 N x1 x2 k39 rec x3 s) := by
  intro x3 s hm
  unfold st_X1_tree_19
  refine fr_ite ?_ ?_
  · exact hk39 _ (by assumption)
  · refine fr_chk (fun _ => ?_)
    refine fr_si (by assumption) (Or.inr (Or.inr (Or.inl rfl))) (fun _ _ => ?_)
    refine fr_lt ?_
    exact ih _ _ (by assumption)
theorem frst_X1_tree_50 {s0 : Mem} {N : Nat} {rec : Int32 → Int32 → Int32 → Int32 → Mem → Option (Int32 × Mem)}   (ih : ∀ (y0 : Int32) (y1 : Int32) (y2 : Int32) (y3 : Int32) (y4 : Mem), Sm W_X1_tree s0 y4 → Fr W_X1_tree s0 (rec y0 y1 y2 y3 y4)) : ∀ (x1 : Int32) (x2 : Int32) (x3 : Int32) (x4 : Int32) (s : Mem), Sm W_X1_tree s0 s → Fr W_X1_tree s0 (st_X1_tree_50 N rec x1 x2 x3 x4 s) := by
  intro x1 x2 x3 x4 s hm
  unfold st_X1_tree_50
  refine fr_ite ?_ ?_
  · exact fr_some (by assumption)
  · refine fr_ite ?_ ?_
    · exact fr_some (by assumption)
    · refine fr_call (fr_X1_nearestOf _ _ _ _) (fun c i h => Or.inr (Or.inr (Or.inr h))) (by assumption) (fun _ _ _ => ?_)
      refine fr_lt ?_
      refine fr_chk (fun _ => ?_)
      refine fr_lt ?_
      refine fr_lt ?_
      exact ih _ _ _ _ _ (by assumption)
theorem fr_X1_tree (N : Nat) (s : Mem) : Fr W_X1_tree s (f_X1_tree N s) := by
  have key : ∀ s0 : Mem, Sm W_X1_tree s0 s → Fr W_X1_tree s0 (f_X1_tree N s) := by
    intro s0 hm
    unfold f_X1_tree
    refine fr_call (fr_X1_written _ _) (fun c i h => Or.inl h) (by assumption) (fun _ _ _ => ?_)
    refine fr_ite ?_ ?_
    · exact fr_some (by assumption)
    · refine fr_call (fr_X1_lowest _ _ _) (fun c i h => Or.inr (Or.inl h)) (by assumption) (fun _ _ _ => ?_)
      refine itr_ind (Q := fun (f : Int32 → Mem → Option (Int32 × Mem)) => ∀ y0 s, Sm W_X1_tree s0 s → Fr W_X1_tree s0 (f y0 s)) (fun _ _ _ => fr_none) (fun _ ih19 => ?_) N _ _ (by assumption)
      refine frst_X1_tree_19  ?_ ih19
      · intro s7 hm
        refine fr_lt ?_
        refine itr_ind (Q := fun (f : Int32 → Int32 → Int32 → Int32 → Mem → Option (Int32 × Mem)) => ∀ y0 y1 y2 y3 s, Sm W_X1_tree s0 s → Fr W_X1_tree s0 (f y0 y1 y2 y3 s)) (fun _ _ _ _ _ _ => fr_none) (fun _ ih50 => ?_) N _ _ _ _ _ (by assumption)
        refine frst_X1_tree_50   ih50
  exact key s sm_refl
def W_X1_partAt (c i : Nat) : Prop := False
theorem frst_X1_partAt_19 {s0 : Mem} {N : Nat} {x1 : Int32} {x2 : Int32} {x3 : Int32} {k62 : Mem → Option (Int32 × Mem)} {rec : Int32 → Mem → Option (Int32 × Mem)}  (hk62 : ∀ (y0 : Mem), Sm W_X1_partAt s0 y0 → Fr W_X1_partAt s0 (k62 y0)) (ih : ∀ (y0 : Int32) (y1 : Mem), Sm W_X1_partAt s0 y1 → Fr W_X1_partAt s0 (rec y0 y1)) : ∀ (x4 : Int32) (s : Mem), Sm W_X1_partAt s0 s → Fr W_X1_partAt s0 (st_X1_partAt_19 N x1 x2 x3 k62 rec x4 s) := by
  intro x4 s hm
  unfold st_X1_partAt_19
  refine fr_ite ?_ ?_
  · exact hk62 _ (by assumption)
  · refine fr_ite ?_ ?_
    · exact hk62 _ (by assumption)
    · refine fr_chk (fun _ => ?_)
      refine fr_chk (fun _ => ?_)
      refine fr_chk (fun _ => ?_)
      refine fr_chk (fun _ => ?_)
      refine fr_ite ?_ ?_
      · refine fr_lt ?_
        exact ih _ _ (by assumption)
      · exact fr_some (by assumption)
theorem fr_X1_partAt (N : Nat) (x1 : Int32) (x2 : Int32) (s : Mem) : Fr W_X1_partAt s (f_X1_partAt N x1 x2 s) := by
  have key : ∀ s0 : Mem, Sm W_X1_partAt s0 s → Fr W_X1_partAt s0 (f_X1_partAt N x1 x2 s) := by
    intro s0 hm
    unfold f_X1_partAt
    refine fr_chk (fun _ => ?_)
    refine fr_chk (fun _ => ?_)
    refine fr_lt ?_
    refine itr_ind (Q := fun (f : Int32 → Mem → Option (Int32 × Mem)) => ∀ y0 s, Sm W_X1_partAt s0 s → Fr W_X1_partAt s0 (f y0 s)) (fun _ _ _ => fr_none) (fun _ ih19 => ?_) N _ _ (by assumption)
    refine frst_X1_partAt_19  ?_ ih19
    · intro s5 hm
      refine fr_chk (fun _ => ?_)
      refine fr_chk (fun _ => ?_)
      refine fr_ite ?_ ?_
      · exact fr_some (by assumption)
      · exact fr_some (by assumption)
  exact key s sm_refl
def W_X2_spread (x2 x4 : Nat) (c i : Nat) : Prop := W_X9_hasBit c i ∨ c = 102 ∨ W_X0_spread x2 x4 c i ∨ (c = x2 ∧ i = 11)
theorem frst_X2_spread_3 {s0 : Mem} {N : Nat} {x1 : Int32} {x2 : Nat} {x4 : Nat} {k43 : Mem → Option (Unit × Mem)} {rec : Int32 → Mem → Option (Unit × Mem)}  (hk43 : ∀ (y0 : Mem), Sm (W_X2_spread x2 x4) s0 y0 → Fr (W_X2_spread x2 x4) s0 (k43 y0)) (ih : ∀ (y0 : Int32) (y1 : Mem), Sm (W_X2_spread x2 x4) s0 y1 → Fr (W_X2_spread x2 x4) s0 (rec y0 y1)) : ∀ (x5 : Int32) (s : Mem), Sm (W_X2_spread x2 x4) s0 s → Fr (W_X2_spread x2 x4) s0 (st_X2_spread_3 N x1 x2 x4 k43 rec x5 s) := by
  intro x5 s hm
  unfold st_X2_spread_3
  refine fr_ite ?_ ?_
  · exact hk43 _ (by assumption)
  · refine fr_chk (fun _ => ?_)
    refine fr_call (fr_X9_hasBit _ _ _ _) (fun c i h => Or.inl h) (by assumption) (fun _ _ _ => ?_)
    refine fr_ite ?_ ?_
    · refine fr_chk (fun _ => ?_)
      refine fr_si (by assumption) (Or.inr (Or.inl rfl)) (fun _ _ => ?_)
      refine fr_lt ?_
      exact ih _ _ (by assumption)
    · refine fr_chk (fun _ => ?_)
      refine fr_si (by assumption) (Or.inr (Or.inl rfl)) (fun _ _ => ?_)
      refine fr_lt ?_
      exact ih _ _ (by assumption)
theorem frst_X2_spread_113 {s0 : Mem} {N : Nat} {x1 : Int32} {x2 : Nat} {x4 : Nat} {x5 : Int32} {x6 : Int32} {x7 : Int32} {k154 : Mem → Option (Unit × Mem)} {rec : Int32 → Mem → Option (Unit × Mem)}  (hk154 : ∀ (y0 : Mem), Sm (W_X2_spread x2 x4) s0 y0 → Fr (W_X2_spread x2 x4) s0 (k154 y0)) (ih : ∀ (y0 : Int32) (y1 : Mem), Sm (W_X2_spread x2 x4) s0 y1 → Fr (W_X2_spread x2 x4) s0 (rec y0 y1)) : ∀ (x8 : Int32) (s : Mem), Sm (W_X2_spread x2 x4) s0 s → Fr (W_X2_spread x2 x4) s0 (st_X2_spread_113 N x1 x2 x4 x5 x6 x7 k154 rec x8 s) := by
  intro x8 s hm
  unfold st_X2_spread_113
  refine fr_ite ?_ ?_
  · exact hk154 _ (by assumption)
  · refine fr_chk (fun _ => ?_)
    refine fr_call (fr_X9_hasBit _ _ _ _) (fun c i h => Or.inl h) (by assumption) (fun _ _ _ => ?_)
    refine fr_ite ?_ ?_
    · refine fr_lt ?_
      exact ih _ _ (by assumption)
    · refine fr_chk (fun _ => ?_)
      refine fr_si (by assumption) (Or.inr (Or.inl rfl)) (fun _ _ => ?_)
      refine fr_lt ?_
      exact ih _ _ (by assumption)
theorem frst_X2_spread_49 {s0 : Mem} {N : Nat} {x1 : Int32} {x2 : Nat} {x4 : Nat} {rec : Int32 → Int32 → Mem → Option (Unit × Mem)}   (ih : ∀ (y0 : Int32) (y1 : Int32) (y2 : Mem), Sm (W_X2_spread x2 x4) s0 y2 → Fr (W_X2_spread x2 x4) s0 (rec y0 y1 y2)) : ∀ (x5 : Int32) (x6 : Int32) (s : Mem), Sm (W_X2_spread x2 x4) s0 s → Fr (W_X2_spread x2 x4) s0 (st_X2_spread_49 N x1 x2 x4 rec x5 x6 s) := by
  intro x5 x6 s hm
  unfold st_X2_spread_49
  refine fr_ite ?_ ?_
  · exact fr_some (by assumption)
  · refine fr_ite ?_ ?_
    · exact fr_some (by assumption)
    · refine fr_chk (fun _ => ?_)
      refine fr_lt ?_
      refine fr_call (fr_X0_spread _ _ _ _ _) (fun c i h => Or.inr (Or.inr (Or.inl h))) (by assumption) (fun _ _ _ => ?_)
      refine fr_si (by assumption) (Or.inr (Or.inr (Or.inr ⟨rfl, rfl⟩))) (fun _ _ => ?_)
      refine fr_chk (fun _ => ?_)
      refine fr_join (fun j => ∀ (t13 : Int32) (s12 : Mem), Sm (W_X2_spread x2 x4) s0 s12 → Fr (W_X2_spread x2 x4) s0 (j t13 s12)) (fun t13 s12 hm => ?_) (fun j108 hj108 => ?_)
      · refine itr_ind (Q := fun (f : Int32 → Mem → Option (Unit × Mem)) => ∀ y0 s, Sm (W_X2_spread x2 x4) s0 s → Fr (W_X2_spread x2 x4) s0 (f y0 s)) (fun _ _ _ => fr_none) (fun _ ih113 => ?_) N _ _ (by assumption)
        refine frst_X2_spread_113  ?_ ih113
        · intro s19 hm
          refine fr_lt ?_
          exact ih _ _ _ (by assumption)
      · refine fr_ite ?_ ?_
        · exact hj108 _ _ (by assumption)
        · exact hj108 _ _ (by assumption)
theorem fr_X2_spread (N : Nat) (x1 : Int32) (x2 : Nat) (x4 : Nat) (s : Mem) : Fr (W_X2_spread x2 x4) s (f_X2_spread N x1 x2 x4 s) := by
  have key : ∀ s0 : Mem, Sm (W_X2_spread x2 x4) s0 s → Fr (W_X2_spread x2 x4) s0 (f_X2_spread N x1 x2 x4 s) := by
    intro s0 hm
    unfold f_X2_spread
    refine itr_ind (Q := fun (f : Int32 → Mem → Option (Unit × Mem)) => ∀ y0 s, Sm (W_X2_spread x2 x4) s0 s → Fr (W_X2_spread x2 x4) s0 (f y0 s)) (fun _ _ _ => fr_none) (fun _ ih3 => ?_) N _ _ (by assumption)
    refine frst_X2_spread_3  ?_ ih3
    · intro s7 hm
      refine itr_ind (Q := fun (f : Int32 → Int32 → Mem → Option (Unit × Mem)) => ∀ y0 y1 s, Sm (W_X2_spread x2 x4) s0 s → Fr (W_X2_spread x2 x4) s0 (f y0 y1 s)) (fun _ _ _ _ => fr_none) (fun _ ih49 => ?_) N _ _ _ (by assumption)
      refine frst_X2_spread_49   ih49
  exact key s sm_refl
def W_X2_howMany (c i : Nat) : Prop := False
theorem frst_X2_howMany_4 {s0 : Mem} {N : Nat} {rec : Int32 → Int32 → Mem → Option (Int32 × Mem)}   (ih : ∀ (y0 : Int32) (y1 : Int32) (y2 : Mem), Sm W_X2_howMany s0 y2 → Fr W_X2_howMany s0 (rec y0 y1 y2)) : ∀ (x1 : Int32) (x2 : Int32) (s : Mem), Sm W_X2_howMany s0 s → Fr W_X2_howMany s0 (st_X2_howMany_4 N rec x1 x2 s) := by
  intro x1 x2 s hm
  unfold st_X2_howMany_4
  refine fr_ite ?_ ?_
  · exact fr_some (by assumption)
  · refine fr_chk (fun _ => ?_)
    refine fr_ite ?_ ?_
    · refine fr_lt ?_
      exact ih _ _ _ (by assumption)
    · refine fr_lt ?_
      refine fr_lt ?_
      exact ih _ _ _ (by assumption)
theorem fr_X2_howMany (N : Nat) (s : Mem) : Fr W_X2_howMany s (f_X2_howMany N s) := by
  have key : ∀ s0 : Mem, Sm W_X2_howMany s0 s → Fr W_X2_howMany s0 (f_X2_howMany N s) := by
    intro s0 hm
    unfold f_X2_howMany
    refine itr_ind (Q := fun (f : Int32 → Int32 → Mem → Option (Int32 × Mem)) => ∀ y0 y1 s, Sm W_X2_howMany s0 s → Fr W_X2_howMany s0 (f y0 y1 s)) (fun _ _ _ _ => fr_none) (fun _ ih4 => ?_) N _ _ _ (by assumption)
    refine frst_X2_howMany_4   ih4
  exact key s sm_refl
def W_X2_behindIn (c i : Nat) : Prop := W_X9_isWithin c i
theorem fr_X2_behindIn (N : Nat) (x1 : Int32) (s : Mem) : Fr W_X2_behindIn s (f_X2_behindIn N x1 s) := by
  have key : ∀ s0 : Mem, Sm W_X2_behindIn s0 s → Fr W_X2_behindIn s0 (f_X2_behindIn N x1 s) := by
    intro s0 hm
    unfold f_X2_behindIn
    refine fr_call (fr_X9_isWithin _ _ _ _ _) (fun c i h => h) (by assumption) (fun _ _ _ => ?_)
    refine fr_ite ?_ ?_
    · exact fr_some (by assumption)
    · refine fr_chk (fun _ => ?_)
      exact fr_some (by assumption)
  exact key s sm_refl
def W_X2_last (c i : Nat) : Prop := W_X2_behindIn c i
theorem frst_X2_last_5 {s0 : Mem} {N : Nat} {rec : Int32 → Int32 → Mem → Option (Int32 × Mem)}   (ih : ∀ (y0 : Int32) (y1 : Int32) (y2 : Mem), Sm W_X2_last s0 y2 → Fr W_X2_last s0 (rec y0 y1 y2)) : ∀ (x1 : Int32) (x2 : Int32) (s : Mem), Sm W_X2_last s0 s → Fr W_X2_last s0 (st_X2_last_5 N rec x1 x2 s) := by
  intro x1 x2 s hm
  unfold st_X2_last_5
  refine fr_ite ?_ ?_
  · exact fr_some (by assumption)
  · refine fr_chk (fun _ => ?_)
    refine fr_call (fr_X2_behindIn _ _ _) (fun c i h => h) (by assumption) (fun _ _ _ => ?_)
    refine fr_ite ?_ ?_
    · refine fr_lt ?_
      exact ih _ _ _ (by assumption)
    · refine fr_lt ?_
      exact ih _ _ _ (by assumption)
theorem fr_X2_last (N : Nat) (s : Mem) : Fr W_X2_last s (f_X2_last N s) := by
  have key : ∀ s0 : Mem, Sm W_X2_last s0 s → Fr W_X2_last s0 (f_X2_last N s) := by
    intro s0 hm
    unfold f_X2_last
    refine itr_ind (Q := fun (f : Int32 → Int32 → Mem → Option (Int32 × Mem)) => ∀ y0 y1 s, Sm W_X2_last s0 s → Fr W_X2_last s0 (f y0 y1 s)) (fun _ _ _ _ => fr_none) (fun _ ih5 => ?_) N _ _ _ (by assumption)
    refine frst_X2_last_5   ih5
  exact key s sm_refl
def W_J6_bitCount_0f7a4 (c i : Nat) : Prop := False
theorem fr_J6_bitCount_0f7a4 (N : Nat) (x0 : Int32) (s : Mem) : Fr W_J6_bitCount_0f7a4 s (f_J6_bitCount_0f7a4 N x0 s) := by
  have key : ∀ s0 : Mem, Sm W_J6_bitCount_0f7a4 s0 s → Fr W_J6_bitCount_0f7a4 s0 (f_J6_bitCount_0f7a4 N x0 s) := by
    intro s0 hm
    unfold f_J6_bitCount_0f7a4
    refine fr_lt ?_
    refine fr_lt ?_
    refine fr_lt ?_
    refine fr_lt ?_
    refine fr_lt ?_
    exact fr_some (by assumption)
  exact key s sm_refl
def W_X2_giftsFrom (c i : Nat) : Prop := W_X9_isWithin c i
theorem fr_X2_giftsFrom (N : Nat) (x1 : Int32) (x2 : Int32) (x3 : Int32) (s : Mem) : Fr W_X2_giftsFrom s (f_X2_giftsFrom N x1 x2 x3 s) := by
  have key : ∀ s0 : Mem, Sm W_X2_giftsFrom s0 s → Fr W_X2_giftsFrom s0 (f_X2_giftsFrom N x1 x2 x3 s) := by
    intro s0 hm
    unfold f_X2_giftsFrom
    refine fr_call (fr_X9_isWithin _ _ _ _ _) (fun c i h => h) (by assumption) (fun _ _ _ => ?_)
    refine fr_ite ?_ ?_
    · exact fr_some (by assumption)
    · refine fr_chk (fun _ => ?_)
      refine fr_chk (fun _ => ?_)
      refine fr_chk (fun _ => ?_)
      exact fr_some (by assumption)
  exact key s sm_refl
def W_X2_mostOf (c i : Nat) : Prop := W_X9_hasBit c i ∨ W_X2_giftsFrom c i
theorem frst_X2_mostOf_5 {s0 : Mem} {N : Nat} {x1 : Int32} {x2 : Int32} {rec : Int32 → Int32 → Mem → Option (Int32 × Mem)}   (ih : ∀ (y0 : Int32) (y1 : Int32) (y2 : Mem), Sm W_X2_mostOf s0 y2 → Fr W_X2_mostOf s0 (rec y0 y1 y2)) : ∀ (x3 : Int32) (x4 : Int32) (s : Mem), Sm W_X2_mostOf s0 s → Fr W_X2_mostOf s0 (st_X2_mostOf_5 N x1 x2 rec x3 x4 s) := by
  intro x3 x4 s hm
  unfold st_X2_mostOf_5
  refine fr_ite ?_ ?_
  · exact fr_some (by assumption)
  · refine fr_call (fr_X9_hasBit _ _ _ _) (fun c i h => Or.inl h) (by assumption) (fun _ _ _ => ?_)
    refine fr_ite ?_ ?_
    · refine fr_lt ?_
      exact ih _ _ _ (by assumption)
    · refine fr_call (fr_X2_giftsFrom _ _ _ _ _) (fun c i h => Or.inr h) (by assumption) (fun _ _ _ => ?_)
      refine fr_lt ?_
      refine fr_lt ?_
      exact ih _ _ _ (by assumption)
theorem fr_X2_mostOf (N : Nat) (x1 : Int32) (x2 : Int32) (s : Mem) : Fr W_X2_mostOf s (f_X2_mostOf N x1 x2 s) := by
  have key : ∀ s0 : Mem, Sm W_X2_mostOf s0 s → Fr W_X2_mostOf s0 (f_X2_mostOf N x1 x2 s) := by
    intro s0 hm
    unfold f_X2_mostOf
    refine itr_ind (Q := fun (f : Int32 → Int32 → Mem → Option (Int32 × Mem)) => ∀ y0 y1 s, Sm W_X2_mostOf s0 s → Fr W_X2_mostOf s0 (f y0 y1 s)) (fun _ _ _ _ => fr_none) (fun _ ih5 => ?_) N _ _ _ (by assumption)
    refine frst_X2_mostOf_5   ih5
  exact key s sm_refl
def W_X2_readMost (x3 x4 : Nat) (c i : Nat) : Prop := W_J6_bitCount_0f7a4 c i ∨ W_X0_tiredBehind x3 c i ∨ W_X9_hasBit c i ∨ (103 + 1 ≤ c ∧ c < 103 + 1 + 5) ∨ W_X0_giftBehind x3 x4 c i ∨ c = 109 ∨ W_X2_mostOf c i ∨ W_X9_isWithin c i
theorem frst_X2_readMost_35 {s0 : Mem} {N : Nat} {x1 : Int32} {x2 : Int32} {x3 : Nat} {x4 : Nat} {x5 : Int32} {x6 : Int32} {x7 : Int32} {k84 : Mem → Option (Int32 × Mem)} {rec : Int32 → Mem → Option (Int32 × Mem)}  (hk84 : ∀ (y0 : Mem), Sm (W_X2_readMost x3 x4) s0 y0 → Fr (W_X2_readMost x3 x4) s0 (k84 y0)) (ih : ∀ (y0 : Int32) (y1 : Mem), Sm (W_X2_readMost x3 x4) s0 y1 → Fr (W_X2_readMost x3 x4) s0 (rec y0 y1)) : ∀ (x8 : Int32) (s : Mem), Sm (W_X2_readMost x3 x4) s0 s → Fr (W_X2_readMost x3 x4) s0 (st_X2_readMost_35 N x1 x2 x3 x4 x5 x6 x7 k84 rec x8 s) := by
  intro x8 s hm
  unfold st_X2_readMost_35
  refine fr_ite ?_ ?_
  · exact hk84 _ (by assumption)
  · refine fr_chk (fun _ => ?_)
    refine fr_call (fr_X9_hasBit _ _ _ _) (fun c i h => Or.inr (Or.inr (Or.inl h))) (by assumption) (fun _ _ _ => ?_)
    refine fr_ite ?_ ?_
    · refine fr_chk (fun _ => ?_)
      refine fr_si (by assumption) (Or.inr (Or.inr (Or.inr (Or.inl ⟨by omega, by omega⟩)))) (fun _ _ => ?_)
      refine fr_lt ?_
      exact ih _ _ (by assumption)
    · refine fr_call (fr_X0_giftBehind _ _ _ _ _ _ _ _) (fun c i h => Or.inr (Or.inr (Or.inr (Or.inr (Or.inl h))))) (by assumption) (fun _ _ _ => ?_)
      refine fr_chk (fun _ => ?_)
      refine fr_si (by assumption) (Or.inr (Or.inr (Or.inr (Or.inl ⟨by omega, by omega⟩)))) (fun _ _ => ?_)
      refine fr_lt ?_
      exact ih _ _ (by assumption)
theorem frst_X2_readMost_9 {s0 : Mem} {N : Nat} {x1 : Int32} {x2 : Int32} {x3 : Nat} {x4 : Nat} {x5 : Int32} {k90 : Mem → Option (Int32 × Mem)} {rec : Int32 → Mem → Option (Int32 × Mem)}  (hk90 : ∀ (y0 : Mem), Sm (W_X2_readMost x3 x4) s0 y0 → Fr (W_X2_readMost x3 x4) s0 (k90 y0)) (ih : ∀ (y0 : Int32) (y1 : Mem), Sm (W_X2_readMost x3 x4) s0 y1 → Fr (W_X2_readMost x3 x4) s0 (rec y0 y1)) : ∀ (x6 : Int32) (s : Mem), Sm (W_X2_readMost x3 x4) s0 s → Fr (W_X2_readMost x3 x4) s0 (st_X2_readMost_9 N x1 x2 x3 x4 x5 k90 rec x6 s) := by
  intro x6 s hm
  unfold st_X2_readMost_9
  refine fr_ite ?_ ?_
  · exact hk90 _ (by assumption)
  · refine fr_ite ?_ ?_
    · exact hk90 _ (by assumption)
    · refine fr_call (fr_X0_tiredBehind _ _ _ _ _ _) (fun c i h => Or.inr (Or.inl h)) (by assumption) (fun _ _ _ => ?_)
      refine itr_ind (Q := fun (f : Int32 → Mem → Option (Int32 × Mem)) => ∀ y0 s, Sm (W_X2_readMost x3 x4) s0 s → Fr (W_X2_readMost x3 x4) s0 (f y0 s)) (fun _ _ _ => fr_none) (fun _ ih35 => ?_) N _ _ (by assumption)
      refine frst_X2_readMost_35  ?_ ih35
      · intro s14 hm
        refine fr_lt ?_
        exact ih _ _ (by assumption)
theorem frst_X2_readMost_100 {s0 : Mem} {x3 : Nat} {x4 : Nat} {N : Nat} {x2 : Int32} {x5 : Int32} {k152 : Mem → Option (Int32 × Mem)} {rec : Int32 → Mem → Option (Int32 × Mem)}  (hk152 : ∀ (y0 : Mem), Sm (W_X2_readMost x3 x4) s0 y0 → Fr (W_X2_readMost x3 x4) s0 (k152 y0)) (ih : ∀ (y0 : Int32) (y1 : Mem), Sm (W_X2_readMost x3 x4) s0 y1 → Fr (W_X2_readMost x3 x4) s0 (rec y0 y1)) : ∀ (x6 : Int32) (s : Mem), Sm (W_X2_readMost x3 x4) s0 s → Fr (W_X2_readMost x3 x4) s0 (st_X2_readMost_100 N x2 x5 k152 rec x6 s) := by
  intro x6 s hm
  unfold st_X2_readMost_100
  refine fr_ite ?_ ?_
  · exact hk152 _ (by assumption)
  · refine fr_ite ?_ ?_
    · exact hk152 _ (by assumption)
    · refine fr_ite ?_ ?_
      · refine fr_call (fr_J6_bitCount_0f7a4 _ _ _) (fun c i h => Or.inl h) (by assumption) (fun _ _ _ => ?_)
        refine fr_call (fr_X2_mostOf _ _ _ _) (fun c i h => Or.inr (Or.inr (Or.inr (Or.inr (Or.inr (Or.inr (Or.inl h))))))) (by assumption) (fun _ _ _ => ?_)
        refine fr_chk (fun _ => ?_)
        refine fr_si (by assumption) (Or.inr (Or.inr (Or.inr (Or.inr (Or.inr (Or.inl rfl)))))) (fun _ _ => ?_)
        refine fr_lt ?_
        exact ih _ _ (by assumption)
      · refine fr_lt ?_
        exact ih _ _ (by assumption)
theorem fr_X2_readMost (N : Nat) (x1 : Int32) (x2 : Int32) (x3 : Nat) (x4 : Nat) (s : Mem) : Fr (W_X2_readMost x3 x4) s (f_X2_readMost N x1 x2 x3 x4 s) := by
  have key : ∀ s0 : Mem, Sm (W_X2_readMost x3 x4) s0 s → Fr (W_X2_readMost x3 x4) s0 (f_X2_readMost N x1 x2 x3 x4 s) := by
    intro s0 hm
    unfold f_X2_readMost
    refine fr_call (fr_J6_bitCount_0f7a4 _ _ _) (fun c i h => Or.inl h) (by assumption) (fun _ _ _ => ?_)
    refine itr_ind (Q := fun (f : Int32 → Mem → Option (Int32 × Mem)) => ∀ y0 s, Sm (W_X2_readMost x3 x4) s0 s → Fr (W_X2_readMost x3 x4) s0 (f y0 s)) (fun _ _ _ => fr_none) (fun _ ih9 => ?_) N _ _ (by assumption)
    refine frst_X2_readMost_9  ?_ ih9
    · intro s16 hm
      refine fr_chk (fun _ => ?_)
      refine fr_si (by assumption) (Or.inr (Or.inr (Or.inr (Or.inr (Or.inr (Or.inl rfl)))))) (fun _ _ => ?_)
      refine itr_ind (Q := fun (f : Int32 → Mem → Option (Int32 × Mem)) => ∀ y0 s, Sm (W_X2_readMost x3 x4) s0 s → Fr (W_X2_readMost x3 x4) s0 (f y0 s)) (fun _ _ _ => fr_none) (fun _ ih100 => ?_) N _ _ (by assumption)
      refine frst_X2_readMost_100  ?_ ih100
      · intro s25 hm
        refine fr_call (fr_X9_isWithin _ _ _ _ _) (fun c i h => Or.inr (Or.inr (Or.inr (Or.inr (Or.inr (Or.inr (Or.inr h))))))) (by assumption) (fun _ _ _ => ?_)
        refine fr_ite ?_ ?_
        · exact fr_some (by assumption)
        · refine fr_chk (fun _ => ?_)
          exact fr_some (by assumption)
  exact key s sm_refl
def W_X2_nextRead (c i : Nat) : Prop := W_X9_hasBit c i ∨ W_X2_giftsFrom c i
theorem frst_X2_nextRead_2 {s0 : Mem} {N : Nat} {x1 : Int32} {x2 : Int32} {rec : Int32 → Mem → Option (Int32 × Mem)}   (ih : ∀ (y0 : Int32) (y1 : Mem), Sm W_X2_nextRead s0 y1 → Fr W_X2_nextRead s0 (rec y0 y1)) : ∀ (x3 : Int32) (s : Mem), Sm W_X2_nextRead s0 s → Fr W_X2_nextRead s0 (st_X2_nextRead_2 N x1 x2 rec x3 s) := by
  intro x3 s hm
  unfold st_X2_nextRead_2
  refine fr_ite ?_ ?_
  · exact fr_some (by assumption)
  · refine fr_call (fr_X9_hasBit _ _ _ _) (fun c i h => Or.inl h) (by assumption) (fun _ _ _ => ?_)
    refine fr_ite ?_ ?_
    · refine fr_lt ?_
      exact ih _ _ (by assumption)
    · refine fr_call (fr_X2_giftsFrom _ _ _ _ _) (fun c i h => Or.inr h) (by assumption) (fun _ _ _ => ?_)
      refine fr_chk (fun _ => ?_)
      refine fr_ite ?_ ?_
      · exact fr_some (by assumption)
      · refine fr_lt ?_
        exact ih _ _ (by assumption)
theorem fr_X2_nextRead (N : Nat) (x1 : Int32) (x2 : Int32) (s : Mem) : Fr W_X2_nextRead s (f_X2_nextRead N x1 x2 s) := by
  have key : ∀ s0 : Mem, Sm W_X2_nextRead s0 s → Fr W_X2_nextRead s0 (f_X2_nextRead N x1 x2 s) := by
    intro s0 hm
    unfold f_X2_nextRead
    refine itr_ind (Q := fun (f : Int32 → Mem → Option (Int32 × Mem)) => ∀ y0 s, Sm W_X2_nextRead s0 s → Fr W_X2_nextRead s0 (f y0 s)) (fun _ _ _ => fr_none) (fun _ ih2 => ?_) N _ _ (by assumption)
    refine frst_X2_nextRead_2   ih2
  exact key s sm_refl
def W_X2_readAt (c i : Nat) : Prop := W_X2_nextRead c i
theorem frst_X2_readAt_8 {s0 : Mem} {N : Nat} {x2 : Int32} {rec : Int32 → Int32 → Int32 → Mem → Option (Int32 × Mem)}   (ih : ∀ (y0 : Int32) (y1 : Int32) (y2 : Int32) (y3 : Mem), Sm W_X2_readAt s0 y3 → Fr W_X2_readAt s0 (rec y0 y1 y2 y3)) : ∀ (x3 : Int32) (x4 : Int32) (x5 : Int32) (s : Mem), Sm W_X2_readAt s0 s → Fr W_X2_readAt s0 (st_X2_readAt_8 N x2 rec x3 x4 x5 s) := by
  intro x3 x4 x5 s hm
  unfold st_X2_readAt_8
  refine fr_ite ?_ ?_
  · exact fr_some (by assumption)
  · refine fr_ite ?_ ?_
    · exact fr_some (by assumption)
    · refine fr_call (fr_X2_nextRead _ _ _ _) (fun c i h => h) (by assumption) (fun _ _ _ => ?_)
      refine fr_ite ?_ ?_
      · refine fr_lt ?_
        refine fr_lt ?_
        exact ih _ _ _ _ (by assumption)
      · exact fr_some (by assumption)
theorem fr_X2_readAt (N : Nat) (x1 : Int32) (x2 : Int32) (s : Mem) : Fr W_X2_readAt s (f_X2_readAt N x1 x2 s) := by
  have key : ∀ s0 : Mem, Sm W_X2_readAt s0 s → Fr W_X2_readAt s0 (f_X2_readAt N x1 x2 s) := by
    intro s0 hm
    unfold f_X2_readAt
    refine itr_ind (Q := fun (f : Int32 → Int32 → Int32 → Mem → Option (Int32 × Mem)) => ∀ y0 y1 y2 s, Sm W_X2_readAt s0 s → Fr W_X2_readAt s0 (f y0 y1 y2 s)) (fun _ _ _ _ _ => fr_none) (fun _ ih8 => ?_) N _ _ _ _ (by assumption)
    refine frst_X2_readAt_8   ih8
  exact key s sm_refl
def W_X2_bestOf (x3 x4 : Nat) (c i : Nat) : Prop := (c = 101 ∧ i = 3) ∨ W_X0_tiredBehind x3 c i ∨ W_X0_giftBehind x3 x4 c i
theorem frst_X2_bestOf_11 {s0 : Mem} {N : Nat} {x1 : Int32} {x2 : Int32} {x3 : Nat} {x4 : Nat} {rec : Int32 → Int32 → Mem → Option (Int32 × Mem)}   (ih : ∀ (y0 : Int32) (y1 : Int32) (y2 : Mem), Sm (W_X2_bestOf x3 x4) s0 y2 → Fr (W_X2_bestOf x3 x4) s0 (rec y0 y1 y2)) : ∀ (x5 : Int32) (x6 : Int32) (s : Mem), Sm (W_X2_bestOf x3 x4) s0 s → Fr (W_X2_bestOf x3 x4) s0 (st_X2_bestOf_11 N x1 x2 x3 x4 rec x5 x6 s) := by
  intro x5 x6 s hm
  unfold st_X2_bestOf_11
  refine fr_ite ?_ ?_
  · exact fr_some (by assumption)
  · refine fr_call (fr_X0_tiredBehind _ _ _ _ _ _) (fun c i h => Or.inr (Or.inl h)) (by assumption) (fun _ _ _ => ?_)
    refine fr_call (fr_X0_giftBehind _ _ _ _ _ _ _ _) (fun c i h => Or.inr (Or.inr h)) (by assumption) (fun _ _ _ => ?_)
    refine fr_ite ?_ ?_
    · refine fr_lt ?_
      exact ih _ _ _ (by assumption)
    · refine fr_si (by assumption) (Or.inl ⟨rfl, rfl⟩) (fun _ _ => ?_)
      refine fr_lt ?_
      exact ih _ _ _ (by assumption)
theorem fr_X2_bestOf (N : Nat) (x1 : Int32) (x2 : Int32) (x3 : Nat) (x4 : Nat) (s : Mem) : Fr (W_X2_bestOf x3 x4) s (f_X2_bestOf N x1 x2 x3 x4 s) := by
  have key : ∀ s0 : Mem, Sm (W_X2_bestOf x3 x4) s0 s → Fr (W_X2_bestOf x3 x4) s0 (f_X2_bestOf N x1 x2 x3 x4 s) := by
    intro s0 hm
    unfold f_X2_bestOf
    refine fr_si (by assumption) (Or.inl ⟨rfl, rfl⟩) (fun _ _ => ?_)
    refine itr_ind (Q := fun (f : Int32 → Int32 → Mem → Option (Int32 × Mem)) => ∀ y0 y1 s, Sm (W_X2_bestOf x3 x4) s0 s → Fr (W_X2_bestOf x3 x4) s0 (f y0 y1 s)) (fun _ _ _ _ => fr_none) (fun _ ih11 => ?_) N _ _ _ (by assumption)
    refine frst_X2_bestOf_11   ih11
  exact key s sm_refl
def W_X2_follow (x5 x7 : Nat) (c i : Nat) : Prop := W_J6_bitCount_0f7a4 c i ∨ W_X9_hasBit c i ∨ W_X0_tellOn x5 x7 c i ∨ (c = 101 ∧ i = 4)
theorem frst_X2_follow_45 {s0 : Mem} {N : Nat} {g0 : Int32 → Int32 → Int32 → Int32 → Nat → Nat → Mem → Option (Unit × Mem)} {x1 : Int32} {x2 : Int32} {x3 : Int32} {x5 : Nat} {x7 : Nat} {x8 : Int32} {x9 : Int32} {rec : Int32 → Mem → Option (Unit × Mem)} (hg0 : ∀ (y0 : Int32) (y1 : Int32) (y2 : Int32) (y3 : Int32) (s : Mem), Sm (W_X2_follow x5 x7) s0 s → Fr (W_X2_follow x5 x7) s0 (g0 y0 y1 y2 y3 x5 x7 s))  (ih : ∀ (y0 : Int32) (y1 : Mem), Sm (W_X2_follow x5 x7) s0 y1 → Fr (W_X2_follow x5 x7) s0 (rec y0 y1)) : ∀ (x10 : Int32) (s : Mem), Sm (W_X2_follow x5 x7) s0 s → Fr (W_X2_follow x5 x7) s0 (st_X2_follow_45 N g0 x1 x2 x3 x5 x7 x8 x9 rec x10 s) := by
  intro x10 s hm
  unfold st_X2_follow_45
  refine fr_ite ?_ ?_
  · exact fr_some (by assumption)
  · refine fr_ite ?_ ?_
    · exact fr_some (by assumption)
    · refine fr_ite ?_ ?_
      · exact fr_some (by assumption)
      · refine fr_chk (fun _ => ?_)
        refine fr_chk (fun _ => ?_)
        refine fr_lt ?_
        refine fr_ite ?_ ?_
        · refine fr_lt ?_
          exact ih _ _ (by assumption)
        · refine fr_call (fr_X9_hasBit _ _ _ _) (fun c i h => Or.inr (Or.inl h)) (by assumption) (fun _ _ _ => ?_)
          refine fr_ite ?_ ?_
          · refine fr_join (fun j => ∀ (s12 : Mem), Sm (W_X2_follow x5 x7) s0 s12 → Fr (W_X2_follow x5 x7) s0 (j s12)) (fun s12 hm => ?_) (fun j110 hj110 => ?_)
            · refine fr_call (fr_X0_tellOn _ _ _ _ _ _ _ _) (fun c i h => Or.inr (Or.inr (Or.inl h))) (by assumption) (fun _ _ _ => ?_)
              refine fr_bd (by first | exact hg0 _ _ _ _ _ (by assumption)) (fun _ _ _ => ?_)
              refine fr_lt ?_
              exact ih _ _ (by assumption)
            · refine fr_ite ?_ ?_
              · exact hj110 _ (by assumption)
              · refine fr_call (fr_X9_hasBit _ _ _ _) (fun c i h => Or.inr (Or.inl h)) (by assumption) (fun _ _ _ => ?_)
                refine fr_ite ?_ ?_
                · refine fr_lt ?_
                  exact ih _ _ (by assumption)
                · exact hj110 _ (by assumption)
          · refine fr_lt ?_
            exact ih _ _ (by assumption)
theorem fr1_X2_follow {s0 : Mem} (N : Nat) (g0 : Int32 → Int32 → Int32 → Int32 → Nat → Nat → Mem → Option (Unit × Mem)) (x1 : Int32) (x2 : Int32) (x3 : Int32) (x4 : Int32) (x5 : Nat) (x7 : Nat) (hg0 : ∀ (y0 : Int32) (y1 : Int32) (y2 : Int32) (y3 : Int32) (s : Mem), Sm (W_X2_follow x5 x7) s0 s → Fr (W_X2_follow x5 x7) s0 (g0 y0 y1 y2 y3 x5 x7 s)) : ∀ (s : Mem), Sm (W_X2_follow x5 x7) s0 s → Fr (W_X2_follow x5 x7) s0 (f1_X2_follow N g0 x1 x2 x3 x4 x5 x7 s) := by
  intro s hm
  unfold f1_X2_follow
  refine fr_chk (fun _ => ?_)
  refine fr_chk (fun _ => ?_)
  refine fr_join (fun j => ∀ (s2 : Mem), Sm (W_X2_follow x5 x7) s0 s2 → Fr (W_X2_follow x5 x7) s0 (j s2)) (fun s2 hm => ?_) (fun j27 hj27 => ?_)
  · refine fr_lt ?_
    refine fr_call (fr_J6_bitCount_0f7a4 _ _ _) (fun c i h => Or.inl h) (by assumption) (fun _ _ _ => ?_)
    refine itr_ind (Q := fun (f : Int32 → Mem → Option (Unit × Mem)) => ∀ y0 s, Sm (W_X2_follow x5 x7) s0 s → Fr (W_X2_follow x5 x7) s0 (f y0 s)) (fun _ _ _ => fr_none) (fun _ ih45 => ?_) N _ _ (by assumption)
    refine frst_X2_follow_45 hg0  ih45
  · refine fr_ite ?_ ?_
    · exact hj27 _ (by assumption)
    · refine fr_si (by assumption) (Or.inr (Or.inr (Or.inr ⟨rfl, rfl⟩))) (fun _ _ => ?_)
      exact hj27 _ (by assumption)
theorem frg_X2_follow (N n : Nat) {x5 : Nat} {x7 : Nat} {s0 : Mem} : (fun (r : (Int32 → Int32 → Int32 → Int32 → Nat → Nat → Mem → Option (Unit × Mem))) => (∀ (y0 : Int32) (y1 : Int32) (y2 : Int32) (y3 : Int32) (s : Mem), Sm (W_X2_follow x5 x7) s0 s → Fr (W_X2_follow x5 x7) s0 (r y0 y1 y2 y3 x5 x7 s))) (gr_X2_follow N n) := by
  unfold gr_X2_follow
  refine itr_ind (Q := fun (r : (Int32 → Int32 → Int32 → Int32 → Nat → Nat → Mem → Option (Unit × Mem))) => (∀ (y0 : Int32) (y1 : Int32) (y2 : Int32) (y3 : Int32) (s : Mem), Sm (W_X2_follow x5 x7) s0 s → Fr (W_X2_follow x5 x7) s0 (r y0 y1 y2 y3 x5 x7 s))) ?_ ?_ n
  · exact (fun _ _ _ _ _ _ => fr_none)
  · intro r ih
    exact (fun y0 y1 y2 y3 s hm => fr1_X2_follow N r y0 y1 y2 y3 x5 x7 ih s hm)
theorem fr_X2_follow (N n : Nat) (x1 : Int32) (x2 : Int32) (x3 : Int32) (x4 : Int32) (x5 : Nat) (x7 : Nat) (s : Mem) : Fr (W_X2_follow x5 x7) s (f_X2_follow N n x1 x2 x3 x4 x5 x7 s) := (frg_X2_follow N n) x1 x2 x3 x4 s sm_refl
def W_X2_falseTales (x2 x4 : Nat) (c i : Nat) : Prop := W_X9_hasBit c i ∨ (c = 101 ∧ i = 4) ∨ W_X2_follow x2 x4 c i
theorem frst_X2_falseTales_6 {s0 : Mem} {N : Nat} {x1 : Int32} {x2 : Nat} {x4 : Nat} {k60 : Int32 → Mem → Option (Int32 × Mem)} {rec : Int32 → Int32 → Mem → Option (Int32 × Mem)}  (hk60 : ∀ (y0 : Int32) (y1 : Mem), Sm (W_X2_falseTales x2 x4) s0 y1 → Fr (W_X2_falseTales x2 x4) s0 (k60 y0 y1)) (ih : ∀ (y0 : Int32) (y1 : Int32) (y2 : Mem), Sm (W_X2_falseTales x2 x4) s0 y2 → Fr (W_X2_falseTales x2 x4) s0 (rec y0 y1 y2)) : ∀ (x5 : Int32) (x6 : Int32) (s : Mem), Sm (W_X2_falseTales x2 x4) s0 s → Fr (W_X2_falseTales x2 x4) s0 (st_X2_falseTales_6 N x1 x2 x4 k60 rec x5 x6 s) := by
  intro x5 x6 s hm
  unfold st_X2_falseTales_6
  refine fr_ite ?_ ?_
  · exact hk60 _ _ (by assumption)
  · refine fr_chk (fun _ => ?_)
    refine fr_call (fr_X9_hasBit _ _ _ _) (fun c i h => Or.inl h) (by assumption) (fun _ _ _ => ?_)
    refine fr_ite ?_ ?_
    · refine fr_lt ?_
      exact ih _ _ _ (by assumption)
    · refine fr_chk (fun _ => ?_)
      refine fr_chk (fun _ => ?_)
      refine fr_chk (fun _ => ?_)
      refine fr_ite ?_ ?_
      · refine fr_lt ?_
        exact ih _ _ _ (by assumption)
      · refine fr_lt ?_
        refine fr_lt ?_
        exact ih _ _ _ (by assumption)
theorem fr_X2_falseTales (N : Nat) (x1 : Int32) (x2 : Nat) (x4 : Nat) (s : Mem) : Fr (W_X2_falseTales x2 x4) s (f_X2_falseTales N x1 x2 x4 s) := by
  have key : ∀ s0 : Mem, Sm (W_X2_falseTales x2 x4) s0 s → Fr (W_X2_falseTales x2 x4) s0 (f_X2_falseTales N x1 x2 x4 s) := by
    intro s0 hm
    unfold f_X2_falseTales
    refine itr_ind (Q := fun (f : Int32 → Int32 → Mem → Option (Int32 × Mem)) => ∀ y0 y1 s, Sm (W_X2_falseTales x2 x4) s0 s → Fr (W_X2_falseTales x2 x4) s0 (f y0 y1 s)) (fun _ _ _ _ => fr_none) (fun _ ih6 => ?_) N _ _ _ (by assumption)
    refine frst_X2_falseTales_6  ?_ ih6
    · intro x5_9 s8 hm
      refine fr_chk (fun _ => ?_)
      refine fr_si (by assumption) (Or.inr (Or.inl ⟨rfl, rfl⟩)) (fun _ _ => ?_)
      refine fr_chk (fun _ => ?_)
      refine fr_chk (fun _ => ?_)
      refine fr_call (fr_X2_follow _ _ _ _ _ _ _ _ _) (fun c i h => Or.inr (Or.inr h)) (by assumption) (fun _ _ _ => ?_)
      exact fr_some (by assumption)
  exact key s sm_refl
def W_X3_tell (c i : Nat) : Prop := (c = 3 ∧ i = 0)
theorem fr_X3_tell (N : Nat) (x1 : Int32) (s : Mem) : Fr W_X3_tell s (f_X3_tell N x1 s) := by
  have key : ∀ s0 : Mem, Sm W_X3_tell s0 s → Fr W_X3_tell s0 (f_X3_tell N x1 s) := by
    intro s0 hm
    unfold f_X3_tell
    refine fr_si (by assumption) (⟨rfl, rfl⟩) (fun _ _ => ?_)
    exact fr_some (by assumption)
  exact key s sm_refl
def W_X3_lay (c i : Nat) : Prop := (4 + 1 ≤ c ∧ c < 4 + 1 + 12) ∨ (c = 3 ∧ i = 3)
theorem fr_X3_lay (N : Nat) (x1 : Int32) (x2 : Int32) (x3 : Int32) (s : Mem) : Fr W_X3_lay s (f_X3_lay N x1 x2 x3 s) := by
  have key : ∀ s0 : Mem, Sm W_X3_lay s0 s → Fr W_X3_lay s0 (f_X3_lay N x1 x2 x3 s) := by
    intro s0 hm
    unfold f_X3_lay
    refine fr_chk (fun _ => ?_)
    refine fr_chk (fun _ => ?_)
    refine fr_si (by assumption) (Or.inl ⟨by omega, by omega⟩) (fun _ _ => ?_)
    refine fr_chk (fun _ => ?_)
    refine fr_chk (fun _ => ?_)
    refine fr_si (by assumption) (Or.inl ⟨by omega, by omega⟩) (fun _ _ => ?_)
    refine fr_si (by assumption) (Or.inr ⟨rfl, rfl⟩) (fun _ _ => ?_)
    exact fr_some (by assumption)
  exact key s sm_refl
def W_X3_findWays (c i : Nat) : Prop := (17 + 1 ≤ c ∧ c < 17 + 1 + 12)
theorem frst_X3_findWays_10 {s0 : Mem} {N : Nat} {x1 : Int32} {k54 : Mem → Option (Unit × Mem)} {rec : Int32 → Mem → Option (Unit × Mem)}  (hk54 : ∀ (y0 : Mem), Sm W_X3_findWays s0 y0 → Fr W_X3_findWays s0 (k54 y0)) (ih : ∀ (y0 : Int32) (y1 : Mem), Sm W_X3_findWays s0 y1 → Fr W_X3_findWays s0 (rec y0 y1)) : ∀ (x2 : Int32) (s : Mem), Sm W_X3_findWays s0 s → Fr W_X3_findWays s0 (st_X3_findWays_10 N x1 k54 rec x2 s) := by
  intro x2 s hm
  unfold st_X3_findWays_10
  refine fr_ite ?_ ?_
  · exact hk54 _ (by assumption)
  · refine fr_chk (fun _ => ?_)
    refine fr_chk (fun _ => ?_)
    refine fr_chk (fun _ => ?_)
    refine fr_ite ?_ ?_
    · refine fr_chk (fun _ => ?_)
      refine fr_si (by assumption) (⟨by omega, by omega⟩) (fun _ _ => ?_)
      refine fr_lt ?_
      exact ih _ _ (by assumption)
    · refine fr_chk (fun _ => ?_)
      refine fr_chk (fun _ => ?_)
      refine fr_chk (fun _ => ?_)
      refine fr_si (by assumption) (⟨by omega, by omega⟩) (fun _ _ => ?_)
      refine fr_lt ?_
      exact ih _ _ (by assumption)
theorem frst_X3_findWays_2 {s0 : Mem} {N : Nat} {k69 : Mem → Option (Unit × Mem)} {rec : Int32 → Mem → Option (Unit × Mem)}  (hk69 : ∀ (y0 : Mem), Sm W_X3_findWays s0 y0 → Fr W_X3_findWays s0 (k69 y0)) (ih : ∀ (y0 : Int32) (y1 : Mem), Sm W_X3_findWays s0 y1 → Fr W_X3_findWays s0 (rec y0 y1)) : ∀ (x1 : Int32) (s : Mem), Sm W_X3_findWays s0 s → Fr W_X3_findWays s0 (st_X3_findWays_2 N k69 rec x1 s) := by
  intro x1 s hm
  unfold st_X3_findWays_2
  refine fr_ite ?_ ?_
  · exact hk69 _ (by assumption)
  · refine itr_ind (Q := fun (f : Int32 → Mem → Option (Unit × Mem)) => ∀ y0 s, Sm W_X3_findWays s0 s → Fr W_X3_findWays s0 (f y0 s)) (fun _ _ _ => fr_none) (fun _ ih10 => ?_) N _ _ (by assumption)
    refine frst_X3_findWays_10  ?_ ih10
    · intro s8 hm
      refine fr_chk (fun _ => ?_)
      refine fr_chk (fun _ => ?_)
      refine fr_si (by assumption) (⟨by omega, by omega⟩) (fun _ _ => ?_)
      refine fr_lt ?_
      exact ih _ _ (by assumption)
theorem frst_X3_findWays_87 {s0 : Mem} {N : Nat} {x1 : Int32} {x2 : Int32} {k135 : Mem → Option (Unit × Mem)} {rec : Int32 → Mem → Option (Unit × Mem)}  (hk135 : ∀ (y0 : Mem), Sm W_X3_findWays s0 y0 → Fr W_X3_findWays s0 (k135 y0)) (ih : ∀ (y0 : Int32) (y1 : Mem), Sm W_X3_findWays s0 y1 → Fr W_X3_findWays s0 (rec y0 y1)) : ∀ (x3 : Int32) (s : Mem), Sm W_X3_findWays s0 s → Fr W_X3_findWays s0 (st_X3_findWays_87 N x1 x2 k135 rec x3 s) := by
  intro x3 s hm
  unfold st_X3_findWays_87
  refine fr_ite ?_ ?_
  · exact hk135 _ (by assumption)
  · refine fr_chk (fun _ => ?_)
    refine fr_chk (fun _ => ?_)
    refine fr_chk (fun _ => ?_)
    refine fr_chk (fun _ => ?_)
    refine fr_chk (fun _ => ?_)
    refine fr_chk (fun _ => ?_)
    refine fr_chk (fun _ => ?_)
    refine fr_chk (fun _ => ?_)
    refine fr_si (by assumption) (⟨by omega, by omega⟩) (fun _ _ => ?_)
    refine fr_lt ?_
    exact ih _ _ (by assumption)
theorem frst_X3_findWays_79 {s0 : Mem} {N : Nat} {x1 : Int32} {k141 : Mem → Option (Unit × Mem)} {rec : Int32 → Mem → Option (Unit × Mem)}  (hk141 : ∀ (y0 : Mem), Sm W_X3_findWays s0 y0 → Fr W_X3_findWays s0 (k141 y0)) (ih : ∀ (y0 : Int32) (y1 : Mem), Sm W_X3_findWays s0 y1 → Fr W_X3_findWays s0 (rec y0 y1)) : ∀ (x2 : Int32) (s : Mem), Sm W_X3_findWays s0 s → Fr W_X3_findWays s0 (st_X3_findWays_79 N x1 k141 rec x2 s) := by
  intro x2 s hm
  unfold st_X3_findWays_79
  refine fr_ite ?_ ?_
  · exact hk141 _ (by assumption)
  · refine itr_ind (Q := fun (f : Int32 → Mem → Option (Unit × Mem)) => ∀ y0 s, Sm W_X3_findWays s0 s → Fr W_X3_findWays s0 (f y0 s)) (fun _ _ _ => fr_none) (fun _ ih87 => ?_) N _ _ (by assumption)
    refine frst_X3_findWays_87  ?_ ih87
    · intro s19 hm
      refine fr_lt ?_
      exact ih _ _ (by assumption)
theorem frst_X3_findWays_71 {s0 : Mem} {N : Nat} {rec : Int32 → Mem → Option (Unit × Mem)}   (ih : ∀ (y0 : Int32) (y1 : Mem), Sm W_X3_findWays s0 y1 → Fr W_X3_findWays s0 (rec y0 y1)) : ∀ (x1 : Int32) (s : Mem), Sm W_X3_findWays s0 s → Fr W_X3_findWays s0 (st_X3_findWays_71 N rec x1 s) := by
  intro x1 s hm
  unfold st_X3_findWays_71
  refine fr_ite ?_ ?_
  · exact fr_some (by assumption)
  · refine itr_ind (Q := fun (f : Int32 → Mem → Option (Unit × Mem)) => ∀ y0 s, Sm W_X3_findWays s0 s → Fr W_X3_findWays s0 (f y0 s)) (fun _ _ _ => fr_none) (fun _ ih79 => ?_) N _ _ (by assumption)
    refine frst_X3_findWays_79  ?_ ih79
    · intro s21 hm
      refine fr_lt ?_
      exact ih _ _ (by assumption)
theorem fr_X3_findWays (N : Nat) (s : Mem) : Fr W_X3_findWays s (f_X3_findWays N s) := by
  have key : ∀ s0 : Mem, Sm W_X3_findWays s0 s → Fr W_X3_findWays s0 (f_X3_findWays N s) := by
    intro s0 hm
    unfold f_X3_findWays
    refine itr_ind (Q := fun (f : Int32 → Mem → Option (Unit × Mem)) => ∀ y0 s, Sm W_X3_findWays s0 s → Fr W_X3_findWays s0 (f y0 s)) (fun _ _ _ => fr_none) (fun _ ih2 => ?_) N _ _ (by assumption)
    refine frst_X3_findWays_2  ?_ ih2
    · intro s12 hm
      refine itr_ind (Q := fun (f : Int32 → Mem → Option (Unit × Mem)) => ∀ y0 s, Sm W_X3_findWays s0 s → Fr W_X3_findWays s0 (f y0 s)) (fun _ _ _ => fr_none) (fun _ ih71 => ?_) N _ _ (by assumption)
      refine frst_X3_findWays_71   ih71
  exact key s sm_refl
def W_X3_way (c i : Nat) : Prop := W_X3_findWays c i ∨ (c = 3 ∧ i = 3)
theorem fr_X3_way (N : Nat) (x1 : Int32) (x2 : Int32) (s : Mem) : Fr W_X3_way s (f_X3_way N x1 x2 s) := by
  have key : ∀ s0 : Mem, Sm W_X3_way s0 s → Fr W_X3_way s0 (f_X3_way N x1 x2 s) := by
    intro s0 hm
    unfold f_X3_way
    refine fr_ite ?_ ?_
    · refine fr_call (fr_X3_findWays _ _) (fun c i h => Or.inl h) (by assumption) (fun _ _ _ => ?_)
      refine fr_si (by assumption) (Or.inr ⟨rfl, rfl⟩) (fun _ _ => ?_)
      refine fr_chk (fun _ => ?_)
      refine fr_chk (fun _ => ?_)
      exact fr_some (by assumption)
    · refine fr_chk (fun _ => ?_)
      refine fr_chk (fun _ => ?_)
      exact fr_some (by assumption)
  exact key s sm_refl
def W_X3_aheadBy (c i : Nat) : Prop := W_X3_way c i
theorem fr_X3_aheadBy (N : Nat) (x1 : Int32) (x2 : Int32) (x3 : Int32) (s : Mem) : Fr W_X3_aheadBy s (f_X3_aheadBy N x1 x2 x3 s) := by
  have key : ∀ s0 : Mem, Sm W_X3_aheadBy s0 s → Fr W_X3_aheadBy s0 (f_X3_aheadBy N x1 x2 x3 s) := by
    intro s0 hm
    unfold f_X3_aheadBy
    refine fr_chk (fun _ => ?_)
    refine fr_chk (fun _ => ?_)
    refine fr_call (fr_X3_way _ _ _ _) (fun c i h => h) (by assumption) (fun _ _ _ => ?_)
    refine fr_chk (fun _ => ?_)
    exact fr_some (by assumption)
  exact key s sm_refl
def W_X3_fewestAhead (c i : Nat) : Prop := W_X3_way c i ∨ W_X9_hasBit c i ∨ W_X3_aheadBy c i
theorem frst_X3_fewestAhead_30 {s0 : Mem} {N : Nat} {x1 : Int32} {x2 : Int32} {rec : Int32 → Int32 → Mem → Option (Int32 × Mem)}   (ih : ∀ (y0 : Int32) (y1 : Int32) (y2 : Mem), Sm W_X3_fewestAhead s0 y2 → Fr W_X3_fewestAhead s0 (rec y0 y1 y2)) : ∀ (x3 : Int32) (x4 : Int32) (s : Mem), Sm W_X3_fewestAhead s0 s → Fr W_X3_fewestAhead s0 (st_X3_fewestAhead_30 N x1 x2 rec x3 x4 s) := by
  intro x3 x4 s hm
  unfold st_X3_fewestAhead_30
  refine fr_ite ?_ ?_
  · exact fr_some (by assumption)
  · refine fr_call (fr_X9_hasBit _ _ _ _) (fun c i h => Or.inr (Or.inl h)) (by assumption) (fun _ _ _ => ?_)
    refine fr_ite ?_ ?_
    · refine fr_lt ?_
      exact ih _ _ _ (by assumption)
    · refine fr_call (fr_X3_aheadBy _ _ _ _ _) (fun c i h => Or.inr (Or.inr h)) (by assumption) (fun _ _ _ => ?_)
      refine fr_lt ?_
      refine fr_lt ?_
      exact ih _ _ _ (by assumption)
theorem fr_X3_fewestAhead (N : Nat) (x1 : Int32) (x2 : Int32) (s : Mem) : Fr W_X3_fewestAhead s (f_X3_fewestAhead N x1 x2 s) := by
  have key : ∀ s0 : Mem, Sm W_X3_fewestAhead s0 s → Fr W_X3_fewestAhead s0 (f_X3_fewestAhead N x1 x2 s) := by
    intro s0 hm
    unfold f_X3_fewestAhead
    refine fr_ite ?_ ?_
    · refine fr_chk (fun _ => ?_)
      refine fr_chk (fun _ => ?_)
      refine fr_call (fr_X3_way _ _ _ _) (fun c i h => Or.inl h) (by assumption) (fun _ _ _ => ?_)
      exact fr_some (by assumption)
    · refine itr_ind (Q := fun (f : Int32 → Int32 → Mem → Option (Int32 × Mem)) => ∀ y0 y1 s, Sm W_X3_fewestAhead s0 s → Fr W_X3_fewestAhead s0 (f y0 y1 s)) (fun _ _ _ _ => fr_none) (fun _ ih30 => ?_) N _ _ _ (by assumption)
      refine frst_X3_fewestAhead_30   ih30
  exact key s sm_refl
def W_X3_goRound (c i : Nat) : Prop := (c = 3 ∧ i = 5) ∨ W_X9_hasBit c i ∨ c = 30 ∨ W_X3_fewestAhead c i ∨ c = 31
theorem frst_X3_goRound_7 {s0 : Mem} {N : Nat} {x1 : Int32} {x2 : Int32} {k56 : Mem → Option (Int32 × Mem)} {rec : Int32 → Mem → Option (Int32 × Mem)}  (hk56 : ∀ (y0 : Mem), Sm W_X3_goRound s0 y0 → Fr W_X3_goRound s0 (k56 y0)) (ih : ∀ (y0 : Int32) (y1 : Mem), Sm W_X3_goRound s0 y1 → Fr W_X3_goRound s0 (rec y0 y1)) : ∀ (x3 : Int32) (s : Mem), Sm W_X3_goRound s0 s → Fr W_X3_goRound s0 (st_X3_goRound_7 N x1 x2 k56 rec x3 s) := by
  intro x3 s hm
  unfold st_X3_goRound_7
  refine fr_ite ?_ ?_
  · exact hk56 _ (by assumption)
  · refine fr_call (fr_X9_hasBit _ _ _ _) (fun c i h => Or.inr (Or.inl h)) (by assumption) (fun _ _ _ => ?_)
    refine fr_ite ?_ ?_
    · refine fr_lt ?_
      exact ih _ _ (by assumption)
    · refine fr_ite ?_ ?_
      · refine fr_lt ?_
        exact ih _ _ (by assumption)
      · refine fr_chk (fun _ => ?_)
        refine fr_si (by assumption) (Or.inr (Or.inr (Or.inl rfl))) (fun _ _ => ?_)
        refine fr_si (by assumption) (Or.inl ⟨rfl, rfl⟩) (fun _ _ => ?_)
        refine fr_lt ?_
        exact ih _ _ (by assumption)
theorem frst_X3_goRound_87 {s0 : Mem} {N : Nat} {x3 : Int32} {x4 : Int32} {k123 : Mem → Option (Int32 × Mem)} {rec : Int32 → Mem → Option (Int32 × Mem)}  (hk123 : ∀ (y0 : Mem), Sm W_X3_goRound s0 y0 → Fr W_X3_goRound s0 (k123 y0)) (ih : ∀ (y0 : Int32) (y1 : Mem), Sm W_X3_goRound s0 y1 → Fr W_X3_goRound s0 (rec y0 y1)) : ∀ (x5 : Int32) (s : Mem), Sm W_X3_goRound s0 s → Fr W_X3_goRound s0 (st_X3_goRound_87 N x3 x4 k123 rec x5 s) := by
  intro x5 s hm
  unfold st_X3_goRound_87
  refine fr_ite ?_ ?_
  · exact hk123 _ (by assumption)
  · refine fr_call (fr_X3_fewestAhead _ _ _ _) (fun c i h => Or.inr (Or.inr (Or.inr (Or.inl h)))) (by assumption) (fun _ _ _ => ?_)
    refine fr_chk (fun _ => ?_)
    refine fr_si (by assumption) (Or.inr (Or.inr (Or.inr (Or.inr rfl)))) (fun _ _ => ?_)
    refine fr_lt ?_
    exact ih _ _ (by assumption)
theorem frst_X3_goRound_78 {s0 : Mem} {N : Nat} {x3 : Int32} {rec : Int32 → Mem → Option (Int32 × Mem)}   (ih : ∀ (y0 : Int32) (y1 : Mem), Sm W_X3_goRound s0 y1 → Fr W_X3_goRound s0 (rec y0 y1)) : ∀ (x4 : Int32) (s : Mem), Sm W_X3_goRound s0 s → Fr W_X3_goRound s0 (st_X3_goRound_78 N x3 rec x4 s) := by
  intro x4 s hm
  unfold st_X3_goRound_78
  refine fr_ite ?_ ?_
  · refine fr_chk (fun _ => ?_)
    exact fr_some (by assumption)
  · refine itr_ind (Q := fun (f : Int32 → Mem → Option (Int32 × Mem)) => ∀ y0 s, Sm W_X3_goRound s0 s → Fr W_X3_goRound s0 (f y0 s)) (fun _ _ _ => fr_none) (fun _ ih87 => ?_) N _ _ (by assumption)
    refine frst_X3_goRound_87  ?_ ih87
    · intro s16 hm
      refine fr_lt ?_
      exact ih _ _ (by assumption)
theorem fr_X3_goRound (N : Nat) (x1 : Int32) (x2 : Int32) (s : Mem) : Fr W_X3_goRound s (f_X3_goRound N x1 x2 s) := by
  have key : ∀ s0 : Mem, Sm W_X3_goRound s0 s → Fr W_X3_goRound s0 (f_X3_goRound N x1 x2 s) := by
    intro s0 hm
    unfold f_X3_goRound
    refine fr_si (by assumption) (Or.inl ⟨rfl, rfl⟩) (fun _ _ => ?_)
    refine itr_ind (Q := fun (f : Int32 → Mem → Option (Int32 × Mem)) => ∀ y0 s, Sm W_X3_goRound s0 s → Fr W_X3_goRound s0 (f y0 s)) (fun _ _ _ => fr_none) (fun _ ih7 => ?_) N _ _ (by assumption)
    refine frst_X3_goRound_7  ?_ ih7
    · intro s9 hm
      refine fr_chk (fun _ => ?_)
      refine fr_si (by assumption) (Or.inr (Or.inr (Or.inl rfl))) (fun _ _ => ?_)
      refine fr_lt ?_
      refine itr_ind (Q := fun (f : Int32 → Mem → Option (Int32 × Mem)) => ∀ y0 s, Sm W_X3_goRound s0 s → Fr W_X3_goRound s0 (f y0 s)) (fun _ _ _ => fr_none) (fun _ ih78 => ?_) N _ _ (by assumption)
      refine frst_X3_goRound_78   ih78
  exact key s sm_refl
def W_X3_nextStop (c i : Nat) : Prop := W_X9_hasBit c i ∨ W_X3_aheadBy c i
theorem frst_X3_nextStop_15 {s0 : Mem} {N : Nat} {x1 : Int32} {x2 : Int32} {x3 : Int32} {rec : Int32 → Mem → Option (Int32 × Mem)}   (ih : ∀ (y0 : Int32) (y1 : Mem), Sm W_X3_nextStop s0 y1 → Fr W_X3_nextStop s0 (rec y0 y1)) : ∀ (x4 : Int32) (s : Mem), Sm W_X3_nextStop s0 s → Fr W_X3_nextStop s0 (st_X3_nextStop_15 N x1 x2 x3 rec x4 s) := by
  intro x4 s hm
  unfold st_X3_nextStop_15
  refine fr_ite ?_ ?_
  · exact fr_some (by assumption)
  · refine fr_call (fr_X9_hasBit _ _ _ _) (fun c i h => Or.inl h) (by assumption) (fun _ _ _ => ?_)
    refine fr_ite ?_ ?_
    · refine fr_lt ?_
      exact ih _ _ (by assumption)
    · refine fr_call (fr_X3_aheadBy _ _ _ _ _) (fun c i h => Or.inr h) (by assumption) (fun _ _ _ => ?_)
      refine fr_ite ?_ ?_
      · exact fr_some (by assumption)
      · refine fr_lt ?_
        exact ih _ _ (by assumption)
theorem fr_X3_nextStop (N : Nat) (x1 : Int32) (x2 : Int32) (s : Mem) : Fr W_X3_nextStop s (f_X3_nextStop N x1 x2 s) := by
  have key : ∀ s0 : Mem, Sm W_X3_nextStop s0 s → Fr W_X3_nextStop s0 (f_X3_nextStop N x1 x2 s) := by
    intro s0 hm
    unfold f_X3_nextStop
    refine fr_chk (fun _ => ?_)
    refine fr_lt ?_
    refine itr_ind (Q := fun (f : Int32 → Mem → Option (Int32 × Mem)) => ∀ y0 s, Sm W_X3_nextStop s0 s → Fr W_X3_nextStop s0 (f y0 s)) (fun _ _ _ => fr_none) (fun _ ih15 => ?_) N _ _ (by assumption)
    refine frst_X3_nextStop_15   ih15
  exact key s sm_refl
def W_X3_stopAt (c i : Nat) : Prop := W_X3_nextStop c i
theorem frst_X3_stopAt_17 {s0 : Mem} {N : Nat} {x1 : Int32} {rec : Int32 → Int32 → Int32 → Mem → Option (Int32 × Mem)}   (ih : ∀ (y0 : Int32) (y1 : Int32) (y2 : Int32) (y3 : Mem), Sm W_X3_stopAt s0 y3 → Fr W_X3_stopAt s0 (rec y0 y1 y2 y3)) : ∀ (x2 : Int32) (x3 : Int32) (x4 : Int32) (s : Mem), Sm W_X3_stopAt s0 s → Fr W_X3_stopAt s0 (st_X3_stopAt_17 N x1 rec x2 x3 x4 s) := by
  intro x2 x3 x4 s hm
  unfold st_X3_stopAt_17
  refine fr_ite ?_ ?_
  · refine fr_chk (fun _ => ?_)
    exact fr_some (by assumption)
  · refine fr_ite ?_ ?_
    · refine fr_chk (fun _ => ?_)
      exact fr_some (by assumption)
    · refine fr_call (fr_X3_nextStop _ _ _ _) (fun c i h => h) (by assumption) (fun _ _ _ => ?_)
      refine fr_ite ?_ ?_
      · refine fr_lt ?_
        refine fr_lt ?_
        exact ih _ _ _ _ (by assumption)
      · exact fr_some (by assumption)
theorem fr_X3_stopAt (N : Nat) (x1 : Int32) (s : Mem) : Fr W_X3_stopAt s (f_X3_stopAt N x1 s) := by
  have key : ∀ s0 : Mem, Sm W_X3_stopAt s0 s → Fr W_X3_stopAt s0 (f_X3_stopAt N x1 s) := by
    intro s0 hm
    unfold f_X3_stopAt
    refine fr_lt ?_
    refine fr_lt ?_
    refine itr_ind (Q := fun (f : Int32 → Int32 → Int32 → Mem → Option (Int32 × Mem)) => ∀ y0 y1 y2 s, Sm W_X3_stopAt s0 s → Fr W_X3_stopAt s0 (f y0 y1 y2 s)) (fun _ _ _ _ _ => fr_none) (fun _ ih17 => ?_) N _ _ _ _ (by assumption)
    refine frst_X3_stopAt_17   ih17
  exact key s sm_refl
def W_X4_clear (b : Nat) (c i : Nat) : Prop := (c = b ∧ i = 0) ∨ (c = b ∧ i = 6)
theorem fr_X4_clear (N : Nat) (b : Nat) (s : Mem) : Fr (W_X4_clear b) s (f_X4_clear N b s) := by
  have key : ∀ s0 : Mem, Sm (W_X4_clear b) s0 s → Fr (W_X4_clear b) s0 (f_X4_clear N b s) := by
    intro s0 hm
    unfold f_X4_clear
    refine fr_si (by assumption) (Or.inl ⟨rfl, rfl⟩) (fun _ _ => ?_)
    refine fr_si (by assumption) (Or.inr ⟨rfl, rfl⟩) (fun _ _ => ?_)
    exact fr_some (by assumption)
  exact key s sm_refl
def W_X4_add (b : Nat) (c i : Nat) : Prop := c = (b + 5) ∨ (c = b ∧ i = 6)
theorem fr_X4_add (N : Nat) (b : Nat) (x1 : Int32) (s : Mem) : Fr (W_X4_add b) s (f_X4_add N b x1 s) := by
  have key : ∀ s0 : Mem, Sm (W_X4_add b) s0 s → Fr (W_X4_add b) s0 (f_X4_add N b x1 s) := by
    intro s0 hm
    unfold f_X4_add
    refine fr_ite ?_ ?_
    · exact fr_some (by assumption)
    · refine fr_chk (fun _ => ?_)
      refine fr_si (by assumption) (Or.inl rfl) (fun _ _ => ?_)
      refine fr_si (by assumption) (Or.inr ⟨rfl, rfl⟩) (fun _ _ => ?_)
      exact fr_some (by assumption)
  exact key s sm_refl
def W_X5_winner (c i : Nat) : Prop := False
theorem frst_X5_winner_5 {s0 : Mem} {N : Nat} {x1 : Nat} {x2 : Int32} {rec : Int32 → Int32 → Mem → Option (Int32 × Mem)}   (ih : ∀ (y0 : Int32) (y1 : Int32) (y2 : Mem), Sm W_X5_winner s0 y2 → Fr W_X5_winner s0 (rec y0 y1 y2)) : ∀ (x3 : Int32) (x4 : Int32) (s : Mem), Sm W_X5_winner s0 s → Fr W_X5_winner s0 (st_X5_winner_5 N x1 x2 rec x3 x4 s) := by
  intro x3 x4 s hm
  unfold st_X5_winner_5
  refine fr_ite ?_ ?_
  · exact fr_some (by assumption)
  · refine fr_ite ?_ ?_
    · exact fr_some (by assumption)
    · refine fr_ite ?_ ?_
      · refine fr_lt ?_
        exact ih _ _ _ (by assumption)
      · refine fr_chk (fun _ => ?_)
        refine fr_chk (fun _ => ?_)
        refine fr_ite ?_ ?_
        · refine fr_lt ?_
          exact ih _ _ _ (by assumption)
        · refine fr_lt ?_
          exact ih _ _ _ (by assumption)
theorem fr_X5_winner (N : Nat) (x1 : Nat) (x2 : Int32) (s : Mem) : Fr W_X5_winner s (f_X5_winner N x1 x2 s) := by
  have key : ∀ s0 : Mem, Sm W_X5_winner s0 s → Fr W_X5_winner s0 (f_X5_winner N x1 x2 s) := by
    intro s0 hm
    unfold f_X5_winner
    refine itr_ind (Q := fun (f : Int32 → Int32 → Mem → Option (Int32 × Mem)) => ∀ y0 y1 s, Sm W_X5_winner s0 s → Fr W_X5_winner s0 (f y0 y1 s)) (fun _ _ _ _ => fr_none) (fun _ ih5 => ?_) N _ _ _ (by assumption)
    refine frst_X5_winner_5   ih5
  exact key s sm_refl
def W_X5_price (c i : Nat) : Prop := False
theorem frst_X5_price_7 {s0 : Mem} {N : Nat} {x1 : Nat} {x2 : Int32} {x3 : Int32} {rec : Int32 → Int32 → Mem → Option (Int32 × Mem)}   (ih : ∀ (y0 : Int32) (y1 : Int32) (y2 : Mem), Sm W_X5_price s0 y2 → Fr W_X5_price s0 (rec y0 y1 y2)) : ∀ (x5 : Int32) (x6 : Int32) (s : Mem), Sm W_X5_price s0 s → Fr W_X5_price s0 (st_X5_price_7 N x1 x2 x3 rec x5 x6 s) := by
  intro x5 x6 s hm
  unfold st_X5_price_7
  refine fr_ite ?_ ?_
  · exact fr_some (by assumption)
  · refine fr_ite ?_ ?_
    · exact fr_some (by assumption)
    · refine fr_ite ?_ ?_
      · refine fr_lt ?_
        exact ih _ _ _ (by assumption)
      · refine fr_chk (fun _ => ?_)
        refine fr_lt ?_
        refine fr_lt ?_
        exact ih _ _ _ (by assumption)
theorem fr_X5_price (N : Nat) (x1 : Nat) (x2 : Int32) (x3 : Int32) (x4 : Int32) (s : Mem) : Fr W_X5_price s (f_X5_price N x1 x2 x3 x4 s) := by
  have key : ∀ s0 : Mem, Sm W_X5_price s0 s → Fr W_X5_price s0 (f_X5_price N x1 x2 x3 x4 s) := by
    intro s0 hm
    unfold f_X5_price
    refine itr_ind (Q := fun (f : Int32 → Int32 → Mem → Option (Int32 × Mem)) => ∀ y0 y1 s, Sm W_X5_price s0 s → Fr W_X5_price s0 (f y0 y1 s)) (fun _ _ _ _ => fr_none) (fun _ ih7 => ?_) N _ _ _ (by assumption)
    refine frst_X5_price_7   ih7
  exact key s sm_refl
def W_X5_takeLosses (c i : Nat) : Prop := c = 123
theorem frst_X5_takeLosses_5 {s0 : Mem} {N : Nat} {x1 : Nat} {x2 : Int32} {rec : Int32 → Int32 → Mem → Option (Int32 × Mem)}   (ih : ∀ (y0 : Int32) (y1 : Int32) (y2 : Mem), Sm W_X5_takeLosses s0 y2 → Fr W_X5_takeLosses s0 (rec y0 y1 y2)) : ∀ (x3 : Int32) (x4 : Int32) (s : Mem), Sm W_X5_takeLosses s0 s → Fr W_X5_takeLosses s0 (st_X5_takeLosses_5 N x1 x2 rec x3 x4 s) := by
  intro x3 x4 s hm
  unfold st_X5_takeLosses_5
  refine fr_ite ?_ ?_
  · refine fr_ckz ?_
    exact fr_some (by assumption)
  · refine fr_ite ?_ ?_
    · refine fr_ckz ?_
      exact fr_some (by assumption)
    · refine fr_chk (fun _ => ?_)
      refine fr_chk (fun _ => ?_)
      refine fr_chk (fun _ => ?_)
      refine fr_si (by assumption) (rfl) (fun _ _ => ?_)
      refine fr_ite ?_ ?_
      · refine fr_lt ?_
        exact ih _ _ _ (by assumption)
      · refine fr_chk (fun _ => ?_)
        refine fr_ite ?_ ?_
        · refine fr_lt ?_
          exact ih _ _ _ (by assumption)
        · refine fr_lt ?_
          exact ih _ _ _ (by assumption)
theorem fr_X5_takeLosses (N : Nat) (x1 : Nat) (x2 : Int32) (s : Mem) : Fr W_X5_takeLosses s (f_X5_takeLosses N x1 x2 s) := by
  have key : ∀ s0 : Mem, Sm W_X5_takeLosses s0 s → Fr W_X5_takeLosses s0 (f_X5_takeLosses N x1 x2 s) := by
    intro s0 hm
    unfold f_X5_takeLosses
    refine itr_ind (Q := fun (f : Int32 → Int32 → Mem → Option (Int32 × Mem)) => ∀ y0 y1 s, Sm W_X5_takeLosses s0 s → Fr W_X5_takeLosses s0 (f y0 y1 s)) (fun _ _ _ _ => fr_none) (fun _ ih5 => ?_) N _ _ _ (by assumption)
    refine frst_X5_takeLosses_5   ih5
  exact key s sm_refl
def W_X5_allOf (c i : Nat) : Prop := False
theorem frst_X5_allOf_4 {s0 : Mem} {N : Nat} {x0 : Nat} {x1 : Int32} {rec : Int32 → Int32 → Mem → Option (Int32 × Mem)}   (ih : ∀ (y0 : Int32) (y1 : Int32) (y2 : Mem), Sm W_X5_allOf s0 y2 → Fr W_X5_allOf s0 (rec y0 y1 y2)) : ∀ (x2 : Int32) (x3 : Int32) (s : Mem), Sm W_X5_allOf s0 s → Fr W_X5_allOf s0 (st_X5_allOf_4 N x0 x1 rec x2 x3 s) := by
  intro x2 x3 s hm
  unfold st_X5_allOf_4
  refine fr_ite ?_ ?_
  · exact fr_some (by assumption)
  · refine fr_ite ?_ ?_
    · exact fr_some (by assumption)
    · refine fr_chk (fun _ => ?_)
      refine fr_lt ?_
      refine fr_lt ?_
      exact ih _ _ _ (by assumption)
theorem fr_X5_allOf (N : Nat) (x0 : Nat) (x1 : Int32) (s : Mem) : Fr W_X5_allOf s (f_X5_allOf N x0 x1 s) := by
  have key : ∀ s0 : Mem, Sm W_X5_allOf s0 s → Fr W_X5_allOf s0 (f_X5_allOf N x0 x1 s) := by
    intro s0 hm
    unfold f_X5_allOf
    refine itr_ind (Q := fun (f : Int32 → Int32 → Mem → Option (Int32 × Mem)) => ∀ y0 y1 s, Sm W_X5_allOf s0 s → Fr W_X5_allOf s0 (f y0 y1 s)) (fun _ _ _ _ => fr_none) (fun _ ih4 => ?_) N _ _ _ (by assumption)
    refine frst_X5_allOf_4   ih4
  exact key s sm_refl
def W_X5_giveRest (c i : Nat) : Prop := c = 125
theorem frst_X5_giveRest_5 {s0 : Mem} {N : Nat} {x2 : Int32} {rec : Int32 → Int32 → Mem → Option (Unit × Mem)}   (ih : ∀ (y0 : Int32) (y1 : Int32) (y2 : Mem), Sm W_X5_giveRest s0 y2 → Fr W_X5_giveRest s0 (rec y0 y1 y2)) : ∀ (x3 : Int32) (x4 : Int32) (s : Mem), Sm W_X5_giveRest s0 s → Fr W_X5_giveRest s0 (st_X5_giveRest_5 N x2 rec x3 x4 s) := by
  intro x3 x4 s hm
  unfold st_X5_giveRest_5
  refine fr_ite ?_ ?_
  · exact fr_some (by assumption)
  · refine fr_ite ?_ ?_
    · exact fr_some (by assumption)
    · refine fr_chk (fun _ => ?_)
      refine fr_ite ?_ ?_
      · refine fr_lt ?_
        exact ih _ _ _ (by assumption)
      · refine fr_chk (fun _ => ?_)
        refine fr_chk (fun _ => ?_)
        refine fr_si (by assumption) (rfl) (fun _ _ => ?_)
        refine fr_lt ?_
        refine fr_lt ?_
        exact ih _ _ _ (by assumption)
theorem fr_X5_giveRest (N : Nat) (x1 : Int32) (x2 : Int32) (s : Mem) : Fr W_X5_giveRest s (f_X5_giveRest N x1 x2 s) := by
  have key : ∀ s0 : Mem, Sm W_X5_giveRest s0 s → Fr W_X5_giveRest s0 (f_X5_giveRest N x1 x2 s) := by
    intro s0 hm
    unfold f_X5_giveRest
    refine itr_ind (Q := fun (f : Int32 → Int32 → Mem → Option (Unit × Mem)) => ∀ y0 y1 s, Sm W_X5_giveRest s0 s → Fr W_X5_giveRest s0 (f y0 y1 s)) (fun _ _ _ _ => fr_none) (fun _ ih5 => ?_) N _ _ _ (by assumption)
    refine frst_X5_giveRest_5   ih5
  exact key s sm_refl
def W_X5_shareLess (c i : Nat) : Prop := W_X5_allOf c i ∨ c = 125
theorem frst_X5_shareLess_2 {s0 : Mem} {N : Nat} {x1 : Int32} {rec : Int32 → Mem → Option (Int32 × Mem)}   (ih : ∀ (y0 : Int32) (y1 : Mem), Sm W_X5_shareLess s0 y1 → Fr W_X5_shareLess s0 (rec y0 y1)) : ∀ (x2 : Int32) (s : Mem), Sm W_X5_shareLess s0 s → Fr W_X5_shareLess s0 (st_X5_shareLess_2 N x1 rec x2 s) := by
  intro x2 s hm
  unfold st_X5_shareLess_2
  refine fr_ite ?_ ?_
  · refine fr_call (fr_X5_allOf _ _ _ _) (fun c i h => Or.inl h) (by assumption) (fun _ _ _ => ?_)
    exact fr_some (by assumption)
  · refine fr_chk (fun _ => ?_)
    refine fr_chk (fun _ => ?_)
    refine fr_si (by assumption) (Or.inr rfl) (fun _ _ => ?_)
    refine fr_lt ?_
    exact ih _ _ (by assumption)
theorem fr_X5_shareLess (N : Nat) (x1 : Int32) (s : Mem) : Fr W_X5_shareLess s (f_X5_shareLess N x1 s) := by
  have key : ∀ s0 : Mem, Sm W_X5_shareLess s0 s → Fr W_X5_shareLess s0 (f_X5_shareLess N x1 s) := by
    intro s0 hm
    unfold f_X5_shareLess
    refine itr_ind (Q := fun (f : Int32 → Mem → Option (Int32 × Mem)) => ∀ y0 s, Sm W_X5_shareLess s0 s → Fr W_X5_shareLess s0 (f y0 s)) (fun _ _ _ => fr_none) (fun _ ih2 => ?_) N _ _ (by assumption)
    refine frst_X5_shareLess_2   ih2
  exact key s sm_refl
def W_X5_cutAlike (c i : Nat) : Prop := W_X5_shareLess c i ∨ W_X5_giveRest c i
theorem frst_X5_cutAlike_16 {s0 : Mem} {N : Nat} {x1 : Int32} {k42 : Int32 → Mem → Option (Unit × Mem)} {rec : Int32 → Int32 → Mem → Option (Unit × Mem)}  (hk42 : ∀ (y0 : Int32) (y1 : Mem), Sm W_X5_cutAlike s0 y1 → Fr W_X5_cutAlike s0 (k42 y0 y1)) (ih : ∀ (y0 : Int32) (y1 : Int32) (y2 : Mem), Sm W_X5_cutAlike s0 y2 → Fr W_X5_cutAlike s0 (rec y0 y1 y2)) : ∀ (x2 : Int32) (x3 : Int32) (s : Mem), Sm W_X5_cutAlike s0 s → Fr W_X5_cutAlike s0 (st_X5_cutAlike_16 N x1 k42 rec x2 x3 s) := by
  intro x2 x3 s hm
  unfold st_X5_cutAlike_16
  refine fr_ite ?_ ?_
  · exact hk42 _ _ (by assumption)
  · refine fr_call (fr_X5_shareLess _ _ _) (fun c i h => Or.inl h) (by assumption) (fun _ _ _ => ?_)
    refine fr_ite ?_ ?_
    · refine fr_lt ?_
      exact ih _ _ _ (by assumption)
    · refine fr_lt ?_
      refine fr_lt ?_
      exact ih _ _ _ (by assumption)
theorem fr_X5_cutAlike (N : Nat) (x1 : Int32) (s : Mem) : Fr W_X5_cutAlike s (f_X5_cutAlike N x1 s) := by
  have key : ∀ s0 : Mem, Sm W_X5_cutAlike s0 s → Fr W_X5_cutAlike s0 (f_X5_cutAlike N x1 s) := by
    intro s0 hm
    unfold f_X5_cutAlike
    refine fr_call (fr_X5_shareLess _ _ _) (fun c i h => Or.inl h) (by assumption) (fun _ _ _ => ?_)
    refine fr_ite ?_ ?_
    · refine itr_ind (Q := fun (f : Int32 → Int32 → Mem → Option (Unit × Mem)) => ∀ y0 y1 s, Sm W_X5_cutAlike s0 s → Fr W_X5_cutAlike s0 (f y0 y1 s)) (fun _ _ _ _ => fr_none) (fun _ ih16 => ?_) N _ _ _ (by assumption)
      refine frst_X5_cutAlike_16  ?_ ih16
      · intro x2_9 s8 hm
        refine fr_lt ?_
        refine fr_call (fr_X5_shareLess _ _ _) (fun c i h => Or.inl h) (by assumption) (fun _ _ _ => ?_)
        refine fr_call (fr_X5_giveRest _ _ _ _) (fun c i h => Or.inr h) (by assumption) (fun _ _ _ => ?_)
        exact fr_some (by assumption)
    · exact fr_some (by assumption)
  exact key s sm_refl
def W_X5_divideRests (c i : Nat) : Prop := c = 124 ∨ W_X5_cutAlike c i ∨ c = 125
theorem frst_X5_divideRests_2 {s0 : Mem} {N : Nat} {x1 : Int32} {x2 : Int32} {k40 : Mem → Option (Unit × Mem)} {rec : Int32 → Mem → Option (Unit × Mem)}  (hk40 : ∀ (y0 : Mem), Sm W_X5_divideRests s0 y0 → Fr W_X5_divideRests s0 (k40 y0)) (ih : ∀ (y0 : Int32) (y1 : Mem), Sm W_X5_divideRests s0 y1 → Fr W_X5_divideRests s0 (rec y0 y1)) : ∀ (x3 : Int32) (s : Mem), Sm W_X5_divideRests s0 s → Fr W_X5_divideRests s0 (st_X5_divideRests_2 N x1 x2 k40 rec x3 s) := by
  intro x3 s hm
  unfold st_X5_divideRests_2
  refine fr_ite ?_ ?_
  · exact hk40 _ (by assumption)
  · refine fr_ite ?_ ?_
    · exact hk40 _ (by assumption)
    · refine fr_chk (fun _ => ?_)
      refine fr_chk (fun _ => ?_)
      refine fr_chk (fun _ => ?_)
      refine fr_si (by assumption) (Or.inl rfl) (fun _ _ => ?_)
      refine fr_lt ?_
      exact ih _ _ (by assumption)
theorem frst_X5_divideRests_47 {s0 : Mem} {N : Nat} {x1 : Int32} {rec : Int32 → Mem → Option (Unit × Mem)}   (ih : ∀ (y0 : Int32) (y1 : Mem), Sm W_X5_divideRests s0 y1 → Fr W_X5_divideRests s0 (rec y0 y1)) : ∀ (x3 : Int32) (s : Mem), Sm W_X5_divideRests s0 s → Fr W_X5_divideRests s0 (st_X5_divideRests_47 N x1 rec x3 s) := by
  intro x3 s hm
  unfold st_X5_divideRests_47
  refine fr_ite ?_ ?_
  · exact fr_some (by assumption)
  · refine fr_ite ?_ ?_
    · exact fr_some (by assumption)
    · refine fr_chk (fun _ => ?_)
      refine fr_chk (fun _ => ?_)
      refine fr_chk (fun _ => ?_)
      refine fr_si (by assumption) (Or.inr (Or.inr rfl)) (fun _ _ => ?_)
      refine fr_lt ?_
      exact ih _ _ (by assumption)
theorem fr_X5_divideRests (N : Nat) (x1 : Int32) (x2 : Int32) (s : Mem) : Fr W_X5_divideRests s (f_X5_divideRests N x1 x2 s) := by
  have key : ∀ s0 : Mem, Sm W_X5_divideRests s0 s → Fr W_X5_divideRests s0 (f_X5_divideRests N x1 x2 s) := by
    intro s0 hm
    unfold f_X5_divideRests
    refine itr_ind (Q := fun (f : Int32 → Mem → Option (Unit × Mem)) => ∀ y0 s, Sm W_X5_divideRests s0 s → Fr W_X5_divideRests s0 (f y0 s)) (fun _ _ _ => fr_none) (fun _ ih2 => ?_) N _ _ (by assumption)
    refine frst_X5_divideRests_2  ?_ ih2
    · intro s3 hm
      refine fr_call (fr_X5_cutAlike _ _ _) (fun c i h => Or.inr (Or.inl h)) (by assumption) (fun _ _ _ => ?_)
      refine itr_ind (Q := fun (f : Int32 → Mem → Option (Unit × Mem)) => ∀ y0 s, Sm W_X5_divideRests s0 s → Fr W_X5_divideRests s0 (f y0 s)) (fun _ _ _ => fr_none) (fun _ ih47 => ?_) N _ _ (by assumption)
      refine frst_X5_divideRests_47   ih47
  exact key s sm_refl
def W_X5_shareUpTo (c i : Nat) : Prop := W_X5_allOf c i ∨ c = 125
theorem frst_X5_shareUpTo_2 {s0 : Mem} {N : Nat} {x1 : Int32} {rec : Int32 → Mem → Option (Int32 × Mem)}   (ih : ∀ (y0 : Int32) (y1 : Mem), Sm W_X5_shareUpTo s0 y1 → Fr W_X5_shareUpTo s0 (rec y0 y1)) : ∀ (x2 : Int32) (s : Mem), Sm W_X5_shareUpTo s0 s → Fr W_X5_shareUpTo s0 (st_X5_shareUpTo_2 N x1 rec x2 s) := by
  intro x2 s hm
  unfold st_X5_shareUpTo_2
  refine fr_ite ?_ ?_
  · refine fr_call (fr_X5_allOf _ _ _ _) (fun c i h => Or.inl h) (by assumption) (fun _ _ _ => ?_)
    exact fr_some (by assumption)
  · refine fr_chk (fun _ => ?_)
    refine fr_chk (fun _ => ?_)
    refine fr_si (by assumption) (Or.inr rfl) (fun _ _ => ?_)
    refine fr_lt ?_
    exact ih _ _ (by assumption)
theorem fr_X5_shareUpTo (N : Nat) (x1 : Int32) (s : Mem) : Fr W_X5_shareUpTo s (f_X5_shareUpTo N x1 s) := by
  have key : ∀ s0 : Mem, Sm W_X5_shareUpTo s0 s → Fr W_X5_shareUpTo s0 (f_X5_shareUpTo N x1 s) := by
    intro s0 hm
    unfold f_X5_shareUpTo
    refine itr_ind (Q := fun (f : Int32 → Mem → Option (Int32 × Mem)) => ∀ y0 s, Sm W_X5_shareUpTo s0 s → Fr W_X5_shareUpTo s0 (f y0 s)) (fun _ _ _ => fr_none) (fun _ ih2 => ?_) N _ _ (by assumption)
    refine frst_X5_shareUpTo_2   ih2
  exact key s sm_refl
def W_X5_giveAlike (c i : Nat) : Prop := W_X5_shareUpTo c i ∨ W_X5_giveRest c i
theorem frst_X5_giveAlike_18 {s0 : Mem} {N : Nat} {x1 : Int32} {k44 : Int32 → Mem → Option (Unit × Mem)} {rec : Int32 → Int32 → Mem → Option (Unit × Mem)}  (hk44 : ∀ (y0 : Int32) (y1 : Mem), Sm W_X5_giveAlike s0 y1 → Fr W_X5_giveAlike s0 (k44 y0 y1)) (ih : ∀ (y0 : Int32) (y1 : Int32) (y2 : Mem), Sm W_X5_giveAlike s0 y2 → Fr W_X5_giveAlike s0 (rec y0 y1 y2)) : ∀ (x2 : Int32) (x3 : Int32) (s : Mem), Sm W_X5_giveAlike s0 s → Fr W_X5_giveAlike s0 (st_X5_giveAlike_18 N x1 k44 rec x2 x3 s) := by
  intro x2 x3 s hm
  unfold st_X5_giveAlike_18
  refine fr_ite ?_ ?_
  · exact hk44 _ _ (by assumption)
  · refine fr_call (fr_X5_shareUpTo _ _ _) (fun c i h => Or.inl h) (by assumption) (fun _ _ _ => ?_)
    refine fr_ite ?_ ?_
    · refine fr_lt ?_
      exact ih _ _ _ (by assumption)
    · refine fr_lt ?_
      refine fr_lt ?_
      exact ih _ _ _ (by assumption)
theorem fr_X5_giveAlike (N : Nat) (x1 : Int32) (s : Mem) : Fr W_X5_giveAlike s (f_X5_giveAlike N x1 s) := by
  have key : ∀ s0 : Mem, Sm W_X5_giveAlike s0 s → Fr W_X5_giveAlike s0 (f_X5_giveAlike N x1 s) := by
    intro s0 hm
    unfold f_X5_giveAlike
    refine fr_call (fr_X5_shareUpTo _ _ _) (fun c i h => Or.inl h) (by assumption) (fun _ _ _ => ?_)
    refine fr_ite ?_ ?_
    · refine itr_ind (Q := fun (f : Int32 → Int32 → Mem → Option (Unit × Mem)) => ∀ y0 y1 s, Sm W_X5_giveAlike s0 s → Fr W_X5_giveAlike s0 (f y0 y1 s)) (fun _ _ _ _ => fr_none) (fun _ ih18 => ?_) N _ _ _ (by assumption)
      refine frst_X5_giveAlike_18  ?_ ih18
      · intro x2_9 s8 hm
        refine fr_call (fr_X5_shareUpTo _ _ _) (fun c i h => Or.inl h) (by assumption) (fun _ _ _ => ?_)
        refine fr_call (fr_X5_giveRest _ _ _ _) (fun c i h => Or.inr h) (by assumption) (fun _ _ _ => ?_)
        exact fr_some (by assumption)
    · exact fr_some (by assumption)
  exact key s sm_refl
def W_X5_divide (c i : Nat) : Prop := c = 124 ∨ W_X5_giveAlike c i ∨ W_X5_cutAlike c i ∨ W_X5_allOf c i ∨ W_X5_divideRests c i
theorem frst_X5_divide_15 {s0 : Mem} {N : Nat} {x1 : Int32} {x2 : Int32} {x3 : Int32} {x4 : Int32} {k69 : Mem → Option (Unit × Mem)} {rec : Int32 → Mem → Option (Unit × Mem)}  (hk69 : ∀ (y0 : Mem), Sm W_X5_divide s0 y0 → Fr W_X5_divide s0 (k69 y0)) (ih : ∀ (y0 : Int32) (y1 : Mem), Sm W_X5_divide s0 y1 → Fr W_X5_divide s0 (rec y0 y1)) : ∀ (x5 : Int32) (s : Mem), Sm W_X5_divide s0 s → Fr W_X5_divide s0 (st_X5_divide_15 N x1 x2 x3 x4 k69 rec x5 s) := by
  intro x5 s hm
  unfold st_X5_divide_15
  refine fr_ite ?_ ?_
  · exact hk69 _ (by assumption)
  · refine fr_ite ?_ ?_
    · refine fr_ite ?_ ?_
      · refine fr_chk (fun _ => ?_)
        refine fr_chk (fun _ => ?_)
        refine fr_si (by assumption) (Or.inl rfl) (fun _ _ => ?_)
        refine fr_lt ?_
        exact ih _ _ (by assumption)
      · refine fr_chk (fun _ => ?_)
        refine fr_chk (fun _ => ?_)
        refine fr_si (by assumption) (Or.inl rfl) (fun _ _ => ?_)
        refine fr_lt ?_
        exact ih _ _ (by assumption)
    · refine fr_chk (fun _ => ?_)
      refine fr_si (by assumption) (Or.inl rfl) (fun _ _ => ?_)
      refine fr_lt ?_
      exact ih _ _ (by assumption)
theorem fr_X5_divide (N : Nat) (x1 : Int32) (x2 : Int32) (x3 : Int32) (s : Mem) : Fr W_X5_divide s (f_X5_divide N x1 x2 x3 s) := by
  have key : ∀ s0 : Mem, Sm W_X5_divide s0 s → Fr W_X5_divide s0 (f_X5_divide N x1 x2 x3 s) := by
    intro s0 hm
    unfold f_X5_divide
    refine fr_join (fun j => ∀ (t2 : Int32) (s1 : Mem), Sm W_X5_divide s0 s1 → Fr W_X5_divide s0 (j t2 s1)) (fun t2 s1 hm => ?_) (fun j10 hj10 => ?_)
    · refine itr_ind (Q := fun (f : Int32 → Mem → Option (Unit × Mem)) => ∀ y0 s, Sm W_X5_divide s0 s → Fr W_X5_divide s0 (f y0 s)) (fun _ _ _ => fr_none) (fun _ ih15 => ?_) N _ _ (by assumption)
      refine frst_X5_divide_15  ?_ ih15
      · intro s9 hm
        refine fr_join (fun j => ∀ (s10 : Mem), Sm W_X5_divide s0 s10 → Fr W_X5_divide s0 (j s10)) (fun s10 hm => ?_) (fun j92 hj92 => ?_)
        · refine fr_call (fr_X5_giveAlike _ _ _) (fun c i h => Or.inr (Or.inl h)) (by assumption) (fun _ _ _ => ?_)
          exact fr_some (by assumption)
        · refine fr_ite ?_ ?_
          · exact hj92 _ (by assumption)
          · refine fr_join (fun j => ∀ (s13 : Mem), Sm W_X5_divide s0 s13 → Fr W_X5_divide s0 (j s13)) (fun s13 hm => ?_) (fun j100 hj100 => ?_)
            · refine fr_ite ?_ ?_
              · refine fr_call (fr_X5_cutAlike _ _ _) (fun c i h => Or.inr (Or.inr (Or.inl h))) (by assumption) (fun _ _ _ => ?_)
                exact fr_some (by assumption)
              · refine fr_call (fr_X5_allOf _ _ _ _) (fun c i h => Or.inr (Or.inr (Or.inr (Or.inl h)))) (by assumption) (fun _ _ _ => ?_)
                refine fr_call (fr_X5_divideRests _ _ _ _) (fun c i h => Or.inr (Or.inr (Or.inr (Or.inr h)))) (by assumption) (fun _ _ _ => ?_)
                exact fr_some (by assumption)
            · refine fr_ite ?_ ?_
              · exact hj100 _ (by assumption)
              · refine fr_call (fr_X5_allOf _ _ _ _) (fun c i h => Or.inr (Or.inr (Or.inr (Or.inl h)))) (by assumption) (fun _ _ _ => ?_)
                refine fr_ite ?_ ?_
                · exact hj100 _ (by assumption)
                · exact hj92 _ (by assumption)
    · refine fr_ite ?_ ?_
      · exact hj10 _ _ (by assumption)
      · exact hj10 _ _ (by assumption)
  exact key s sm_refl
def W_X5_hasCoin (c i : Nat) : Prop := False
theorem frst_X5_hasCoin_2 {s0 : Mem} {N : Nat} {x1 : Int32} {rec : Int32 → Mem → Option (Int32 × Mem)}   (ih : ∀ (y0 : Int32) (y1 : Mem), Sm W_X5_hasCoin s0 y1 → Fr W_X5_hasCoin s0 (rec y0 y1)) : ∀ (x2 : Int32) (s : Mem), Sm W_X5_hasCoin s0 s → Fr W_X5_hasCoin s0 (st_X5_hasCoin_2 N x1 rec x2 s) := by
  intro x2 s hm
  unfold st_X5_hasCoin_2
  refine fr_ite ?_ ?_
  · exact fr_some (by assumption)
  · refine fr_ite ?_ ?_
    · exact fr_some (by assumption)
    · refine fr_chk (fun _ => ?_)
      refine fr_ite ?_ ?_
      · exact fr_some (by assumption)
      · refine fr_lt ?_
        exact ih _ _ (by assumption)
theorem fr_X5_hasCoin (N : Nat) (x1 : Int32) (s : Mem) : Fr W_X5_hasCoin s (f_X5_hasCoin N x1 s) := by
  have key : ∀ s0 : Mem, Sm W_X5_hasCoin s0 s → Fr W_X5_hasCoin s0 (f_X5_hasCoin N x1 s) := by
    intro s0 hm
    unfold f_X5_hasCoin
    refine itr_ind (Q := fun (f : Int32 → Mem → Option (Int32 × Mem)) => ∀ y0 s, Sm W_X5_hasCoin s0 s → Fr W_X5_hasCoin s0 (f y0 s)) (fun _ _ _ => fr_none) (fun _ ih2 => ?_) N _ _ (by assumption)
    refine frst_X5_hasCoin_2   ih2
  exact key s sm_refl
def W_X5_takeCoins (c i : Nat) : Prop := (c = 122 ∧ i = 4) ∨ W_X5_hasCoin c i ∨ c = 126
theorem frst_X5_takeCoins_7 {s0 : Mem} {N : Nat} {x1 : Nat} {x2 : Int32} {rec : Int32 → Mem → Option (Int32 × Mem)}   (ih : ∀ (y0 : Int32) (y1 : Mem), Sm W_X5_takeCoins s0 y1 → Fr W_X5_takeCoins s0 (rec y0 y1)) : ∀ (x3 : Int32) (s : Mem), Sm W_X5_takeCoins s0 s → Fr W_X5_takeCoins s0 (st_X5_takeCoins_7 N x1 x2 rec x3 s) := by
  intro x3 s hm
  unfold st_X5_takeCoins_7
  refine fr_ite ?_ ?_
  · exact fr_some (by assumption)
  · refine fr_ite ?_ ?_
    · exact fr_some (by assumption)
    · refine fr_chk (fun _ => ?_)
      refine fr_ite ?_ ?_
      · exact fr_some (by assumption)
      · refine fr_chk (fun _ => ?_)
        refine fr_call (fr_X5_hasCoin _ _ _) (fun c i h => Or.inr (Or.inl h)) (by assumption) (fun _ _ _ => ?_)
        refine fr_ite ?_ ?_
        · refine fr_chk (fun _ => ?_)
          refine fr_chk (fun _ => ?_)
          refine fr_si (by assumption) (Or.inr (Or.inr rfl)) (fun _ _ => ?_)
          refine fr_si (by assumption) (Or.inl ⟨rfl, rfl⟩) (fun _ _ => ?_)
          refine fr_lt ?_
          exact ih _ _ (by assumption)
        · refine fr_lt ?_
          exact ih _ _ (by assumption)
theorem fr_X5_takeCoins (N : Nat) (x1 : Nat) (x2 : Int32) (s : Mem) : Fr W_X5_takeCoins s (f_X5_takeCoins N x1 x2 s) := by
  have key : ∀ s0 : Mem, Sm W_X5_takeCoins s0 s → Fr W_X5_takeCoins s0 (f_X5_takeCoins N x1 x2 s) := by
    intro s0 hm
    unfold f_X5_takeCoins
    refine fr_si (by assumption) (Or.inl ⟨rfl, rfl⟩) (fun _ _ => ?_)
    refine itr_ind (Q := fun (f : Int32 → Mem → Option (Int32 × Mem)) => ∀ y0 s, Sm W_X5_takeCoins s0 s → Fr W_X5_takeCoins s0 (f y0 s)) (fun _ _ _ => fr_none) (fun _ ih7 => ?_) N _ _ (by assumption)
    refine frst_X5_takeCoins_7   ih7
  exact key s sm_refl
def W_X5_fewest (c i : Nat) : Prop := c = 110
theorem frst_X5_fewest_35 {s0 : Mem} {N : Nat} {x1 : Int32} {x2 : Int32} {x3 : Int32} {k92 : Mem → Option (Int32 × Mem)} {rec : Int32 → Mem → Option (Int32 × Mem)}  (hk92 : ∀ (y0 : Mem), Sm W_X5_fewest s0 y0 → Fr W_X5_fewest s0 (k92 y0)) (ih : ∀ (y0 : Int32) (y1 : Mem), Sm W_X5_fewest s0 y1 → Fr W_X5_fewest s0 (rec y0 y1)) : ∀ (x4 : Int32) (s : Mem), Sm W_X5_fewest s0 s → Fr W_X5_fewest s0 (st_X5_fewest_35 N x1 x2 x3 k92 rec x4 s) := by
  intro x4 s hm
  unfold st_X5_fewest_35
  refine fr_ite ?_ ?_
  · exact hk92 _ (by assumption)
  · refine fr_chk (fun _ => ?_)
    refine fr_ite ?_ ?_
    · refine fr_lt ?_
      exact ih _ _ (by assumption)
    · refine fr_chk (fun _ => ?_)
      refine fr_chk (fun _ => ?_)
      refine fr_chk (fun _ => ?_)
      refine fr_chk (fun _ => ?_)
      refine fr_si (by assumption) (rfl) (fun _ _ => ?_)
      refine fr_lt ?_
      exact ih _ _ (by assumption)
theorem frst_X5_fewest_13 {s0 : Mem} {N : Nat} {x1 : Int32} {x2 : Int32} {k98 : Mem → Option (Int32 × Mem)} {rec : Int32 → Mem → Option (Int32 × Mem)}  (hk98 : ∀ (y0 : Mem), Sm W_X5_fewest s0 y0 → Fr W_X5_fewest s0 (k98 y0)) (ih : ∀ (y0 : Int32) (y1 : Mem), Sm W_X5_fewest s0 y1 → Fr W_X5_fewest s0 (rec y0 y1)) : ∀ (x3 : Int32) (s : Mem), Sm W_X5_fewest s0 s → Fr W_X5_fewest s0 (st_X5_fewest_13 N x1 x2 k98 rec x3 s) := by
  intro x3 s hm
  unfold st_X5_fewest_13
  refine fr_ite ?_ ?_
  · exact hk98 _ (by assumption)
  · refine fr_ite ?_ ?_
    · exact hk98 _ (by assumption)
    · refine fr_chk (fun _ => ?_)
      refine fr_si (by assumption) (rfl) (fun _ _ => ?_)
      refine itr_ind (Q := fun (f : Int32 → Mem → Option (Int32 × Mem)) => ∀ y0 s, Sm W_X5_fewest s0 s → Fr W_X5_fewest s0 (f y0 s)) (fun _ _ _ => fr_none) (fun _ ih35 => ?_) N _ _ (by assumption)
      refine frst_X5_fewest_35  ?_ ih35
      · intro s6 hm
        refine fr_lt ?_
        exact ih _ _ (by assumption)
theorem fr_X5_fewest (N : Nat) (x1 : Int32) (s : Mem) : Fr W_X5_fewest s (f_X5_fewest N x1 s) := by
  have key : ∀ s0 : Mem, Sm W_X5_fewest s0 s → Fr W_X5_fewest s0 (f_X5_fewest N x1 s) := by
    intro s0 hm
    unfold f_X5_fewest
    refine fr_chk (fun _ => ?_)
    refine fr_si (by assumption) (rfl) (fun _ _ => ?_)
    refine itr_ind (Q := fun (f : Int32 → Mem → Option (Int32 × Mem)) => ∀ y0 s, Sm W_X5_fewest s0 s → Fr W_X5_fewest s0 (f y0 s)) (fun _ _ _ => fr_none) (fun _ ih13 => ?_) N _ _ (by assumption)
    refine frst_X5_fewest_13  ?_ ih13
    · intro s8 hm
      refine fr_chk (fun _ => ?_)
      refine fr_ite ?_ ?_
      · exact fr_some (by assumption)
      · refine fr_chk (fun _ => ?_)
        exact fr_some (by assumption)
  exact key s sm_refl
def W_X5_ways (c i : Nat) : Prop := c = 110
theorem frst_X5_ways_2 {s0 : Mem} {N : Nat} {x1 : Int32} {k35 : Mem → Option (Int32 × Mem)} {rec : Int32 → Mem → Option (Int32 × Mem)}  (hk35 : ∀ (y0 : Mem), Sm W_X5_ways s0 y0 → Fr W_X5_ways s0 (k35 y0)) (ih : ∀ (y0 : Int32) (y1 : Mem), Sm W_X5_ways s0 y1 → Fr W_X5_ways s0 (rec y0 y1)) : ∀ (x2 : Int32) (s : Mem), Sm W_X5_ways s0 s → Fr W_X5_ways s0 (st_X5_ways_2 N x1 k35 rec x2 s) := by
  intro x2 s hm
  unfold st_X5_ways_2
  refine fr_ite ?_ ?_
  · exact hk35 _ (by assumption)
  · refine fr_ite ?_ ?_
    · exact hk35 _ (by assumption)
    · refine fr_ite ?_ ?_
      · refine fr_chk (fun _ => ?_)
        refine fr_si (by assumption) (rfl) (fun _ _ => ?_)
        refine fr_lt ?_
        exact ih _ _ (by assumption)
      · refine fr_chk (fun _ => ?_)
        refine fr_si (by assumption) (rfl) (fun _ _ => ?_)
        refine fr_lt ?_
        exact ih _ _ (by assumption)
theorem frst_X5_ways_52 {s0 : Mem} {N : Nat} {x1 : Int32} {x2 : Int32} {k101 : Mem → Option (Int32 × Mem)} {rec : Int32 → Mem → Option (Int32 × Mem)}  (hk101 : ∀ (y0 : Mem), Sm W_X5_ways s0 y0 → Fr W_X5_ways s0 (k101 y0)) (ih : ∀ (y0 : Int32) (y1 : Mem), Sm W_X5_ways s0 y1 → Fr W_X5_ways s0 (rec y0 y1)) : ∀ (x3 : Int32) (s : Mem), Sm W_X5_ways s0 s → Fr W_X5_ways s0 (st_X5_ways_52 N x1 x2 k101 rec x3 s) := by
  intro x3 s hm
  unfold st_X5_ways_52
  refine fr_ite ?_ ?_
  · exact hk101 _ (by assumption)
  · refine fr_ite ?_ ?_
    · exact hk101 _ (by assumption)
    · refine fr_chk (fun _ => ?_)
      refine fr_chk (fun _ => ?_)
      refine fr_chk (fun _ => ?_)
      refine fr_chk (fun _ => ?_)
      refine fr_si (by assumption) (rfl) (fun _ _ => ?_)
      refine fr_lt ?_
      exact ih _ _ (by assumption)
theorem frst_X5_ways_37 {s0 : Mem} {N : Nat} {x1 : Int32} {rec : Int32 → Mem → Option (Int32 × Mem)}   (ih : ∀ (y0 : Int32) (y1 : Mem), Sm W_X5_ways s0 y1 → Fr W_X5_ways s0 (rec y0 y1)) : ∀ (x2 : Int32) (s : Mem), Sm W_X5_ways s0 s → Fr W_X5_ways s0 (st_X5_ways_37 N x1 rec x2 s) := by
  intro x2 s hm
  unfold st_X5_ways_37
  refine fr_ite ?_ ?_
  · refine fr_chk (fun _ => ?_)
    exact fr_some (by assumption)
  · refine fr_chk (fun _ => ?_)
    refine fr_lt ?_
    refine itr_ind (Q := fun (f : Int32 → Mem → Option (Int32 × Mem)) => ∀ y0 s, Sm W_X5_ways s0 s → Fr W_X5_ways s0 (f y0 s)) (fun _ _ _ => fr_none) (fun _ ih52 => ?_) N _ _ (by assumption)
    refine frst_X5_ways_52  ?_ ih52
    · intro s9 hm
      refine fr_lt ?_
      exact ih _ _ (by assumption)
theorem fr_X5_ways (N : Nat) (x1 : Int32) (s : Mem) : Fr W_X5_ways s (f_X5_ways N x1 s) := by
  have key : ∀ s0 : Mem, Sm W_X5_ways s0 s → Fr W_X5_ways s0 (f_X5_ways N x1 s) := by
    intro s0 hm
    unfold f_X5_ways
    refine itr_ind (Q := fun (f : Int32 → Mem → Option (Int32 × Mem)) => ∀ y0 s, Sm W_X5_ways s0 s → Fr W_X5_ways s0 (f y0 s)) (fun _ _ _ => fr_none) (fun _ ih2 => ?_) N _ _ (by assumption)
    refine frst_X5_ways_2  ?_ ih2
    · intro s5 hm
      refine itr_ind (Q := fun (f : Int32 → Mem → Option (Int32 × Mem)) => ∀ y0 s, Sm W_X5_ways s0 s → Fr W_X5_ways s0 (f y0 s)) (fun _ _ _ => fr_none) (fun _ ih37 => ?_) N _ _ (by assumption)
      refine frst_X5_ways_37   ih37
  exact key s sm_refl
def W_X5_greatestWithin (c i : Nat) : Prop := False
theorem frst_X5_greatestWithin_4 {s0 : Mem} {N : Nat} {x1 : Int32} {rec : Int32 → Int32 → Mem → Option (Int32 × Mem)}   (ih : ∀ (y0 : Int32) (y1 : Int32) (y2 : Mem), Sm W_X5_greatestWithin s0 y2 → Fr W_X5_greatestWithin s0 (rec y0 y1 y2)) : ∀ (x2 : Int32) (x3 : Int32) (s : Mem), Sm W_X5_greatestWithin s0 s → Fr W_X5_greatestWithin s0 (st_X5_greatestWithin_4 N x1 rec x2 x3 s) := by
  intro x2 x3 s hm
  unfold st_X5_greatestWithin_4
  refine fr_ite ?_ ?_
  · exact fr_some (by assumption)
  · refine fr_chk (fun _ => ?_)
    refine fr_ite ?_ ?_
    · refine fr_lt ?_
      exact ih _ _ _ (by assumption)
    · refine fr_chk (fun _ => ?_)
      refine fr_lt ?_
      refine fr_lt ?_
      exact ih _ _ _ (by assumption)
theorem fr_X5_greatestWithin (N : Nat) (x1 : Int32) (s : Mem) : Fr W_X5_greatestWithin s (f_X5_greatestWithin N x1 s) := by
  have key : ∀ s0 : Mem, Sm W_X5_greatestWithin s0 s → Fr W_X5_greatestWithin s0 (f_X5_greatestWithin N x1 s) := by
    intro s0 hm
    unfold f_X5_greatestWithin
    refine itr_ind (Q := fun (f : Int32 → Int32 → Mem → Option (Int32 × Mem)) => ∀ y0 y1 s, Sm W_X5_greatestWithin s0 s → Fr W_X5_greatestWithin s0 (f y0 y1 s)) (fun _ _ _ _ => fr_none) (fun _ ih4 => ?_) N _ _ _ (by assumption)
    refine frst_X5_greatestWithin_4   ih4
  exact key s sm_refl
def W_X5_greatestFirst (c i : Nat) : Prop := W_X5_greatestWithin c i
theorem frst_X5_greatestFirst_7 {s0 : Mem} {N : Nat} {k51 : Int32 → Int32 → Mem → Option (Int32 × Mem)} {rec : Int32 → Int32 → Int32 → Mem → Option (Int32 × Mem)}  (hk51 : ∀ (y0 : Int32) (y1 : Int32) (y2 : Mem), Sm W_X5_greatestFirst s0 y2 → Fr W_X5_greatestFirst s0 (k51 y0 y1 y2)) (ih : ∀ (y0 : Int32) (y1 : Int32) (y2 : Int32) (y3 : Mem), Sm W_X5_greatestFirst s0 y3 → Fr W_X5_greatestFirst s0 (rec y0 y1 y2 y3)) : ∀ (x2 : Int32) (x3 : Int32) (x4 : Int32) (s : Mem), Sm W_X5_greatestFirst s0 s → Fr W_X5_greatestFirst s0 (st_X5_greatestFirst_7 N k51 rec x2 x3 x4 s) := by
  intro x2 x3 x4 s hm
  unfold st_X5_greatestFirst_7
  refine fr_ite ?_ ?_
  · exact hk51 _ _ _ (by assumption)
  · refine fr_ite ?_ ?_
    · exact hk51 _ _ _ (by assumption)
    · refine fr_call (fr_X5_greatestWithin _ _ _) (fun c i h => h) (by assumption) (fun _ _ _ => ?_)
      refine fr_ite ?_ ?_
      · exact fr_some (by assumption)
      · refine fr_ckd ?_
        refine fr_lt ?_
        refine fr_ckd ?_
        refine fr_lt ?_
        refine fr_lt ?_
        exact ih _ _ _ _ (by assumption)
theorem fr_X5_greatestFirst (N : Nat) (x1 : Int32) (s : Mem) : Fr W_X5_greatestFirst s (f_X5_greatestFirst N x1 s) := by
  have key : ∀ s0 : Mem, Sm W_X5_greatestFirst s0 s → Fr W_X5_greatestFirst s0 (f_X5_greatestFirst N x1 s) := by
    intro s0 hm
    unfold f_X5_greatestFirst
    refine itr_ind (Q := fun (f : Int32 → Int32 → Int32 → Mem → Option (Int32 × Mem)) => ∀ y0 y1 y2 s, Sm W_X5_greatestFirst s0 s → Fr W_X5_greatestFirst s0 (f y0 y1 y2 s)) (fun _ _ _ _ _ => fr_none) (fun _ ih7 => ?_) N _ _ _ _ (by assumption)
    refine frst_X5_greatestFirst_7  ?_ ih7
    · intro x2_7 x3_8 s6 hm
      refine fr_ite ?_ ?_
      · exact fr_some (by assumption)
      · exact fr_some (by assumption)
  exact key s sm_refl
def W_X6_handOver (x1 : Nat) (c i : Nat) : Prop := (c = 93 ∧ i = 4)
theorem fr_X6_handOver (N : Nat) (x1 : Nat) (s : Mem) : Fr (W_X6_handOver x1) s (f_X6_handOver N x1 s) := by
  have key : ∀ s0 : Mem, Sm (W_X6_handOver x1) s0 s → Fr (W_X6_handOver x1) s0 (f_X6_handOver N x1 s) := by
    intro s0 hm
    unfold f_X6_handOver
    refine fr_lt ?_
    refine fr_ckc (fun hq_q1 => ?_)
    refine fr_si (by assumption) (⟨rfl, rfl⟩) (fun _ _ => ?_)
    exact fr_some (by assumption)
  exact key s sm_refl
def W_X6_fail (c i : Nat) : Prop := (c = 93 ∧ i = 3)
theorem fr_X6_fail (N : Nat) (x1 : Int32) (s : Mem) : Fr W_X6_fail s (f_X6_fail N x1 s) := by
  have key : ∀ s0 : Mem, Sm W_X6_fail s0 s → Fr W_X6_fail s0 (f_X6_fail N x1 s) := by
    intro s0 hm
    unfold f_X6_fail
    refine fr_ite ?_ ?_
    · refine fr_si (by assumption) (⟨rfl, rfl⟩) (fun _ _ => ?_)
      exact fr_some (by assumption)
    · exact fr_some (by assumption)
  exact key s sm_refl
def W_X6_here (c i : Nat) : Prop := False
theorem fr_X6_here (N : Nat) (s : Mem) : Fr W_X6_here s (f_X6_here N s) := by
  have key : ∀ s0 : Mem, Sm W_X6_here s0 s → Fr W_X6_here s0 (f_X6_here N s) := by
    intro s0 hm
    unfold f_X6_here
    refine fr_ite ?_ ?_
    · exact fr_some (by assumption)
    · refine fr_ite ?_ ?_
      · exact fr_some (by assumption)
      · refine fr_lt ?_
        refine fr_ckc (fun hq_q1 => ?_)
        refine fr_ite ?_ ?_
        · exact fr_some (by assumption)
        · refine fr_lt ?_
          refine fr_ckc (fun hq_q2 => ?_)
          refine fr_chk (fun _ => ?_)
          exact fr_some (by assumption)
  exact key s sm_refl
def W_X6_pass (c i : Nat) : Prop := W_X6_here c i ∨ (c = 93 ∧ i = 2) ∨ W_X6_fail c i
theorem fr_X6_pass (N : Nat) (x1 : Int32) (s : Mem) : Fr W_X6_pass s (f_X6_pass N x1 s) := by
  have key : ∀ s0 : Mem, Sm W_X6_pass s0 s → Fr W_X6_pass s0 (f_X6_pass N x1 s) := by
    intro s0 hm
    unfold f_X6_pass
    refine fr_ite ?_ ?_
    · refine fr_call (fr_X6_here _ _) (fun c i h => Or.inl h) (by assumption) (fun _ _ _ => ?_)
      refine fr_ite ?_ ?_
      · refine fr_si (by assumption) (Or.inr (Or.inl ⟨rfl, rfl⟩)) (fun _ _ => ?_)
        exact fr_some (by assumption)
      · refine fr_call (fr_X6_fail _ _ _) (fun c i h => Or.inr (Or.inr h)) (by assumption) (fun _ _ _ => ?_)
        exact fr_some (by assumption)
    · refine fr_call (fr_X6_fail _ _ _) (fun c i h => Or.inr (Or.inr h)) (by assumption) (fun _ _ _ => ?_)
      exact fr_some (by assumption)
  exact key s sm_refl
def W_J0_isLatin1_aae02 (c i : Nat) : Prop := False
theorem fr_J0_isLatin1_aae02 (N : Nat) (b : Nat) (s : Mem) : Fr W_J0_isLatin1_aae02 s (f_J0_isLatin1_aae02 N b s) := by
  have key : ∀ s0 : Mem, Sm W_J0_isLatin1_aae02 s0 s → Fr W_J0_isLatin1_aae02 s0 (f_J0_isLatin1_aae02 N b s) := by
    intro s0 hm
    unfold f_J0_isLatin1_aae02
    refine fr_ite ?_ ?_
    · exact fr_some (by assumption)
    · refine fr_ite ?_ ?_
      · exact fr_some (by assumption)
      · exact fr_some (by assumption)
  exact key s sm_refl
def W_J0_coder_7d493 (c i : Nat) : Prop := False
theorem fr_J0_coder_7d493 (N : Nat) (b : Nat) (s : Mem) : Fr W_J0_coder_7d493 s (f_J0_coder_7d493 N b s) := by
  have key : ∀ s0 : Mem, Sm W_J0_coder_7d493 s0 s → Fr W_J0_coder_7d493 s0 (f_J0_coder_7d493 N b s) := by
    intro s0 hm
    unfold f_J0_coder_7d493
    refine fr_ite ?_ ?_
    · exact fr_some (by assumption)
    · exact fr_some (by assumption)
  exact key s sm_refl
def W_J0_length_8abf5 (c i : Nat) : Prop := W_J0_coder_7d493 c i
theorem fr_J0_length_8abf5 (N : Nat) (b : Nat) (s : Mem) : Fr W_J0_length_8abf5 s (f_J0_length_8abf5 N b s) := by
  have key : ∀ s0 : Mem, Sm W_J0_length_8abf5 s0 s → Fr W_J0_length_8abf5 s0 (f_J0_length_8abf5 N b s) := by
    intro s0 hm
    unfold f_J0_length_8abf5
    refine fr_call (fr_J0_coder_7d493 _ _ _) (fun c i h => h) (by assumption) (fun _ _ _ => ?_)
    exact fr_some (by assumption)
  exact key s sm_refl
def W_J1_canEncode_9a6ad (c i : Nat) : Prop := False
theorem fr_J1_canEncode_9a6ad (N : Nat) (x0 : Int32) (s : Mem) : Fr W_J1_canEncode_9a6ad s (f_J1_canEncode_9a6ad N x0 s) := by
  have key : ∀ s0 : Mem, Sm W_J1_canEncode_9a6ad s0 s → Fr W_J1_canEncode_9a6ad s0 (f_J1_canEncode_9a6ad N x0 s) := by
    intro s0 hm
    unfold f_J1_canEncode_9a6ad
    refine fr_ite ?_ ?_
    · exact fr_some (by assumption)
    · refine fr_ite ?_ ?_
      · exact fr_some (by assumption)
      · exact fr_some (by assumption)
  exact key s sm_refl
def W_J1_indexOfChar_4cfef (c i : Nat) : Prop := False
theorem frst_J1_indexOfChar_4cfef_7 {s0 : Mem} {N : Nat} {x0 : Nat} {x3 : Int32} {x4 : Int32} {rec : Int32 → Mem → Option (Int32 × Mem)}   (ih : ∀ (y0 : Int32) (y1 : Mem), Sm W_J1_indexOfChar_4cfef s0 y1 → Fr W_J1_indexOfChar_4cfef s0 (rec y0 y1)) : ∀ (x5 : Int32) (s : Mem), Sm W_J1_indexOfChar_4cfef s0 s → Fr W_J1_indexOfChar_4cfef s0 (st_J1_indexOfChar_4cfef_7 N x0 x3 x4 rec x5 s) := by
  intro x5 s hm
  unfold st_J1_indexOfChar_4cfef_7
  refine fr_ite ?_ ?_
  · exact fr_some (by assumption)
  · refine fr_chk (fun _ => ?_)
    refine fr_ite ?_ ?_
    · exact fr_some (by assumption)
    · refine fr_lt ?_
      exact ih _ _ (by assumption)
theorem fr_J1_indexOfChar_4cfef (N : Nat) (x0 : Nat) (x1 : Int32) (x2 : Int32) (x3 : Int32) (s : Mem) : Fr W_J1_indexOfChar_4cfef s (f_J1_indexOfChar_4cfef N x0 x1 x2 x3 s) := by
  have key : ∀ s0 : Mem, Sm W_J1_indexOfChar_4cfef s0 s → Fr W_J1_indexOfChar_4cfef s0 (f_J1_indexOfChar_4cfef N x0 x1 x2 x3 s) := by
    intro s0 hm
    unfold f_J1_indexOfChar_4cfef
    refine fr_lt ?_
    refine itr_ind (Q := fun (f : Int32 → Mem → Option (Int32 × Mem)) => ∀ y0 s, Sm W_J1_indexOfChar_4cfef s0 s → Fr W_J1_indexOfChar_4cfef s0 (f y0 s)) (fun _ _ _ => fr_none) (fun _ ih7 => ?_) N _ _ (by assumption)
    refine frst_J1_indexOfChar_4cfef_7   ih7
  exact key s sm_refl
def W_J1_indexOf_4cfef (c i : Nat) : Prop := W_J1_canEncode_9a6ad c i ∨ W_J1_indexOfChar_4cfef c i
theorem fr_J1_indexOf_4cfef (N : Nat) (x0 : Nat) (x1 : Int32) (x2 : Int32) (x3 : Int32) (s : Mem) : Fr W_J1_indexOf_4cfef s (f_J1_indexOf_4cfef N x0 x1 x2 x3 s) := by
  have key : ∀ s0 : Mem, Sm W_J1_indexOf_4cfef s0 s → Fr W_J1_indexOf_4cfef s0 (f_J1_indexOf_4cfef N x0 x1 x2 x3 s) := by
    intro s0 hm
    unfold f_J1_indexOf_4cfef
    refine fr_call (fr_J1_canEncode_9a6ad _ _ _) (fun c i h => Or.inl h) (by assumption) (fun _ _ _ => ?_)
    refine fr_ite ?_ ?_
    · exact fr_some (by assumption)
    · refine fr_lt ?_
      refine fr_lt ?_
      refine fr_ite ?_ ?_
      · refine fr_call (fr_J1_indexOfChar_4cfef _ _ _ _ _ _) (fun c i h => Or.inr h) (by assumption) (fun _ _ _ => ?_)
        exact fr_some (by assumption)
      · exact fr_some (by assumption)
  exact key s sm_refl
def W_J0_indexOf_7cf53 (c i : Nat) : Prop := W_J0_isLatin1_aae02 c i ∨ W_J0_length_8abf5 c i ∨ W_J1_indexOf_4cfef c i
theorem fr_J0_indexOf_7cf53 (N : Nat) (b : Nat) (x1 : Int32) (x2 : Int32) (s : Mem) : Fr W_J0_indexOf_7cf53 s (f_J0_indexOf_7cf53 N b x1 x2 s) := by
  have key : ∀ s0 : Mem, Sm W_J0_indexOf_7cf53 s0 s → Fr W_J0_indexOf_7cf53 s0 (f_J0_indexOf_7cf53 N b x1 x2 s) := by
    intro s0 hm
    unfold f_J0_indexOf_7cf53
    refine fr_call (fr_J0_isLatin1_aae02 _ _ _) (fun c i h => Or.inl h) (by assumption) (fun _ _ _ => ?_)
    refine fr_ite ?_ ?_
    · exact fr_none
    · refine fr_call (fr_J0_length_8abf5 _ _ _) (fun c i h => Or.inr (Or.inl h)) (by assumption) (fun _ _ _ => ?_)
      refine fr_call (fr_J1_indexOf_4cfef _ _ _ _ _ _) (fun c i h => Or.inr (Or.inr h)) (by assumption) (fun _ _ _ => ?_)
      exact fr_some (by assumption)
  exact key s sm_refl
def W_J0_indexOf_0f7a4 (c i : Nat) : Prop := W_J0_indexOf_7cf53 c i
theorem fr_J0_indexOf_0f7a4 (N : Nat) (b : Nat) (x1 : Int32) (s : Mem) : Fr W_J0_indexOf_0f7a4 s (f_J0_indexOf_0f7a4 N b x1 s) := by
  have key : ∀ s0 : Mem, Sm W_J0_indexOf_0f7a4 s0 s → Fr W_J0_indexOf_0f7a4 s0 (f_J0_indexOf_0f7a4 N b x1 s) := by
    intro s0 hm
    unfold f_J0_indexOf_0f7a4
    refine fr_call (fr_J0_indexOf_7cf53 _ _ _ _ _) (fun c i h => h) (by assumption) (fun _ _ _ => ?_)
    exact fr_some (by assumption)
  exact key s sm_refl
def W_X6_isOf (c i : Nat) : Prop := W_J0_indexOf_0f7a4 c i
theorem fr_X6_isOf (N : Nat) (x0 : Nat) (x1 : Int32) (s : Mem) : Fr W_X6_isOf s (f_X6_isOf N x0 x1 s) := by
  have key : ∀ s0 : Mem, Sm W_X6_isOf s0 s → Fr W_X6_isOf s0 (f_X6_isOf N x0 x1 s) := by
    intro s0 hm
    unfold f_X6_isOf
    refine fr_ite ?_ ?_
    · exact fr_some (by assumption)
    · refine fr_call (fr_J0_indexOf_0f7a4 _ _ _ _) (fun c i h => h) (by assumption) (fun _ _ _ => ?_)
      refine fr_ite ?_ ?_
      · exact fr_some (by assumption)
      · exact fr_some (by assumption)
  exact key s sm_refl
def W_X9_isDigit (c i : Nat) : Prop := False
theorem fr_X9_isDigit (N : Nat) (x0 : Int32) (s : Mem) : Fr W_X9_isDigit s (f_X9_isDigit N x0 s) := by
  have key : ∀ s0 : Mem, Sm W_X9_isDigit s0 s → Fr W_X9_isDigit s0 (f_X9_isDigit N x0 s) := by
    intro s0 hm
    unfold f_X9_isDigit
    refine fr_ite ?_ ?_
    · exact fr_some (by assumption)
    · refine fr_ite ?_ ?_
      · exact fr_some (by assumption)
      · exact fr_some (by assumption)
  exact key s sm_refl
def W_X6_readSum (c i : Nat) : Prop := W_X6_here c i ∨ W_X6_isOf c i ∨ (c = 93 ∧ i = 2) ∨ W_X4_add 77 c i ∨ W_X4_add 85 c i ∨ W_X6_pass c i ∨ W_X9_isDigit c i ∨ W_X6_fail c i
abbrev W_X6_readFactor (c i : Nat) : Prop := W_X6_readSum c i
theorem frst_X6_readSum_42 {s0 : Mem} {N : Nat} {g0 : Int32 → Int32 → Mem → Option (Unit × Mem)} {g1 : Int32 → Mem → Option (Unit × Mem)} {x1 : Int32} {x2 : Int32} {x3 : Nat} {rec : Int32 → Mem → Option (Unit × Mem)} (hg0 : ∀ (y0 : Int32) (y1 : Int32) (s : Mem), Sm W_X6_readSum s0 s → Fr W_X6_readSum s0 (g0 y0 y1 s)) (hg1 : ∀ (y0 : Int32) (s : Mem), Sm W_X6_readSum s0 s → Fr W_X6_readSum s0 (g1 y0 s))  (ih : ∀ (y0 : Int32) (y1 : Mem), Sm W_X6_readSum s0 y1 → Fr W_X6_readSum s0 (rec y0 y1)) : ∀ (x4 : Int32) (s : Mem), Sm W_X6_readSum s0 s → Fr W_X6_readSum s0 (st_X6_readSum_42 N g0 g1 x1 x2 x3 rec x4 s) := by
  intro x4 s hm
  unfold st_X6_readSum_42
  refine fr_ite ?_ ?_
  · exact fr_some (by assumption)
  · refine fr_ite ?_ ?_
    · refine fr_call (fr_X6_here _ _) (fun c i h => Or.inl h) (by assumption) (fun _ _ _ => ?_)
      refine fr_call (fr_X6_isOf _ _ _ _) (fun c i h => Or.inr (Or.inl h)) (by assumption) (fun _ _ _ => ?_)
      refine fr_ite ?_ ?_
      · exact fr_some (by assumption)
      · refine fr_call (fr_X6_here _ _) (fun c i h => Or.inl h) (by assumption) (fun _ _ _ => ?_)
        refine fr_si (by assumption) (Or.inr (Or.inr (Or.inl ⟨rfl, rfl⟩))) (fun _ _ => ?_)
        refine fr_bd (by first | exact hg0 _ _ _ (by assumption)) (fun _ _ _ => ?_)
        refine fr_lt ?_
        refine fr_ckc (fun hq_q14 => ?_)
        refine fr_call (fr_X4_add _ _ _ _) (isLw_cases hq_q14 (fun z => ∀ c i, W_X4_add z c i → W_X6_readSum c i) (fun c i h => Or.inr (Or.inr (Or.inr (Or.inl h)))) (fun c i h => Or.inr (Or.inr (Or.inr (Or.inr (Or.inl h)))))) (by assumption) (fun _ _ _ => ?_)
        refine fr_lt ?_
        exact ih _ _ (by assumption)
    · exact fr_some (by assumption)
theorem frst_X6_readFactor_101 {s0 : Mem} {N : Nat} {g0 : Int32 → Int32 → Mem → Option (Unit × Mem)} {g1 : Int32 → Mem → Option (Unit × Mem)} {k146 : Int32 → Mem → Option (Unit × Mem)} {rec : Int32 → Int32 → Mem → Option (Unit × Mem)} (hg0 : ∀ (y0 : Int32) (y1 : Int32) (s : Mem), Sm W_X6_readSum s0 s → Fr W_X6_readSum s0 (g0 y0 y1 s)) (hg1 : ∀ (y0 : Int32) (s : Mem), Sm W_X6_readSum s0 s → Fr W_X6_readSum s0 (g1 y0 s)) (hk146 : ∀ (y0 : Int32) (y1 : Mem), Sm W_X6_readSum s0 y1 → Fr W_X6_readSum s0 (k146 y0 y1)) (ih : ∀ (y0 : Int32) (y1 : Int32) (y2 : Mem), Sm W_X6_readSum s0 y2 → Fr W_X6_readSum s0 (rec y0 y1 y2)) : ∀ (x3 : Int32) (x4 : Int32) (s : Mem), Sm W_X6_readSum s0 s → Fr W_X6_readSum s0 (st_X6_readFactor_101 N g0 g1 k146 rec x3 x4 s) := by
  intro x3 x4 s hm
  unfold st_X6_readFactor_101
  refine fr_ite ?_ ?_
  · exact hk146 _ _ (by assumption)
  · refine fr_call (fr_X6_here _ _) (fun c i h => Or.inl h) (by assumption) (fun _ _ _ => ?_)
    refine fr_call (fr_X9_isDigit _ _ _) (fun c i h => Or.inr (Or.inr (Or.inr (Or.inr (Or.inr (Or.inr (Or.inl h))))))) (by assumption) (fun _ _ _ => ?_)
    refine fr_ite ?_ ?_
    · exact hk146 _ _ (by assumption)
    · refine fr_call (fr_X6_here _ _) (fun c i h => Or.inl h) (by assumption) (fun _ _ _ => ?_)
      refine fr_lt ?_
      refine fr_si (by assumption) (Or.inr (Or.inr (Or.inl ⟨rfl, rfl⟩))) (fun _ _ => ?_)
      refine fr_lt ?_
      exact ih _ _ _ (by assumption)
theorem fr1_X6_readSum {s0 : Mem} (N : Nat) (g0 : Int32 → Int32 → Mem → Option (Unit × Mem)) (g1 : Int32 → Mem → Option (Unit × Mem)) (x1 : Int32) (x2 : Int32) (hg0 : ∀ (y0 : Int32) (y1 : Int32) (s : Mem), Sm W_X6_readSum s0 s → Fr W_X6_readSum s0 (g0 y0 y1 s)) (hg1 : ∀ (y0 : Int32) (s : Mem), Sm W_X6_readSum s0 s → Fr W_X6_readSum s0 (g1 y0 s)) : ∀ (s : Mem), Sm W_X6_readSum s0 s → Fr W_X6_readSum s0 (f1_X6_readSum N g0 g1 x1 x2 s) := by
  intro s hm
  unfold f1_X6_readSum
  refine fr_ite ?_ ?_
  · refine fr_ite ?_ ?_
    · refine fr_join (fun j => ∀ (t2 : Nat) (s1 : Mem), Sm W_X6_readSum s0 s1 → Fr W_X6_readSum s0 (j t2 s1)) (fun t2 s1 hm => ?_) (fun j30 hj30 => ?_)
      · refine fr_bd (by first | exact hg0 _ _ _ (by assumption)) (fun _ _ _ => ?_)
        refine itr_ind (Q := fun (f : Int32 → Mem → Option (Unit × Mem)) => ∀ y0 s, Sm W_X6_readSum s0 s → Fr W_X6_readSum s0 (f y0 s)) (fun _ _ _ => fr_none) (fun _ ih42 => ?_) N _ _ (by assumption)
        refine frst_X6_readSum_42 hg0 hg1  ih42
      · refine fr_ite ?_ ?_
        · exact hj30 _ _ (by assumption)
        · exact hj30 _ _ (by assumption)
    · refine fr_bd (by first | exact hg1 _ _ (by assumption)) (fun _ _ _ => ?_)
      exact fr_some (by assumption)
  · exact fr_some (by assumption)
theorem fr1_X6_readFactor {s0 : Mem} (N : Nat) (g0 : Int32 → Int32 → Mem → Option (Unit × Mem)) (g1 : Int32 → Mem → Option (Unit × Mem)) (x1 : Int32) (hg0 : ∀ (y0 : Int32) (y1 : Int32) (s : Mem), Sm W_X6_readSum s0 s → Fr W_X6_readSum s0 (g0 y0 y1 s)) (hg1 : ∀ (y0 : Int32) (s : Mem), Sm W_X6_readSum s0 s → Fr W_X6_readSum s0 (g1 y0 s)) : ∀ (s : Mem), Sm W_X6_readSum s0 s → Fr W_X6_readSum s0 (f1_X6_readFactor N g0 g1 x1 s) := by
  intro s hm
  unfold f1_X6_readFactor
  refine fr_call (fr_X6_here _ _) (fun c i h => Or.inl h) (by assumption) (fun _ _ _ => ?_)
  refine fr_call (fr_X6_isOf _ _ _ _) (fun c i h => Or.inr (Or.inl h)) (by assumption) (fun _ _ _ => ?_)
  refine fr_ite ?_ ?_
  · refine fr_join (fun j => ∀ (s5 : Mem), Sm W_X6_readSum s0 s5 → Fr W_X6_readSum s0 (j s5)) (fun s5 hm => ?_) (fun j56 hj56 => ?_)
    · refine fr_ite ?_ ?_
      · refine fr_si (by assumption) (Or.inr (Or.inr (Or.inl ⟨rfl, rfl⟩))) (fun _ _ => ?_)
        refine fr_bd (by first | exact hg0 _ _ _ (by assumption)) (fun _ _ _ => ?_)
        refine fr_call (fr_X6_pass _ _ _) (fun c i h => Or.inr (Or.inr (Or.inr (Or.inr (Or.inr (Or.inl h)))))) (by assumption) (fun _ _ _ => ?_)
        exact fr_some (by assumption)
      · refine fr_call (fr_X9_isDigit _ _ _) (fun c i h => Or.inr (Or.inr (Or.inr (Or.inr (Or.inr (Or.inr (Or.inl h))))))) (by assumption) (fun _ _ _ => ?_)
        refine fr_ite ?_ ?_
        · refine fr_call (fr_X6_fail _ _ _) (fun c i h => Or.inr (Or.inr (Or.inr (Or.inr (Or.inr (Or.inr (Or.inr h))))))) (by assumption) (fun _ _ _ => ?_)
          exact fr_some (by assumption)
        · refine itr_ind (Q := fun (f : Int32 → Int32 → Mem → Option (Unit × Mem)) => ∀ y0 y1 s, Sm W_X6_readSum s0 s → Fr W_X6_readSum s0 (f y0 y1 s)) (fun _ _ _ _ => fr_none) (fun _ ih101 => ?_) N _ _ _ (by assumption)
          refine frst_X6_readFactor_101 hg0 hg1 ?_ ih101
          · intro x3_20 s19 hm
            refine fr_lt ?_
            refine fr_ckc (fun hq_q21 => ?_)
            refine fr_call (fr_X4_add _ _ _ _) (isLw_cases hq_q21 (fun z => ∀ c i, W_X4_add z c i → W_X6_readSum c i) (fun c i h => Or.inr (Or.inr (Or.inr (Or.inl h)))) (fun c i h => Or.inr (Or.inr (Or.inr (Or.inr (Or.inl h)))))) (by assumption) (fun _ _ _ => ?_)
            refine fr_call (fr_X6_here _ _) (fun c i h => Or.inl h) (by assumption) (fun _ _ _ => ?_)
            refine fr_call (fr_X9_isDigit _ _ _) (fun c i h => Or.inr (Or.inr (Or.inr (Or.inr (Or.inr (Or.inr (Or.inl h))))))) (by assumption) (fun _ _ _ => ?_)
            refine fr_ite ?_ ?_
            · exact fr_some (by assumption)
            · refine fr_call (fr_X6_fail _ _ _) (fun c i h => Or.inr (Or.inr (Or.inr (Or.inr (Or.inr (Or.inr (Or.inr h))))))) (by assumption) (fun _ _ _ => ?_)
              exact fr_some (by assumption)
    · refine fr_ite ?_ ?_
      · refine fr_ite ?_ ?_
        · exact hj56 _ (by assumption)
        · refine fr_call (fr_X6_fail _ _ _) (fun c i h => Or.inr (Or.inr (Or.inr (Or.inr (Or.inr (Or.inr (Or.inr h))))))) (by assumption) (fun _ _ _ => ?_)
          exact fr_some (by assumption)
      · exact hj56 _ (by assumption)
  · refine fr_si (by assumption) (Or.inr (Or.inr (Or.inl ⟨rfl, rfl⟩))) (fun _ _ => ?_)
    refine fr_lt ?_
    refine fr_ckc (fun hq_q38 => ?_)
    refine fr_call (fr_X4_add _ _ _ _) (isLw_cases hq_q38 (fun z => ∀ c i, W_X4_add z c i → W_X6_readSum c i) (fun c i h => Or.inr (Or.inr (Or.inr (Or.inl h)))) (fun c i h => Or.inr (Or.inr (Or.inr (Or.inr (Or.inl h)))))) (by assumption) (fun _ _ _ => ?_)
    exact fr_some (by assumption)
theorem frg_X6_readSum (N n : Nat) {s0 : Mem} : (fun (r : (Int32 → Int32 → Mem → Option (Unit × Mem)) × (Int32 → Mem → Option (Unit × Mem))) => (∀ (y0 : Int32) (y1 : Int32) (s : Mem), Sm W_X6_readSum s0 s → Fr W_X6_readSum s0 (r.1 y0 y1 s)) ∧ (∀ (y0 : Int32) (s : Mem), Sm W_X6_readSum s0 s → Fr W_X6_readSum s0 (r.2 y0 s))) (gr_X6_readSum N n) := by
  unfold gr_X6_readSum
  refine itr_ind (Q := fun (r : (Int32 → Int32 → Mem → Option (Unit × Mem)) × (Int32 → Mem → Option (Unit × Mem))) => (∀ (y0 : Int32) (y1 : Int32) (s : Mem), Sm W_X6_readSum s0 s → Fr W_X6_readSum s0 (r.1 y0 y1 s)) ∧ (∀ (y0 : Int32) (s : Mem), Sm W_X6_readSum s0 s → Fr W_X6_readSum s0 (r.2 y0 s))) ?_ ?_ n
  · exact ⟨(fun _ _ _ _ => fr_none), (fun _ _ _ => fr_none)⟩
  · intro r ih
    exact ⟨(fun y0 y1 s hm => fr1_X6_readSum N r.1 r.2 y0 y1 ih.1 ih.2 s hm), (fun y0 s hm => fr1_X6_readFactor N r.1 r.2 y0 ih.1 ih.2 s hm)⟩
theorem fr_X6_readSum (N n : Nat) (x1 : Int32) (x2 : Int32) (s : Mem) : Fr W_X6_readSum s (f_X6_readSum N n x1 x2 s) := (frg_X6_readSum N n).1 x1 x2 s sm_refl
theorem fr_X6_readFactor (N n : Nat) (x1 : Int32) (s : Mem) : Fr W_X6_readSum s (f_X6_readFactor N n x1 s) := (frg_X6_readSum N n).2 x1 s sm_refl
def W_X6_readCondition (c i : Nat) : Prop := W_X6_here c i ∨ (c = 93 ∧ i = 2) ∨ W_X4_add 77 c i ∨ W_X4_add 85 c i ∨ W_X6_pass c i ∨ W_X6_readSum c i ∨ W_X6_isOf c i ∨ W_X6_fail c i
abbrev W_X6_readTest (c i : Nat) : Prop := W_X6_readCondition c i
theorem frst_X6_readCondition_42 {s0 : Mem} {N : Nat} {g0 : Int32 → Int32 → Mem → Option (Unit × Mem)} {g1 : Int32 → Mem → Option (Unit × Mem)} {x1 : Int32} {x2 : Int32} {x3 : Int32} {rec : Int32 → Mem → Option (Unit × Mem)} (hg0 : ∀ (y0 : Int32) (y1 : Int32) (s : Mem), Sm W_X6_readCondition s0 s → Fr W_X6_readCondition s0 (g0 y0 y1 s)) (hg1 : ∀ (y0 : Int32) (s : Mem), Sm W_X6_readCondition s0 s → Fr W_X6_readCondition s0 (g1 y0 s))  (ih : ∀ (y0 : Int32) (y1 : Mem), Sm W_X6_readCondition s0 y1 → Fr W_X6_readCondition s0 (rec y0 y1)) : ∀ (x4 : Int32) (s : Mem), Sm W_X6_readCondition s0 s → Fr W_X6_readCondition s0 (st_X6_readCondition_42 N g0 g1 x1 x2 x3 rec x4 s) := by
  intro x4 s hm
  unfold st_X6_readCondition_42
  refine fr_ite ?_ ?_
  · exact fr_some (by assumption)
  · refine fr_ite ?_ ?_
    · refine fr_call (fr_X6_here _ _) (fun c i h => Or.inl h) (by assumption) (fun _ _ _ => ?_)
      refine fr_ite ?_ ?_
      · refine fr_si (by assumption) (Or.inr (Or.inl ⟨rfl, rfl⟩)) (fun _ _ => ?_)
        refine fr_bd (by first | exact hg0 _ _ _ (by assumption)) (fun _ _ _ => ?_)
        refine fr_lt ?_
        refine fr_ckc (fun hq_q10 => ?_)
        refine fr_call (fr_X4_add _ _ _ _) (isLw_cases hq_q10 (fun z => ∀ c i, W_X4_add z c i → W_X6_readCondition c i) (fun c i h => Or.inr (Or.inr (Or.inl h))) (fun c i h => Or.inr (Or.inr (Or.inr (Or.inl h))))) (by assumption) (fun _ _ _ => ?_)
        refine fr_lt ?_
        exact ih _ _ (by assumption)
      · exact fr_some (by assumption)
    · exact fr_some (by assumption)
theorem fr1_X6_readCondition {s0 : Mem} (N : Nat) (g0 : Int32 → Int32 → Mem → Option (Unit × Mem)) (g1 : Int32 → Mem → Option (Unit × Mem)) (x1 : Int32) (x2 : Int32) (hg0 : ∀ (y0 : Int32) (y1 : Int32) (s : Mem), Sm W_X6_readCondition s0 s → Fr W_X6_readCondition s0 (g0 y0 y1 s)) (hg1 : ∀ (y0 : Int32) (s : Mem), Sm W_X6_readCondition s0 s → Fr W_X6_readCondition s0 (g1 y0 s)) : ∀ (s : Mem), Sm W_X6_readCondition s0 s → Fr W_X6_readCondition s0 (f1_X6_readCondition N g0 g1 x1 x2 s) := by
  intro s hm
  unfold f1_X6_readCondition
  refine fr_ite ?_ ?_
  · refine fr_ite ?_ ?_
    · refine fr_join (fun j => ∀ (t2 : Int32) (s1 : Mem), Sm W_X6_readCondition s0 s1 → Fr W_X6_readCondition s0 (j t2 s1)) (fun t2 s1 hm => ?_) (fun j30 hj30 => ?_)
      · refine fr_bd (by first | exact hg0 _ _ _ (by assumption)) (fun _ _ _ => ?_)
        refine itr_ind (Q := fun (f : Int32 → Mem → Option (Unit × Mem)) => ∀ y0 s, Sm W_X6_readCondition s0 s → Fr W_X6_readCondition s0 (f y0 s)) (fun _ _ _ => fr_none) (fun _ ih42 => ?_) N _ _ (by assumption)
        refine frst_X6_readCondition_42 hg0 hg1  ih42
      · refine fr_ite ?_ ?_
        · exact hj30 _ _ (by assumption)
        · exact hj30 _ _ (by assumption)
    · refine fr_bd (by first | exact hg1 _ _ (by assumption)) (fun _ _ _ => ?_)
      exact fr_some (by assumption)
  · exact fr_some (by assumption)
theorem fr1_X6_readTest {s0 : Mem} (N : Nat) (g0 : Int32 → Int32 → Mem → Option (Unit × Mem)) (g1 : Int32 → Mem → Option (Unit × Mem)) (x1 : Int32) (hg0 : ∀ (y0 : Int32) (y1 : Int32) (s : Mem), Sm W_X6_readCondition s0 s → Fr W_X6_readCondition s0 (g0 y0 y1 s)) (hg1 : ∀ (y0 : Int32) (s : Mem), Sm W_X6_readCondition s0 s → Fr W_X6_readCondition s0 (g1 y0 s)) : ∀ (s : Mem), Sm W_X6_readCondition s0 s → Fr W_X6_readCondition s0 (f1_X6_readTest N g0 g1 x1 s) := by
  intro s hm
  unfold f1_X6_readTest
  refine fr_call (fr_X6_here _ _) (fun c i h => Or.inl h) (by assumption) (fun _ _ _ => ?_)
  refine fr_join (fun j => ∀ (t4 : Int32) (s3 : Mem), Sm W_X6_readCondition s0 s3 → Fr W_X6_readCondition s0 (j t4 s3)) (fun t4 s3 hm => ?_) (fun j22 hj22 => ?_)
  · refine fr_join (fun j => ∀ (s5 : Mem), Sm W_X6_readCondition s0 s5 → Fr W_X6_readCondition s0 (j s5)) (fun s5 hm => ?_) (fun j41 hj41 => ?_)
    · refine fr_ite ?_ ?_
      · refine fr_si (by assumption) (Or.inr (Or.inl ⟨rfl, rfl⟩)) (fun _ _ => ?_)
        refine fr_bd (by first | exact hg0 _ _ _ (by assumption)) (fun _ _ _ => ?_)
        refine fr_lt ?_
        refine fr_ckc (fun hq_q30 => ?_)
        refine fr_call (fr_X4_add _ _ _ _) (isLw_cases hq_q30 (fun z => ∀ c i, W_X4_add z c i → W_X6_readCondition c i) (fun c i h => Or.inr (Or.inr (Or.inl h))) (fun c i h => Or.inr (Or.inr (Or.inr (Or.inl h))))) (by assumption) (fun _ _ _ => ?_)
        exact fr_some (by assumption)
      · refine fr_ite ?_ ?_
        · refine fr_si (by assumption) (Or.inr (Or.inl ⟨rfl, rfl⟩)) (fun _ _ => ?_)
          refine fr_bd (by first | exact hg0 _ _ _ (by assumption)) (fun _ _ _ => ?_)
          refine fr_call (fr_X6_pass _ _ _) (fun c i h => Or.inr (Or.inr (Or.inr (Or.inr (Or.inl h))))) (by assumption) (fun _ _ _ => ?_)
          exact fr_some (by assumption)
        · refine fr_call (fr_X6_readSum _ _ _ _ _) (fun c i h => Or.inr (Or.inr (Or.inr (Or.inr (Or.inr (Or.inl h)))))) (by assumption) (fun _ _ _ => ?_)
          refine fr_call (fr_X6_here _ _) (fun c i h => Or.inl h) (by assumption) (fun _ _ _ => ?_)
          refine fr_ite ?_ ?_
          · refine fr_call (fr_X6_isOf _ _ _ _) (fun c i h => Or.inr (Or.inr (Or.inr (Or.inr (Or.inr (Or.inr (Or.inl h))))))) (by assumption) (fun _ _ _ => ?_)
            refine fr_ite ?_ ?_
            · refine fr_call (fr_X6_fail _ _ _) (fun c i h => Or.inr (Or.inr (Or.inr (Or.inr (Or.inr (Or.inr (Or.inr h))))))) (by assumption) (fun _ _ _ => ?_)
              exact fr_some (by assumption)
            · refine fr_si (by assumption) (Or.inr (Or.inl ⟨rfl, rfl⟩)) (fun _ _ => ?_)
              refine fr_call (fr_X6_readSum _ _ _ _ _) (fun c i h => Or.inr (Or.inr (Or.inr (Or.inr (Or.inr (Or.inl h)))))) (by assumption) (fun _ _ _ => ?_)
              refine fr_lt ?_
              refine fr_ckc (fun hq_q17 => ?_)
              refine fr_call (fr_X4_add _ _ _ _) (isLw_cases hq_q17 (fun z => ∀ c i, W_X4_add z c i → W_X6_readCondition c i) (fun c i h => Or.inr (Or.inr (Or.inl h))) (fun c i h => Or.inr (Or.inr (Or.inr (Or.inl h))))) (by assumption) (fun _ _ _ => ?_)
              exact fr_some (by assumption)
          · refine fr_call (fr_X6_fail _ _ _) (fun c i h => Or.inr (Or.inr (Or.inr (Or.inr (Or.inr (Or.inr (Or.inr h))))))) (by assumption) (fun _ _ _ => ?_)
            exact fr_some (by assumption)
    · refine fr_ite ?_ ?_
      · exact hj41 _ (by assumption)
      · refine fr_ite ?_ ?_
        · exact hj41 _ (by assumption)
        · refine fr_call (fr_X6_fail _ _ _) (fun c i h => Or.inr (Or.inr (Or.inr (Or.inr (Or.inr (Or.inr (Or.inr h))))))) (by assumption) (fun _ _ _ => ?_)
          exact fr_some (by assumption)
  · refine fr_ite ?_ ?_
    · exact hj22 _ _ (by assumption)
    · refine fr_ite ?_ ?_
      · exact hj22 _ _ (by assumption)
      · exact hj22 _ _ (by assumption)
theorem frg_X6_readCondition (N n : Nat) {s0 : Mem} : (fun (r : (Int32 → Int32 → Mem → Option (Unit × Mem)) × (Int32 → Mem → Option (Unit × Mem))) => (∀ (y0 : Int32) (y1 : Int32) (s : Mem), Sm W_X6_readCondition s0 s → Fr W_X6_readCondition s0 (r.1 y0 y1 s)) ∧ (∀ (y0 : Int32) (s : Mem), Sm W_X6_readCondition s0 s → Fr W_X6_readCondition s0 (r.2 y0 s))) (gr_X6_readCondition N n) := by
  unfold gr_X6_readCondition
  refine itr_ind (Q := fun (r : (Int32 → Int32 → Mem → Option (Unit × Mem)) × (Int32 → Mem → Option (Unit × Mem))) => (∀ (y0 : Int32) (y1 : Int32) (s : Mem), Sm W_X6_readCondition s0 s → Fr W_X6_readCondition s0 (r.1 y0 y1 s)) ∧ (∀ (y0 : Int32) (s : Mem), Sm W_X6_readCondition s0 s → Fr W_X6_readCondition s0 (r.2 y0 s))) ?_ ?_ n
  · exact ⟨(fun _ _ _ _ => fr_none), (fun _ _ _ => fr_none)⟩
  · intro r ih
    exact ⟨(fun y0 y1 s hm => fr1_X6_readCondition N r.1 r.2 y0 y1 ih.1 ih.2 s hm), (fun y0 s hm => fr1_X6_readTest N r.1 r.2 y0 ih.1 ih.2 s hm)⟩
theorem fr_X6_readCondition (N n : Nat) (x1 : Int32) (x2 : Int32) (s : Mem) : Fr W_X6_readCondition s (f_X6_readCondition N n x1 x2 s) := (frg_X6_readCondition N n).1 x1 x2 s sm_refl
theorem fr_X6_readTest (N n : Nat) (x1 : Int32) (s : Mem) : Fr W_X6_readCondition s (f_X6_readTest N n x1 s) := (frg_X6_readCondition N n).2 x1 s sm_refl
def W_X6_readRule (c i : Nat) : Prop := W_X6_here c i ∨ W_X6_isOf c i ∨ W_X6_fail c i ∨ (c = 93 ∧ i = 2) ∨ (c = 77 ∧ i = 0) ∨ (c = 85 ∧ i = 0) ∨ c = (77 + 1) ∨ c = (85 + 1) ∨ c = (77 + 2) ∨ c = (85 + 2) ∨ c = (77 + 3) ∨ c = (85 + 3) ∨ W_X6_pass c i ∨ W_X6_readCondition c i ∨ c = (77 + 4) ∨ c = (85 + 4) ∨ W_X6_readSum c i
theorem fr_X6_readRule (N : Nat) (x1 : Int32) (s : Mem) : Fr W_X6_readRule s (f_X6_readRule N x1 s) := by
  have key : ∀ s0 : Mem, Sm W_X6_readRule s0 s → Fr W_X6_readRule s0 (f_X6_readRule N x1 s) := by
    intro s0 hm
    unfold f_X6_readRule
    refine fr_call (fr_X6_here _ _) (fun c i h => Or.inl h) (by assumption) (fun _ _ _ => ?_)
    refine fr_ite ?_ ?_
    · refine fr_call (fr_X6_isOf _ _ _ _) (fun c i h => Or.inr (Or.inl h)) (by assumption) (fun _ _ _ => ?_)
      refine fr_ite ?_ ?_
      · refine fr_call (fr_X6_fail _ _ _) (fun c i h => Or.inr (Or.inr (Or.inl h))) (by assumption) (fun _ _ _ => ?_)
        exact fr_some (by assumption)
      · refine fr_ite ?_ ?_
        · refine fr_si (by assumption) (Or.inr (Or.inr (Or.inr (Or.inl ⟨rfl, rfl⟩)))) (fun _ _ => ?_)
          refine fr_lt ?_
          refine fr_ckc (fun hq_q8 => ?_)
          refine fr_si (by assumption) (isLw_cases hq_q8 (fun q8 => W_X6_readRule q8 0) (Or.inr (Or.inr (Or.inr (Or.inr (Or.inl ⟨rfl, rfl⟩))))) (Or.inr (Or.inr (Or.inr (Or.inr (Or.inr (Or.inl ⟨rfl, rfl⟩))))))) (fun _ _ => ?_)
          refine fr_lt ?_
          refine fr_ckc (fun hq_q10 => ?_)
          refine fr_chk (fun _ => ?_)
          refine fr_si (by assumption) (isLw_cases hq_q10 (fun q10 => W_X6_readRule (q10 + 1) (ix x1)) (Or.inr (Or.inr (Or.inr (Or.inr (Or.inr (Or.inr (Or.inl rfl))))))) (Or.inr (Or.inr (Or.inr (Or.inr (Or.inr (Or.inr (Or.inr (Or.inl rfl))))))))) (fun _ _ => ?_)
          refine fr_lt ?_
          refine fr_ckc (fun hq_q12 => ?_)
          refine fr_lt ?_
          refine fr_ckc (fun hq_q13 => ?_)
          refine fr_chk (fun _ => ?_)
          refine fr_si (by assumption) (isLw_cases hq_q12 (fun q12 => W_X6_readRule (q12 + 2) (ix x1)) (Or.inr (Or.inr (Or.inr (Or.inr (Or.inr (Or.inr (Or.inr (Or.inr (Or.inl rfl))))))))) (Or.inr (Or.inr (Or.inr (Or.inr (Or.inr (Or.inr (Or.inr (Or.inr (Or.inr (Or.inl rfl))))))))))) (fun _ _ => ?_)
          refine fr_join (fun j => ∀ (s15 : Mem), Sm W_X6_readRule s0 s15 → Fr W_X6_readRule s0 (j s15)) (fun s15 hm => ?_) (fun j97 hj97 => ?_)
          · refine fr_lt ?_
            refine fr_ckc (fun hq_q16 => ?_)
            refine fr_lt ?_
            refine fr_ckc (fun hq_q17 => ?_)
            refine fr_chk (fun _ => ?_)
            refine fr_si (by assumption) (isLw_cases hq_q16 (fun q16 => W_X6_readRule (q16 + 3) (ix x1)) (Or.inr (Or.inr (Or.inr (Or.inr (Or.inr (Or.inr (Or.inr (Or.inr (Or.inr (Or.inr (Or.inl rfl))))))))))) (Or.inr (Or.inr (Or.inr (Or.inr (Or.inr (Or.inr (Or.inr (Or.inr (Or.inr (Or.inr (Or.inr (Or.inl rfl))))))))))))) (fun _ _ => ?_)
            refine fr_call (fr_X6_pass _ _ _) (fun c i h => Or.inr (Or.inr (Or.inr (Or.inr (Or.inr (Or.inr (Or.inr (Or.inr (Or.inr (Or.inr (Or.inr (Or.inr (Or.inl h))))))))))))) (by assumption) (fun _ _ _ => ?_)
            refine fr_call (fr_X6_readCondition _ _ _ _ _) (fun c i h => Or.inr (Or.inr (Or.inr (Or.inr (Or.inr (Or.inr (Or.inr (Or.inr (Or.inr (Or.inr (Or.inr (Or.inr (Or.inr (Or.inl h)))))))))))))) (by assumption) (fun _ _ _ => ?_)
            refine fr_call (fr_X6_pass _ _ _) (fun c i h => Or.inr (Or.inr (Or.inr (Or.inr (Or.inr (Or.inr (Or.inr (Or.inr (Or.inr (Or.inr (Or.inr (Or.inr (Or.inl h))))))))))))) (by assumption) (fun _ _ _ => ?_)
            refine fr_lt ?_
            refine fr_ckc (fun hq_q25 => ?_)
            refine fr_lt ?_
            refine fr_ckc (fun hq_q26 => ?_)
            refine fr_chk (fun _ => ?_)
            refine fr_si (by assumption) (isLw_cases hq_q25 (fun q25 => W_X6_readRule (q25 + 4) (ix x1)) (Or.inr (Or.inr (Or.inr (Or.inr (Or.inr (Or.inr (Or.inr (Or.inr (Or.inr (Or.inr (Or.inr (Or.inr (Or.inr (Or.inr (Or.inl rfl))))))))))))))) (Or.inr (Or.inr (Or.inr (Or.inr (Or.inr (Or.inr (Or.inr (Or.inr (Or.inr (Or.inr (Or.inr (Or.inr (Or.inr (Or.inr (Or.inr (Or.inl rfl))))))))))))))))) (fun _ _ => ?_)
            exact fr_some (by assumption)
          · refine fr_ite ?_ ?_
            · exact hj97 _ (by assumption)
            · refine fr_call (fr_X6_readSum _ _ _ _ _) (fun c i h => Or.inr (Or.inr (Or.inr (Or.inr (Or.inr (Or.inr (Or.inr (Or.inr (Or.inr (Or.inr (Or.inr (Or.inr (Or.inr (Or.inr (Or.inr (Or.inr h)))))))))))))))) (by assumption) (fun _ _ _ => ?_)
              exact hj97 _ (by assumption)
        · refine fr_call (fr_X6_fail _ _ _) (fun c i h => Or.inr (Or.inr (Or.inl h))) (by assumption) (fun _ _ _ => ?_)
          exact fr_some (by assumption)
    · refine fr_call (fr_X6_fail _ _ _) (fun c i h => Or.inr (Or.inr (Or.inl h))) (by assumption) (fun _ _ _ => ?_)
      exact fr_some (by assumption)
  exact key s sm_refl
def W_X6_read (c i : Nat) : Prop := (c = 93 ∧ i = 0) ∨ (c = 93 ∧ i = 1) ∨ (c = 93 ∧ i = 2) ∨ (c = 93 ∧ i = 3) ∨ W_X4_clear 77 c i ∨ W_X4_clear 85 c i ∨ W_X6_readRule c i ∨ W_X6_pass c i
theorem frst_X6_read_34 {s0 : Mem} {N : Nat} {rec : Int32 → Mem → Option (Int32 × Mem)}   (ih : ∀ (y0 : Int32) (y1 : Mem), Sm W_X6_read s0 y1 → Fr W_X6_read s0 (rec y0 y1)) : ∀ (x3 : Int32) (s : Mem), Sm W_X6_read s0 s → Fr W_X6_read s0 (st_X6_read_34 N rec x3 s) := by
  intro x3 s hm
  unfold st_X6_read_34
  refine fr_ite ?_ ?_
  · exact fr_some (by assumption)
  · refine fr_call (fr_X6_readRule _ _ _) (fun c i h => Or.inr (Or.inr (Or.inr (Or.inr (Or.inr (Or.inr (Or.inl h))))))) (by assumption) (fun _ _ _ => ?_)
    refine fr_ite ?_ ?_
    · refine fr_ite ?_ ?_
      · exact fr_some (by assumption)
      · refine fr_call (fr_X6_pass _ _ _) (fun c i h => Or.inr (Or.inr (Or.inr (Or.inr (Or.inr (Or.inr (Or.inr h))))))) (by assumption) (fun _ _ _ => ?_)
        refine fr_lt ?_
        exact ih _ _ (by assumption)
    · exact fr_some (by assumption)
theorem fr_X6_read (N : Nat) (x1 : Nat) (x2 : Int32) (s : Mem) : Fr W_X6_read s (f_X6_read N x1 x2 s) := by
  have key : ∀ s0 : Mem, Sm W_X6_read s0 s → Fr W_X6_read s0 (f_X6_read N x1 x2 s) := by
    intro s0 hm
    unfold f_X6_read
    refine fr_si (by assumption) (Or.inl ⟨rfl, rfl⟩) (fun _ _ => ?_)
    refine fr_si (by assumption) (Or.inr (Or.inl ⟨rfl, rfl⟩)) (fun _ _ => ?_)
    refine fr_si (by assumption) (Or.inr (Or.inr (Or.inl ⟨rfl, rfl⟩))) (fun _ _ => ?_)
    refine fr_si (by assumption) (Or.inr (Or.inr (Or.inr (Or.inl ⟨rfl, rfl⟩)))) (fun _ _ => ?_)
    refine fr_lt ?_
    refine fr_ckc (fun hq_q5 => ?_)
    refine fr_call (fr_X4_clear _ _ _) (isLw_cases hq_q5 (fun z => ∀ c i, W_X4_clear z c i → W_X6_read c i) (fun c i h => Or.inr (Or.inr (Or.inr (Or.inr (Or.inl h))))) (fun c i h => Or.inr (Or.inr (Or.inr (Or.inr (Or.inr (Or.inl h))))))) (by assumption) (fun _ _ _ => ?_)
    refine itr_ind (Q := fun (f : Int32 → Mem → Option (Int32 × Mem)) => ∀ y0 s, Sm W_X6_read s0 s → Fr W_X6_read s0 (f y0 s)) (fun _ _ _ => fr_none) (fun _ ih34 => ?_) N _ _ (by assumption)
    refine frst_X6_read_34   ih34
  exact key s sm_refl
def W_X7_fail (c i : Nat) : Prop := (c = 95 ∧ i = 7)
theorem fr_X7_fail (N : Nat) (x1 : Int32) (s : Mem) : Fr W_X7_fail s (f_X7_fail N x1 s) := by
  have key : ∀ s0 : Mem, Sm W_X7_fail s0 s → Fr W_X7_fail s0 (f_X7_fail N x1 s) := by
    intro s0 hm
    unfold f_X7_fail
    refine fr_ite ?_ ?_
    · refine fr_si (by assumption) (⟨rfl, rfl⟩) (fun _ _ => ?_)
      exact fr_some (by assumption)
    · exact fr_some (by assumption)
  exact key s sm_refl
def W_X7_here (c i : Nat) : Prop := False
theorem fr_X7_here (N : Nat) (s : Mem) : Fr W_X7_here s (f_X7_here N s) := by
  have key : ∀ s0 : Mem, Sm W_X7_here s0 s → Fr W_X7_here s0 (f_X7_here N s) := by
    intro s0 hm
    unfold f_X7_here
    refine fr_ite ?_ ?_
    · exact fr_some (by assumption)
    · refine fr_ite ?_ ?_
      · exact fr_some (by assumption)
      · refine fr_lt ?_
        refine fr_ckc (fun hq_q1 => ?_)
        refine fr_ite ?_ ?_
        · exact fr_some (by assumption)
        · refine fr_lt ?_
          refine fr_ckc (fun hq_q2 => ?_)
          refine fr_chk (fun _ => ?_)
          exact fr_some (by assumption)
  exact key s sm_refl
def W_X7_readLetter (c i : Nat) : Prop := W_X7_here c i ∨ W_X9_isLetter c i ∨ W_X7_fail c i ∨ W_X9_hasBit c i ∨ c = 96 ∨ (c = 95 ∧ i = 6)
theorem fr_X7_readLetter (N : Nat) (x1 : Int32) (x2 : Int32) (s : Mem) : Fr W_X7_readLetter s (f_X7_readLetter N x1 x2 s) := by
  have key : ∀ s0 : Mem, Sm W_X7_readLetter s0 s → Fr W_X7_readLetter s0 (f_X7_readLetter N x1 x2 s) := by
    intro s0 hm
    unfold f_X7_readLetter
    refine fr_call (fr_X7_here _ _) (fun c i h => Or.inl h) (by assumption) (fun _ _ _ => ?_)
    refine fr_lt ?_
    refine fr_call (fr_X9_isLetter _ _ _) (fun c i h => Or.inr (Or.inl h)) (by assumption) (fun _ _ _ => ?_)
    refine fr_ite ?_ ?_
    · refine fr_call (fr_X7_fail _ _ _) (fun c i h => Or.inr (Or.inr (Or.inl h))) (by assumption) (fun _ _ _ => ?_)
      exact fr_some (by assumption)
    · refine fr_ite ?_ ?_
      · refine fr_call (fr_X9_hasBit _ _ _ _) (fun c i h => Or.inr (Or.inr (Or.inr (Or.inl h)))) (by assumption) (fun _ _ _ => ?_)
        refine fr_ite ?_ ?_
        · refine fr_call (fr_X7_fail _ _ _) (fun c i h => Or.inr (Or.inr (Or.inl h))) (by assumption) (fun _ _ _ => ?_)
          exact fr_some (by assumption)
        · refine fr_chk (fun _ => ?_)
          refine fr_si (by assumption) (Or.inr (Or.inr (Or.inr (Or.inr (Or.inl rfl))))) (fun _ _ => ?_)
          refine fr_si (by assumption) (Or.inr (Or.inr (Or.inr (Or.inr (Or.inr ⟨rfl, rfl⟩))))) (fun _ _ => ?_)
          exact fr_some (by assumption)
      · refine fr_call (fr_X7_fail _ _ _) (fun c i h => Or.inr (Or.inr (Or.inl h))) (by assumption) (fun _ _ _ => ?_)
        exact fr_some (by assumption)
  exact key s sm_refl
def W_X7_readParish (c i : Nat) : Prop := W_X7_here c i ∨ W_X9_isWithin c i ∨ W_X7_fail c i ∨ W_X9_hasBit c i ∨ c = 97 ∨ (c = 95 ∧ i = 6)
theorem fr_X7_readParish (N : Nat) (x1 : Int32) (x2 : Int32) (s : Mem) : Fr W_X7_readParish s (f_X7_readParish N x1 x2 s) := by
  have key : ∀ s0 : Mem, Sm W_X7_readParish s0 s → Fr W_X7_readParish s0 (f_X7_readParish N x1 x2 s) := by
    intro s0 hm
    unfold f_X7_readParish
    refine fr_ite ?_ ?_
    · refine fr_ite ?_ ?_
      · refine fr_call (fr_X7_here _ _) (fun c i h => Or.inl h) (by assumption) (fun _ _ _ => ?_)
        refine fr_lt ?_
        refine fr_call (fr_X9_isWithin _ _ _ _ _) (fun c i h => Or.inr (Or.inl h)) (by assumption) (fun _ _ _ => ?_)
        refine fr_ite ?_ ?_
        · refine fr_call (fr_X7_fail _ _ _) (fun c i h => Or.inr (Or.inr (Or.inl h))) (by assumption) (fun _ _ _ => ?_)
          exact fr_some (by assumption)
        · refine fr_call (fr_X9_hasBit _ _ _ _) (fun c i h => Or.inr (Or.inr (Or.inr (Or.inl h)))) (by assumption) (fun _ _ _ => ?_)
          refine fr_ite ?_ ?_
          · refine fr_call (fr_X7_fail _ _ _) (fun c i h => Or.inr (Or.inr (Or.inl h))) (by assumption) (fun _ _ _ => ?_)
            exact fr_some (by assumption)
          · refine fr_chk (fun _ => ?_)
            refine fr_si (by assumption) (Or.inr (Or.inr (Or.inr (Or.inr (Or.inl rfl))))) (fun _ _ => ?_)
            refine fr_si (by assumption) (Or.inr (Or.inr (Or.inr (Or.inr (Or.inr ⟨rfl, rfl⟩))))) (fun _ _ => ?_)
            exact fr_some (by assumption)
      · exact fr_some (by assumption)
    · exact fr_some (by assumption)
  exact key s sm_refl
def W_X7_readNumber (c i : Nat) : Prop := W_X7_here c i ∨ W_X9_isDigit c i ∨ (c = 95 ∧ i = 6) ∨ W_X7_fail c i
theorem frst_X7_readNumber_19 {s0 : Mem} {N : Nat} {k63 : Int32 → Mem → Option (Int32 × Mem)} {rec : Int32 → Int32 → Mem → Option (Int32 × Mem)}  (hk63 : ∀ (y0 : Int32) (y1 : Mem), Sm W_X7_readNumber s0 y1 → Fr W_X7_readNumber s0 (k63 y0 y1)) (ih : ∀ (y0 : Int32) (y1 : Int32) (y2 : Mem), Sm W_X7_readNumber s0 y2 → Fr W_X7_readNumber s0 (rec y0 y1 y2)) : ∀ (x1 : Int32) (x2 : Int32) (s : Mem), Sm W_X7_readNumber s0 s → Fr W_X7_readNumber s0 (st_X7_readNumber_19 N k63 rec x1 x2 s) := by
  intro x1 x2 s hm
  unfold st_X7_readNumber_19
  refine fr_ite ?_ ?_
  · exact hk63 _ _ (by assumption)
  · refine fr_call (fr_X7_here _ _) (fun c i h => Or.inl h) (by assumption) (fun _ _ _ => ?_)
    refine fr_call (fr_X9_isDigit _ _ _) (fun c i h => Or.inr (Or.inl h)) (by assumption) (fun _ _ _ => ?_)
    refine fr_ite ?_ ?_
    · exact hk63 _ _ (by assumption)
    · refine fr_call (fr_X7_here _ _) (fun c i h => Or.inl h) (by assumption) (fun _ _ _ => ?_)
      refine fr_lt ?_
      refine fr_si (by assumption) (Or.inr (Or.inr (Or.inl ⟨rfl, rfl⟩))) (fun _ _ => ?_)
      refine fr_lt ?_
      exact ih _ _ _ (by assumption)
theorem fr_X7_readNumber (N : Nat) (s : Mem) : Fr W_X7_readNumber s (f_X7_readNumber N s) := by
  have key : ∀ s0 : Mem, Sm W_X7_readNumber s0 s → Fr W_X7_readNumber s0 (f_X7_readNumber N s) := by
    intro s0 hm
    unfold f_X7_readNumber
    refine fr_call (fr_X7_here _ _) (fun c i h => Or.inl h) (by assumption) (fun _ _ _ => ?_)
    refine fr_call (fr_X9_isDigit _ _ _) (fun c i h => Or.inr (Or.inl h)) (by assumption) (fun _ _ _ => ?_)
    refine fr_join (fun j => ∀ (s5 : Mem), Sm W_X7_readNumber s0 s5 → Fr W_X7_readNumber s0 (j s5)) (fun s5 hm => ?_) (fun j17 hj17 => ?_)
    · refine itr_ind (Q := fun (f : Int32 → Int32 → Mem → Option (Int32 × Mem)) => ∀ y0 y1 s, Sm W_X7_readNumber s0 s → Fr W_X7_readNumber s0 (f y0 y1 s)) (fun _ _ _ _ => fr_none) (fun _ ih19 => ?_) N _ _ _ (by assumption)
      refine frst_X7_readNumber_19  ?_ ih19
      · intro x1_16 s15 hm
        refine fr_call (fr_X7_here _ _) (fun c i h => Or.inl h) (by assumption) (fun _ _ _ => ?_)
        refine fr_call (fr_X9_isDigit _ _ _) (fun c i h => Or.inr (Or.inl h)) (by assumption) (fun _ _ _ => ?_)
        refine fr_ite ?_ ?_
        · exact fr_some (by assumption)
        · refine fr_call (fr_X7_fail _ _ _) (fun c i h => Or.inr (Or.inr (Or.inr h))) (by assumption) (fun _ _ _ => ?_)
          exact fr_some (by assumption)
    · refine fr_ite ?_ ?_
      · refine fr_call (fr_X7_fail _ _ _) (fun c i h => Or.inr (Or.inr (Or.inr h))) (by assumption) (fun _ _ _ => ?_)
        exact hj17 _ (by assumption)
      · exact hj17 _ (by assumption)
  exact key s sm_refl
def W_X7_readSaid (c i : Nat) : Prop := W_X7_here c i ∨ (c = 95 ∧ i = 6) ∨ c = 98 ∨ c = 99 ∨ W_X7_readNumber c i ∨ W_X7_fail c i
theorem fr_X7_readSaid (N : Nat) (x1 : Int32) (s : Mem) : Fr W_X7_readSaid s (f_X7_readSaid N x1 s) := by
  have key : ∀ s0 : Mem, Sm W_X7_readSaid s0 s → Fr W_X7_readSaid s0 (f_X7_readSaid N x1 s) := by
    intro s0 hm
    unfold f_X7_readSaid
    refine fr_ite ?_ ?_
    · refine fr_ite ?_ ?_
      · refine fr_call (fr_X7_here _ _) (fun c i h => Or.inl h) (by assumption) (fun _ _ _ => ?_)
        refine fr_join (fun j => ∀ (s3 : Mem), Sm W_X7_readSaid s0 s3 → Fr W_X7_readSaid s0 (j s3)) (fun s3 hm => ?_) (fun j43 hj43 => ?_)
        · refine fr_si (by assumption) (Or.inr (Or.inl ⟨rfl, rfl⟩)) (fun _ _ => ?_)
          refine fr_chk (fun _ => ?_)
          refine fr_si (by assumption) (Or.inr (Or.inr (Or.inl rfl))) (fun _ _ => ?_)
          refine fr_ite ?_ ?_
          · refine fr_chk (fun _ => ?_)
            refine fr_si (by assumption) (Or.inr (Or.inr (Or.inr (Or.inl rfl)))) (fun _ _ => ?_)
            exact fr_some (by assumption)
          · refine fr_call (fr_X7_readNumber _ _) (fun c i h => Or.inr (Or.inr (Or.inr (Or.inr (Or.inl h))))) (by assumption) (fun _ _ _ => ?_)
            refine fr_chk (fun _ => ?_)
            refine fr_si (by assumption) (Or.inr (Or.inr (Or.inr (Or.inl rfl)))) (fun _ _ => ?_)
            exact fr_some (by assumption)
        · refine fr_ite ?_ ?_
          · exact hj43 _ (by assumption)
          · refine fr_ite ?_ ?_
            · exact hj43 _ (by assumption)
            · refine fr_ite ?_ ?_
              · exact hj43 _ (by assumption)
              · refine fr_call (fr_X7_fail _ _ _) (fun c i h => Or.inr (Or.inr (Or.inr (Or.inr (Or.inr h))))) (by assumption) (fun _ _ _ => ?_)
                exact fr_some (by assumption)
      · exact fr_some (by assumption)
    · exact fr_some (by assumption)
  exact key s sm_refl
def W_X7_read (c i : Nat) : Prop := (c = 95 ∧ i = 4) ∨ (c = 95 ∧ i = 5) ∨ (c = 95 ∧ i = 6) ∨ (c = 95 ∧ i = 7) ∨ W_X7_readLetter c i ∨ W_X7_readParish c i ∨ W_X7_readSaid c i ∨ W_X7_here c i ∨ W_X7_fail c i
theorem frst_X7_read_28 {s0 : Mem} {N : Nat} {x3 : Int32} {x4 : Int32} {rec : Int32 → Mem → Option (Int32 × Mem)}   (ih : ∀ (y0 : Int32) (y1 : Mem), Sm W_X7_read s0 y1 → Fr W_X7_read s0 (rec y0 y1)) : ∀ (x5 : Int32) (s : Mem), Sm W_X7_read s0 s → Fr W_X7_read s0 (st_X7_read_28 N x3 x4 rec x5 s) := by
  intro x5 s hm
  unfold st_X7_read_28
  refine fr_ite ?_ ?_
  · exact fr_some (by assumption)
  · refine fr_call (fr_X7_readLetter _ _ _ _) (fun c i h => Or.inr (Or.inr (Or.inr (Or.inr (Or.inl h))))) (by assumption) (fun _ _ _ => ?_)
    refine fr_call (fr_X7_readParish _ _ _ _) (fun c i h => Or.inr (Or.inr (Or.inr (Or.inr (Or.inr (Or.inl h)))))) (by assumption) (fun _ _ _ => ?_)
    refine fr_call (fr_X7_readSaid _ _ _) (fun c i h => Or.inr (Or.inr (Or.inr (Or.inr (Or.inr (Or.inr (Or.inl h))))))) (by assumption) (fun _ _ _ => ?_)
    refine fr_join (fun j => ∀ (s11 : Mem), Sm W_X7_read s0 s11 → Fr W_X7_read s0 (j s11)) (fun s11 hm => ?_) (fun j79 hj79 => ?_)
    · refine fr_call (fr_X7_here _ _) (fun c i h => Or.inr (Or.inr (Or.inr (Or.inr (Or.inr (Or.inr (Or.inr (Or.inl h)))))))) (by assumption) (fun _ _ _ => ?_)
      refine fr_join (fun j => ∀ (s14 : Mem), Sm W_X7_read s0 s14 → Fr W_X7_read s0 (j s14)) (fun s14 hm => ?_) (fun j93 hj93 => ?_)
      · refine fr_ite ?_ ?_
        · refine fr_si (by assumption) (Or.inr (Or.inr (Or.inl ⟨rfl, rfl⟩))) (fun _ _ => ?_)
          refine fr_lt ?_
          exact ih _ _ (by assumption)
        · exact fr_some (by assumption)
      · refine fr_ite ?_ ?_
        · exact hj93 _ (by assumption)
        · refine fr_call (fr_X7_fail _ _ _) (fun c i h => Or.inr (Or.inr (Or.inr (Or.inr (Or.inr (Or.inr (Or.inr (Or.inr h)))))))) (by assumption) (fun _ _ _ => ?_)
          exact hj93 _ (by assumption)
    · refine fr_ite ?_ ?_
      · refine fr_ite ?_ ?_
        · exact fr_some (by assumption)
        · exact hj79 _ (by assumption)
      · exact hj79 _ (by assumption)
theorem fr_X7_read (N : Nat) (x1 : Nat) (x2 : Int32) (x3 : Int32) (x4 : Int32) (s : Mem) : Fr W_X7_read s (f_X7_read N x1 x2 x3 x4 s) := by
  have key : ∀ s0 : Mem, Sm W_X7_read s0 s → Fr W_X7_read s0 (f_X7_read N x1 x2 x3 x4 s) := by
    intro s0 hm
    unfold f_X7_read
    refine fr_si (by assumption) (Or.inl ⟨rfl, rfl⟩) (fun _ _ => ?_)
    refine fr_si (by assumption) (Or.inr (Or.inl ⟨rfl, rfl⟩)) (fun _ _ => ?_)
    refine fr_si (by assumption) (Or.inr (Or.inr (Or.inl ⟨rfl, rfl⟩))) (fun _ _ => ?_)
    refine fr_si (by assumption) (Or.inr (Or.inr (Or.inr (Or.inl ⟨rfl, rfl⟩)))) (fun _ _ => ?_)
    refine itr_ind (Q := fun (f : Int32 → Mem → Option (Int32 × Mem)) => ∀ y0 s, Sm W_X7_read s0 s → Fr W_X7_read s0 (f y0 s)) (fun _ _ _ => fr_none) (fun _ ih28 => ?_) N _ _ (by assumption)
    refine frst_X7_read_28   ih28
  exact key s sm_refl
def W_X8_hasRoom (c i : Nat) : Prop := False
theorem fr_X8_hasRoom (N : Nat) (s : Mem) : Fr W_X8_hasRoom s (f_X8_hasRoom N s) := by
  have key : ∀ s0 : Mem, Sm W_X8_hasRoom s0 s → Fr W_X8_hasRoom s0 (f_X8_hasRoom N s) := by
    intro s0 hm
    unfold f_X8_hasRoom
    refine fr_ite ?_ ?_
    · exact fr_some (by assumption)
    · exact fr_some (by assumption)
  exact key s sm_refl
def W_X8_put (c i : Nat) : Prop := c = 2 ∨ (c = 1 ∧ i = 1)
theorem frst_X8_put_3 {s0 : Mem} {N : Nat} {x1 : Int32} {rec : Int32 → Mem → Option (Unit × Mem)}   (ih : ∀ (y0 : Int32) (y1 : Mem), Sm W_X8_put s0 y1 → Fr W_X8_put s0 (rec y0 y1)) : ∀ (x2 : Int32) (s : Mem), Sm W_X8_put s0 s → Fr W_X8_put s0 (st_X8_put_3 N x1 rec x2 s) := by
  intro x2 s hm
  unfold st_X8_put_3
  refine fr_ite ?_ ?_
  · exact fr_some (by assumption)
  · refine fr_ite ?_ ?_
    · exact fr_some (by assumption)
    · refine fr_chk (fun _ => ?_)
      refine fr_si (by assumption) (Or.inl rfl) (fun _ _ => ?_)
      refine fr_si (by assumption) (Or.inr ⟨rfl, rfl⟩) (fun _ _ => ?_)
      refine fr_lt ?_
      exact ih _ _ (by assumption)
theorem fr_X8_put (N : Nat) (x1 : Int32) (s : Mem) : Fr W_X8_put s (f_X8_put N x1 s) := by
  have key : ∀ s0 : Mem, Sm W_X8_put s0 s → Fr W_X8_put s0 (f_X8_put N x1 s) := by
    intro s0 hm
    unfold f_X8_put
    refine itr_ind (Q := fun (f : Int32 → Mem → Option (Unit × Mem)) => ∀ y0 s, Sm W_X8_put s0 s → Fr W_X8_put s0 (f y0 s)) (fun _ _ _ => fr_none) (fun _ ih3 => ?_) N _ _ (by assumption)
    refine frst_X8_put_3   ih3
  exact key s sm_refl
def W_X8_has (c i : Nat) : Prop := W_X9_isWithin c i
theorem fr_X8_has (N : Nat) (x1 : Int32) (x2 : Int32) (x3 : Int32) (s : Mem) : Fr W_X8_has s (f_X8_has N x1 x2 x3 s) := by
  have key : ∀ s0 : Mem, Sm W_X8_has s0 s → Fr W_X8_has s0 (f_X8_has N x1 x2 x3 s) := by
    intro s0 hm
    unfold f_X8_has
    refine fr_call (fr_X9_isWithin _ _ _ _ _) (fun c i h => h) (by assumption) (fun _ _ _ => ?_)
    refine fr_ite ?_ ?_
    · exact fr_some (by assumption)
    · refine fr_ite ?_ ?_
      · exact fr_some (by assumption)
      · exact fr_some (by assumption)
  exact key s sm_refl
def W_X8_take (c i : Nat) : Prop := (c = 1 ∧ i = 1)
theorem fr_X8_take (N : Nat) (s : Mem) : Fr W_X8_take s (f_X8_take N s) := by
  have key : ∀ s0 : Mem, Sm W_X8_take s0 s → Fr W_X8_take s0 (f_X8_take N s) := by
    intro s0 hm
    unfold f_X8_take
    refine fr_si (by assumption) (⟨rfl, rfl⟩) (fun _ _ => ?_)
    exact fr_some (by assumption)
  exact key s sm_refl
def W_X9_parish (c i : Nat) : Prop := W_X9_isWithin c i ∨ W_X3_tell c i ∨ c = 33
theorem fr_X9_parish (N : Nat) (x1 : Int32) (x2 : Int32) (s : Mem) : Fr W_X9_parish s (f_X9_parish N x1 x2 s) := by
  have key : ∀ s0 : Mem, Sm W_X9_parish s0 s → Fr W_X9_parish s0 (f_X9_parish N x1 x2 s) := by
    intro s0 hm
    unfold f_X9_parish
    refine fr_call (fr_X9_isWithin _ _ _ _ _) (fun c i h => Or.inl h) (by assumption) (fun _ _ _ => ?_)
    refine fr_ite ?_ ?_
    · exact fr_some (by assumption)
    · refine fr_call (fr_X9_isWithin _ _ _ _ _) (fun c i h => Or.inl h) (by assumption) (fun _ _ _ => ?_)
      refine fr_ite ?_ ?_
      · exact fr_some (by assumption)
      · refine fr_call (fr_X3_tell _ _ _) (fun c i h => Or.inr (Or.inl h)) (by assumption) (fun _ _ _ => ?_)
        refine fr_chk (fun _ => ?_)
        refine fr_si (by assumption) (Or.inr (Or.inr rfl)) (fun _ _ => ?_)
        exact fr_some (by assumption)
  exact key s sm_refl
def W_X9_road (c i : Nat) : Prop := W_X3_isTold c i ∨ W_X9_isWithin c i ∨ W_X3_lay c i
theorem fr_X9_road (N : Nat) (x1 : Int32) (x2 : Int32) (x3 : Int32) (s : Mem) : Fr W_X9_road s (f_X9_road N x1 x2 x3 s) := by
  have key : ∀ s0 : Mem, Sm W_X9_road s0 s → Fr W_X9_road s0 (f_X9_road N x1 x2 x3 s) := by
    intro s0 hm
    unfold f_X9_road
    refine fr_call (fr_X3_isTold _ _ _) (fun c i h => Or.inl h) (by assumption) (fun _ _ _ => ?_)
    refine fr_ite ?_ ?_
    · exact fr_some (by assumption)
    · refine fr_call (fr_X3_isTold _ _ _) (fun c i h => Or.inl h) (by assumption) (fun _ _ _ => ?_)
      refine fr_ite ?_ ?_
      · exact fr_some (by assumption)
      · refine fr_ite ?_ ?_
        · exact fr_some (by assumption)
        · refine fr_call (fr_X9_isWithin _ _ _ _ _) (fun c i h => Or.inr (Or.inl h)) (by assumption) (fun _ _ _ => ?_)
          refine fr_ite ?_ ?_
          · exact fr_some (by assumption)
          · refine fr_call (fr_X3_lay _ _ _ _ _) (fun c i h => Or.inr (Or.inr h)) (by assumption) (fun _ _ _ => ?_)
            exact fr_some (by assumption)
  exact key s sm_refl
def W_X9_letter (c i : Nat) : Prop := W_X9_isLetter c i ∨ W_X3_isTold c i ∨ W_X9_isWithin c i ∨ W_X0_begin 32 c i
theorem fr_X9_letter (N : Nat) (x1 : Int32) (x2 : Int32) (x3 : Int32) (s : Mem) : Fr W_X9_letter s (f_X9_letter N x1 x2 x3 s) := by
  have key : ∀ s0 : Mem, Sm W_X9_letter s0 s → Fr W_X9_letter s0 (f_X9_letter N x1 x2 x3 s) := by
    intro s0 hm
    unfold f_X9_letter
    refine fr_call (fr_X9_isLetter _ _ _) (fun c i h => Or.inl h) (by assumption) (fun _ _ _ => ?_)
    refine fr_ite ?_ ?_
    · exact fr_some (by assumption)
    · refine fr_call (fr_X3_isTold _ _ _) (fun c i h => Or.inr (Or.inl h)) (by assumption) (fun _ _ _ => ?_)
      refine fr_ite ?_ ?_
      · exact fr_some (by assumption)
      · refine fr_call (fr_X9_isWithin _ _ _ _ _) (fun c i h => Or.inr (Or.inr (Or.inl h))) (by assumption) (fun _ _ _ => ?_)
        refine fr_ite ?_ ?_
        · exact fr_some (by assumption)
        · refine fr_call (fr_X0_begin _ _ _ _ _ _) (fun c i h => Or.inr (Or.inr (Or.inr h))) (by assumption) (fun _ _ _ => ?_)
          exact fr_some (by assumption)
  exact key s sm_refl
def W_X9_feed (c i : Nat) : Prop := W_X8_hasRoom c i ∨ W_X8_put c i
theorem fr_X9_feed (N : Nat) (x1 : Int32) (x2 : Int32) (x3 : Int32) (x4 : Int32) (x5 : Int32) (s : Mem) : Fr W_X9_feed s (f_X9_feed N x1 x2 x3 x4 x5 s) := by
  have key : ∀ s0 : Mem, Sm W_X9_feed s0 s → Fr W_X9_feed s0 (f_X9_feed N x1 x2 x3 x4 x5 s) := by
    intro s0 hm
    unfold f_X9_feed
    refine fr_call (fr_X8_hasRoom _ _) (fun c i h => Or.inl h) (by assumption) (fun _ _ _ => ?_)
    refine fr_ite ?_ ?_
    · exact fr_some (by assumption)
    · refine fr_call (fr_X8_put _ _ _) (fun c i h => Or.inr h) (by assumption) (fun _ _ _ => ?_)
      refine fr_call (fr_X8_put _ _ _) (fun c i h => Or.inr h) (by assumption) (fun _ _ _ => ?_)
      refine fr_call (fr_X8_put _ _ _) (fun c i h => Or.inr h) (by assumption) (fun _ _ _ => ?_)
      refine fr_call (fr_X8_put _ _ _) (fun c i h => Or.inr h) (by assumption) (fun _ _ _ => ?_)
      refine fr_call (fr_X8_put _ _ _) (fun c i h => Or.inr h) (by assumption) (fun _ _ _ => ?_)
      exact fr_some (by assumption)
  exact key s sm_refl
def W_X9_law (c i : Nat) : Prop := W_X8_has c i ∨ W_X8_take c i ∨ W_X6_read c i ∨ W_X6_handOver 77 c i ∨ W_X6_handOver 85 c i ∨ (c = 0 ∧ i = 10)
theorem fr_X9_law (N : Nat) (x1 : Int32) (s : Mem) : Fr W_X9_law s (f_X9_law N x1 s) := by
  have key : ∀ s0 : Mem, Sm W_X9_law s0 s → Fr W_X9_law s0 (f_X9_law N x1 s) := by
    intro s0 hm
    unfold f_X9_law
    refine fr_call (fr_X8_has _ _ _ _ _) (fun c i h => Or.inl h) (by assumption) (fun _ _ _ => ?_)
    refine fr_ite ?_ ?_
    · exact fr_some (by assumption)
    · refine fr_call (fr_X8_take _ _) (fun c i h => Or.inr (Or.inl h)) (by assumption) (fun _ _ _ => ?_)
      refine fr_ckc (fun hq_r4 => ?_)
      refine fr_call (fr_X6_read _ _ _ _) (fun c i h => Or.inr (Or.inr (Or.inl h))) (by assumption) (fun _ _ _ => ?_)
      refine fr_ite ?_ ?_
      · exact fr_some (by assumption)
      · refine fr_lt ?_
        refine fr_ckc (fun hq_q7 => ?_)
        refine fr_call (fr_X6_handOver _ _ _) (isLw_cases hq_q7 (fun z => ∀ c i, W_X6_handOver z c i → W_X9_law c i) (fun c i h => Or.inr (Or.inr (Or.inr (Or.inl h)))) (fun c i h => Or.inr (Or.inr (Or.inr (Or.inr (Or.inl h)))))) (by assumption) (fun _ _ _ => ?_)
        refine fr_ckc (fun hq_r9 => ?_)
        refine fr_si (by assumption) (Or.inr (Or.inr (Or.inr (Or.inr (Or.inr ⟨rfl, rfl⟩))))) (fun _ _ => ?_)
        exact fr_some (by assumption)
  exact key s sm_refl
def W_X9_report (c i : Nat) : Prop := W_X8_has c i ∨ W_X8_take c i ∨ W_X7_read c i ∨ W_X0_note 32 c i
theorem frst_X9_report_48 {s0 : Mem} {N : Nat} {x2 : Int32} {rec : Int32 → Mem → Option (Int32 × Mem)}   (ih : ∀ (y0 : Int32) (y1 : Mem), Sm W_X9_report s0 y1 → Fr W_X9_report s0 (rec y0 y1)) : ∀ (x3 : Int32) (s : Mem), Sm W_X9_report s0 s → Fr W_X9_report s0 (st_X9_report_48 N x2 rec x3 s) := by
  intro x3 s hm
  unfold st_X9_report_48
  refine fr_ite ?_ ?_
  · exact fr_some (by assumption)
  · refine fr_ite ?_ ?_
    · exact fr_some (by assumption)
    · refine fr_chk (fun _ => ?_)
      refine fr_chk (fun _ => ?_)
      refine fr_chk (fun _ => ?_)
      refine fr_chk (fun _ => ?_)
      refine fr_call (fr_X0_note _ _ _ _ _ _ _) (fun c i h => Or.inr (Or.inr (Or.inr h))) (by assumption) (fun _ _ _ => ?_)
      refine fr_lt ?_
      exact ih _ _ (by assumption)
theorem fr_X9_report (N : Nat) (x1 : Int32) (s : Mem) : Fr W_X9_report s (f_X9_report N x1 s) := by
  have key : ∀ s0 : Mem, Sm W_X9_report s0 s → Fr W_X9_report s0 (f_X9_report N x1 s) := by
    intro s0 hm
    unfold f_X9_report
    refine fr_call (fr_X8_has _ _ _ _ _) (fun c i h => Or.inl h) (by assumption) (fun _ _ _ => ?_)
    refine fr_ite ?_ ?_
    · exact fr_some (by assumption)
    · refine fr_call (fr_X8_take _ _) (fun c i h => Or.inr (Or.inl h)) (by assumption) (fun _ _ _ => ?_)
      refine fr_ckc (fun hq_r4 => ?_)
      refine fr_call (fr_X7_read _ _ _ _ _ _) (fun c i h => Or.inr (Or.inr (Or.inl h))) (by assumption) (fun _ _ _ => ?_)
      refine itr_ind (Q := fun (f : Int32 → Mem → Option (Int32 × Mem)) => ∀ y0 s, Sm W_X9_report s0 s → Fr W_X9_report s0 (f y0 s)) (fun _ _ _ => fr_none) (fun _ ih48 => ?_) N _ _ (by assumption)
      refine frst_X9_report_48   ih48
  exact key s sm_refl
def W_X9_text (c i : Nat) : Prop := W_X9_isLetter c i ∨ W_X8_has c i ∨ W_X8_take c i ∨ W_X1_write c i
theorem fr_X9_text (N : Nat) (x1 : Int32) (x2 : Int32) (s : Mem) : Fr W_X9_text s (f_X9_text N x1 x2 s) := by
  have key : ∀ s0 : Mem, Sm W_X9_text s0 s → Fr W_X9_text s0 (f_X9_text N x1 x2 s) := by
    intro s0 hm
    unfold f_X9_text
    refine fr_call (fr_X9_isLetter _ _ _) (fun c i h => Or.inl h) (by assumption) (fun _ _ _ => ?_)
    refine fr_ite ?_ ?_
    · exact fr_some (by assumption)
    · refine fr_call (fr_X8_has _ _ _ _ _) (fun c i h => Or.inr (Or.inl h)) (by assumption) (fun _ _ _ => ?_)
      refine fr_ite ?_ ?_
      · exact fr_some (by assumption)
      · refine fr_call (fr_X8_take _ _) (fun c i h => Or.inr (Or.inr (Or.inl h))) (by assumption) (fun _ _ _ => ?_)
        refine fr_ckc (fun hq_r6 => ?_)
        refine fr_call (fr_X1_write _ _ _ _ _) (fun c i h => Or.inr (Or.inr (Or.inr h))) (by assumption) (fun _ _ _ => ?_)
        exact fr_some (by assumption)
  exact key s sm_refl
def W_X9_months (c i : Nat) : Prop := W_X9_isWithin c i ∨ W_X0_pass 32 77 c i ∨ W_X0_pass 32 85 c i
theorem fr_X9_months (N : Nat) (x1 : Int32) (s : Mem) : Fr W_X9_months s (f_X9_months N x1 s) := by
  have key : ∀ s0 : Mem, Sm W_X9_months s0 s → Fr W_X9_months s0 (f_X9_months N x1 s) := by
    intro s0 hm
    unfold f_X9_months
    refine fr_call (fr_X9_isWithin _ _ _ _ _) (fun c i h => Or.inl h) (by assumption) (fun _ _ _ => ?_)
    refine fr_ite ?_ ?_
    · exact fr_some (by assumption)
    · refine fr_lt ?_
      refine fr_ckc (fun hq_q3 => ?_)
      refine fr_call (fr_X0_pass _ _ _ _ _) (isLw_cases hq_q3 (fun z => ∀ c i, W_X0_pass 32 z c i → W_X9_months c i) (fun c i h => Or.inr (Or.inl h)) (fun c i h => Or.inr (Or.inr h))) (by assumption) (fun _ _ _ => ?_)
      exact fr_some (by assumption)
  exact key s sm_refl
def W_X9_tried (c i : Nat) : Prop := W_X9_isWithin c i ∨ W_X0_copy 62 32 c i ∨ W_X0_pass 62 77 c i ∨ W_X0_pass 62 85 c i ∨ W_X0_fundOf 62 c i ∨ W_X0_isTold 32 c i
theorem fr_X9_tried (N : Nat) (x1 : Int32) (x2 : Int32) (s : Mem) : Fr W_X9_tried s (f_X9_tried N x1 x2 s) := by
  have key : ∀ s0 : Mem, Sm W_X9_tried s0 s → Fr W_X9_tried s0 (f_X9_tried N x1 x2 s) := by
    intro s0 hm
    unfold f_X9_tried
    refine fr_call (fr_X9_isWithin _ _ _ _ _) (fun c i h => Or.inl h) (by assumption) (fun _ _ _ => ?_)
    refine fr_ite ?_ ?_
    · exact fr_some (by assumption)
    · refine fr_call (fr_X9_isWithin _ _ _ _ _) (fun c i h => Or.inl h) (by assumption) (fun _ _ _ => ?_)
      refine fr_join (fun j => ∀ (s5 : Mem), Sm W_X9_tried s0 s5 → Fr W_X9_tried s0 (j s5)) (fun s5 hm => ?_) (fun j35 hj35 => ?_)
      · refine fr_call (fr_X0_copy _ _ _ _) (fun c i h => Or.inr (Or.inl h)) (by assumption) (fun _ _ _ => ?_)
        refine fr_lt ?_
        refine fr_ckc (fun hq_q8 => ?_)
        refine fr_call (fr_X0_pass _ _ _ _ _) (isLw_cases hq_q8 (fun z => ∀ c i, W_X0_pass 62 z c i → W_X9_tried c i) (fun c i h => Or.inr (Or.inr (Or.inl h))) (fun c i h => Or.inr (Or.inr (Or.inr (Or.inl h))))) (by assumption) (fun _ _ _ => ?_)
        refine fr_ite ?_ ?_
        · exact fr_some (by assumption)
        · refine fr_ite ?_ ?_
          · exact fr_some (by assumption)
          · refine fr_ite ?_ ?_
            · exact fr_some (by assumption)
            · refine fr_ite ?_ ?_
              · exact fr_some (by assumption)
              · refine fr_call (fr_X0_fundOf _ _ _ _) (fun c i h => Or.inr (Or.inr (Or.inr (Or.inr (Or.inl h))))) (by assumption) (fun _ _ _ => ?_)
                exact fr_some (by assumption)
      · refine fr_ite ?_ ?_
        · refine fr_call (fr_X0_isTold _ _ _ _) (fun c i h => Or.inr (Or.inr (Or.inr (Or.inr (Or.inr h))))) (by assumption) (fun _ _ _ => ?_)
          refine fr_ite ?_ ?_
          · exact fr_some (by assumption)
          · exact hj35 _ (by assumption)
        · exact hj35 _ (by assumption)
  exact key s sm_refl
def W_X9_lettersAt (c i : Nat) : Prop := W_X9_hasBit c i
theorem frst_X9_lettersAt_4 {s0 : Mem} {N : Nat} {x0 : Nat} {x1 : Int32} {rec : Int32 → Int32 → Mem → Option (Int32 × Mem)}   (ih : ∀ (y0 : Int32) (y1 : Int32) (y2 : Mem), Sm W_X9_lettersAt s0 y2 → Fr W_X9_lettersAt s0 (rec y0 y1 y2)) : ∀ (x2 : Int32) (x3 : Int32) (s : Mem), Sm W_X9_lettersAt s0 s → Fr W_X9_lettersAt s0 (st_X9_lettersAt_4 N x0 x1 rec x2 x3 s) := by
  intro x2 x3 s hm
  unfold st_X9_lettersAt_4
  refine fr_ite ?_ ?_
  · exact fr_some (by assumption)
  · refine fr_ite ?_ ?_
    · exact fr_some (by assumption)
    · refine fr_chk (fun _ => ?_)
      refine fr_call (fr_X9_hasBit _ _ _ _) (fun c i h => h) (by assumption) (fun _ _ _ => ?_)
      refine fr_ite ?_ ?_
      · refine fr_lt ?_
        exact ih _ _ _ (by assumption)
      · refine fr_lt ?_
        refine fr_lt ?_
        exact ih _ _ _ (by assumption)
theorem fr_X9_lettersAt (N : Nat) (x0 : Nat) (x1 : Int32) (s : Mem) : Fr W_X9_lettersAt s (f_X9_lettersAt N x0 x1 s) := by
  have key : ∀ s0 : Mem, Sm W_X9_lettersAt s0 s → Fr W_X9_lettersAt s0 (f_X9_lettersAt N x0 x1 s) := by
    intro s0 hm
    unfold f_X9_lettersAt
    refine itr_ind (Q := fun (f : Int32 → Int32 → Mem → Option (Int32 × Mem)) => ∀ y0 y1 s, Sm W_X9_lettersAt s0 s → Fr W_X9_lettersAt s0 (f y0 y1 s)) (fun _ _ _ _ => fr_none) (fun _ ih4 => ?_) N _ _ _ (by assumption)
    refine frst_X9_lettersAt_4   ih4
  exact key s sm_refl
def W_X9_parishIs (c i : Nat) : Prop := W_X3_isTold c i ∨ W_X0_tired 32 c i ∨ W_X9_lettersAt c i
theorem fr_X9_parishIs (N : Nat) (x1 : Int32) (x2 : Int32) (s : Mem) : Fr W_X9_parishIs s (f_X9_parishIs N x1 x2 s) := by
  have key : ∀ s0 : Mem, Sm W_X9_parishIs s0 s → Fr W_X9_parishIs s0 (f_X9_parishIs N x1 x2 s) := by
    intro s0 hm
    unfold f_X9_parishIs
    refine fr_call (fr_X3_isTold _ _ _) (fun c i h => Or.inl h) (by assumption) (fun _ _ _ => ?_)
    refine fr_ite ?_ ?_
    · exact fr_some (by assumption)
    · refine fr_ite ?_ ?_
      · refine fr_chk (fun _ => ?_)
        exact fr_some (by assumption)
      · refine fr_ite ?_ ?_
        · refine fr_call (fr_X0_tired _ _ _ _) (fun c i h => Or.inr (Or.inl h)) (by assumption) (fun _ _ _ => ?_)
          exact fr_some (by assumption)
        · refine fr_ite ?_ ?_
          · refine fr_call (fr_X9_lettersAt _ _ _ _) (fun c i h => Or.inr (Or.inr h)) (by assumption) (fun _ _ _ => ?_)
            exact fr_some (by assumption)
          · refine fr_ite ?_ ?_
            · refine fr_call (fr_X9_lettersAt _ _ _ _) (fun c i h => Or.inr (Or.inr h)) (by assumption) (fun _ _ _ => ?_)
              exact fr_some (by assumption)
            · exact fr_some (by assumption)
  exact key s sm_refl
def W_X9_letterIs (c i : Nat) : Prop := W_X0_isTold 32 c i ∨ W_X0_isInForce 32 c i
theorem fr_X9_letterIs (N : Nat) (x1 : Int32) (x2 : Int32) (s : Mem) : Fr W_X9_letterIs s (f_X9_letterIs N x1 x2 s) := by
  have key : ∀ s0 : Mem, Sm W_X9_letterIs s0 s → Fr W_X9_letterIs s0 (f_X9_letterIs N x1 x2 s) := by
    intro s0 hm
    unfold f_X9_letterIs
    refine fr_call (fr_X0_isTold _ _ _ _) (fun c i h => Or.inl h) (by assumption) (fun _ _ _ => ?_)
    refine fr_ite ?_ ?_
    · exact fr_some (by assumption)
    · refine fr_ite ?_ ?_
      · refine fr_chk (fun _ => ?_)
        exact fr_some (by assumption)
      · refine fr_ite ?_ ?_
        · refine fr_chk (fun _ => ?_)
          exact fr_some (by assumption)
        · refine fr_ite ?_ ?_
          · refine fr_chk (fun _ => ?_)
            exact fr_some (by assumption)
          · refine fr_ite ?_ ?_
            · refine fr_call (fr_X0_isInForce _ _ _ _) (fun c i h => Or.inr h) (by assumption) (fun _ _ _ => ?_)
              refine fr_ite ?_ ?_
              · exact fr_some (by assumption)
              · exact fr_some (by assumption)
            · refine fr_ite ?_ ?_
              · refine fr_chk (fun _ => ?_)
                exact fr_some (by assumption)
              · refine fr_ite ?_ ?_
                · refine fr_chk (fun _ => ?_)
                  exact fr_some (by assumption)
                · exact fr_some (by assumption)
  exact key s sm_refl
def W_X9_toldAt (c i : Nat) : Prop := W_X0_isTold 32 c i ∨ W_X3_isTold c i ∨ W_X9_hasBit c i
theorem fr_X9_toldAt (N : Nat) (x1 : Int32) (x2 : Int32) (s : Mem) : Fr W_X9_toldAt s (f_X9_toldAt N x1 x2 s) := by
  have key : ∀ s0 : Mem, Sm W_X9_toldAt s0 s → Fr W_X9_toldAt s0 (f_X9_toldAt N x1 x2 s) := by
    intro s0 hm
    unfold f_X9_toldAt
    refine fr_call (fr_X0_isTold _ _ _ _) (fun c i h => Or.inl h) (by assumption) (fun _ _ _ => ?_)
    refine fr_ite ?_ ?_
    · exact fr_some (by assumption)
    · refine fr_call (fr_X3_isTold _ _ _) (fun c i h => Or.inr (Or.inl h)) (by assumption) (fun _ _ _ => ?_)
      refine fr_ite ?_ ?_
      · exact fr_some (by assumption)
      · refine fr_chk (fun _ => ?_)
        refine fr_call (fr_X9_hasBit _ _ _ _) (fun c i h => Or.inr (Or.inr h)) (by assumption) (fun _ _ _ => ?_)
        refine fr_ite ?_ ?_
        · exact fr_some (by assumption)
        · refine fr_chk (fun _ => ?_)
          refine fr_chk (fun _ => ?_)
          exact fr_some (by assumption)
  exact key s sm_refl
def W_X9_spreads (c i : Nat) : Prop := W_X0_isTold 32 c i ∨ W_X9_isWithin c i ∨ W_X0_isInForce 32 c i ∨ W_X0_copy 62 32 c i ∨ W_X2_spread 62 77 c i ∨ W_X2_spread 62 85 c i ∨ W_X2_howMany c i ∨ W_X2_last c i ∨ W_X2_behindIn c i ∨ W_X3_isTold c i
theorem fr_X9_spreads (N : Nat) (x1 : Int32) (x2 : Int32) (s : Mem) : Fr W_X9_spreads s (f_X9_spreads N x1 x2 s) := by
  have key : ∀ s0 : Mem, Sm W_X9_spreads s0 s → Fr W_X9_spreads s0 (f_X9_spreads N x1 x2 s) := by
    intro s0 hm
    unfold f_X9_spreads
    refine fr_call (fr_X0_isTold _ _ _ _) (fun c i h => Or.inl h) (by assumption) (fun _ _ _ => ?_)
    refine fr_ite ?_ ?_
    · exact fr_some (by assumption)
    · refine fr_call (fr_X9_isWithin _ _ _ _ _) (fun c i h => Or.inr (Or.inl h)) (by assumption) (fun _ _ _ => ?_)
      refine fr_join (fun j => ∀ (s5 : Mem), Sm W_X9_spreads s0 s5 → Fr W_X9_spreads s0 (j s5)) (fun s5 hm => ?_) (fun j35 hj35 => ?_)
      · refine fr_call (fr_X0_isInForce _ _ _ _) (fun c i h => Or.inr (Or.inr (Or.inl h))) (by assumption) (fun _ _ _ => ?_)
        refine fr_ite ?_ ?_
        · exact fr_some (by assumption)
        · refine fr_call (fr_X0_copy _ _ _ _) (fun c i h => Or.inr (Or.inr (Or.inr (Or.inl h)))) (by assumption) (fun _ _ _ => ?_)
          refine fr_lt ?_
          refine fr_ckc (fun hq_q10 => ?_)
          refine fr_call (fr_X2_spread _ _ _ _ _) (isLw_cases hq_q10 (fun z => ∀ c i, W_X2_spread 62 z c i → W_X9_spreads c i) (fun c i h => Or.inr (Or.inr (Or.inr (Or.inr (Or.inl h))))) (fun c i h => Or.inr (Or.inr (Or.inr (Or.inr (Or.inr (Or.inl h))))))) (by assumption) (fun _ _ _ => ?_)
          refine fr_ite ?_ ?_
          · refine fr_call (fr_X2_howMany _ _) (fun c i h => Or.inr (Or.inr (Or.inr (Or.inr (Or.inr (Or.inr (Or.inl h))))))) (by assumption) (fun _ _ _ => ?_)
            exact fr_some (by assumption)
          · refine fr_ite ?_ ?_
            · refine fr_call (fr_X2_last _ _) (fun c i h => Or.inr (Or.inr (Or.inr (Or.inr (Or.inr (Or.inr (Or.inr (Or.inl h)))))))) (by assumption) (fun _ _ _ => ?_)
              refine fr_call (fr_X2_behindIn _ _ _) (fun c i h => Or.inr (Or.inr (Or.inr (Or.inr (Or.inr (Or.inr (Or.inr (Or.inr (Or.inl h))))))))) (by assumption) (fun _ _ _ => ?_)
              exact fr_some (by assumption)
            · refine fr_ite ?_ ?_
              · refine fr_call (fr_X2_last _ _) (fun c i h => Or.inr (Or.inr (Or.inr (Or.inr (Or.inr (Or.inr (Or.inr (Or.inl h)))))))) (by assumption) (fun _ _ _ => ?_)
                exact fr_some (by assumption)
              · refine fr_call (fr_X2_behindIn _ _ _) (fun c i h => Or.inr (Or.inr (Or.inr (Or.inr (Or.inr (Or.inr (Or.inr (Or.inr (Or.inl h))))))))) (by assumption) (fun _ _ _ => ?_)
                exact fr_some (by assumption)
      · refine fr_ite ?_ ?_
        · refine fr_call (fr_X3_isTold _ _ _) (fun c i h => Or.inr (Or.inr (Or.inr (Or.inr (Or.inr (Or.inr (Or.inr (Or.inr (Or.inr h))))))))) (by assumption) (fun _ _ _ => ?_)
          refine fr_ite ?_ ?_
          · exact fr_some (by assumption)
          · exact hj35 _ (by assumption)
        · exact hj35 _ (by assumption)
  exact key s sm_refl
def W_X9_miles (c i : Nat) : Prop := W_X3_isTold c i ∨ W_X3_way c i
theorem fr_X9_miles (N : Nat) (x1 : Int32) (x2 : Int32) (s : Mem) : Fr W_X9_miles s (f_X9_miles N x1 x2 s) := by
  have key : ∀ s0 : Mem, Sm W_X9_miles s0 s → Fr W_X9_miles s0 (f_X9_miles N x1 x2 s) := by
    intro s0 hm
    unfold f_X9_miles
    refine fr_call (fr_X3_isTold _ _ _) (fun c i h => Or.inl h) (by assumption) (fun _ _ _ => ?_)
    refine fr_ite ?_ ?_
    · exact fr_some (by assumption)
    · refine fr_call (fr_X3_isTold _ _ _) (fun c i h => Or.inl h) (by assumption) (fun _ _ _ => ?_)
      refine fr_ite ?_ ?_
      · exact fr_some (by assumption)
      · refine fr_call (fr_X3_way _ _ _ _) (fun c i h => Or.inr h) (by assumption) (fun _ _ _ => ?_)
        refine fr_ite ?_ ?_
        · exact fr_some (by assumption)
        · exact fr_some (by assumption)
  exact key s sm_refl
def W_X9_isSome (c i : Nat) : Prop := W_J6_bitCount_0f7a4 c i
theorem fr_X9_isSome (N : Nat) (x0 : Int32) (x1 : Int32) (x2 : Int32) (s : Mem) : Fr W_X9_isSome s (f_X9_isSome N x0 x1 x2 s) := by
  have key : ∀ s0 : Mem, Sm W_X9_isSome s0 s → Fr W_X9_isSome s0 (f_X9_isSome N x0 x1 x2 s) := by
    intro s0 hm
    unfold f_X9_isSome
    refine fr_ite ?_ ?_
    · exact fr_some (by assumption)
    · refine fr_ite ?_ ?_
      · refine fr_call (fr_J6_bitCount_0f7a4 _ _ _) (fun c i h => h) (by assumption) (fun _ _ _ => ?_)
        refine fr_ite ?_ ?_
        · exact fr_some (by assumption)
        · exact fr_some (by assumption)
      · exact fr_some (by assumption)
  exact key s sm_refl
def W_X9_round (c i : Nat) : Prop := W_X3_isTold c i ∨ W_X9_isSome c i ∨ W_X9_hasBit c i ∨ W_X3_goRound c i ∨ W_X3_stopAt c i ∨ W_J6_bitCount_0f7a4 c i ∨ W_X9_isWithin c i
theorem fr_X9_round (N : Nat) (x1 : Int32) (x2 : Int32) (x3 : Int32) (s : Mem) : Fr W_X9_round s (f_X9_round N x1 x2 x3 s) := by
  have key : ∀ s0 : Mem, Sm W_X9_round s0 s → Fr W_X9_round s0 (f_X9_round N x1 x2 x3 s) := by
    intro s0 hm
    unfold f_X9_round
    refine fr_call (fr_X3_isTold _ _ _) (fun c i h => Or.inl h) (by assumption) (fun _ _ _ => ?_)
    refine fr_ite ?_ ?_
    · exact fr_some (by assumption)
    · refine fr_call (fr_X9_isSome _ _ _ _ _) (fun c i h => Or.inr (Or.inl h)) (by assumption) (fun _ _ _ => ?_)
      refine fr_ite ?_ ?_
      · exact fr_some (by assumption)
      · refine fr_call (fr_X9_hasBit _ _ _ _) (fun c i h => Or.inr (Or.inr (Or.inl h))) (by assumption) (fun _ _ _ => ?_)
        refine fr_ite ?_ ?_
        · refine fr_join (fun j => ∀ (s7 : Mem), Sm W_X9_round s0 s7 → Fr W_X9_round s0 (j s7)) (fun s7 hm => ?_) (fun j59 hj59 => ?_)
          · refine fr_call (fr_X3_goRound _ _ _ _) (fun c i h => Or.inr (Or.inr (Or.inr (Or.inl h)))) (by assumption) (fun _ _ _ => ?_)
            refine fr_ite ?_ ?_
            · refine fr_ite ?_ ?_
              · exact fr_some (by assumption)
              · refine fr_call (fr_X3_stopAt _ _ _) (fun c i h => Or.inr (Or.inr (Or.inr (Or.inr (Or.inl h))))) (by assumption) (fun _ _ _ => ?_)
                exact fr_some (by assumption)
            · exact fr_some (by assumption)
          · refine fr_ite ?_ ?_
            · exact hj59 _ (by assumption)
            · refine fr_call (fr_J6_bitCount_0f7a4 _ _ _) (fun c i h => Or.inr (Or.inr (Or.inr (Or.inr (Or.inr (Or.inl h)))))) (by assumption) (fun _ _ _ => ?_)
              refine fr_call (fr_X9_isWithin _ _ _ _ _) (fun c i h => Or.inr (Or.inr (Or.inr (Or.inr (Or.inr (Or.inr h)))))) (by assumption) (fun _ _ _ => ?_)
              refine fr_ite ?_ ?_
              · exact fr_some (by assumption)
              · exact hj59 _ (by assumption)
        · exact fr_some (by assumption)
  exact key s sm_refl
def W_X9_readsMost (c i : Nat) : Prop := W_X3_isTold c i ∨ W_X9_isSome c i ∨ W_X2_readMost 32 77 c i ∨ W_X2_readMost 32 85 c i ∨ W_X2_readAt c i ∨ W_J6_bitCount_0f7a4 c i ∨ W_X9_isWithin c i
theorem fr_X9_readsMost (N : Nat) (x1 : Int32) (x2 : Int32) (x3 : Int32) (s : Mem) : Fr W_X9_readsMost s (f_X9_readsMost N x1 x2 x3 s) := by
  have key : ∀ s0 : Mem, Sm W_X9_readsMost s0 s → Fr W_X9_readsMost s0 (f_X9_readsMost N x1 x2 x3 s) := by
    intro s0 hm
    unfold f_X9_readsMost
    refine fr_call (fr_X3_isTold _ _ _) (fun c i h => Or.inl h) (by assumption) (fun _ _ _ => ?_)
    refine fr_ite ?_ ?_
    · exact fr_some (by assumption)
    · refine fr_call (fr_X9_isSome _ _ _ _ _) (fun c i h => Or.inr (Or.inl h)) (by assumption) (fun _ _ _ => ?_)
      refine fr_ite ?_ ?_
      · exact fr_some (by assumption)
      · refine fr_join (fun j => ∀ (s5 : Mem), Sm W_X9_readsMost s0 s5 → Fr W_X9_readsMost s0 (j s5)) (fun s5 hm => ?_) (fun j50 hj50 => ?_)
        · refine fr_lt ?_
          refine fr_ckc (fun hq_q6 => ?_)
          refine fr_call (fr_X2_readMost _ _ _ _ _ _) (isLw_cases hq_q6 (fun z => ∀ c i, W_X2_readMost 32 z c i → W_X9_readsMost c i) (fun c i h => Or.inr (Or.inr (Or.inl h))) (fun c i h => Or.inr (Or.inr (Or.inr (Or.inl h))))) (by assumption) (fun _ _ _ => ?_)
          refine fr_ite ?_ ?_
          · exact fr_some (by assumption)
          · refine fr_call (fr_X2_readAt _ _ _ _) (fun c i h => Or.inr (Or.inr (Or.inr (Or.inr (Or.inl h))))) (by assumption) (fun _ _ _ => ?_)
            exact fr_some (by assumption)
        · refine fr_ite ?_ ?_
          · exact hj50 _ (by assumption)
          · refine fr_call (fr_J6_bitCount_0f7a4 _ _ _) (fun c i h => Or.inr (Or.inr (Or.inr (Or.inr (Or.inr (Or.inl h)))))) (by assumption) (fun _ _ _ => ?_)
            refine fr_call (fr_X9_isWithin _ _ _ _ _) (fun c i h => Or.inr (Or.inr (Or.inr (Or.inr (Or.inr (Or.inr h)))))) (by assumption) (fun _ _ _ => ?_)
            refine fr_ite ?_ ?_
            · exact fr_some (by assumption)
            · exact hj50 _ (by assumption)
  exact key s sm_refl
def W_X9_bestMonth (c i : Nat) : Prop := W_X3_isTold c i ∨ W_X0_isTold 32 c i ∨ W_X9_isWithin c i ∨ W_X2_bestOf 32 77 c i ∨ W_X2_bestOf 32 85 c i
theorem fr_X9_bestMonth (N : Nat) (x1 : Int32) (x2 : Int32) (x3 : Int32) (s : Mem) : Fr W_X9_bestMonth s (f_X9_bestMonth N x1 x2 x3 s) := by
  have key : ∀ s0 : Mem, Sm W_X9_bestMonth s0 s → Fr W_X9_bestMonth s0 (f_X9_bestMonth N x1 x2 x3 s) := by
    intro s0 hm
    unfold f_X9_bestMonth
    refine fr_call (fr_X3_isTold _ _ _) (fun c i h => Or.inl h) (by assumption) (fun _ _ _ => ?_)
    refine fr_ite ?_ ?_
    · exact fr_some (by assumption)
    · refine fr_call (fr_X0_isTold _ _ _ _) (fun c i h => Or.inr (Or.inl h)) (by assumption) (fun _ _ _ => ?_)
      refine fr_ite ?_ ?_
      · exact fr_some (by assumption)
      · refine fr_call (fr_X9_isWithin _ _ _ _ _) (fun c i h => Or.inr (Or.inr (Or.inl h))) (by assumption) (fun _ _ _ => ?_)
        refine fr_ite ?_ ?_
        · exact fr_some (by assumption)
        · refine fr_lt ?_
          refine fr_ckc (fun hq_q7 => ?_)
          refine fr_call (fr_X2_bestOf _ _ _ _ _ _) (isLw_cases hq_q7 (fun z => ∀ c i, W_X2_bestOf 32 z c i → W_X9_bestMonth c i) (fun c i h => Or.inr (Or.inr (Or.inr (Or.inl h)))) (fun c i h => Or.inr (Or.inr (Or.inr (Or.inr h))))) (by assumption) (fun _ _ _ => ?_)
          refine fr_ite ?_ ?_
          · exact fr_some (by assumption)
          · exact fr_some (by assumption)
  exact key s sm_refl
def W_X9_tales (c i : Nat) : Prop := W_X0_isTold 32 c i ∨ W_X9_isWithin c i ∨ W_X2_falseTales 32 77 c i ∨ W_X2_falseTales 32 85 c i ∨ W_X0_largestTale 32 c i
theorem fr_X9_tales (N : Nat) (x1 : Int32) (x2 : Int32) (s : Mem) : Fr W_X9_tales s (f_X9_tales N x1 x2 s) := by
  have key : ∀ s0 : Mem, Sm W_X9_tales s0 s → Fr W_X9_tales s0 (f_X9_tales N x1 x2 s) := by
    intro s0 hm
    unfold f_X9_tales
    refine fr_call (fr_X0_isTold _ _ _ _) (fun c i h => Or.inl h) (by assumption) (fun _ _ _ => ?_)
    refine fr_ite ?_ ?_
    · exact fr_some (by assumption)
    · refine fr_call (fr_X9_isWithin _ _ _ _ _) (fun c i h => Or.inr (Or.inl h)) (by assumption) (fun _ _ _ => ?_)
      refine fr_ite ?_ ?_
      · exact fr_some (by assumption)
      · refine fr_ite ?_ ?_
        · refine fr_lt ?_
          refine fr_ckc (fun hq_q10 => ?_)
          refine fr_call (fr_X2_falseTales _ _ _ _ _) (isLw_cases hq_q10 (fun z => ∀ c i, W_X2_falseTales 32 z c i → W_X9_tales c i) (fun c i h => Or.inr (Or.inr (Or.inl h))) (fun c i h => Or.inr (Or.inr (Or.inr (Or.inl h))))) (by assumption) (fun _ _ _ => ?_)
          exact fr_some (by assumption)
        · refine fr_call (fr_X0_largestTale _ _ _ _) (fun c i h => Or.inr (Or.inr (Or.inr (Or.inr h)))) (by assumption) (fun _ _ _ => ?_)
          refine fr_ite ?_ ?_
          · exact fr_some (by assumption)
          · refine fr_call (fr_X9_isWithin _ _ _ _ _) (fun c i h => Or.inr (Or.inl h)) (by assumption) (fun _ _ _ => ?_)
            refine fr_ite ?_ ?_
            · exact fr_some (by assumption)
            · refine fr_chk (fun _ => ?_)
              refine fr_chk (fun _ => ?_)
              refine fr_chk (fun _ => ?_)
              exact fr_some (by assumption)
  exact key s sm_refl
def W_X9_far (c i : Nat) : Prop := W_X9_isLetter c i ∨ W_X1_isWritten c i ∨ W_X1_apart c i
theorem fr_X9_far (N : Nat) (x1 : Int32) (x2 : Int32) (s : Mem) : Fr W_X9_far s (f_X9_far N x1 x2 s) := by
  have key : ∀ s0 : Mem, Sm W_X9_far s0 s → Fr W_X9_far s0 (f_X9_far N x1 x2 s) := by
    intro s0 hm
    unfold f_X9_far
    refine fr_call (fr_X9_isLetter _ _ _) (fun c i h => Or.inl h) (by assumption) (fun _ _ _ => ?_)
    refine fr_ite ?_ ?_
    · exact fr_some (by assumption)
    · refine fr_call (fr_X9_isLetter _ _ _) (fun c i h => Or.inl h) (by assumption) (fun _ _ _ => ?_)
      refine fr_ite ?_ ?_
      · exact fr_some (by assumption)
      · refine fr_call (fr_X1_isWritten _ _ _) (fun c i h => Or.inr (Or.inl h)) (by assumption) (fun _ _ _ => ?_)
        refine fr_ite ?_ ?_
        · exact fr_some (by assumption)
        · refine fr_call (fr_X1_isWritten _ _ _) (fun c i h => Or.inr (Or.inl h)) (by assumption) (fun _ _ _ => ?_)
          refine fr_ite ?_ ?_
          · exact fr_some (by assumption)
          · refine fr_call (fr_X1_apart _ _ _ _) (fun c i h => Or.inr (Or.inr h)) (by assumption) (fun _ _ _ => ?_)
            exact fr_some (by assumption)
  exact key s sm_refl
def W_X9_nearest (c i : Nat) : Prop := W_X9_isWithin c i ∨ W_X8_has c i ∨ W_X8_take c i ∨ W_X1_nearestTo c i
theorem fr_X9_nearest (N : Nat) (x1 : Int32) (x2 : Int32) (s : Mem) : Fr W_X9_nearest s (f_X9_nearest N x1 x2 s) := by
  have key : ∀ s0 : Mem, Sm W_X9_nearest s0 s → Fr W_X9_nearest s0 (f_X9_nearest N x1 x2 s) := by
    intro s0 hm
    unfold f_X9_nearest
    refine fr_call (fr_X9_isWithin _ _ _ _ _) (fun c i h => Or.inl h) (by assumption) (fun _ _ _ => ?_)
    refine fr_ite ?_ ?_
    · exact fr_some (by assumption)
    · refine fr_call (fr_X8_has _ _ _ _ _) (fun c i h => Or.inr (Or.inl h)) (by assumption) (fun _ _ _ => ?_)
      refine fr_ite ?_ ?_
      · exact fr_some (by assumption)
      · refine fr_call (fr_X8_take _ _) (fun c i h => Or.inr (Or.inr (Or.inl h))) (by assumption) (fun _ _ _ => ?_)
        refine fr_ckc (fun hq_r6 => ?_)
        refine fr_call (fr_X1_nearestTo _ _ _ _) (fun c i h => Or.inr (Or.inr (Or.inr h))) (by assumption) (fun _ _ _ => ?_)
        refine fr_ite ?_ ?_
        · exact fr_some (by assumption)
        · refine fr_ite ?_ ?_
          · exact fr_some (by assumption)
          · exact fr_some (by assumption)
  exact key s sm_refl
def W_X9_fromWhom (c i : Nat) : Prop := W_X1_tree c i
theorem fr_X9_fromWhom (N : Nat) (s : Mem) : Fr W_X9_fromWhom s (f_X9_fromWhom N s) := by
  have key : ∀ s0 : Mem, Sm W_X9_fromWhom s0 s → Fr W_X9_fromWhom s0 (f_X9_fromWhom N s) := by
    intro s0 hm
    unfold f_X9_fromWhom
    refine fr_call (fr_X1_tree _ _) (fun c i h => h) (by assumption) (fun _ _ _ => ?_)
    exact fr_some (by assumption)
  exact key s sm_refl
def W_X9_misspelt (c i : Nat) : Prop := W_X9_isLetter c i ∨ W_X1_isWritten c i ∨ W_X1_partAt c i
theorem fr_X9_misspelt (N : Nat) (x1 : Int32) (x2 : Int32) (s : Mem) : Fr W_X9_misspelt s (f_X9_misspelt N x1 x2 s) := by
  have key : ∀ s0 : Mem, Sm W_X9_misspelt s0 s → Fr W_X9_misspelt s0 (f_X9_misspelt N x1 x2 s) := by
    intro s0 hm
    unfold f_X9_misspelt
    refine fr_call (fr_X9_isLetter _ _ _) (fun c i h => Or.inl h) (by assumption) (fun _ _ _ => ?_)
    refine fr_ite ?_ ?_
    · exact fr_some (by assumption)
    · refine fr_call (fr_X9_isLetter _ _ _) (fun c i h => Or.inl h) (by assumption) (fun _ _ _ => ?_)
      refine fr_ite ?_ ?_
      · exact fr_some (by assumption)
      · refine fr_call (fr_X1_isWritten _ _ _) (fun c i h => Or.inr (Or.inl h)) (by assumption) (fun _ _ _ => ?_)
        refine fr_ite ?_ ?_
        · exact fr_some (by assumption)
        · refine fr_call (fr_X1_isWritten _ _ _) (fun c i h => Or.inr (Or.inl h)) (by assumption) (fun _ _ _ => ?_)
          refine fr_ite ?_ ?_
          · exact fr_some (by assumption)
          · refine fr_call (fr_X1_partAt _ _ _ _) (fun c i h => Or.inr (Or.inr h)) (by assumption) (fun _ _ _ => ?_)
            exact fr_some (by assumption)
  exact key s sm_refl
def W_X9_bids (c i : Nat) : Prop := W_X9_isWithin c i ∨ W_X8_has c i ∨ W_X8_take c i ∨ W_X5_winner c i ∨ W_X5_price c i
theorem fr_X9_bids (N : Nat) (x1 : Int32) (x2 : Int32) (x3 : Int32) (s : Mem) : Fr W_X9_bids s (f_X9_bids N x1 x2 x3 s) := by
  have key : ∀ s0 : Mem, Sm W_X9_bids s0 s → Fr W_X9_bids s0 (f_X9_bids N x1 x2 x3 s) := by
    intro s0 hm
    unfold f_X9_bids
    refine fr_call (fr_X9_isWithin _ _ _ _ _) (fun c i h => Or.inl h) (by assumption) (fun _ _ _ => ?_)
    refine fr_ite ?_ ?_
    · exact fr_some (by assumption)
    · refine fr_call (fr_X9_isWithin _ _ _ _ _) (fun c i h => Or.inl h) (by assumption) (fun _ _ _ => ?_)
      refine fr_ite ?_ ?_
      · exact fr_some (by assumption)
      · refine fr_call (fr_X8_has _ _ _ _ _) (fun c i h => Or.inr (Or.inl h)) (by assumption) (fun _ _ _ => ?_)
        refine fr_ite ?_ ?_
        · exact fr_some (by assumption)
        · refine fr_call (fr_X8_take _ _) (fun c i h => Or.inr (Or.inr (Or.inl h))) (by assumption) (fun _ _ _ => ?_)
          refine fr_ckc (fun hq_r8 => ?_)
          refine fr_call (fr_X5_winner _ _ _ _) (fun c i h => Or.inr (Or.inr (Or.inr (Or.inl h)))) (by assumption) (fun _ _ _ => ?_)
          refine fr_ite ?_ ?_
          · exact fr_some (by assumption)
          · refine fr_chk (fun _ => ?_)
            refine fr_ite ?_ ?_
            · refine fr_ite ?_ ?_
              · exact fr_some (by assumption)
              · refine fr_call (fr_X5_price _ _ _ _ _ _) (fun c i h => Or.inr (Or.inr (Or.inr (Or.inr h)))) (by assumption) (fun _ _ _ => ?_)
                exact fr_some (by assumption)
            · exact fr_some (by assumption)
  exact key s sm_refl
def W_X9_divided (c i : Nat) : Prop := W_X9_isWithin c i ∨ W_X8_has c i ∨ W_X8_take c i ∨ W_X5_takeLosses c i ∨ W_X5_divide c i
theorem fr_X9_divided (N : Nat) (x1 : Int32) (x2 : Int32) (x3 : Int32) (x4 : Int32) (s : Mem) : Fr W_X9_divided s (f_X9_divided N x1 x2 x3 x4 s) := by
  have key : ∀ s0 : Mem, Sm W_X9_divided s0 s → Fr W_X9_divided s0 (f_X9_divided N x1 x2 x3 x4 s) := by
    intro s0 hm
    unfold f_X9_divided
    refine fr_call (fr_X9_isWithin _ _ _ _ _) (fun c i h => Or.inl h) (by assumption) (fun _ _ _ => ?_)
    refine fr_ite ?_ ?_
    · exact fr_some (by assumption)
    · refine fr_call (fr_X9_isWithin _ _ _ _ _) (fun c i h => Or.inl h) (by assumption) (fun _ _ _ => ?_)
      refine fr_ite ?_ ?_
      · exact fr_some (by assumption)
      · refine fr_call (fr_X9_isWithin _ _ _ _ _) (fun c i h => Or.inl h) (by assumption) (fun _ _ _ => ?_)
        refine fr_ite ?_ ?_
        · exact fr_some (by assumption)
        · refine fr_call (fr_X9_isWithin _ _ _ _ _) (fun c i h => Or.inl h) (by assumption) (fun _ _ _ => ?_)
          refine fr_ite ?_ ?_
          · exact fr_some (by assumption)
          · refine fr_call (fr_X8_has _ _ _ _ _) (fun c i h => Or.inr (Or.inl h)) (by assumption) (fun _ _ _ => ?_)
            refine fr_ite ?_ ?_
            · exact fr_some (by assumption)
            · refine fr_call (fr_X8_take _ _) (fun c i h => Or.inr (Or.inr (Or.inl h))) (by assumption) (fun _ _ _ => ?_)
              refine fr_ckc (fun hq_r12 => ?_)
              refine fr_call (fr_X5_takeLosses _ _ _ _) (fun c i h => Or.inr (Or.inr (Or.inr (Or.inl h)))) (by assumption) (fun _ _ _ => ?_)
              refine fr_ite ?_ ?_
              · exact fr_some (by assumption)
              · refine fr_call (fr_X5_divide _ _ _ _ _) (fun c i h => Or.inr (Or.inr (Or.inr (Or.inr h)))) (by assumption) (fun _ _ _ => ?_)
                refine fr_chk (fun _ => ?_)
                exact fr_some (by assumption)
  exact key s sm_refl
def W_X9_coins (c i : Nat) : Prop := W_X9_isWithin c i ∨ W_X8_has c i ∨ W_X8_take c i ∨ W_X5_takeCoins c i ∨ W_X5_fewest c i ∨ W_X5_ways c i ∨ W_X5_greatestFirst c i
theorem fr_X9_coins (N : Nat) (x1 : Int32) (x2 : Int32) (x3 : Int32) (s : Mem) : Fr W_X9_coins s (f_X9_coins N x1 x2 x3 s) := by
  have key : ∀ s0 : Mem, Sm W_X9_coins s0 s → Fr W_X9_coins s0 (f_X9_coins N x1 x2 x3 s) := by
    intro s0 hm
    unfold f_X9_coins
    refine fr_call (fr_X9_isWithin _ _ _ _ _) (fun c i h => Or.inl h) (by assumption) (fun _ _ _ => ?_)
    refine fr_ite ?_ ?_
    · exact fr_some (by assumption)
    · refine fr_call (fr_X9_isWithin _ _ _ _ _) (fun c i h => Or.inl h) (by assumption) (fun _ _ _ => ?_)
      refine fr_ite ?_ ?_
      · exact fr_some (by assumption)
      · refine fr_call (fr_X8_has _ _ _ _ _) (fun c i h => Or.inr (Or.inl h)) (by assumption) (fun _ _ _ => ?_)
        refine fr_ite ?_ ?_
        · exact fr_some (by assumption)
        · refine fr_call (fr_X8_take _ _) (fun c i h => Or.inr (Or.inr (Or.inl h))) (by assumption) (fun _ _ _ => ?_)
          refine fr_ckc (fun hq_r8 => ?_)
          refine fr_call (fr_X5_takeCoins _ _ _ _) (fun c i h => Or.inr (Or.inr (Or.inr (Or.inl h)))) (by assumption) (fun _ _ _ => ?_)
          refine fr_ite ?_ ?_
          · exact fr_some (by assumption)
          · refine fr_ite ?_ ?_
            · refine fr_call (fr_X5_fewest _ _ _) (fun c i h => Or.inr (Or.inr (Or.inr (Or.inr (Or.inl h))))) (by assumption) (fun _ _ _ => ?_)
              exact fr_some (by assumption)
            · refine fr_ite ?_ ?_
              · refine fr_call (fr_X5_ways _ _ _) (fun c i h => Or.inr (Or.inr (Or.inr (Or.inr (Or.inr (Or.inl h)))))) (by assumption) (fun _ _ _ => ?_)
                exact fr_some (by assumption)
              · refine fr_call (fr_X5_greatestFirst _ _ _) (fun c i h => Or.inr (Or.inr (Or.inr (Or.inr (Or.inr (Or.inr h)))))) (by assumption) (fun _ _ _ => ?_)
                exact fr_some (by assumption)
  exact key s sm_refl
def W_X9_lent (c i : Nat) : Prop := W_X0_isTold 32 c i ∨ W_X9_isWithin c i ∨ W_X0_copy 62 32 c i ∨ W_X0_pass 62 77 c i ∨ W_X0_pass 62 85 c i
theorem fr_X9_lent (N : Nat) (x1 : Int32) (x2 : Int32) (x3 : Int32) (s : Mem) : Fr W_X9_lent s (f_X9_lent N x1 x2 x3 s) := by
  have key : ∀ s0 : Mem, Sm W_X9_lent s0 s → Fr W_X9_lent s0 (f_X9_lent N x1 x2 x3 s) := by
    intro s0 hm
    unfold f_X9_lent
    refine fr_call (fr_X0_isTold _ _ _ _) (fun c i h => Or.inl h) (by assumption) (fun _ _ _ => ?_)
    refine fr_ite ?_ ?_
    · exact fr_some (by assumption)
    · refine fr_call (fr_X9_isWithin _ _ _ _ _) (fun c i h => Or.inr (Or.inl h)) (by assumption) (fun _ _ _ => ?_)
      refine fr_ite ?_ ?_
      · exact fr_some (by assumption)
      · refine fr_call (fr_X9_isWithin _ _ _ _ _) (fun c i h => Or.inr (Or.inl h)) (by assumption) (fun _ _ _ => ?_)
        refine fr_ite ?_ ?_
        · exact fr_some (by assumption)
        · refine fr_call (fr_X0_copy _ _ _ _) (fun c i h => Or.inr (Or.inr (Or.inl h))) (by assumption) (fun _ _ _ => ?_)
          refine fr_lt ?_
          refine fr_ckc (fun hq_q9 => ?_)
          refine fr_call (fr_X0_pass _ _ _ _ _) (isLw_cases hq_q9 (fun z => ∀ c i, W_X0_pass 62 z c i → W_X9_lent c i) (fun c i h => Or.inr (Or.inr (Or.inr (Or.inl h)))) (fun c i h => Or.inr (Or.inr (Or.inr (Or.inr h))))) (by assumption) (fun _ _ _ => ?_)
          refine fr_chk (fun _ => ?_)
          refine fr_lt ?_
          refine fr_lt ?_
          exact fr_some (by assumption)
  exact key s sm_refl
def W_X9_seed (c i : Nat) : Prop := W_X9_isWithin c i ∨ (c = 32 ∧ i = 13)
theorem fr_X9_seed (N : Nat) (x1 : Int32) (s : Mem) : Fr W_X9_seed s (f_X9_seed N x1 s) := by
  have key : ∀ s0 : Mem, Sm W_X9_seed s0 s → Fr W_X9_seed s0 (f_X9_seed N x1 s) := by
    intro s0 hm
    unfold f_X9_seed
    refine fr_call (fr_X9_isWithin _ _ _ _ _) (fun c i h => Or.inl h) (by assumption) (fun _ _ _ => ?_)
    refine fr_ite ?_ ?_
    · exact fr_some (by assumption)
    · refine fr_si (by assumption) (Or.inr ⟨rfl, rfl⟩) (fun _ _ => ?_)
      exact fr_some (by assumption)
  exact key s sm_refl
def W_X9_keep (c i : Nat) : Prop := W_X0_copy 47 32 c i ∨ (c = 0 ∧ i = 11)
theorem fr_X9_keep (N : Nat) (s : Mem) : Fr W_X9_keep s (f_X9_keep N s) := by
  have key : ∀ s0 : Mem, Sm W_X9_keep s0 s → Fr W_X9_keep s0 (f_X9_keep N s) := by
    intro s0 hm
    unfold f_X9_keep
    refine fr_call (fr_X0_copy _ _ _ _) (fun c i h => Or.inl h) (by assumption) (fun _ _ _ => ?_)
    refine fr_si (by assumption) (Or.inr ⟨rfl, rfl⟩) (fun _ _ => ?_)
    exact fr_some (by assumption)
  exact key s sm_refl
def W_X9_undo (c i : Nat) : Prop := W_X0_copy 32 47 c i
theorem fr_X9_undo (N : Nat) (s : Mem) : Fr W_X9_undo s (f_X9_undo N s) := by
  have key : ∀ s0 : Mem, Sm W_X9_undo s0 s → Fr W_X9_undo s0 (f_X9_undo N s) := by
    intro s0 hm
    unfold f_X9_undo
    refine fr_ite ?_ ?_
    · exact fr_some (by assumption)
    · refine fr_call (fr_X0_copy _ _ _ _) (fun c i h => h) (by assumption) (fun _ _ _ => ?_)
      exact fr_some (by assumption)
  exact key s sm_refl
def W_X9_check (c i : Nat) : Prop := W_X8_has c i ∨ W_X8_take c i
theorem frst_X9_check_27 {s0 : Mem} {N : Nat} {x1 : Int32} {x2 : Nat} {rec : Int32 → Mem → Option (Int32 × Mem)}   (ih : ∀ (y0 : Int32) (y1 : Mem), Sm W_X9_check s0 y1 → Fr W_X9_check s0 (rec y0 y1)) : ∀ (x3 : Int32) (s : Mem), Sm W_X9_check s0 s → Fr W_X9_check s0 (st_X9_check_27 N x1 x2 rec x3 s) := by
  intro x3 s hm
  unfold st_X9_check_27
  refine fr_ite ?_ ?_
  · exact fr_some (by assumption)
  · refine fr_ite ?_ ?_
    · exact fr_some (by assumption)
    · refine fr_chk (fun _ => ?_)
      refine fr_chk (fun _ => ?_)
      refine fr_ite ?_ ?_
      · refine fr_lt ?_
        exact ih _ _ (by assumption)
      · exact fr_some (by assumption)
theorem fr_X9_check (N : Nat) (x1 : Int32) (s : Mem) : Fr W_X9_check s (f_X9_check N x1 s) := by
  have key : ∀ s0 : Mem, Sm W_X9_check s0 s → Fr W_X9_check s0 (f_X9_check N x1 s) := by
    intro s0 hm
    unfold f_X9_check
    refine fr_call (fr_X8_has _ _ _ _ _) (fun c i h => Or.inl h) (by assumption) (fun _ _ _ => ?_)
    refine fr_ite ?_ ?_
    · exact fr_some (by assumption)
    · refine fr_call (fr_X8_take _ _) (fun c i h => Or.inr h) (by assumption) (fun _ _ _ => ?_)
      refine fr_ckc (fun hq_r4 => ?_)
      refine itr_ind (Q := fun (f : Int32 → Mem → Option (Int32 × Mem)) => ∀ y0 s, Sm W_X9_check s0 s → Fr W_X9_check s0 (f y0 s)) (fun _ _ _ => fr_none) (fun _ ih27 => ?_) N _ _ (by assumption)
      refine frst_X9_check_27   ih27
  exact key s sm_refl
def W_X9_count (c i : Nat) : Prop := W_X1_written c i ∨ W_X1_isWritten c i
theorem fr_X9_count (N : Nat) (x1 : Int32) (s : Mem) : Fr W_X9_count s (f_X9_count N x1 s) := by
  have key : ∀ s0 : Mem, Sm W_X9_count s0 s → Fr W_X9_count s0 (f_X9_count N x1 s) := by
    intro s0 hm
    unfold f_X9_count
    refine fr_ite ?_ ?_
    · exact fr_some (by assumption)
    · refine fr_ite ?_ ?_
      · exact fr_some (by assumption)
      · refine fr_ite ?_ ?_
        · exact fr_some (by assumption)
        · refine fr_ite ?_ ?_
          · exact fr_some (by assumption)
          · refine fr_ite ?_ ?_
            · exact fr_some (by assumption)
            · refine fr_ite ?_ ?_
              · exact fr_some (by assumption)
              · refine fr_ite ?_ ?_
                · refine fr_lt ?_
                  refine fr_ckc (fun hq_q5 => ?_)
                  exact fr_some (by assumption)
                · refine fr_ite ?_ ?_
                  · exact fr_some (by assumption)
                  · refine fr_ite ?_ ?_
                    · exact fr_some (by assumption)
                    · refine fr_ite ?_ ?_
                      · refine fr_call (fr_X1_written _ _) (fun c i h => Or.inl h) (by assumption) (fun _ _ _ => ?_)
                        exact fr_some (by assumption)
                      · refine fr_call (fr_X1_isWritten _ _ _) (fun c i h => Or.inr h) (by assumption) (fun _ _ _ => ?_)
                        refine fr_ite ?_ ?_
                        · exact fr_some (by assumption)
                        · refine fr_chk (fun _ => ?_)
                          exact fr_some (by assumption)
  exact key s sm_refl
def W_X10_in (c i : Nat) : Prop := False
theorem fr_X10_in (N : Nat) (x0 : Int32) (x1 : Int32) (x2 : Int32) (s : Mem) : Fr W_X10_in s (f_X10_in N x0 x1 x2 s) := by
  have key : ∀ s0 : Mem, Sm W_X10_in s0 s → Fr W_X10_in s0 (f_X10_in N x0 x1 x2 s) := by
    intro s0 hm
    unfold f_X10_in
    refine fr_ite ?_ ?_
    · exact fr_some (by assumption)
    · refine fr_ite ?_ ?_
      · exact fr_some (by assumption)
      · exact fr_some (by assumption)
  exact key s sm_refl
def W_X10_min (c i : Nat) : Prop := False
theorem fr_X10_min (N : Nat) (x0 : Int32) (x1 : Int32) (s : Mem) : Fr W_X10_min s (f_X10_min N x0 x1 s) := by
  have key : ∀ s0 : Mem, Sm W_X10_min s0 s → Fr W_X10_min s0 (f_X10_min N x0 x1 s) := by
    intro s0 hm
    unfold f_X10_min
    refine fr_ite ?_ ?_
    · exact fr_some (by assumption)
    · exact fr_some (by assumption)
  exact key s sm_refl
def W_X10_max (c i : Nat) : Prop := False
theorem fr_X10_max (N : Nat) (x0 : Int32) (x1 : Int32) (s : Mem) : Fr W_X10_max s (f_X10_max N x0 x1 s) := by
  have key : ∀ s0 : Mem, Sm W_X10_max s0 s → Fr W_X10_max s0 (f_X10_max N x0 x1 s) := by
    intro s0 hm
    unfold f_X10_max
    refine fr_ite ?_ ?_
    · exact fr_some (by assumption)
    · exact fr_some (by assumption)
  exact key s sm_refl
def W_X10_has (c i : Nat) : Prop := False
theorem fr_X10_has (N : Nat) (x0 : Int32) (x1 : Int32) (s : Mem) : Fr W_X10_has s (f_X10_has N x0 x1 s) := by
  have key : ∀ s0 : Mem, Sm W_X10_has s0 s → Fr W_X10_has s0 (f_X10_has N x0 x1 s) := by
    intro s0 hm
    unfold f_X10_has
    refine fr_ite ?_ ?_
    · exact fr_some (by assumption)
    · exact fr_some (by assumption)
  exact key s sm_refl
def W_X10_bits (c i : Nat) : Prop := False
theorem frst_X10_bits_4 {s0 : Mem} {N : Nat} {x0 : Int32} {rec : Int32 → Int32 → Mem → Option (Int32 × Mem)}   (ih : ∀ (y0 : Int32) (y1 : Int32) (y2 : Mem), Sm W_X10_bits s0 y2 → Fr W_X10_bits s0 (rec y0 y1 y2)) : ∀ (x1 : Int32) (x2 : Int32) (s : Mem), Sm W_X10_bits s0 s → Fr W_X10_bits s0 (st_X10_bits_4 N x0 rec x1 x2 s) := by
  intro x1 x2 s hm
  unfold st_X10_bits_4
  refine fr_ite ?_ ?_
  · exact fr_some (by assumption)
  · refine fr_lt ?_
    refine fr_lt ?_
    exact ih _ _ _ (by assumption)
theorem fr_X10_bits (N : Nat) (x0 : Int32) (s : Mem) : Fr W_X10_bits s (f_X10_bits N x0 s) := by
  have key : ∀ s0 : Mem, Sm W_X10_bits s0 s → Fr W_X10_bits s0 (f_X10_bits N x0 s) := by
    intro s0 hm
    unfold f_X10_bits
    refine itr_ind (Q := fun (f : Int32 → Int32 → Mem → Option (Int32 × Mem)) => ∀ y0 y1 s, Sm W_X10_bits s0 s → Fr W_X10_bits s0 (f y0 y1 s)) (fun _ _ _ _ => fr_none) (fun _ ih4 => ?_) N _ _ _ (by assumption)
    refine frst_X10_bits_4   ih4
  exact key s sm_refl
def W_X10_copies (x1 : Nat) (c i : Nat) : Prop := c = x1
theorem frst_X10_copies_2 {s0 : Mem} {N : Nat} {x0 : Nat} {x1 : Nat} {rec : Int32 → Mem → Option (Unit × Mem)}   (ih : ∀ (y0 : Int32) (y1 : Mem), Sm (W_X10_copies x1) s0 y1 → Fr (W_X10_copies x1) s0 (rec y0 y1)) : ∀ (x2 : Int32) (s : Mem), Sm (W_X10_copies x1) s0 s → Fr (W_X10_copies x1) s0 (st_X10_copies_2 N x0 x1 rec x2 s) := by
  intro x2 s hm
  unfold st_X10_copies_2
  refine fr_ite ?_ ?_
  · exact fr_some (by assumption)
  · refine fr_chk (fun _ => ?_)
    refine fr_chk (fun _ => ?_)
    refine fr_si (by assumption) (rfl) (fun _ _ => ?_)
    refine fr_lt ?_
    exact ih _ _ (by assumption)
theorem fr_X10_copies (N : Nat) (x0 : Nat) (x1 : Nat) (s : Mem) : Fr (W_X10_copies x1) s (f_X10_copies N x0 x1 s) := by
  have key : ∀ s0 : Mem, Sm (W_X10_copies x1) s0 s → Fr (W_X10_copies x1) s0 (f_X10_copies N x0 x1 s) := by
    intro s0 hm
    unfold f_X10_copies
    refine itr_ind (Q := fun (f : Int32 → Mem → Option (Unit × Mem)) => ∀ y0 s, Sm (W_X10_copies x1) s0 s → Fr (W_X10_copies x1) s0 (f y0 s)) (fun _ _ _ => fr_none) (fun _ ih2 => ?_) N _ _ (by assumption)
    refine frst_X10_copies_2   ih2
  exact key s sm_refl
def W_X10_isParish (c i : Nat) : Prop := W_X10_in c i ∨ W_X10_has c i
theorem fr_X10_isParish (N : Nat) (x1 : Int32) (s : Mem) : Fr W_X10_isParish s (f_X10_isParish N x1 s) := by
  have key : ∀ s0 : Mem, Sm W_X10_isParish s0 s → Fr W_X10_isParish s0 (f_X10_isParish N x1 s) := by
    intro s0 hm
    unfold f_X10_isParish
    refine fr_call (fr_X10_in _ _ _ _ _) (fun c i h => Or.inl h) (by assumption) (fun _ _ _ => ?_)
    refine fr_ite ?_ ?_
    · exact fr_some (by assumption)
    · refine fr_chk (fun _ => ?_)
      refine fr_call (fr_X10_has _ _ _ _) (fun c i h => Or.inr h) (by assumption) (fun _ _ _ => ?_)
      refine fr_ite ?_ ?_
      · exact fr_some (by assumption)
      · exact fr_some (by assumption)
  exact key s sm_refl
def W_X10_isLetter (c i : Nat) : Prop := W_X10_in c i ∨ W_X10_has c i
theorem fr_X10_isLetter (N : Nat) (x1 : Int32) (s : Mem) : Fr W_X10_isLetter s (f_X10_isLetter N x1 s) := by
  have key : ∀ s0 : Mem, Sm W_X10_isLetter s0 s → Fr W_X10_isLetter s0 (f_X10_isLetter N x1 s) := by
    intro s0 hm
    unfold f_X10_isLetter
    refine fr_call (fr_X10_in _ _ _ _ _) (fun c i h => Or.inl h) (by assumption) (fun _ _ _ => ?_)
    refine fr_ite ?_ ?_
    · exact fr_some (by assumption)
    · refine fr_chk (fun _ => ?_)
      refine fr_call (fr_X10_has _ _ _ _) (fun c i h => Or.inr h) (by assumption) (fun _ _ _ => ?_)
      refine fr_ite ?_ ?_
      · exact fr_some (by assumption)
      · exact fr_some (by assumption)
  exact key s sm_refl
def W_X10_known (c i : Nat) : Prop := False
theorem fr_X10_known (N : Nat) (x0 : Int32) (x1 : Int32) (s : Mem) : Fr W_X10_known s (f_X10_known N x0 x1 s) := by
  have key : ∀ s0 : Mem, Sm W_X10_known s0 s → Fr W_X10_known s0 (f_X10_known N x0 x1 s) := by
    intro s0 hm
    unfold f_X10_known
    exact fr_some (by assumption)
  exact key s sm_refl
def W_X10_isKnown (c i : Nat) : Prop := W_X10_known c i
theorem fr_X10_isKnown (N : Nat) (x1 : Int32) (x2 : Int32) (s : Mem) : Fr W_X10_isKnown s (f_X10_isKnown N x1 x2 s) := by
  have key : ∀ s0 : Mem, Sm W_X10_isKnown s0 s → Fr W_X10_isKnown s0 (f_X10_isKnown N x1 x2 s) := by
    intro s0 hm
    unfold f_X10_isKnown
    refine fr_call (fr_X10_known _ _ _ _) (fun c i h => h) (by assumption) (fun _ _ _ => ?_)
    refine fr_chk (fun _ => ?_)
    refine fr_ite ?_ ?_
    · exact fr_some (by assumption)
    · exact fr_some (by assumption)
  exact key s sm_refl
def W_X10_tired (c i : Nat) : Prop := False
theorem fr_X10_tired (N : Nat) (x1 : Int32) (s : Mem) : Fr W_X10_tired s (f_X10_tired N x1 s) := by
  have key : ∀ s0 : Mem, Sm W_X10_tired s0 s → Fr W_X10_tired s0 (f_X10_tired N x1 s) := by
    intro s0 hm
    unfold f_X10_tired
    refine fr_chk (fun _ => ?_)
    refine fr_chk (fun _ => ?_)
    refine fr_chk (fun _ => ?_)
    exact fr_some (by assumption)
  exact key s sm_refl
def W_X10_parish (c i : Nat) : Prop := W_X10_in c i ∨ c = 1
theorem fr_X10_parish (N : Nat) (x1 : Int32) (x2 : Int32) (s : Mem) : Fr W_X10_parish s (f_X10_parish N x1 x2 s) := by
  have key : ∀ s0 : Mem, Sm W_X10_parish s0 s → Fr W_X10_parish s0 (f_X10_parish N x1 x2 s) := by
    intro s0 hm
    unfold f_X10_parish
    refine fr_call (fr_X10_in _ _ _ _ _) (fun c i h => Or.inl h) (by assumption) (fun _ _ _ => ?_)
    refine fr_ite ?_ ?_
    · exact fr_some (by assumption)
    · refine fr_call (fr_X10_in _ _ _ _ _) (fun c i h => Or.inl h) (by assumption) (fun _ _ _ => ?_)
      refine fr_ite ?_ ?_
      · exact fr_some (by assumption)
      · refine fr_chk (fun _ => ?_)
        refine fr_chk (fun _ => ?_)
        refine fr_si (by assumption) (Or.inr rfl) (fun _ _ => ?_)
        refine fr_chk (fun _ => ?_)
        refine fr_si (by assumption) (Or.inr rfl) (fun _ _ => ?_)
        exact fr_some (by assumption)
  exact key s sm_refl
def W_X10_road (c i : Nat) : Prop := W_X10_isParish c i ∨ W_X10_in c i ∨ c = 4
theorem fr_X10_road (N : Nat) (x1 : Int32) (x2 : Int32) (x3 : Int32) (s : Mem) : Fr W_X10_road s (f_X10_road N x1 x2 x3 s) := by
  have key : ∀ s0 : Mem, Sm W_X10_road s0 s → Fr W_X10_road s0 (f_X10_road N x1 x2 x3 s) := by
    intro s0 hm
    unfold f_X10_road
    refine fr_call (fr_X10_isParish _ _ _) (fun c i h => Or.inl h) (by assumption) (fun _ _ _ => ?_)
    refine fr_ite ?_ ?_
    · exact fr_some (by assumption)
    · refine fr_call (fr_X10_isParish _ _ _) (fun c i h => Or.inl h) (by assumption) (fun _ _ _ => ?_)
      refine fr_ite ?_ ?_
      · exact fr_some (by assumption)
      · refine fr_ite ?_ ?_
        · exact fr_some (by assumption)
        · refine fr_call (fr_X10_in _ _ _ _ _) (fun c i h => Or.inr (Or.inl h)) (by assumption) (fun _ _ _ => ?_)
          refine fr_ite ?_ ?_
          · exact fr_some (by assumption)
          · refine fr_chk (fun _ => ?_)
            refine fr_si (by assumption) (Or.inr (Or.inr rfl)) (fun _ _ => ?_)
            refine fr_chk (fun _ => ?_)
            refine fr_si (by assumption) (Or.inr (Or.inr rfl)) (fun _ _ => ?_)
            exact fr_some (by assumption)
  exact key s sm_refl
def W_X10_letter (c i : Nat) : Prop := W_X10_in c i ∨ W_X10_isParish c i ∨ c = 1 ∨ W_X10_known c i
theorem frst_X10_letter_115 {s0 : Mem} {N : Nat} {x1 : Int32} {x2 : Int32} {x3 : Int32} {rec : Int32 → Mem → Option (Int32 × Mem)}   (ih : ∀ (y0 : Int32) (y1 : Mem), Sm W_X10_letter s0 y1 → Fr W_X10_letter s0 (rec y0 y1)) : ∀ (x4 : Int32) (s : Mem), Sm W_X10_letter s0 s → Fr W_X10_letter s0 (st_X10_letter_115 N x1 x2 x3 rec x4 s) := by
  intro x4 s hm
  unfold st_X10_letter_115
  refine fr_ite ?_ ?_
  · exact fr_some (by assumption)
  · refine fr_call (fr_X10_known _ _ _ _) (fun c i h => Or.inr (Or.inr (Or.inr h))) (by assumption) (fun _ _ _ => ?_)
    refine fr_ite ?_ ?_
    · refine fr_chk (fun _ => ?_)
      refine fr_si (by assumption) (Or.inr (Or.inr (Or.inl rfl))) (fun _ _ => ?_)
      refine fr_lt ?_
      exact ih _ _ (by assumption)
    · refine fr_chk (fun _ => ?_)
      refine fr_si (by assumption) (Or.inr (Or.inr (Or.inl rfl))) (fun _ _ => ?_)
      refine fr_lt ?_
      exact ih _ _ (by assumption)
theorem fr_X10_letter (N : Nat) (x1 : Int32) (x2 : Int32) (x3 : Int32) (s : Mem) : Fr W_X10_letter s (f_X10_letter N x1 x2 x3 s) := by
  have key : ∀ s0 : Mem, Sm W_X10_letter s0 s → Fr W_X10_letter s0 (f_X10_letter N x1 x2 x3 s) := by
    intro s0 hm
    unfold f_X10_letter
    refine fr_call (fr_X10_in _ _ _ _ _) (fun c i h => Or.inl h) (by assumption) (fun _ _ _ => ?_)
    refine fr_ite ?_ ?_
    · exact fr_some (by assumption)
    · refine fr_call (fr_X10_isParish _ _ _) (fun c i h => Or.inr (Or.inl h)) (by assumption) (fun _ _ _ => ?_)
      refine fr_ite ?_ ?_
      · exact fr_some (by assumption)
      · refine fr_call (fr_X10_in _ _ _ _ _) (fun c i h => Or.inl h) (by assumption) (fun _ _ _ => ?_)
        refine fr_ite ?_ ?_
        · exact fr_some (by assumption)
        · refine fr_chk (fun _ => ?_)
          refine fr_chk (fun _ => ?_)
          refine fr_si (by assumption) (Or.inr (Or.inr (Or.inl rfl))) (fun _ _ => ?_)
          refine fr_chk (fun _ => ?_)
          refine fr_chk (fun _ => ?_)
          refine fr_si (by assumption) (Or.inr (Or.inr (Or.inl rfl))) (fun _ _ => ?_)
          refine fr_chk (fun _ => ?_)
          refine fr_si (by assumption) (Or.inr (Or.inr (Or.inl rfl))) (fun _ _ => ?_)
          refine fr_chk (fun _ => ?_)
          refine fr_si (by assumption) (Or.inr (Or.inr (Or.inl rfl))) (fun _ _ => ?_)
          refine fr_chk (fun _ => ?_)
          refine fr_si (by assumption) (Or.inr (Or.inr (Or.inl rfl))) (fun _ _ => ?_)
          refine fr_chk (fun _ => ?_)
          refine fr_si (by assumption) (Or.inr (Or.inr (Or.inl rfl))) (fun _ _ => ?_)
          refine itr_ind (Q := fun (f : Int32 → Mem → Option (Int32 × Mem)) => ∀ y0 s, Sm W_X10_letter s0 s → Fr W_X10_letter s0 (f y0 s)) (fun _ _ _ => fr_none) (fun _ ih115 => ?_) N _ _ (by assumption)
          refine frst_X10_letter_115   ih115
  exact key s sm_refl
def W_X10_types (c i : Nat) : Prop := c = 5 ∨ (c = 0 ∧ i = 5)
theorem frst_X10_types_2 {s0 : Mem} {N : Nat} {x1 : Int32} {rec : Int32 → Mem → Option (Unit × Mem)}   (ih : ∀ (y0 : Int32) (y1 : Mem), Sm W_X10_types s0 y1 → Fr W_X10_types s0 (rec y0 y1)) : ∀ (x2 : Int32) (s : Mem), Sm W_X10_types s0 s → Fr W_X10_types s0 (st_X10_types_2 N x1 rec x2 s) := by
  intro x2 s hm
  unfold st_X10_types_2
  refine fr_ite ?_ ?_
  · exact fr_some (by assumption)
  · refine fr_chk (fun _ => ?_)
    refine fr_si (by assumption) (Or.inl rfl) (fun _ _ => ?_)
    refine fr_si (by assumption) (Or.inr ⟨rfl, rfl⟩) (fun _ _ => ?_)
    refine fr_lt ?_
    exact ih _ _ (by assumption)
theorem fr_X10_types (N : Nat) (x1 : Int32) (s : Mem) : Fr W_X10_types s (f_X10_types N x1 s) := by
  have key : ∀ s0 : Mem, Sm W_X10_types s0 s → Fr W_X10_types s0 (f_X10_types N x1 s) := by
    intro s0 hm
    unfold f_X10_types
    refine itr_ind (Q := fun (f : Int32 → Mem → Option (Unit × Mem)) => ∀ y0 s, Sm W_X10_types s0 s → Fr W_X10_types s0 (f y0 s)) (fun _ _ _ => fr_none) (fun _ ih2 => ?_) N _ _ (by assumption)
    refine frst_X10_types_2   ih2
  exact key s sm_refl
def W_X10_feed (c i : Nat) : Prop := W_X10_types c i
theorem fr_X10_feed (N : Nat) (x1 : Int32) (x2 : Int32) (x3 : Int32) (x4 : Int32) (x5 : Int32) (s : Mem) : Fr W_X10_feed s (f_X10_feed N x1 x2 x3 x4 x5 s) := by
  have key : ∀ s0 : Mem, Sm W_X10_feed s0 s → Fr W_X10_feed s0 (f_X10_feed N x1 x2 x3 x4 x5 s) := by
    intro s0 hm
    unfold f_X10_feed
    refine fr_ite ?_ ?_
    · refine fr_call (fr_X10_types _ _ _) (fun c i h => h) (by assumption) (fun _ _ _ => ?_)
      refine fr_call (fr_X10_types _ _ _) (fun c i h => h) (by assumption) (fun _ _ _ => ?_)
      refine fr_call (fr_X10_types _ _ _) (fun c i h => h) (by assumption) (fun _ _ _ => ?_)
      refine fr_call (fr_X10_types _ _ _) (fun c i h => h) (by assumption) (fun _ _ _ => ?_)
      refine fr_call (fr_X10_types _ _ _) (fun c i h => h) (by assumption) (fun _ _ _ => ?_)
      exact fr_some (by assumption)
    · exact fr_some (by assumption)
  exact key s sm_refl
def W_X10_octet (c i : Nat) : Prop := False
theorem fr_X10_octet (N : Nat) (x1 : Int32) (s : Mem) : Fr W_X10_octet s (f_X10_octet N x1 s) := by
  have key : ∀ s0 : Mem, Sm W_X10_octet s0 s → Fr W_X10_octet s0 (f_X10_octet N x1 s) := by
    intro s0 hm
    unfold f_X10_octet
    refine fr_chk (fun _ => ?_)
    exact fr_some (by assumption)
  exact key s sm_refl
def W_X10_here (c i : Nat) : Prop := False
theorem fr_X10_here (N : Nat) (s : Mem) : Fr W_X10_here s (f_X10_here N s) := by
  have key : ∀ s0 : Mem, Sm W_X10_here s0 s → Fr W_X10_here s0 (f_X10_here N s) := by
    intro s0 hm
    unfold f_X10_here
    refine fr_ite ?_ ?_
    · exact fr_some (by assumption)
    · refine fr_chk (fun _ => ?_)
      exact fr_some (by assumption)
  exact key s sm_refl
def W_X10_isDigit (c i : Nat) : Prop := W_X10_here c i
theorem fr_X10_isDigit (N : Nat) (s : Mem) : Fr W_X10_isDigit s (f_X10_isDigit N s) := by
  have key : ∀ s0 : Mem, Sm W_X10_isDigit s0 s → Fr W_X10_isDigit s0 (f_X10_isDigit N s) := by
    intro s0 hm
    unfold f_X10_isDigit
    refine fr_call (fr_X10_here _ _) (fun c i h => h) (by assumption) (fun _ _ _ => ?_)
    refine fr_ite ?_ ?_
    · exact fr_some (by assumption)
    · refine fr_call (fr_X10_here _ _) (fun c i h => h) (by assumption) (fun _ _ _ => ?_)
      refine fr_ite ?_ ?_
      · exact fr_some (by assumption)
      · exact fr_some (by assumption)
  exact key s sm_refl
def W_X10_wrongAt (c i : Nat) : Prop := (c = 0 ∧ i = 8)
theorem fr_X10_wrongAt (N : Nat) (x1 : Int32) (x2 : Int32) (s : Mem) : Fr W_X10_wrongAt s (f_X10_wrongAt N x1 x2 s) := by
  have key : ∀ s0 : Mem, Sm W_X10_wrongAt s0 s → Fr W_X10_wrongAt s0 (f_X10_wrongAt N x1 x2 s) := by
    intro s0 hm
    unfold f_X10_wrongAt
    refine fr_si (by assumption) (⟨rfl, rfl⟩) (fun _ _ => ?_)
    exact fr_some (by assumption)
  exact key s sm_refl
def W_X10_takes (c i : Nat) : Prop := W_X10_here c i ∨ (c = 0 ∧ i = 6) ∨ W_X10_wrongAt c i
theorem fr_X10_takes (N : Nat) (x1 : Int32) (s : Mem) : Fr W_X10_takes s (f_X10_takes N x1 s) := by
  have key : ∀ s0 : Mem, Sm W_X10_takes s0 s → Fr W_X10_takes s0 (f_X10_takes N x1 s) := by
    intro s0 hm
    unfold f_X10_takes
    refine fr_call (fr_X10_here _ _) (fun c i h => Or.inl h) (by assumption) (fun _ _ _ => ?_)
    refine fr_ite ?_ ?_
    · refine fr_si (by assumption) (Or.inr (Or.inl ⟨rfl, rfl⟩)) (fun _ _ => ?_)
      exact fr_some (by assumption)
    · refine fr_call (fr_X10_wrongAt _ _ _ _) (fun c i h => Or.inr (Or.inr h)) (by assumption) (fun _ _ _ => ?_)
      refine fr_ckz ?_
      exact fr_some (by assumption)
  exact key s sm_refl
def W_X10_readsNumber (c i : Nat) : Prop := (c = 0 ∧ i = 9) ∨ W_X10_isDigit c i ∨ W_X10_wrongAt c i ∨ W_X10_here c i ∨ (c = 0 ∧ i = 6)
theorem frst_X10_readsNumber_10 {s0 : Mem} {N : Nat} {x1 : Int32} {rec : Mem → Option (Int32 × Mem)}   (ih : ∀ (y0 : Mem), Sm W_X10_readsNumber s0 y0 → Fr W_X10_readsNumber s0 (rec y0)) : ∀  (s : Mem), Sm W_X10_readsNumber s0 s → Fr W_X10_readsNumber s0 (st_X10_readsNumber_10 N x1 rec s) := by
  intro  s hm
  unfold st_X10_readsNumber_10
  refine fr_call (fr_X10_isDigit _ _) (fun c i h => Or.inr (Or.inl h)) (by assumption) (fun _ _ _ => ?_)
  refine fr_ite ?_ ?_
  · exact fr_some (by assumption)
  · refine fr_ite ?_ ?_
    · refine fr_call (fr_X10_wrongAt _ _ _ _) (fun c i h => Or.inr (Or.inr (Or.inl h))) (by assumption) (fun _ _ _ => ?_)
      refine fr_ckz ?_
      exact fr_some (by assumption)
    · refine fr_call (fr_X10_here _ _) (fun c i h => Or.inr (Or.inr (Or.inr (Or.inl h)))) (by assumption) (fun _ _ _ => ?_)
      refine fr_si (by assumption) (Or.inl ⟨rfl, rfl⟩) (fun _ _ => ?_)
      refine fr_si (by assumption) (Or.inr (Or.inr (Or.inr (Or.inr ⟨rfl, rfl⟩)))) (fun _ _ => ?_)
      exact ih _ (by assumption)
theorem fr_X10_readsNumber (N : Nat) (s : Mem) : Fr W_X10_readsNumber s (f_X10_readsNumber N s) := by
  have key : ∀ s0 : Mem, Sm W_X10_readsNumber s0 s → Fr W_X10_readsNumber s0 (f_X10_readsNumber N s) := by
    intro s0 hm
    unfold f_X10_readsNumber
    refine fr_lt ?_
    refine fr_si (by assumption) (Or.inl ⟨rfl, rfl⟩) (fun _ _ => ?_)
    refine itr_ind (Q := fun (f : Mem → Option (Int32 × Mem)) => ∀  s, Sm W_X10_readsNumber s0 s → Fr W_X10_readsNumber s0 (f  s)) (fun _ _ => fr_none) (fun _ ih10 => ?_) N  _ (by assumption)
    refine frst_X10_readsNumber_10   ih10
  exact key s sm_refl
def W_X10_notes (c i : Nat) : Prop := c = 6 ∨ (c = 0 ∧ i = 11)
theorem fr_X10_notes (N : Nat) (x1 : Int32) (x2 : Int32) (s : Mem) : Fr W_X10_notes s (f_X10_notes N x1 x2 s) := by
  have key : ∀ s0 : Mem, Sm W_X10_notes s0 s → Fr W_X10_notes s0 (f_X10_notes N x1 x2 s) := by
    intro s0 hm
    unfold f_X10_notes
    refine fr_chk (fun _ => ?_)
    refine fr_si (by assumption) (Or.inl rfl) (fun _ _ => ?_)
    refine fr_si (by assumption) (Or.inr ⟨rfl, rfl⟩) (fun _ _ => ?_)
    exact fr_some (by assumption)
  exact key s sm_refl
def W_X10_opens (c i : Nat) : Prop := W_X10_wrongAt c i ∨ (c = 0 ∧ i = 10) ∨ c = 7 ∨ (c = 0 ∧ i = 12) ∨ (c = 0 ∧ i = 6)
theorem fr_X10_opens (N : Nat) (x1 : Int32) (s : Mem) : Fr W_X10_opens s (f_X10_opens N x1 s) := by
  have key : ∀ s0 : Mem, Sm W_X10_opens s0 s → Fr W_X10_opens s0 (f_X10_opens N x1 s) := by
    intro s0 hm
    unfold f_X10_opens
    refine fr_ite ?_ ?_
    · refine fr_call (fr_X10_wrongAt _ _ _ _) (fun c i h => Or.inl h) (by assumption) (fun _ _ _ => ?_)
      refine fr_ckz ?_
      exact fr_some (by assumption)
    · refine fr_si (by assumption) (Or.inr (Or.inl ⟨rfl, rfl⟩)) (fun _ _ => ?_)
      refine fr_chk (fun _ => ?_)
      refine fr_si (by assumption) (Or.inr (Or.inr (Or.inl rfl))) (fun _ _ => ?_)
      refine fr_si (by assumption) (Or.inr (Or.inr (Or.inr (Or.inl ⟨rfl, rfl⟩)))) (fun _ _ => ?_)
      refine fr_si (by assumption) (Or.inr (Or.inr (Or.inr (Or.inr ⟨rfl, rfl⟩)))) (fun _ _ => ?_)
      exact fr_some (by assumption)
  exact key s sm_refl
def W_X10_waitTop (c i : Nat) : Prop := False
theorem fr_X10_waitTop (N : Nat) (s : Mem) : Fr W_X10_waitTop s (f_X10_waitTop N s) := by
  have key : ∀ s0 : Mem, Sm W_X10_waitTop s0 s → Fr W_X10_waitTop s0 (f_X10_waitTop N s) := by
    intro s0 hm
    unfold f_X10_waitTop
    refine fr_ite ?_ ?_
    · exact fr_some (by assumption)
    · refine fr_chk (fun _ => ?_)
      exact fr_some (by assumption)
  exact key s sm_refl
def W_X10_factOf (c i : Nat) : Prop := False
theorem fr_X10_factOf (N : Nat) (x0 : Int32) (s : Mem) : Fr W_X10_factOf s (f_X10_factOf N x0 s) := by
  have key : ∀ s0 : Mem, Sm W_X10_factOf s0 s → Fr W_X10_factOf s0 (f_X10_factOf N x0 s) := by
    intro s0 hm
    unfold f_X10_factOf
    refine fr_ite ?_ ?_
    · exact fr_some (by assumption)
    · refine fr_ite ?_ ?_
      · exact fr_some (by assumption)
      · refine fr_ite ?_ ?_
        · exact fr_some (by assumption)
        · refine fr_ite ?_ ?_
          · exact fr_some (by assumption)
          · refine fr_ite ?_ ?_
            · exact fr_some (by assumption)
            · refine fr_ite ?_ ?_
              · exact fr_some (by assumption)
              · refine fr_ite ?_ ?_
                · exact fr_some (by assumption)
                · exact fr_some (by assumption)
  exact key s sm_refl
def W_X10_sumSign (c i : Nat) : Prop := False
theorem fr_X10_sumSign (N : Nat) (x0 : Int32) (s : Mem) : Fr W_X10_sumSign s (f_X10_sumSign N x0 s) := by
  have key : ∀ s0 : Mem, Sm W_X10_sumSign s0 s → Fr W_X10_sumSign s0 (f_X10_sumSign N x0 s) := by
    intro s0 hm
    unfold f_X10_sumSign
    refine fr_ite ?_ ?_
    · exact fr_some (by assumption)
    · refine fr_ite ?_ ?_
      · exact fr_some (by assumption)
      · refine fr_ite ?_ ?_
        · exact fr_some (by assumption)
        · refine fr_ite ?_ ?_
          · exact fr_some (by assumption)
          · refine fr_ite ?_ ?_
            · exact fr_some (by assumption)
            · exact fr_some (by assumption)
  exact key s sm_refl
def W_X10_closesSums (c i : Nat) : Prop := W_X10_waitTop c i ∨ W_X10_notes c i ∨ (c = 0 ∧ i = 12)
theorem frst_X10_closesSums_0 {s0 : Mem} {N : Nat} {x1 : Int32} {rec : Mem → Option (Unit × Mem)}   (ih : ∀ (y0 : Mem), Sm W_X10_closesSums s0 y0 → Fr W_X10_closesSums s0 (rec y0)) : ∀  (s : Mem), Sm W_X10_closesSums s0 s → Fr W_X10_closesSums s0 (st_X10_closesSums_0 N x1 rec s) := by
  intro  s hm
  unfold st_X10_closesSums_0
  refine fr_call (fr_X10_waitTop _ _) (fun c i h => Or.inl h) (by assumption) (fun _ _ _ => ?_)
  refine fr_join (fun j => ∀ (s3 : Mem), Sm W_X10_closesSums s0 s3 → Fr W_X10_closesSums s0 (j s3)) (fun s3 hm => ?_) (fun j37 hj37 => ?_)
  · refine fr_call (fr_X10_waitTop _ _) (fun c i h => Or.inl h) (by assumption) (fun _ _ _ => ?_)
    refine fr_call (fr_X10_notes _ _ _ _) (fun c i h => Or.inr (Or.inl h)) (by assumption) (fun _ _ _ => ?_)
    refine fr_si (by assumption) (Or.inr (Or.inr ⟨rfl, rfl⟩)) (fun _ _ => ?_)
    exact ih _ (by assumption)
  · refine fr_join (fun j => ∀ (s9 : Mem), Sm W_X10_closesSums s0 s9 → Fr W_X10_closesSums s0 (j s9)) (fun s9 hm => ?_) (fun j17 hj17 => ?_)
    · refine fr_ite ?_ ?_
      · exact fr_some (by assumption)
      · refine fr_call (fr_X10_waitTop _ _) (fun c i h => Or.inl h) (by assumption) (fun _ _ _ => ?_)
        refine fr_ite ?_ ?_
        · exact hj37 _ (by assumption)
        · refine fr_call (fr_X10_waitTop _ _) (fun c i h => Or.inl h) (by assumption) (fun _ _ _ => ?_)
          refine fr_ite ?_ ?_
          · exact hj37 _ (by assumption)
          · exact fr_some (by assumption)
    · refine fr_ite ?_ ?_
      · exact hj17 _ (by assumption)
      · refine fr_call (fr_X10_waitTop _ _) (fun c i h => Or.inl h) (by assumption) (fun _ _ _ => ?_)
        refine fr_ite ?_ ?_
        · exact hj37 _ (by assumption)
        · exact hj17 _ (by assumption)
theorem fr_X10_closesSums (N : Nat) (x1 : Int32) (s : Mem) : Fr W_X10_closesSums s (f_X10_closesSums N x1 s) := by
  have key : ∀ s0 : Mem, Sm W_X10_closesSums s0 s → Fr W_X10_closesSums s0 (f_X10_closesSums N x1 s) := by
    intro s0 hm
    unfold f_X10_closesSums
    refine itr_ind (Q := fun (f : Mem → Option (Unit × Mem)) => ∀  s, Sm W_X10_closesSums s0 s → Fr W_X10_closesSums s0 (f  s)) (fun _ _ => fr_none) (fun _ ih0 => ?_) N  _ (by assumption)
    refine frst_X10_closesSums_0   ih0
  exact key s sm_refl
def W_X10_readsFactor (c i : Nat) : Prop := W_X10_here c i ∨ W_X10_opens c i ∨ W_X10_isDigit c i ∨ W_X10_factOf c i ∨ W_X10_wrongAt c i ∨ W_X10_notes c i ∨ (c = 0 ∧ i = 6) ∨ W_X10_readsNumber c i
theorem frst_X10_readsFactor_0 {s0 : Mem} {N : Nat} {k20 : Mem → Option (Int32 × Mem)} {rec : Mem → Option (Int32 × Mem)}  (hk20 : ∀ (y0 : Mem), Sm W_X10_readsFactor s0 y0 → Fr W_X10_readsFactor s0 (k20 y0)) (ih : ∀ (y0 : Mem), Sm W_X10_readsFactor s0 y0 → Fr W_X10_readsFactor s0 (rec y0)) : ∀  (s : Mem), Sm W_X10_readsFactor s0 s → Fr W_X10_readsFactor s0 (st_X10_readsFactor_0 N k20 rec s) := by
  intro  s hm
  unfold st_X10_readsFactor_0
  refine fr_call (fr_X10_here _ _) (fun c i h => Or.inl h) (by assumption) (fun _ _ _ => ?_)
  refine fr_ite ?_ ?_
  · refine fr_call (fr_X10_opens _ _ _) (fun c i h => Or.inr (Or.inl h)) (by assumption) (fun _ _ _ => ?_)
    refine fr_ite ?_ ?_
    · exact fr_some (by assumption)
    · exact ih _ (by assumption)
  · exact hk20 _ (by assumption)
theorem fr_X10_readsFactor (N : Nat) (s : Mem) : Fr W_X10_readsFactor s (f_X10_readsFactor N s) := by
  have key : ∀ s0 : Mem, Sm W_X10_readsFactor s0 s → Fr W_X10_readsFactor s0 (f_X10_readsFactor N s) := by
    intro s0 hm
    unfold f_X10_readsFactor
    refine itr_ind (Q := fun (f : Mem → Option (Int32 × Mem)) => ∀  s, Sm W_X10_readsFactor s0 s → Fr W_X10_readsFactor s0 (f  s)) (fun _ _ => fr_none) (fun _ ih0 => ?_) N  _ (by assumption)
    refine frst_X10_readsFactor_0  ?_ ih0
    · intro s5 hm
      refine fr_call (fr_X10_isDigit _ _) (fun c i h => Or.inr (Or.inr (Or.inl h))) (by assumption) (fun _ _ _ => ?_)
      refine fr_ite ?_ ?_
      · refine fr_call (fr_X10_here _ _) (fun c i h => Or.inl h) (by assumption) (fun _ _ _ => ?_)
        refine fr_call (fr_X10_factOf _ _ _) (fun c i h => Or.inr (Or.inr (Or.inr (Or.inl h)))) (by assumption) (fun _ _ _ => ?_)
        refine fr_ite ?_ ?_
        · refine fr_call (fr_X10_wrongAt _ _ _ _) (fun c i h => Or.inr (Or.inr (Or.inr (Or.inr (Or.inl h))))) (by assumption) (fun _ _ _ => ?_)
          refine fr_ckz ?_
          exact fr_some (by assumption)
        · refine fr_call (fr_X10_notes _ _ _ _) (fun c i h => Or.inr (Or.inr (Or.inr (Or.inr (Or.inr (Or.inl h)))))) (by assumption) (fun _ _ _ => ?_)
          refine fr_si (by assumption) (Or.inr (Or.inr (Or.inr (Or.inr (Or.inr (Or.inr (Or.inl ⟨rfl, rfl⟩))))))) (fun _ _ => ?_)
          exact fr_some (by assumption)
      · refine fr_call (fr_X10_readsNumber _ _) (fun c i h => Or.inr (Or.inr (Or.inr (Or.inr (Or.inr (Or.inr (Or.inr h))))))) (by assumption) (fun _ _ _ => ?_)
        refine fr_ite ?_ ?_
        · exact fr_some (by assumption)
        · refine fr_call (fr_X10_notes _ _ _ _) (fun c i h => Or.inr (Or.inr (Or.inr (Or.inr (Or.inr (Or.inl h)))))) (by assumption) (fun _ _ _ => ?_)
          exact fr_some (by assumption)
  exact key s sm_refl
def W_X10_hasOpenSum (c i : Nat) : Prop := False
theorem frst_X10_hasOpenSum_2 {s0 : Mem} {N : Nat} {rec : Int32 → Mem → Option (Int32 × Mem)}   (ih : ∀ (y0 : Int32) (y1 : Mem), Sm W_X10_hasOpenSum s0 y1 → Fr W_X10_hasOpenSum s0 (rec y0 y1)) : ∀ (x2 : Int32) (s : Mem), Sm W_X10_hasOpenSum s0 s → Fr W_X10_hasOpenSum s0 (st_X10_hasOpenSum_2 N rec x2 s) := by
  intro x2 s hm
  unfold st_X10_hasOpenSum_2
  refine fr_ite ?_ ?_
  · exact fr_some (by assumption)
  · refine fr_chk (fun _ => ?_)
    refine fr_ite ?_ ?_
    · exact fr_some (by assumption)
    · refine fr_lt ?_
      exact ih _ _ (by assumption)
theorem fr_X10_hasOpenSum (N : Nat) (x1 : Int32) (s : Mem) : Fr W_X10_hasOpenSum s (f_X10_hasOpenSum N x1 s) := by
  have key : ∀ s0 : Mem, Sm W_X10_hasOpenSum s0 s → Fr W_X10_hasOpenSum s0 (f_X10_hasOpenSum N x1 s) := by
    intro s0 hm
    unfold f_X10_hasOpenSum
    refine itr_ind (Q := fun (f : Int32 → Mem → Option (Int32 × Mem)) => ∀ y0 s, Sm W_X10_hasOpenSum s0 s → Fr W_X10_hasOpenSum s0 (f y0 s)) (fun _ _ _ => fr_none) (fun _ ih2 => ?_) N _ _ (by assumption)
    refine frst_X10_hasOpenSum_2   ih2
  exact key s sm_refl
def W_X10_readsSum (c i : Nat) : Prop := W_X10_readsFactor c i ∨ W_X10_here c i ∨ W_X10_sumSign c i ∨ W_X10_hasOpenSum c i ∨ W_X10_closesSums c i ∨ (c = 0 ∧ i = 12) ∨ (c = 0 ∧ i = 10) ∨ (c = 0 ∧ i = 6) ∨ c = 7 ∨ W_X10_wrongAt c i
theorem frst_X10_readsSum_14 {s0 : Mem} {N : Nat} {x1 : Int32} {k138 : Mem → Option (Int32 × Mem)} {rec : Mem → Option (Int32 × Mem)}  (hk138 : ∀ (y0 : Mem), Sm W_X10_readsSum s0 y0 → Fr W_X10_readsSum s0 (k138 y0)) (ih : ∀ (y0 : Mem), Sm W_X10_readsSum s0 y0 → Fr W_X10_readsSum s0 (rec y0)) : ∀  (s : Mem), Sm W_X10_readsSum s0 s → Fr W_X10_readsSum s0 (st_X10_readsSum_14 N x1 k138 rec s) := by
  intro  s hm
  unfold st_X10_readsSum_14
  refine fr_call (fr_X10_here _ _) (fun c i h => Or.inr (Or.inl h)) (by assumption) (fun _ _ _ => ?_)
  refine fr_call (fr_X10_sumSign _ _ _) (fun c i h => Or.inr (Or.inr (Or.inl h))) (by assumption) (fun _ _ _ => ?_)
  refine fr_ite ?_ ?_
  · refine fr_call (fr_X10_here _ _) (fun c i h => Or.inr (Or.inl h)) (by assumption) (fun _ _ _ => ?_)
    refine fr_ite ?_ ?_
    · refine fr_call (fr_X10_hasOpenSum _ _ _) (fun c i h => Or.inr (Or.inr (Or.inr (Or.inl h)))) (by assumption) (fun _ _ _ => ?_)
      refine fr_ite ?_ ?_
      · exact hk138 _ (by assumption)
      · refine fr_call (fr_X10_closesSums _ _ _) (fun c i h => Or.inr (Or.inr (Or.inr (Or.inr (Or.inl h))))) (by assumption) (fun _ _ _ => ?_)
        refine fr_si (by assumption) (Or.inr (Or.inr (Or.inr (Or.inr (Or.inr (Or.inl ⟨rfl, rfl⟩)))))) (fun _ _ => ?_)
        refine fr_si (by assumption) (Or.inr (Or.inr (Or.inr (Or.inr (Or.inr (Or.inr (Or.inl ⟨rfl, rfl⟩))))))) (fun _ _ => ?_)
        refine fr_si (by assumption) (Or.inr (Or.inr (Or.inr (Or.inr (Or.inr (Or.inr (Or.inr (Or.inl ⟨rfl, rfl⟩)))))))) (fun _ _ => ?_)
        exact ih _ (by assumption)
    · exact hk138 _ (by assumption)
  · refine fr_join (fun j => ∀ (t18 : Int32) (s17 : Mem), Sm W_X10_readsSum s0 s17 → Fr W_X10_readsSum s0 (j t18 s17)) (fun t18 s17 hm => ?_) (fun j38 hj38 => ?_)
    · refine fr_call (fr_X10_closesSums _ _ _) (fun c i h => Or.inr (Or.inr (Or.inr (Or.inr (Or.inl h))))) (by assumption) (fun _ _ _ => ?_)
      refine fr_chk (fun _ => ?_)
      refine fr_si (by assumption) (Or.inr (Or.inr (Or.inr (Or.inr (Or.inr (Or.inr (Or.inr (Or.inr (Or.inl rfl))))))))) (fun _ _ => ?_)
      refine fr_si (by assumption) (Or.inr (Or.inr (Or.inr (Or.inr (Or.inr (Or.inl ⟨rfl, rfl⟩)))))) (fun _ _ => ?_)
      refine fr_si (by assumption) (Or.inr (Or.inr (Or.inr (Or.inr (Or.inr (Or.inr (Or.inr (Or.inl ⟨rfl, rfl⟩)))))))) (fun _ _ => ?_)
      refine fr_call (fr_X10_readsFactor _ _) (fun c i h => Or.inl h) (by assumption) (fun _ _ _ => ?_)
      refine fr_ite ?_ ?_
      · exact fr_some (by assumption)
      · exact ih _ (by assumption)
    · refine fr_ite ?_ ?_
      · exact hj38 _ _ (by assumption)
      · exact hj38 _ _ (by assumption)
theorem fr_X10_readsSum (N : Nat) (s : Mem) : Fr W_X10_readsSum s (f_X10_readsSum N s) := by
  have key : ∀ s0 : Mem, Sm W_X10_readsSum s0 s → Fr W_X10_readsSum s0 (f_X10_readsSum N s) := by
    intro s0 hm
    unfold f_X10_readsSum
    refine fr_lt ?_
    refine fr_call (fr_X10_readsFactor _ _) (fun c i h => Or.inl h) (by assumption) (fun _ _ _ => ?_)
    refine fr_ite ?_ ?_
    · exact fr_some (by assumption)
    · refine itr_ind (Q := fun (f : Mem → Option (Int32 × Mem)) => ∀  s, Sm W_X10_readsSum s0 s → Fr W_X10_readsSum s0 (f  s)) (fun _ _ => fr_none) (fun _ ih14 => ?_) N  _ (by assumption)
      refine frst_X10_readsSum_14  ?_ ih14
      · intro s26 hm
        refine fr_call (fr_X10_hasOpenSum _ _ _) (fun c i h => Or.inr (Or.inr (Or.inr (Or.inl h)))) (by assumption) (fun _ _ _ => ?_)
        refine fr_ite ?_ ?_
        · refine fr_call (fr_X10_closesSums _ _ _) (fun c i h => Or.inr (Or.inr (Or.inr (Or.inr (Or.inl h))))) (by assumption) (fun _ _ _ => ?_)
          exact fr_some (by assumption)
        · refine fr_call (fr_X10_wrongAt _ _ _ _) (fun c i h => Or.inr (Or.inr (Or.inr (Or.inr (Or.inr (Or.inr (Or.inr (Or.inr (Or.inr h))))))))) (by assumption) (fun _ _ _ => ?_)
          refine fr_ckz ?_
          exact fr_some (by assumption)
  exact key s sm_refl
def W_X10_endsPiece (c i : Nat) : Prop := W_X10_waitTop c i ∨ W_X10_notes c i ∨ (c = 0 ∧ i = 12) ∨ (c = 0 ∧ i = 10)
theorem frst_X10_endsPiece_0 {s0 : Mem} {N : Nat} {rec : Mem → Option (Unit × Mem)}   (ih : ∀ (y0 : Mem), Sm W_X10_endsPiece s0 y0 → Fr W_X10_endsPiece s0 (rec y0)) : ∀  (s : Mem), Sm W_X10_endsPiece s0 s → Fr W_X10_endsPiece s0 (st_X10_endsPiece_0 N rec s) := by
  intro  s hm
  unfold st_X10_endsPiece_0
  refine fr_call (fr_X10_waitTop _ _) (fun c i h => Or.inl h) (by assumption) (fun _ _ _ => ?_)
  refine fr_ite ?_ ?_
  · refine fr_call (fr_X10_notes _ _ _ _) (fun c i h => Or.inr (Or.inl h)) (by assumption) (fun _ _ _ => ?_)
    refine fr_si (by assumption) (Or.inr (Or.inr (Or.inl ⟨rfl, rfl⟩))) (fun _ _ => ?_)
    refine fr_si (by assumption) (Or.inr (Or.inr (Or.inr ⟨rfl, rfl⟩))) (fun _ _ => ?_)
    exact ih _ (by assumption)
  · exact fr_some (by assumption)
theorem fr_X10_endsPiece (N : Nat) (s : Mem) : Fr W_X10_endsPiece s (f_X10_endsPiece N s) := by
  have key : ∀ s0 : Mem, Sm W_X10_endsPiece s0 s → Fr W_X10_endsPiece s0 (f_X10_endsPiece N s) := by
    intro s0 hm
    unfold f_X10_endsPiece
    refine itr_ind (Q := fun (f : Mem → Option (Unit × Mem)) => ∀  s, Sm W_X10_endsPiece s0 s → Fr W_X10_endsPiece s0 (f  s)) (fun _ _ => fr_none) (fun _ ih0 => ?_) N  _ (by assumption)
    refine frst_X10_endsPiece_0   ih0
  exact key s sm_refl
def W_X10_lands (c i : Nat) : Prop := W_X10_waitTop c i ∨ c = 6 ∨ (c = 0 ∧ i = 12)
theorem frst_X10_lands_0 {s0 : Mem} {N : Nat} {x1 : Int32} {rec : Mem → Option (Unit × Mem)}   (ih : ∀ (y0 : Mem), Sm W_X10_lands s0 y0 → Fr W_X10_lands s0 (rec y0)) : ∀  (s : Mem), Sm W_X10_lands s0 s → Fr W_X10_lands s0 (st_X10_lands_0 N x1 rec s) := by
  intro  s hm
  unfold st_X10_lands_0
  refine fr_call (fr_X10_waitTop _ _) (fun c i h => Or.inl h) (by assumption) (fun _ _ _ => ?_)
  refine fr_join (fun j => ∀ (s3 : Mem), Sm W_X10_lands s0 s3 → Fr W_X10_lands s0 (j s3)) (fun s3 hm => ?_) (fun j22 hj22 => ?_)
  · refine fr_chk (fun _ => ?_)
    refine fr_lt ?_
    refine fr_chk (fun _ => ?_)
    refine fr_chk (fun _ => ?_)
    refine fr_si (by assumption) (Or.inr (Or.inl rfl)) (fun _ _ => ?_)
    refine fr_si (by assumption) (Or.inr (Or.inr ⟨rfl, rfl⟩)) (fun _ _ => ?_)
    exact ih _ (by assumption)
  · refine fr_ite ?_ ?_
    · exact hj22 _ (by assumption)
    · refine fr_ite ?_ ?_
      · exact fr_some (by assumption)
      · refine fr_call (fr_X10_waitTop _ _) (fun c i h => Or.inl h) (by assumption) (fun _ _ _ => ?_)
        refine fr_ite ?_ ?_
        · exact hj22 _ (by assumption)
        · exact fr_some (by assumption)
theorem fr_X10_lands (N : Nat) (x1 : Int32) (s : Mem) : Fr W_X10_lands s (f_X10_lands N x1 s) := by
  have key : ∀ s0 : Mem, Sm W_X10_lands s0 s → Fr W_X10_lands s0 (f_X10_lands N x1 s) := by
    intro s0 hm
    unfold f_X10_lands
    refine itr_ind (Q := fun (f : Mem → Option (Unit × Mem)) => ∀  s, Sm W_X10_lands s0 s → Fr W_X10_lands s0 (f  s)) (fun _ _ => fr_none) (fun _ ih0 => ?_) N  _ (by assumption)
    refine frst_X10_lands_0   ih0
  exact key s sm_refl
def W_X10_jumps (c i : Nat) : Prop := c = 7 ∨ (c = 0 ∧ i = 12) ∨ W_X10_notes c i ∨ (c = 0 ∧ i = 6)
theorem fr_X10_jumps (N : Nat) (x1 : Int32) (s : Mem) : Fr W_X10_jumps s (f_X10_jumps N x1 s) := by
  have key : ∀ s0 : Mem, Sm W_X10_jumps s0 s → Fr W_X10_jumps s0 (f_X10_jumps N x1 s) := by
    intro s0 hm
    unfold f_X10_jumps
    refine fr_chk (fun _ => ?_)
    refine fr_si (by assumption) (Or.inl rfl) (fun _ _ => ?_)
    refine fr_si (by assumption) (Or.inr (Or.inl ⟨rfl, rfl⟩)) (fun _ _ => ?_)
    refine fr_call (fr_X10_notes _ _ _ _) (fun c i h => Or.inr (Or.inr (Or.inl h))) (by assumption) (fun _ _ _ => ?_)
    refine fr_si (by assumption) (Or.inr (Or.inr (Or.inr ⟨rfl, rfl⟩))) (fun _ _ => ?_)
    exact fr_some (by assumption)
  exact key s sm_refl
def W_X10_readsCompared (c i : Nat) : Prop := W_X10_readsSum c i ∨ W_X10_here c i ∨ W_X10_wrongAt c i ∨ (c = 0 ∧ i = 6) ∨ W_X10_notes c i ∨ W_X10_endsPiece c i
theorem fr_X10_readsCompared (N : Nat) (s : Mem) : Fr W_X10_readsCompared s (f_X10_readsCompared N s) := by
  have key : ∀ s0 : Mem, Sm W_X10_readsCompared s0 s → Fr W_X10_readsCompared s0 (f_X10_readsCompared N s) := by
    intro s0 hm
    unfold f_X10_readsCompared
    refine fr_call (fr_X10_readsSum _ _) (fun c i h => Or.inl h) (by assumption) (fun _ _ _ => ?_)
    refine fr_ite ?_ ?_
    · exact fr_some (by assumption)
    · refine fr_call (fr_X10_here _ _) (fun c i h => Or.inr (Or.inl h)) (by assumption) (fun _ _ _ => ?_)
      refine fr_join (fun j => ∀ (t6 : Int32) (s5 : Mem), Sm W_X10_readsCompared s0 s5 → Fr W_X10_readsCompared s0 (j t6 s5)) (fun t6 s5 hm => ?_) (fun j52 hj52 => ?_)
      · refine fr_ite ?_ ?_
        · refine fr_call (fr_X10_wrongAt _ _ _ _) (fun c i h => Or.inr (Or.inr (Or.inl h))) (by assumption) (fun _ _ _ => ?_)
          refine fr_ckz ?_
          exact fr_some (by assumption)
        · refine fr_si (by assumption) (Or.inr (Or.inr (Or.inr (Or.inl ⟨rfl, rfl⟩)))) (fun _ _ => ?_)
          refine fr_call (fr_X10_readsSum _ _) (fun c i h => Or.inl h) (by assumption) (fun _ _ _ => ?_)
          refine fr_ite ?_ ?_
          · exact fr_some (by assumption)
          · refine fr_call (fr_X10_notes _ _ _ _) (fun c i h => Or.inr (Or.inr (Or.inr (Or.inr (Or.inl h))))) (by assumption) (fun _ _ _ => ?_)
            refine fr_call (fr_X10_endsPiece _ _) (fun c i h => Or.inr (Or.inr (Or.inr (Or.inr (Or.inr h))))) (by assumption) (fun _ _ _ => ?_)
            exact fr_some (by assumption)
      · refine fr_ite ?_ ?_
        · exact hj52 _ _ (by assumption)
        · refine fr_call (fr_X10_here _ _) (fun c i h => Or.inr (Or.inl h)) (by assumption) (fun _ _ _ => ?_)
          refine fr_ite ?_ ?_
          · exact hj52 _ _ (by assumption)
          · refine fr_call (fr_X10_here _ _) (fun c i h => Or.inr (Or.inl h)) (by assumption) (fun _ _ _ => ?_)
            refine fr_ite ?_ ?_
            · exact hj52 _ _ (by assumption)
            · exact hj52 _ _ (by assumption)
  exact key s sm_refl
def W_X10_readsCondition (c i : Nat) : Prop := W_X10_here c i ∨ (c = 0 ∧ i = 10) ∨ (c = 0 ∧ i = 12) ∨ W_X10_opens c i ∨ W_X10_readsCompared c i ∨ W_X10_lands c i ∨ (c = 0 ∧ i = 6) ∨ W_X10_endsPiece c i ∨ W_X10_jumps c i ∨ W_X10_wrongAt c i
theorem frst_X10_readsCondition_92 {s0 : Mem} {N : Nat} {k152 : Mem → Option (Int32 × Mem)} {rec : Mem → Option (Int32 × Mem)}  (hk152 : ∀ (y0 : Mem), Sm W_X10_readsCondition s0 y0 → Fr W_X10_readsCondition s0 (k152 y0)) (ih : ∀ (y0 : Mem), Sm W_X10_readsCondition s0 y0 → Fr W_X10_readsCondition s0 (rec y0)) : ∀  (s : Mem), Sm W_X10_readsCondition s0 s → Fr W_X10_readsCondition s0 (st_X10_readsCondition_92 N k152 rec s) := by
  intro  s hm
  unfold st_X10_readsCondition_92
  refine fr_call (fr_X10_here _ _) (fun c i h => Or.inl h) (by assumption) (fun _ _ _ => ?_)
  refine fr_ite ?_ ?_
  · refine fr_call (fr_X10_lands _ _ _) (fun c i h => Or.inr (Or.inr (Or.inr (Or.inr (Or.inr (Or.inl h)))))) (by assumption) (fun _ _ _ => ?_)
    refine fr_si (by assumption) (Or.inr (Or.inr (Or.inl ⟨rfl, rfl⟩))) (fun _ _ => ?_)
    refine fr_si (by assumption) (Or.inr (Or.inl ⟨rfl, rfl⟩)) (fun _ _ => ?_)
    refine fr_si (by assumption) (Or.inr (Or.inr (Or.inr (Or.inr (Or.inr (Or.inr (Or.inl ⟨rfl, rfl⟩))))))) (fun _ _ => ?_)
    refine fr_ite ?_ ?_
    · exact fr_some (by assumption)
    · refine fr_call (fr_X10_endsPiece _ _) (fun c i h => Or.inr (Or.inr (Or.inr (Or.inr (Or.inr (Or.inr (Or.inr (Or.inl h)))))))) (by assumption) (fun _ _ _ => ?_)
      exact ih _ (by assumption)
  · exact hk152 _ (by assumption)
theorem frst_X10_readsCondition_40 {s0 : Mem} {N : Nat} {rec : Mem → Option (Int32 × Mem)}   (ih : ∀ (y0 : Mem), Sm W_X10_readsCondition s0 y0 → Fr W_X10_readsCondition s0 (rec y0)) : ∀  (s : Mem), Sm W_X10_readsCondition s0 s → Fr W_X10_readsCondition s0 (st_X10_readsCondition_40 N rec s) := by
  intro  s hm
  unfold st_X10_readsCondition_40
  refine fr_call (fr_X10_here _ _) (fun c i h => Or.inl h) (by assumption) (fun _ _ _ => ?_)
  refine fr_join (fun j => ∀ (s9 : Mem), Sm W_X10_readsCondition s0 s9 → Fr W_X10_readsCondition s0 (j s9)) (fun s9 hm => ?_) (fun j58 hj58 => ?_)
  · refine fr_call (fr_X10_here _ _) (fun c i h => Or.inl h) (by assumption) (fun _ _ _ => ?_)
    refine fr_join (fun j => ∀ (t13 : Int32) (s12 : Mem), Sm W_X10_readsCondition s0 s12 → Fr W_X10_readsCondition s0 (j t13 s12)) (fun t13 s12 hm => ?_) (fun j75 hj75 => ?_)
    · refine fr_call (fr_X10_opens _ _ _) (fun c i h => Or.inr (Or.inr (Or.inr (Or.inl h)))) (by assumption) (fun _ _ _ => ?_)
      refine fr_ite ?_ ?_
      · exact fr_some (by assumption)
      · exact ih _ (by assumption)
    · refine fr_ite ?_ ?_
      · exact hj75 _ _ (by assumption)
      · exact hj75 _ _ (by assumption)
  · refine fr_ite ?_ ?_
    · exact hj58 _ (by assumption)
    · refine fr_call (fr_X10_here _ _) (fun c i h => Or.inl h) (by assumption) (fun _ _ _ => ?_)
      refine fr_ite ?_ ?_
      · exact hj58 _ (by assumption)
      · refine fr_call (fr_X10_readsCompared _ _) (fun c i h => Or.inr (Or.inr (Or.inr (Or.inr (Or.inl h))))) (by assumption) (fun _ _ _ => ?_)
        refine fr_ite ?_ ?_
        · exact fr_some (by assumption)
        · refine itr_ind (Q := fun (f : Mem → Option (Int32 × Mem)) => ∀  s, Sm W_X10_readsCondition s0 s → Fr W_X10_readsCondition s0 (f  s)) (fun _ _ => fr_none) (fun _ ih92 => ?_) N  _ (by assumption)
          refine frst_X10_readsCondition_92  ?_ ih92
          · intro s29 hm
            refine fr_call (fr_X10_here _ _) (fun c i h => Or.inl h) (by assumption) (fun _ _ _ => ?_)
            refine fr_join (fun j => ∀ (s32 : Mem), Sm W_X10_readsCondition s0 s32 → Fr W_X10_readsCondition s0 (j s32)) (fun s32 hm => ?_) (fun j180 hj180 => ?_)
            · refine fr_call (fr_X10_here _ _) (fun c i h => Or.inl h) (by assumption) (fun _ _ _ => ?_)
              refine fr_join (fun j => ∀ (t36 : Int32) (s35 : Mem), Sm W_X10_readsCondition s0 s35 → Fr W_X10_readsCondition s0 (j t36 s35)) (fun t36 s35 hm => ?_) (fun j195 hj195 => ?_)
              · refine fr_call (fr_X10_lands _ _ _) (fun c i h => Or.inr (Or.inr (Or.inr (Or.inr (Or.inr (Or.inl h)))))) (by assumption) (fun _ _ _ => ?_)
                refine fr_call (fr_X10_here _ _) (fun c i h => Or.inl h) (by assumption) (fun _ _ _ => ?_)
                refine fr_ite ?_ ?_
                · refine fr_call (fr_X10_jumps _ _ _) (fun c i h => Or.inr (Or.inr (Or.inr (Or.inr (Or.inr (Or.inr (Or.inr (Or.inr (Or.inl h))))))))) (by assumption) (fun _ _ _ => ?_)
                  exact ih _ (by assumption)
                · refine fr_call (fr_X10_jumps _ _ _) (fun c i h => Or.inr (Or.inr (Or.inr (Or.inr (Or.inr (Or.inr (Or.inr (Or.inr (Or.inl h))))))))) (by assumption) (fun _ _ _ => ?_)
                  exact ih _ (by assumption)
              · refine fr_ite ?_ ?_
                · exact hj195 _ _ (by assumption)
                · exact hj195 _ _ (by assumption)
            · refine fr_ite ?_ ?_
              · exact hj180 _ (by assumption)
              · refine fr_call (fr_X10_here _ _) (fun c i h => Or.inl h) (by assumption) (fun _ _ _ => ?_)
                refine fr_ite ?_ ?_
                · exact hj180 _ (by assumption)
                · refine fr_call (fr_X10_wrongAt _ _ _ _) (fun c i h => Or.inr (Or.inr (Or.inr (Or.inr (Or.inr (Or.inr (Or.inr (Or.inr (Or.inr h))))))))) (by assumption) (fun _ _ _ => ?_)
                  refine fr_ckz ?_
                  exact fr_some (by assumption)
theorem fr_X10_readsCondition (N : Nat) (s : Mem) : Fr W_X10_readsCondition s (f_X10_readsCondition N s) := by
  have key : ∀ s0 : Mem, Sm W_X10_readsCondition s0 s → Fr W_X10_readsCondition s0 (f_X10_readsCondition N s) := by
    intro s0 hm
    unfold f_X10_readsCondition
    refine fr_call (fr_X10_here _ _) (fun c i h => Or.inl h) (by assumption) (fun _ _ _ => ?_)
    refine fr_ite ?_ ?_
    · refine fr_si (by assumption) (Or.inr (Or.inl ⟨rfl, rfl⟩)) (fun _ _ => ?_)
      refine fr_si (by assumption) (Or.inr (Or.inr (Or.inl ⟨rfl, rfl⟩))) (fun _ _ => ?_)
      refine fr_call (fr_X10_opens _ _ _) (fun c i h => Or.inr (Or.inr (Or.inr (Or.inl h)))) (by assumption) (fun _ _ _ => ?_)
      refine fr_ite ?_ ?_
      · exact fr_some (by assumption)
      · refine itr_ind (Q := fun (f : Mem → Option (Int32 × Mem)) => ∀  s, Sm W_X10_readsCondition s0 s → Fr W_X10_readsCondition s0 (f  s)) (fun _ _ => fr_none) (fun _ ih40 => ?_) N  _ (by assumption)
        refine frst_X10_readsCondition_40   ih40
    · refine fr_call (fr_X10_wrongAt _ _ _ _) (fun c i h => Or.inr (Or.inr (Or.inr (Or.inr (Or.inr (Or.inr (Or.inr (Or.inr (Or.inr h))))))))) (by assumption) (fun _ _ _ => ?_)
      refine fr_ckz ?_
      exact fr_some (by assumption)
  exact key s sm_refl
def W_X10_readsRule (c i : Nat) : Prop := W_X10_here c i ∨ W_X10_wrongAt c i ∨ c = 8 ∨ (c = 0 ∧ i = 6) ∨ c = 9 ∨ (c = 0 ∧ i = 10) ∨ (c = 0 ∧ i = 12) ∨ c = 10 ∨ W_X10_readsCondition c i ∨ c = 11 ∨ (c = 0 ∧ i = 13) ∨ W_X10_readsSum c i
theorem fr_X10_readsRule (N : Nat) (s : Mem) : Fr W_X10_readsRule s (f_X10_readsRule N s) := by
  have key : ∀ s0 : Mem, Sm W_X10_readsRule s0 s → Fr W_X10_readsRule s0 (f_X10_readsRule N s) := by
    intro s0 hm
    unfold f_X10_readsRule
    refine fr_call (fr_X10_here _ _) (fun c i h => Or.inl h) (by assumption) (fun _ _ _ => ?_)
    refine fr_join (fun j => ∀ (s3 : Mem), Sm W_X10_readsRule s0 s3 → Fr W_X10_readsRule s0 (j s3)) (fun s3 hm => ?_) (fun j39 hj39 => ?_)
    · refine fr_ite ?_ ?_
      · refine fr_call (fr_X10_wrongAt _ _ _ _) (fun c i h => Or.inr (Or.inl h)) (by assumption) (fun _ _ _ => ?_)
        refine fr_ckz ?_
        exact fr_some (by assumption)
      · refine fr_chk (fun _ => ?_)
        refine fr_si (by assumption) (Or.inr (Or.inr (Or.inl rfl))) (fun _ _ => ?_)
        refine fr_si (by assumption) (Or.inr (Or.inr (Or.inr (Or.inl ⟨rfl, rfl⟩)))) (fun _ _ => ?_)
        refine fr_chk (fun _ => ?_)
        refine fr_si (by assumption) (Or.inr (Or.inr (Or.inr (Or.inr (Or.inl rfl))))) (fun _ _ => ?_)
        refine fr_si (by assumption) (Or.inr (Or.inr (Or.inr (Or.inr (Or.inr (Or.inl ⟨rfl, rfl⟩)))))) (fun _ _ => ?_)
        refine fr_si (by assumption) (Or.inr (Or.inr (Or.inr (Or.inr (Or.inr (Or.inr (Or.inl ⟨rfl, rfl⟩))))))) (fun _ _ => ?_)
        refine fr_join (fun j => ∀ (s9 : Mem), Sm W_X10_readsRule s0 s9 → Fr W_X10_readsRule s0 (j s9)) (fun s9 hm => ?_) (fun j116 hj116 => ?_)
        · refine fr_chk (fun _ => ?_)
          refine fr_si (by assumption) (Or.inr (Or.inr (Or.inr (Or.inr (Or.inr (Or.inr (Or.inr (Or.inl rfl)))))))) (fun _ _ => ?_)
          refine fr_call (fr_X10_readsCondition _ _) (fun c i h => Or.inr (Or.inr (Or.inr (Or.inr (Or.inr (Or.inr (Or.inr (Or.inr (Or.inl h))))))))) (by assumption) (fun _ _ _ => ?_)
          refine fr_ite ?_ ?_
          · exact fr_some (by assumption)
          · refine fr_chk (fun _ => ?_)
            refine fr_si (by assumption) (Or.inr (Or.inr (Or.inr (Or.inr (Or.inr (Or.inr (Or.inr (Or.inr (Or.inr (Or.inl rfl)))))))))) (fun _ _ => ?_)
            refine fr_si (by assumption) (Or.inr (Or.inr (Or.inr (Or.inr (Or.inr (Or.inr (Or.inr (Or.inr (Or.inr (Or.inr (Or.inl ⟨rfl, rfl⟩))))))))))) (fun _ _ => ?_)
            exact fr_some (by assumption)
        · refine fr_ite ?_ ?_
          · exact hj116 _ (by assumption)
          · refine fr_call (fr_X10_readsSum _ _) (fun c i h => Or.inr (Or.inr (Or.inr (Or.inr (Or.inr (Or.inr (Or.inr (Or.inr (Or.inr (Or.inr (Or.inr h))))))))))) (by assumption) (fun _ _ _ => ?_)
            refine fr_ite ?_ ?_
            · exact fr_some (by assumption)
            · exact hj116 _ (by assumption)
    · refine fr_ite ?_ ?_
      · exact hj39 _ (by assumption)
      · refine fr_ite ?_ ?_
        · exact hj39 _ (by assumption)
        · refine fr_ite ?_ ?_
          · exact hj39 _ (by assumption)
          · refine fr_ite ?_ ?_
            · exact hj39 _ (by assumption)
            · refine fr_call (fr_X10_wrongAt _ _ _ _) (fun c i h => Or.inr (Or.inl h)) (by assumption) (fun _ _ _ => ?_)
              refine fr_ckz ?_
              exact fr_some (by assumption)
  exact key s sm_refl
def W_X10_beginsText (c i : Nat) : Prop := (c = 0 ∧ i = 6) ∨ (c = 0 ∧ i = 7) ∨ (c = 0 ∧ i = 11) ∨ (c = 0 ∧ i = 13)
theorem fr_X10_beginsText (N : Nat) (x1 : Int32) (s : Mem) : Fr W_X10_beginsText s (f_X10_beginsText N x1 s) := by
  have key : ∀ s0 : Mem, Sm W_X10_beginsText s0 s → Fr W_X10_beginsText s0 (f_X10_beginsText N x1 s) := by
    intro s0 hm
    unfold f_X10_beginsText
    refine fr_si (by assumption) (Or.inl ⟨rfl, rfl⟩) (fun _ _ => ?_)
    refine fr_si (by assumption) (Or.inr (Or.inl ⟨rfl, rfl⟩)) (fun _ _ => ?_)
    refine fr_si (by assumption) (Or.inr (Or.inr (Or.inl ⟨rfl, rfl⟩))) (fun _ _ => ?_)
    refine fr_si (by assumption) (Or.inr (Or.inr (Or.inr ⟨rfl, rfl⟩))) (fun _ _ => ?_)
    exact fr_some (by assumption)
  exact key s sm_refl
def W_X10_law (c i : Nat) : Prop := W_X10_in c i ∨ W_X10_beginsText c i ∨ W_X10_readsRule c i ∨ W_X10_takes c i ∨ (c = 0 ∧ i = 5) ∨ (c = 0 ∧ i = 14) ∨ c = 12 ∨ c = 13 ∨ c = 14 ∨ c = 15 ∨ c = 16
theorem frst_X10_law_31 {s0 : Mem} {N : Nat} {k71 : Int32 → Mem → Option (Int32 × Mem)} {rec : Int32 → Mem → Option (Int32 × Mem)}  (hk71 : ∀ (y0 : Int32) (y1 : Mem), Sm W_X10_law s0 y1 → Fr W_X10_law s0 (k71 y0 y1)) (ih : ∀ (y0 : Int32) (y1 : Mem), Sm W_X10_law s0 y1 → Fr W_X10_law s0 (rec y0 y1)) : ∀ (x2 : Int32) (s : Mem), Sm W_X10_law s0 s → Fr W_X10_law s0 (st_X10_law_31 N k71 rec x2 s) := by
  intro x2 s hm
  unfold st_X10_law_31
  refine fr_ite ?_ ?_
  · exact hk71 _ _ (by assumption)
  · refine fr_ite ?_ ?_
    · exact hk71 _ _ (by assumption)
    · refine fr_call (fr_X10_takes _ _ _) (fun c i h => Or.inr (Or.inr (Or.inr (Or.inl h)))) (by assumption) (fun _ _ _ => ?_)
      refine fr_ite ?_ ?_
      · exact ih _ _ (by assumption)
      · refine fr_call (fr_X10_readsRule _ _) (fun c i h => Or.inr (Or.inr (Or.inl h))) (by assumption) (fun _ _ _ => ?_)
        refine fr_ite ?_ ?_
        · exact ih _ _ (by assumption)
        · exact ih _ _ (by assumption)
theorem frst_X10_law_95 {s0 : Mem} {N : Nat} {k121 : Mem → Option (Int32 × Mem)} {rec : Int32 → Mem → Option (Int32 × Mem)}  (hk121 : ∀ (y0 : Mem), Sm W_X10_law s0 y0 → Fr W_X10_law s0 (k121 y0)) (ih : ∀ (y0 : Int32) (y1 : Mem), Sm W_X10_law s0 y1 → Fr W_X10_law s0 (rec y0 y1)) : ∀ (x3 : Int32) (s : Mem), Sm W_X10_law s0 s → Fr W_X10_law s0 (st_X10_law_95 N k121 rec x3 s) := by
  intro x3 s hm
  unfold st_X10_law_95
  refine fr_ite ?_ ?_
  · exact hk121 _ (by assumption)
  · refine fr_chk (fun _ => ?_)
    refine fr_chk (fun _ => ?_)
    refine fr_si (by assumption) (Or.inr (Or.inr (Or.inr (Or.inr (Or.inr (Or.inr (Or.inl rfl))))))) (fun _ _ => ?_)
    refine fr_lt ?_
    exact ih _ _ (by assumption)
theorem frst_X10_law_123 {s0 : Mem} {N : Nat} {rec : Int32 → Mem → Option (Int32 × Mem)}   (ih : ∀ (y0 : Int32) (y1 : Mem), Sm W_X10_law s0 y1 → Fr W_X10_law s0 (rec y0 y1)) : ∀ (x3 : Int32) (s : Mem), Sm W_X10_law s0 s → Fr W_X10_law s0 (st_X10_law_123 N rec x3 s) := by
  intro x3 s hm
  unfold st_X10_law_123
  refine fr_ite ?_ ?_
  · exact fr_some (by assumption)
  · refine fr_chk (fun _ => ?_)
    refine fr_chk (fun _ => ?_)
    refine fr_si (by assumption) (Or.inr (Or.inr (Or.inr (Or.inr (Or.inr (Or.inr (Or.inr (Or.inl rfl)))))))) (fun _ _ => ?_)
    refine fr_chk (fun _ => ?_)
    refine fr_chk (fun _ => ?_)
    refine fr_si (by assumption) (Or.inr (Or.inr (Or.inr (Or.inr (Or.inr (Or.inr (Or.inr (Or.inr (Or.inl rfl))))))))) (fun _ _ => ?_)
    refine fr_chk (fun _ => ?_)
    refine fr_chk (fun _ => ?_)
    refine fr_si (by assumption) (Or.inr (Or.inr (Or.inr (Or.inr (Or.inr (Or.inr (Or.inr (Or.inr (Or.inr (Or.inl rfl)))))))))) (fun _ _ => ?_)
    refine fr_chk (fun _ => ?_)
    refine fr_chk (fun _ => ?_)
    refine fr_si (by assumption) (Or.inr (Or.inr (Or.inr (Or.inr (Or.inr (Or.inr (Or.inr (Or.inr (Or.inr (Or.inr rfl)))))))))) (fun _ _ => ?_)
    refine fr_lt ?_
    exact ih _ _ (by assumption)
theorem fr_X10_law (N : Nat) (x1 : Int32) (s : Mem) : Fr W_X10_law s (f_X10_law N x1 s) := by
  have key : ∀ s0 : Mem, Sm W_X10_law s0 s → Fr W_X10_law s0 (f_X10_law N x1 s) := by
    intro s0 hm
    unfold f_X10_law
    refine fr_call (fr_X10_in _ _ _ _ _) (fun c i h => Or.inl h) (by assumption) (fun _ _ _ => ?_)
    refine fr_ite ?_ ?_
    · exact fr_some (by assumption)
    · refine fr_ite ?_ ?_
      · refine fr_call (fr_X10_beginsText _ _ _) (fun c i h => Or.inr (Or.inl h)) (by assumption) (fun _ _ _ => ?_)
        refine fr_call (fr_X10_readsRule _ _) (fun c i h => Or.inr (Or.inr (Or.inl h))) (by assumption) (fun _ _ _ => ?_)
        refine itr_ind (Q := fun (f : Int32 → Mem → Option (Int32 × Mem)) => ∀ y0 s, Sm W_X10_law s0 s → Fr W_X10_law s0 (f y0 s)) (fun _ _ _ => fr_none) (fun _ ih31 => ?_) N _ _ (by assumption)
        refine frst_X10_law_31  ?_ ih31
        · intro x2_12 s11 hm
          refine fr_si (by assumption) (Or.inr (Or.inr (Or.inr (Or.inr (Or.inl ⟨rfl, rfl⟩))))) (fun _ _ => ?_)
          refine fr_ite ?_ ?_
          · exact fr_some (by assumption)
          · refine fr_si (by assumption) (Or.inr (Or.inr (Or.inr (Or.inr (Or.inr (Or.inl ⟨rfl, rfl⟩)))))) (fun _ _ => ?_)
            refine itr_ind (Q := fun (f : Int32 → Mem → Option (Int32 × Mem)) => ∀ y0 s, Sm W_X10_law s0 s → Fr W_X10_law s0 (f y0 s)) (fun _ _ _ => fr_none) (fun _ ih95 => ?_) N _ _ (by assumption)
            refine frst_X10_law_95  ?_ ih95
            · intro s17 hm
              refine itr_ind (Q := fun (f : Int32 → Mem → Option (Int32 × Mem)) => ∀ y0 s, Sm W_X10_law s0 s → Fr W_X10_law s0 (f y0 s)) (fun _ _ _ => fr_none) (fun _ ih123 => ?_) N _ _ (by assumption)
              refine frst_X10_law_123   ih123
      · exact fr_some (by assumption)
  exact key s sm_refl
def W_X10_reckon (c i : Nat) : Prop := False
theorem fr_X10_reckon (N : Nat) (x0 : Int32) (x1 : Int32) (x2 : Int32) (s : Mem) : Fr W_X10_reckon s (f_X10_reckon N x0 x1 x2 s) := by
  have key : ∀ s0 : Mem, Sm W_X10_reckon s0 s → Fr W_X10_reckon s0 (f_X10_reckon N x0 x1 x2 s) := by
    intro s0 hm
    unfold f_X10_reckon
    refine fr_ite ?_ ?_
    · exact fr_some (by assumption)
    · refine fr_ite ?_ ?_
      · exact fr_some (by assumption)
      · refine fr_ite ?_ ?_
        · exact fr_some (by assumption)
        · refine fr_ite ?_ ?_
          · refine fr_ckd ?_
            exact fr_some (by assumption)
          · refine fr_ite ?_ ?_
            · refine fr_ckd ?_
              exact fr_some (by assumption)
            · refine fr_ite ?_ ?_
              · refine fr_ite ?_ ?_
                · exact fr_some (by assumption)
                · exact fr_some (by assumption)
              · refine fr_ite ?_ ?_
                · refine fr_ite ?_ ?_
                  · exact fr_some (by assumption)
                  · exact fr_some (by assumption)
                · refine fr_ite ?_ ?_
                  · exact fr_some (by assumption)
                  · exact fr_some (by assumption)
  exact key s sm_refl
def W_X10_comesTo (c i : Nat) : Prop := c = 17 ∨ W_X10_reckon c i
theorem frst_X10_comesTo_16 {s0 : Mem} {N : Nat} {x2 : Int32} {x4 : Int32} {rec : Int32 → Int32 → Mem → Option (Int32 × Mem)}   (ih : ∀ (y0 : Int32) (y1 : Int32) (y2 : Mem), Sm W_X10_comesTo s0 y2 → Fr W_X10_comesTo s0 (rec y0 y1 y2)) : ∀ (x3 : Int32) (x5 : Int32) (s : Mem), Sm W_X10_comesTo s0 s → Fr W_X10_comesTo s0 (st_X10_comesTo_16 N x2 x4 rec x3 x5 s) := by
  intro x3 x5 s hm
  unfold st_X10_comesTo_16
  refine fr_ite ?_ ?_
  · refine fr_chk (fun _ => ?_)
    exact fr_some (by assumption)
  · refine fr_chk (fun _ => ?_)
    refine fr_lt ?_
    refine fr_chk (fun _ => ?_)
    refine fr_lt ?_
    refine fr_lt ?_
    refine fr_join (fun j => ∀ (s5 : Mem), Sm W_X10_comesTo s0 s5 → Fr W_X10_comesTo s0 (j s5)) (fun s5 hm => ?_) (fun j63 hj63 => ?_)
    · refine fr_ite ?_ ?_
      · refine fr_chk (fun _ => ?_)
        refine fr_si (by assumption) (Or.inl rfl) (fun _ _ => ?_)
        refine fr_lt ?_
        exact ih _ _ _ (by assumption)
      · refine fr_chk (fun _ => ?_)
        refine fr_chk (fun _ => ?_)
        refine fr_si (by assumption) (Or.inl rfl) (fun _ _ => ?_)
        refine fr_lt ?_
        exact ih _ _ _ (by assumption)
    · refine fr_ite ?_ ?_
      · exact hj63 _ (by assumption)
      · refine fr_ite ?_ ?_
        · exact hj63 _ (by assumption)
        · refine fr_ite ?_ ?_
          · refine fr_chk (fun _ => ?_)
            refine fr_chk (fun _ => ?_)
            refine fr_si (by assumption) (Or.inl rfl) (fun _ _ => ?_)
            exact ih _ _ _ (by assumption)
          · refine fr_join (fun j => ∀ (s10 : Mem), Sm W_X10_comesTo s0 s10 → Fr W_X10_comesTo s0 (j s10)) (fun s10 hm => ?_) (fun j135 hj135 => ?_)
            · refine fr_chk (fun _ => ?_)
              refine fr_join (fun j => ∀ (t12 : Int32) (s11 : Mem), Sm W_X10_comesTo s0 s11 → Fr W_X10_comesTo s0 (j t12 s11)) (fun t12 s11 hm => ?_) (fun j155 hj155 => ?_)
              · refine fr_ite ?_ ?_
                · refine fr_lt ?_
                  exact ih _ _ _ (by assumption)
                · refine fr_lt ?_
                  exact ih _ _ _ (by assumption)
              · refine fr_ite ?_ ?_
                · exact hj155 _ _ (by assumption)
                · exact hj155 _ _ (by assumption)
            · refine fr_ite ?_ ?_
              · exact hj135 _ (by assumption)
              · refine fr_ite ?_ ?_
                · exact hj135 _ (by assumption)
                · refine fr_lt ?_
                  refine fr_join (fun j => ∀ (s16 : Mem), Sm W_X10_comesTo s0 s16 → Fr W_X10_comesTo s0 (j s16)) (fun s16 hm => ?_) (fun j203 hj203 => ?_)
                  · refine fr_chk (fun _ => ?_)
                    refine fr_chk (fun _ => ?_)
                    refine fr_call (fr_X10_reckon _ _ _ _ _) (fun c i h => Or.inr h) (by assumption) (fun _ _ _ => ?_)
                    refine fr_chk (fun _ => ?_)
                    refine fr_si (by assumption) (Or.inl rfl) (fun _ _ => ?_)
                    exact ih _ _ _ (by assumption)
                  · refine fr_join (fun j => ∀ (s20 : Mem), Sm W_X10_comesTo s0 s20 → Fr W_X10_comesTo s0 (j s20)) (fun s20 hm => ?_) (fun j192 hj192 => ?_)
                    · refine fr_chk (fun _ => ?_)
                      refine fr_ite ?_ ?_
                      · exact fr_some (by assumption)
                      · exact hj203 _ (by assumption)
                    · refine fr_ite ?_ ?_
                      · exact hj192 _ (by assumption)
                      · refine fr_ite ?_ ?_
                        · exact hj192 _ (by assumption)
                        · exact hj203 _ (by assumption)
theorem fr_X10_comesTo (N : Nat) (x1 : Int32) (x2 : Int32) (s : Mem) : Fr W_X10_comesTo s (f_X10_comesTo N x1 x2 s) := by
  have key : ∀ s0 : Mem, Sm W_X10_comesTo s0 s → Fr W_X10_comesTo s0 (f_X10_comesTo N x1 x2 s) := by
    intro s0 hm
    unfold f_X10_comesTo
    refine fr_lt ?_
    refine itr_ind (Q := fun (f : Int32 → Int32 → Mem → Option (Int32 × Mem)) => ∀ y0 y1 s, Sm W_X10_comesTo s0 s → Fr W_X10_comesTo s0 (f y0 y1 s)) (fun _ _ _ _ => fr_none) (fun _ ih16 => ?_) N _ _ _ (by assumption)
    refine frst_X10_comesTo_16   ih16
  exact key s sm_refl
def W_X10_byLaw (c i : Nat) : Prop := W_X10_comesTo c i
theorem frst_X10_byLaw_2 {s0 : Mem} {N : Nat} {x1 : Int32} {x2 : Int32} {k43 : Int32 → Mem → Option (Int32 × Mem)} {rec : Int32 → Mem → Option (Int32 × Mem)}  (hk43 : ∀ (y0 : Int32) (y1 : Mem), Sm W_X10_byLaw s0 y1 → Fr W_X10_byLaw s0 (k43 y0 y1)) (ih : ∀ (y0 : Int32) (y1 : Mem), Sm W_X10_byLaw s0 y1 → Fr W_X10_byLaw s0 (rec y0 y1)) : ∀ (x3 : Int32) (s : Mem), Sm W_X10_byLaw s0 s → Fr W_X10_byLaw s0 (st_X10_byLaw_2 N x1 x2 k43 rec x3 s) := by
  intro x3 s hm
  unfold st_X10_byLaw_2
  refine fr_ite ?_ ?_
  · exact fr_some (by assumption)
  · refine fr_chk (fun _ => ?_)
    refine fr_ite ?_ ?_
    · refine fr_chk (fun _ => ?_)
      refine fr_chk (fun _ => ?_)
      refine fr_call (fr_X10_comesTo _ _ _ _) (fun c i h => h) (by assumption) (fun _ _ _ => ?_)
      refine fr_ite ?_ ?_
      · exact hk43 _ _ (by assumption)
      · refine fr_lt ?_
        exact ih _ _ (by assumption)
    · refine fr_lt ?_
      exact ih _ _ (by assumption)
theorem fr_X10_byLaw (N : Nat) (x1 : Int32) (x2 : Int32) (s : Mem) : Fr W_X10_byLaw s (f_X10_byLaw N x1 x2 s) := by
  have key : ∀ s0 : Mem, Sm W_X10_byLaw s0 s → Fr W_X10_byLaw s0 (f_X10_byLaw N x1 x2 s) := by
    intro s0 hm
    unfold f_X10_byLaw
    refine itr_ind (Q := fun (f : Int32 → Mem → Option (Int32 × Mem)) => ∀ y0 s, Sm W_X10_byLaw s0 s → Fr W_X10_byLaw s0 (f y0 s)) (fun _ _ _ => fr_none) (fun _ ih2 => ?_) N _ _ (by assumption)
    refine frst_X10_byLaw_2  ?_ ih2
    · intro x3_6 s5 hm
      refine fr_chk (fun _ => ?_)
      refine fr_chk (fun _ => ?_)
      refine fr_call (fr_X10_comesTo _ _ _ _) (fun c i h => h) (by assumption) (fun _ _ _ => ?_)
      refine fr_ite ?_ ?_
      · refine fr_ite ?_ ?_
        · exact fr_some (by assumption)
        · exact fr_some (by assumption)
      · exact fr_some (by assumption)
  exact key s sm_refl
def W_X10_holdsAny (c i : Nat) : Prop := W_X10_comesTo c i
theorem frst_X10_holdsAny_2 {s0 : Mem} {N : Nat} {x1 : Int32} {rec : Int32 → Mem → Option (Int32 × Mem)}   (ih : ∀ (y0 : Int32) (y1 : Mem), Sm W_X10_holdsAny s0 y1 → Fr W_X10_holdsAny s0 (rec y0 y1)) : ∀ (x2 : Int32) (s : Mem), Sm W_X10_holdsAny s0 s → Fr W_X10_holdsAny s0 (st_X10_holdsAny_2 N x1 rec x2 s) := by
  intro x2 s hm
  unfold st_X10_holdsAny_2
  refine fr_ite ?_ ?_
  · exact fr_some (by assumption)
  · refine fr_chk (fun _ => ?_)
    refine fr_ite ?_ ?_
    · refine fr_chk (fun _ => ?_)
      refine fr_chk (fun _ => ?_)
      refine fr_call (fr_X10_comesTo _ _ _ _) (fun c i h => h) (by assumption) (fun _ _ _ => ?_)
      refine fr_ite ?_ ?_
      · exact fr_some (by assumption)
      · refine fr_lt ?_
        exact ih _ _ (by assumption)
    · refine fr_lt ?_
      exact ih _ _ (by assumption)
theorem fr_X10_holdsAny (N : Nat) (x1 : Int32) (s : Mem) : Fr W_X10_holdsAny s (f_X10_holdsAny N x1 s) := by
  have key : ∀ s0 : Mem, Sm W_X10_holdsAny s0 s → Fr W_X10_holdsAny s0 (f_X10_holdsAny N x1 s) := by
    intro s0 hm
    unfold f_X10_holdsAny
    refine itr_ind (Q := fun (f : Int32 → Mem → Option (Int32 × Mem)) => ∀ y0 s, Sm W_X10_holdsAny s0 s → Fr W_X10_holdsAny s0 (f y0 s)) (fun _ _ _ => fr_none) (fun _ ih2 => ?_) N _ _ (by assumption)
    refine frst_X10_holdsAny_2   ih2
  exact key s sm_refl
def W_X10_feels (c i : Nat) : Prop := c = 18
theorem fr_X10_feels (N : Nat) (x1 : Int32) (x2 : Int32) (x3 : Int32) (x4 : Int32) (x5 : Int32) (x6 : Int32) (s : Mem) : Fr W_X10_feels s (f_X10_feels N x1 x2 x3 x4 x5 x6 s) := by
  have key : ∀ s0 : Mem, Sm W_X10_feels s0 s → Fr W_X10_feels s0 (f_X10_feels N x1 x2 x3 x4 x5 x6 s) := by
    intro s0 hm
    unfold f_X10_feels
    refine fr_chk (fun _ => ?_)
    refine fr_si (by assumption) (rfl) (fun _ _ => ?_)
    refine fr_chk (fun _ => ?_)
    refine fr_chk (fun _ => ?_)
    refine fr_si (by assumption) (rfl) (fun _ _ => ?_)
    refine fr_chk (fun _ => ?_)
    refine fr_si (by assumption) (rfl) (fun _ _ => ?_)
    refine fr_chk (fun _ => ?_)
    refine fr_si (by assumption) (rfl) (fun _ _ => ?_)
    refine fr_chk (fun _ => ?_)
    refine fr_si (by assumption) (rfl) (fun _ _ => ?_)
    refine fr_chk (fun _ => ?_)
    refine fr_si (by assumption) (rfl) (fun _ _ => ?_)
    refine fr_chk (fun _ => ?_)
    refine fr_si (by assumption) (rfl) (fun _ _ => ?_)
    exact fr_some (by assumption)
  exact key s sm_refl
def W_X10_readsAmount (c i : Nat) : Prop := W_X10_isDigit c i ∨ W_X10_wrongAt c i ∨ (c = 0 ∧ i = 9) ∨ W_X10_here c i ∨ (c = 0 ∧ i = 6)
theorem frst_X10_readsAmount_27 {s0 : Mem} {N : Nat} {x1 : Int32} {rec : Mem → Option (Int32 × Mem)}   (ih : ∀ (y0 : Mem), Sm W_X10_readsAmount s0 y0 → Fr W_X10_readsAmount s0 (rec y0)) : ∀  (s : Mem), Sm W_X10_readsAmount s0 s → Fr W_X10_readsAmount s0 (st_X10_readsAmount_27 N x1 rec s) := by
  intro  s hm
  unfold st_X10_readsAmount_27
  refine fr_call (fr_X10_isDigit _ _) (fun c i h => Or.inl h) (by assumption) (fun _ _ _ => ?_)
  refine fr_ite ?_ ?_
  · exact fr_some (by assumption)
  · refine fr_ite ?_ ?_
    · refine fr_call (fr_X10_wrongAt _ _ _ _) (fun c i h => Or.inr (Or.inl h)) (by assumption) (fun _ _ _ => ?_)
      refine fr_ckz ?_
      exact fr_some (by assumption)
    · refine fr_call (fr_X10_here _ _) (fun c i h => Or.inr (Or.inr (Or.inr (Or.inl h)))) (by assumption) (fun _ _ _ => ?_)
      refine fr_si (by assumption) (Or.inr (Or.inr (Or.inl ⟨rfl, rfl⟩))) (fun _ _ => ?_)
      refine fr_si (by assumption) (Or.inr (Or.inr (Or.inr (Or.inr ⟨rfl, rfl⟩)))) (fun _ _ => ?_)
      exact ih _ (by assumption)
theorem fr_X10_readsAmount (N : Nat) (s : Mem) : Fr W_X10_readsAmount s (f_X10_readsAmount N s) := by
  have key : ∀ s0 : Mem, Sm W_X10_readsAmount s0 s → Fr W_X10_readsAmount s0 (f_X10_readsAmount N s) := by
    intro s0 hm
    unfold f_X10_readsAmount
    refine fr_lt ?_
    refine fr_call (fr_X10_isDigit _ _) (fun c i h => Or.inl h) (by assumption) (fun _ _ _ => ?_)
    refine fr_ite ?_ ?_
    · refine fr_call (fr_X10_wrongAt _ _ _ _) (fun c i h => Or.inr (Or.inl h)) (by assumption) (fun _ _ _ => ?_)
      refine fr_ckz ?_
      exact fr_some (by assumption)
    · refine fr_si (by assumption) (Or.inr (Or.inr (Or.inl ⟨rfl, rfl⟩))) (fun _ _ => ?_)
      refine itr_ind (Q := fun (f : Mem → Option (Int32 × Mem)) => ∀  s, Sm W_X10_readsAmount s0 s → Fr W_X10_readsAmount s0 (f  s)) (fun _ _ => fr_none) (fun _ ih27 => ?_) N  _ (by assumption)
      refine frst_X10_readsAmount_27   ih27
  exact key s sm_refl
def W_X10_readsLine (c i : Nat) : Prop := W_X10_here c i ∨ W_X10_in c i ∨ W_X10_wrongAt c i ∨ W_X10_isLetter c i ∨ (c = 0 ∧ i = 6) ∨ W_X10_isParish c i ∨ (c = 0 ∧ i = 9) ∨ c = 19 ∨ c = 20 ∨ c = 21 ∨ c = 22 ∨ (c = 0 ∧ i = 32) ∨ W_X10_readsAmount c i
theorem fr_X10_readsLine (N : Nat) (s : Mem) : Fr W_X10_readsLine s (f_X10_readsLine N s) := by
  have key : ∀ s0 : Mem, Sm W_X10_readsLine s0 s → Fr W_X10_readsLine s0 (f_X10_readsLine N s) := by
    intro s0 hm
    unfold f_X10_readsLine
    refine fr_call (fr_X10_here _ _) (fun c i h => Or.inl h) (by assumption) (fun _ _ _ => ?_)
    refine fr_lt ?_
    refine fr_call (fr_X10_in _ _ _ _ _) (fun c i h => Or.inr (Or.inl h)) (by assumption) (fun _ _ _ => ?_)
    refine fr_ite ?_ ?_
    · refine fr_call (fr_X10_wrongAt _ _ _ _) (fun c i h => Or.inr (Or.inr (Or.inl h))) (by assumption) (fun _ _ _ => ?_)
      refine fr_ckz ?_
      exact fr_some (by assumption)
    · refine fr_ite ?_ ?_
      · refine fr_call (fr_X10_wrongAt _ _ _ _) (fun c i h => Or.inr (Or.inr (Or.inl h))) (by assumption) (fun _ _ _ => ?_)
        refine fr_ckz ?_
        exact fr_some (by assumption)
      · refine fr_call (fr_X10_isLetter _ _ _) (fun c i h => Or.inr (Or.inr (Or.inr (Or.inl h)))) (by assumption) (fun _ _ _ => ?_)
        refine fr_ite ?_ ?_
        · refine fr_call (fr_X10_wrongAt _ _ _ _) (fun c i h => Or.inr (Or.inr (Or.inl h))) (by assumption) (fun _ _ _ => ?_)
          refine fr_ckz ?_
          exact fr_some (by assumption)
        · refine fr_si (by assumption) (Or.inr (Or.inr (Or.inr (Or.inr (Or.inl ⟨rfl, rfl⟩))))) (fun _ _ => ?_)
          refine fr_call (fr_X10_here _ _) (fun c i h => Or.inl h) (by assumption) (fun _ _ _ => ?_)
          refine fr_lt ?_
          refine fr_call (fr_X10_in _ _ _ _ _) (fun c i h => Or.inr (Or.inl h)) (by assumption) (fun _ _ _ => ?_)
          refine fr_ite ?_ ?_
          · refine fr_call (fr_X10_wrongAt _ _ _ _) (fun c i h => Or.inr (Or.inr (Or.inl h))) (by assumption) (fun _ _ _ => ?_)
            refine fr_ckz ?_
            exact fr_some (by assumption)
          · refine fr_call (fr_X10_isParish _ _ _) (fun c i h => Or.inr (Or.inr (Or.inr (Or.inr (Or.inr (Or.inl h)))))) (by assumption) (fun _ _ _ => ?_)
            refine fr_ite ?_ ?_
            · refine fr_call (fr_X10_wrongAt _ _ _ _) (fun c i h => Or.inr (Or.inr (Or.inl h))) (by assumption) (fun _ _ _ => ?_)
              refine fr_ckz ?_
              exact fr_some (by assumption)
            · refine fr_si (by assumption) (Or.inr (Or.inr (Or.inr (Or.inr (Or.inl ⟨rfl, rfl⟩))))) (fun _ _ => ?_)
              refine fr_call (fr_X10_here _ _) (fun c i h => Or.inl h) (by assumption) (fun _ _ _ => ?_)
              refine fr_join (fun j => ∀ (s19 : Mem), Sm W_X10_readsLine s0 s19 → Fr W_X10_readsLine s0 (j s19)) (fun s19 hm => ?_) (fun j165 hj165 => ?_)
              · refine fr_si (by assumption) (Or.inr (Or.inr (Or.inr (Or.inr (Or.inl ⟨rfl, rfl⟩))))) (fun _ _ => ?_)
                refine fr_si (by assumption) (Or.inr (Or.inr (Or.inr (Or.inr (Or.inr (Or.inr (Or.inl ⟨rfl, rfl⟩))))))) (fun _ _ => ?_)
                refine fr_join (fun j => ∀ (s22 : Mem), Sm W_X10_readsLine s0 s22 → Fr W_X10_readsLine s0 (j s22)) (fun s22 hm => ?_) (fun j195 hj195 => ?_)
                · refine fr_chk (fun _ => ?_)
                  refine fr_si (by assumption) (Or.inr (Or.inr (Or.inr (Or.inr (Or.inr (Or.inr (Or.inr (Or.inl rfl)))))))) (fun _ _ => ?_)
                  refine fr_chk (fun _ => ?_)
                  refine fr_si (by assumption) (Or.inr (Or.inr (Or.inr (Or.inr (Or.inr (Or.inr (Or.inr (Or.inr (Or.inl rfl))))))))) (fun _ _ => ?_)
                  refine fr_chk (fun _ => ?_)
                  refine fr_si (by assumption) (Or.inr (Or.inr (Or.inr (Or.inr (Or.inr (Or.inr (Or.inr (Or.inr (Or.inr (Or.inl rfl)))))))))) (fun _ _ => ?_)
                  refine fr_chk (fun _ => ?_)
                  refine fr_si (by assumption) (Or.inr (Or.inr (Or.inr (Or.inr (Or.inr (Or.inr (Or.inr (Or.inr (Or.inr (Or.inr (Or.inl rfl))))))))))) (fun _ _ => ?_)
                  refine fr_si (by assumption) (Or.inr (Or.inr (Or.inr (Or.inr (Or.inr (Or.inr (Or.inr (Or.inr (Or.inr (Or.inr (Or.inr (Or.inl ⟨rfl, rfl⟩)))))))))))) (fun _ _ => ?_)
                  exact fr_some (by assumption)
                · refine fr_ite ?_ ?_
                  · exact hj195 _ (by assumption)
                  · refine fr_call (fr_X10_readsAmount _ _) (fun c i h => Or.inr (Or.inr (Or.inr (Or.inr (Or.inr (Or.inr (Or.inr (Or.inr (Or.inr (Or.inr (Or.inr (Or.inr h)))))))))))) (by assumption) (fun _ _ _ => ?_)
                    refine fr_ite ?_ ?_
                    · exact fr_some (by assumption)
                    · exact hj195 _ (by assumption)
              · refine fr_ite ?_ ?_
                · exact hj165 _ (by assumption)
                · refine fr_ite ?_ ?_
                  · exact hj165 _ (by assumption)
                  · refine fr_ite ?_ ?_
                    · exact hj165 _ (by assumption)
                    · refine fr_call (fr_X10_wrongAt _ _ _ _) (fun c i h => Or.inr (Or.inr (Or.inl h))) (by assumption) (fun _ _ _ => ?_)
                      refine fr_ckz ?_
                      exact fr_some (by assumption)
  exact key s sm_refl
def W_X10_gives (c i : Nat) : Prop := W_X10_min c i ∨ c = 1
theorem fr_X10_gives (N : Nat) (x1 : Int32) (x2 : Int32) (x3 : Int32) (s : Mem) : Fr W_X10_gives s (f_X10_gives N x1 x2 x3 s) := by
  have key : ∀ s0 : Mem, Sm W_X10_gives s0 s → Fr W_X10_gives s0 (f_X10_gives N x1 x2 x3 s) := by
    intro s0 hm
    unfold f_X10_gives
    refine fr_lt ?_
    refine fr_chk (fun _ => ?_)
    refine fr_call (fr_X10_min _ _ _ _) (fun c i h => Or.inl h) (by assumption) (fun _ _ _ => ?_)
    refine fr_chk (fun _ => ?_)
    refine fr_si (by assumption) (Or.inr rfl) (fun _ _ => ?_)
    refine fr_chk (fun _ => ?_)
    refine fr_call (fr_X10_min _ _ _ _) (fun c i h => Or.inl h) (by assumption) (fun _ _ _ => ?_)
    refine fr_chk (fun _ => ?_)
    refine fr_si (by assumption) (Or.inr rfl) (fun _ _ => ?_)
    refine fr_chk (fun _ => ?_)
    refine fr_chk (fun _ => ?_)
    refine fr_si (by assumption) (Or.inr rfl) (fun _ _ => ?_)
    exact fr_some (by assumption)
  exact key s sm_refl
def W_X10_doesLine (c i : Nat) : Prop := W_X10_known c i ∨ c = 1 ∨ W_X10_gives c i
theorem fr_X10_doesLine (N : Nat) (x1 : Int32) (s : Mem) : Fr W_X10_doesLine s (f_X10_doesLine N x1 s) := by
  have key : ∀ s0 : Mem, Sm W_X10_doesLine s0 s → Fr W_X10_doesLine s0 (f_X10_doesLine N x1 s) := by
    intro s0 hm
    unfold f_X10_doesLine
    refine fr_chk (fun _ => ?_)
    refine fr_lt ?_
    refine fr_chk (fun _ => ?_)
    refine fr_lt ?_
    refine fr_chk (fun _ => ?_)
    refine fr_ite ?_ ?_
    · refine fr_call (fr_X10_known _ _ _ _) (fun c i h => Or.inl h) (by assumption) (fun _ _ _ => ?_)
      refine fr_chk (fun _ => ?_)
      refine fr_chk (fun _ => ?_)
      refine fr_si (by assumption) (Or.inr (Or.inl rfl)) (fun _ _ => ?_)
      exact fr_some (by assumption)
    · refine fr_chk (fun _ => ?_)
      refine fr_ite ?_ ?_
      · refine fr_chk (fun _ => ?_)
        refine fr_call (fr_X10_gives _ _ _ _ _) (fun c i h => Or.inr (Or.inr h)) (by assumption) (fun _ _ _ => ?_)
        exact fr_some (by assumption)
      · refine fr_call (fr_X10_known _ _ _ _) (fun c i h => Or.inl h) (by assumption) (fun _ _ _ => ?_)
        refine fr_chk (fun _ => ?_)
        refine fr_si (by assumption) (Or.inr (Or.inl rfl)) (fun _ _ => ?_)
        refine fr_chk (fun _ => ?_)
        refine fr_chk (fun _ => ?_)
        refine fr_si (by assumption) (Or.inr (Or.inl rfl)) (fun _ _ => ?_)
        exact fr_some (by assumption)
  exact key s sm_refl
def W_X10_report (c i : Nat) : Prop := W_X10_in c i ∨ W_X10_beginsText c i ∨ (c = 0 ∧ i = 32) ∨ W_X10_readsLine c i ∨ W_X10_takes c i ∨ (c = 0 ∧ i = 5) ∨ W_X10_doesLine c i
theorem frst_X10_report_35 {s0 : Mem} {N : Nat} {k75 : Int32 → Mem → Option (Int32 × Mem)} {rec : Int32 → Mem → Option (Int32 × Mem)}  (hk75 : ∀ (y0 : Int32) (y1 : Mem), Sm W_X10_report s0 y1 → Fr W_X10_report s0 (k75 y0 y1)) (ih : ∀ (y0 : Int32) (y1 : Mem), Sm W_X10_report s0 y1 → Fr W_X10_report s0 (rec y0 y1)) : ∀ (x2 : Int32) (s : Mem), Sm W_X10_report s0 s → Fr W_X10_report s0 (st_X10_report_35 N k75 rec x2 s) := by
  intro x2 s hm
  unfold st_X10_report_35
  refine fr_ite ?_ ?_
  · exact hk75 _ _ (by assumption)
  · refine fr_ite ?_ ?_
    · exact hk75 _ _ (by assumption)
    · refine fr_call (fr_X10_takes _ _ _) (fun c i h => Or.inr (Or.inr (Or.inr (Or.inr (Or.inl h))))) (by assumption) (fun _ _ _ => ?_)
      refine fr_ite ?_ ?_
      · exact ih _ _ (by assumption)
      · refine fr_call (fr_X10_readsLine _ _) (fun c i h => Or.inr (Or.inr (Or.inr (Or.inl h)))) (by assumption) (fun _ _ _ => ?_)
        refine fr_ite ?_ ?_
        · exact ih _ _ (by assumption)
        · exact ih _ _ (by assumption)
theorem frst_X10_report_91 {s0 : Mem} {N : Nat} {rec : Int32 → Mem → Option (Int32 × Mem)}   (ih : ∀ (y0 : Int32) (y1 : Mem), Sm W_X10_report s0 y1 → Fr W_X10_report s0 (rec y0 y1)) : ∀ (x3 : Int32) (s : Mem), Sm W_X10_report s0 s → Fr W_X10_report s0 (st_X10_report_91 N rec x3 s) := by
  intro x3 s hm
  unfold st_X10_report_91
  refine fr_ite ?_ ?_
  · exact fr_some (by assumption)
  · refine fr_call (fr_X10_doesLine _ _ _) (fun c i h => Or.inr (Or.inr (Or.inr (Or.inr (Or.inr (Or.inr h)))))) (by assumption) (fun _ _ _ => ?_)
    refine fr_lt ?_
    exact ih _ _ (by assumption)
theorem fr_X10_report (N : Nat) (x1 : Int32) (s : Mem) : Fr W_X10_report s (f_X10_report N x1 s) := by
  have key : ∀ s0 : Mem, Sm W_X10_report s0 s → Fr W_X10_report s0 (f_X10_report N x1 s) := by
    intro s0 hm
    unfold f_X10_report
    refine fr_call (fr_X10_in _ _ _ _ _) (fun c i h => Or.inl h) (by assumption) (fun _ _ _ => ?_)
    refine fr_ite ?_ ?_
    · exact fr_some (by assumption)
    · refine fr_ite ?_ ?_
      · refine fr_call (fr_X10_beginsText _ _ _) (fun c i h => Or.inr (Or.inl h)) (by assumption) (fun _ _ _ => ?_)
        refine fr_si (by assumption) (Or.inr (Or.inr (Or.inl ⟨rfl, rfl⟩))) (fun _ _ => ?_)
        refine fr_call (fr_X10_readsLine _ _) (fun c i h => Or.inr (Or.inr (Or.inr (Or.inl h)))) (by assumption) (fun _ _ _ => ?_)
        refine itr_ind (Q := fun (f : Int32 → Mem → Option (Int32 × Mem)) => ∀ y0 s, Sm W_X10_report s0 s → Fr W_X10_report s0 (f y0 s)) (fun _ _ _ => fr_none) (fun _ ih35 => ?_) N _ _ (by assumption)
        refine frst_X10_report_35  ?_ ih35
        · intro x2_13 s12 hm
          refine fr_si (by assumption) (Or.inr (Or.inr (Or.inr (Or.inr (Or.inr (Or.inl ⟨rfl, rfl⟩)))))) (fun _ _ => ?_)
          refine fr_ite ?_ ?_
          · exact fr_some (by assumption)
          · refine itr_ind (Q := fun (f : Int32 → Mem → Option (Int32 × Mem)) => ∀ y0 s, Sm W_X10_report s0 s → Fr W_X10_report s0 (f y0 s)) (fun _ _ _ => fr_none) (fun _ ih91 => ?_) N _ _ (by assumption)
            refine frst_X10_report_91   ih91
      · exact fr_some (by assumption)
  exact key s sm_refl
def W_X10_hearsFrom (c i : Nat) : Prop := W_X10_isKnown c i ∨ W_X10_known c i ∨ W_X10_tired c i ∨ W_X10_feels c i ∨ W_X10_holdsAny c i
theorem frst_X10_hearsFrom_6 {s0 : Mem} {N : Nat} {x1 : Int32} {x2 : Int32} {x3 : Int32} {rec : Int32 → Int32 → Mem → Option (Int32 × Mem)}   (ih : ∀ (y0 : Int32) (y1 : Int32) (y2 : Mem), Sm W_X10_hearsFrom s0 y2 → Fr W_X10_hearsFrom s0 (rec y0 y1 y2)) : ∀ (x4 : Int32) (x5 : Int32) (s : Mem), Sm W_X10_hearsFrom s0 s → Fr W_X10_hearsFrom s0 (st_X10_hearsFrom_6 N x1 x2 x3 rec x4 x5 s) := by
  intro x4 x5 s hm
  unfold st_X10_hearsFrom_6
  refine fr_ite ?_ ?_
  · exact fr_some (by assumption)
  · refine fr_chk (fun _ => ?_)
    refine fr_lt ?_
    refine fr_ite ?_ ?_
    · refine fr_lt ?_
      exact ih _ _ _ (by assumption)
    · refine fr_call (fr_X10_isKnown _ _ _ _) (fun c i h => Or.inl h) (by assumption) (fun _ _ _ => ?_)
      refine fr_ite ?_ ?_
      · refine fr_lt ?_
        exact ih _ _ _ (by assumption)
      · refine fr_join (fun j => ∀ (s6 : Mem), Sm W_X10_hearsFrom s0 s6 → Fr W_X10_hearsFrom s0 (j s6)) (fun s6 hm => ?_) (fun j68 hj68 => ?_)
        · refine fr_call (fr_X10_known _ _ _ _) (fun c i h => Or.inr (Or.inl h)) (by assumption) (fun _ _ _ => ?_)
          refine fr_chk (fun _ => ?_)
          refine fr_call (fr_X10_tired _ _ _) (fun c i h => Or.inr (Or.inr (Or.inl h))) (by assumption) (fun _ _ _ => ?_)
          refine fr_call (fr_X10_feels _ _ _ _ _ _ _ _) (fun c i h => Or.inr (Or.inr (Or.inr (Or.inl h)))) (by assumption) (fun _ _ _ => ?_)
          refine fr_call (fr_X10_holdsAny _ _ _) (fun c i h => Or.inr (Or.inr (Or.inr (Or.inr h)))) (by assumption) (fun _ _ _ => ?_)
          refine fr_ite ?_ ?_
          · refine fr_lt ?_
            exact ih _ _ _ (by assumption)
          · refine fr_lt ?_
            exact ih _ _ _ (by assumption)
        · refine fr_ite ?_ ?_
          · exact hj68 _ (by assumption)
          · refine fr_chk (fun _ => ?_)
            refine fr_ite ?_ ?_
            · exact hj68 _ (by assumption)
            · refine fr_lt ?_
              exact ih _ _ _ (by assumption)
theorem fr_X10_hearsFrom (N : Nat) (x1 : Int32) (x2 : Int32) (x3 : Int32) (s : Mem) : Fr W_X10_hearsFrom s (f_X10_hearsFrom N x1 x2 x3 s) := by
  have key : ∀ s0 : Mem, Sm W_X10_hearsFrom s0 s → Fr W_X10_hearsFrom s0 (f_X10_hearsFrom N x1 x2 x3 s) := by
    intro s0 hm
    unfold f_X10_hearsFrom
    refine itr_ind (Q := fun (f : Int32 → Int32 → Mem → Option (Int32 × Mem)) => ∀ y0 y1 s, Sm W_X10_hearsFrom s0 s → Fr W_X10_hearsFrom s0 (f y0 y1 s)) (fun _ _ _ _ => fr_none) (fun _ ih6 => ?_) N _ _ _ (by assumption)
    refine frst_X10_hearsFrom_6   ih6
  exact key s sm_refl
def W_X10_goesOn (c i : Nat) : Prop := c = 23 ∨ W_X10_isParish c i ∨ W_X10_isKnown c i ∨ W_X10_hearsFrom c i ∨ W_X10_known c i ∨ W_X10_tired c i ∨ W_X10_feels c i ∨ W_X10_byLaw c i ∨ W_X10_min c i ∨ c = 1
theorem frst_X10_goesOn_5 {s0 : Mem} {N : Nat} {x1 : Int32} {x2 : Int32} {k141 : Int32 → Mem → Option (Int32 × Mem)} {rec : Int32 → Int32 → Mem → Option (Int32 × Mem)}  (hk141 : ∀ (y0 : Int32) (y1 : Mem), Sm W_X10_goesOn s0 y1 → Fr W_X10_goesOn s0 (k141 y0 y1)) (ih : ∀ (y0 : Int32) (y1 : Int32) (y2 : Mem), Sm W_X10_goesOn s0 y2 → Fr W_X10_goesOn s0 (rec y0 y1 y2)) : ∀ (x3 : Int32) (x4 : Int32) (s : Mem), Sm W_X10_goesOn s0 s → Fr W_X10_goesOn s0 (st_X10_goesOn_5 N x1 x2 k141 rec x3 x4 s) := by
  intro x3 x4 s hm
  unfold st_X10_goesOn_5
  refine fr_ite ?_ ?_
  · exact hk141 _ _ (by assumption)
  · refine fr_chk (fun _ => ?_)
    refine fr_si (by assumption) (Or.inl rfl) (fun _ _ => ?_)
    refine fr_call (fr_X10_isParish _ _ _) (fun c i h => Or.inr (Or.inl h)) (by assumption) (fun _ _ _ => ?_)
    refine fr_ite ?_ ?_
    · refine fr_lt ?_
      exact ih _ _ _ (by assumption)
    · refine fr_call (fr_X10_isKnown _ _ _ _) (fun c i h => Or.inr (Or.inr (Or.inl h))) (by assumption) (fun _ _ _ => ?_)
      refine fr_ite ?_ ?_
      · refine fr_call (fr_X10_hearsFrom _ _ _ _ _) (fun c i h => Or.inr (Or.inr (Or.inr (Or.inl h)))) (by assumption) (fun _ _ _ => ?_)
        refine fr_ite ?_ ?_
        · refine fr_lt ?_
          exact ih _ _ _ (by assumption)
        · refine fr_call (fr_X10_known _ _ _ _) (fun c i h => Or.inr (Or.inr (Or.inr (Or.inr (Or.inl h))))) (by assumption) (fun _ _ _ => ?_)
          refine fr_chk (fun _ => ?_)
          refine fr_chk (fun _ => ?_)
          refine fr_call (fr_X10_tired _ _ _) (fun c i h => Or.inr (Or.inr (Or.inr (Or.inr (Or.inr (Or.inl h)))))) (by assumption) (fun _ _ _ => ?_)
          refine fr_call (fr_X10_feels _ _ _ _ _ _ _ _) (fun c i h => Or.inr (Or.inr (Or.inr (Or.inr (Or.inr (Or.inr (Or.inl h))))))) (by assumption) (fun _ _ _ => ?_)
          refine fr_call (fr_X10_known _ _ _ _) (fun c i h => Or.inr (Or.inr (Or.inr (Or.inr (Or.inl h))))) (by assumption) (fun _ _ _ => ?_)
          refine fr_chk (fun _ => ?_)
          refine fr_call (fr_X10_byLaw _ _ _ _) (fun c i h => Or.inr (Or.inr (Or.inr (Or.inr (Or.inr (Or.inr (Or.inr (Or.inl h)))))))) (by assumption) (fun _ _ _ => ?_)
          refine fr_call (fr_X10_min _ _ _ _) (fun c i h => Or.inr (Or.inr (Or.inr (Or.inr (Or.inr (Or.inr (Or.inr (Or.inr (Or.inl h))))))))) (by assumption) (fun _ _ _ => ?_)
          refine fr_chk (fun _ => ?_)
          refine fr_si (by assumption) (Or.inl rfl) (fun _ _ => ?_)
          refine fr_lt ?_
          exact ih _ _ _ (by assumption)
      · refine fr_lt ?_
        exact ih _ _ _ (by assumption)
theorem frst_X10_goesOn_144 {s0 : Mem} {N : Nat} {x1 : Int32} {x3 : Int32} {rec : Int32 → Mem → Option (Int32 × Mem)}   (ih : ∀ (y0 : Int32) (y1 : Mem), Sm W_X10_goesOn s0 y1 → Fr W_X10_goesOn s0 (rec y0 y1)) : ∀ (x4 : Int32) (s : Mem), Sm W_X10_goesOn s0 s → Fr W_X10_goesOn s0 (st_X10_goesOn_144 N x1 x3 rec x4 s) := by
  intro x4 s hm
  unfold st_X10_goesOn_144
  refine fr_ite ?_ ?_
  · refine fr_ckz ?_
    exact fr_some (by assumption)
  · refine fr_chk (fun _ => ?_)
    refine fr_ite ?_ ?_
    · refine fr_lt ?_
      exact ih _ _ (by assumption)
    · refine fr_call (fr_X10_known _ _ _ _) (fun c i h => Or.inr (Or.inr (Or.inr (Or.inr (Or.inl h))))) (by assumption) (fun _ _ _ => ?_)
      refine fr_chk (fun _ => ?_)
      refine fr_chk (fun _ => ?_)
      refine fr_si (by assumption) (Or.inr (Or.inr (Or.inr (Or.inr (Or.inr (Or.inr (Or.inr (Or.inr (Or.inr rfl))))))))) (fun _ _ => ?_)
      refine fr_lt ?_
      exact ih _ _ (by assumption)
theorem fr_X10_goesOn (N : Nat) (x1 : Int32) (x2 : Int32) (s : Mem) : Fr W_X10_goesOn s (f_X10_goesOn N x1 x2 s) := by
  have key : ∀ s0 : Mem, Sm W_X10_goesOn s0 s → Fr W_X10_goesOn s0 (f_X10_goesOn N x1 x2 s) := by
    intro s0 hm
    unfold f_X10_goesOn
    refine itr_ind (Q := fun (f : Int32 → Int32 → Mem → Option (Int32 × Mem)) => ∀ y0 y1 s, Sm W_X10_goesOn s0 s → Fr W_X10_goesOn s0 (f y0 y1 s)) (fun _ _ _ _ => fr_none) (fun _ ih5 => ?_) N _ _ _ (by assumption)
    refine frst_X10_goesOn_5  ?_ ih5
    · intro x3_26 s25 hm
      refine itr_ind (Q := fun (f : Int32 → Mem → Option (Int32 × Mem)) => ∀ y0 s, Sm W_X10_goesOn s0 s → Fr W_X10_goesOn s0 (f y0 s)) (fun _ _ _ => fr_none) (fun _ ih144 => ?_) N _ _ (by assumption)
      refine frst_X10_goesOn_144   ih144
  exact key s sm_refl
def W_X10_readsNext (c i : Nat) : Prop := W_X10_has c i ∨ W_X10_isKnown c i
theorem frst_X10_readsNext_2 {s0 : Mem} {N : Nat} {x1 : Int32} {rec : Int32 → Mem → Option (Int32 × Mem)}   (ih : ∀ (y0 : Int32) (y1 : Mem), Sm W_X10_readsNext s0 y1 → Fr W_X10_readsNext s0 (rec y0 y1)) : ∀ (x2 : Int32) (s : Mem), Sm W_X10_readsNext s0 s → Fr W_X10_readsNext s0 (st_X10_readsNext_2 N x1 rec x2 s) := by
  intro x2 s hm
  unfold st_X10_readsNext_2
  refine fr_ite ?_ ?_
  · exact fr_some (by assumption)
  · refine fr_chk (fun _ => ?_)
    refine fr_call (fr_X10_has _ _ _ _) (fun c i h => Or.inl h) (by assumption) (fun _ _ _ => ?_)
    refine fr_ite ?_ ?_
    · refine fr_lt ?_
      exact ih _ _ (by assumption)
    · refine fr_call (fr_X10_isKnown _ _ _ _) (fun c i h => Or.inr h) (by assumption) (fun _ _ _ => ?_)
      refine fr_ite ?_ ?_
      · refine fr_lt ?_
        exact ih _ _ (by assumption)
      · refine fr_chk (fun _ => ?_)
        refine fr_call (fr_X10_has _ _ _ _) (fun c i h => Or.inl h) (by assumption) (fun _ _ _ => ?_)
        refine fr_ite ?_ ?_
        · exact fr_some (by assumption)
        · refine fr_lt ?_
          exact ih _ _ (by assumption)
theorem fr_X10_readsNext (N : Nat) (x1 : Int32) (s : Mem) : Fr W_X10_readsNext s (f_X10_readsNext N x1 s) := by
  have key : ∀ s0 : Mem, Sm W_X10_readsNext s0 s → Fr W_X10_readsNext s0 (f_X10_readsNext N x1 s) := by
    intro s0 hm
    unfold f_X10_readsNext
    refine itr_ind (Q := fun (f : Int32 → Mem → Option (Int32 × Mem)) => ∀ y0 s, Sm W_X10_readsNext s0 s → Fr W_X10_readsNext s0 (f y0 s)) (fun _ _ _ => fr_none) (fun _ ih2 => ?_) N _ _ (by assumption)
    refine frst_X10_readsNext_2   ih2
  exact key s sm_refl
def W_X10_reads (c i : Nat) : Prop := W_X10_readsNext c i ∨ W_X10_known c i ∨ W_X10_tired c i ∨ W_X10_feels c i ∨ W_X10_byLaw c i ∨ c = 1 ∨ W_X10_gives c i ∨ (c = 0 ∧ i = 34) ∨ (c = 0 ∧ i = 35)
theorem fr_X10_reads (N : Nat) (x1 : Int32) (s : Mem) : Fr W_X10_reads s (f_X10_reads N x1 s) := by
  have key : ∀ s0 : Mem, Sm W_X10_reads s0 s → Fr W_X10_reads s0 (f_X10_reads N x1 s) := by
    intro s0 hm
    unfold f_X10_reads
    refine fr_call (fr_X10_readsNext _ _ _) (fun c i h => Or.inl h) (by assumption) (fun _ _ _ => ?_)
    refine fr_ite ?_ ?_
    · exact fr_some (by assumption)
    · refine fr_call (fr_X10_known _ _ _ _) (fun c i h => Or.inr (Or.inl h)) (by assumption) (fun _ _ _ => ?_)
      refine fr_chk (fun _ => ?_)
      refine fr_call (fr_X10_tired _ _ _) (fun c i h => Or.inr (Or.inr (Or.inl h))) (by assumption) (fun _ _ _ => ?_)
      refine fr_chk (fun _ => ?_)
      refine fr_call (fr_X10_feels _ _ _ _ _ _ _ _) (fun c i h => Or.inr (Or.inr (Or.inr (Or.inl h)))) (by assumption) (fun _ _ _ => ?_)
      refine fr_call (fr_X10_byLaw _ _ _ _) (fun c i h => Or.inr (Or.inr (Or.inr (Or.inr (Or.inl h))))) (by assumption) (fun _ _ _ => ?_)
      refine fr_call (fr_X10_byLaw _ _ _ _) (fun c i h => Or.inr (Or.inr (Or.inr (Or.inr (Or.inl h))))) (by assumption) (fun _ _ _ => ?_)
      refine fr_chk (fun _ => ?_)
      refine fr_chk (fun _ => ?_)
      refine fr_si (by assumption) (Or.inr (Or.inr (Or.inr (Or.inr (Or.inr (Or.inl rfl)))))) (fun _ _ => ?_)
      refine fr_chk (fun _ => ?_)
      refine fr_ite ?_ ?_
      · refine fr_call (fr_X10_gives _ _ _ _ _) (fun c i h => Or.inr (Or.inr (Or.inr (Or.inr (Or.inr (Or.inr (Or.inl h))))))) (by assumption) (fun _ _ _ => ?_)
        refine fr_si (by assumption) (Or.inr (Or.inr (Or.inr (Or.inr (Or.inr (Or.inr (Or.inr (Or.inl ⟨rfl, rfl⟩)))))))) (fun _ _ => ?_)
        exact fr_some (by assumption)
      · refine fr_si (by assumption) (Or.inr (Or.inr (Or.inr (Or.inr (Or.inr (Or.inr (Or.inr (Or.inr ⟨rfl, rfl⟩)))))))) (fun _ _ => ?_)
        exact fr_some (by assumption)
  exact key s sm_refl
def W_X10_remembers (c i : Nat) : Prop := c = 1
theorem fr_X10_remembers (N : Nat) (x1 : Int32) (x2 : Int32) (s : Mem) : Fr W_X10_remembers s (f_X10_remembers N x1 x2 s) := by
  have key : ∀ s0 : Mem, Sm W_X10_remembers s0 s → Fr W_X10_remembers s0 (f_X10_remembers N x1 x2 s) := by
    intro s0 hm
    unfold f_X10_remembers
    refine fr_chk (fun _ => ?_)
    refine fr_chk (fun _ => ?_)
    refine fr_si (by assumption) (rfl) (fun _ _ => ?_)
    refine fr_chk (fun _ => ?_)
    refine fr_chk (fun _ => ?_)
    refine fr_si (by assumption) (rfl) (fun _ _ => ?_)
    refine fr_chk (fun _ => ?_)
    refine fr_si (by assumption) (rfl) (fun _ _ => ?_)
    exact fr_some (by assumption)
  exact key s sm_refl
def W_X10_monthGoes (c i : Nat) : Prop := W_X10_has c i ∨ W_X10_goesOn c i ∨ W_X10_isParish c i ∨ W_X10_reads c i ∨ W_X10_remembers c i ∨ c = 1 ∨ (c = 0 ∧ i = 36)
theorem frst_X10_monthGoes_2 {s0 : Mem} {N : Nat} {k43 : Mem → Option (Unit × Mem)} {rec : Int32 → Mem → Option (Unit × Mem)}  (hk43 : ∀ (y0 : Mem), Sm W_X10_monthGoes s0 y0 → Fr W_X10_monthGoes s0 (k43 y0)) (ih : ∀ (y0 : Int32) (y1 : Mem), Sm W_X10_monthGoes s0 y1 → Fr W_X10_monthGoes s0 (rec y0 y1)) : ∀ (x1 : Int32) (s : Mem), Sm W_X10_monthGoes s0 s → Fr W_X10_monthGoes s0 (st_X10_monthGoes_2 N k43 rec x1 s) := by
  intro x1 s hm
  unfold st_X10_monthGoes_2
  refine fr_ite ?_ ?_
  · exact hk43 _ (by assumption)
  · refine fr_chk (fun _ => ?_)
    refine fr_call (fr_X10_has _ _ _ _) (fun c i h => Or.inl h) (by assumption) (fun _ _ _ => ?_)
    refine fr_ite ?_ ?_
    · refine fr_lt ?_
      exact ih _ _ (by assumption)
    · refine fr_chk (fun _ => ?_)
      refine fr_call (fr_X10_goesOn _ _ _ _) (fun c i h => Or.inr (Or.inl h)) (by assumption) (fun _ _ _ => ?_)
      refine fr_lt ?_
      exact ih _ _ (by assumption)
theorem frst_X10_monthGoes_45 {s0 : Mem} {N : Nat} {k75 : Mem → Option (Unit × Mem)} {rec : Int32 → Mem → Option (Unit × Mem)}  (hk75 : ∀ (y0 : Mem), Sm W_X10_monthGoes s0 y0 → Fr W_X10_monthGoes s0 (k75 y0)) (ih : ∀ (y0 : Int32) (y1 : Mem), Sm W_X10_monthGoes s0 y1 → Fr W_X10_monthGoes s0 (rec y0 y1)) : ∀ (x1 : Int32) (s : Mem), Sm W_X10_monthGoes s0 s → Fr W_X10_monthGoes s0 (st_X10_monthGoes_45 N k75 rec x1 s) := by
  intro x1 s hm
  unfold st_X10_monthGoes_45
  refine fr_ite ?_ ?_
  · exact hk75 _ (by assumption)
  · refine fr_call (fr_X10_isParish _ _ _) (fun c i h => Or.inr (Or.inr (Or.inl h))) (by assumption) (fun _ _ _ => ?_)
    refine fr_ite ?_ ?_
    · refine fr_lt ?_
      exact ih _ _ (by assumption)
    · refine fr_call (fr_X10_reads _ _ _) (fun c i h => Or.inr (Or.inr (Or.inr (Or.inl h)))) (by assumption) (fun _ _ _ => ?_)
      refine fr_call (fr_X10_remembers _ _ _ _) (fun c i h => Or.inr (Or.inr (Or.inr (Or.inr (Or.inl h))))) (by assumption) (fun _ _ _ => ?_)
      refine fr_lt ?_
      exact ih _ _ (by assumption)
theorem frst_X10_monthGoes_77 {s0 : Mem} {N : Nat} {k180 : Mem → Option (Unit × Mem)} {rec : Int32 → Mem → Option (Unit × Mem)}  (hk180 : ∀ (y0 : Mem), Sm W_X10_monthGoes s0 y0 → Fr W_X10_monthGoes s0 (k180 y0)) (ih : ∀ (y0 : Int32) (y1 : Mem), Sm W_X10_monthGoes s0 y1 → Fr W_X10_monthGoes s0 (rec y0 y1)) : ∀ (x1 : Int32) (s : Mem), Sm W_X10_monthGoes s0 s → Fr W_X10_monthGoes s0 (st_X10_monthGoes_77 N k180 rec x1 s) := by
  intro x1 s hm
  unfold st_X10_monthGoes_77
  refine fr_ite ?_ ?_
  · exact hk180 _ (by assumption)
  · refine fr_chk (fun _ => ?_)
    refine fr_call (fr_X10_has _ _ _ _) (fun c i h => Or.inl h) (by assumption) (fun _ _ _ => ?_)
    refine fr_ite ?_ ?_
    · refine fr_lt ?_
      exact ih _ _ (by assumption)
    · refine fr_chk (fun _ => ?_)
      refine fr_chk (fun _ => ?_)
      refine fr_ite ?_ ?_
      · refine fr_chk (fun _ => ?_)
        refine fr_chk (fun _ => ?_)
        refine fr_si (by assumption) (Or.inr (Or.inr (Or.inr (Or.inr (Or.inr (Or.inl rfl)))))) (fun _ _ => ?_)
        refine fr_chk (fun _ => ?_)
        refine fr_chk (fun _ => ?_)
        refine fr_si (by assumption) (Or.inr (Or.inr (Or.inr (Or.inr (Or.inr (Or.inl rfl)))))) (fun _ _ => ?_)
        refine fr_si (by assumption) (Or.inr (Or.inr (Or.inr (Or.inr (Or.inr (Or.inr ⟨rfl, rfl⟩)))))) (fun _ _ => ?_)
        refine fr_lt ?_
        exact ih _ _ (by assumption)
      · refine fr_lt ?_
        exact ih _ _ (by assumption)
theorem fr_X10_monthGoes (N : Nat) (s : Mem) : Fr W_X10_monthGoes s (f_X10_monthGoes N s) := by
  have key : ∀ s0 : Mem, Sm W_X10_monthGoes s0 s → Fr W_X10_monthGoes s0 (f_X10_monthGoes N s) := by
    intro s0 hm
    unfold f_X10_monthGoes
    refine itr_ind (Q := fun (f : Int32 → Mem → Option (Unit × Mem)) => ∀ y0 s, Sm W_X10_monthGoes s0 s → Fr W_X10_monthGoes s0 (f y0 s)) (fun _ _ _ => fr_none) (fun _ ih2 => ?_) N _ _ (by assumption)
    refine frst_X10_monthGoes_2  ?_ ih2
    · intro s7 hm
      refine itr_ind (Q := fun (f : Int32 → Mem → Option (Unit × Mem)) => ∀ y0 s, Sm W_X10_monthGoes s0 s → Fr W_X10_monthGoes s0 (f y0 s)) (fun _ _ _ => fr_none) (fun _ ih45 => ?_) N _ _ (by assumption)
      refine frst_X10_monthGoes_45  ?_ ih45
      · intro s16 hm
        refine itr_ind (Q := fun (f : Int32 → Mem → Option (Unit × Mem)) => ∀ y0 s, Sm W_X10_monthGoes s0 s → Fr W_X10_monthGoes s0 (f y0 s)) (fun _ _ _ => fr_none) (fun _ ih77 => ?_) N _ _ (by assumption)
        refine frst_X10_monthGoes_77  ?_ ih77
        · intro s25 hm
          refine fr_chk (fun _ => ?_)
          refine fr_chk (fun _ => ?_)
          refine fr_si (by assumption) (Or.inr (Or.inr (Or.inr (Or.inr (Or.inr (Or.inl rfl)))))) (fun _ _ => ?_)
          exact fr_some (by assumption)
  exact key s sm_refl
def W_X10_monthsGo (c i : Nat) : Prop := (c = 0 ∧ i = 34) ∨ (c = 0 ∧ i = 35) ∨ (c = 0 ∧ i = 36) ∨ W_X10_monthGoes c i
theorem frst_X10_monthsGo_17 {s0 : Mem} {N : Nat} {x1 : Int32} {rec : Int32 → Mem → Option (Unit × Mem)}   (ih : ∀ (y0 : Int32) (y1 : Mem), Sm W_X10_monthsGo s0 y1 → Fr W_X10_monthsGo s0 (rec y0 y1)) : ∀ (x2 : Int32) (s : Mem), Sm W_X10_monthsGo s0 s → Fr W_X10_monthsGo s0 (st_X10_monthsGo_17 N x1 rec x2 s) := by
  intro x2 s hm
  unfold st_X10_monthsGo_17
  refine fr_ite ?_ ?_
  · exact fr_some (by assumption)
  · refine fr_chk (fun _ => ?_)
    refine fr_ite ?_ ?_
    · exact fr_some (by assumption)
    · refine fr_call (fr_X10_monthGoes _ _) (fun c i h => Or.inr (Or.inr (Or.inr h))) (by assumption) (fun _ _ _ => ?_)
      refine fr_lt ?_
      exact ih _ _ (by assumption)
theorem fr_X10_monthsGo (N : Nat) (x1 : Int32) (s : Mem) : Fr W_X10_monthsGo s (f_X10_monthsGo N x1 s) := by
  have key : ∀ s0 : Mem, Sm W_X10_monthsGo s0 s → Fr W_X10_monthsGo s0 (f_X10_monthsGo N x1 s) := by
    intro s0 hm
    unfold f_X10_monthsGo
    refine fr_si (by assumption) (Or.inl ⟨rfl, rfl⟩) (fun _ _ => ?_)
    refine fr_si (by assumption) (Or.inr (Or.inl ⟨rfl, rfl⟩)) (fun _ _ => ?_)
    refine fr_si (by assumption) (Or.inr (Or.inr (Or.inl ⟨rfl, rfl⟩))) (fun _ _ => ?_)
    refine itr_ind (Q := fun (f : Int32 → Mem → Option (Unit × Mem)) => ∀ y0 s, Sm W_X10_monthsGo s0 s → Fr W_X10_monthsGo s0 (f y0 s)) (fun _ _ _ => fr_none) (fun _ ih17 => ?_) N _ _ (by assumption)
    refine frst_X10_monthsGo_17   ih17
  exact key s sm_refl
def W_X10_months (c i : Nat) : Prop := W_X10_in c i ∨ W_X10_monthsGo c i
theorem fr_X10_months (N : Nat) (x1 : Int32) (s : Mem) : Fr W_X10_months s (f_X10_months N x1 s) := by
  have key : ∀ s0 : Mem, Sm W_X10_months s0 s → Fr W_X10_months s0 (f_X10_months N x1 s) := by
    intro s0 hm
    unfold f_X10_months
    refine fr_call (fr_X10_in _ _ _ _ _) (fun c i h => Or.inl h) (by assumption) (fun _ _ _ => ?_)
    refine fr_ite ?_ ?_
    · exact fr_some (by assumption)
    · refine fr_call (fr_X10_monthsGo _ _ _) (fun c i h => Or.inr h) (by assumption) (fun _ _ _ => ?_)
      exact fr_some (by assumption)
  exact key s sm_refl
def W_X10_tried (c i : Nat) : Prop := W_X10_in c i ∨ W_X10_copies 2 c i ∨ W_X10_monthsGo c i ∨ W_X10_copies 1 c i ∨ W_X10_isLetter c i
theorem fr_X10_tried (N : Nat) (x1 : Int32) (x2 : Int32) (s : Mem) : Fr W_X10_tried s (f_X10_tried N x1 x2 s) := by
  have key : ∀ s0 : Mem, Sm W_X10_tried s0 s → Fr W_X10_tried s0 (f_X10_tried N x1 x2 s) := by
    intro s0 hm
    unfold f_X10_tried
    refine fr_call (fr_X10_in _ _ _ _ _) (fun c i h => Or.inl h) (by assumption) (fun _ _ _ => ?_)
    refine fr_ite ?_ ?_
    · exact fr_some (by assumption)
    · refine fr_call (fr_X10_in _ _ _ _ _) (fun c i h => Or.inl h) (by assumption) (fun _ _ _ => ?_)
      refine fr_join (fun j => ∀ (s5 : Mem), Sm W_X10_tried s0 s5 → Fr W_X10_tried s0 (j s5)) (fun s5 hm => ?_) (fun j43 hj43 => ?_)
      · refine fr_call (fr_X10_copies _ _ _ _) (fun c i h => Or.inr (Or.inl h)) (by assumption) (fun _ _ _ => ?_)
        refine fr_call (fr_X10_monthsGo _ _ _) (fun c i h => Or.inr (Or.inr (Or.inl h))) (by assumption) (fun _ _ _ => ?_)
        refine fr_join (fun j => ∀ (t11 : Int32) (s10 : Mem), Sm W_X10_tried s0 s10 → Fr W_X10_tried s0 (j t11 s10)) (fun t11 s10 hm => ?_) (fun j132 hj132 => ?_)
        · refine fr_call (fr_X10_copies _ _ _ _) (fun c i h => Or.inr (Or.inr (Or.inr (Or.inl h)))) (by assumption) (fun _ _ _ => ?_)
          exact fr_some (by assumption)
        · refine fr_ite ?_ ?_
          · exact hj132 _ _ (by assumption)
          · refine fr_ite ?_ ?_
            · exact hj132 _ _ (by assumption)
            · refine fr_ite ?_ ?_
              · refine fr_chk (fun _ => ?_)
                refine fr_chk (fun _ => ?_)
                exact hj132 _ _ (by assumption)
              · refine fr_ite ?_ ?_
                · exact hj132 _ _ (by assumption)
                · refine fr_chk (fun _ => ?_)
                  exact hj132 _ _ (by assumption)
      · refine fr_ite ?_ ?_
        · refine fr_call (fr_X10_in _ _ _ _ _) (fun c i h => Or.inl h) (by assumption) (fun _ _ _ => ?_)
          refine fr_ite ?_ ?_
          · exact fr_some (by assumption)
          · refine fr_call (fr_X10_isLetter _ _ _) (fun c i h => Or.inr (Or.inr (Or.inr (Or.inr h)))) (by assumption) (fun _ _ _ => ?_)
            refine fr_ite ?_ ?_
            · exact fr_some (by assumption)
            · exact hj43 _ (by assumption)
        · exact hj43 _ (by assumption)
  exact key s sm_refl
def W_X10_knownSet (c i : Nat) : Prop := W_X10_isKnown c i
theorem frst_X10_knownSet_4 {s0 : Mem} {N : Nat} {x1 : Int32} {rec : Int32 → Int32 → Mem → Option (Int32 × Mem)}   (ih : ∀ (y0 : Int32) (y1 : Int32) (y2 : Mem), Sm W_X10_knownSet s0 y2 → Fr W_X10_knownSet s0 (rec y0 y1 y2)) : ∀ (x2 : Int32) (x3 : Int32) (s : Mem), Sm W_X10_knownSet s0 s → Fr W_X10_knownSet s0 (st_X10_knownSet_4 N x1 rec x2 x3 s) := by
  intro x2 x3 s hm
  unfold st_X10_knownSet_4
  refine fr_ite ?_ ?_
  · exact fr_some (by assumption)
  · refine fr_call (fr_X10_isKnown _ _ _ _) (fun c i h => h) (by assumption) (fun _ _ _ => ?_)
    refine fr_ite ?_ ?_
    · refine fr_lt ?_
      refine fr_lt ?_
      exact ih _ _ _ (by assumption)
    · refine fr_lt ?_
      refine fr_lt ?_
      exact ih _ _ _ (by assumption)
theorem fr_X10_knownSet (N : Nat) (x1 : Int32) (s : Mem) : Fr W_X10_knownSet s (f_X10_knownSet N x1 s) := by
  have key : ∀ s0 : Mem, Sm W_X10_knownSet s0 s → Fr W_X10_knownSet s0 (f_X10_knownSet N x1 s) := by
    intro s0 hm
    unfold f_X10_knownSet
    refine itr_ind (Q := fun (f : Int32 → Int32 → Mem → Option (Int32 × Mem)) => ∀ y0 y1 s, Sm W_X10_knownSet s0 s → Fr W_X10_knownSet s0 (f y0 y1 s)) (fun _ _ _ _ => fr_none) (fun _ ih4 => ?_) N _ _ _ (by assumption)
    refine frst_X10_knownSet_4   ih4
  exact key s sm_refl
def W_X10_parishIs (c i : Nat) : Prop := W_X10_isParish c i ∨ W_X10_in c i ∨ W_X10_isLetter c i ∨ W_X10_isKnown c i ∨ W_X10_has c i ∨ W_X10_tired c i
theorem frst_X10_parishIs_50 {s0 : Mem} {N : Nat} {x1 : Int32} {x2 : Int32} {rec : Int32 → Int32 → Mem → Option (Int32 × Mem)}   (ih : ∀ (y0 : Int32) (y1 : Int32) (y2 : Mem), Sm W_X10_parishIs s0 y2 → Fr W_X10_parishIs s0 (rec y0 y1 y2)) : ∀ (x3 : Int32) (x4 : Int32) (s : Mem), Sm W_X10_parishIs s0 s → Fr W_X10_parishIs s0 (st_X10_parishIs_50 N x1 x2 rec x3 x4 s) := by
  intro x3 x4 s hm
  unfold st_X10_parishIs_50
  refine fr_ite ?_ ?_
  · exact fr_some (by assumption)
  · refine fr_join (fun j => ∀ (t6 : Int32) (s5 : Mem), Sm W_X10_parishIs s0 s5 → Fr W_X10_parishIs s0 (j t6 s5)) (fun t6 s5 hm => ?_) (fun j86 hj86 => ?_)
    · refine fr_call (fr_X10_isLetter _ _ _) (fun c i h => Or.inr (Or.inr (Or.inl h))) (by assumption) (fun _ _ _ => ?_)
      refine fr_ite ?_ ?_
      · refine fr_lt ?_
        exact ih _ _ _ (by assumption)
      · refine fr_ite ?_ ?_
        · refine fr_lt ?_
          exact ih _ _ _ (by assumption)
        · refine fr_lt ?_
          refine fr_lt ?_
          exact ih _ _ _ (by assumption)
    · refine fr_ite ?_ ?_
      · refine fr_call (fr_X10_isKnown _ _ _ _) (fun c i h => Or.inr (Or.inr (Or.inr (Or.inl h)))) (by assumption) (fun _ _ _ => ?_)
        exact hj86 _ _ (by assumption)
      · refine fr_chk (fun _ => ?_)
        refine fr_call (fr_X10_has _ _ _ _) (fun c i h => Or.inr (Or.inr (Or.inr (Or.inr (Or.inl h))))) (by assumption) (fun _ _ _ => ?_)
        exact hj86 _ _ (by assumption)
theorem fr_X10_parishIs (N : Nat) (x1 : Int32) (x2 : Int32) (s : Mem) : Fr W_X10_parishIs s (f_X10_parishIs N x1 x2 s) := by
  have key : ∀ s0 : Mem, Sm W_X10_parishIs s0 s → Fr W_X10_parishIs s0 (f_X10_parishIs N x1 x2 s) := by
    intro s0 hm
    unfold f_X10_parishIs
    refine fr_call (fr_X10_isParish _ _ _) (fun c i h => Or.inl h) (by assumption) (fun _ _ _ => ?_)
    refine fr_ite ?_ ?_
    · exact fr_some (by assumption)
    · refine fr_call (fr_X10_in _ _ _ _ _) (fun c i h => Or.inr (Or.inl h)) (by assumption) (fun _ _ _ => ?_)
      refine fr_ite ?_ ?_
      · exact fr_some (by assumption)
      · refine fr_ite ?_ ?_
        · refine itr_ind (Q := fun (f : Int32 → Int32 → Mem → Option (Int32 × Mem)) => ∀ y0 y1 s, Sm W_X10_parishIs s0 s → Fr W_X10_parishIs s0 (f y0 y1 s)) (fun _ _ _ _ => fr_none) (fun _ ih50 => ?_) N _ _ _ (by assumption)
          refine frst_X10_parishIs_50   ih50
        · refine fr_ite ?_ ?_
          · refine fr_chk (fun _ => ?_)
            exact fr_some (by assumption)
          · refine fr_call (fr_X10_tired _ _ _) (fun c i h => Or.inr (Or.inr (Or.inr (Or.inr (Or.inr h))))) (by assumption) (fun _ _ _ => ?_)
            exact fr_some (by assumption)
  exact key s sm_refl
def W_X10_letterIs (c i : Nat) : Prop := W_X10_isLetter c i ∨ W_X10_has c i ∨ W_X10_knownSet c i
theorem fr_X10_letterIs (N : Nat) (x1 : Int32) (x2 : Int32) (s : Mem) : Fr W_X10_letterIs s (f_X10_letterIs N x1 x2 s) := by
  have key : ∀ s0 : Mem, Sm W_X10_letterIs s0 s → Fr W_X10_letterIs s0 (f_X10_letterIs N x1 x2 s) := by
    intro s0 hm
    unfold f_X10_letterIs
    refine fr_call (fr_X10_isLetter _ _ _) (fun c i h => Or.inl h) (by assumption) (fun _ _ _ => ?_)
    refine fr_ite ?_ ?_
    · exact fr_some (by assumption)
    · refine fr_ite ?_ ?_
      · refine fr_chk (fun _ => ?_)
        exact fr_some (by assumption)
      · refine fr_ite ?_ ?_
        · refine fr_chk (fun _ => ?_)
          exact fr_some (by assumption)
        · refine fr_ite ?_ ?_
          · refine fr_chk (fun _ => ?_)
            exact fr_some (by assumption)
          · refine fr_ite ?_ ?_
            · refine fr_chk (fun _ => ?_)
              refine fr_call (fr_X10_has _ _ _ _) (fun c i h => Or.inr (Or.inl h)) (by assumption) (fun _ _ _ => ?_)
              refine fr_ite ?_ ?_
              · exact fr_some (by assumption)
              · exact fr_some (by assumption)
            · refine fr_ite ?_ ?_
              · refine fr_call (fr_X10_knownSet _ _ _) (fun c i h => Or.inr (Or.inr h)) (by assumption) (fun _ _ _ => ?_)
                exact fr_some (by assumption)
              · refine fr_ite ?_ ?_
                · refine fr_chk (fun _ => ?_)
                  exact fr_some (by assumption)
                · exact fr_some (by assumption)
  exact key s sm_refl
def W_X10_toldAt (c i : Nat) : Prop := W_X10_isLetter c i ∨ W_X10_isParish c i ∨ W_X10_isKnown c i ∨ W_X10_known c i
theorem fr_X10_toldAt (N : Nat) (x1 : Int32) (x2 : Int32) (s : Mem) : Fr W_X10_toldAt s (f_X10_toldAt N x1 x2 s) := by
  have key : ∀ s0 : Mem, Sm W_X10_toldAt s0 s → Fr W_X10_toldAt s0 (f_X10_toldAt N x1 x2 s) := by
    intro s0 hm
    unfold f_X10_toldAt
    refine fr_call (fr_X10_isLetter _ _ _) (fun c i h => Or.inl h) (by assumption) (fun _ _ _ => ?_)
    refine fr_ite ?_ ?_
    · exact fr_some (by assumption)
    · refine fr_call (fr_X10_isParish _ _ _) (fun c i h => Or.inr (Or.inl h)) (by assumption) (fun _ _ _ => ?_)
      refine fr_ite ?_ ?_
      · exact fr_some (by assumption)
      · refine fr_call (fr_X10_isKnown _ _ _ _) (fun c i h => Or.inr (Or.inr (Or.inl h))) (by assumption) (fun _ _ _ => ?_)
        refine fr_ite ?_ ?_
        · exact fr_some (by assumption)
        · refine fr_call (fr_X10_known _ _ _ _) (fun c i h => Or.inr (Or.inr (Or.inr h))) (by assumption) (fun _ _ _ => ?_)
          refine fr_chk (fun _ => ?_)
          exact fr_some (by assumption)
  exact key s sm_refl
def W_X10_spreads (c i : Nat) : Prop := W_X10_isLetter c i ∨ W_X10_in c i ∨ W_X10_has c i ∨ W_X10_copies 2 c i ∨ W_X10_isKnown c i ∨ c = 24 ∨ W_X10_goesOn c i ∨ W_X10_copies 1 c i ∨ W_X10_isParish c i
theorem frst_X10_spreads_60 {s0 : Mem} {N : Nat} {x1 : Int32} {x2 : Int32} {k93 : Mem → Option (Int32 × Mem)} {rec : Int32 → Mem → Option (Int32 × Mem)}  (hk93 : ∀ (y0 : Mem), Sm W_X10_spreads s0 y0 → Fr W_X10_spreads s0 (k93 y0)) (ih : ∀ (y0 : Int32) (y1 : Mem), Sm W_X10_spreads s0 y1 → Fr W_X10_spreads s0 (rec y0 y1)) : ∀ (x3 : Int32) (s : Mem), Sm W_X10_spreads s0 s → Fr W_X10_spreads s0 (st_X10_spreads_60 N x1 x2 k93 rec x3 s) := by
  intro x3 s hm
  unfold st_X10_spreads_60
  refine fr_ite ?_ ?_
  · exact hk93 _ (by assumption)
  · refine fr_call (fr_X10_isKnown _ _ _ _) (fun c i h => Or.inr (Or.inr (Or.inr (Or.inr (Or.inl h))))) (by assumption) (fun _ _ _ => ?_)
    refine fr_ite ?_ ?_
    · refine fr_chk (fun _ => ?_)
      refine fr_si (by assumption) (Or.inr (Or.inr (Or.inr (Or.inr (Or.inr (Or.inl rfl)))))) (fun _ _ => ?_)
      refine fr_lt ?_
      exact ih _ _ (by assumption)
    · refine fr_chk (fun _ => ?_)
      refine fr_si (by assumption) (Or.inr (Or.inr (Or.inr (Or.inr (Or.inr (Or.inl rfl)))))) (fun _ _ => ?_)
      refine fr_lt ?_
      exact ih _ _ (by assumption)
theorem frst_X10_spreads_122 {s0 : Mem} {N : Nat} {x1 : Int32} {x2 : Int32} {x3 : Int32} {k165 : Mem → Option (Int32 × Mem)} {rec : Int32 → Mem → Option (Int32 × Mem)}  (hk165 : ∀ (y0 : Mem), Sm W_X10_spreads s0 y0 → Fr W_X10_spreads s0 (k165 y0)) (ih : ∀ (y0 : Int32) (y1 : Mem), Sm W_X10_spreads s0 y1 → Fr W_X10_spreads s0 (rec y0 y1)) : ∀ (x4 : Int32) (s : Mem), Sm W_X10_spreads s0 s → Fr W_X10_spreads s0 (st_X10_spreads_122 N x1 x2 x3 k165 rec x4 s) := by
  intro x4 s hm
  unfold st_X10_spreads_122
  refine fr_ite ?_ ?_
  · exact hk165 _ (by assumption)
  · refine fr_chk (fun _ => ?_)
    refine fr_ite ?_ ?_
    · refine fr_call (fr_X10_isKnown _ _ _ _) (fun c i h => Or.inr (Or.inr (Or.inr (Or.inr (Or.inl h))))) (by assumption) (fun _ _ _ => ?_)
      refine fr_ite ?_ ?_
      · refine fr_lt ?_
        exact ih _ _ (by assumption)
      · refine fr_chk (fun _ => ?_)
        refine fr_si (by assumption) (Or.inr (Or.inr (Or.inr (Or.inr (Or.inr (Or.inl rfl)))))) (fun _ _ => ?_)
        refine fr_lt ?_
        exact ih _ _ (by assumption)
    · refine fr_lt ?_
      exact ih _ _ (by assumption)
theorem frst_X10_spreads_95 {s0 : Mem} {N : Nat} {x1 : Int32} {x2 : Int32} {k171 : Mem → Option (Int32 × Mem)} {rec : Int32 → Mem → Option (Int32 × Mem)}  (hk171 : ∀ (y0 : Mem), Sm W_X10_spreads s0 y0 → Fr W_X10_spreads s0 (k171 y0)) (ih : ∀ (y0 : Int32) (y1 : Mem), Sm W_X10_spreads s0 y1 → Fr W_X10_spreads s0 (rec y0 y1)) : ∀ (x3 : Int32) (s : Mem), Sm W_X10_spreads s0 s → Fr W_X10_spreads s0 (st_X10_spreads_95 N x1 x2 k171 rec x3 s) := by
  intro x3 s hm
  unfold st_X10_spreads_95
  refine fr_ite ?_ ?_
  · exact hk171 _ (by assumption)
  · refine fr_chk (fun _ => ?_)
    refine fr_call (fr_X10_goesOn _ _ _ _) (fun c i h => Or.inr (Or.inr (Or.inr (Or.inr (Or.inr (Or.inr (Or.inl h))))))) (by assumption) (fun _ _ _ => ?_)
    refine itr_ind (Q := fun (f : Int32 → Mem → Option (Int32 × Mem)) => ∀ y0 s, Sm W_X10_spreads s0 s → Fr W_X10_spreads s0 (f y0 s)) (fun _ _ _ => fr_none) (fun _ ih122 => ?_) N _ _ (by assumption)
    refine frst_X10_spreads_122  ?_ ih122
    · intro s25 hm
      refine fr_lt ?_
      exact ih _ _ (by assumption)
theorem frst_X10_spreads_208 {s0 : Mem} {N : Nat} {x2 : Int32} {k268 : Int32 → Int32 → Int32 → Mem → Option (Int32 × Mem)} {rec : Int32 → Int32 → Int32 → Int32 → Mem → Option (Int32 × Mem)}  (hk268 : ∀ (y0 : Int32) (y1 : Int32) (y2 : Int32) (y3 : Mem), Sm W_X10_spreads s0 y3 → Fr W_X10_spreads s0 (k268 y0 y1 y2 y3)) (ih : ∀ (y0 : Int32) (y1 : Int32) (y2 : Int32) (y3 : Int32) (y4 : Mem), Sm W_X10_spreads s0 y4 → Fr W_X10_spreads s0 (rec y0 y1 y2 y3 y4)) : ∀ (x3 : Int32) (x4 : Int32) (x5 : Int32) (x6 : Int32) (s : Mem), Sm W_X10_spreads s0 s → Fr W_X10_spreads s0 (st_X10_spreads_208 N x2 k268 rec x3 x4 x5 x6 s) := by
  intro x3 x4 x5 x6 s hm
  unfold st_X10_spreads_208
  refine fr_ite ?_ ?_
  · exact hk268 _ _ _ _ (by assumption)
  · refine fr_chk (fun _ => ?_)
    refine fr_ite ?_ ?_
    · refine fr_lt ?_
      exact ih _ _ _ _ _ (by assumption)
    · refine fr_lt ?_
      refine fr_chk (fun _ => ?_)
      refine fr_ite ?_ ?_
      · refine fr_chk (fun _ => ?_)
        refine fr_lt ?_
        refine fr_lt ?_
        exact ih _ _ _ _ _ (by assumption)
      · refine fr_lt ?_
        exact ih _ _ _ _ _ (by assumption)
theorem fr_X10_spreads (N : Nat) (x1 : Int32) (x2 : Int32) (s : Mem) : Fr W_X10_spreads s (f_X10_spreads N x1 x2 s) := by
  have key : ∀ s0 : Mem, Sm W_X10_spreads s0 s → Fr W_X10_spreads s0 (f_X10_spreads N x1 x2 s) := by
    intro s0 hm
    unfold f_X10_spreads
    refine fr_call (fr_X10_isLetter _ _ _) (fun c i h => Or.inl h) (by assumption) (fun _ _ _ => ?_)
    refine fr_ite ?_ ?_
    · exact fr_some (by assumption)
    · refine fr_call (fr_X10_in _ _ _ _ _) (fun c i h => Or.inr (Or.inl h)) (by assumption) (fun _ _ _ => ?_)
      refine fr_join (fun j => ∀ (s5 : Mem), Sm W_X10_spreads s0 s5 → Fr W_X10_spreads s0 (j s5)) (fun s5 hm => ?_) (fun j29 hj29 => ?_)
      · refine fr_chk (fun _ => ?_)
        refine fr_call (fr_X10_has _ _ _ _) (fun c i h => Or.inr (Or.inr (Or.inl h))) (by assumption) (fun _ _ _ => ?_)
        refine fr_ite ?_ ?_
        · exact fr_some (by assumption)
        · refine fr_call (fr_X10_copies _ _ _ _) (fun c i h => Or.inr (Or.inr (Or.inr (Or.inl h)))) (by assumption) (fun _ _ _ => ?_)
          refine itr_ind (Q := fun (f : Int32 → Mem → Option (Int32 × Mem)) => ∀ y0 s, Sm W_X10_spreads s0 s → Fr W_X10_spreads s0 (f y0 s)) (fun _ _ _ => fr_none) (fun _ ih60 => ?_) N _ _ (by assumption)
          refine frst_X10_spreads_60  ?_ ih60
          · intro s16 hm
            refine itr_ind (Q := fun (f : Int32 → Mem → Option (Int32 × Mem)) => ∀ y0 s, Sm W_X10_spreads s0 s → Fr W_X10_spreads s0 (f y0 s)) (fun _ _ _ => fr_none) (fun _ ih95 => ?_) N _ _ (by assumption)
            refine frst_X10_spreads_95  ?_ ih95
            · intro s27 hm
              refine fr_call (fr_X10_copies _ _ _ _) (fun c i h => Or.inr (Or.inr (Or.inr (Or.inr (Or.inr (Or.inr (Or.inr (Or.inl h)))))))) (by assumption) (fun _ _ _ => ?_)
              refine fr_ite ?_ ?_
              · refine itr_ind (Q := fun (f : Int32 → Int32 → Int32 → Int32 → Mem → Option (Int32 × Mem)) => ∀ y0 y1 y2 y3 s, Sm W_X10_spreads s0 s → Fr W_X10_spreads s0 (f y0 y1 y2 y3 s)) (fun _ _ _ _ _ _ => fr_none) (fun _ ih208 => ?_) N _ _ _ _ _ (by assumption)
                refine frst_X10_spreads_208  ?_ ih208
                · intro x3_36 x4_37 x5_38 s35 hm
                  refine fr_ite ?_ ?_
                  · exact fr_some (by assumption)
                  · refine fr_ite ?_ ?_
                    · exact fr_some (by assumption)
                    · exact fr_some (by assumption)
              · refine fr_chk (fun _ => ?_)
                exact fr_some (by assumption)
      · refine fr_ite ?_ ?_
        · refine fr_call (fr_X10_isParish _ _ _) (fun c i h => Or.inr (Or.inr (Or.inr (Or.inr (Or.inr (Or.inr (Or.inr (Or.inr h)))))))) (by assumption) (fun _ _ _ => ?_)
          refine fr_ite ?_ ?_
          · exact fr_some (by assumption)
          · exact hj29 _ (by assumption)
        · exact hj29 _ (by assumption)
  exact key s sm_refl
def W_X10_laysWays (c i : Nat) : Prop := c = 25 ∨ W_X10_min c i
theorem frst_X10_laysWays_2 {s0 : Mem} {N : Nat} {k57 : Mem → Option (Unit × Mem)} {rec : Int32 → Mem → Option (Unit × Mem)}  (hk57 : ∀ (y0 : Mem), Sm W_X10_laysWays s0 y0 → Fr W_X10_laysWays s0 (k57 y0)) (ih : ∀ (y0 : Int32) (y1 : Mem), Sm W_X10_laysWays s0 y1 → Fr W_X10_laysWays s0 (rec y0 y1)) : ∀ (x1 : Int32) (s : Mem), Sm W_X10_laysWays s0 s → Fr W_X10_laysWays s0 (st_X10_laysWays_2 N k57 rec x1 s) := by
  intro x1 s hm
  unfold st_X10_laysWays_2
  refine fr_ite ?_ ?_
  · exact hk57 _ (by assumption)
  · refine fr_ite ?_ ?_
    · refine fr_chk (fun _ => ?_)
      refine fr_si (by assumption) (Or.inl rfl) (fun _ _ => ?_)
      refine fr_lt ?_
      exact ih _ _ (by assumption)
    · refine fr_chk (fun _ => ?_)
      refine fr_ite ?_ ?_
      · refine fr_chk (fun _ => ?_)
        refine fr_si (by assumption) (Or.inl rfl) (fun _ _ => ?_)
        refine fr_lt ?_
        exact ih _ _ (by assumption)
      · refine fr_chk (fun _ => ?_)
        refine fr_chk (fun _ => ?_)
        refine fr_si (by assumption) (Or.inl rfl) (fun _ _ => ?_)
        refine fr_lt ?_
        exact ih _ _ (by assumption)
theorem frst_X10_laysWays_75 {s0 : Mem} {N : Nat} {x1 : Int32} {x2 : Int32} {k135 : Mem → Option (Unit × Mem)} {rec : Int32 → Mem → Option (Unit × Mem)}  (hk135 : ∀ (y0 : Mem), Sm W_X10_laysWays s0 y0 → Fr W_X10_laysWays s0 (k135 y0)) (ih : ∀ (y0 : Int32) (y1 : Mem), Sm W_X10_laysWays s0 y1 → Fr W_X10_laysWays s0 (rec y0 y1)) : ∀ (x3 : Int32) (s : Mem), Sm W_X10_laysWays s0 s → Fr W_X10_laysWays s0 (st_X10_laysWays_75 N x1 x2 k135 rec x3 s) := by
  intro x3 s hm
  unfold st_X10_laysWays_75
  refine fr_ite ?_ ?_
  · exact hk135 _ (by assumption)
  · refine fr_chk (fun _ => ?_)
    refine fr_chk (fun _ => ?_)
    refine fr_chk (fun _ => ?_)
    refine fr_call (fr_X10_min _ _ _ _) (fun c i h => Or.inr h) (by assumption) (fun _ _ _ => ?_)
    refine fr_chk (fun _ => ?_)
    refine fr_si (by assumption) (Or.inl rfl) (fun _ _ => ?_)
    refine fr_lt ?_
    exact ih _ _ (by assumption)
theorem frst_X10_laysWays_67 {s0 : Mem} {N : Nat} {x1 : Int32} {k141 : Mem → Option (Unit × Mem)} {rec : Int32 → Mem → Option (Unit × Mem)}  (hk141 : ∀ (y0 : Mem), Sm W_X10_laysWays s0 y0 → Fr W_X10_laysWays s0 (k141 y0)) (ih : ∀ (y0 : Int32) (y1 : Mem), Sm W_X10_laysWays s0 y1 → Fr W_X10_laysWays s0 (rec y0 y1)) : ∀ (x2 : Int32) (s : Mem), Sm W_X10_laysWays s0 s → Fr W_X10_laysWays s0 (st_X10_laysWays_67 N x1 k141 rec x2 s) := by
  intro x2 s hm
  unfold st_X10_laysWays_67
  refine fr_ite ?_ ?_
  · exact hk141 _ (by assumption)
  · refine itr_ind (Q := fun (f : Int32 → Mem → Option (Unit × Mem)) => ∀ y0 s, Sm W_X10_laysWays s0 s → Fr W_X10_laysWays s0 (f y0 s)) (fun _ _ _ => fr_none) (fun _ ih75 => ?_) N _ _ (by assumption)
    refine frst_X10_laysWays_75  ?_ ih75
    · intro s12 hm
      refine fr_lt ?_
      exact ih _ _ (by assumption)
theorem frst_X10_laysWays_59 {s0 : Mem} {N : Nat} {rec : Int32 → Mem → Option (Unit × Mem)}   (ih : ∀ (y0 : Int32) (y1 : Mem), Sm W_X10_laysWays s0 y1 → Fr W_X10_laysWays s0 (rec y0 y1)) : ∀ (x1 : Int32) (s : Mem), Sm W_X10_laysWays s0 s → Fr W_X10_laysWays s0 (st_X10_laysWays_59 N rec x1 s) := by
  intro x1 s hm
  unfold st_X10_laysWays_59
  refine fr_ite ?_ ?_
  · exact fr_some (by assumption)
  · refine itr_ind (Q := fun (f : Int32 → Mem → Option (Unit × Mem)) => ∀ y0 s, Sm W_X10_laysWays s0 s → Fr W_X10_laysWays s0 (f y0 s)) (fun _ _ _ => fr_none) (fun _ ih67 => ?_) N _ _ (by assumption)
    refine frst_X10_laysWays_67  ?_ ih67
    · intro s14 hm
      refine fr_lt ?_
      exact ih _ _ (by assumption)
theorem fr_X10_laysWays (N : Nat) (s : Mem) : Fr W_X10_laysWays s (f_X10_laysWays N s) := by
  have key : ∀ s0 : Mem, Sm W_X10_laysWays s0 s → Fr W_X10_laysWays s0 (f_X10_laysWays N s) := by
    intro s0 hm
    unfold f_X10_laysWays
    refine itr_ind (Q := fun (f : Int32 → Mem → Option (Unit × Mem)) => ∀ y0 s, Sm W_X10_laysWays s0 s → Fr W_X10_laysWays s0 (f y0 s)) (fun _ _ _ => fr_none) (fun _ ih2 => ?_) N _ _ (by assumption)
    refine frst_X10_laysWays_2  ?_ ih2
    · intro s7 hm
      refine itr_ind (Q := fun (f : Int32 → Mem → Option (Unit × Mem)) => ∀ y0 s, Sm W_X10_laysWays s0 s → Fr W_X10_laysWays s0 (f y0 s)) (fun _ _ _ => fr_none) (fun _ ih59 => ?_) N _ _ (by assumption)
      refine frst_X10_laysWays_59   ih59
  exact key s sm_refl
def W_X10_miles (c i : Nat) : Prop := W_X10_isParish c i ∨ W_X10_laysWays c i
theorem fr_X10_miles (N : Nat) (x1 : Int32) (x2 : Int32) (s : Mem) : Fr W_X10_miles s (f_X10_miles N x1 x2 s) := by
  have key : ∀ s0 : Mem, Sm W_X10_miles s0 s → Fr W_X10_miles s0 (f_X10_miles N x1 x2 s) := by
    intro s0 hm
    unfold f_X10_miles
    refine fr_call (fr_X10_isParish _ _ _) (fun c i h => Or.inl h) (by assumption) (fun _ _ _ => ?_)
    refine fr_ite ?_ ?_
    · exact fr_some (by assumption)
    · refine fr_call (fr_X10_isParish _ _ _) (fun c i h => Or.inl h) (by assumption) (fun _ _ _ => ?_)
      refine fr_ite ?_ ?_
      · exact fr_some (by assumption)
      · refine fr_call (fr_X10_laysWays _ _) (fun c i h => Or.inr h) (by assumption) (fun _ _ _ => ?_)
        refine fr_chk (fun _ => ?_)
        refine fr_ite ?_ ?_
        · refine fr_chk (fun _ => ?_)
          exact fr_some (by assumption)
        · exact fr_some (by assumption)
  exact key s sm_refl
def W_X10_listsOnes (c i : Nat) : Prop := W_X10_has c i ∨ c = 26
theorem frst_X10_listsOnes_4 {s0 : Mem} {N : Nat} {x1 : Int32} {rec : Int32 → Int32 → Mem → Option (Unit × Mem)}   (ih : ∀ (y0 : Int32) (y1 : Int32) (y2 : Mem), Sm W_X10_listsOnes s0 y2 → Fr W_X10_listsOnes s0 (rec y0 y1 y2)) : ∀ (x2 : Int32) (x3 : Int32) (s : Mem), Sm W_X10_listsOnes s0 s → Fr W_X10_listsOnes s0 (st_X10_listsOnes_4 N x1 rec x2 x3 s) := by
  intro x2 x3 s hm
  unfold st_X10_listsOnes_4
  refine fr_ite ?_ ?_
  · exact fr_some (by assumption)
  · refine fr_call (fr_X10_has _ _ _ _) (fun c i h => Or.inl h) (by assumption) (fun _ _ _ => ?_)
    refine fr_ite ?_ ?_
    · refine fr_lt ?_
      exact ih _ _ _ (by assumption)
    · refine fr_chk (fun _ => ?_)
      refine fr_si (by assumption) (Or.inr rfl) (fun _ _ => ?_)
      refine fr_lt ?_
      refine fr_lt ?_
      exact ih _ _ _ (by assumption)
theorem fr_X10_listsOnes (N : Nat) (x1 : Int32) (s : Mem) : Fr W_X10_listsOnes s (f_X10_listsOnes N x1 s) := by
  have key : ∀ s0 : Mem, Sm W_X10_listsOnes s0 s → Fr W_X10_listsOnes s0 (f_X10_listsOnes N x1 s) := by
    intro s0 hm
    unfold f_X10_listsOnes
    refine itr_ind (Q := fun (f : Int32 → Int32 → Mem → Option (Unit × Mem)) => ∀ y0 y1 s, Sm W_X10_listsOnes s0 s → Fr W_X10_listsOnes s0 (f y0 y1 s)) (fun _ _ _ _ => fr_none) (fun _ ih4 => ?_) N _ _ _ (by assumption)
    refine frst_X10_listsOnes_4   ih4
  exact key s sm_refl
def W_X10_beginsRows (c i : Nat) : Prop := c = 27
theorem frst_X10_beginsRows_2 {s0 : Mem} {N : Nat} {x1 : Int32} {rec : Int32 → Mem → Option (Unit × Mem)}   (ih : ∀ (y0 : Int32) (y1 : Mem), Sm W_X10_beginsRows s0 y1 → Fr W_X10_beginsRows s0 (rec y0 y1)) : ∀ (x2 : Int32) (s : Mem), Sm W_X10_beginsRows s0 s → Fr W_X10_beginsRows s0 (st_X10_beginsRows_2 N x1 rec x2 s) := by
  intro x2 s hm
  unfold st_X10_beginsRows_2
  refine fr_ite ?_ ?_
  · exact fr_some (by assumption)
  · refine fr_chk (fun _ => ?_)
    refine fr_si (by assumption) (rfl) (fun _ _ => ?_)
    refine fr_lt ?_
    exact ih _ _ (by assumption)
theorem fr_X10_beginsRows (N : Nat) (x1 : Int32) (s : Mem) : Fr W_X10_beginsRows s (f_X10_beginsRows N x1 s) := by
  have key : ∀ s0 : Mem, Sm W_X10_beginsRows s0 s → Fr W_X10_beginsRows s0 (f_X10_beginsRows N x1 s) := by
    intro s0 hm
    unfold f_X10_beginsRows
    refine itr_ind (Q := fun (f : Int32 → Mem → Option (Unit × Mem)) => ∀ y0 s, Sm W_X10_beginsRows s0 s → Fr W_X10_beginsRows s0 (f y0 s)) (fun _ _ _ => fr_none) (fun _ ih2 => ?_) N _ _ (by assumption)
    refine frst_X10_beginsRows_2   ih2
  exact key s sm_refl
def W_X10_keepsRow (c i : Nat) : Prop := c = 28
theorem frst_X10_keepsRow_2 {s0 : Mem} {N : Nat} {x1 : Int32} {rec : Int32 → Mem → Option (Unit × Mem)}   (ih : ∀ (y0 : Int32) (y1 : Mem), Sm W_X10_keepsRow s0 y1 → Fr W_X10_keepsRow s0 (rec y0 y1)) : ∀ (x2 : Int32) (s : Mem), Sm W_X10_keepsRow s0 s → Fr W_X10_keepsRow s0 (st_X10_keepsRow_2 N x1 rec x2 s) := by
  intro x2 s hm
  unfold st_X10_keepsRow_2
  refine fr_ite ?_ ?_
  · exact fr_some (by assumption)
  · refine fr_chk (fun _ => ?_)
    refine fr_chk (fun _ => ?_)
    refine fr_chk (fun _ => ?_)
    refine fr_si (by assumption) (rfl) (fun _ _ => ?_)
    refine fr_lt ?_
    exact ih _ _ (by assumption)
theorem fr_X10_keepsRow (N : Nat) (x1 : Int32) (s : Mem) : Fr W_X10_keepsRow s (f_X10_keepsRow N x1 s) := by
  have key : ∀ s0 : Mem, Sm W_X10_keepsRow s0 s → Fr W_X10_keepsRow s0 (f_X10_keepsRow N x1 s) := by
    intro s0 hm
    unfold f_X10_keepsRow
    refine itr_ind (Q := fun (f : Int32 → Mem → Option (Unit × Mem)) => ∀ y0 s, Sm W_X10_keepsRow s0 s → Fr W_X10_keepsRow s0 (f y0 s)) (fun _ _ _ => fr_none) (fun _ ih2 => ?_) N _ _ (by assumption)
    refine frst_X10_keepsRow_2   ih2
  exact key s sm_refl
def W_X10_changes (c i : Nat) : Prop := c = 27
theorem fr_X10_changes (N : Nat) (x1 : Int32) (x2 : Int32) (s : Mem) : Fr W_X10_changes s (f_X10_changes N x1 x2 s) := by
  have key : ∀ s0 : Mem, Sm W_X10_changes s0 s → Fr W_X10_changes s0 (f_X10_changes N x1 x2 s) := by
    intro s0 hm
    unfold f_X10_changes
    refine fr_chk (fun _ => ?_)
    refine fr_lt ?_
    refine fr_chk (fun _ => ?_)
    refine fr_chk (fun _ => ?_)
    refine fr_si (by assumption) (rfl) (fun _ _ => ?_)
    refine fr_chk (fun _ => ?_)
    refine fr_si (by assumption) (rfl) (fun _ _ => ?_)
    exact fr_some (by assumption)
  exact key s sm_refl
def W_X10_nextRow (c i : Nat) : Prop := W_X10_changes c i
theorem frst_X10_nextRow_4 {s0 : Mem} {N : Nat} {x1 : Int32} {k32 : Int32 → Mem → Option (Int32 × Mem)} {rec : Int32 → Mem → Option (Int32 × Mem)}  (hk32 : ∀ (y0 : Int32) (y1 : Mem), Sm W_X10_nextRow s0 y1 → Fr W_X10_nextRow s0 (k32 y0 y1)) (ih : ∀ (y0 : Int32) (y1 : Mem), Sm W_X10_nextRow s0 y1 → Fr W_X10_nextRow s0 (rec y0 y1)) : ∀ (x2 : Int32) (s : Mem), Sm W_X10_nextRow s0 s → Fr W_X10_nextRow s0 (st_X10_nextRow_4 N x1 k32 rec x2 s) := by
  intro x2 s hm
  unfold st_X10_nextRow_4
  refine fr_ite ?_ ?_
  · exact hk32 _ _ (by assumption)
  · refine fr_chk (fun _ => ?_)
    refine fr_chk (fun _ => ?_)
    refine fr_ite ?_ ?_
    · exact hk32 _ _ (by assumption)
    · refine fr_lt ?_
      exact ih _ _ (by assumption)
theorem frst_X10_nextRow_42 {s0 : Mem} {N : Nat} {x1 : Int32} {x2 : Int32} {k64 : Int32 → Mem → Option (Int32 × Mem)} {rec : Int32 → Mem → Option (Int32 × Mem)}  (hk64 : ∀ (y0 : Int32) (y1 : Mem), Sm W_X10_nextRow s0 y1 → Fr W_X10_nextRow s0 (k64 y0 y1)) (ih : ∀ (y0 : Int32) (y1 : Mem), Sm W_X10_nextRow s0 y1 → Fr W_X10_nextRow s0 (rec y0 y1)) : ∀ (x3 : Int32) (s : Mem), Sm W_X10_nextRow s0 s → Fr W_X10_nextRow s0 (st_X10_nextRow_42 N x1 x2 k64 rec x3 s) := by
  intro x3 s hm
  unfold st_X10_nextRow_42
  refine fr_chk (fun _ => ?_)
  refine fr_chk (fun _ => ?_)
  refine fr_ite ?_ ?_
  · exact hk64 _ _ (by assumption)
  · refine fr_lt ?_
    exact ih _ _ (by assumption)
theorem frst_X10_nextRow_80 {s0 : Mem} {N : Nat} {rec : Int32 → Int32 → Mem → Option (Int32 × Mem)}   (ih : ∀ (y0 : Int32) (y1 : Int32) (y2 : Mem), Sm W_X10_nextRow s0 y2 → Fr W_X10_nextRow s0 (rec y0 y1 y2)) : ∀ (x4 : Int32) (x5 : Int32) (s : Mem), Sm W_X10_nextRow s0 s → Fr W_X10_nextRow s0 (st_X10_nextRow_80 N rec x4 x5 s) := by
  intro x4 x5 s hm
  unfold st_X10_nextRow_80
  refine fr_ite ?_ ?_
  · exact fr_some (by assumption)
  · refine fr_call (fr_X10_changes _ _ _ _) (fun c i h => h) (by assumption) (fun _ _ _ => ?_)
    refine fr_lt ?_
    refine fr_lt ?_
    exact ih _ _ _ (by assumption)
theorem fr_X10_nextRow (N : Nat) (x1 : Int32) (s : Mem) : Fr W_X10_nextRow s (f_X10_nextRow N x1 s) := by
  have key : ∀ s0 : Mem, Sm W_X10_nextRow s0 s → Fr W_X10_nextRow s0 (f_X10_nextRow N x1 s) := by
    intro s0 hm
    unfold f_X10_nextRow
    refine fr_lt ?_
    refine itr_ind (Q := fun (f : Int32 → Mem → Option (Int32 × Mem)) => ∀ y0 s, Sm W_X10_nextRow s0 s → Fr W_X10_nextRow s0 (f y0 s)) (fun _ _ _ => fr_none) (fun _ ih4 => ?_) N _ _ (by assumption)
    refine frst_X10_nextRow_4  ?_ ih4
    · intro x2_4 s3 hm
      refine fr_ite ?_ ?_
      · refine fr_lt ?_
        refine itr_ind (Q := fun (f : Int32 → Mem → Option (Int32 × Mem)) => ∀ y0 s, Sm W_X10_nextRow s0 s → Fr W_X10_nextRow s0 (f y0 s)) (fun _ _ _ => fr_none) (fun _ ih42 => ?_) N _ _ (by assumption)
        refine frst_X10_nextRow_42  ?_ ih42
        · intro x3_8 s7 hm
          refine fr_call (fr_X10_changes _ _ _ _) (fun c i h => h) (by assumption) (fun _ _ _ => ?_)
          refine fr_lt ?_
          refine fr_lt ?_
          refine itr_ind (Q := fun (f : Int32 → Int32 → Mem → Option (Int32 × Mem)) => ∀ y0 y1 s, Sm W_X10_nextRow s0 s → Fr W_X10_nextRow s0 (f y0 y1 s)) (fun _ _ _ _ => fr_none) (fun _ ih80 => ?_) N _ _ _ (by assumption)
          refine frst_X10_nextRow_80   ih80
      · exact fr_some (by assumption)
  exact key s sm_refl
def W_X10_milesOfRow (c i : Nat) : Prop := W_X10_min c i
theorem frst_X10_milesOfRow_8 {s0 : Mem} {N : Nat} {x1 : Int32} {x2 : Int32} {k60 : Int32 → Int32 → Mem → Option (Int32 × Mem)} {rec : Int32 → Int32 → Int32 → Mem → Option (Int32 × Mem)}  (hk60 : ∀ (y0 : Int32) (y1 : Int32) (y2 : Mem), Sm W_X10_milesOfRow s0 y2 → Fr W_X10_milesOfRow s0 (k60 y0 y1 y2)) (ih : ∀ (y0 : Int32) (y1 : Int32) (y2 : Int32) (y3 : Mem), Sm W_X10_milesOfRow s0 y3 → Fr W_X10_milesOfRow s0 (rec y0 y1 y2 y3)) : ∀ (x3 : Int32) (x4 : Int32) (x5 : Int32) (s : Mem), Sm W_X10_milesOfRow s0 s → Fr W_X10_milesOfRow s0 (st_X10_milesOfRow_8 N x1 x2 k60 rec x3 x4 x5 s) := by
  intro x3 x4 x5 s hm
  unfold st_X10_milesOfRow_8
  refine fr_ite ?_ ?_
  · exact hk60 _ _ _ (by assumption)
  · refine fr_chk (fun _ => ?_)
    refine fr_chk (fun _ => ?_)
    refine fr_lt ?_
    refine fr_chk (fun _ => ?_)
    refine fr_call (fr_X10_min _ _ _ _) (fun c i h => h) (by assumption) (fun _ _ _ => ?_)
    refine fr_lt ?_
    exact ih _ _ _ _ (by assumption)
theorem fr_X10_milesOfRow (N : Nat) (x1 : Int32) (x2 : Int32) (s : Mem) : Fr W_X10_milesOfRow s (f_X10_milesOfRow N x1 x2 s) := by
  have key : ∀ s0 : Mem, Sm W_X10_milesOfRow s0 s → Fr W_X10_milesOfRow s0 (f_X10_milesOfRow N x1 x2 s) := by
    intro s0 hm
    unfold f_X10_milesOfRow
    refine itr_ind (Q := fun (f : Int32 → Int32 → Int32 → Mem → Option (Int32 × Mem)) => ∀ y0 y1 y2 s, Sm W_X10_milesOfRow s0 s → Fr W_X10_milesOfRow s0 (f y0 y1 y2 s)) (fun _ _ _ _ _ => fr_none) (fun _ ih8 => ?_) N _ _ _ _ (by assumption)
    refine frst_X10_milesOfRow_8  ?_ ih8
    · intro x3_6 x4_7 s5 hm
      refine fr_chk (fun _ => ?_)
      refine fr_call (fr_X10_min _ _ _ _) (fun c i h => h) (by assumption) (fun _ _ _ => ?_)
      exact fr_some (by assumption)
  exact key s sm_refl
def W_X10_round (c i : Nat) : Prop := W_X10_isParish c i ∨ W_X10_in c i ∨ W_X10_has c i ∨ W_X10_bits c i ∨ W_X10_laysWays c i ∨ W_X10_listsOnes c i ∨ W_X10_beginsRows c i ∨ W_X10_milesOfRow c i ∨ W_X10_nextRow c i ∨ W_X10_keepsRow c i
theorem frst_X10_round_102 {s0 : Mem} {N : Nat} {x1 : Int32} {x3 : Int32} {x4 : Int32} {k144 : Int32 → Mem → Option (Int32 × Mem)} {rec : Int32 → Int32 → Mem → Option (Int32 × Mem)}  (hk144 : ∀ (y0 : Int32) (y1 : Mem), Sm W_X10_round s0 y1 → Fr W_X10_round s0 (k144 y0 y1)) (ih : ∀ (y0 : Int32) (y1 : Int32) (y2 : Mem), Sm W_X10_round s0 y2 → Fr W_X10_round s0 (rec y0 y1 y2)) : ∀ (x5 : Int32) (x6 : Int32) (s : Mem), Sm W_X10_round s0 s → Fr W_X10_round s0 (st_X10_round_102 N x1 x3 x4 k144 rec x5 x6 s) := by
  intro x5 x6 s hm
  unfold st_X10_round_102
  refine fr_ite ?_ ?_
  · exact hk144 _ _ (by assumption)
  · refine fr_call (fr_X10_milesOfRow _ _ _ _) (fun c i h => Or.inr (Or.inr (Or.inr (Or.inr (Or.inr (Or.inr (Or.inr (Or.inl h)))))))) (by assumption) (fun _ _ _ => ?_)
    refine fr_join (fun j => ∀ (x5_21 : Int32) (s20 : Mem), Sm W_X10_round s0 s20 → Fr W_X10_round s0 (j x5_21 s20)) (fun x5_21 s20 hm => ?_) (fun j133 hj133 => ?_)
    · refine fr_call (fr_X10_nextRow _ _ _) (fun c i h => Or.inr (Or.inr (Or.inr (Or.inr (Or.inr (Or.inr (Or.inr (Or.inr (Or.inl h))))))))) (by assumption) (fun _ _ _ => ?_)
      exact ih _ _ _ (by assumption)
    · refine fr_ite ?_ ?_
      · exact hj133 _ _ (by assumption)
      · refine fr_call (fr_X10_keepsRow _ _ _) (fun c i h => Or.inr (Or.inr (Or.inr (Or.inr (Or.inr (Or.inr (Or.inr (Or.inr (Or.inr h))))))))) (by assumption) (fun _ _ _ => ?_)
        exact hj133 _ _ (by assumption)
theorem fr_X10_round (N : Nat) (x1 : Int32) (x2 : Int32) (x3 : Int32) (s : Mem) : Fr W_X10_round s (f_X10_round N x1 x2 x3 s) := by
  have key : ∀ s0 : Mem, Sm W_X10_round s0 s → Fr W_X10_round s0 (f_X10_round N x1 x2 x3 s) := by
    intro s0 hm
    unfold f_X10_round
    refine fr_call (fr_X10_isParish _ _ _) (fun c i h => Or.inl h) (by assumption) (fun _ _ _ => ?_)
    refine fr_ite ?_ ?_
    · exact fr_some (by assumption)
    · refine fr_call (fr_X10_in _ _ _ _ _) (fun c i h => Or.inr (Or.inl h)) (by assumption) (fun _ _ _ => ?_)
      refine fr_ite ?_ ?_
      · exact fr_some (by assumption)
      · refine fr_chk (fun _ => ?_)
        refine fr_ite ?_ ?_
        · refine fr_call (fr_X10_has _ _ _ _) (fun c i h => Or.inr (Or.inr (Or.inl h))) (by assumption) (fun _ _ _ => ?_)
          refine fr_ite ?_ ?_
          · refine fr_call (fr_X10_bits _ _ _) (fun c i h => Or.inr (Or.inr (Or.inr (Or.inl h)))) (by assumption) (fun _ _ _ => ?_)
            refine fr_ite ?_ ?_
            · refine fr_call (fr_X10_bits _ _ _) (fun c i h => Or.inr (Or.inr (Or.inr (Or.inl h)))) (by assumption) (fun _ _ _ => ?_)
              refine fr_join (fun j => ∀ (s11 : Mem), Sm W_X10_round s0 s11 → Fr W_X10_round s0 (j s11)) (fun s11 hm => ?_) (fun j79 hj79 => ?_)
              · refine fr_call (fr_X10_laysWays _ _) (fun c i h => Or.inr (Or.inr (Or.inr (Or.inr (Or.inl h))))) (by assumption) (fun _ _ _ => ?_)
                refine fr_call (fr_X10_listsOnes _ _ _) (fun c i h => Or.inr (Or.inr (Or.inr (Or.inr (Or.inr (Or.inl h)))))) (by assumption) (fun _ _ _ => ?_)
                refine fr_call (fr_X10_beginsRows _ _ _) (fun c i h => Or.inr (Or.inr (Or.inr (Or.inr (Or.inr (Or.inr (Or.inl h))))))) (by assumption) (fun _ _ _ => ?_)
                refine itr_ind (Q := fun (f : Int32 → Int32 → Mem → Option (Int32 × Mem)) => ∀ y0 y1 s, Sm W_X10_round s0 s → Fr W_X10_round s0 (f y0 y1 s)) (fun _ _ _ _ => fr_none) (fun _ ih102 => ?_) N _ _ _ (by assumption)
                refine frst_X10_round_102  ?_ ih102
                · intro x5_27 s26 hm
                  refine fr_ite ?_ ?_
                  · exact fr_some (by assumption)
                  · refine fr_ite ?_ ?_
                    · exact fr_some (by assumption)
                    · refine fr_chk (fun _ => ?_)
                      exact fr_some (by assumption)
              · refine fr_ite ?_ ?_
                · exact hj79 _ (by assumption)
                · refine fr_call (fr_X10_in _ _ _ _ _) (fun c i h => Or.inr (Or.inl h)) (by assumption) (fun _ _ _ => ?_)
                  refine fr_ite ?_ ?_
                  · exact fr_some (by assumption)
                  · exact hj79 _ (by assumption)
            · exact fr_some (by assumption)
          · exact fr_some (by assumption)
        · exact fr_some (by assumption)
  exact key s sm_refl
def W_X10_takesPast (c i : Nat) : Prop := c = 29
theorem frst_X10_takesPast_2 {s0 : Mem} {N : Nat} {x1 : Int32} {rec : Int32 → Mem → Option (Unit × Mem)}   (ih : ∀ (y0 : Int32) (y1 : Mem), Sm W_X10_takesPast s0 y1 → Fr W_X10_takesPast s0 (rec y0 y1)) : ∀ (x2 : Int32) (s : Mem), Sm W_X10_takesPast s0 s → Fr W_X10_takesPast s0 (st_X10_takesPast_2 N x1 rec x2 s) := by
  intro x2 s hm
  unfold st_X10_takesPast_2
  refine fr_ite ?_ ?_
  · exact fr_some (by assumption)
  · refine fr_chk (fun _ => ?_)
    refine fr_chk (fun _ => ?_)
    refine fr_si (by assumption) (rfl) (fun _ _ => ?_)
    refine fr_lt ?_
    exact ih _ _ (by assumption)
theorem fr_X10_takesPast (N : Nat) (x1 : Int32) (s : Mem) : Fr W_X10_takesPast s (f_X10_takesPast N x1 s) := by
  have key : ∀ s0 : Mem, Sm W_X10_takesPast s0 s → Fr W_X10_takesPast s0 (f_X10_takesPast N x1 s) := by
    intro s0 hm
    unfold f_X10_takesPast
    refine itr_ind (Q := fun (f : Int32 → Mem → Option (Unit × Mem)) => ∀ y0 s, Sm W_X10_takesPast s0 s → Fr W_X10_takesPast s0 (f y0 s)) (fun _ _ _ => fr_none) (fun _ ih2 => ?_) N _ _ (by assumption)
    refine frst_X10_takesPast_2   ih2
  exact key s sm_refl
def W_X10_pastGoes (c i : Nat) : Prop := c = 29
theorem fr_X10_pastGoes (N : Nat) (x1 : Int32) (s : Mem) : Fr W_X10_pastGoes s (f_X10_pastGoes N x1 s) := by
  have key : ∀ s0 : Mem, Sm W_X10_pastGoes s0 s → Fr W_X10_pastGoes s0 (f_X10_pastGoes N x1 s) := by
    intro s0 hm
    unfold f_X10_pastGoes
    refine fr_chk (fun _ => ?_)
    refine fr_chk (fun _ => ?_)
    refine fr_si (by assumption) (rfl) (fun _ _ => ?_)
    refine fr_chk (fun _ => ?_)
    refine fr_chk (fun _ => ?_)
    refine fr_si (by assumption) (rfl) (fun _ _ => ?_)
    refine fr_chk (fun _ => ?_)
    refine fr_si (by assumption) (rfl) (fun _ _ => ?_)
    exact fr_some (by assumption)
  exact key s sm_refl
def W_X10_givenIn (c i : Nat) : Prop := W_X10_isKnown c i ∨ W_X10_feels c i ∨ W_X10_byLaw c i ∨ W_X10_known c i
theorem fr_X10_givenIn (N : Nat) (x1 : Int32) (x2 : Int32) (x3 : Int32) (s : Mem) : Fr W_X10_givenIn s (f_X10_givenIn N x1 x2 x3 s) := by
  have key : ∀ s0 : Mem, Sm W_X10_givenIn s0 s → Fr W_X10_givenIn s0 (f_X10_givenIn N x1 x2 x3 s) := by
    intro s0 hm
    unfold f_X10_givenIn
    refine fr_call (fr_X10_isKnown _ _ _ _) (fun c i h => Or.inl h) (by assumption) (fun _ _ _ => ?_)
    refine fr_join (fun j => ∀ (t4 : Int32) (s3 : Mem), Sm W_X10_givenIn s0 s3 → Fr W_X10_givenIn s0 (j t4 s3)) (fun t4 s3 hm => ?_) (fun j32 hj32 => ?_)
    · refine fr_chk (fun _ => ?_)
      refine fr_chk (fun _ => ?_)
      refine fr_chk (fun _ => ?_)
      refine fr_chk (fun _ => ?_)
      refine fr_call (fr_X10_feels _ _ _ _ _ _ _ _) (fun c i h => Or.inr (Or.inl h)) (by assumption) (fun _ _ _ => ?_)
      refine fr_call (fr_X10_byLaw _ _ _ _) (fun c i h => Or.inr (Or.inr (Or.inl h))) (by assumption) (fun _ _ _ => ?_)
      exact fr_some (by assumption)
    · refine fr_ite ?_ ?_
      · refine fr_chk (fun _ => ?_)
        exact hj32 _ _ (by assumption)
      · refine fr_call (fr_X10_known _ _ _ _) (fun c i h => Or.inr (Or.inr (Or.inr h))) (by assumption) (fun _ _ _ => ?_)
        refine fr_chk (fun _ => ?_)
        exact hj32 _ _ (by assumption)
  exact key s sm_refl
def W_X10_readsMost (c i : Nat) : Prop := W_X10_isParish c i ∨ W_X10_in c i ∨ W_X10_bits c i ∨ W_X10_listsOnes c i ∨ W_X10_beginsRows c i ∨ W_X10_takesPast c i ∨ W_X10_givenIn c i ∨ W_X10_pastGoes c i ∨ W_X10_nextRow c i ∨ W_X10_keepsRow c i
theorem frst_X10_readsMost_102 {s0 : Mem} {N : Nat} {x1 : Int32} {x3 : Int32} {x4 : Int32} {x5 : Int32} {k144 : Int32 → Mem → Option (Int32 × Mem)} {rec : Int32 → Int32 → Mem → Option (Int32 × Mem)}  (hk144 : ∀ (y0 : Int32) (y1 : Mem), Sm W_X10_readsMost s0 y1 → Fr W_X10_readsMost s0 (k144 y0 y1)) (ih : ∀ (y0 : Int32) (y1 : Int32) (y2 : Mem), Sm W_X10_readsMost s0 y2 → Fr W_X10_readsMost s0 (rec y0 y1 y2)) : ∀ (x7 : Int32) (x8 : Int32) (s : Mem), Sm W_X10_readsMost s0 s → Fr W_X10_readsMost s0 (st_X10_readsMost_102 N x1 x3 x4 x5 k144 rec x7 x8 s) := by
  intro x7 x8 s hm
  unfold st_X10_readsMost_102
  refine fr_ite ?_ ?_
  · exact hk144 _ _ (by assumption)
  · refine fr_chk (fun _ => ?_)
    refine fr_chk (fun _ => ?_)
    refine fr_call (fr_X10_givenIn _ _ _ _ _) (fun c i h => Or.inr (Or.inr (Or.inr (Or.inr (Or.inr (Or.inr (Or.inl h))))))) (by assumption) (fun _ _ _ => ?_)
    refine fr_lt ?_
    refine fr_call (fr_X10_pastGoes _ _ _) (fun c i h => Or.inr (Or.inr (Or.inr (Or.inr (Or.inr (Or.inr (Or.inr (Or.inl h)))))))) (by assumption) (fun _ _ _ => ?_)
    refine fr_lt ?_
    exact ih _ _ _ (by assumption)
theorem frst_X10_readsMost_86 {s0 : Mem} {N : Nat} {x1 : Int32} {x3 : Int32} {x4 : Int32} {k172 : Int32 → Mem → Option (Int32 × Mem)} {rec : Int32 → Int32 → Mem → Option (Int32 × Mem)}  (hk172 : ∀ (y0 : Int32) (y1 : Mem), Sm W_X10_readsMost s0 y1 → Fr W_X10_readsMost s0 (k172 y0 y1)) (ih : ∀ (y0 : Int32) (y1 : Int32) (y2 : Mem), Sm W_X10_readsMost s0 y2 → Fr W_X10_readsMost s0 (rec y0 y1 y2)) : ∀ (x5 : Int32) (x6 : Int32) (s : Mem), Sm W_X10_readsMost s0 s → Fr W_X10_readsMost s0 (st_X10_readsMost_86 N x1 x3 x4 k172 rec x5 x6 s) := by
  intro x5 x6 s hm
  unfold st_X10_readsMost_86
  refine fr_ite ?_ ?_
  · exact hk172 _ _ (by assumption)
  · refine fr_call (fr_X10_takesPast _ _ _) (fun c i h => Or.inr (Or.inr (Or.inr (Or.inr (Or.inr (Or.inl h)))))) (by assumption) (fun _ _ _ => ?_)
    refine itr_ind (Q := fun (f : Int32 → Int32 → Mem → Option (Int32 × Mem)) => ∀ y0 y1 s, Sm W_X10_readsMost s0 s → Fr W_X10_readsMost s0 (f y0 y1 s)) (fun _ _ _ _ => fr_none) (fun _ ih102 => ?_) N _ _ _ (by assumption)
    refine frst_X10_readsMost_102  ?_ ih102
    · intro x7_23 s22 hm
      refine fr_join (fun j => ∀ (x5_25 : Int32) (s24 : Mem), Sm W_X10_readsMost s0 s24 → Fr W_X10_readsMost s0 (j x5_25 s24)) (fun x5_25 s24 hm => ?_) (fun j161 hj161 => ?_)
      · refine fr_call (fr_X10_nextRow _ _ _) (fun c i h => Or.inr (Or.inr (Or.inr (Or.inr (Or.inr (Or.inr (Or.inr (Or.inr (Or.inl h))))))))) (by assumption) (fun _ _ _ => ?_)
        exact ih _ _ _ (by assumption)
      · refine fr_ite ?_ ?_
        · exact hj161 _ _ (by assumption)
        · refine fr_call (fr_X10_keepsRow _ _ _) (fun c i h => Or.inr (Or.inr (Or.inr (Or.inr (Or.inr (Or.inr (Or.inr (Or.inr (Or.inr h))))))))) (by assumption) (fun _ _ _ => ?_)
          exact hj161 _ _ (by assumption)
theorem fr_X10_readsMost (N : Nat) (x1 : Int32) (x2 : Int32) (x3 : Int32) (s : Mem) : Fr W_X10_readsMost s (f_X10_readsMost N x1 x2 x3 s) := by
  have key : ∀ s0 : Mem, Sm W_X10_readsMost s0 s → Fr W_X10_readsMost s0 (f_X10_readsMost N x1 x2 x3 s) := by
    intro s0 hm
    unfold f_X10_readsMost
    refine fr_call (fr_X10_isParish _ _ _) (fun c i h => Or.inl h) (by assumption) (fun _ _ _ => ?_)
    refine fr_ite ?_ ?_
    · exact fr_some (by assumption)
    · refine fr_call (fr_X10_in _ _ _ _ _) (fun c i h => Or.inr (Or.inl h)) (by assumption) (fun _ _ _ => ?_)
      refine fr_ite ?_ ?_
      · exact fr_some (by assumption)
      · refine fr_chk (fun _ => ?_)
        refine fr_ite ?_ ?_
        · refine fr_call (fr_X10_bits _ _ _) (fun c i h => Or.inr (Or.inr (Or.inl h))) (by assumption) (fun _ _ _ => ?_)
          refine fr_ite ?_ ?_
          · refine fr_call (fr_X10_bits _ _ _) (fun c i h => Or.inr (Or.inr (Or.inl h))) (by assumption) (fun _ _ _ => ?_)
            refine fr_join (fun j => ∀ (s9 : Mem), Sm W_X10_readsMost s0 s9 → Fr W_X10_readsMost s0 (j s9)) (fun s9 hm => ?_) (fun j69 hj69 => ?_)
            · refine fr_call (fr_X10_listsOnes _ _ _) (fun c i h => Or.inr (Or.inr (Or.inr (Or.inl h)))) (by assumption) (fun _ _ _ => ?_)
              refine fr_call (fr_X10_beginsRows _ _ _) (fun c i h => Or.inr (Or.inr (Or.inr (Or.inr (Or.inl h))))) (by assumption) (fun _ _ _ => ?_)
              refine itr_ind (Q := fun (f : Int32 → Int32 → Mem → Option (Int32 × Mem)) => ∀ y0 y1 s, Sm W_X10_readsMost s0 s → Fr W_X10_readsMost s0 (f y0 y1 s)) (fun _ _ _ _ => fr_none) (fun _ ih86 => ?_) N _ _ _ (by assumption)
              refine frst_X10_readsMost_86  ?_ ih86
              · intro x5_31 s30 hm
                refine fr_ite ?_ ?_
                · exact fr_some (by assumption)
                · refine fr_chk (fun _ => ?_)
                  exact fr_some (by assumption)
            · refine fr_ite ?_ ?_
              · exact hj69 _ (by assumption)
              · refine fr_call (fr_X10_in _ _ _ _ _) (fun c i h => Or.inr (Or.inl h)) (by assumption) (fun _ _ _ => ?_)
                refine fr_ite ?_ ?_
                · exact fr_some (by assumption)
                · exact hj69 _ (by assumption)
          · exact fr_some (by assumption)
        · exact fr_some (by assumption)
  exact key s sm_refl
def W_X10_bestMonth (c i : Nat) : Prop := W_X10_isParish c i ∨ W_X10_isLetter c i ∨ W_X10_in c i ∨ W_X10_takesPast c i ∨ W_X10_givenIn c i ∨ W_X10_pastGoes c i
theorem frst_X10_bestMonth_41 {s0 : Mem} {N : Nat} {x1 : Int32} {x2 : Int32} {x3 : Int32} {k87 : Int32 → Int32 → Mem → Option (Int32 × Mem)} {rec : Int32 → Int32 → Int32 → Mem → Option (Int32 × Mem)}  (hk87 : ∀ (y0 : Int32) (y1 : Int32) (y2 : Mem), Sm W_X10_bestMonth s0 y2 → Fr W_X10_bestMonth s0 (k87 y0 y1 y2)) (ih : ∀ (y0 : Int32) (y1 : Int32) (y2 : Int32) (y3 : Mem), Sm W_X10_bestMonth s0 y3 → Fr W_X10_bestMonth s0 (rec y0 y1 y2 y3)) : ∀ (x4 : Int32) (x5 : Int32) (x6 : Int32) (s : Mem), Sm W_X10_bestMonth s0 s → Fr W_X10_bestMonth s0 (st_X10_bestMonth_41 N x1 x2 x3 k87 rec x4 x5 x6 s) := by
  intro x4 x5 x6 s hm
  unfold st_X10_bestMonth_41
  refine fr_ite ?_ ?_
  · exact hk87 _ _ _ (by assumption)
  · refine fr_call (fr_X10_givenIn _ _ _ _ _) (fun c i h => Or.inr (Or.inr (Or.inr (Or.inr (Or.inl h))))) (by assumption) (fun _ _ _ => ?_)
    refine fr_call (fr_X10_pastGoes _ _ _) (fun c i h => Or.inr (Or.inr (Or.inr (Or.inr (Or.inr h))))) (by assumption) (fun _ _ _ => ?_)
    refine fr_ite ?_ ?_
    · refine fr_lt ?_
      exact ih _ _ _ _ (by assumption)
    · refine fr_lt ?_
      exact ih _ _ _ _ (by assumption)
theorem fr_X10_bestMonth (N : Nat) (x1 : Int32) (x2 : Int32) (x3 : Int32) (s : Mem) : Fr W_X10_bestMonth s (f_X10_bestMonth N x1 x2 x3 s) := by
  have key : ∀ s0 : Mem, Sm W_X10_bestMonth s0 s → Fr W_X10_bestMonth s0 (f_X10_bestMonth N x1 x2 x3 s) := by
    intro s0 hm
    unfold f_X10_bestMonth
    refine fr_call (fr_X10_isParish _ _ _) (fun c i h => Or.inl h) (by assumption) (fun _ _ _ => ?_)
    refine fr_ite ?_ ?_
    · exact fr_some (by assumption)
    · refine fr_call (fr_X10_isLetter _ _ _) (fun c i h => Or.inr (Or.inl h)) (by assumption) (fun _ _ _ => ?_)
      refine fr_ite ?_ ?_
      · exact fr_some (by assumption)
      · refine fr_call (fr_X10_in _ _ _ _ _) (fun c i h => Or.inr (Or.inr (Or.inl h))) (by assumption) (fun _ _ _ => ?_)
        refine fr_ite ?_ ?_
        · exact fr_some (by assumption)
        · refine fr_call (fr_X10_takesPast _ _ _) (fun c i h => Or.inr (Or.inr (Or.inr (Or.inl h)))) (by assumption) (fun _ _ _ => ?_)
          refine itr_ind (Q := fun (f : Int32 → Int32 → Int32 → Mem → Option (Int32 × Mem)) => ∀ y0 y1 y2 s, Sm W_X10_bestMonth s0 s → Fr W_X10_bestMonth s0 (f y0 y1 y2 s)) (fun _ _ _ _ _ => fr_none) (fun _ ih41 => ?_) N _ _ _ _ (by assumption)
          refine frst_X10_bestMonth_41  ?_ ih41
          · intro x4_16 x5_17 s15 hm
            refine fr_ite ?_ ?_
            · exact fr_some (by assumption)
            · exact fr_some (by assumption)
  exact key s sm_refl
def W_X10_isOnWay (c i : Nat) : Prop := False
theorem frst_X10_isOnWay_2 {s0 : Mem} {N : Nat} {x1 : Int32} {x2 : Int32} {rec : Int32 → Mem → Option (Int32 × Mem)}   (ih : ∀ (y0 : Int32) (y1 : Mem), Sm W_X10_isOnWay s0 y1 → Fr W_X10_isOnWay s0 (rec y0 y1)) : ∀ (x3 : Int32) (s : Mem), Sm W_X10_isOnWay s0 s → Fr W_X10_isOnWay s0 (st_X10_isOnWay_2 N x1 x2 rec x3 s) := by
  intro x3 s hm
  unfold st_X10_isOnWay_2
  refine fr_ite ?_ ?_
  · exact fr_some (by assumption)
  · refine fr_chk (fun _ => ?_)
    refine fr_ite ?_ ?_
    · exact fr_some (by assumption)
    · refine fr_lt ?_
      exact ih _ _ (by assumption)
theorem fr_X10_isOnWay (N : Nat) (x1 : Int32) (x2 : Int32) (s : Mem) : Fr W_X10_isOnWay s (f_X10_isOnWay N x1 x2 s) := by
  have key : ∀ s0 : Mem, Sm W_X10_isOnWay s0 s → Fr W_X10_isOnWay s0 (f_X10_isOnWay N x1 x2 s) := by
    intro s0 hm
    unfold f_X10_isOnWay
    refine itr_ind (Q := fun (f : Int32 → Mem → Option (Int32 × Mem)) => ∀ y0 s, Sm W_X10_isOnWay s0 s → Fr W_X10_isOnWay s0 (f y0 s)) (fun _ _ _ => fr_none) (fun _ ih2 => ?_) N _ _ (by assumption)
    refine frst_X10_isOnWay_2   ih2
  exact key s sm_refl
def W_X10_laysTales (c i : Nat) : Prop := c = 30 ∨ c = 31 ∨ c = 32 ∨ W_X10_isOnWay c i ∨ W_X10_tired c i ∨ W_X10_feels c i ∨ W_X10_byLaw c i ∨ W_X10_min c i ∨ W_X10_max c i
theorem frst_X10_laysTales_2 {s0 : Mem} {N : Nat} {x1 : Int32} {k21 : Mem → Option (Unit × Mem)} {rec : Int32 → Mem → Option (Unit × Mem)}  (hk21 : ∀ (y0 : Mem), Sm W_X10_laysTales s0 y0 → Fr W_X10_laysTales s0 (k21 y0)) (ih : ∀ (y0 : Int32) (y1 : Mem), Sm W_X10_laysTales s0 y1 → Fr W_X10_laysTales s0 (rec y0 y1)) : ∀ (x2 : Int32) (s : Mem), Sm W_X10_laysTales s0 s → Fr W_X10_laysTales s0 (st_X10_laysTales_2 N x1 k21 rec x2 s) := by
  intro x2 s hm
  unfold st_X10_laysTales_2
  refine fr_ite ?_ ?_
  · exact hk21 _ (by assumption)
  · refine fr_chk (fun _ => ?_)
    refine fr_si (by assumption) (Or.inl rfl) (fun _ _ => ?_)
    refine fr_lt ?_
    exact ih _ _ (by assumption)
theorem frst_X10_laysTales_85 {s0 : Mem} {N : Nat} {x1 : Int32} {x2 : Int32} {x4 : Int32} {k127 : Int32 → Mem → Option (Unit × Mem)} {rec : Int32 → Mem → Option (Unit × Mem)}  (hk127 : ∀ (y0 : Int32) (y1 : Mem), Sm W_X10_laysTales s0 y1 → Fr W_X10_laysTales s0 (k127 y0 y1)) (ih : ∀ (y0 : Int32) (y1 : Mem), Sm W_X10_laysTales s0 y1 → Fr W_X10_laysTales s0 (rec y0 y1)) : ∀ (x3 : Int32) (s : Mem), Sm W_X10_laysTales s0 s → Fr W_X10_laysTales s0 (st_X10_laysTales_85 N x1 x2 x4 k127 rec x3 s) := by
  intro x3 s hm
  unfold st_X10_laysTales_85
  refine fr_ite ?_ ?_
  · exact hk127 _ _ (by assumption)
  · refine fr_ite ?_ ?_
    · refine fr_lt ?_
      exact ih _ _ (by assumption)
    · refine fr_chk (fun _ => ?_)
      refine fr_ite ?_ ?_
      · refine fr_lt ?_
        exact ih _ _ (by assumption)
      · refine fr_call (fr_X10_isOnWay _ _ _ _) (fun c i h => Or.inr (Or.inr (Or.inr (Or.inl h)))) (by assumption) (fun _ _ _ => ?_)
        refine fr_ite ?_ ?_
        · exact hk127 _ _ (by assumption)
        · refine fr_lt ?_
          exact ih _ _ (by assumption)
theorem frst_X10_laysTales_73 {s0 : Mem} {N : Nat} {x1 : Int32} {rec : Int32 → Int32 → Mem → Option (Unit × Mem)}   (ih : ∀ (y0 : Int32) (y1 : Int32) (y2 : Mem), Sm W_X10_laysTales s0 y2 → Fr W_X10_laysTales s0 (rec y0 y1 y2)) : ∀ (x2 : Int32) (x3 : Int32) (s : Mem), Sm W_X10_laysTales s0 s → Fr W_X10_laysTales s0 (st_X10_laysTales_73 N x1 rec x2 x3 s) := by
  intro x2 x3 s hm
  unfold st_X10_laysTales_73
  refine fr_ite ?_ ?_
  · exact fr_some (by assumption)
  · refine fr_chk (fun _ => ?_)
    refine fr_lt ?_
    refine itr_ind (Q := fun (f : Int32 → Mem → Option (Unit × Mem)) => ∀ y0 s, Sm W_X10_laysTales s0 s → Fr W_X10_laysTales s0 (f y0 s)) (fun _ _ _ => fr_none) (fun _ ih85 => ?_) N _ _ (by assumption)
    refine frst_X10_laysTales_85  ?_ ih85
    · intro x3_14 s13 hm
      refine fr_ite ?_ ?_
      · refine fr_lt ?_
        refine fr_lt ?_
        exact ih _ _ _ (by assumption)
      · refine fr_chk (fun _ => ?_)
        refine fr_chk (fun _ => ?_)
        refine fr_call (fr_X10_tired _ _ _) (fun c i h => Or.inr (Or.inr (Or.inr (Or.inr (Or.inl h))))) (by assumption) (fun _ _ _ => ?_)
        refine fr_chk (fun _ => ?_)
        refine fr_call (fr_X10_feels _ _ _ _ _ _ _ _) (fun c i h => Or.inr (Or.inr (Or.inr (Or.inr (Or.inr (Or.inl h)))))) (by assumption) (fun _ _ _ => ?_)
        refine fr_lt ?_
        refine fr_chk (fun _ => ?_)
        refine fr_si (by assumption) (Or.inr (Or.inl rfl)) (fun _ _ => ?_)
        refine fr_chk (fun _ => ?_)
        refine fr_call (fr_X10_byLaw _ _ _ _) (fun c i h => Or.inr (Or.inr (Or.inr (Or.inr (Or.inr (Or.inr (Or.inl h))))))) (by assumption) (fun _ _ _ => ?_)
        refine fr_call (fr_X10_min _ _ _ _) (fun c i h => Or.inr (Or.inr (Or.inr (Or.inr (Or.inr (Or.inr (Or.inr (Or.inl h)))))))) (by assumption) (fun _ _ _ => ?_)
        refine fr_chk (fun _ => ?_)
        refine fr_si (by assumption) (Or.inr (Or.inr (Or.inl rfl))) (fun _ _ => ?_)
        refine fr_chk (fun _ => ?_)
        refine fr_chk (fun _ => ?_)
        refine fr_call (fr_X10_max _ _ _ _) (fun c i h => Or.inr (Or.inr (Or.inr (Or.inr (Or.inr (Or.inr (Or.inr (Or.inr h)))))))) (by assumption) (fun _ _ _ => ?_)
        refine fr_chk (fun _ => ?_)
        refine fr_si (by assumption) (Or.inl rfl) (fun _ _ => ?_)
        exact ih _ _ _ (by assumption)
theorem fr_X10_laysTales (N : Nat) (x1 : Int32) (s : Mem) : Fr W_X10_laysTales s (f_X10_laysTales N x1 s) := by
  have key : ∀ s0 : Mem, Sm W_X10_laysTales s0 s → Fr W_X10_laysTales s0 (f_X10_laysTales N x1 s) := by
    intro s0 hm
    unfold f_X10_laysTales
    refine itr_ind (Q := fun (f : Int32 → Mem → Option (Unit × Mem)) => ∀ y0 s, Sm W_X10_laysTales s0 s → Fr W_X10_laysTales s0 (f y0 s)) (fun _ _ _ => fr_none) (fun _ ih2 => ?_) N _ _ (by assumption)
    refine frst_X10_laysTales_2  ?_ ih2
    · intro s3 hm
      refine fr_chk (fun _ => ?_)
      refine fr_chk (fun _ => ?_)
      refine fr_si (by assumption) (Or.inr (Or.inl rfl)) (fun _ _ => ?_)
      refine fr_chk (fun _ => ?_)
      refine fr_chk (fun _ => ?_)
      refine fr_si (by assumption) (Or.inr (Or.inr (Or.inl rfl))) (fun _ _ => ?_)
      refine fr_chk (fun _ => ?_)
      refine fr_chk (fun _ => ?_)
      refine fr_chk (fun _ => ?_)
      refine fr_si (by assumption) (Or.inl rfl) (fun _ _ => ?_)
      refine itr_ind (Q := fun (f : Int32 → Int32 → Mem → Option (Unit × Mem)) => ∀ y0 y1 s, Sm W_X10_laysTales s0 s → Fr W_X10_laysTales s0 (f y0 y1 s)) (fun _ _ _ _ => fr_none) (fun _ ih73 => ?_) N _ _ _ (by assumption)
      refine frst_X10_laysTales_73   ih73
  exact key s sm_refl
def W_X10_tales (c i : Nat) : Prop := W_X10_isLetter c i ∨ W_X10_in c i ∨ W_X10_laysTales c i ∨ W_X10_isKnown c i ∨ W_X10_known c i
theorem frst_X10_tales_36 {s0 : Mem} {N : Nat} {x1 : Int32} {x2 : Int32} {k149 : Int32 → Int32 → Int32 → Mem → Option (Int32 × Mem)} {rec : Int32 → Int32 → Int32 → Int32 → Mem → Option (Int32 × Mem)}  (hk149 : ∀ (y0 : Int32) (y1 : Int32) (y2 : Int32) (y3 : Mem), Sm W_X10_tales s0 y3 → Fr W_X10_tales s0 (k149 y0 y1 y2 y3)) (ih : ∀ (y0 : Int32) (y1 : Int32) (y2 : Int32) (y3 : Int32) (y4 : Mem), Sm W_X10_tales s0 y4 → Fr W_X10_tales s0 (rec y0 y1 y2 y3 y4)) : ∀ (x3 : Int32) (x4 : Int32) (x5 : Int32) (x6 : Int32) (s : Mem), Sm W_X10_tales s0 s → Fr W_X10_tales s0 (st_X10_tales_36 N x1 x2 k149 rec x3 x4 x5 x6 s) := by
  intro x3 x4 x5 x6 s hm
  unfold st_X10_tales_36
  refine fr_ite ?_ ?_
  · exact hk149 _ _ _ _ (by assumption)
  · refine fr_call (fr_X10_isKnown _ _ _ _) (fun c i h => Or.inr (Or.inr (Or.inr (Or.inl h)))) (by assumption) (fun _ _ _ => ?_)
    refine fr_ite ?_ ?_
    · refine fr_lt ?_
      exact ih _ _ _ _ _ (by assumption)
    · refine fr_call (fr_X10_known _ _ _ _) (fun c i h => Or.inr (Or.inr (Or.inr (Or.inr h)))) (by assumption) (fun _ _ _ => ?_)
      refine fr_chk (fun _ => ?_)
      refine fr_lt ?_
      refine fr_chk (fun _ => ?_)
      refine fr_join (fun j => ∀ (x3_13 : Int32) (s12 : Mem), Sm W_X10_tales s0 s12 → Fr W_X10_tales s0 (j x3_13 s12)) (fun x3_13 s12 hm => ?_) (fun j103 hj103 => ?_)
      · refine fr_chk (fun _ => ?_)
        refine fr_ite ?_ ?_
        · refine fr_chk (fun _ => ?_)
          refine fr_lt ?_
          refine fr_lt ?_
          exact ih _ _ _ _ _ (by assumption)
        · refine fr_lt ?_
          exact ih _ _ _ _ _ (by assumption)
      · refine fr_ite ?_ ?_
        · refine fr_lt ?_
          exact hj103 _ _ (by assumption)
        · refine fr_chk (fun _ => ?_)
          refine fr_ite ?_ ?_
          · exact hj103 _ _ (by assumption)
          · refine fr_lt ?_
            exact hj103 _ _ (by assumption)
theorem fr_X10_tales (N : Nat) (x1 : Int32) (x2 : Int32) (s : Mem) : Fr W_X10_tales s (f_X10_tales N x1 x2 s) := by
  have key : ∀ s0 : Mem, Sm W_X10_tales s0 s → Fr W_X10_tales s0 (f_X10_tales N x1 x2 s) := by
    intro s0 hm
    unfold f_X10_tales
    refine fr_call (fr_X10_isLetter _ _ _) (fun c i h => Or.inl h) (by assumption) (fun _ _ _ => ?_)
    refine fr_ite ?_ ?_
    · exact fr_some (by assumption)
    · refine fr_call (fr_X10_in _ _ _ _ _) (fun c i h => Or.inr (Or.inl h)) (by assumption) (fun _ _ _ => ?_)
      refine fr_ite ?_ ?_
      · exact fr_some (by assumption)
      · refine fr_call (fr_X10_laysTales _ _ _) (fun c i h => Or.inr (Or.inr (Or.inl h))) (by assumption) (fun _ _ _ => ?_)
        refine itr_ind (Q := fun (f : Int32 → Int32 → Int32 → Int32 → Mem → Option (Int32 × Mem)) => ∀ y0 y1 y2 y3 s, Sm W_X10_tales s0 s → Fr W_X10_tales s0 (f y0 y1 y2 y3 s)) (fun _ _ _ _ _ _ => fr_none) (fun _ ih36 => ?_) N _ _ _ _ _ (by assumption)
        refine frst_X10_tales_36  ?_ ih36
        · intro x3_21 x4_22 x5_23 s20 hm
          refine fr_ite ?_ ?_
          · exact fr_some (by assumption)
          · refine fr_ite ?_ ?_
            · exact fr_some (by assumption)
            · exact fr_some (by assumption)
  exact key s sm_refl
def W_X10_laysText (c i : Nat) : Prop := c = 34 ∨ c = 33
theorem frst_X10_laysText_9 {s0 : Mem} {N : Nat} {x1 : Int32} {x2 : Int32} {rec : Int32 → Mem → Option (Unit × Mem)}   (ih : ∀ (y0 : Int32) (y1 : Mem), Sm W_X10_laysText s0 y1 → Fr W_X10_laysText s0 (rec y0 y1)) : ∀ (x3 : Int32) (s : Mem), Sm W_X10_laysText s0 s → Fr W_X10_laysText s0 (st_X10_laysText_9 N x1 x2 rec x3 s) := by
  intro x3 s hm
  unfold st_X10_laysText_9
  refine fr_ite ?_ ?_
  · exact fr_some (by assumption)
  · refine fr_chk (fun _ => ?_)
    refine fr_chk (fun _ => ?_)
    refine fr_si (by assumption) (Or.inr rfl) (fun _ _ => ?_)
    refine fr_lt ?_
    exact ih _ _ (by assumption)
theorem fr_X10_laysText (N : Nat) (x1 : Int32) (x2 : Int32) (s : Mem) : Fr W_X10_laysText s (f_X10_laysText N x1 x2 s) := by
  have key : ∀ s0 : Mem, Sm W_X10_laysText s0 s → Fr W_X10_laysText s0 (f_X10_laysText N x1 x2 s) := by
    intro s0 hm
    unfold f_X10_laysText
    refine fr_chk (fun _ => ?_)
    refine fr_si (by assumption) (Or.inl rfl) (fun _ _ => ?_)
    refine itr_ind (Q := fun (f : Int32 → Mem → Option (Unit × Mem)) => ∀ y0 s, Sm W_X10_laysText s0 s → Fr W_X10_laysText s0 (f y0 s)) (fun _ _ _ => fr_none) (fun _ ih9 => ?_) N _ _ (by assumption)
    refine frst_X10_laysText_9   ih9
  exact key s sm_refl
def W_X10_text (c i : Nat) : Prop := W_X10_in c i ∨ W_X10_laysText c i ∨ (c = 0 ∧ i = 5)
theorem fr_X10_text (N : Nat) (x1 : Int32) (x2 : Int32) (s : Mem) : Fr W_X10_text s (f_X10_text N x1 x2 s) := by
  have key : ∀ s0 : Mem, Sm W_X10_text s0 s → Fr W_X10_text s0 (f_X10_text N x1 x2 s) := by
    intro s0 hm
    unfold f_X10_text
    refine fr_call (fr_X10_in _ _ _ _ _) (fun c i h => Or.inl h) (by assumption) (fun _ _ _ => ?_)
    refine fr_ite ?_ ?_
    · exact fr_some (by assumption)
    · refine fr_call (fr_X10_in _ _ _ _ _) (fun c i h => Or.inl h) (by assumption) (fun _ _ _ => ?_)
      refine fr_ite ?_ ?_
      · exact fr_some (by assumption)
      · refine fr_ite ?_ ?_
        · refine fr_call (fr_X10_laysText _ _ _ _) (fun c i h => Or.inr (Or.inl h)) (by assumption) (fun _ _ _ => ?_)
          refine fr_si (by assumption) (Or.inr (Or.inr ⟨rfl, rfl⟩)) (fun _ _ => ?_)
          exact fr_some (by assumption)
        · exact fr_some (by assumption)
  exact key s sm_refl
def W_X10_farFrom (c i : Nat) : Prop := c = 35 ∨ c = 36 ∨ W_X10_min c i
theorem frst_X10_farFrom_2 {s0 : Mem} {N : Nat} {x1 : Int32} {x2 : Int32} {k25 : Mem → Option (Int32 × Mem)} {rec : Int32 → Mem → Option (Int32 × Mem)}  (hk25 : ∀ (y0 : Mem), Sm W_X10_farFrom s0 y0 → Fr W_X10_farFrom s0 (k25 y0)) (ih : ∀ (y0 : Int32) (y1 : Mem), Sm W_X10_farFrom s0 y1 → Fr W_X10_farFrom s0 (rec y0 y1)) : ∀ (x3 : Int32) (s : Mem), Sm W_X10_farFrom s0 s → Fr W_X10_farFrom s0 (st_X10_farFrom_2 N x1 x2 k25 rec x3 s) := by
  intro x3 s hm
  unfold st_X10_farFrom_2
  refine fr_chk (fun _ => ?_)
  refine fr_ite ?_ ?_
  · exact hk25 _ (by assumption)
  · refine fr_chk (fun _ => ?_)
    refine fr_si (by assumption) (Or.inl rfl) (fun _ _ => ?_)
    refine fr_lt ?_
    exact ih _ _ (by assumption)
theorem frst_X10_farFrom_47 {s0 : Mem} {N : Nat} {x1 : Int32} {x2 : Int32} {x3 : Int32} {k144 : Mem → Option (Int32 × Mem)} {rec : Int32 → Mem → Option (Int32 × Mem)}  (hk144 : ∀ (y0 : Mem), Sm W_X10_farFrom s0 y0 → Fr W_X10_farFrom s0 (k144 y0)) (ih : ∀ (y0 : Int32) (y1 : Mem), Sm W_X10_farFrom s0 y1 → Fr W_X10_farFrom s0 (rec y0 y1)) : ∀ (x4 : Int32) (s : Mem), Sm W_X10_farFrom s0 s → Fr W_X10_farFrom s0 (st_X10_farFrom_47 N x1 x2 x3 k144 rec x4 s) := by
  intro x4 s hm
  unfold st_X10_farFrom_47
  refine fr_chk (fun _ => ?_)
  refine fr_ite ?_ ?_
  · exact hk144 _ (by assumption)
  · refine fr_chk (fun _ => ?_)
    refine fr_chk (fun _ => ?_)
    refine fr_chk (fun _ => ?_)
    refine fr_join (fun j => ∀ (t6 : Int32) (s5 : Mem), Sm W_X10_farFrom s0 s5 → Fr W_X10_farFrom s0 (j t6 s5)) (fun t6 s5 hm => ?_) (fun j102 hj102 => ?_)
    · refine fr_lt ?_
      refine fr_chk (fun _ => ?_)
      refine fr_chk (fun _ => ?_)
      refine fr_call (fr_X10_min _ _ _ _) (fun c i h => Or.inr (Or.inr h)) (by assumption) (fun _ _ _ => ?_)
      refine fr_call (fr_X10_min _ _ _ _) (fun c i h => Or.inr (Or.inr h)) (by assumption) (fun _ _ _ => ?_)
      refine fr_chk (fun _ => ?_)
      refine fr_si (by assumption) (Or.inr (Or.inl rfl)) (fun _ _ => ?_)
      refine fr_lt ?_
      exact ih _ _ (by assumption)
    · refine fr_ite ?_ ?_
      · exact hj102 _ _ (by assumption)
      · exact hj102 _ _ (by assumption)
theorem frst_X10_farFrom_147 {s0 : Mem} {N : Nat} {x1 : Int32} {x2 : Int32} {x3 : Int32} {k178 : Mem → Option (Int32 × Mem)} {rec : Int32 → Mem → Option (Int32 × Mem)}  (hk178 : ∀ (y0 : Mem), Sm W_X10_farFrom s0 y0 → Fr W_X10_farFrom s0 (k178 y0)) (ih : ∀ (y0 : Int32) (y1 : Mem), Sm W_X10_farFrom s0 y1 → Fr W_X10_farFrom s0 (rec y0 y1)) : ∀ (x4 : Int32) (s : Mem), Sm W_X10_farFrom s0 s → Fr W_X10_farFrom s0 (st_X10_farFrom_147 N x1 x2 x3 k178 rec x4 s) := by
  intro x4 s hm
  unfold st_X10_farFrom_147
  refine fr_chk (fun _ => ?_)
  refine fr_ite ?_ ?_
  · exact hk178 _ (by assumption)
  · refine fr_chk (fun _ => ?_)
    refine fr_chk (fun _ => ?_)
    refine fr_si (by assumption) (Or.inl rfl) (fun _ _ => ?_)
    refine fr_lt ?_
    exact ih _ _ (by assumption)
theorem frst_X10_farFrom_27 {s0 : Mem} {N : Nat} {x1 : Int32} {x2 : Int32} {rec : Int32 → Mem → Option (Int32 × Mem)}   (ih : ∀ (y0 : Int32) (y1 : Mem), Sm W_X10_farFrom s0 y1 → Fr W_X10_farFrom s0 (rec y0 y1)) : ∀ (x3 : Int32) (s : Mem), Sm W_X10_farFrom s0 s → Fr W_X10_farFrom s0 (st_X10_farFrom_27 N x1 x2 rec x3 s) := by
  intro x3 s hm
  unfold st_X10_farFrom_27
  refine fr_chk (fun _ => ?_)
  refine fr_ite ?_ ?_
  · refine fr_chk (fun _ => ?_)
    refine fr_chk (fun _ => ?_)
    exact fr_some (by assumption)
  · refine fr_chk (fun _ => ?_)
    refine fr_si (by assumption) (Or.inr (Or.inl rfl)) (fun _ _ => ?_)
    refine itr_ind (Q := fun (f : Int32 → Mem → Option (Int32 × Mem)) => ∀ y0 s, Sm W_X10_farFrom s0 s → Fr W_X10_farFrom s0 (f y0 s)) (fun _ _ _ => fr_none) (fun _ ih47 => ?_) N _ _ (by assumption)
    refine frst_X10_farFrom_47  ?_ ih47
    · intro s14 hm
      refine itr_ind (Q := fun (f : Int32 → Mem → Option (Int32 × Mem)) => ∀ y0 s, Sm W_X10_farFrom s0 s → Fr W_X10_farFrom s0 (f y0 s)) (fun _ _ _ => fr_none) (fun _ ih147 => ?_) N _ _ (by assumption)
      refine frst_X10_farFrom_147  ?_ ih147
      · intro s17 hm
        refine fr_lt ?_
        exact ih _ _ (by assumption)
theorem fr_X10_farFrom (N : Nat) (x1 : Int32) (x2 : Int32) (s : Mem) : Fr W_X10_farFrom s (f_X10_farFrom N x1 x2 s) := by
  have key : ∀ s0 : Mem, Sm W_X10_farFrom s0 s → Fr W_X10_farFrom s0 (f_X10_farFrom N x1 x2 s) := by
    intro s0 hm
    unfold f_X10_farFrom
    refine itr_ind (Q := fun (f : Int32 → Mem → Option (Int32 × Mem)) => ∀ y0 s, Sm W_X10_farFrom s0 s → Fr W_X10_farFrom s0 (f y0 s)) (fun _ _ _ => fr_none) (fun _ ih2 => ?_) N _ _ (by assumption)
    refine frst_X10_farFrom_2  ?_ ih2
    · intro s3 hm
      refine itr_ind (Q := fun (f : Int32 → Mem → Option (Int32 × Mem)) => ∀ y0 s, Sm W_X10_farFrom s0 s → Fr W_X10_farFrom s0 (f y0 s)) (fun _ _ _ => fr_none) (fun _ ih27 => ?_) N _ _ (by assumption)
      refine frst_X10_farFrom_27   ih27
  exact key s sm_refl
def W_X10_far (c i : Nat) : Prop := W_X10_in c i ∨ W_X10_farFrom c i
theorem fr_X10_far (N : Nat) (x1 : Int32) (x2 : Int32) (s : Mem) : Fr W_X10_far s (f_X10_far N x1 x2 s) := by
  have key : ∀ s0 : Mem, Sm W_X10_far s0 s → Fr W_X10_far s0 (f_X10_far N x1 x2 s) := by
    intro s0 hm
    unfold f_X10_far
    refine fr_call (fr_X10_in _ _ _ _ _) (fun c i h => Or.inl h) (by assumption) (fun _ _ _ => ?_)
    refine fr_ite ?_ ?_
    · exact fr_some (by assumption)
    · refine fr_call (fr_X10_in _ _ _ _ _) (fun c i h => Or.inl h) (by assumption) (fun _ _ _ => ?_)
      refine fr_ite ?_ ?_
      · exact fr_some (by assumption)
      · refine fr_chk (fun _ => ?_)
        refine fr_ite ?_ ?_
        · exact fr_some (by assumption)
        · refine fr_chk (fun _ => ?_)
          refine fr_ite ?_ ?_
          · exact fr_some (by assumption)
          · refine fr_call (fr_X10_farFrom _ _ _ _) (fun c i h => Or.inr h) (by assumption) (fun _ _ _ => ?_)
            exact fr_some (by assumption)
  exact key s sm_refl
def W_X10_nearest (c i : Nat) : Prop := W_X10_in c i ∨ W_X10_laysText c i ∨ (c = 0 ∧ i = 5) ∨ W_X10_farFrom c i
theorem frst_X10_nearest_51 {s0 : Mem} {N : Nat} {x2 : Int32} {k110 : Int32 → Int32 → Mem → Option (Int32 × Mem)} {rec : Int32 → Int32 → Int32 → Mem → Option (Int32 × Mem)}  (hk110 : ∀ (y0 : Int32) (y1 : Int32) (y2 : Mem), Sm W_X10_nearest s0 y2 → Fr W_X10_nearest s0 (k110 y0 y1 y2)) (ih : ∀ (y0 : Int32) (y1 : Int32) (y2 : Int32) (y3 : Mem), Sm W_X10_nearest s0 y3 → Fr W_X10_nearest s0 (rec y0 y1 y2 y3)) : ∀ (x3 : Int32) (x4 : Int32) (x5 : Int32) (s : Mem), Sm W_X10_nearest s0 s → Fr W_X10_nearest s0 (st_X10_nearest_51 N x2 k110 rec x3 x4 x5 s) := by
  intro x3 x4 x5 s hm
  unfold st_X10_nearest_51
  refine fr_ite ?_ ?_
  · exact hk110 _ _ _ (by assumption)
  · refine fr_chk (fun _ => ?_)
    refine fr_ite ?_ ?_
    · refine fr_lt ?_
      exact ih _ _ _ _ (by assumption)
    · refine fr_call (fr_X10_farFrom _ _ _ _) (fun c i h => Or.inr (Or.inr (Or.inr h))) (by assumption) (fun _ _ _ => ?_)
      refine fr_ite ?_ ?_
      · refine fr_lt ?_
        exact ih _ _ _ _ (by assumption)
      · refine fr_ite ?_ ?_
        · refine fr_lt ?_
          exact ih _ _ _ _ (by assumption)
        · refine fr_lt ?_
          exact ih _ _ _ _ (by assumption)
theorem fr_X10_nearest (N : Nat) (x1 : Int32) (x2 : Int32) (s : Mem) : Fr W_X10_nearest s (f_X10_nearest N x1 x2 s) := by
  have key : ∀ s0 : Mem, Sm W_X10_nearest s0 s → Fr W_X10_nearest s0 (f_X10_nearest N x1 x2 s) := by
    intro s0 hm
    unfold f_X10_nearest
    refine fr_call (fr_X10_in _ _ _ _ _) (fun c i h => Or.inl h) (by assumption) (fun _ _ _ => ?_)
    refine fr_ite ?_ ?_
    · exact fr_some (by assumption)
    · refine fr_call (fr_X10_in _ _ _ _ _) (fun c i h => Or.inl h) (by assumption) (fun _ _ _ => ?_)
      refine fr_ite ?_ ?_
      · exact fr_some (by assumption)
      · refine fr_ite ?_ ?_
        · refine fr_call (fr_X10_laysText _ _ _ _) (fun c i h => Or.inr (Or.inl h)) (by assumption) (fun _ _ _ => ?_)
          refine fr_si (by assumption) (Or.inr (Or.inr (Or.inl ⟨rfl, rfl⟩))) (fun _ _ => ?_)
          refine itr_ind (Q := fun (f : Int32 → Int32 → Int32 → Mem → Option (Int32 × Mem)) => ∀ y0 y1 y2 s, Sm W_X10_nearest s0 s → Fr W_X10_nearest s0 (f y0 y1 y2 s)) (fun _ _ _ _ _ => fr_none) (fun _ ih51 => ?_) N _ _ _ _ (by assumption)
          refine frst_X10_nearest_51  ?_ ih51
          · intro x3_15 x4_16 s14 hm
            refine fr_ite ?_ ?_
            · exact fr_some (by assumption)
            · exact fr_some (by assumption)
        · exact fr_some (by assumption)
  exact key s sm_refl
def W_X10_fromWhom (c i : Nat) : Prop := c = 37 ∨ W_X10_has c i ∨ W_X10_farFrom c i ∨ W_X10_min c i
theorem frst_X10_fromWhom_6 {s0 : Mem} {N : Nat} {x1 : Int32} {k43 : Int32 → Mem → Option (Int32 × Mem)} {rec : Int32 → Int32 → Mem → Option (Int32 × Mem)}  (hk43 : ∀ (y0 : Int32) (y1 : Mem), Sm W_X10_fromWhom s0 y1 → Fr W_X10_fromWhom s0 (k43 y0 y1)) (ih : ∀ (y0 : Int32) (y1 : Int32) (y2 : Mem), Sm W_X10_fromWhom s0 y2 → Fr W_X10_fromWhom s0 (rec y0 y1 y2)) : ∀ (x2 : Int32) (x3 : Int32) (s : Mem), Sm W_X10_fromWhom s0 s → Fr W_X10_fromWhom s0 (st_X10_fromWhom_6 N x1 k43 rec x2 x3 s) := by
  intro x2 x3 s hm
  unfold st_X10_fromWhom_6
  refine fr_ite ?_ ?_
  · exact hk43 _ _ (by assumption)
  · refine fr_chk (fun _ => ?_)
    refine fr_si (by assumption) (Or.inl rfl) (fun _ _ => ?_)
    refine fr_chk (fun _ => ?_)
    refine fr_ite ?_ ?_
    · refine fr_lt ?_
      exact ih _ _ _ (by assumption)
    · refine fr_lt ?_
      refine fr_lt ?_
      exact ih _ _ _ (by assumption)
theorem frst_X10_fromWhom_62 {s0 : Mem} {N : Nat} {x1 : Int32} {x2 : Int32} {x3 : Int32} {k111 : Int32 → Mem → Option (Int32 × Mem)} {rec : Int32 → Int32 → Mem → Option (Int32 × Mem)}  (hk111 : ∀ (y0 : Int32) (y1 : Mem), Sm W_X10_fromWhom s0 y1 → Fr W_X10_fromWhom s0 (k111 y0 y1)) (ih : ∀ (y0 : Int32) (y1 : Int32) (y2 : Mem), Sm W_X10_fromWhom s0 y2 → Fr W_X10_fromWhom s0 (rec y0 y1 y2)) : ∀ (x4 : Int32) (x5 : Int32) (s : Mem), Sm W_X10_fromWhom s0 s → Fr W_X10_fromWhom s0 (st_X10_fromWhom_62 N x1 x2 x3 k111 rec x4 x5 s) := by
  intro x4 x5 s hm
  unfold st_X10_fromWhom_62
  refine fr_ite ?_ ?_
  · exact hk111 _ _ (by assumption)
  · refine fr_call (fr_X10_has _ _ _ _) (fun c i h => Or.inr (Or.inl h)) (by assumption) (fun _ _ _ => ?_)
    refine fr_ite ?_ ?_
    · refine fr_lt ?_
      exact ih _ _ _ (by assumption)
    · refine fr_ite ?_ ?_
      · refine fr_lt ?_
        exact ih _ _ _ (by assumption)
      · refine fr_chk (fun _ => ?_)
        refine fr_chk (fun _ => ?_)
        refine fr_ite ?_ ?_
        · refine fr_lt ?_
          exact ih _ _ _ (by assumption)
        · refine fr_lt ?_
          exact ih _ _ _ (by assumption)
theorem frst_X10_fromWhom_143 {s0 : Mem} {N : Nat} {x1 : Int32} {x2 : Int32} {x3 : Int32} {x4 : Int32} {k190 : Mem → Option (Int32 × Mem)} {rec : Int32 → Mem → Option (Int32 × Mem)}  (hk190 : ∀ (y0 : Mem), Sm W_X10_fromWhom s0 y0 → Fr W_X10_fromWhom s0 (k190 y0)) (ih : ∀ (y0 : Int32) (y1 : Mem), Sm W_X10_fromWhom s0 y1 → Fr W_X10_fromWhom s0 (rec y0 y1)) : ∀ (x5 : Int32) (s : Mem), Sm W_X10_fromWhom s0 s → Fr W_X10_fromWhom s0 (st_X10_fromWhom_143 N x1 x2 x3 x4 k190 rec x5 s) := by
  intro x5 s hm
  unfold st_X10_fromWhom_143
  refine fr_ite ?_ ?_
  · exact hk190 _ (by assumption)
  · refine fr_call (fr_X10_has _ _ _ _) (fun c i h => Or.inr (Or.inl h)) (by assumption) (fun _ _ _ => ?_)
    refine fr_ite ?_ ?_
    · refine fr_lt ?_
      exact ih _ _ (by assumption)
    · refine fr_chk (fun _ => ?_)
      refine fr_call (fr_X10_farFrom _ _ _ _) (fun c i h => Or.inr (Or.inr (Or.inl h))) (by assumption) (fun _ _ _ => ?_)
      refine fr_call (fr_X10_min _ _ _ _) (fun c i h => Or.inr (Or.inr (Or.inr h))) (by assumption) (fun _ _ _ => ?_)
      refine fr_chk (fun _ => ?_)
      refine fr_si (by assumption) (Or.inl rfl) (fun _ _ => ?_)
      refine fr_lt ?_
      exact ih _ _ (by assumption)
theorem frst_X10_fromWhom_52 {s0 : Mem} {N : Nat} {rec : Int32 → Int32 → Int32 → Mem → Option (Int32 × Mem)}   (ih : ∀ (y0 : Int32) (y1 : Int32) (y2 : Int32) (y3 : Mem), Sm W_X10_fromWhom s0 y3 → Fr W_X10_fromWhom s0 (rec y0 y1 y2 y3)) : ∀ (x1 : Int32) (x2 : Int32) (x3 : Int32) (s : Mem), Sm W_X10_fromWhom s0 s → Fr W_X10_fromWhom s0 (st_X10_fromWhom_52 N rec x1 x2 x3 s) := by
  intro x1 x2 x3 s hm
  unfold st_X10_fromWhom_52
  refine fr_ite ?_ ?_
  · exact fr_some (by assumption)
  · refine itr_ind (Q := fun (f : Int32 → Int32 → Mem → Option (Int32 × Mem)) => ∀ y0 y1 s, Sm W_X10_fromWhom s0 s → Fr W_X10_fromWhom s0 (f y0 y1 s)) (fun _ _ _ _ => fr_none) (fun _ ih62 => ?_) N _ _ _ (by assumption)
    refine frst_X10_fromWhom_62  ?_ ih62
    · intro x4_14 s13 hm
      refine fr_join (fun j => ∀ (t16 : Int32) (s15 : Mem), Sm W_X10_fromWhom s0 s15 → Fr W_X10_fromWhom s0 (j t16 s15)) (fun t16 s15 hm => ?_) (fun j127 hj127 => ?_)
      · refine fr_lt ?_
        refine fr_lt ?_
        refine itr_ind (Q := fun (f : Int32 → Mem → Option (Int32 × Mem)) => ∀ y0 s, Sm W_X10_fromWhom s0 s → Fr W_X10_fromWhom s0 (f y0 s)) (fun _ _ _ => fr_none) (fun _ ih143 => ?_) N _ _ (by assumption)
        refine frst_X10_fromWhom_143  ?_ ih143
        · intro s28 hm
          exact ih _ _ _ _ (by assumption)
      · refine fr_ite ?_ ?_
        · refine fr_chk (fun _ => ?_)
          exact hj127 _ _ (by assumption)
        · exact hj127 _ _ (by assumption)
theorem fr_X10_fromWhom (N : Nat) (s : Mem) : Fr W_X10_fromWhom s (f_X10_fromWhom N s) := by
  have key : ∀ s0 : Mem, Sm W_X10_fromWhom s0 s → Fr W_X10_fromWhom s0 (f_X10_fromWhom N s) := by
    intro s0 hm
    unfold f_X10_fromWhom
    refine itr_ind (Q := fun (f : Int32 → Int32 → Mem → Option (Int32 × Mem)) => ∀ y0 y1 s, Sm W_X10_fromWhom s0 s → Fr W_X10_fromWhom s0 (f y0 y1 s)) (fun _ _ _ _ => fr_none) (fun _ ih6 => ?_) N _ _ _ (by assumption)
    refine frst_X10_fromWhom_6  ?_ ih6
    · intro x2_6 s5 hm
      refine fr_ite ?_ ?_
      · exact fr_some (by assumption)
      · refine itr_ind (Q := fun (f : Int32 → Int32 → Int32 → Mem → Option (Int32 × Mem)) => ∀ y0 y1 y2 s, Sm W_X10_fromWhom s0 s → Fr W_X10_fromWhom s0 (f y0 y1 y2 s)) (fun _ _ _ _ _ => fr_none) (fun _ ih52 => ?_) N _ _ _ _ (by assumption)
        refine frst_X10_fromWhom_52   ih52
  exact key s sm_refl
def W_X10_misspelt (c i : Nat) : Prop := W_X10_in c i ∨ W_X10_min c i
theorem frst_X10_misspelt_60 {s0 : Mem} {N : Nat} {x1 : Int32} {x2 : Int32} {x3 : Int32} {k102 : Mem → Option (Int32 × Mem)} {rec : Int32 → Mem → Option (Int32 × Mem)}  (hk102 : ∀ (y0 : Mem), Sm W_X10_misspelt s0 y0 → Fr W_X10_misspelt s0 (k102 y0)) (ih : ∀ (y0 : Int32) (y1 : Mem), Sm W_X10_misspelt s0 y1 → Fr W_X10_misspelt s0 (rec y0 y1)) : ∀ (x4 : Int32) (s : Mem), Sm W_X10_misspelt s0 s → Fr W_X10_misspelt s0 (st_X10_misspelt_60 N x1 x2 x3 k102 rec x4 s) := by
  intro x4 s hm
  unfold st_X10_misspelt_60
  refine fr_ite ?_ ?_
  · exact hk102 _ (by assumption)
  · refine fr_chk (fun _ => ?_)
    refine fr_chk (fun _ => ?_)
    refine fr_ite ?_ ?_
    · refine fr_lt ?_
      exact ih _ _ (by assumption)
    · exact fr_some (by assumption)
theorem fr_X10_misspelt (N : Nat) (x1 : Int32) (x2 : Int32) (s : Mem) : Fr W_X10_misspelt s (f_X10_misspelt N x1 x2 s) := by
  have key : ∀ s0 : Mem, Sm W_X10_misspelt s0 s → Fr W_X10_misspelt s0 (f_X10_misspelt N x1 x2 s) := by
    intro s0 hm
    unfold f_X10_misspelt
    refine fr_call (fr_X10_in _ _ _ _ _) (fun c i h => Or.inl h) (by assumption) (fun _ _ _ => ?_)
    refine fr_ite ?_ ?_
    · exact fr_some (by assumption)
    · refine fr_call (fr_X10_in _ _ _ _ _) (fun c i h => Or.inl h) (by assumption) (fun _ _ _ => ?_)
      refine fr_ite ?_ ?_
      · exact fr_some (by assumption)
      · refine fr_chk (fun _ => ?_)
        refine fr_ite ?_ ?_
        · exact fr_some (by assumption)
        · refine fr_chk (fun _ => ?_)
          refine fr_ite ?_ ?_
          · exact fr_some (by assumption)
          · refine fr_chk (fun _ => ?_)
            refine fr_chk (fun _ => ?_)
            refine fr_call (fr_X10_min _ _ _ _) (fun c i h => Or.inr h) (by assumption) (fun _ _ _ => ?_)
            refine itr_ind (Q := fun (f : Int32 → Mem → Option (Int32 × Mem)) => ∀ y0 s, Sm W_X10_misspelt s0 s → Fr W_X10_misspelt s0 (f y0 s)) (fun _ _ _ => fr_none) (fun _ ih60 => ?_) N _ _ (by assumption)
            refine frst_X10_misspelt_60  ?_ ih60
            · intro s8 hm
              refine fr_chk (fun _ => ?_)
              refine fr_chk (fun _ => ?_)
              refine fr_ite ?_ ?_
              · exact fr_some (by assumption)
              · exact fr_some (by assumption)
  exact key s sm_refl
def W_X10_bids (c i : Nat) : Prop := W_X10_in c i ∨ (c = 0 ∧ i = 5) ∨ W_X10_octet c i ∨ W_X10_max c i
theorem frst_X10_bids_51 {s0 : Mem} {N : Nat} {x1 : Int32} {x2 : Int32} {x3 : Int32} {k82 : Int32 → Mem → Option (Int32 × Mem)} {rec : Int32 → Int32 → Mem → Option (Int32 × Mem)}  (hk82 : ∀ (y0 : Int32) (y1 : Mem), Sm W_X10_bids s0 y1 → Fr W_X10_bids s0 (k82 y0 y1)) (ih : ∀ (y0 : Int32) (y1 : Int32) (y2 : Mem), Sm W_X10_bids s0 y2 → Fr W_X10_bids s0 (rec y0 y1 y2)) : ∀ (x4 : Int32) (x5 : Int32) (s : Mem), Sm W_X10_bids s0 s → Fr W_X10_bids s0 (st_X10_bids_51 N x1 x2 x3 k82 rec x4 x5 s) := by
  intro x4 x5 s hm
  unfold st_X10_bids_51
  refine fr_ite ?_ ?_
  · exact hk82 _ _ (by assumption)
  · refine fr_call (fr_X10_octet _ _ _) (fun c i h => Or.inr (Or.inr (Or.inl h))) (by assumption) (fun _ _ _ => ?_)
    refine fr_call (fr_X10_octet _ _ _) (fun c i h => Or.inr (Or.inr (Or.inl h))) (by assumption) (fun _ _ _ => ?_)
    refine fr_ite ?_ ?_
    · refine fr_lt ?_
      exact ih _ _ _ (by assumption)
    · refine fr_lt ?_
      exact ih _ _ _ (by assumption)
theorem frst_X10_bids_101 {s0 : Mem} {N : Nat} {x1 : Int32} {x3 : Int32} {x4 : Int32} {k133 : Int32 → Mem → Option (Int32 × Mem)} {rec : Int32 → Int32 → Mem → Option (Int32 × Mem)}  (hk133 : ∀ (y0 : Int32) (y1 : Mem), Sm W_X10_bids s0 y1 → Fr W_X10_bids s0 (k133 y0 y1)) (ih : ∀ (y0 : Int32) (y1 : Int32) (y2 : Mem), Sm W_X10_bids s0 y2 → Fr W_X10_bids s0 (rec y0 y1 y2)) : ∀ (x5 : Int32) (x6 : Int32) (s : Mem), Sm W_X10_bids s0 s → Fr W_X10_bids s0 (st_X10_bids_101 N x1 x3 x4 k133 rec x5 x6 s) := by
  intro x5 x6 s hm
  unfold st_X10_bids_101
  refine fr_ite ?_ ?_
  · exact hk133 _ _ (by assumption)
  · refine fr_ite ?_ ?_
    · refine fr_lt ?_
      exact ih _ _ _ (by assumption)
    · refine fr_call (fr_X10_octet _ _ _) (fun c i h => Or.inr (Or.inr (Or.inl h))) (by assumption) (fun _ _ _ => ?_)
      refine fr_call (fr_X10_max _ _ _ _) (fun c i h => Or.inr (Or.inr (Or.inr h))) (by assumption) (fun _ _ _ => ?_)
      refine fr_lt ?_
      exact ih _ _ _ (by assumption)
theorem fr_X10_bids (N : Nat) (x1 : Int32) (x2 : Int32) (x3 : Int32) (s : Mem) : Fr W_X10_bids s (f_X10_bids N x1 x2 x3 s) := by
  have key : ∀ s0 : Mem, Sm W_X10_bids s0 s → Fr W_X10_bids s0 (f_X10_bids N x1 x2 x3 s) := by
    intro s0 hm
    unfold f_X10_bids
    refine fr_call (fr_X10_in _ _ _ _ _) (fun c i h => Or.inl h) (by assumption) (fun _ _ _ => ?_)
    refine fr_ite ?_ ?_
    · exact fr_some (by assumption)
    · refine fr_call (fr_X10_in _ _ _ _ _) (fun c i h => Or.inl h) (by assumption) (fun _ _ _ => ?_)
      refine fr_ite ?_ ?_
      · exact fr_some (by assumption)
      · refine fr_call (fr_X10_in _ _ _ _ _) (fun c i h => Or.inl h) (by assumption) (fun _ _ _ => ?_)
        refine fr_ite ?_ ?_
        · exact fr_some (by assumption)
        · refine fr_ite ?_ ?_
          · refine fr_si (by assumption) (Or.inr (Or.inl ⟨rfl, rfl⟩)) (fun _ _ => ?_)
            refine itr_ind (Q := fun (f : Int32 → Int32 → Mem → Option (Int32 × Mem)) => ∀ y0 y1 s, Sm W_X10_bids s0 s → Fr W_X10_bids s0 (f y0 y1 s)) (fun _ _ _ _ => fr_none) (fun _ ih51 => ?_) N _ _ _ (by assumption)
            refine frst_X10_bids_51  ?_ ih51
            · intro x4_15 s14 hm
              refine fr_call (fr_X10_octet _ _ _) (fun c i h => Or.inr (Or.inr (Or.inl h))) (by assumption) (fun _ _ _ => ?_)
              refine fr_ite ?_ ?_
              · refine itr_ind (Q := fun (f : Int32 → Int32 → Mem → Option (Int32 × Mem)) => ∀ y0 y1 s, Sm W_X10_bids s0 s → Fr W_X10_bids s0 (f y0 y1 s)) (fun _ _ _ _ => fr_none) (fun _ ih101 => ?_) N _ _ _ (by assumption)
                refine frst_X10_bids_101  ?_ ih101
                · intro x5_25 s24 hm
                  refine fr_ite ?_ ?_
                  · exact fr_some (by assumption)
                  · exact fr_some (by assumption)
              · exact fr_some (by assumption)
          · exact fr_some (by assumption)
  exact key s sm_refl
def W_X10_allLost (c i : Nat) : Prop := False
theorem frst_X10_allLost_4 {s0 : Mem} {N : Nat} {x1 : Int32} {rec : Int32 → Int32 → Mem → Option (Int32 × Mem)}   (ih : ∀ (y0 : Int32) (y1 : Int32) (y2 : Mem), Sm W_X10_allLost s0 y2 → Fr W_X10_allLost s0 (rec y0 y1 y2)) : ∀ (x2 : Int32) (x3 : Int32) (s : Mem), Sm W_X10_allLost s0 s → Fr W_X10_allLost s0 (st_X10_allLost_4 N x1 rec x2 x3 s) := by
  intro x2 x3 s hm
  unfold st_X10_allLost_4
  refine fr_ite ?_ ?_
  · exact fr_some (by assumption)
  · refine fr_chk (fun _ => ?_)
    refine fr_lt ?_
    refine fr_lt ?_
    exact ih _ _ _ (by assumption)
theorem fr_X10_allLost (N : Nat) (x1 : Int32) (s : Mem) : Fr W_X10_allLost s (f_X10_allLost N x1 s) := by
  have key : ∀ s0 : Mem, Sm W_X10_allLost s0 s → Fr W_X10_allLost s0 (f_X10_allLost N x1 s) := by
    intro s0 hm
    unfold f_X10_allLost
    refine itr_ind (Q := fun (f : Int32 → Int32 → Mem → Option (Int32 × Mem)) => ∀ y0 y1 s, Sm W_X10_allLost s0 s → Fr W_X10_allLost s0 (f y0 y1 s)) (fun _ _ _ _ => fr_none) (fun _ ih4 => ?_) N _ _ _ (by assumption)
    refine frst_X10_allLost_4   ih4
  exact key s sm_refl
def W_X10_givenUpTo (c i : Nat) : Prop := W_X10_min c i
theorem frst_X10_givenUpTo_5 {s0 : Mem} {N : Nat} {x1 : Int32} {x2 : Int32} {rec : Int32 → Int32 → Mem → Option (Int32 × Mem)}   (ih : ∀ (y0 : Int32) (y1 : Int32) (y2 : Mem), Sm W_X10_givenUpTo s0 y2 → Fr W_X10_givenUpTo s0 (rec y0 y1 y2)) : ∀ (x3 : Int32) (x4 : Int32) (s : Mem), Sm W_X10_givenUpTo s0 s → Fr W_X10_givenUpTo s0 (st_X10_givenUpTo_5 N x1 x2 rec x3 x4 s) := by
  intro x3 x4 s hm
  unfold st_X10_givenUpTo_5
  refine fr_ite ?_ ?_
  · exact fr_some (by assumption)
  · refine fr_chk (fun _ => ?_)
    refine fr_call (fr_X10_min _ _ _ _) (fun c i h => h) (by assumption) (fun _ _ _ => ?_)
    refine fr_lt ?_
    refine fr_lt ?_
    exact ih _ _ _ (by assumption)
theorem fr_X10_givenUpTo (N : Nat) (x1 : Int32) (x2 : Int32) (s : Mem) : Fr W_X10_givenUpTo s (f_X10_givenUpTo N x1 x2 s) := by
  have key : ∀ s0 : Mem, Sm W_X10_givenUpTo s0 s → Fr W_X10_givenUpTo s0 (f_X10_givenUpTo N x1 x2 s) := by
    intro s0 hm
    unfold f_X10_givenUpTo
    refine itr_ind (Q := fun (f : Int32 → Int32 → Mem → Option (Int32 × Mem)) => ∀ y0 y1 s, Sm W_X10_givenUpTo s0 s → Fr W_X10_givenUpTo s0 (f y0 y1 s)) (fun _ _ _ _ => fr_none) (fun _ ih5 => ?_) N _ _ _ (by assumption)
    refine frst_X10_givenUpTo_5   ih5
  exact key s sm_refl
def W_X10_givesAlike (c i : Nat) : Prop := W_X10_givenUpTo c i ∨ W_X10_min c i ∨ c = 39
theorem frst_X10_givesAlike_2 {s0 : Mem} {N : Nat} {x1 : Int32} {x2 : Int32} {k28 : Int32 → Mem → Option (Unit × Mem)} {rec : Int32 → Mem → Option (Unit × Mem)}  (hk28 : ∀ (y0 : Int32) (y1 : Mem), Sm W_X10_givesAlike s0 y1 → Fr W_X10_givesAlike s0 (k28 y0 y1)) (ih : ∀ (y0 : Int32) (y1 : Mem), Sm W_X10_givesAlike s0 y1 → Fr W_X10_givesAlike s0 (rec y0 y1)) : ∀ (x3 : Int32) (s : Mem), Sm W_X10_givesAlike s0 s → Fr W_X10_givesAlike s0 (st_X10_givesAlike_2 N x1 x2 k28 rec x3 s) := by
  intro x3 s hm
  unfold st_X10_givesAlike_2
  refine fr_ite ?_ ?_
  · exact hk28 _ _ (by assumption)
  · refine fr_call (fr_X10_givenUpTo _ _ _ _) (fun c i h => Or.inl h) (by assumption) (fun _ _ _ => ?_)
    refine fr_ite ?_ ?_
    · exact hk28 _ _ (by assumption)
    · refine fr_lt ?_
      exact ih _ _ (by assumption)
theorem frst_X10_givesAlike_41 {s0 : Mem} {N : Nat} {x1 : Int32} {x3 : Int32} {rec : Int32 → Int32 → Mem → Option (Unit × Mem)}   (ih : ∀ (y0 : Int32) (y1 : Int32) (y2 : Mem), Sm W_X10_givesAlike s0 y2 → Fr W_X10_givesAlike s0 (rec y0 y1 y2)) : ∀ (x4 : Int32) (x5 : Int32) (s : Mem), Sm W_X10_givesAlike s0 s → Fr W_X10_givesAlike s0 (st_X10_givesAlike_41 N x1 x3 rec x4 x5 s) := by
  intro x4 x5 s hm
  unfold st_X10_givesAlike_41
  refine fr_ite ?_ ?_
  · exact fr_some (by assumption)
  · refine fr_join (fun j => ∀ (t10 : Int32) (s9 : Mem), Sm W_X10_givesAlike s0 s9 → Fr W_X10_givesAlike s0 (j t10 s9)) (fun t10 s9 hm => ?_) (fun j68 hj68 => ?_)
    · refine fr_chk (fun _ => ?_)
      refine fr_chk (fun _ => ?_)
      refine fr_call (fr_X10_min _ _ _ _) (fun c i h => Or.inr (Or.inl h)) (by assumption) (fun _ _ _ => ?_)
      refine fr_join (fun j => ∀ (t14 : Int32) (s13 : Mem), Sm W_X10_givesAlike s0 s13 → Fr W_X10_givesAlike s0 (j t14 s13)) (fun t14 s13 hm => ?_) (fun j105 hj105 => ?_)
      · refine fr_chk (fun _ => ?_)
        refine fr_si (by assumption) (Or.inr (Or.inr rfl)) (fun _ _ => ?_)
        refine fr_ite ?_ ?_
        · refine fr_lt ?_
          refine fr_lt ?_
          exact ih _ _ _ (by assumption)
        · refine fr_lt ?_
          refine fr_lt ?_
          exact ih _ _ _ (by assumption)
      · refine fr_ite ?_ ?_
        · exact hj105 _ _ (by assumption)
        · exact hj105 _ _ (by assumption)
    · refine fr_ite ?_ ?_
      · exact hj68 _ _ (by assumption)
      · refine fr_chk (fun _ => ?_)
        refine fr_ite ?_ ?_
        · exact hj68 _ _ (by assumption)
        · exact hj68 _ _ (by assumption)
theorem fr_X10_givesAlike (N : Nat) (x1 : Int32) (x2 : Int32) (s : Mem) : Fr W_X10_givesAlike s (f_X10_givesAlike N x1 x2 s) := by
  have key : ∀ s0 : Mem, Sm W_X10_givesAlike s0 s → Fr W_X10_givesAlike s0 (f_X10_givesAlike N x1 x2 s) := by
    intro s0 hm
    unfold f_X10_givesAlike
    refine itr_ind (Q := fun (f : Int32 → Mem → Option (Unit × Mem)) => ∀ y0 s, Sm W_X10_givesAlike s0 s → Fr W_X10_givesAlike s0 (f y0 s)) (fun _ _ _ => fr_none) (fun _ ih2 => ?_) N _ _ (by assumption)
    refine frst_X10_givesAlike_2  ?_ ih2
    · intro x3_5 s4 hm
      refine fr_call (fr_X10_givenUpTo _ _ _ _) (fun c i h => Or.inl h) (by assumption) (fun _ _ _ => ?_)
      refine fr_lt ?_
      refine itr_ind (Q := fun (f : Int32 → Int32 → Mem → Option (Unit × Mem)) => ∀ y0 y1 s, Sm W_X10_givesAlike s0 s → Fr W_X10_givesAlike s0 (f y0 y1 s)) (fun _ _ _ _ => fr_none) (fun _ ih41 => ?_) N _ _ _ (by assumption)
      refine frst_X10_givesAlike_41   ih41
  exact key s sm_refl
def W_X10_losesAlike (c i : Nat) : Prop := W_X10_allLost c i ∨ W_X10_givenUpTo c i ∨ W_X10_max c i ∨ c = 39
theorem frst_X10_losesAlike_2 {s0 : Mem} {N : Nat} {x1 : Int32} {x2 : Int32} {k25 : Int32 → Mem → Option (Unit × Mem)} {rec : Int32 → Mem → Option (Unit × Mem)}  (hk25 : ∀ (y0 : Int32) (y1 : Mem), Sm W_X10_losesAlike s0 y1 → Fr W_X10_losesAlike s0 (k25 y0 y1)) (ih : ∀ (y0 : Int32) (y1 : Mem), Sm W_X10_losesAlike s0 y1 → Fr W_X10_losesAlike s0 (rec y0 y1)) : ∀ (x3 : Int32) (s : Mem), Sm W_X10_losesAlike s0 s → Fr W_X10_losesAlike s0 (st_X10_losesAlike_2 N x1 x2 k25 rec x3 s) := by
  intro x3 s hm
  unfold st_X10_losesAlike_2
  refine fr_call (fr_X10_allLost _ _ _) (fun c i h => Or.inl h) (by assumption) (fun _ _ _ => ?_)
  refine fr_call (fr_X10_givenUpTo _ _ _ _) (fun c i h => Or.inr (Or.inl h)) (by assumption) (fun _ _ _ => ?_)
  refine fr_ite ?_ ?_
  · exact hk25 _ _ (by assumption)
  · refine fr_lt ?_
    exact ih _ _ (by assumption)
theorem frst_X10_losesAlike_44 {s0 : Mem} {N : Nat} {x1 : Int32} {x3 : Int32} {rec : Int32 → Int32 → Mem → Option (Unit × Mem)}   (ih : ∀ (y0 : Int32) (y1 : Int32) (y2 : Mem), Sm W_X10_losesAlike s0 y2 → Fr W_X10_losesAlike s0 (rec y0 y1 y2)) : ∀ (x4 : Int32) (x5 : Int32) (s : Mem), Sm W_X10_losesAlike s0 s → Fr W_X10_losesAlike s0 (st_X10_losesAlike_44 N x1 x3 rec x4 x5 s) := by
  intro x4 x5 s hm
  unfold st_X10_losesAlike_44
  refine fr_ite ?_ ?_
  · exact fr_some (by assumption)
  · refine fr_join (fun j => ∀ (t14 : Int32) (s13 : Mem), Sm W_X10_losesAlike s0 s13 → Fr W_X10_losesAlike s0 (j t14 s13)) (fun t14 s13 hm => ?_) (fun j75 hj75 => ?_)
    · refine fr_chk (fun _ => ?_)
      refine fr_chk (fun _ => ?_)
      refine fr_call (fr_X10_max _ _ _ _) (fun c i h => Or.inr (Or.inr (Or.inl h))) (by assumption) (fun _ _ _ => ?_)
      refine fr_join (fun j => ∀ (t18 : Int32) (s17 : Mem), Sm W_X10_losesAlike s0 s17 → Fr W_X10_losesAlike s0 (j t18 s17)) (fun t18 s17 hm => ?_) (fun j114 hj114 => ?_)
      · refine fr_chk (fun _ => ?_)
        refine fr_si (by assumption) (Or.inr (Or.inr (Or.inr rfl))) (fun _ _ => ?_)
        refine fr_ite ?_ ?_
        · refine fr_lt ?_
          refine fr_lt ?_
          exact ih _ _ _ (by assumption)
        · refine fr_lt ?_
          refine fr_lt ?_
          exact ih _ _ _ (by assumption)
      · refine fr_ite ?_ ?_
        · exact hj114 _ _ (by assumption)
        · exact hj114 _ _ (by assumption)
    · refine fr_ite ?_ ?_
      · exact hj75 _ _ (by assumption)
      · refine fr_ite ?_ ?_
        · exact hj75 _ _ (by assumption)
        · refine fr_chk (fun _ => ?_)
          refine fr_ite ?_ ?_
          · exact hj75 _ _ (by assumption)
          · exact hj75 _ _ (by assumption)
theorem fr_X10_losesAlike (N : Nat) (x1 : Int32) (x2 : Int32) (s : Mem) : Fr W_X10_losesAlike s (f_X10_losesAlike N x1 x2 s) := by
  have key : ∀ s0 : Mem, Sm W_X10_losesAlike s0 s → Fr W_X10_losesAlike s0 (f_X10_losesAlike N x1 x2 s) := by
    intro s0 hm
    unfold f_X10_losesAlike
    refine itr_ind (Q := fun (f : Int32 → Mem → Option (Unit × Mem)) => ∀ y0 s, Sm W_X10_losesAlike s0 s → Fr W_X10_losesAlike s0 (f y0 s)) (fun _ _ _ => fr_none) (fun _ ih2 => ?_) N _ _ (by assumption)
    refine frst_X10_losesAlike_2  ?_ ih2
    · intro x3_7 s6 hm
      refine fr_call (fr_X10_allLost _ _ _) (fun c i h => Or.inl h) (by assumption) (fun _ _ _ => ?_)
      refine fr_call (fr_X10_givenUpTo _ _ _ _) (fun c i h => Or.inr (Or.inl h)) (by assumption) (fun _ _ _ => ?_)
      refine fr_lt ?_
      refine itr_ind (Q := fun (f : Int32 → Int32 → Mem → Option (Unit × Mem)) => ∀ y0 y1 s, Sm W_X10_losesAlike s0 s → Fr W_X10_losesAlike s0 (f y0 y1 s)) (fun _ _ _ _ => fr_none) (fun _ ih44 => ?_) N _ _ _ (by assumption)
      refine frst_X10_losesAlike_44   ih44
  exact key s sm_refl
def W_X10_divides (c i : Nat) : Prop := c = 39 ∨ W_X10_givesAlike c i ∨ W_X10_losesAlike c i ∨ W_X10_allLost c i ∨ c = 38
theorem frst_X10_divides_3 {s0 : Mem} {N : Nat} {x1 : Int32} {x2 : Int32} {x3 : Int32} {k23 : Mem → Option (Unit × Mem)} {rec : Int32 → Mem → Option (Unit × Mem)}  (hk23 : ∀ (y0 : Mem), Sm W_X10_divides s0 y0 → Fr W_X10_divides s0 (k23 y0)) (ih : ∀ (y0 : Int32) (y1 : Mem), Sm W_X10_divides s0 y1 → Fr W_X10_divides s0 (rec y0 y1)) : ∀ (x4 : Int32) (s : Mem), Sm W_X10_divides s0 s → Fr W_X10_divides s0 (st_X10_divides_3 N x1 x2 x3 k23 rec x4 s) := by
  intro x4 s hm
  unfold st_X10_divides_3
  refine fr_ite ?_ ?_
  · exact hk23 _ (by assumption)
  · refine fr_chk (fun _ => ?_)
    refine fr_si (by assumption) (Or.inl rfl) (fun _ _ => ?_)
    refine fr_lt ?_
    exact ih _ _ (by assumption)
theorem frst_X10_divides_70 {s0 : Mem} {N : Nat} {x1 : Int32} {x2 : Int32} {x4 : Int32} {k141 : Int32 → Mem → Option (Unit × Mem)} {rec : Int32 → Int32 → Mem → Option (Unit × Mem)}  (hk141 : ∀ (y0 : Int32) (y1 : Mem), Sm W_X10_divides s0 y1 → Fr W_X10_divides s0 (k141 y0 y1)) (ih : ∀ (y0 : Int32) (y1 : Int32) (y2 : Mem), Sm W_X10_divides s0 y2 → Fr W_X10_divides s0 (rec y0 y1 y2)) : ∀ (x5 : Int32) (x6 : Int32) (s : Mem), Sm W_X10_divides s0 s → Fr W_X10_divides s0 (st_X10_divides_70 N x1 x2 x4 k141 rec x5 x6 s) := by
  intro x5 x6 s hm
  unfold st_X10_divides_70
  refine fr_ite ?_ ?_
  · exact hk141 _ _ (by assumption)
  · refine fr_chk (fun _ => ?_)
    refine fr_lt ?_
    refine fr_lt ?_
    refine fr_join (fun j => ∀ (s10 : Mem), Sm W_X10_divides s0 s10 → Fr W_X10_divides s0 (j s10)) (fun s10 hm => ?_) (fun j108 hj108 => ?_)
    · refine fr_ite ?_ ?_
      · refine fr_chk (fun _ => ?_)
        refine fr_chk (fun _ => ?_)
        refine fr_si (by assumption) (Or.inr (Or.inr (Or.inr (Or.inr rfl)))) (fun _ _ => ?_)
        refine fr_lt ?_
        exact ih _ _ _ (by assumption)
      · refine fr_chk (fun _ => ?_)
        refine fr_si (by assumption) (Or.inr (Or.inr (Or.inr (Or.inr rfl)))) (fun _ _ => ?_)
        refine fr_lt ?_
        exact ih _ _ _ (by assumption)
    · refine fr_ite ?_ ?_
      · refine fr_chk (fun _ => ?_)
        refine fr_si (by assumption) (Or.inl rfl) (fun _ _ => ?_)
        exact hj108 _ (by assumption)
      · exact hj108 _ (by assumption)
theorem fr_X10_divides (N : Nat) (x1 : Int32) (x2 : Int32) (x3 : Int32) (s : Mem) : Fr W_X10_divides s (f_X10_divides N x1 x2 x3 s) := by
  have key : ∀ s0 : Mem, Sm W_X10_divides s0 s → Fr W_X10_divides s0 (f_X10_divides N x1 x2 x3 s) := by
    intro s0 hm
    unfold f_X10_divides
    refine itr_ind (Q := fun (f : Int32 → Mem → Option (Unit × Mem)) => ∀ y0 s, Sm W_X10_divides s0 s → Fr W_X10_divides s0 (f y0 s)) (fun _ _ _ => fr_none) (fun _ ih3 => ?_) N _ _ (by assumption)
    refine frst_X10_divides_3  ?_ ih3
    · intro s3 hm
      refine fr_ite ?_ ?_
      · refine fr_call (fr_X10_givesAlike _ _ _ _) (fun c i h => Or.inr (Or.inl h)) (by assumption) (fun _ _ _ => ?_)
        exact fr_some (by assumption)
      · refine fr_ite ?_ ?_
        · refine fr_call (fr_X10_losesAlike _ _ _ _) (fun c i h => Or.inr (Or.inr (Or.inl h))) (by assumption) (fun _ _ _ => ?_)
          exact fr_some (by assumption)
        · refine fr_call (fr_X10_allLost _ _ _) (fun c i h => Or.inr (Or.inr (Or.inr (Or.inl h)))) (by assumption) (fun _ _ _ => ?_)
          refine fr_join (fun j => ∀ (t7 : Int32) (s6 : Mem), Sm W_X10_divides s0 s6 → Fr W_X10_divides s0 (j t7 s6)) (fun t7 s6 hm => ?_) (fun j62 hj62 => ?_)
          · refine itr_ind (Q := fun (f : Int32 → Int32 → Mem → Option (Unit × Mem)) => ∀ y0 y1 s, Sm W_X10_divides s0 s → Fr W_X10_divides s0 (f y0 y1 s)) (fun _ _ _ _ => fr_none) (fun _ ih70 => ?_) N _ _ _ (by assumption)
            refine frst_X10_divides_70  ?_ ih70
            · intro x5_17 s16 hm
              refine fr_ite ?_ ?_
              · refine fr_call (fr_X10_losesAlike _ _ _ _) (fun c i h => Or.inr (Or.inr (Or.inl h))) (by assumption) (fun _ _ _ => ?_)
                exact fr_some (by assumption)
              · refine fr_call (fr_X10_givesAlike _ _ _ _) (fun c i h => Or.inr (Or.inl h)) (by assumption) (fun _ _ _ => ?_)
                exact fr_some (by assumption)
          · refine fr_ite ?_ ?_
            · exact hj62 _ _ (by assumption)
            · exact hj62 _ _ (by assumption)
  exact key s sm_refl
def W_X10_divided (c i : Nat) : Prop := W_X10_in c i ∨ (c = 0 ∧ i = 5) ∨ W_X10_octet c i ∨ c = 38 ∨ W_X10_divides c i
theorem frst_X10_divided_62 {s0 : Mem} {N : Nat} {x1 : Int32} {x2 : Int32} {x3 : Int32} {x4 : Int32} {k120 : Mem → Option (Int32 × Mem)} {rec : Int32 → Mem → Option (Int32 × Mem)}  (hk120 : ∀ (y0 : Mem), Sm W_X10_divided s0 y0 → Fr W_X10_divided s0 (k120 y0)) (ih : ∀ (y0 : Int32) (y1 : Mem), Sm W_X10_divided s0 y1 → Fr W_X10_divided s0 (rec y0 y1)) : ∀ (x5 : Int32) (s : Mem), Sm W_X10_divided s0 s → Fr W_X10_divided s0 (st_X10_divided_62 N x1 x2 x3 x4 k120 rec x5 s) := by
  intro x5 s hm
  unfold st_X10_divided_62
  refine fr_ite ?_ ?_
  · exact hk120 _ (by assumption)
  · refine fr_call (fr_X10_octet _ _ _) (fun c i h => Or.inr (Or.inr (Or.inl h))) (by assumption) (fun _ _ _ => ?_)
    refine fr_call (fr_X10_octet _ _ _) (fun c i h => Or.inr (Or.inr (Or.inl h))) (by assumption) (fun _ _ _ => ?_)
    refine fr_chk (fun _ => ?_)
    refine fr_si (by assumption) (Or.inr (Or.inr (Or.inr (Or.inl rfl)))) (fun _ _ => ?_)
    refine fr_chk (fun _ => ?_)
    refine fr_ite ?_ ?_
    · refine fr_lt ?_
      exact ih _ _ (by assumption)
    · exact fr_some (by assumption)
theorem fr_X10_divided (N : Nat) (x1 : Int32) (x2 : Int32) (x3 : Int32) (x4 : Int32) (s : Mem) : Fr W_X10_divided s (f_X10_divided N x1 x2 x3 x4 s) := by
  have key : ∀ s0 : Mem, Sm W_X10_divided s0 s → Fr W_X10_divided s0 (f_X10_divided N x1 x2 x3 x4 s) := by
    intro s0 hm
    unfold f_X10_divided
    refine fr_call (fr_X10_in _ _ _ _ _) (fun c i h => Or.inl h) (by assumption) (fun _ _ _ => ?_)
    refine fr_ite ?_ ?_
    · exact fr_some (by assumption)
    · refine fr_call (fr_X10_in _ _ _ _ _) (fun c i h => Or.inl h) (by assumption) (fun _ _ _ => ?_)
      refine fr_ite ?_ ?_
      · exact fr_some (by assumption)
      · refine fr_call (fr_X10_in _ _ _ _ _) (fun c i h => Or.inl h) (by assumption) (fun _ _ _ => ?_)
        refine fr_ite ?_ ?_
        · exact fr_some (by assumption)
        · refine fr_call (fr_X10_in _ _ _ _ _) (fun c i h => Or.inl h) (by assumption) (fun _ _ _ => ?_)
          refine fr_ite ?_ ?_
          · exact fr_some (by assumption)
          · refine fr_ite ?_ ?_
            · refine fr_si (by assumption) (Or.inr (Or.inl ⟨rfl, rfl⟩)) (fun _ _ => ?_)
              refine itr_ind (Q := fun (f : Int32 → Mem → Option (Int32 × Mem)) => ∀ y0 s, Sm W_X10_divided s0 s → Fr W_X10_divided s0 (f y0 s)) (fun _ _ _ => fr_none) (fun _ ih62 => ?_) N _ _ (by assumption)
              refine frst_X10_divided_62  ?_ ih62
              · intro s16 hm
                refine fr_call (fr_X10_divides _ _ _ _ _) (fun c i h => Or.inr (Or.inr (Or.inr (Or.inr h)))) (by assumption) (fun _ _ _ => ?_)
                refine fr_chk (fun _ => ?_)
                exact fr_some (by assumption)
            · exact fr_some (by assumption)
  exact key s sm_refl
def W_X10_isAgain (c i : Nat) : Prop := W_X10_octet c i
theorem frst_X10_isAgain_2 {s0 : Mem} {N : Nat} {x1 : Int32} {rec : Int32 → Mem → Option (Int32 × Mem)}   (ih : ∀ (y0 : Int32) (y1 : Mem), Sm W_X10_isAgain s0 y1 → Fr W_X10_isAgain s0 (rec y0 y1)) : ∀ (x2 : Int32) (s : Mem), Sm W_X10_isAgain s0 s → Fr W_X10_isAgain s0 (st_X10_isAgain_2 N x1 rec x2 s) := by
  intro x2 s hm
  unfold st_X10_isAgain_2
  refine fr_ite ?_ ?_
  · exact fr_some (by assumption)
  · refine fr_call (fr_X10_octet _ _ _) (fun c i h => h) (by assumption) (fun _ _ _ => ?_)
    refine fr_call (fr_X10_octet _ _ _) (fun c i h => h) (by assumption) (fun _ _ _ => ?_)
    refine fr_ite ?_ ?_
    · exact fr_some (by assumption)
    · refine fr_lt ?_
      exact ih _ _ (by assumption)
theorem fr_X10_isAgain (N : Nat) (x1 : Int32) (s : Mem) : Fr W_X10_isAgain s (f_X10_isAgain N x1 s) := by
  have key : ∀ s0 : Mem, Sm W_X10_isAgain s0 s → Fr W_X10_isAgain s0 (f_X10_isAgain N x1 s) := by
    intro s0 hm
    unfold f_X10_isAgain
    refine itr_ind (Q := fun (f : Int32 → Mem → Option (Int32 × Mem)) => ∀ y0 s, Sm W_X10_isAgain s0 s → Fr W_X10_isAgain s0 (f y0 s)) (fun _ _ _ => fr_none) (fun _ ih2 => ?_) N _ _ (by assumption)
    refine frst_X10_isAgain_2   ih2
  exact key s sm_refl
def W_X10_laysCoins (c i : Nat) : Prop := c = 40 ∨ c = 41 ∨ W_X10_isAgain c i ∨ W_X10_octet c i ∨ W_X10_min c i
theorem frst_X10_laysCoins_2 {s0 : Mem} {N : Nat} {x1 : Int32} {x2 : Int32} {k45 : Mem → Option (Unit × Mem)} {rec : Int32 → Mem → Option (Unit × Mem)}  (hk45 : ∀ (y0 : Mem), Sm W_X10_laysCoins s0 y0 → Fr W_X10_laysCoins s0 (k45 y0)) (ih : ∀ (y0 : Int32) (y1 : Mem), Sm W_X10_laysCoins s0 y1 → Fr W_X10_laysCoins s0 (rec y0 y1)) : ∀ (x3 : Int32) (s : Mem), Sm W_X10_laysCoins s0 s → Fr W_X10_laysCoins s0 (st_X10_laysCoins_2 N x1 x2 k45 rec x3 s) := by
  intro x3 s hm
  unfold st_X10_laysCoins_2
  refine fr_ite ?_ ?_
  · exact hk45 _ (by assumption)
  · refine fr_join (fun j => ∀ (t2 : Int32) (s1 : Mem), Sm W_X10_laysCoins s0 s1 → Fr W_X10_laysCoins s0 (j t2 s1)) (fun t2 s1 hm => ?_) (fun j23 hj23 => ?_)
    · refine fr_chk (fun _ => ?_)
      refine fr_si (by assumption) (Or.inl rfl) (fun _ _ => ?_)
      refine fr_ite ?_ ?_
      · refine fr_chk (fun _ => ?_)
        refine fr_si (by assumption) (Or.inr (Or.inl rfl)) (fun _ _ => ?_)
        refine fr_lt ?_
        exact ih _ _ (by assumption)
      · refine fr_chk (fun _ => ?_)
        refine fr_si (by assumption) (Or.inr (Or.inl rfl)) (fun _ _ => ?_)
        refine fr_lt ?_
        exact ih _ _ (by assumption)
    · refine fr_ite ?_ ?_
      · exact hj23 _ _ (by assumption)
      · exact hj23 _ _ (by assumption)
theorem frst_X10_laysCoins_70 {s0 : Mem} {N : Nat} {x1 : Int32} {x2 : Int32} {x3 : Int32} {k148 : Mem → Option (Unit × Mem)} {rec : Int32 → Mem → Option (Unit × Mem)}  (hk148 : ∀ (y0 : Mem), Sm W_X10_laysCoins s0 y0 → Fr W_X10_laysCoins s0 (k148 y0)) (ih : ∀ (y0 : Int32) (y1 : Mem), Sm W_X10_laysCoins s0 y1 → Fr W_X10_laysCoins s0 (rec y0 y1)) : ∀ (x4 : Int32) (s : Mem), Sm W_X10_laysCoins s0 s → Fr W_X10_laysCoins s0 (st_X10_laysCoins_70 N x1 x2 x3 k148 rec x4 s) := by
  intro x4 s hm
  unfold st_X10_laysCoins_70
  refine fr_ite ?_ ?_
  · exact hk148 _ (by assumption)
  · refine fr_chk (fun _ => ?_)
    refine fr_call (fr_X10_octet _ _ _) (fun c i h => Or.inr (Or.inr (Or.inr (Or.inl h)))) (by assumption) (fun _ _ _ => ?_)
    refine fr_chk (fun _ => ?_)
    refine fr_call (fr_X10_min _ _ _ _) (fun c i h => Or.inr (Or.inr (Or.inr (Or.inr h)))) (by assumption) (fun _ _ _ => ?_)
    refine fr_chk (fun _ => ?_)
    refine fr_si (by assumption) (Or.inl rfl) (fun _ _ => ?_)
    refine fr_chk (fun _ => ?_)
    refine fr_call (fr_X10_octet _ _ _) (fun c i h => Or.inr (Or.inr (Or.inr (Or.inl h)))) (by assumption) (fun _ _ _ => ?_)
    refine fr_chk (fun _ => ?_)
    refine fr_call (fr_X10_min _ _ _ _) (fun c i h => Or.inr (Or.inr (Or.inr (Or.inr h)))) (by assumption) (fun _ _ _ => ?_)
    refine fr_chk (fun _ => ?_)
    refine fr_si (by assumption) (Or.inr (Or.inl rfl)) (fun _ _ => ?_)
    refine fr_lt ?_
    exact ih _ _ (by assumption)
theorem frst_X10_laysCoins_47 {s0 : Mem} {N : Nat} {x1 : Int32} {x2 : Int32} {rec : Int32 → Mem → Option (Unit × Mem)}   (ih : ∀ (y0 : Int32) (y1 : Mem), Sm W_X10_laysCoins s0 y1 → Fr W_X10_laysCoins s0 (rec y0 y1)) : ∀ (x3 : Int32) (s : Mem), Sm W_X10_laysCoins s0 s → Fr W_X10_laysCoins s0 (st_X10_laysCoins_47 N x1 x2 rec x3 s) := by
  intro x3 s hm
  unfold st_X10_laysCoins_47
  refine fr_ite ?_ ?_
  · exact fr_some (by assumption)
  · refine fr_call (fr_X10_isAgain _ _ _) (fun c i h => Or.inr (Or.inr (Or.inl h))) (by assumption) (fun _ _ _ => ?_)
    refine fr_ite ?_ ?_
    · refine fr_call (fr_X10_octet _ _ _) (fun c i h => Or.inr (Or.inr (Or.inr (Or.inl h)))) (by assumption) (fun _ _ _ => ?_)
      refine itr_ind (Q := fun (f : Int32 → Mem → Option (Unit × Mem)) => ∀ y0 s, Sm W_X10_laysCoins s0 s → Fr W_X10_laysCoins s0 (f y0 s)) (fun _ _ _ => fr_none) (fun _ ih70 => ?_) N _ _ (by assumption)
      refine frst_X10_laysCoins_70  ?_ ih70
      · intro s24 hm
        refine fr_lt ?_
        exact ih _ _ (by assumption)
    · refine fr_lt ?_
      exact ih _ _ (by assumption)
theorem fr_X10_laysCoins (N : Nat) (x1 : Int32) (x2 : Int32) (s : Mem) : Fr W_X10_laysCoins s (f_X10_laysCoins N x1 x2 s) := by
  have key : ∀ s0 : Mem, Sm W_X10_laysCoins s0 s → Fr W_X10_laysCoins s0 (f_X10_laysCoins N x1 x2 s) := by
    intro s0 hm
    unfold f_X10_laysCoins
    refine itr_ind (Q := fun (f : Int32 → Mem → Option (Unit × Mem)) => ∀ y0 s, Sm W_X10_laysCoins s0 s → Fr W_X10_laysCoins s0 (f y0 s)) (fun _ _ _ => fr_none) (fun _ ih2 => ?_) N _ _ (by assumption)
    refine frst_X10_laysCoins_2  ?_ ih2
    · intro s8 hm
      refine itr_ind (Q := fun (f : Int32 → Mem → Option (Unit × Mem)) => ∀ y0 s, Sm W_X10_laysCoins s0 s → Fr W_X10_laysCoins s0 (f y0 s)) (fun _ _ _ => fr_none) (fun _ ih47 => ?_) N _ _ (by assumption)
      refine frst_X10_laysCoins_47   ih47
  exact key s sm_refl
def W_X10_byGreatest (c i : Nat) : Prop := W_X10_octet c i ∨ W_X10_max c i
theorem frst_X10_byGreatest_15 {s0 : Mem} {N : Nat} {x1 : Int32} {x3 : Int32} {x4 : Int32} {k50 : Int32 → Mem → Option (Int32 × Mem)} {rec : Int32 → Int32 → Mem → Option (Int32 × Mem)}  (hk50 : ∀ (y0 : Int32) (y1 : Mem), Sm W_X10_byGreatest s0 y1 → Fr W_X10_byGreatest s0 (k50 y0 y1)) (ih : ∀ (y0 : Int32) (y1 : Int32) (y2 : Mem), Sm W_X10_byGreatest s0 y2 → Fr W_X10_byGreatest s0 (rec y0 y1 y2)) : ∀ (x5 : Int32) (x6 : Int32) (s : Mem), Sm W_X10_byGreatest s0 s → Fr W_X10_byGreatest s0 (st_X10_byGreatest_15 N x1 x3 x4 k50 rec x5 x6 s) := by
  intro x5 x6 s hm
  unfold st_X10_byGreatest_15
  refine fr_ite ?_ ?_
  · exact hk50 _ _ (by assumption)
  · refine fr_call (fr_X10_octet _ _ _) (fun c i h => Or.inl h) (by assumption) (fun _ _ _ => ?_)
    refine fr_ite ?_ ?_
    · refine fr_lt ?_
      exact ih _ _ _ (by assumption)
    · refine fr_call (fr_X10_octet _ _ _) (fun c i h => Or.inl h) (by assumption) (fun _ _ _ => ?_)
      refine fr_call (fr_X10_max _ _ _ _) (fun c i h => Or.inr h) (by assumption) (fun _ _ _ => ?_)
      refine fr_lt ?_
      exact ih _ _ _ (by assumption)
theorem frst_X10_byGreatest_5 {s0 : Mem} {N : Nat} {x1 : Int32} {rec : Int32 → Int32 → Mem → Option (Int32 × Mem)}   (ih : ∀ (y0 : Int32) (y1 : Int32) (y2 : Mem), Sm W_X10_byGreatest s0 y2 → Fr W_X10_byGreatest s0 (rec y0 y1 y2)) : ∀ (x3 : Int32) (x4 : Int32) (s : Mem), Sm W_X10_byGreatest s0 s → Fr W_X10_byGreatest s0 (st_X10_byGreatest_5 N x1 rec x3 x4 s) := by
  intro x3 x4 s hm
  unfold st_X10_byGreatest_5
  refine fr_ite ?_ ?_
  · exact fr_some (by assumption)
  · refine itr_ind (Q := fun (f : Int32 → Int32 → Mem → Option (Int32 × Mem)) => ∀ y0 y1 s, Sm W_X10_byGreatest s0 s → Fr W_X10_byGreatest s0 (f y0 y1 s)) (fun _ _ _ _ => fr_none) (fun _ ih15 => ?_) N _ _ _ (by assumption)
    refine frst_X10_byGreatest_15  ?_ ih15
    · intro x5_10 s9 hm
      refine fr_ite ?_ ?_
      · exact fr_some (by assumption)
      · refine fr_lt ?_
        refine fr_lt ?_
        exact ih _ _ _ (by assumption)
theorem fr_X10_byGreatest (N : Nat) (x1 : Int32) (x2 : Int32) (s : Mem) : Fr W_X10_byGreatest s (f_X10_byGreatest N x1 x2 s) := by
  have key : ∀ s0 : Mem, Sm W_X10_byGreatest s0 s → Fr W_X10_byGreatest s0 (f_X10_byGreatest N x1 x2 s) := by
    intro s0 hm
    unfold f_X10_byGreatest
    refine itr_ind (Q := fun (f : Int32 → Int32 → Mem → Option (Int32 × Mem)) => ∀ y0 y1 s, Sm W_X10_byGreatest s0 s → Fr W_X10_byGreatest s0 (f y0 y1 s)) (fun _ _ _ _ => fr_none) (fun _ ih5 => ?_) N _ _ _ (by assumption)
    refine frst_X10_byGreatest_5   ih5
  exact key s sm_refl
def W_X10_coins (c i : Nat) : Prop := W_X10_in c i ∨ (c = 0 ∧ i = 5) ∨ W_X10_octet c i ∨ W_X10_byGreatest c i ∨ W_X10_laysCoins c i
theorem frst_X10_coins_48 {s0 : Mem} {N : Nat} {x1 : Int32} {x2 : Int32} {x3 : Int32} {k72 : Mem → Option (Int32 × Mem)} {rec : Int32 → Mem → Option (Int32 × Mem)}  (hk72 : ∀ (y0 : Mem), Sm W_X10_coins s0 y0 → Fr W_X10_coins s0 (k72 y0)) (ih : ∀ (y0 : Int32) (y1 : Mem), Sm W_X10_coins s0 y1 → Fr W_X10_coins s0 (rec y0 y1)) : ∀ (x4 : Int32) (s : Mem), Sm W_X10_coins s0 s → Fr W_X10_coins s0 (st_X10_coins_48 N x1 x2 x3 k72 rec x4 s) := by
  intro x4 s hm
  unfold st_X10_coins_48
  refine fr_ite ?_ ?_
  · exact hk72 _ (by assumption)
  · refine fr_call (fr_X10_octet _ _ _) (fun c i h => Or.inr (Or.inr (Or.inl h))) (by assumption) (fun _ _ _ => ?_)
    refine fr_ite ?_ ?_
    · exact fr_some (by assumption)
    · refine fr_lt ?_
      exact ih _ _ (by assumption)
theorem fr_X10_coins (N : Nat) (x1 : Int32) (x2 : Int32) (x3 : Int32) (s : Mem) : Fr W_X10_coins s (f_X10_coins N x1 x2 x3 s) := by
  have key : ∀ s0 : Mem, Sm W_X10_coins s0 s → Fr W_X10_coins s0 (f_X10_coins N x1 x2 x3 s) := by
    intro s0 hm
    unfold f_X10_coins
    refine fr_call (fr_X10_in _ _ _ _ _) (fun c i h => Or.inl h) (by assumption) (fun _ _ _ => ?_)
    refine fr_ite ?_ ?_
    · exact fr_some (by assumption)
    · refine fr_call (fr_X10_in _ _ _ _ _) (fun c i h => Or.inl h) (by assumption) (fun _ _ _ => ?_)
      refine fr_ite ?_ ?_
      · exact fr_some (by assumption)
      · refine fr_call (fr_X10_in _ _ _ _ _) (fun c i h => Or.inl h) (by assumption) (fun _ _ _ => ?_)
        refine fr_ite ?_ ?_
        · exact fr_some (by assumption)
        · refine fr_ite ?_ ?_
          · refine fr_si (by assumption) (Or.inr (Or.inl ⟨rfl, rfl⟩)) (fun _ _ => ?_)
            refine itr_ind (Q := fun (f : Int32 → Mem → Option (Int32 × Mem)) => ∀ y0 s, Sm W_X10_coins s0 s → Fr W_X10_coins s0 (f y0 s)) (fun _ _ _ => fr_none) (fun _ ih48 => ?_) N _ _ (by assumption)
            refine frst_X10_coins_48  ?_ ih48
            · intro s11 hm
              refine fr_ite ?_ ?_
              · refine fr_call (fr_X10_byGreatest _ _ _ _) (fun c i h => Or.inr (Or.inr (Or.inr (Or.inl h)))) (by assumption) (fun _ _ _ => ?_)
                exact fr_some (by assumption)
              · refine fr_call (fr_X10_laysCoins _ _ _ _) (fun c i h => Or.inr (Or.inr (Or.inr (Or.inr h)))) (by assumption) (fun _ _ _ => ?_)
                refine fr_ite ?_ ?_
                · refine fr_chk (fun _ => ?_)
                  exact fr_some (by assumption)
                · refine fr_chk (fun _ => ?_)
                  refine fr_ite ?_ ?_
                  · refine fr_chk (fun _ => ?_)
                    exact fr_some (by assumption)
                  · exact fr_some (by assumption)
          · exact fr_some (by assumption)
  exact key s sm_refl
def W_X10_lent (c i : Nat) : Prop := W_X10_isLetter c i ∨ W_X10_in c i ∨ W_X10_tried c i
theorem fr_X10_lent (N : Nat) (x1 : Int32) (x2 : Int32) (x3 : Int32) (s : Mem) : Fr W_X10_lent s (f_X10_lent N x1 x2 x3 s) := by
  have key : ∀ s0 : Mem, Sm W_X10_lent s0 s → Fr W_X10_lent s0 (f_X10_lent N x1 x2 x3 s) := by
    intro s0 hm
    unfold f_X10_lent
    refine fr_call (fr_X10_isLetter _ _ _) (fun c i h => Or.inl h) (by assumption) (fun _ _ _ => ?_)
    refine fr_ite ?_ ?_
    · exact fr_some (by assumption)
    · refine fr_call (fr_X10_in _ _ _ _ _) (fun c i h => Or.inr (Or.inl h)) (by assumption) (fun _ _ _ => ?_)
      refine fr_ite ?_ ?_
      · exact fr_some (by assumption)
      · refine fr_call (fr_X10_in _ _ _ _ _) (fun c i h => Or.inr (Or.inl h)) (by assumption) (fun _ _ _ => ?_)
        refine fr_ite ?_ ?_
        · exact fr_some (by assumption)
        · refine fr_call (fr_X10_tried _ _ _ _) (fun c i h => Or.inr (Or.inr h)) (by assumption) (fun _ _ _ => ?_)
          refine fr_lt ?_
          refine fr_lt ?_
          refine fr_ite ?_ ?_
          · exact fr_some (by assumption)
          · exact fr_some (by assumption)
  exact key s sm_refl
def W_X10_seed (c i : Nat) : Prop := W_X10_in c i ∨ c = 1
theorem fr_X10_seed (N : Nat) (x1 : Int32) (s : Mem) : Fr W_X10_seed s (f_X10_seed N x1 s) := by
  have key : ∀ s0 : Mem, Sm W_X10_seed s0 s → Fr W_X10_seed s0 (f_X10_seed N x1 s) := by
    intro s0 hm
    unfold f_X10_seed
    refine fr_call (fr_X10_in _ _ _ _ _) (fun c i h => Or.inl h) (by assumption) (fun _ _ _ => ?_)
    refine fr_ite ?_ ?_
    · exact fr_some (by assumption)
    · refine fr_chk (fun _ => ?_)
      refine fr_si (by assumption) (Or.inr rfl) (fun _ _ => ?_)
      exact fr_some (by assumption)
  exact key s sm_refl
def W_X10_keep (c i : Nat) : Prop := (c = 0 ∧ i = 55) ∨ W_X10_copies 3 c i
theorem fr_X10_keep (N : Nat) (s : Mem) : Fr W_X10_keep s (f_X10_keep N s) := by
  have key : ∀ s0 : Mem, Sm W_X10_keep s0 s → Fr W_X10_keep s0 (f_X10_keep N s) := by
    intro s0 hm
    unfold f_X10_keep
    refine fr_si (by assumption) (Or.inl ⟨rfl, rfl⟩) (fun _ _ => ?_)
    refine fr_call (fr_X10_copies _ _ _ _) (fun c i h => Or.inr h) (by assumption) (fun _ _ _ => ?_)
    refine fr_chk (fun _ => ?_)
    exact fr_some (by assumption)
  exact key s sm_refl
def W_X10_undo (c i : Nat) : Prop := W_X10_copies 1 c i ∨ c = 1
theorem fr_X10_undo (N : Nat) (s : Mem) : Fr W_X10_undo s (f_X10_undo N s) := by
  have key : ∀ s0 : Mem, Sm W_X10_undo s0 s → Fr W_X10_undo s0 (f_X10_undo N s) := by
    intro s0 hm
    unfold f_X10_undo
    refine fr_ite ?_ ?_
    · exact fr_some (by assumption)
    · refine fr_chk (fun _ => ?_)
      refine fr_lt ?_
      refine fr_call (fr_X10_copies _ _ _ _) (fun c i h => Or.inl h) (by assumption) (fun _ _ _ => ?_)
      refine fr_chk (fun _ => ?_)
      refine fr_si (by assumption) (Or.inr rfl) (fun _ _ => ?_)
      exact fr_some (by assumption)
  exact key s sm_refl
def W_X10_check (c i : Nat) : Prop := W_X10_in c i ∨ (c = 0 ∧ i = 5) ∨ W_X10_octet c i ∨ W_X10_isParish c i
theorem frst_X10_check_28 {s0 : Mem} {N : Nat} {x1 : Int32} {rec : Int32 → Mem → Option (Int32 × Mem)}   (ih : ∀ (y0 : Int32) (y1 : Mem), Sm W_X10_check s0 y1 → Fr W_X10_check s0 (rec y0 y1)) : ∀ (x2 : Int32) (s : Mem), Sm W_X10_check s0 s → Fr W_X10_check s0 (st_X10_check_28 N x1 rec x2 s) := by
  intro x2 s hm
  unfold st_X10_check_28
  refine fr_ite ?_ ?_
  · exact fr_some (by assumption)
  · refine fr_call (fr_X10_octet _ _ _) (fun c i h => Or.inr (Or.inr (Or.inl h))) (by assumption) (fun _ _ _ => ?_)
    refine fr_call (fr_X10_isParish _ _ _) (fun c i h => Or.inr (Or.inr (Or.inr h))) (by assumption) (fun _ _ _ => ?_)
    refine fr_join (fun j => ∀ (t9 : Int32) (s8 : Mem), Sm W_X10_check s0 s8 → Fr W_X10_check s0 (j t9 s8)) (fun t9 s8 hm => ?_) (fun j58 hj58 => ?_)
    · refine fr_ite ?_ ?_
      · refine fr_lt ?_
        exact ih _ _ (by assumption)
      · exact fr_some (by assumption)
    · refine fr_ite ?_ ?_
      · exact hj58 _ _ (by assumption)
      · refine fr_chk (fun _ => ?_)
        exact hj58 _ _ (by assumption)
theorem fr_X10_check (N : Nat) (x1 : Int32) (s : Mem) : Fr W_X10_check s (f_X10_check N x1 s) := by
  have key : ∀ s0 : Mem, Sm W_X10_check s0 s → Fr W_X10_check s0 (f_X10_check N x1 s) := by
    intro s0 hm
    unfold f_X10_check
    refine fr_call (fr_X10_in _ _ _ _ _) (fun c i h => Or.inl h) (by assumption) (fun _ _ _ => ?_)
    refine fr_ite ?_ ?_
    · exact fr_some (by assumption)
    · refine fr_ite ?_ ?_
      · refine fr_si (by assumption) (Or.inr (Or.inl ⟨rfl, rfl⟩)) (fun _ _ => ?_)
        refine itr_ind (Q := fun (f : Int32 → Mem → Option (Int32 × Mem)) => ∀ y0 s, Sm W_X10_check s0 s → Fr W_X10_check s0 (f y0 s)) (fun _ _ _ => fr_none) (fun _ ih28 => ?_) N _ _ (by assumption)
        refine frst_X10_check_28   ih28
      · exact fr_some (by assumption)
  exact key s sm_refl
def W_X10_count (c i : Nat) : Prop := W_X10_in c i
theorem frst_X10_count_131 {s0 : Mem} {N : Nat} {rec : Int32 → Int32 → Mem → Option (Int32 × Mem)}   (ih : ∀ (y0 : Int32) (y1 : Int32) (y2 : Mem), Sm W_X10_count s0 y2 → Fr W_X10_count s0 (rec y0 y1 y2)) : ∀ (x2 : Int32) (x3 : Int32) (s : Mem), Sm W_X10_count s0 s → Fr W_X10_count s0 (st_X10_count_131 N rec x2 x3 s) := by
  intro x2 x3 s hm
  unfold st_X10_count_131
  refine fr_ite ?_ ?_
  · exact fr_some (by assumption)
  · refine fr_chk (fun _ => ?_)
    refine fr_ite ?_ ?_
    · refine fr_lt ?_
      refine fr_lt ?_
      exact ih _ _ _ (by assumption)
    · refine fr_lt ?_
      refine fr_lt ?_
      exact ih _ _ _ (by assumption)
theorem fr_X10_count (N : Nat) (x1 : Int32) (s : Mem) : Fr W_X10_count s (f_X10_count N x1 s) := by
  have key : ∀ s0 : Mem, Sm W_X10_count s0 s → Fr W_X10_count s0 (f_X10_count N x1 s) := by
    intro s0 hm
    unfold f_X10_count
    refine fr_ite ?_ ?_
    · refine fr_chk (fun _ => ?_)
      exact fr_some (by assumption)
    · refine fr_ite ?_ ?_
      · refine fr_chk (fun _ => ?_)
        exact fr_some (by assumption)
      · refine fr_ite ?_ ?_
        · refine fr_chk (fun _ => ?_)
          exact fr_some (by assumption)
        · refine fr_ite ?_ ?_
          · refine fr_chk (fun _ => ?_)
            exact fr_some (by assumption)
          · refine fr_ite ?_ ?_
            · refine fr_chk (fun _ => ?_)
              exact fr_some (by assumption)
            · refine fr_ite ?_ ?_
              · refine fr_chk (fun _ => ?_)
                exact fr_some (by assumption)
              · refine fr_ite ?_ ?_
                · exact fr_some (by assumption)
                · refine fr_ite ?_ ?_
                  · exact fr_some (by assumption)
                  · refine fr_ite ?_ ?_
                    · refine fr_chk (fun _ => ?_)
                      exact fr_some (by assumption)
                    · refine fr_ite ?_ ?_
                      · refine itr_ind (Q := fun (f : Int32 → Int32 → Mem → Option (Int32 × Mem)) => ∀ y0 y1 s, Sm W_X10_count s0 s → Fr W_X10_count s0 (f y0 y1 s)) (fun _ _ _ _ => fr_none) (fun _ ih131 => ?_) N _ _ _ (by assumption)
                        refine frst_X10_count_131   ih131
                      · refine fr_call (fr_X10_in _ _ _ _ _) (fun c i h => h) (by assumption) (fun _ _ _ => ?_)
                        refine fr_ite ?_ ?_
                        · exact fr_some (by assumption)
                        · refine fr_chk (fun _ => ?_)
                          refine fr_ite ?_ ?_
                          · exact fr_some (by assumption)
                          · refine fr_chk (fun _ => ?_)
                            exact fr_some (by assumption)
  exact key s sm_refl
