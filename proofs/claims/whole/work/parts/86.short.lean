/-! ways are short -/
theorem up3_col {W : Wm} {b : Nat} (h : W b b = some 0) (p q p' : Nat) : up3 W b p q p' b = W p' b := by
  unfold up3
  by_cases z : p' = p ∧ b = q
  · rw [if_pos z, ← z.1, ← z.2, h, oadd_0]
  · rw [if_neg z]
theorem up3_row {W : Wm} {b : Nat} (h : W b b = some 0) (p q q' : Nat) : up3 W b p q b q' = W b q' := by
  unfold up3
  by_cases z : b = p ∧ q' = q
  · rw [if_pos z, ← z.1, ← z.2, h, oadd_0']
  · rw [if_neg z]
theorem fwq_at {b p : Nat} : ∀ (u q0 : Nat) (W : Wm), W b b = some 0 → ∀ p' q', fld (fun q W => up3 W b p q) u q0 W p' q' = if p' = p ∧ q0 ≤ q' ∧ q' < q0 + u then omin (W p' q') (oadd (W p' b) (W b q')) else W p' q'
  | 0, q0, W, _, p', q' => by
    rw [if_neg (by omega)]
    rfl
  | u + 1, q0, W, h, p', q' => by
    show fld (fun q W => up3 W b p q) u (q0 + 1) (up3 W b p q0) p' q' = _
    rw [fwq_at u (q0 + 1) (up3 W b p q0) ((up3_col h p q0 b).trans h) p' q', up3_col h, up3_row h]
    by_cases z : p' = p ∧ q' = q0
    · rw [if_neg (by omega), if_pos (by omega)]
      unfold up3
      rw [if_pos z, z.1, z.2]
    · have : up3 W b p q0 p' q' = W p' q' := if_neg z
      rw [this]
      by_cases y : p' = p ∧ q0 + 1 ≤ q' ∧ q' < q0 + 1 + u
      · rw [if_pos y, if_pos (by omega)]
      · rw [if_neg y, if_neg (by omega)]
theorem fwp_at {b : Nat} : ∀ (u p0 : Nat) (W : Wm), W b b = some 0 → ∀ p' q', fld (fun p W => fwq b p W) u p0 W p' q' = if (p0 ≤ p' ∧ p' < p0 + u) ∧ q' < 12 then omin (W p' q') (oadd (W p' b) (W b q')) else W p' q'
  | 0, p0, W, _, p', q' => by
    rw [if_neg (by omega)]
    rfl
  | u + 1, p0, W, h, p', q' => by
    have e : ∀ p' q', fwq b p0 W p' q' = if p' = p0 ∧ 0 ≤ q' ∧ q' < 0 + 12 then omin (W p' q') (oadd (W p' b) (W b q')) else W p' q' := fun p' q' => fwq_at 12 0 W h p' q'
    have ec : ∀ p', fwq b p0 W p' b = W p' b := fun p' => by
      rw [e]
      by_cases z : p' = p0 ∧ 0 ≤ b ∧ b < 0 + 12
      · rw [if_pos z, h, oadd_0]
      · rw [if_neg z]
    have er : ∀ q', fwq b p0 W b q' = W b q' := fun q' => by
      rw [e]
      by_cases z : b = p0 ∧ 0 ≤ q' ∧ q' < 0 + 12
      · rw [if_pos z, h, oadd_0']
      · rw [if_neg z]
    show fld (fun p W => fwq b p W) u (p0 + 1) (fwq b p0 W) p' q' = _
    rw [fwp_at u (p0 + 1) (fwq b p0 W) ((ec b).trans h) p' q', ec, er, e]
    by_cases z : p' = p0
    · rw [if_neg (by omega)]
      by_cases y : q' < 12
      · rw [if_pos (by omega), if_pos (by omega)]
      · rw [if_neg (by omega), if_neg (by omega)]
    · rw [if_neg (show ¬ (p' = p0 ∧ 0 ≤ q' ∧ q' < 0 + 12) from fun x => z x.1)]
      by_cases y : (p0 + 1 ≤ p' ∧ p' < p0 + 1 + u) ∧ q' < 12
      · rw [if_pos y, if_pos (by omega)]
      · rw [if_neg y, if_neg (by omega)]
theorem fwp_eq {b p q : Nat} {W : Wm} (h : W b b = some 0) (hp : p < 12) (hq : q < 12) : fwp b W p q = omin (W p q) (oadd (W p b) (W b q)) := by
  show fld (fun p W => fwq b p W) 12 0 W p q = _
  rw [fwp_at 12 0 W h p q, if_pos (by omega)]
/-- how many of the first n -/
def cB (A : Nat → Bool) : Nat → Nat
  | 0 => 0
  | n + 1 => cB A n + if A n = true then 1 else 0
theorem cB_le (A : Nat → Bool) : ∀ n, cB A n ≤ n
  | 0 => Nat.le_refl _
  | n + 1 => by
    have := cB_le A n
    show cB A n + (if A n = true then 1 else 0) ≤ n + 1
    by_cases z : A n = true
    · rw [if_pos z]; omega
    · rw [if_neg z]; omega
theorem cB_eq {A A' : Nat → Bool} : ∀ n, (∀ x, x < n → A' x = A x) → cB A' n = cB A n
  | 0, _ => rfl
  | n + 1, h => by
    show cB A' n + (if A' n = true then 1 else 0) = cB A n + (if A n = true then 1 else 0)
    rw [cB_eq n (fun x hx => h x (by omega)), h n (by omega)]
theorem cB_or {A1 A2 : Nat → Bool} : ∀ n, (∀ x, x < n → A1 x = true → A2 x = true → False) → cB (fun x => A1 x || A2 x) n = cB A1 n + cB A2 n
  | 0, _ => rfl
  | n + 1, h => by
    show cB (fun x => A1 x || A2 x) n + (if (A1 n || A2 n) = true then 1 else 0) = cB A1 n + (if A1 n = true then 1 else 0) + (cB A2 n + (if A2 n = true then 1 else 0))
    rw [cB_or n (fun x hx => h x (by omega))]
    have hn := h n (by omega)
    cases z1 : A1 n <;> cases z2 : A2 n
    · simp
    · simp; omega
    · simp; omega
    · exact absurd (hn z1 z2) (fun x => x)
/-- reached -/
abbrev Rc (W : Wm) (p q : Nat) : Prop := ¬ W p q = none
theorem om_rc {a o : Option Nat} : ¬ omin a o = none ↔ (¬ a = none ∨ ¬ o = none) := by
  cases a <;> cases o <;> simp [omin]
theorem oa_rc {a o : Option Nat} : ¬ oadd a o = none ↔ (¬ a = none ∧ ¬ o = none) := by
  cases a <;> cases o <;> simp [oadd]
def Sh (b : Nat) (W : Wm) : Prop := (∀ p, p < 12 → W p p = some 0) ∧ (∀ x p q, x < b → x < 12 → p < 12 → q < 12 → Rc W p x → Rc W x q → Rc W p q) ∧ ∀ p q d, p < 12 → q < 12 → W p q = some d → ∃ A : Nat → Bool, d ≤ 99 * (cB A b + 1) ∧ ∀ x, x < b → A x = true → Rc W p x ∧ Rc W x q
theorem Sh_step {b : Nat} {W : Wm} (hb' : b < 12) (h : Sh b W) : Sh (b + 1) (fwp b W) := by
  obtain ⟨h1, h2, h3⟩ := h
  have e : ∀ p q, p < 12 → q < 12 → fwp b W p q = omin (W p q) (oadd (W p b) (W b q)) := fun p q hp hq => fwp_eq (h1 b hb') hp hq
  have rc : ∀ p q, p < 12 → q < 12 → (Rc (fwp b W) p q ↔ (Rc W p q ∨ (Rc W p b ∧ Rc W b q))) := fun p q hp hq => by
    unfold Rc
    rw [e p q hp hq, om_rc, oa_rc]
  refine ⟨fun p hp => ?_, fun x p q hx hx12 hp hq r1 r2 => ?_, fun p q d hp hq hd => ?_⟩
  · rw [e p p hp hp, h1 p hp, omin_0]
  · rw [rc p x hp hx12] at r1
    rw [rc x q hx12 hq] at r2
    rw [rc p q hp hq]
    by_cases z : x = b
    · subst z
      exact Or.inr ⟨r1.elim id (fun y => y.1), r2.elim id (fun y => y.2)⟩
    · have hxb : x < b := by omega
      rcases r1 with r1 | ⟨r1, r1'⟩
      · rcases r2 with r2 | ⟨r2, r2'⟩
        · exact Or.inl (h2 x p q hxb hx12 hp hq r1 r2)
        · exact Or.inr ⟨h2 x p b hxb hx12 hp hb' r1 r2, r2'⟩
      · rcases r2 with r2 | ⟨r2, r2'⟩
        · exact Or.inr ⟨r1, h2 x b q hxb hx12 hb' hq r1' r2⟩
        · exact Or.inr ⟨r1, r2'⟩
  · rw [e p q hp hq] at hd
    cases hw : W p q with
    | some d0 =>
      obtain ⟨A, a1, a2⟩ := h3 p q d0 hp hq hw
      refine ⟨fun x => if x = b then false else A x, ?_, fun x hx hA => ?_⟩
      · have c1 : cB (fun x => if x = b then false else A x) (b + 1) = cB A b := by
          show cB (fun x => if x = b then false else A x) b + (if (if b = b then false else A b) = true then 1 else 0) = cB A b
          rw [cB_eq (A := A) b (fun x hx => if_neg (by omega)), if_pos rfl, if_neg (by decide)]
          rfl
        rw [c1]
        have : d ≤ d0 := by
          rw [hw] at hd
          cases ho : oadd (W p b) (W b q) with
          | none =>
            rw [ho] at hd
            have := Option.some.inj (show some d0 = some d from hd)
            omega
          | some y =>
            rw [ho] at hd
            have := Option.some.inj (show some (min d0 y) = some d from hd)
            omega
        omega
      · by_cases z : x = b
        · have hA' : (if x = b then false else A x) = true := hA
          rw [if_pos z] at hA'
          cases hA'
        · have hA' : (if x = b then false else A x) = true := hA
          rw [if_neg z] at hA'
          obtain ⟨r1, r2⟩ := a2 x (by omega) hA'
          exact ⟨(rc p x hp (by omega)).mpr (Or.inl r1), (rc x q (by omega) hq).mpr (Or.inl r2)⟩
    | none =>
      rw [hw] at hd
      obtain ⟨d1, d2, e1, e2, rfl⟩ := oadd_some (show oadd (W p b) (W b q) = some d from hd)
      obtain ⟨A1, a1, a2⟩ := h3 p b d1 hp hb' e1
      obtain ⟨A2, b1, b2⟩ := h3 b q d2 hb' hq e2
      have rp : Rc W p b := fun y => by rw [e1] at y; cases y
      have rq : Rc W b q := fun y => by rw [e2] at y; cases y
      refine ⟨fun x => if x = b then true else (A1 x || A2 x), ?_, fun x hx hA => ?_⟩
      · have c1 : cB (fun x => if x = b then true else (A1 x || A2 x)) (b + 1) = cB A1 b + cB A2 b + 1 := by
          show cB (fun x => if x = b then true else (A1 x || A2 x)) b + (if (if b = b then true else (A1 b || A2 b)) = true then 1 else 0) = _
          rw [cB_eq (A := fun x => A1 x || A2 x) b (fun x hx => if_neg (by omega)), cB_or b (fun x hx x1 x2 => h2 x p q hx (by omega) hp hq (a2 x hx x1).1 (b2 x hx x2).2 hw), if_pos rfl, if_pos rfl]
        rw [c1]
        omega
      · have hA' : (if x = b then true else (A1 x || A2 x)) = true := hA
        by_cases z : x = b
        · subst z
          exact ⟨(rc p x hp hb').mpr (Or.inl rp), (rc x q hb' hq).mpr (Or.inl rq)⟩
        · rw [if_neg z, Bool.or_eq_true] at hA'
          rcases hA' with y | y
          · obtain ⟨r1, r2⟩ := a2 x (by omega) y
            exact ⟨(rc p x hp (by omega)).mpr (Or.inl r1), (rc x q (by omega) hq).mpr (Or.inr ⟨r2, rq⟩)⟩
          · obtain ⟨r1, r2⟩ := b2 x (by omega) y
            exact ⟨(rc p x hp (by omega)).mpr (Or.inr ⟨rp, r1⟩), (rc x q (by omega) hq).mpr (Or.inl r2)⟩
theorem Sh_fold : ∀ (u b : Nat) (W : Wm), b + u = 12 → Sh b W → Sh 12 (fld (fun b W => fwp b W) u b W)
  | 0, b, W, h, hS => by
    obtain rfl : b = 12 := by omega
    exact hS
  | u + 1, b, W, h, hS => Sh_fold u (b + 1) (fwp b W) (by omega) (Sh_step (by omega) hS)
theorem short {σ τ : Mem} (hp : Rp σ τ) {p q d : Nat} (h1 : p < 12) (h2 : q < 12) (h : fwa (ini τ) p q = some d) : d ≤ 1287 := by
  have g := ini_Gd hp
  have : Sh 12 (fwa (ini τ)) := Sh_fold 12 0 (ini τ) (by omega) ⟨g.2, fun x p q hx => absurd hx (by omega), fun p q d hp hq hd => ⟨fun _ => false, by have := g.1 p q d hp hq hd; show d ≤ 99 * (0 + 1); omega, fun x hx => absurd hx (by omega)⟩⟩
  obtain ⟨A, a1, -⟩ := this.2.2 p q d h1 h2 h
  have := cB_le A 12
  omega
