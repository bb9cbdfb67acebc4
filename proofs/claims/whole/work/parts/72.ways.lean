/-! miles: the shortest ways -/
abbrev Wm : Type := Nat → Nat → Option Nat
def oadd : Option Nat → Option Nat → Option Nat
  | some x, some y => some (x + y)
  | _, _ => none
def omin : Option Nat → Option Nat → Option Nat
  | some x, some y => some (min x y)
  | some x, none => some x
  | none, o => o
def up3 (W : Wm) (b p q : Nat) : Wm := fun p' q' => if p' = p ∧ q' = q then omin (W p q) (oadd (W p b) (W b q)) else W p' q'
def fld {α : Type} (f : Nat → α → α) : Nat → Nat → α → α
  | 0, _, a => a
  | n + 1, i, a => fld f n (i + 1) (f i a)
def fwq (b p : Nat) : Wm → Wm := fld (fun q W => up3 W b p q) 12 0
def fwp (b : Nat) : Wm → Wm := fld (fun p W => fwq b p W) 12 0
def fwa : Wm → Wm := fld (fun b W => fwp b W) 12 0
def eC : Option Nat → Int32
  | some d => nI d
  | none => nI 1000000
def eM : Option Nat → Int32
  | some d => nI d
  | none => nI 100000000
def Good (b B : Nat) (W : Wm) : Prop := (∀ p q d, p < 12 → q < 12 → W p q = some d → d ≤ 2 * B) ∧ (∀ p d, p < 12 → (W p b = some d ∨ W b p = some d) → d ≤ B) ∧ ∀ p, p < 12 → W p p = some 0
theorem omin_le {a o : Option Nat} {d D : Nat} (h : omin a o = some d) (h1 : ∀ x, a = some x → x ≤ D) (h2 : ∀ x, o = some x → x ≤ D) : d ≤ D := by
  cases a with
  | none => exact h2 d h
  | some x =>
    cases o with
    | none =>
      rw [← Option.some.inj (show some x = some d from h)]
      exact h1 x rfl
    | some y =>
      rw [← Option.some.inj (show some (min x y) = some d from h)]
      have := h1 x rfl
      have := Nat.min_le_left x y
      omega
theorem oadd_some {a b : Option Nat} {d : Nat} (h : oadd a b = some d) : ∃ x y, a = some x ∧ b = some y ∧ d = x + y := by
  cases a with
  | none => cases h
  | some x =>
    cases b with
    | none => cases h
    | some y =>
      exact ⟨x, y, rfl, rfl, (Option.some.inj (show some (x + y) = some d from h)).symm⟩
theorem omin_0 (o : Option Nat) : omin (some 0) o = some 0 := by
  cases o with
  | none => rfl
  | some y =>
    show some (min 0 y) = some 0
    rw [Nat.zero_min]
theorem oadd_0 (a : Option Nat) : omin a (oadd a (some 0)) = a := by
  cases a with
  | none => rfl
  | some x =>
    show some (min x (x + 0)) = some x
    rw [Nat.add_zero, Nat.min_self]
theorem oadd_0' (a : Option Nat) : omin a (oadd (some 0) a) = a := by
  cases a with
  | none => rfl
  | some x =>
    show some (min x (0 + x)) = some x
    rw [Nat.zero_add, Nat.min_self]
theorem Good.up {b B p q : Nat} {W : Wm} (hb : b < 12) (hp : p < 12) (hq : q < 12) (h : Good b B W) : Good b B (up3 W b p q) := by
  obtain ⟨h1, h2, h3⟩ := h
  have key : ∀ p' q', p' < 12 → q' < 12 → (p' = b ∨ q' = b) → up3 W b p q p' q' = W p' q' := by
    intro p' q' hp' hq' hc
    unfold up3
    by_cases e : p' = p ∧ q' = q
    · rw [if_pos e]
      obtain ⟨rfl, rfl⟩ := e
      rcases hc with rfl | rfl
      · rw [h3 p' hp', oadd_0']
      · rw [h3 q' hq', oadd_0]
    · rw [if_neg e]
  refine ⟨fun p' q' d hp' hq' he => ?_, fun p' d hp' he => ?_, fun p' hp' => ?_⟩
  · unfold up3 at he
    by_cases e : p' = p ∧ q' = q
    · rw [if_pos e] at he
      refine omin_le he (fun x hx => h1 p q x hp hq hx) (fun x hx => ?_)
      obtain ⟨y, z, hy, hz, rfl⟩ := oadd_some hx
      have := h2 p y hp (Or.inl hy)
      have := h2 q z hq (Or.inr hz)
      omega
    · rw [if_neg e] at he
      exact h1 p' q' d hp' hq' he
  · rw [key p' b hp' hb (Or.inr rfl), key b p' hb hp' (Or.inl rfl)] at he
    exact h2 p' d hp' he
  · unfold up3
    by_cases e : p' = p ∧ p' = q
    · rw [if_pos e, ← e.1, ← e.2, h3 p' hp', omin_0]
    · rw [if_neg e]; exact h3 p' hp'
theorem eC_min {a b c : Option Nat} (ha : ∀ x, a = some x → x ≤ 405504) (hb : ∀ x, b = some x → x ≤ 202752) (hc : ∀ x, c = some x → x ≤ 202752) : imin (eC a) (eC b + eC c) = eC (omin a (oadd b c)) := by
  cases a with
  | none =>
    cases b with
    | none =>
      cases c with
      | none => decide
      | some z =>
        have := hc z rfl
        show imin (nI 1000000) (nI 1000000 + nI z) = nI 1000000
        rw [nI_add, e_iminN _ _ (by omega) (by omega), Nat.min_eq_left (by omega)]
    | some y =>
      have := hb y rfl
      cases c with
      | none =>
        show imin (nI 1000000) (nI y + nI 1000000) = nI 1000000
        rw [nI_add, e_iminN _ _ (by omega) (by omega), Nat.min_eq_left (by omega)]
      | some z =>
        have := hc z rfl
        show imin (nI 1000000) (nI y + nI z) = nI (y + z)
        rw [nI_add, e_iminN _ _ (by omega) (by omega), Nat.min_eq_right (by omega)]
  | some x =>
    have := ha x rfl
    cases b with
    | none =>
      cases c with
      | none =>
        show imin (nI x) (nI 1000000 + nI 1000000) = nI x
        rw [nI_add, e_iminN _ _ (by omega) (by omega), Nat.min_eq_left (by omega)]
      | some z =>
        have := hc z rfl
        show imin (nI x) (nI 1000000 + nI z) = nI x
        rw [nI_add, e_iminN _ _ (by omega) (by omega), Nat.min_eq_left (by omega)]
    | some y =>
      have := hb y rfl
      cases c with
      | none =>
        show imin (nI x) (nI y + nI 1000000) = nI x
        rw [nI_add, e_iminN _ _ (by omega) (by omega), Nat.min_eq_left (by omega)]
      | some z =>
        have := hc z rfl
        show imin (nI x) (nI y + nI z) = nI (min x (y + z))
        rw [nI_add, e_iminN _ _ (by omega) (by omega)]
theorem eM_min (N : Nat) (s : Mem) {a b c : Option Nat} (ha : ∀ x, a = some x → x ≤ 405504) (hb : ∀ x, b = some x → x ≤ 202752) (hc : ∀ x, c = some x → x ≤ 202752) : f_X10_min N (eM a) (eM b + eM c) s = some (eM (omin a (oadd b c)), s) := by
  cases a with
  | none =>
    cases b with
    | none =>
      cases c with
      | none =>
        show f_X10_min N (nI 100000000) (nI 100000000 + nI 100000000) s = some (nI 100000000, s)
        rw [nI_add, e_minM N _ _ (by omega) (by omega), Nat.min_eq_left (by omega)]
      | some z =>
        have := hc z rfl
        show f_X10_min N (nI 100000000) (nI 100000000 + nI z) s = some (nI 100000000, s)
        rw [nI_add, e_minM N _ _ (by omega) (by omega), Nat.min_eq_left (by omega)]
    | some y =>
      have := hb y rfl
      cases c with
      | none =>
        show f_X10_min N (nI 100000000) (nI y + nI 100000000) s = some (nI 100000000, s)
        rw [nI_add, e_minM N _ _ (by omega) (by omega), Nat.min_eq_left (by omega)]
      | some z =>
        have := hc z rfl
        show f_X10_min N (nI 100000000) (nI y + nI z) s = some (nI (y + z), s)
        rw [nI_add, e_minM N _ _ (by omega) (by omega), Nat.min_eq_right (by omega)]
  | some x =>
    have := ha x rfl
    cases b with
    | none =>
      cases c with
      | none =>
        show f_X10_min N (nI x) (nI 100000000 + nI 100000000) s = some (nI x, s)
        rw [nI_add, e_minM N _ _ (by omega) (by omega), Nat.min_eq_left (by omega)]
      | some z =>
        have := hc z rfl
        show f_X10_min N (nI x) (nI 100000000 + nI z) s = some (nI x, s)
        rw [nI_add, e_minM N _ _ (by omega) (by omega), Nat.min_eq_left (by omega)]
    | some y =>
      have := hb y rfl
      cases c with
      | none =>
        show f_X10_min N (nI x) (nI y + nI 100000000) s = some (nI x, s)
        rw [nI_add, e_minM N _ _ (by omega) (by omega), Nat.min_eq_left (by omega)]
      | some z =>
        have := hc z rfl
        show f_X10_min N (nI x) (nI y + nI z) s = some (nI (min x (y + z)), s)
        rw [nI_add, e_minM N _ _ (by omega) (by omega)]
def FC (W : Wm) (σ : Mem) : Prop := ∀ p q, p < 12 → q < 12 → gi σ (18 + p) q = eC (W p q)
def FM (W : Wm) (τ : Mem) : Prop := ∀ p q, p < 12 → q < 12 → gi τ 25 (12 * p + q) = eM (W p q)
def Kw (σ σ' : Mem) : Prop := ∀ c i, ¬ (18 ≤ c ∧ c < 30) → gi σ' c i = gi σ c i
def Kz (τ τ' : Mem) : Prop := ∀ c i, ¬ c = 25 → gi τ' c i = gi τ c i
theorem Kw.tr {σ σ1 σ2 : Mem} (h : Kw σ σ1) (h1 : Kw σ1 σ2) : Kw σ σ2 := fun c i z => (h1 c i z).trans (h c i z)
theorem Kz.tr {τ τ1 τ2 : Mem} (h : Kz τ τ1) (h1 : Kz τ1 τ2) : Kz τ τ2 := fun c i z => (h1 c i z).trans (h c i z)
-- the class
theorem lp_cq (N : Nat) {b p B : Nat} (hb : b < 12) (hp : p < 12) (hB : B ≤ 202752) (K : Mem → Option (Unit × Mem)) : ∀ (u q M : Nat) (σ : Mem) (W : Wm), q + u = 12 → u < M → Good b B W → FC W σ → ∃ σ', itr (fun _ _ => none) (st_X3_findWays_87 N (nI b) (nI p) K) M (nI q) σ = K σ' ∧ Good b B (fld (fun q W => up3 W b p q) u q W) ∧ FC (fld (fun q W => up3 W b p q) u q W) σ' ∧ Kw σ σ'
  | u, q, 0, σ, W, _, h2, _, _ => absurd h2 (by omega)
  | 0, q, M + 1, σ, W, h1, _, hG, hF => by
    refine ⟨σ, ?_, hG, hF, fun _ _ _ => rfl⟩
    show st_X3_findWays_87 N (nI b) (nI p) K _ (nI q) σ = _
    unfold st_X3_findWays_87
    rw [if_pos (show (12 : Int32) ≤ nI q from nI_le (a := 12) (by omega) (by omega))]
  | u + 1, q, M + 1, σ, W, h1, h2, hG, hF => by
    have hq : q < 12 := by omega
    have e : itr (fun _ _ => none) (st_X3_findWays_87 N (nI b) (nI p) K) (M + 1) (nI q) σ = itr (fun _ _ => none) (st_X3_findWays_87 N (nI b) (nI p) K) M (nI (q + 1)) (si σ (18 + p) q (eC (omin (W p q) (oadd (W p b) (W b q))))) := by
      show st_X3_findWays_87 N (nI b) (nI p) K _ (nI q) σ = _
      generalize itr (fun _ _ => none) (st_X3_findWays_87 N (nI b) (nI p) K) M = rec
      unfold st_X3_findWays_87
      have i1 : ix (nI q) = q := ix_n (by omega)
      have i2 : ix (nI p) = p := ix_n (by omega)
      have i3 : ix (nI b) = b := ix_n (by omega)
      have c1 : ∀ {α : Type} (e : Option α), chk (nI q) 12 e = e := fun e => chk_n hq (by decide)
      have c2 : ∀ {α : Type} (e : Option α), chk (nI p) 12 e = e := fun e => chk_n hp (by decide)
      have c3 : ∀ {α : Type} (e : Option α), chk (nI b) 12 e = e := fun e => chk_n hb (by decide)
      simp only [lt_p, nI_1, i1, i2, i3, c1, c2, c3]
      rw [if_neg (show ¬ (12 : Int32) ≤ nI q from nI_ge (b := 12) hq (by decide)), show 17 + 1 + p = 18 + p by omega, show 17 + 1 + b = 18 + b by omega, hF p q hp hq, hF p b hp hb, hF b q hb hq, eC_min (fun x hx => by have := hG.1 p q x hp hq hx; omega) (fun x hx => by have := hG.2.1 p x hp (Or.inl hx); omega) (fun x hx => by have := hG.2.1 q x hq (Or.inr hx); omega)]
    obtain ⟨σ', r1, r2, r3, r4⟩ := lp_cq N hb hp hB K u (q + 1) M (si σ (18 + p) q (eC (omin (W p q) (oadd (W p b) (W b q))))) (up3 W b p q) (by omega) (by omega) (hG.up hb hp hq) (fun p' q' hp' hq' => by
      unfold up3
      rw [gi_si]
      by_cases z : p' = p ∧ q' = q
      · rw [if_pos (by omega), if_pos z]
      · rw [if_neg (by omega), if_neg z]; exact hF p' q' hp' hq')
    exact ⟨σ', e.trans r1, r2, r3, fun c i z => by rw [r4 c i z, gi_ne (by omega)]⟩
theorem lp_cp (N : Nat) (hN : 300 ≤ N) {b B : Nat} (hb : b < 12) (hB : B ≤ 202752) (K : Mem → Option (Unit × Mem)) : ∀ (u p M : Nat) (σ : Mem) (W : Wm), p + u = 12 → u < M → Good b B W → FC W σ → ∃ σ', itr (fun _ _ => none) (st_X3_findWays_79 N (nI b) K) M (nI p) σ = K σ' ∧ Good b B (fld (fun p W => fwq b p W) u p W) ∧ FC (fld (fun p W => fwq b p W) u p W) σ' ∧ Kw σ σ'
  | u, p, 0, σ, W, _, h2, _, _ => absurd h2 (by omega)
  | 0, p, M + 1, σ, W, h1, _, hG, hF => by
    refine ⟨σ, ?_, hG, hF, fun _ _ _ => rfl⟩
    show st_X3_findWays_79 N (nI b) K _ (nI p) σ = _
    unfold st_X3_findWays_79
    rw [if_pos (show (12 : Int32) ≤ nI p from nI_le (a := 12) (by omega) (by omega))]
  | u + 1, p, M + 1, σ, W, h1, h2, hG, hF => by
    have hp : p < 12 := by omega
    obtain ⟨σ1, a1, a2, a3, a4⟩ := lp_cq N hb hp hB (fun s19 => lt (nI p + 1) (fun x2_20 => itr (fun _ _ => none) (st_X3_findWays_79 N (nI b) K) M x2_20 s19)) 12 0 N σ W (by omega) (by omega) hG hF
    have e : itr (fun _ _ => none) (st_X3_findWays_79 N (nI b) K) (M + 1) (nI p) σ = itr (fun _ _ => none) (st_X3_findWays_79 N (nI b) K) M (nI (p + 1)) σ1 := by
      show st_X3_findWays_79 N (nI b) K _ (nI p) σ = _
      rw [← nI_1 p]
      revert a1
      generalize itr (fun _ _ => none) (st_X3_findWays_79 N (nI b) K) M = rec
      intro a1
      unfold st_X3_findWays_79
      rw [if_neg (show ¬ (12 : Int32) ≤ nI p from nI_ge (b := 12) hp (by decide))]
      exact a1
    obtain ⟨σ', r1, r2, r3, r4⟩ := lp_cp N hN hb hB K u (p + 1) M σ1 (fwq b p W) (by omega) (by omega) a2 a3
    exact ⟨σ', e.trans r1, r2, r3, a4.tr r4⟩
def Gd (B : Nat) (W : Wm) : Prop := (∀ p q d, p < 12 → q < 12 → W p q = some d → d ≤ B) ∧ ∀ p, p < 12 → W p p = some 0
theorem Gd.g {B b : Nat} {W : Wm} (h : Gd B W) (hb : b < 12) : Good b B W := ⟨fun p q d hp hq he => by have := h.1 p q d hp hq he; omega, fun p d hp he => he.elim (fun he => h.1 p b d hp hb he) (fun he => h.1 b p d hb hp he), h.2⟩
theorem Good.gd {B b : Nat} {W : Wm} (h : Good b B W) : Gd (2 * B) W := ⟨h.1, h.2.2⟩
theorem lp_cb (N : Nat) (hN : 300 ≤ N) : ∀ (u b M B : Nat) (σ : Mem) (W : Wm), b + u = 12 → u < M → B * 2 ^ u ≤ 405504 → Gd B W → FC W σ → ∃ σ', itr (fun _ _ => none) (st_X3_findWays_71 N) M (nI b) σ = some ((), σ') ∧ Gd 405504 (fld (fun b W => fwp b W) u b W) ∧ FC (fld (fun b W => fwp b W) u b W) σ' ∧ Kw σ σ'
  | u, b, 0, B, σ, W, _, h2, _, _, _ => absurd h2 (by omega)
  | 0, b, M + 1, B, σ, W, h1, _, hBB, hG, hF => by
    refine ⟨σ, ?_, ⟨fun p q d hp hq he => ?_, hG.2⟩, hF, fun _ _ _ => rfl⟩
    · show st_X3_findWays_71 N _ (nI b) σ = _
      unfold st_X3_findWays_71
      rw [if_pos (show (12 : Int32) ≤ nI b from nI_le (a := 12) (by omega) (by omega))]
    · have := hG.1 p q d hp hq he
      rw [Nat.pow_zero] at hBB
      omega
  | u + 1, b, M + 1, B, σ, W, h1, h2, hBB, hG, hF => by
    have hb : b < 12 := by omega
    have h2u : 1 ≤ 2 ^ u := Nat.one_le_two_pow
    have hB1 : 2 * B * 2 ^ u ≤ 405504 := by
      rw [Nat.pow_succ] at hBB
      rw [Nat.mul_comm 2 B, Nat.mul_assoc, Nat.mul_comm 2]
      exact hBB
    have hB2 : B ≤ 202752 := by
      have := Nat.mul_le_mul_left (2 * B) h2u
      omega
    obtain ⟨σ1, a1, a2, a3, a4⟩ := lp_cp N hN hb hB2 (fun s21 => lt (nI b + 1) (fun x1_22 => itr (fun _ _ => none) (st_X3_findWays_71 N) M x1_22 s21)) 12 0 N σ W (by omega) (by omega) (hG.g hb) hF
    have e : itr (fun _ _ => none) (st_X3_findWays_71 N) (M + 1) (nI b) σ = itr (fun _ _ => none) (st_X3_findWays_71 N) M (nI (b + 1)) σ1 := by
      show st_X3_findWays_71 N _ (nI b) σ = _
      rw [← nI_1 b]
      revert a1
      generalize itr (fun _ _ => none) (st_X3_findWays_71 N) M = rec
      intro a1
      unfold st_X3_findWays_71
      rw [if_neg (show ¬ (12 : Int32) ≤ nI b from nI_ge (b := 12) hb (by decide))]
      exact a1
    obtain ⟨σ', r1, r2, r3, r4⟩ := lp_cb N hN u (b + 1) M (2 * B) σ1 (fwp b W) (by omega) (by omega) hB1 a2.gd a3
    exact ⟨σ', e.trans r1, r2, r3, a4.tr r4⟩
-- the reference
theorem lp_mq (N : Nat) {b p B : Nat} (hb : b < 12) (hp : p < 12) (hB : B ≤ 202752) (K : Mem → Option (Unit × Mem)) : ∀ (u q M : Nat) (τ : Mem) (W : Wm), q + u = 12 → u < M → Good b B W → FM W τ → ∃ τ', itr (fun _ _ => none) (st_X10_laysWays_75 N (nI b) (nI p) K) M (nI q) τ = K τ' ∧ Good b B (fld (fun q W => up3 W b p q) u q W) ∧ FM (fld (fun q W => up3 W b p q) u q W) τ' ∧ Kz τ τ'
  | u, q, 0, τ, W, _, h2, _, _ => absurd h2 (by omega)
  | 0, q, M + 1, τ, W, h1, _, hG, hF => by
    refine ⟨τ, ?_, hG, hF, fun _ _ _ => rfl⟩
    show st_X10_laysWays_75 N (nI b) (nI p) K _ (nI q) τ = _
    unfold st_X10_laysWays_75
    rw [if_pos (show (12 : Int32) ≤ nI q from nI_le (a := 12) (by omega) (by omega))]
  | u + 1, q, M + 1, τ, W, h1, h2, hG, hF => by
    have hq : q < 12 := by omega
    have e : itr (fun _ _ => none) (st_X10_laysWays_75 N (nI b) (nI p) K) (M + 1) (nI q) τ = itr (fun _ _ => none) (st_X10_laysWays_75 N (nI b) (nI p) K) M (nI (q + 1)) (si τ 25 (12 * p + q) (eM (omin (W p q) (oadd (W p b) (W b q))))) := by
      show st_X10_laysWays_75 N (nI b) (nI p) K _ (nI q) τ = _
      generalize itr (fun _ _ => none) (st_X10_laysWays_75 N (nI b) (nI p) K) M = rec
      unfold st_X10_laysWays_75
      have j1 : (12 : Int32) * nI p + nI q = nI (12 * p + q) := by rw [li_12, pk_mul, nI_add]
      have j2 : (12 : Int32) * nI p + nI b = nI (12 * p + b) := by rw [li_12, pk_mul, nI_add]
      have j3 : (12 : Int32) * nI b + nI q = nI (12 * b + q) := by rw [li_12, pk_mul, nI_add]
      have i1 : ix (nI (12 * p + q)) = 12 * p + q := ix_n (by omega)
      have i2 : ix (nI (12 * p + b)) = 12 * p + b := ix_n (by omega)
      have i3 : ix (nI (12 * b + q)) = 12 * b + q := ix_n (by omega)
      have c1 : ∀ {α : Type} (e : Option α), chk (nI (12 * p + q)) 144 e = e := fun e => chk_n (by omega) (by decide)
      have c2 : ∀ {α : Type} (e : Option α), chk (nI (12 * p + b)) 144 e = e := fun e => chk_n (by omega) (by decide)
      have c3 : ∀ {α : Type} (e : Option α), chk (nI (12 * b + q)) 144 e = e := fun e => chk_n (by omega) (by decide)
      simp only [lt_p, nI_1, j1, j2, j3, i1, i2, i3, c1, c2, c3]
      rw [if_neg (show ¬ (12 : Int32) ≤ nI q from nI_ge (b := 12) hq (by decide)), hF p q hp hq, hF p b hp hb, hF b q hb hq, eM_min N τ (fun x hx => by have := hG.1 p q x hp hq hx; omega) (fun x hx => by have := hG.2.1 p x hp (Or.inl hx); omega) (fun x hx => by have := hG.2.1 q x hq (Or.inr hx); omega), bd_some]
    obtain ⟨τ', r1, r2, r3, r4⟩ := lp_mq N hb hp hB K u (q + 1) M (si τ 25 (12 * p + q) (eM (omin (W p q) (oadd (W p b) (W b q))))) (up3 W b p q) (by omega) (by omega) (hG.up hb hp hq) (fun p' q' hp' hq' => by
      unfold up3
      rw [gi_si]
      by_cases z : p' = p ∧ q' = q
      · rw [if_pos (by omega), if_pos z]
      · rw [if_neg (by omega), if_neg z]; exact hF p' q' hp' hq')
    exact ⟨τ', e.trans r1, r2, r3, fun c i z => by rw [r4 c i z, gi_ne z]⟩
theorem lp_mp (N : Nat) (hN : 300 ≤ N) {b B : Nat} (hb : b < 12) (hB : B ≤ 202752) (K : Mem → Option (Unit × Mem)) : ∀ (u p M : Nat) (τ : Mem) (W : Wm), p + u = 12 → u < M → Good b B W → FM W τ → ∃ τ', itr (fun _ _ => none) (st_X10_laysWays_67 N (nI b) K) M (nI p) τ = K τ' ∧ Good b B (fld (fun p W => fwq b p W) u p W) ∧ FM (fld (fun p W => fwq b p W) u p W) τ' ∧ Kz τ τ'
  | u, p, 0, τ, W, _, h2, _, _ => absurd h2 (by omega)
  | 0, p, M + 1, τ, W, h1, _, hG, hF => by
    refine ⟨τ, ?_, hG, hF, fun _ _ _ => rfl⟩
    show st_X10_laysWays_67 N (nI b) K _ (nI p) τ = _
    unfold st_X10_laysWays_67
    rw [if_pos (show (12 : Int32) ≤ nI p from nI_le (a := 12) (by omega) (by omega))]
  | u + 1, p, M + 1, τ, W, h1, h2, hG, hF => by
    have hp : p < 12 := by omega
    obtain ⟨τ1, a1, a2, a3, a4⟩ := lp_mq N hb hp hB (fun s12 => lt (nI p + 1) (fun x2_13 => itr (fun _ _ => none) (st_X10_laysWays_67 N (nI b) K) M x2_13 s12)) 12 0 N τ W (by omega) (by omega) hG hF
    have e : itr (fun _ _ => none) (st_X10_laysWays_67 N (nI b) K) (M + 1) (nI p) τ = itr (fun _ _ => none) (st_X10_laysWays_67 N (nI b) K) M (nI (p + 1)) τ1 := by
      show st_X10_laysWays_67 N (nI b) K _ (nI p) τ = _
      rw [← nI_1 p]
      revert a1
      generalize itr (fun _ _ => none) (st_X10_laysWays_67 N (nI b) K) M = rec
      intro a1
      unfold st_X10_laysWays_67
      rw [if_neg (show ¬ (12 : Int32) ≤ nI p from nI_ge (b := 12) hp (by decide))]
      exact a1
    obtain ⟨τ', r1, r2, r3, r4⟩ := lp_mp N hN hb hB K u (p + 1) M τ1 (fwq b p W) (by omega) (by omega) a2 a3
    exact ⟨τ', e.trans r1, r2, r3, a4.tr r4⟩
theorem lp_mb (N : Nat) (hN : 300 ≤ N) : ∀ (u b M B : Nat) (τ : Mem) (W : Wm), b + u = 12 → u < M → B * 2 ^ u ≤ 405504 → Gd B W → FM W τ → ∃ τ', itr (fun _ _ => none) (st_X10_laysWays_59 N) M (nI b) τ = some ((), τ') ∧ FM (fld (fun b W => fwp b W) u b W) τ' ∧ Kz τ τ'
  | u, b, 0, B, τ, W, _, h2, _, _, _ => absurd h2 (by omega)
  | 0, b, M + 1, B, τ, W, h1, _, hBB, hG, hF => by
    refine ⟨τ, ?_, hF, fun _ _ _ => rfl⟩
    show st_X10_laysWays_59 N _ (nI b) τ = _
    unfold st_X10_laysWays_59
    rw [if_pos (show (12 : Int32) ≤ nI b from nI_le (a := 12) (by omega) (by omega))]
  | u + 1, b, M + 1, B, τ, W, h1, h2, hBB, hG, hF => by
    have hb : b < 12 := by omega
    have h2u : 1 ≤ 2 ^ u := Nat.one_le_two_pow
    have hB1 : 2 * B * 2 ^ u ≤ 405504 := by
      rw [Nat.pow_succ] at hBB
      rw [Nat.mul_comm 2 B, Nat.mul_assoc, Nat.mul_comm 2]
      exact hBB
    have hB2 : B ≤ 202752 := by
      have := Nat.mul_le_mul_left (2 * B) h2u
      omega
    obtain ⟨τ1, a1, a2, a3, a4⟩ := lp_mp N hN hb hB2 (fun s14 => lt (nI b + 1) (fun x1_15 => itr (fun _ _ => none) (st_X10_laysWays_59 N) M x1_15 s14)) 12 0 N τ W (by omega) (by omega) (hG.g hb) hF
    have e : itr (fun _ _ => none) (st_X10_laysWays_59 N) (M + 1) (nI b) τ = itr (fun _ _ => none) (st_X10_laysWays_59 N) M (nI (b + 1)) τ1 := by
      show st_X10_laysWays_59 N _ (nI b) τ = _
      rw [← nI_1 b]
      revert a1
      generalize itr (fun _ _ => none) (st_X10_laysWays_59 N) M = rec
      intro a1
      unfold st_X10_laysWays_59
      rw [if_neg (show ¬ (12 : Int32) ≤ nI b from nI_ge (b := 12) hb (by decide))]
      exact a1
    obtain ⟨τ', r1, r2, r3⟩ := lp_mb N hN u (b + 1) M (2 * B) τ1 (fwp b W) (by omega) (by omega) hB1 a2.gd a3
    exact ⟨τ', e.trans r1, r2, a4.tr r3⟩
