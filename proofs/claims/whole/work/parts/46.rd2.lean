/-! sums: the reference's steps -/
theorem un_mk (o v : Nat) : (1048576 : Int32) * nI o + nI v = nI (1048576 * o + v) := by
  rw [li_1048576, pk_mul, nI_add]
theorem e_notes (N : Nat) {τ : Mem} {i op r w : Nat} (o v : Nat) (hd : RD τ i op r w) (hr : r < 260) : f_X10_notes N (nI o) (nI v) τ = some ((), si (si τ 6 r (nI (1048576 * o + v))) 0 11 (nI (r + 1))) := by
  unfold f_X10_notes
  rw [hd.2.2.1, chk_n hr (by decide), ix_n (by omega), un_mk]
  simp only [lt_p]
  rw [gi_ne (by decide), hd.2.2.1, nI_1]
theorem e_waitTop (N : Nat) {τ : Mem} {i op r w o v : Nat} (hd : RD τ i op r (w + 1)) (hw : w < 260) (ho : o < 16) (hv : v < 1048576) (hm : gi τ 7 w = nI (1048576 * o + v)) : f_X10_waitTop N τ = some (nI o, τ) := by
  unfold f_X10_waitTop
  rw [hd.2.2.2, if_neg (nI_ne0 (by omega) (by omega)), nI_pred, chk_n hw (by decide), ix_n (by omega), hm, un_div ho hv]
theorem e_waitTop0 (N : Nat) {τ : Mem} {i op r : Nat} (hd : RD τ i op r 0) : f_X10_waitTop N τ = some (-1, τ) := by
  unfold f_X10_waitTop
  rw [hd.2.2.2, if_pos (show nI 0 = 0 from rfl)]
/-- what stands on top bars a closing with flag x -/
def Bar (x : Nat) (τ : Mem) (w : Nat) : Prop := w = 0 ∨ ∃ w' o v, w = w' + 1 ∧ o < 16 ∧ v < 1048576 ∧ gi τ 7 w' = nI (1048576 * o + v) ∧ (6 < o ∨ (x = 0 ∧ (o = 2 ∨ o = 3)))
theorem Bar.fr {x w r w1 : Nat} {τ τ' : Mem} (h : Bar x τ w) (f : RF r w1 τ τ') (hw : w ≤ w1) : Bar x τ' w := by
  rcases h with h | ⟨w', o, v, a, b, c, d, e⟩
  · exact Or.inl h
  · exact Or.inr ⟨w', o, v, a, b, c, by rw [f _ _ (by omega) (by omega) (by omega)]; exact d, e⟩
theorem cl_stop (N : Nat) {x : Nat} (hx : x ≤ 1) (rec : Mem → Option (Unit × Mem)) {τ : Mem} {i op r w : Nat} (hd : RD τ i op r w) (hw : w ≤ 260) (hb : Bar x τ w) : st_X10_closesSums_0 N (nI x) rec τ = some ((), τ) := by
  unfold st_X10_closesSums_0
  simp only [lt_p]
  rcases hb with rfl | ⟨w', o, v, rfl, ho, hv, hm, hc⟩
  · simp only [e_waitTop0 N hd, bd_some]
    rw [if_pos (by decide), if_neg (show ¬ (-1 : Int32) = 2 by decide), if_neg (show ¬ (-1 : Int32) = 3 by decide)]
    by_cases q : nI x = 0
    · rw [if_pos q]
    · rw [if_neg q]
  · have e := e_waitTop N hd (by omega) ho hv hm
    simp only [e, bd_some]
    rcases hc with hc | ⟨rfl, hc⟩
    · rw [if_neg (show ¬ nI o < 4 from nI_nlt (b := 4) (by omega) (by omega)), if_neg (show ¬ nI o ≤ 6 from nI_ge (a := 6) (by omega) (by omega)), if_neg (show ¬ nI o = 2 from nI_nq (b := 2) (by omega) (by omega) (by omega)), if_neg (show ¬ nI o = 3 from nI_nq (b := 3) (by omega) (by omega) (by omega))]
      by_cases q : nI x = 0
      · rw [if_pos q]
      · rw [if_neg q]
    · rw [if_pos (show nI o < 4 from nI_lt (b := 4) (by omega) (by decide)), if_pos (show nI 0 = 0 from rfl)]
def cls1 (τ : Mem) (r w o : Nat) : Mem := si (si (si τ 6 r (nI (1048576 * o + 0))) 0 11 (nI (r + 1))) 0 12 (nI w)
theorem cl_go (N : Nat) {x : Nat} (rec : Mem → Option (Unit × Mem)) {τ : Mem} {i op r w o : Nat} (hd : RD τ i op r (w + 1)) (hw : w < 260) (hr : r < 260) (hm : gi τ 7 w = nI (1048576 * o + 0)) (ho : (4 ≤ o ∧ o ≤ 6) ∨ (x = 1 ∧ (o = 2 ∨ o = 3))) : st_X10_closesSums_0 N (nI x) rec τ = rec (cls1 τ r w o) := by
  have e := e_waitTop N hd hw (by omega) (by omega) hm
  have e2 : f_X10_notes N (nI o) 0 τ = _ := e_notes N o 0 hd hr
  have e3 : gi (si (si τ 6 r (nI (1048576 * o + 0))) 0 11 (nI (r + 1))) 0 12 - 1 = nI w := by
    rw [gi_ni (by decide), gi_ne (by decide), hd.2.2.2, nI_pred]
  unfold st_X10_closesSums_0
  simp only [lt_p]
  simp only [e, bd_some, e2, e3]
  rcases ho with ho | ⟨rfl, ho⟩
  · rw [if_neg (show ¬ nI o < 4 from nI_nlt (b := 4) (by omega) (by omega)), if_pos (show nI o ≤ 6 from nI_le (b := 6) (by omega) (by decide))]
    rfl
  · rw [if_pos (show nI o < 4 from nI_lt (b := 4) (by omega) (by decide)), if_neg (show ¬ nI 1 = 0 by decide)]
    rcases ho with rfl | rfl
    · rw [if_pos (show nI 2 = 2 from rfl)]
      rfl
    · rw [if_neg (show ¬ nI 3 = 2 by decide), if_pos (show nI 3 = 3 from rfl)]
      rfl
theorem RD.cls {τ : Mem} {i op r w o : Nat} {w0 : Nat} (hd : RD τ i op r w0) : RD (cls1 τ r w o) i op (r + 1) w := by
  unfold cls1 RD
  obtain ⟨a, b, c, d⟩ := hd
  simp (disch := omega) only [gi_ne, gi_ni, gi_eq]
  exact ⟨a, b, trivial, trivial⟩
theorem RF.cls (τ : Mem) {r w0 w o : Nat} : RF r w0 τ (cls1 τ r w o) := ((RF.f6 r w0 τ (Nat.le_refl r) _).tr (RF.f0 r w0 _ (by omega) _) (by omega) (by omega)).tr (RF.f0 r w0 _ (by omega) _) (by omega) (by omega)
theorem said_cls (τ : Mem) (r w o q : Nat) : gi (cls1 τ r w o) 6 q = if q = r then nI (1048576 * o + 0) else gi τ 6 q := by
  unfold cls1
  rw [gi_ne (by decide), gi_ne (by decide), gi_si]
  by_cases h : q = r
  · rw [if_pos ⟨rfl, h⟩, if_pos h]
  · rw [if_neg (fun z => h z.2), if_neg h]
/-- operations of a TERM, of a SUM -/
def opr (k o : Nat) : Prop := (k = 0 ∧ 4 ≤ o ∧ o ≤ 6) ∨ (k = 1 ∧ (o = 2 ∨ o = 3))
abbrev Vf : Type := (Nat → Int32) → Option Int32
/-- a FACTOR, a TERM, a SUM as the reference holds it: some operations still wait -/
def PdN : Nat → Mem → Nat → Nat → Nat → Nat → Vf → Prop
  | 0, τ, r, w, r1, w1, V => w1 = w ∧ ∀ φ, RSeg (fun q => gi τ 6 q) φ r r1 (V φ)
  | k + 1, τ, r, w, r1, w1, V => PdN k τ r w r1 w1 V ∨ ∃ (o m : Nat) (A B : Vf), opr k o ∧ gi τ 7 w = nI (1048576 * o + 0) ∧ (∀ φ, RSeg (fun q => gi τ 6 q) φ r m (A φ)) ∧ PdN k τ m (w + 1) r1 w1 B ∧ ∀ φ, V φ = opv o (A φ) (B φ)
theorem PdN.lt : ∀ {k : Nat} {τ : Mem} {r w r1 w1 : Nat} {V : Vf}, PdN k τ r w r1 w1 V → r < r1 ∧ w ≤ w1 ∧ w1 ≤ w + k
  | 0, τ, r, w, r1, w1, V, h => by
    have h1 : w1 = w := h.1
    exact ⟨(h.2 (fun _ => 0)).1, by omega, by omega⟩
  | k + 1, τ, r, w, r1, w1, V, h => by
    rcases h with h | ⟨o, m, A, B, h1, h2, h3, h4, h5⟩
    · have := PdN.lt h; omega
    · have := PdN.lt h4
      have := (h3 (fun _ => 0)).1
      omega
theorem clN (N : Nat) {x : Nat} : ∀ (k : Nat), (k ≤ 1 ∨ (k = 2 ∧ x = 1)) → ∀ {τ : Mem} {j op r w r1 w1 : Nat} {V : Vf}, RD τ j op r1 w1 → PdN k τ r w r1 w1 V → r1 + k ≤ 260 → w1 ≤ 260 → ∃ τ', (∀ M, itr (fun _ => none) (st_X10_closesSums_0 N (nI x)) (M + (w1 - w)) τ = itr (fun _ => none) (st_X10_closesSums_0 N (nI x)) M τ') ∧ RD τ' j op (r1 + (w1 - w)) w ∧ (∀ φ, RSeg (fun q => gi τ' 6 q) φ r (r1 + (w1 - w)) (V φ)) ∧ RF r1 w1 τ τ'
  | 0, _, τ, j, op, r, w, r1, w1, V, hd, hp, hr, hw => by
    obtain ⟨rfl, h2⟩ := hp
    exact ⟨τ, fun M => by rw [Nat.sub_self]; rfl, by rw [Nat.sub_self]; exact hd, by rw [Nat.sub_self]; exact h2, RF.rf _ _ _⟩
  | k + 1, hk, τ, j, op, r, w, r1, w1, V, hd, hp, hr, hw => by
    rcases hp with hp | ⟨o, m, A, B, h1, h2, h3, h4, h5⟩
    · exact clN N k (by omega) hd hp (by omega) hw
    · have hlt := h4.lt
      have hlt2 := (h3 (fun _ => 0)).1
      obtain ⟨τ1, e1, d1, s1, f1⟩ := clN N k (by omega) hd h4 (by omega) hw
      have hm : gi τ1 7 w = nI (1048576 * o + 0) := by rw [f1 _ _ (by omega) (by omega) (by omega)]; exact h2
      have hk2 : k = 0 ∨ (k = 1 ∧ x = 1) := by omega
      have ho : (4 ≤ o ∧ o ≤ 6) ∨ (x = 1 ∧ (o = 2 ∨ o = 3)) := by unfold opr at h1; omega
      refine ⟨cls1 τ1 (r1 + (w1 - (w + 1))) w o, fun M => ?_, ?_, fun φ => ?_, ?_⟩
      · rw [show M + (w1 - w) = (M + 1) + (w1 - (w + 1)) by omega, e1]
        exact cl_go N _ d1 (by omega) (by omega) hm ho
      · rw [show r1 + (w1 - w) = r1 + (w1 - (w + 1)) + 1 by omega]
        exact d1.cls
      · rw [h5 φ, show r1 + (w1 - w) = r1 + (w1 - (w + 1)) + 1 by omega]
        refine rs_bin (j := m) (by unfold opr at h1; omega) (by unfold opr at h1; omega) ((h3 φ).fr (fun q q1 q2 => ?_)) ((s1 φ).fr (fun q q1 q2 => ?_)) ?_
        · show gi (cls1 τ1 _ w o) 6 q = gi τ 6 q
          rw [said_cls, if_neg (by omega), f1 _ _ (by omega) (by omega) (by omega)]
        · show gi (cls1 τ1 _ w o) 6 q = gi τ1 6 q
          rw [said_cls, if_neg (by omega)]
        · show gi (cls1 τ1 _ w o) 6 _ = _
          rw [said_cls, if_pos rfl]
      · exact f1.tr (RF.cls τ1) (by omega) (by omega)
/-- a whole closing -/
theorem cl_all (N : Nat) {x k : Nat} (hx : x ≤ 1) (hk : k ≤ 1 ∨ (k = 2 ∧ x = 1)) {τ : Mem} {j op r w r1 w1 : Nat} {V : Vf} (hd : RD τ j op r1 w1) (hp : PdN k τ r w r1 w1 V) (hr : r1 + k ≤ 260) (hw : w1 ≤ 260) (hb : Bar x τ w) (hN : 10 ≤ N) : ∃ τ', f_X10_closesSums N (nI x) τ = some ((), τ') ∧ RD τ' j op (r1 + (w1 - w)) w ∧ (∀ φ, RSeg (fun q => gi τ' 6 q) φ r (r1 + (w1 - w)) (V φ)) ∧ RF r1 w1 τ τ' := by
  have hlt := hp.lt
  obtain ⟨τ', e, d, s, f⟩ := clN N k hk hd hp hr hw
  refine ⟨τ', ?_, d, s, f⟩
  unfold f_X10_closesSums
  rw [show N = (N - (w1 - w)) + (w1 - w) by omega]
  rw [show ∀ Z : Nat, itr (fun _ => none) (st_X10_closesSums_0 (N - (w1 - w) + (w1 - w)) (nI x)) Z τ = itr (fun _ => none) (st_X10_closesSums_0 N (nI x)) Z τ from fun Z => by rw [show N - (w1 - w) + (w1 - w) = N by omega]]
  rw [e, show N - (w1 - w) = (N - (w1 - w) - 1) + 1 by omega]
  exact cl_stop N hx _ d (by omega) (hb.fr f (by omega))
-- signs
theorem sgn_lt : ∀ o, o < 10 → sgn o < 256 ∧ 0 < sgn o := by decide
theorem e_sumSign (N : Nat) {o : Nat} (h1 : 2 ≤ o) (h2 : o ≤ 6) (s : Mem) : f_X10_sumSign N (nI (sgn o)) s = some (nI o, s) := by
  unfold f_X10_sumSign
  rcases (show o = 2 ∨ o = 3 ∨ o = 4 ∨ o = 5 ∨ o = 6 by omega) with rfl | rfl | rfl | rfl | rfl <;> rfl
theorem byt_eq {x c : Nat} {v : Int32} (hx : x < 256) (hc : c < 256) (hv : v = nI c) (h : v = nI x) : x = c := (nI_eq (by omega) (by omega)).mp (h.symm.trans hv)
theorem inS_0 {x : Nat} (hx : x < 256) : inS 0 x ↔ (x = 42 ∨ x = 47 ∨ x = 37) := by
  constructor
  · rintro ⟨q, h2, h3⟩
    have h2' : q < 3 := h2
    rcases (show q = 0 ∨ q = 1 ∨ q = 2 by omega) with rfl | rfl | rfl
    · exact Or.inl (byt_eq hx (by decide) (show bytC 0 0 = nI 42 from rfl) h3)
    · exact Or.inr (Or.inl (byt_eq hx (by decide) (show bytC 0 1 = nI 47 from rfl) h3))
    · exact Or.inr (Or.inr (byt_eq hx (by decide) (show bytC 0 2 = nI 37 from rfl) h3))
  · rintro (rfl | rfl | rfl)
    · exact ⟨0, by decide, rfl⟩
    · exact ⟨1, by decide, rfl⟩
    · exact ⟨2, by decide, rfl⟩
theorem inS_1 {x : Nat} (hx : x < 256) : inS 1 x ↔ (x = 43 ∨ x = 45) := by
  constructor
  · rintro ⟨q, h2, h3⟩
    have h2' : q < 2 := h2
    rcases (show q = 0 ∨ q = 1 by omega) with rfl | rfl
    · exact Or.inl (byt_eq hx (by decide) (show bytC 1 0 = nI 43 from rfl) h3)
    · exact Or.inr (byt_eq hx (by decide) (show bytC 1 1 = nI 45 from rfl) h3)
  · rintro (rfl | rfl)
    · exact ⟨0, by decide, rfl⟩
    · exact ⟨1, by decide, rfl⟩
theorem inS_2 {x : Nat} (hx : x < 256) : inS 2 x ↔ (x = 60 ∨ x = 62 ∨ x = 61) := by
  constructor
  · rintro ⟨q, h2, h3⟩
    have h2' : q < 3 := h2
    rcases (show q = 0 ∨ q = 1 ∨ q = 2 by omega) with rfl | rfl | rfl
    · exact Or.inl (byt_eq hx (by decide) (show bytC 2 0 = nI 60 from rfl) h3)
    · exact Or.inr (Or.inl (byt_eq hx (by decide) (show bytC 2 1 = nI 62 from rfl) h3))
    · exact Or.inr (Or.inr (byt_eq hx (by decide) (show bytC 2 2 = nI 61 from rfl) h3))
  · rintro (rfl | rfl | rfl)
    · exact ⟨0, by decide, rfl⟩
    · exact ⟨1, by decide, rfl⟩
    · exact ⟨2, by decide, rfl⟩
theorem inS_3 {x : Nat} (hx : x < 256) : inS 3 x ↔ (x = 103 ∨ x = 116 ∨ x = 104 ∨ x = 120) := by
  constructor
  · rintro ⟨q, h2, h3⟩
    have h2' : q < 4 := h2
    rcases (show q = 0 ∨ q = 1 ∨ q = 2 ∨ q = 3 by omega) with rfl | rfl | rfl | rfl
    · exact Or.inl (byt_eq hx (by decide) (show bytC 3 0 = nI 103 from rfl) h3)
    · exact Or.inr (Or.inl (byt_eq hx (by decide) (show bytC 3 1 = nI 116 from rfl) h3))
    · exact Or.inr (Or.inr (Or.inl (byt_eq hx (by decide) (show bytC 3 2 = nI 104 from rfl) h3)))
    · exact Or.inr (Or.inr (Or.inr (byt_eq hx (by decide) (show bytC 3 3 = nI 120 from rfl) h3)))
  · rintro (rfl | rfl | rfl | rfl)
    · exact ⟨0, by decide, rfl⟩
    · exact ⟨1, by decide, rfl⟩
    · exact ⟨2, by decide, rfl⟩
    · exact ⟨3, by decide, rfl⟩
theorem inS_4 {x : Nat} (hx : x < 256) : inS 4 x ↔ ∃ q, q < 7 ∧ x = 97 + fp q := by
  constructor
  · rintro ⟨q, h2, h3⟩
    have h2' : q < 7 := h2
    rcases (show q = 0 ∨ q = 1 ∨ q = 2 ∨ q = 3 ∨ q = 4 ∨ q = 5 ∨ q = 6 by omega) with rfl | rfl | rfl | rfl | rfl | rfl | rfl
    · exact ⟨0, by decide, byt_eq hx (by decide) (show bytC 4 0 = nI (97 + fp 0) from rfl) h3⟩
    · exact ⟨1, by decide, byt_eq hx (by decide) (show bytC 4 1 = nI (97 + fp 1) from rfl) h3⟩
    · exact ⟨2, by decide, byt_eq hx (by decide) (show bytC 4 2 = nI (97 + fp 2) from rfl) h3⟩
    · exact ⟨3, by decide, byt_eq hx (by decide) (show bytC 4 3 = nI (97 + fp 3) from rfl) h3⟩
    · exact ⟨4, by decide, byt_eq hx (by decide) (show bytC 4 4 = nI (97 + fp 4) from rfl) h3⟩
    · exact ⟨5, by decide, byt_eq hx (by decide) (show bytC 4 5 = nI (97 + fp 5) from rfl) h3⟩
    · exact ⟨6, by decide, byt_eq hx (by decide) (show bytC 4 6 = nI (97 + fp 6) from rfl) h3⟩
  · rintro ⟨q, hq, rfl⟩
    refine ⟨q, hq, ?_⟩
    rcases (show q = 0 ∨ q = 1 ∨ q = 2 ∨ q = 3 ∨ q = 4 ∨ q = 5 ∨ q = 6 by omega) with rfl | rfl | rfl | rfl | rfl | rfl | rfl <;> rfl
theorem isS_o {k : Nat} (hk : k ≤ 1) {txt : Nat → Nat} {n j : Nat} (hT : Tx txt n) (h : isS k txt n j) : ∃ o, opr k o ∧ j < n ∧ txt j = sgn o := by
  obtain ⟨h1, h2⟩ := h
  rcases (show k = 0 ∨ k = 1 by omega) with rfl | rfl
  · rcases (inS_0 (hT.2 j h1)).mp h2 with e | e | e
    · exact ⟨4, Or.inl (by omega), h1, e⟩
    · exact ⟨5, Or.inl (by omega), h1, e⟩
    · exact ⟨6, Or.inl (by omega), h1, e⟩
  · rcases (inS_1 (hT.2 j h1)).mp h2 with e | e
    · exact ⟨2, Or.inr (by omega), h1, e⟩
    · exact ⟨3, Or.inr (by omega), h1, e⟩
theorem hr_nq {txt : Nat → Nat} {n j c : Nat} (hT : Tx txt n) (hc : c < 256) (h : ¬ (j < n ∧ txt j = c)) : ¬ hr txt n j = nI c := by
  by_cases h1 : j < n
  · rw [hr_in h1]
    exact nI_nq (fun q => h ⟨h1, q⟩) (by have := hT.2 j h1; omega) (by omega)
  · rw [hr_out h1]
    exact nI_nm1 (by omega)
theorem e_sumSign_n (N : Nat) {txt : Nat → Nat} {n j : Nat} (hT : Tx txt n) (h0 : ¬ isS 0 txt n j) (h1 : ¬ isS 1 txt n j) (s : Mem) : f_X10_sumSign N (hr txt n j) s = some (-1, s) := by
  have k0 : ∀ c, (c = 42 ∨ c = 47 ∨ c = 37) → ¬ hr txt n j = nI c := fun c hc => hr_nq hT (by omega) (fun q => h0 ⟨q.1, (inS_0 (hT.2 j q.1)).mpr (by rw [q.2]; exact hc)⟩)
  have k1 : ∀ c, (c = 43 ∨ c = 45) → ¬ hr txt n j = nI c := fun c hc => hr_nq hT (by omega) (fun q => h1 ⟨q.1, (inS_1 (hT.2 j q.1)).mpr (by rw [q.2]; exact hc)⟩)
  unfold f_X10_sumSign
  rw [if_neg (show ¬ hr txt n j = 43 from k1 43 (by omega)), if_neg (show ¬ hr txt n j = 45 from k1 45 (by omega)), if_neg (show ¬ hr txt n j = 42 from k0 42 (by omega)), if_neg (show ¬ hr txt n j = 47 from k0 47 (by omega)), if_neg (show ¬ hr txt n j = 37 from k0 37 (by omega))]
