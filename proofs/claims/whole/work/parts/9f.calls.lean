/-! each call keeps the relation -/
theorem k_parish (N : Nat) (x1 x2 : Int32) (σ : Mem) : ∃ r σ', f_X9_parish N x1 x2 σ = some (r, σ') ∧ ∀ p, p < 12 → bt (gi σ' 3 0) p = false → bt (gi σ 3 0) p = false := by
  unfold f_X9_parish
  simp only [e_within, bd_some, ite10, e_tell, lt_e]
  by_cases h1 : inR x1 0 11
  · by_cases h2 : inR x2 0 99
    · obtain ⟨p, -, hp', rfl⟩ := inR_n (a := 0) (b := 11) rfl rfl (by decide) (by decide) h1
      rw [if_pos h1, if_pos h2, chk_n (by omega) (by decide), ix_n (by omega)]
      refine ⟨1, _, rfl, fun p' hp2 hz => ?_⟩
      simp (disch := omega) only [gi_ne, gi_ni, gi_eq] at hz
      rw [b_set _ (by omega) (by omega)] at hz
      simp only [Bool.or_eq_false_iff] at hz
      exact hz.1
    · rw [if_pos h1, if_neg h2]
      exact ⟨0, _, rfl, fun _ _ h => h⟩
  · rw [if_neg h1]
    exact ⟨0, _, rfl, fun _ _ h => h⟩
theorem k_road (N : Nat) {σ τ : Mem} (hp : Rp σ τ) (x1 x2 x3 : Int32) : ∃ r σ' τ', f_X9_road N x1 x2 x3 σ = some (r, σ') ∧ f_X10_road N x1 x2 x3 τ = some (r, τ') ∧ (gi σ' 3 3 = 0 ∨ (σ' = σ ∧ τ' = τ)) := by
  unfold f_X9_road f_X10_road
  simp only [e_told3, e_isParish, e_within, e_in, bd_some, ite10, lt_e]
  rw [← hp.1]
  by_cases h1 : inR x1 0 11 ∧ hb (gi σ 3 0) x1
  · by_cases h2 : inR x2 0 11 ∧ hb (gi σ 3 0) x2
    · by_cases h3 : x1 = x2
      · rw [if_pos h1, if_pos h2, if_pos h3, if_pos h1, if_pos h2, if_pos h3]
        exact ⟨0, _, _, rfl, rfl, Or.inr ⟨rfl, rfl⟩⟩
      · by_cases h4 : inR x3 0 99
        · rw [if_pos h1, if_pos h2, if_neg h3, if_pos h4, if_pos h1, if_pos h2, if_neg h3, if_pos h4]
          obtain ⟨p, -, hp', rfl⟩ := inR_n (a := 0) (b := 11) rfl rfl (by decide) (by decide) h1.1
          obtain ⟨q, -, hq', rfl⟩ := inR_n (a := 0) (b := 11) rfl rfl (by decide) (by decide) h2.1
          obtain ⟨w, -, hw, rfl⟩ := inR_n (a := 0) (b := 99) rfl rfl (by decide) (by decide) h4
          unfold f_X3_lay
          simp (disch := omega) only [li_12, pk_mul, nI_add, chk_n, ix_n, lt_e, bd_some]
          exact ⟨1, _, _, rfl, rfl, Or.inl (gi_eq _ _ _ _)⟩
        · rw [if_pos h1, if_pos h2, if_neg h3, if_neg h4, if_pos h1, if_pos h2, if_neg h3, if_neg h4]
          exact ⟨0, _, _, rfl, rfl, Or.inr ⟨rfl, rfl⟩⟩
    · rw [if_pos h1, if_neg h2, if_pos h1, if_neg h2]
      exact ⟨0, _, _, rfl, rfl, Or.inr ⟨rfl, rfl⟩⟩
  · rw [if_neg h1, if_neg h1]
    exact ⟨0, _, _, rfl, rfl, Or.inr ⟨rfl, rfl⟩⟩
theorem k_letter (N : Nat) (hN : 20 ≤ N) (x1 x2 x3 : Int32) (τ : Mem) : ∃ r τ', f_X10_letter N x1 x2 x3 τ = some (r, τ') ∧ gi τ' 1 145 = gi τ 1 145 := by
  unfold f_X10_letter
  simp only [e_isParish, e_in, bd_some, ite10, lt_e, ck_144_151, ck_146_151, ix_144, ix_146]
  by_cases h1 : inR x1 0 5
  · by_cases h2 : inR x2 0 11 ∧ hb (gi τ 1 145) x2
    · by_cases h3 : inR x3 1 9999
      · rw [if_pos h1, if_pos h2, if_pos h3]
        obtain ⟨k, -, hk', rfl⟩ := inR_n (a := 0) (b := 5) rfl rfl (by decide) (by decide) h1
        obtain ⟨h, -, hh', rfl⟩ := inR_n (a := 0) (b := 11) rfl rfl (by decide) (by decide) h2.1
        obtain ⟨l, hl1, hl2, rfl⟩ := inR_n (a := 1) (b := 9999) rfl rfl (by decide) (by decide) h3
        simp (disch := omega) only [li_126, li_132, li_138, li_84, pk_mul, nI_add, chk_n, ix_n, lt_e, bd_some]
        rw [← nI_0, lp_letter N (by omega) (by omega) 12 0 N _ (by omega) (by omega)]
        refine ⟨1, _, rfl, ?_⟩
        rw [kfl_gi, if_neg (by omega), gi_ni (by omega), gi_ni (by omega), gi_ni (by omega), gi_ni (by omega), gi_ni (by omega), gi_ni (by omega)]
      · rw [if_pos h1, if_pos h2, if_neg h3]
        exact ⟨0, _, rfl, rfl⟩
    · rw [if_pos h1, if_neg h2]
      exact ⟨0, _, rfl, rfl⟩
  · rw [if_neg h1]
    exact ⟨0, _, rfl, rfl⟩
theorem k_seed (N : Nat) (x1 : Int32) (τ : Mem) : ∃ r τ', f_X10_seed N x1 τ = some (r, τ') ∧ gi τ' 1 145 = gi τ 1 145 := by
  unfold f_X10_seed
  simp only [e_in, bd_some, ite10, lt_e, ck_150_151, ix_150]
  by_cases h1 : inR x1 0 65535
  · rw [if_pos h1]
    exact ⟨1, _, rfl, gi_ni (by decide)⟩
  · rw [if_neg h1]
    exact ⟨0, _, rfl, rfl⟩
theorem k_keep (N : Nat) (hN : 200 ≤ N) (σ : Mem) : ∃ r σ', f_X9_keep N σ = some (r, σ') ∧ ∀ j, j < 3 → gi σ' 61 j = gi σ 46 j := by
  unfold f_X9_keep
  obtain ⟨s1, e1, c1, c2⟩ := e_copy N (by omega) (b := 47) (x := 32) (by omega) σ
  simp only [lt_e, e1, bd_some]
  refine ⟨_, _, rfl, fun j hj => ?_⟩
  rw [gi_ne (by decide)]
  exact c1 14 j (by omega) (by omega) (by omega) hj
theorem k_undo (N : Nat) (hN : 200 ≤ N) (σ : Mem) : ∃ r σ', f_X9_undo N σ = some (r, σ') ∧ (σ' = σ ∨ (¬ gi σ 0 11 = 0 ∧ ∀ j, j < 3 → gi σ' 46 j = gi σ 61 j)) := by
  unfold f_X9_undo
  by_cases h : gi σ 0 11 = 0
  · rw [if_pos h]
    exact ⟨_, _, rfl, Or.inl rfl⟩
  · rw [if_neg h]
    obtain ⟨s1, e1, c1, c2⟩ := e_copy N (by omega) (b := 32) (x := 47) (by omega) σ
    simp only [e1, bd_some]
    exact ⟨_, _, rfl, Or.inr ⟨h, fun j hj => c1 14 j (by omega) (by omega) (by omega) hj⟩⟩
theorem k_undoM (N : Nat) (hN : 200 ≤ N) (τ : Mem) : ∃ r τ', f_X10_undo N τ = some (r, τ') ∧ gi τ' 1 145 = gi τ 1 145 := by
  unfold f_X10_undo
  by_cases h : gi τ 0 55 = 0
  · rw [if_pos h]
    exact ⟨_, _, rfl, rfl⟩
  · rw [if_neg h]
    obtain ⟨t1, e2, d1⟩ := e_copies N hN (a := 3) (b := 1) rfl rfl (by decide) τ
    simp only [lt_e, e2, bd_some, ck_145_151, ix_145]
    exact ⟨_, _, rfl, gi_eq _ _ _ _⟩
theorem same_o {α : Type} {a : Option (α × Mem)} {r r' : α} {s s' : Mem} (h : a = some (r, s)) (h' : a = some (r', s')) : s' = s := by
  rw [h] at h'
  cases h'
  rfl
theorem Rz.mono {σ σ' : Mem} (h : Rz σ) (h1 : ∀ p, p < 12 → bt (gi σ' 3 0) p = false → bt (gi σ 3 0) p = false) (h2 : ∀ c i, c = 46 ∨ c = 61 ∨ (c = 0 ∧ i = 11) → gi σ' c i = gi σ c i) : Rz σ' := by
  refine ⟨fun p hp hb j hj => ?_, fun hk p hp hb j hj => ?_⟩
  · rw [h2 46 j (by omega)]; exact h.1 p hp (h1 p hp hb) j hj
  · rw [h2 0 11 (by omega)] at hk
    rw [h2 61 j (by omega)]; exact h.2 hk p hp (h1 p hp hb) j hj
theorem rr_parish (N : Nat) (hN : 50000 ≤ N) {σ τ : Mem} (h : RR σ τ) (x1 x2 : Int32) : ∃ r σ' τ', f_X9_parish N x1 x2 σ = some (r, σ') ∧ f_X10_parish N x1 x2 τ = some (r, τ') ∧ RR σ' τ' := by
  obtain ⟨ht, hp, hn, hk, hx, hl, hz, hw⟩ := h
  obtain ⟨r, σ', τ', e1, e2, gRp, gRn, gRk⟩ := s_parish N hp hn hk x1 x2
  have f : Sc W_X9_parish σ σ' := fun c i z => (fr_X9_parish N x1 x2 σ _ _ e1 c i z).1
  have g : Sc W_X10_parish τ τ' := fun c i z => (fr_X10_parish N x1 x2 τ _ _ e2 c i z).1
  have gz : Rz σ' := by
    obtain ⟨r2, σ2, q1, q2⟩ := k_parish N x1 x2 σ
    rw [same_o e1 q1] at q2
    exact hz.mono q2 (fun c i hc => f c i (fun z => by have := n_X9_parish z; omega))
  exact ⟨r, σ', τ', e1, e2, ht.k f g (fun c i z => by have := n_X9_parish z; omega) (fun c i z => by have := n_X10_parish z; omega), gRp, gRn, gRk, hx.k f g (fun c i z => by have := n_X9_parish z; omega) (fun c i z => by have := n_X10_parish z; omega), hl.k f g (fun c i z => by have := n_X9_parish z; omega) (fun c i z => by have := n_X10_parish z; omega), gz, hw.k f g (fun c i z => by have := n_X9_parish z; omega) (fun c i z => by have := n_X10_parish z; omega)⟩
theorem rr_road (N : Nat) (hN : 50000 ≤ N) {σ τ : Mem} (h : RR σ τ) (x1 x2 x3 : Int32) : ∃ r σ' τ', f_X9_road N x1 x2 x3 σ = some (r, σ') ∧ f_X10_road N x1 x2 x3 τ = some (r, τ') ∧ RR σ' τ' := by
  obtain ⟨ht, hp, hn, hk, hx, hl, hz, hw⟩ := h
  obtain ⟨r, σ', τ', e1, e2, gRp⟩ := s_road N hp x1 x2 x3
  have f : Sc W_X9_road σ σ' := fun c i z => (fr_X9_road N x1 x2 x3 σ _ _ e1 c i z).1
  have g : Sc W_X10_road τ τ' := fun c i z => (fr_X10_road N x1 x2 x3 τ _ _ e2 c i z).1
  have gall : ∀ i, i < 151 → gi τ' 1 i = gi τ 1 i := fun i _ => g 1 i (fun z => by have := n_X10_road z; omega)
  have g145 : gi τ' 1 145 = gi τ 1 145 := gall 145 (by decide)
  have gw : Rw σ' τ' := by
    obtain ⟨r2, σ2, τ2, q1, q2, q3⟩ := k_road N hp x1 x2 x3
    rw [same_o e1 q1, same_o e2 q2] at q3
    rcases q3 with q | ⟨q, q'⟩
    · exact Or.inl q
    · rw [q, q']; exact hw
  exact ⟨r, σ', τ', e1, e2, ht.k f g (fun c i z => by have := n_X9_road z; omega) (fun c i z => by have := n_X10_road z; omega), gRp, hn.k f (fun c i z => by have := n_X9_road z; omega) gall, hk.k f g (fun c i z => by have := n_X9_road z; omega) (fun c i z => by have := n_X10_road z; omega) g145, hx.k f g (fun c i z => by have := n_X9_road z; omega) (fun c i z => by have := n_X10_road z; omega), hl.k f g (fun c i z => by have := n_X9_road z; omega) (fun c i z => by have := n_X10_road z; omega), hz.k f (fun c i z => by have := n_X9_road z; omega), gw⟩
theorem rr_letter (N : Nat) (hN : 50000 ≤ N) {σ τ : Mem} (h : RR σ τ) (x1 x2 x3 : Int32) : ∃ r σ' τ', f_X9_letter N x1 x2 x3 σ = some (r, σ') ∧ f_X10_letter N x1 x2 x3 τ = some (r, τ') ∧ RR σ' τ' := by
  obtain ⟨ht, hp, hn, hk, hx, hl, hz, hw⟩ := h
  obtain ⟨r, σ', τ', e1, e2, gRn⟩ := s_letter N (by omega) hp hn x1 x2 x3
  have f : Sc W_X9_letter σ σ' := fun c i z => (fr_X9_letter N x1 x2 x3 σ _ _ e1 c i z).1
  have g : Sc W_X10_letter τ τ' := fun c i z => (fr_X10_letter N x1 x2 x3 τ _ _ e2 c i z).1
  have g145 : gi τ' 1 145 = gi τ 1 145 := by
    obtain ⟨r2, τ2, q1, q2⟩ := k_letter N (by omega) x1 x2 x3 τ
    rw [← same_o e2 q1]; exact q2
  exact ⟨r, σ', τ', e1, e2, ht.k f g (fun c i z => by have := n_X9_letter z; omega) (fun c i z => by have := n_X10_letter z; omega), hp.k f g (fun c i z => by have := n_X9_letter z; omega) (fun c i z => by have := n_X10_letter z; omega) g145, gRn, hk.k f g (fun c i z => by have := n_X9_letter z; omega) (fun c i z => by have := n_X10_letter z; omega) g145, hx.k f g (fun c i z => by have := n_X9_letter z; omega) (fun c i z => by have := n_X10_letter z; omega), hl.k f g (fun c i z => by have := n_X9_letter z; omega) (fun c i z => by have := n_X10_letter z; omega), hz.k f (fun c i z => by have := n_X9_letter z; omega), hw.k f g (fun c i z => by have := n_X9_letter z; omega) (fun c i z => by have := n_X10_letter z; omega)⟩
theorem rr_feed (N : Nat) (hN : 50000 ≤ N) {σ τ : Mem} (h : RR σ τ) (x1 x2 x3 x4 x5 : Int32) : ∃ r σ' τ', f_X9_feed N x1 x2 x3 x4 x5 σ = some (r, σ') ∧ f_X10_feed N x1 x2 x3 x4 x5 τ = some (r, τ') ∧ RR σ' τ' := by
  obtain ⟨ht, hp, hn, hk, hx, hl, hz, hw⟩ := h
  obtain ⟨r, σ', τ', e1, e2, gRt⟩ := s_feed N (by omega) ht x1 x2 x3 x4 x5
  have f : Sc W_X9_feed σ σ' := fun c i z => (fr_X9_feed N x1 x2 x3 x4 x5 σ _ _ e1 c i z).1
  have g : Sc W_X10_feed τ τ' := fun c i z => (fr_X10_feed N x1 x2 x3 x4 x5 τ _ _ e2 c i z).1
  have gall : ∀ i, i < 151 → gi τ' 1 i = gi τ 1 i := fun i _ => g 1 i (fun z => by have := n_X10_feed z; omega)
  have g145 : gi τ' 1 145 = gi τ 1 145 := gall 145 (by decide)
  exact ⟨r, σ', τ', e1, e2, gRt, hp.k f g (fun c i z => by have := n_X9_feed z; omega) (fun c i z => by have := n_X10_feed z; omega) g145, hn.k f (fun c i z => by have := n_X9_feed z; omega) gall, hk.k f g (fun c i z => by have := n_X9_feed z; omega) (fun c i z => by have := n_X10_feed z; omega) g145, hx.k f g (fun c i z => by have := n_X9_feed z; omega) (fun c i z => by have := n_X10_feed z; omega), hl.k f g (fun c i z => by have := n_X9_feed z; omega) (fun c i z => by have := n_X10_feed z; omega), hz.k f (fun c i z => by have := n_X9_feed z; omega), hw.k f g (fun c i z => by have := n_X9_feed z; omega) (fun c i z => by have := n_X10_feed z; omega)⟩
theorem rr_law (N : Nat) (hN : 50000 ≤ N) {σ τ : Mem} (h : RR σ τ) (x1 : Int32) : ∃ r σ' τ', f_X9_law N x1 σ = some (r, σ') ∧ f_X10_law N x1 τ = some (r, τ') ∧ RR σ' τ' := by
  obtain ⟨ht, hp, hn, hk, hx, hl, hz, hw⟩ := h
  obtain ⟨r, σ', τ', e1, e2, gRt, gRl⟩ := s_law N (by omega) ht hl x1
  have f : Sc W_X9_law σ σ' := fun c i z => (fr_X9_law N x1 σ _ _ e1 c i z).1
  have g : Sc W_X10_law τ τ' := fun c i z => (fr_X10_law N x1 τ _ _ e2 c i z).1
  have gall : ∀ i, i < 151 → gi τ' 1 i = gi τ 1 i := fun i _ => g 1 i (fun z => by have := n_X10_law z; omega)
  have g145 : gi τ' 1 145 = gi τ 1 145 := gall 145 (by decide)
  exact ⟨r, σ', τ', e1, e2, gRt, hp.k f g (fun c i z => by have := n_X9_law z; omega) (fun c i z => by have := n_X10_law z; omega) g145, hn.k f (fun c i z => by have := n_X9_law z; omega) gall, hk.k f g (fun c i z => by have := n_X9_law z; omega) (fun c i z => by have := n_X10_law z; omega) g145, hx.k f g (fun c i z => by have := n_X9_law z; omega) (fun c i z => by have := n_X10_law z; omega), gRl, hz.k f (fun c i z => by have := n_X9_law z; omega), hw.k f g (fun c i z => by have := n_X9_law z; omega) (fun c i z => by have := n_X10_law z; omega)⟩
theorem rr_report (N : Nat) (hN : 50000 ≤ N) {σ τ : Mem} (h : RR σ τ) (x1 : Int32) : ∃ r σ' τ', f_X9_report N x1 σ = some (r, σ') ∧ f_X10_report N x1 τ = some (r, τ') ∧ RR σ' τ' := by
  obtain ⟨ht, hp, hn, hk, hx, hl, hz, hw⟩ := h
  obtain ⟨r, σ', τ', e1, e2, gRt, gRn, g145⟩ := s_report N (by omega) ht hp hn x1
  have f : Sc W_X9_report σ σ' := fun c i z => (fr_X9_report N x1 σ _ _ e1 c i z).1
  have g : Sc W_X10_report τ τ' := fun c i z => (fr_X10_report N x1 τ _ _ e2 c i z).1
  exact ⟨r, σ', τ', e1, e2, gRt, hp.k f g (fun c i z => by have := n_X9_report z; omega) (fun c i z => by have := n_X10_report z; omega) g145, gRn, hk.k f g (fun c i z => by have := n_X9_report z; omega) (fun c i z => by have := n_X10_report z; omega) g145, hx.k f g (fun c i z => by have := n_X9_report z; omega) (fun c i z => by have := n_X10_report z; omega), hl.k f g (fun c i z => by have := n_X9_report z; omega) (fun c i z => by have := n_X10_report z; omega), hz.k f (fun c i z => by have := n_X9_report z; omega), hw.k f g (fun c i z => by have := n_X9_report z; omega) (fun c i z => by have := n_X10_report z; omega)⟩
theorem rr_text (N : Nat) (hN : 50000 ≤ N) {σ τ : Mem} (h : RR σ τ) (x1 x2 : Int32) : ∃ r σ' τ', f_X9_text N x1 x2 σ = some (r, σ') ∧ f_X10_text N x1 x2 τ = some (r, τ') ∧ RR σ' τ' := by
  obtain ⟨ht, hp, hn, hk, hx, hl, hz, hw⟩ := h
  obtain ⟨r, σ', τ', e1, e2, gRt, gRx⟩ := s_text N (by omega) ht hx x1 x2
  have f : Sc W_X9_text σ σ' := fun c i z => (fr_X9_text N x1 x2 σ _ _ e1 c i z).1
  have g : Sc W_X10_text τ τ' := fun c i z => (fr_X10_text N x1 x2 τ _ _ e2 c i z).1
  have gall : ∀ i, i < 151 → gi τ' 1 i = gi τ 1 i := fun i _ => g 1 i (fun z => by have := n_X10_text z; omega)
  have g145 : gi τ' 1 145 = gi τ 1 145 := gall 145 (by decide)
  exact ⟨r, σ', τ', e1, e2, gRt, hp.k f g (fun c i z => by have := n_X9_text z; omega) (fun c i z => by have := n_X10_text z; omega) g145, hn.k f (fun c i z => by have := n_X9_text z; omega) gall, hk.k f g (fun c i z => by have := n_X9_text z; omega) (fun c i z => by have := n_X10_text z; omega) g145, gRx, hl.k f g (fun c i z => by have := n_X9_text z; omega) (fun c i z => by have := n_X10_text z; omega), hz.k f (fun c i z => by have := n_X9_text z; omega), hw.k f g (fun c i z => by have := n_X9_text z; omega) (fun c i z => by have := n_X10_text z; omega)⟩
theorem rr_months (N : Nat) (hN : 50000 ≤ N) {σ τ : Mem} (h : RR σ τ) (x1 : Int32) : ∃ r σ' τ', f_X9_months N x1 σ = some (r, σ') ∧ f_X10_months N x1 τ = some (r, τ') ∧ RR σ' τ' := by
  obtain ⟨ht, hp, hn, hk, hx, hl, hz, hw⟩ := h
  obtain ⟨r, σ', τ', e1, e2, gRn, gRz, ⟨lw, hlw, kx, ky⟩⟩ := s_months N (by omega) hl hp hn hz x1
  have f : Sc W_X9_months σ σ' := fun c i z => (fr_X9_months N x1 σ _ _ e1 c i z).1
  have g : Sc W_X10_months τ τ' := fun c i z => (fr_X10_months N x1 τ _ _ e2 c i z).1
  have g145 : gi τ' 1 145 = gi τ 1 145 := ky 1 145 (by decide) (by decide) (by decide) (by decide) (by decide)
  exact ⟨r, σ', τ', e1, e2, ht.k f g (fun c i z => by have := n_X9_months z; omega) (fun c i z => by have := n_X10_months z; omega), hp.k f g (fun c i z => by have := n_X9_months z; omega) (fun c i z => by have := n_X10_months z; omega) g145, gRn, hk.k f g (fun c i z => by have := n_X9_months z; omega) (fun c i z => by have := n_X10_months z; omega) g145, hx.k f g (fun c i z => by have := n_X9_months z; omega) (fun c i z => by have := n_X10_months z; omega), hl.k f g (fun c i z => by have := n_X9_months z; omega) (fun c i z => by have := n_X10_months z; omega), gRz, hw.k f g (fun c i z => by have := n_X9_months z; omega) (fun c i z => by have := n_X10_months z; omega)⟩
theorem rr_tried (N : Nat) (hN : 50000 ≤ N) {σ τ : Mem} (h : RR σ τ) (x1 x2 : Int32) : ∃ r σ' τ', f_X9_tried N x1 x2 σ = some (r, σ') ∧ f_X10_tried N x1 x2 τ = some (r, τ') ∧ RR σ' τ' := by
  obtain ⟨ht, hp, hn, hk, hx, hl, hz, hw⟩ := h
  obtain ⟨r, σ', τ', e1, e2, kt, kv⟩ := s_tried N (by omega) hl hp hn hz x1 x2
  have f : Sc W_X9_tried σ σ' := fun c i z => (fr_X9_tried N x1 x2 σ _ _ e1 c i z).1
  have g : Sc W_X10_tried τ τ' := fun c i z => (fr_X10_tried N x1 x2 τ _ _ e2 c i z).1
  have gall := kv.1
  have g145 : gi τ' 1 145 = gi τ 1 145 := gall 145 (by decide)
  exact ⟨r, σ', τ', e1, e2, ht.k f g (fun c i z => by have := n_X9_tried z; omega) (fun c i z => by have := n_X10_tried z; omega), hp.k f g (fun c i z => by have := n_X9_tried z; omega) (fun c i z => by have := n_X10_tried z; omega) g145, hn.k f (fun c i z => by have := n_X9_tried z; omega) gall, hk.k f g (fun c i z => by have := n_X9_tried z; omega) (fun c i z => by have := n_X10_tried z; omega) g145, hx.k f g (fun c i z => by have := n_X9_tried z; omega) (fun c i z => by have := n_X10_tried z; omega), hl.k f g (fun c i z => by have := n_X9_tried z; omega) (fun c i z => by have := n_X10_tried z; omega), hz.k f (fun c i z => by have := n_X9_tried z; omega), hw.k f g (fun c i z => by have := n_X9_tried z; omega) (fun c i z => by have := n_X10_tried z; omega)⟩
theorem rr_parishIs (N : Nat) (hN : 50000 ≤ N) {σ τ : Mem} (h : RR σ τ) (x1 x2 : Int32) : ∃ r σ' τ', f_X9_parishIs N x1 x2 σ = some (r, σ') ∧ f_X10_parishIs N x1 x2 τ = some (r, τ') ∧ RR σ' τ' := by
  obtain ⟨ht, hp, hn, hk, hx, hl, hz, hw⟩ := h
  obtain ⟨r, e1, e2⟩ := s_parishIs N (by omega) hp hn x1 x2
  exact ⟨r, σ, τ, e1, e2, ht, hp, hn, hk, hx, hl, hz, hw⟩
theorem rr_letterIs (N : Nat) (hN : 50000 ≤ N) {σ τ : Mem} (h : RR σ τ) (x1 x2 : Int32) : ∃ r σ' τ', f_X9_letterIs N x1 x2 σ = some (r, σ') ∧ f_X10_letterIs N x1 x2 τ = some (r, τ') ∧ RR σ' τ' := by
  obtain ⟨ht, hp, hn, hk, hx, hl, hz, hw⟩ := h
  obtain ⟨r, e1, e2⟩ := s_letterIs N (by omega) hn x1 x2
  exact ⟨r, σ, τ, e1, e2, ht, hp, hn, hk, hx, hl, hz, hw⟩
theorem rr_toldAt (N : Nat) (hN : 50000 ≤ N) {σ τ : Mem} (h : RR σ τ) (x1 x2 : Int32) : ∃ r σ' τ', f_X9_toldAt N x1 x2 σ = some (r, σ') ∧ f_X10_toldAt N x1 x2 τ = some (r, τ') ∧ RR σ' τ' := by
  obtain ⟨ht, hp, hn, hk, hx, hl, hz, hw⟩ := h
  obtain ⟨r, e1, e2⟩ := s_toldAt N hp hn x1 x2
  exact ⟨r, σ, τ, e1, e2, ht, hp, hn, hk, hx, hl, hz, hw⟩
theorem rr_spreads (N : Nat) (hN : 50000 ≤ N) {σ τ : Mem} (h : RR σ τ) (x1 x2 : Int32) : ∃ r σ' τ', f_X9_spreads N x1 x2 σ = some (r, σ') ∧ f_X10_spreads N x1 x2 τ = some (r, τ') ∧ RR σ' τ' := by
  obtain ⟨ht, hp, hn, hk, hx, hl, hz, hw⟩ := h
  obtain ⟨r, σ', τ', e1, e2, gall⟩ := s_spreads N (by omega) hl hp hn x1 x2
  have f : Sc W_X9_spreads σ σ' := fun c i z => (fr_X9_spreads N x1 x2 σ _ _ e1 c i z).1
  have g : Sc W_X10_spreads τ τ' := fun c i z => (fr_X10_spreads N x1 x2 τ _ _ e2 c i z).1
  have g145 : gi τ' 1 145 = gi τ 1 145 := gall 145 (by decide)
  exact ⟨r, σ', τ', e1, e2, ht.k f g (fun c i z => by have := n_X9_spreads z; omega) (fun c i z => by have := n_X10_spreads z; omega), hp.k f g (fun c i z => by have := n_X9_spreads z; omega) (fun c i z => by have := n_X10_spreads z; omega) g145, hn.k f (fun c i z => by have := n_X9_spreads z; omega) gall, hk.k f g (fun c i z => by have := n_X9_spreads z; omega) (fun c i z => by have := n_X10_spreads z; omega) g145, hx.k f g (fun c i z => by have := n_X9_spreads z; omega) (fun c i z => by have := n_X10_spreads z; omega), hl.k f g (fun c i z => by have := n_X9_spreads z; omega) (fun c i z => by have := n_X10_spreads z; omega), hz.k f (fun c i z => by have := n_X9_spreads z; omega), hw.k f g (fun c i z => by have := n_X9_spreads z; omega) (fun c i z => by have := n_X10_spreads z; omega)⟩
theorem rr_miles (N : Nat) (hN : 50000 ≤ N) {σ τ : Mem} (h : RR σ τ) (x1 x2 : Int32) : ∃ r σ' τ', f_X9_miles N x1 x2 σ = some (r, σ') ∧ f_X10_miles N x1 x2 τ = some (r, τ') ∧ RR σ' τ' := by
  obtain ⟨ht, hp, hn, hk, hx, hl, hz, hw⟩ := h
  obtain ⟨r, σ', τ', e1, e2, gRp, gRw⟩ := s_miles N (by omega) hp hw x1 x2
  have f : Sc W_X9_miles σ σ' := fun c i z => (fr_X9_miles N x1 x2 σ _ _ e1 c i z).1
  have g : Sc W_X10_miles τ τ' := fun c i z => (fr_X10_miles N x1 x2 τ _ _ e2 c i z).1
  have gall : ∀ i, i < 151 → gi τ' 1 i = gi τ 1 i := fun i _ => g 1 i (fun z => by have := n_X10_miles z; omega)
  have g145 : gi τ' 1 145 = gi τ 1 145 := gall 145 (by decide)
  exact ⟨r, σ', τ', e1, e2, ht.k f g (fun c i z => by have := n_X9_miles z; omega) (fun c i z => by have := n_X10_miles z; omega), gRp, hn.k f (fun c i z => by have := n_X9_miles z; omega) gall, hk.k f g (fun c i z => by have := n_X9_miles z; omega) (fun c i z => by have := n_X10_miles z; omega) g145, hx.k f g (fun c i z => by have := n_X9_miles z; omega) (fun c i z => by have := n_X10_miles z; omega), hl.k f g (fun c i z => by have := n_X9_miles z; omega) (fun c i z => by have := n_X10_miles z; omega), hz.k f (fun c i z => by have := n_X9_miles z; omega), gRw⟩
theorem rr_round (N : Nat) (hN : 50000 ≤ N) {σ τ : Mem} (h : RR σ τ) (x1 x2 x3 : Int32) : ∃ r σ' τ', f_X9_round N x1 x2 x3 σ = some (r, σ') ∧ f_X10_round N x1 x2 x3 τ = some (r, τ') ∧ RR σ' τ' := by
  obtain ⟨ht, hp, hn, hk, hx, hl, hz, hw⟩ := h
  obtain ⟨r, σ', τ', e1, e2, gRp, gRw⟩ := s_round N (by omega) hp hw x1 x2 x3
  have f : Sc W_X9_round σ σ' := fun c i z => (fr_X9_round N x1 x2 x3 σ _ _ e1 c i z).1
  have g : Sc W_X10_round τ τ' := fun c i z => (fr_X10_round N x1 x2 x3 τ _ _ e2 c i z).1
  have gall : ∀ i, i < 151 → gi τ' 1 i = gi τ 1 i := fun i _ => g 1 i (fun z => by have := n_X10_round z; omega)
  have g145 : gi τ' 1 145 = gi τ 1 145 := gall 145 (by decide)
  exact ⟨r, σ', τ', e1, e2, ht.k f g (fun c i z => by have := n_X9_round z; omega) (fun c i z => by have := n_X10_round z; omega), gRp, hn.k f (fun c i z => by have := n_X9_round z; omega) gall, hk.k f g (fun c i z => by have := n_X9_round z; omega) (fun c i z => by have := n_X10_round z; omega) g145, hx.k f g (fun c i z => by have := n_X9_round z; omega) (fun c i z => by have := n_X10_round z; omega), hl.k f g (fun c i z => by have := n_X9_round z; omega) (fun c i z => by have := n_X10_round z; omega), hz.k f (fun c i z => by have := n_X9_round z; omega), gRw⟩
theorem rr_readsMost (N : Nat) (hN : 50000 ≤ N) {σ τ : Mem} (h : RR σ τ) (x1 x2 x3 : Int32) : ∃ r σ' τ', f_X9_readsMost N x1 x2 x3 σ = some (r, σ') ∧ f_X10_readsMost N x1 x2 x3 τ = some (r, τ') ∧ RR σ' τ' := by
  obtain ⟨ht, hp, hn, hk, hx, hl, hz, hw⟩ := h
  obtain ⟨r, σ', τ', e1, e2⟩ := s_readsMost N (by omega) hl hp hn x1 x2 x3
  have f : Sc W_X9_readsMost σ σ' := fun c i z => (fr_X9_readsMost N x1 x2 x3 σ _ _ e1 c i z).1
  have g : Sc W_X10_readsMost τ τ' := fun c i z => (fr_X10_readsMost N x1 x2 x3 τ _ _ e2 c i z).1
  have gall : ∀ i, i < 151 → gi τ' 1 i = gi τ 1 i := fun i _ => g 1 i (fun z => by have := n_X10_readsMost z; omega)
  have g145 : gi τ' 1 145 = gi τ 1 145 := gall 145 (by decide)
  exact ⟨r, σ', τ', e1, e2, ht.k f g (fun c i z => by have := n_X9_readsMost z; omega) (fun c i z => by have := n_X10_readsMost z; omega), hp.k f g (fun c i z => by have := n_X9_readsMost z; omega) (fun c i z => by have := n_X10_readsMost z; omega) g145, hn.k f (fun c i z => by have := n_X9_readsMost z; omega) gall, hk.k f g (fun c i z => by have := n_X9_readsMost z; omega) (fun c i z => by have := n_X10_readsMost z; omega) g145, hx.k f g (fun c i z => by have := n_X9_readsMost z; omega) (fun c i z => by have := n_X10_readsMost z; omega), hl.k f g (fun c i z => by have := n_X9_readsMost z; omega) (fun c i z => by have := n_X10_readsMost z; omega), hz.k f (fun c i z => by have := n_X9_readsMost z; omega), hw.k f g (fun c i z => by have := n_X9_readsMost z; omega) (fun c i z => by have := n_X10_readsMost z; omega)⟩
theorem rr_bestMonth (N : Nat) (hN : 50000 ≤ N) {σ τ : Mem} (h : RR σ τ) (x1 x2 x3 : Int32) : ∃ r σ' τ', f_X9_bestMonth N x1 x2 x3 σ = some (r, σ') ∧ f_X10_bestMonth N x1 x2 x3 τ = some (r, τ') ∧ RR σ' τ' := by
  obtain ⟨ht, hp, hn, hk, hx, hl, hz, hw⟩ := h
  obtain ⟨r, σ', τ', e1, e2, ⟨lw, hlw, kx, ky⟩⟩ := s_bestMonth N (by omega) hl hp hn x1 x2 x3
  have f : Sc W_X9_bestMonth σ σ' := fun c i z => (fr_X9_bestMonth N x1 x2 x3 σ _ _ e1 c i z).1
  have g : Sc W_X10_bestMonth τ τ' := fun c i z => (fr_X10_bestMonth N x1 x2 x3 τ _ _ e2 c i z).1
  have gall : ∀ i, i < 151 → gi τ' 1 i = gi τ 1 i := fun i _ => g 1 i (fun z => by have := n_X10_bestMonth z; omega)
  have g145 : gi τ' 1 145 = gi τ 1 145 := gall 145 (by decide)
  exact ⟨r, σ', τ', e1, e2, ht.k f g (fun c i z => by have := n_X9_bestMonth z; omega) (fun c i z => by have := n_X10_bestMonth z; omega), hp.k f g (fun c i z => by have := n_X9_bestMonth z; omega) (fun c i z => by have := n_X10_bestMonth z; omega) g145, hn.k f (fun c i z => by have := n_X9_bestMonth z; omega) gall, hk.k f g (fun c i z => by have := n_X9_bestMonth z; omega) (fun c i z => by have := n_X10_bestMonth z; omega) g145, hx.k f g (fun c i z => by have := n_X9_bestMonth z; omega) (fun c i z => by have := n_X10_bestMonth z; omega), hl.k f g (fun c i z => by have := n_X9_bestMonth z; omega) (fun c i z => by have := n_X10_bestMonth z; omega), hz.k f (fun c i z => by have := n_X9_bestMonth z; omega), hw.k f g (fun c i z => by have := n_X9_bestMonth z; omega) (fun c i z => by have := n_X10_bestMonth z; omega)⟩
theorem rr_tales (N : Nat) (hN : 50000 ≤ N) {σ τ : Mem} (h : RR σ τ) (x1 x2 : Int32) : ∃ r σ' τ', f_X9_tales N x1 x2 σ = some (r, σ') ∧ f_X10_tales N x1 x2 τ = some (r, τ') ∧ RR σ' τ' := by
  obtain ⟨ht, hp, hn, hk, hx, hl, hz, hw⟩ := h
  obtain ⟨r, σ', τ', e1, e2⟩ := s_tales N (by omega) hl hp hn x1 x2
  have f : Sc W_X9_tales σ σ' := fun c i z => (fr_X9_tales N x1 x2 σ _ _ e1 c i z).1
  have g : Sc W_X10_tales τ τ' := fun c i z => (fr_X10_tales N x1 x2 τ _ _ e2 c i z).1
  have gall : ∀ i, i < 151 → gi τ' 1 i = gi τ 1 i := fun i _ => g 1 i (fun z => by have := n_X10_tales z; omega)
  have g145 : gi τ' 1 145 = gi τ 1 145 := gall 145 (by decide)
  exact ⟨r, σ', τ', e1, e2, ht.k f g (fun c i z => by have := n_X9_tales z; omega) (fun c i z => by have := n_X10_tales z; omega), hp.k f g (fun c i z => by have := n_X9_tales z; omega) (fun c i z => by have := n_X10_tales z; omega) g145, hn.k f (fun c i z => by have := n_X9_tales z; omega) gall, hk.k f g (fun c i z => by have := n_X9_tales z; omega) (fun c i z => by have := n_X10_tales z; omega) g145, hx.k f g (fun c i z => by have := n_X9_tales z; omega) (fun c i z => by have := n_X10_tales z; omega), hl.k f g (fun c i z => by have := n_X9_tales z; omega) (fun c i z => by have := n_X10_tales z; omega), hz.k f (fun c i z => by have := n_X9_tales z; omega), hw.k f g (fun c i z => by have := n_X9_tales z; omega) (fun c i z => by have := n_X10_tales z; omega)⟩
theorem rr_far (N : Nat) (hN : 50000 ≤ N) {σ τ : Mem} (h : RR σ τ) (x1 x2 : Int32) : ∃ r σ' τ', f_X9_far N x1 x2 σ = some (r, σ') ∧ f_X10_far N x1 x2 τ = some (r, τ') ∧ RR σ' τ' := by
  obtain ⟨ht, hp, hn, hk, hx, hl, hz, hw⟩ := h
  obtain ⟨r, σ', τ', e1, e2⟩ := s_far N (by omega) hx x1 x2
  have f : Sc W_X9_far σ σ' := fun c i z => (fr_X9_far N x1 x2 σ _ _ e1 c i z).1
  have g : Sc W_X10_far τ τ' := fun c i z => (fr_X10_far N x1 x2 τ _ _ e2 c i z).1
  have gall : ∀ i, i < 151 → gi τ' 1 i = gi τ 1 i := fun i _ => g 1 i (fun z => by have := n_X10_far z; omega)
  have g145 : gi τ' 1 145 = gi τ 1 145 := gall 145 (by decide)
  exact ⟨r, σ', τ', e1, e2, ht.k f g (fun c i z => by have := n_X9_far z; omega) (fun c i z => by have := n_X10_far z; omega), hp.k f g (fun c i z => by have := n_X9_far z; omega) (fun c i z => by have := n_X10_far z; omega) g145, hn.k f (fun c i z => by have := n_X9_far z; omega) gall, hk.k f g (fun c i z => by have := n_X9_far z; omega) (fun c i z => by have := n_X10_far z; omega) g145, hx.k f g (fun c i z => by have := n_X9_far z; omega) (fun c i z => by have := n_X10_far z; omega), hl.k f g (fun c i z => by have := n_X9_far z; omega) (fun c i z => by have := n_X10_far z; omega), hz.k f (fun c i z => by have := n_X9_far z; omega), hw.k f g (fun c i z => by have := n_X9_far z; omega) (fun c i z => by have := n_X10_far z; omega)⟩
theorem rr_nearest (N : Nat) (hN : 50000 ≤ N) {σ τ : Mem} (h : RR σ τ) (x1 x2 : Int32) : ∃ r σ' τ', f_X9_nearest N x1 x2 σ = some (r, σ') ∧ f_X10_nearest N x1 x2 τ = some (r, τ') ∧ RR σ' τ' := by
  obtain ⟨ht, hp, hn, hk, hx, hl, hz, hw⟩ := h
  obtain ⟨r, σ', τ', e1, e2, gRt, gRx⟩ := s_nearest N (by omega) ht hx x1 x2
  have f : Sc W_X9_nearest σ σ' := fun c i z => (fr_X9_nearest N x1 x2 σ _ _ e1 c i z).1
  have g : Sc W_X10_nearest τ τ' := fun c i z => (fr_X10_nearest N x1 x2 τ _ _ e2 c i z).1
  have gall : ∀ i, i < 151 → gi τ' 1 i = gi τ 1 i := fun i _ => g 1 i (fun z => by have := n_X10_nearest z; omega)
  have g145 : gi τ' 1 145 = gi τ 1 145 := gall 145 (by decide)
  exact ⟨r, σ', τ', e1, e2, gRt, hp.k f g (fun c i z => by have := n_X9_nearest z; omega) (fun c i z => by have := n_X10_nearest z; omega) g145, hn.k f (fun c i z => by have := n_X9_nearest z; omega) gall, hk.k f g (fun c i z => by have := n_X9_nearest z; omega) (fun c i z => by have := n_X10_nearest z; omega) g145, gRx, hl.k f g (fun c i z => by have := n_X9_nearest z; omega) (fun c i z => by have := n_X10_nearest z; omega), hz.k f (fun c i z => by have := n_X9_nearest z; omega), hw.k f g (fun c i z => by have := n_X9_nearest z; omega) (fun c i z => by have := n_X10_nearest z; omega)⟩
theorem rr_fromWhom (N : Nat) (hN : 50000 ≤ N) {σ τ : Mem} (h : RR σ τ) : ∃ r σ' τ', f_X9_fromWhom N σ = some (r, σ') ∧ f_X10_fromWhom N τ = some (r, τ') ∧ RR σ' τ' := by
  obtain ⟨ht, hp, hn, hk, hx, hl, hz, hw⟩ := h
  obtain ⟨r, σ', τ', e1, e2⟩ := s_fromWhom N (by omega) hx
  have f : Sc W_X9_fromWhom σ σ' := fun c i z => (fr_X9_fromWhom N σ _ _ e1 c i z).1
  have g : Sc W_X10_fromWhom τ τ' := fun c i z => (fr_X10_fromWhom N τ _ _ e2 c i z).1
  have gall : ∀ i, i < 151 → gi τ' 1 i = gi τ 1 i := fun i _ => g 1 i (fun z => by have := n_X10_fromWhom z; omega)
  have g145 : gi τ' 1 145 = gi τ 1 145 := gall 145 (by decide)
  exact ⟨r, σ', τ', e1, e2, ht.k f g (fun c i z => by have := n_X9_fromWhom z; omega) (fun c i z => by have := n_X10_fromWhom z; omega), hp.k f g (fun c i z => by have := n_X9_fromWhom z; omega) (fun c i z => by have := n_X10_fromWhom z; omega) g145, hn.k f (fun c i z => by have := n_X9_fromWhom z; omega) gall, hk.k f g (fun c i z => by have := n_X9_fromWhom z; omega) (fun c i z => by have := n_X10_fromWhom z; omega) g145, hx.k f g (fun c i z => by have := n_X9_fromWhom z; omega) (fun c i z => by have := n_X10_fromWhom z; omega), hl.k f g (fun c i z => by have := n_X9_fromWhom z; omega) (fun c i z => by have := n_X10_fromWhom z; omega), hz.k f (fun c i z => by have := n_X9_fromWhom z; omega), hw.k f g (fun c i z => by have := n_X9_fromWhom z; omega) (fun c i z => by have := n_X10_fromWhom z; omega)⟩
theorem rr_misspelt (N : Nat) (hN : 50000 ≤ N) {σ τ : Mem} (h : RR σ τ) (x1 x2 : Int32) : ∃ r σ' τ', f_X9_misspelt N x1 x2 σ = some (r, σ') ∧ f_X10_misspelt N x1 x2 τ = some (r, τ') ∧ RR σ' τ' := by
  obtain ⟨ht, hp, hn, hk, hx, hl, hz, hw⟩ := h
  obtain ⟨r, e1, e2⟩ := s_misspelt N (by omega) hx x1 x2
  exact ⟨r, σ, τ, e1, e2, ht, hp, hn, hk, hx, hl, hz, hw⟩
theorem rr_bids (N : Nat) (hN : 50000 ≤ N) {σ τ : Mem} (h : RR σ τ) (x1 x2 x3 : Int32) : ∃ r σ' τ', f_X9_bids N x1 x2 x3 σ = some (r, σ') ∧ f_X10_bids N x1 x2 x3 τ = some (r, τ') ∧ RR σ' τ' := by
  obtain ⟨ht, hp, hn, hk, hx, hl, hz, hw⟩ := h
  obtain ⟨r, σ', τ', e1, e2, gRt⟩ := s_bids N (by omega) ht x1 x2 x3
  have f : Sc W_X9_bids σ σ' := fun c i z => (fr_X9_bids N x1 x2 x3 σ _ _ e1 c i z).1
  have g : Sc W_X10_bids τ τ' := fun c i z => (fr_X10_bids N x1 x2 x3 τ _ _ e2 c i z).1
  have gall : ∀ i, i < 151 → gi τ' 1 i = gi τ 1 i := fun i _ => g 1 i (fun z => by have := n_X10_bids z; omega)
  have g145 : gi τ' 1 145 = gi τ 1 145 := gall 145 (by decide)
  exact ⟨r, σ', τ', e1, e2, gRt, hp.k f g (fun c i z => by have := n_X9_bids z; omega) (fun c i z => by have := n_X10_bids z; omega) g145, hn.k f (fun c i z => by have := n_X9_bids z; omega) gall, hk.k f g (fun c i z => by have := n_X9_bids z; omega) (fun c i z => by have := n_X10_bids z; omega) g145, hx.k f g (fun c i z => by have := n_X9_bids z; omega) (fun c i z => by have := n_X10_bids z; omega), hl.k f g (fun c i z => by have := n_X9_bids z; omega) (fun c i z => by have := n_X10_bids z; omega), hz.k f (fun c i z => by have := n_X9_bids z; omega), hw.k f g (fun c i z => by have := n_X9_bids z; omega) (fun c i z => by have := n_X10_bids z; omega)⟩
theorem rr_divided (N : Nat) (hN : 50000 ≤ N) {σ τ : Mem} (h : RR σ τ) (x1 x2 x3 x4 : Int32) : ∃ r σ' τ', f_X9_divided N x1 x2 x3 x4 σ = some (r, σ') ∧ f_X10_divided N x1 x2 x3 x4 τ = some (r, τ') ∧ RR σ' τ' := by
  obtain ⟨ht, hp, hn, hk, hx, hl, hz, hw⟩ := h
  obtain ⟨r, σ', τ', e1, e2, gRt⟩ := s_divided N (by omega) ht x1 x2 x3 x4
  have f : Sc W_X9_divided σ σ' := fun c i z => (fr_X9_divided N x1 x2 x3 x4 σ _ _ e1 c i z).1
  have g : Sc W_X10_divided τ τ' := fun c i z => (fr_X10_divided N x1 x2 x3 x4 τ _ _ e2 c i z).1
  have gall : ∀ i, i < 151 → gi τ' 1 i = gi τ 1 i := fun i _ => g 1 i (fun z => by have := n_X10_divided z; omega)
  have g145 : gi τ' 1 145 = gi τ 1 145 := gall 145 (by decide)
  exact ⟨r, σ', τ', e1, e2, gRt, hp.k f g (fun c i z => by have := n_X9_divided z; omega) (fun c i z => by have := n_X10_divided z; omega) g145, hn.k f (fun c i z => by have := n_X9_divided z; omega) gall, hk.k f g (fun c i z => by have := n_X9_divided z; omega) (fun c i z => by have := n_X10_divided z; omega) g145, hx.k f g (fun c i z => by have := n_X9_divided z; omega) (fun c i z => by have := n_X10_divided z; omega), hl.k f g (fun c i z => by have := n_X9_divided z; omega) (fun c i z => by have := n_X10_divided z; omega), hz.k f (fun c i z => by have := n_X9_divided z; omega), hw.k f g (fun c i z => by have := n_X9_divided z; omega) (fun c i z => by have := n_X10_divided z; omega)⟩
theorem rr_coins (N : Nat) (hN : 50000 ≤ N) {σ τ : Mem} (h : RR σ τ) (x1 x2 x3 : Int32) : ∃ r σ' τ', f_X9_coins N x1 x2 x3 σ = some (r, σ') ∧ f_X10_coins N x1 x2 x3 τ = some (r, τ') ∧ RR σ' τ' := by
  obtain ⟨ht, hp, hn, hk, hx, hl, hz, hw⟩ := h
  obtain ⟨r, σ', τ', e1, e2, gRt⟩ := s_coins N (by omega) ht x1 x2 x3
  have f : Sc W_X9_coins σ σ' := fun c i z => (fr_X9_coins N x1 x2 x3 σ _ _ e1 c i z).1
  have g : Sc W_X10_coins τ τ' := fun c i z => (fr_X10_coins N x1 x2 x3 τ _ _ e2 c i z).1
  have gall : ∀ i, i < 151 → gi τ' 1 i = gi τ 1 i := fun i _ => g 1 i (fun z => by have := n_X10_coins z; omega)
  have g145 : gi τ' 1 145 = gi τ 1 145 := gall 145 (by decide)
  exact ⟨r, σ', τ', e1, e2, gRt, hp.k f g (fun c i z => by have := n_X9_coins z; omega) (fun c i z => by have := n_X10_coins z; omega) g145, hn.k f (fun c i z => by have := n_X9_coins z; omega) gall, hk.k f g (fun c i z => by have := n_X9_coins z; omega) (fun c i z => by have := n_X10_coins z; omega) g145, hx.k f g (fun c i z => by have := n_X9_coins z; omega) (fun c i z => by have := n_X10_coins z; omega), hl.k f g (fun c i z => by have := n_X9_coins z; omega) (fun c i z => by have := n_X10_coins z; omega), hz.k f (fun c i z => by have := n_X9_coins z; omega), hw.k f g (fun c i z => by have := n_X9_coins z; omega) (fun c i z => by have := n_X10_coins z; omega)⟩
theorem rr_lent (N : Nat) (hN : 50000 ≤ N) {σ τ : Mem} (h : RR σ τ) (x1 x2 x3 : Int32) : ∃ r σ' τ', f_X9_lent N x1 x2 x3 σ = some (r, σ') ∧ f_X10_lent N x1 x2 x3 τ = some (r, τ') ∧ RR σ' τ' := by
  obtain ⟨ht, hp, hn, hk, hx, hl, hz, hw⟩ := h
  obtain ⟨r, σ', τ', e1, e2, kt, kv⟩ := s_lent N (by omega) hl hp hn hz x1 x2 x3
  have f : Sc W_X9_lent σ σ' := fun c i z => (fr_X9_lent N x1 x2 x3 σ _ _ e1 c i z).1
  have g : Sc W_X10_lent τ τ' := fun c i z => (fr_X10_lent N x1 x2 x3 τ _ _ e2 c i z).1
  have gall := kv.1
  have g145 : gi τ' 1 145 = gi τ 1 145 := gall 145 (by decide)
  exact ⟨r, σ', τ', e1, e2, ht.k f g (fun c i z => by have := n_X9_lent z; omega) (fun c i z => by have := n_X10_lent z; omega), hp.k f g (fun c i z => by have := n_X9_lent z; omega) (fun c i z => by have := n_X10_lent z; omega) g145, hn.k f (fun c i z => by have := n_X9_lent z; omega) gall, hk.k f g (fun c i z => by have := n_X9_lent z; omega) (fun c i z => by have := n_X10_lent z; omega) g145, hx.k f g (fun c i z => by have := n_X9_lent z; omega) (fun c i z => by have := n_X10_lent z; omega), hl.k f g (fun c i z => by have := n_X9_lent z; omega) (fun c i z => by have := n_X10_lent z; omega), hz.k f (fun c i z => by have := n_X9_lent z; omega), hw.k f g (fun c i z => by have := n_X9_lent z; omega) (fun c i z => by have := n_X10_lent z; omega)⟩
theorem rr_seed (N : Nat) (hN : 50000 ≤ N) {σ τ : Mem} (h : RR σ τ) (x1 : Int32) : ∃ r σ' τ', f_X9_seed N x1 σ = some (r, σ') ∧ f_X10_seed N x1 τ = some (r, τ') ∧ RR σ' τ' := by
  obtain ⟨ht, hp, hn, hk, hx, hl, hz, hw⟩ := h
  obtain ⟨r, σ', τ', e1, e2, gRn⟩ := s_seed N hn x1
  have f : Sc W_X9_seed σ σ' := fun c i z => (fr_X9_seed N x1 σ _ _ e1 c i z).1
  have g : Sc W_X10_seed τ τ' := fun c i z => (fr_X10_seed N x1 τ _ _ e2 c i z).1
  have g145 : gi τ' 1 145 = gi τ 1 145 := by
    obtain ⟨r2, τ2, q1, q2⟩ := k_seed N x1 τ
    rw [← same_o e2 q1]; exact q2
  exact ⟨r, σ', τ', e1, e2, ht.k f g (fun c i z => by have := n_X9_seed z; omega) (fun c i z => by have := n_X10_seed z; omega), hp.k f g (fun c i z => by have := n_X9_seed z; omega) (fun c i z => by have := n_X10_seed z; omega) g145, gRn, hk.k f g (fun c i z => by have := n_X9_seed z; omega) (fun c i z => by have := n_X10_seed z; omega) g145, hx.k f g (fun c i z => by have := n_X9_seed z; omega) (fun c i z => by have := n_X10_seed z; omega), hl.k f g (fun c i z => by have := n_X9_seed z; omega) (fun c i z => by have := n_X10_seed z; omega), hz.k f (fun c i z => by have := n_X9_seed z; omega), hw.k f g (fun c i z => by have := n_X9_seed z; omega) (fun c i z => by have := n_X10_seed z; omega)⟩
theorem rr_keep (N : Nat) (hN : 50000 ≤ N) {σ τ : Mem} (h : RR σ τ) : ∃ r σ' τ', f_X9_keep N σ = some (r, σ') ∧ f_X10_keep N τ = some (r, τ') ∧ RR σ' τ' := by
  obtain ⟨ht, hp, hn, hk, hx, hl, hz, hw⟩ := h
  obtain ⟨r, σ', τ', e1, e2, gRn, gRk⟩ := s_keep N (by omega) hn
  have f : Sc W_X9_keep σ σ' := fun c i z => (fr_X9_keep N σ _ _ e1 c i z).1
  have g : Sc W_X10_keep τ τ' := fun c i z => (fr_X10_keep N τ _ _ e2 c i z).1
  have gall : ∀ i, i < 151 → gi τ' 1 i = gi τ 1 i := fun i _ => g 1 i (fun z => by have := n_X10_keep z; omega)
  have g145 : gi τ' 1 145 = gi τ 1 145 := gall 145 (by decide)
  have gz : Rz σ' := by
    obtain ⟨r2, σ2, q1, q2⟩ := k_keep N (by omega) σ
    rw [same_o e1 q1] at q2
    have e30 : gi σ' 3 0 = gi σ 3 0 := f 3 0 (fun z => by have := n_X9_keep z; omega)
    unfold Rz
    rw [e30]
    refine ⟨fun p hp hb j hj => ?_, fun _ p hp hb j hj => ?_⟩
    · rw [f 46 j (fun z => by have := n_X9_keep z; omega)]; exact hz.1 p hp hb j hj
    · rw [q2 j hj]; exact hz.1 p hp hb j hj
  exact ⟨r, σ', τ', e1, e2, ht.k f g (fun c i z => by have := n_X9_keep z; omega) (fun c i z => by have := n_X10_keep z; omega), hp.k f g (fun c i z => by have := n_X9_keep z; omega) (fun c i z => by have := n_X10_keep z; omega) g145, gRn, gRk, hx.k f g (fun c i z => by have := n_X9_keep z; omega) (fun c i z => by have := n_X10_keep z; omega), hl.k f g (fun c i z => by have := n_X9_keep z; omega) (fun c i z => by have := n_X10_keep z; omega), gz, hw.k f g (fun c i z => by have := n_X9_keep z; omega) (fun c i z => by have := n_X10_keep z; omega)⟩
theorem rr_undo (N : Nat) (hN : 50000 ≤ N) {σ τ : Mem} (h : RR σ τ) : ∃ r σ' τ', f_X9_undo N σ = some (r, σ') ∧ f_X10_undo N τ = some (r, τ') ∧ RR σ' τ' := by
  obtain ⟨ht, hp, hn, hk, hx, hl, hz, hw⟩ := h
  obtain ⟨r, σ', τ', e1, e2, gRn, gRk⟩ := s_undo N (by omega) hn hk
  have f : Sc W_X9_undo σ σ' := fun c i z => (fr_X9_undo N σ _ _ e1 c i z).1
  have g : Sc W_X10_undo τ τ' := fun c i z => (fr_X10_undo N τ _ _ e2 c i z).1
  have g145 : gi τ' 1 145 = gi τ 1 145 := by
    obtain ⟨r2, τ2, q1, q2⟩ := k_undoM N (by omega) τ
    rw [← same_o e2 q1]; exact q2
  have gz : Rz σ' := by
    obtain ⟨r2, σ2, q1, q2⟩ := k_undo N (by omega) σ
    rw [same_o e1 q1] at q2
    rcases q2 with q | ⟨q, q2⟩
    · rw [q]; exact hz
    · have e30 : gi σ' 3 0 = gi σ 3 0 := f 3 0 (fun z => by have := n_X9_undo z; omega)
      have h11 : gi σ 0 11 = 1 := by
        rcases hk with ⟨k1, _⟩ | ⟨k1, _⟩
        · exact absurd k1 q
        · exact k1
      unfold Rz
      rw [e30]
      refine ⟨fun p hp hb j hj => ?_, fun _ p hp hb j hj => ?_⟩
      · rw [q2 j hj]; exact hz.2 h11 p hp hb j hj
      · rw [f 61 j (fun z => by have := n_X9_undo z; omega)]; exact hz.2 h11 p hp hb j hj
  exact ⟨r, σ', τ', e1, e2, ht.k f g (fun c i z => by have := n_X9_undo z; omega) (fun c i z => by have := n_X10_undo z; omega), hp.k f g (fun c i z => by have := n_X9_undo z; omega) (fun c i z => by have := n_X10_undo z; omega) g145, gRn, gRk, hx.k f g (fun c i z => by have := n_X9_undo z; omega) (fun c i z => by have := n_X10_undo z; omega), hl.k f g (fun c i z => by have := n_X9_undo z; omega) (fun c i z => by have := n_X10_undo z; omega), gz, hw.k f g (fun c i z => by have := n_X9_undo z; omega) (fun c i z => by have := n_X10_undo z; omega)⟩
theorem rr_check (N : Nat) (hN : 50000 ≤ N) {σ τ : Mem} (h : RR σ τ) (x1 : Int32) : ∃ r σ' τ', f_X9_check N x1 σ = some (r, σ') ∧ f_X10_check N x1 τ = some (r, τ') ∧ RR σ' τ' := by
  obtain ⟨ht, hp, hn, hk, hx, hl, hz, hw⟩ := h
  obtain ⟨r, σ', τ', e1, e2, gRt⟩ := s_check N (by omega) ht hp hn x1
  have f : Sc W_X9_check σ σ' := fun c i z => (fr_X9_check N x1 σ _ _ e1 c i z).1
  have g : Sc W_X10_check τ τ' := fun c i z => (fr_X10_check N x1 τ _ _ e2 c i z).1
  have gall : ∀ i, i < 151 → gi τ' 1 i = gi τ 1 i := fun i _ => g 1 i (fun z => by have := n_X10_check z; omega)
  have g145 : gi τ' 1 145 = gi τ 1 145 := gall 145 (by decide)
  exact ⟨r, σ', τ', e1, e2, gRt, hp.k f g (fun c i z => by have := n_X9_check z; omega) (fun c i z => by have := n_X10_check z; omega) g145, hn.k f (fun c i z => by have := n_X9_check z; omega) gall, hk.k f g (fun c i z => by have := n_X9_check z; omega) (fun c i z => by have := n_X10_check z; omega) g145, hx.k f g (fun c i z => by have := n_X9_check z; omega) (fun c i z => by have := n_X10_check z; omega), hl.k f g (fun c i z => by have := n_X9_check z; omega) (fun c i z => by have := n_X10_check z; omega), hz.k f (fun c i z => by have := n_X9_check z; omega), hw.k f g (fun c i z => by have := n_X9_check z; omega) (fun c i z => by have := n_X10_check z; omega)⟩
theorem rr_count (N : Nat) (hN : 50000 ≤ N) {σ τ : Mem} (h : RR σ τ) (x1 : Int32) : ∃ r σ' τ', f_X9_count N x1 σ = some (r, σ') ∧ f_X10_count N x1 τ = some (r, τ') ∧ RR σ' τ' := by
  obtain ⟨ht, hp, hn, hk, hx, hl, hz, hw⟩ := h
  obtain ⟨r, e1, e2⟩ := s_count N (by omega) ht hp hn hx hl x1
  exact ⟨r, σ, τ, e1, e2, ht, hp, hn, hk, hx, hl, hz, hw⟩
