/-! feed -/
theorem i8_32 (y : Int8) : y.toInt32.toInt8 = y := by simp
def RtN (n : Nat) (σ τ : Mem) : Prop := gi σ 1 1 = nI n ∧ gi τ 0 5 = nI n ∧ ∀ j, j < 260 → gi σ 2 j = gi τ 5 j &&& 255 ∧ Bt (gi τ 5 j)
def put1 (s : Mem) (n : Nat) (v : Int32) : Mem := si (si s 2 n v) 1 1 (nI (n + 1))
def typ1 (s : Mem) (n : Nat) (v : Int32) : Mem := si (si s 5 n v) 0 5 (nI (n + 1))
theorem RtN.put {n : Nat} {σ τ : Mem} (h : RtN n σ τ) (hn : n < 260) {v w : Int32} (hv : v = w &&& 255) (hw : Bt w) : RtN (n + 1) (put1 σ n v) (typ1 τ n w) := by
  obtain ⟨a, b, c⟩ := h
  refine ⟨gi_eq _ _ _ _, gi_eq _ _ _ _, fun j hj => ?_⟩
  have e1 : gi (put1 σ n v) 2 j = if j = n then v else gi σ 2 j := by
    unfold put1
    rw [gi_ne (c' := 2) (c := 1) (by decide), gi_si]
    simp
  have e2 : gi (typ1 τ n w) 5 j = if j = n then w else gi τ 5 j := by
    unfold typ1
    rw [gi_ne (c' := 5) (c := 0) (by decide), gi_si]
    simp
  rw [e1, e2]
  by_cases e : j = n
  · rw [if_pos e, if_pos e]
    exact ⟨hv, hw⟩
  · rw [if_neg e, if_neg e]
    exact c j hj
theorem sl_put (N : Nat) (x : Int32) (rec : Int32 → Mem → Option (Unit × Mem)) {sh n : Nat} (hs : sh < 2 ^ 31) (hn : n < 260) {s : Mem} (h : gi s 1 1 = nI n) : st_X8_put_3 N x rec (nI sh) s = rec (nI sh + (-8)) (put1 s n (((x.toUInt32 >>> ((nI sh).toUInt32 &&& Int32.toUInt32 31)).toInt32) &&& 255)) := by
  unfold st_X8_put_3
  rw [if_neg (nI_pos hs), h, if_neg (by rw [li_260]; exact nI_ge hn (by decide)), chk_n hn (by decide), ix_n (by omega)]
  simp only [lt_e]
  rw [gi_ne (by decide), h, nI_1]
  rfl
theorem sl_types (N : Nat) (x : Int32) (rec : Int32 → Mem → Option (Unit × Mem)) {k n : Nat} (hk : k < 2 ^ 31) (hn : n < 260) {s : Mem} (h : gi s 0 5 = nI n) : st_X10_types_2 N x rec (nI k) s = rec (nI k + (-1)) (typ1 s n ((x >>> (((8 : Int32) * nI k) &&& 31)).toInt8.toInt32).toInt8.toInt32) := by
  unfold st_X10_types_2
  rw [if_neg (nI_pos hk), h, chk_n hn (by decide), ix_n (by omega)]
  simp only [lt_e]
  rw [gi_ne (by decide), h, nI_1]
  rfl
theorem byte_eq (x : Int32) {k : Nat} (hk : k < 4) : ((x.toUInt32 >>> ((nI (8 * k)).toUInt32 &&& Int32.toUInt32 31)).toInt32) &&& 255 = ((x >>> (((8 : Int32) * nI k) &&& 31)).toInt8.toInt32).toInt8.toInt32 &&& 255 := by
  rw [i8_32, bp_b, li_8, pk_mul]
  apply b_ext
  intro i hi
  rw [b_and, b_and, b_255, b_ushr (8 * k) (by omega), b_sshr (8 * k) (by omega) x hi]
  by_cases h : i < 8
  · rw [if_pos (by omega)]
  · simp [h]
theorem byte_bt (y : Int32) : Bt ((y.toInt8.toInt32).toInt8.toInt32) := by
  unfold Bt
  rw [i8_32]
theorem s_put (N : Nat) (hN : 10 ≤ N) {n : Nat} {σ τ : Mem} (h : RtN n σ τ) (hn : n + 4 ≤ 260) (x : Int32) : ∃ σ' τ', f_X8_put N x σ = some ((), σ') ∧ f_X10_types N x τ = some ((), τ') ∧ RtN (n + 4) σ' τ' := by
  unfold f_X8_put f_X10_types
  obtain ⟨M, rfl⟩ : ∃ M, N = M + 5 := ⟨N - 5, by omega⟩
  have h1 := h.put (by omega) (byte_eq x (k := 3) (by omega)) (byte_bt _)
  have h2 := h1.put (by omega) (byte_eq x (k := 2) (by omega)) (byte_bt _)
  have h3 := h2.put (by omega) (byte_eq x (k := 1) (by omega)) (byte_bt _)
  have h4 := h3.put (by omega) (byte_eq x (k := 0) (by omega)) (byte_bt _)
  refine ⟨_, _, ?_, ?_, h4⟩
  · refine (sl_put (M + 5) x (itr _ _ (M + 4)) (sh := 24) (by decide) (by omega) h.1).trans ?_
    rw [show nI 24 + (-8) = nI 16 by decide]
    refine (sl_put (M + 5) x (itr _ _ (M + 3)) (sh := 16) (by decide) (by omega) h1.1).trans ?_
    rw [show nI 16 + (-8) = nI 8 by decide]
    refine (sl_put (M + 5) x (itr _ _ (M + 2)) (sh := 8) (by decide) (by omega) h2.1).trans ?_
    rw [show nI 8 + (-8) = nI 0 by decide]
    refine (sl_put (M + 5) x (itr _ _ (M + 1)) (sh := 0) (by decide) (by omega) h3.1).trans ?_
    rw [show nI 0 + (-8) = -8 by decide]
    show st_X8_put_3 (M + 5) x _ (-8) _ = _
    unfold st_X8_put_3
    rw [if_pos (by decide)]
  · refine (sl_types (M + 5) x (itr _ _ (M + 4)) (k := 3) (by decide) (by omega) h.2.1).trans ?_
    rw [show nI 3 + (-1) = nI 2 by decide]
    refine (sl_types (M + 5) x (itr _ _ (M + 3)) (k := 2) (by decide) (by omega) h1.2.1).trans ?_
    rw [show nI 2 + (-1) = nI 1 by decide]
    refine (sl_types (M + 5) x (itr _ _ (M + 2)) (k := 1) (by decide) (by omega) h2.2.1).trans ?_
    rw [show nI 1 + (-1) = nI 0 by decide]
    refine (sl_types (M + 5) x (itr _ _ (M + 1)) (k := 0) (by decide) (by omega) h3.2.1).trans ?_
    rw [show nI 0 + (-1) = -1 by decide]
    show st_X10_types_2 (M + 5) x _ (-1) _ = _
    unfold st_X10_types_2
    rw [if_pos (by decide)]
theorem s_feed (N : Nat) (hN : 10 ≤ N) {σ τ : Mem} (h : Rt σ τ) (x1 x2 x3 x4 x5 : Int32) : ∃ r σ' τ', f_X9_feed N x1 x2 x3 x4 x5 σ = some (r, σ') ∧ f_X10_feed N x1 x2 x3 x4 x5 τ = some (r, τ') ∧ Rt σ' τ' := by
  unfold f_X9_feed f_X10_feed f_X8_hasRoom
  obtain ⟨⟨n, hn, a, b⟩, c⟩ := id h
  rw [a, b, li_20, nI_add, li_260]
  by_cases hr : n + 20 ≤ 260
  · rw [if_neg (nI_nlt hr (by decide)), if_pos (nI_le hr (by decide)), bd_some, if_neg (by decide)]
    have h0 : RtN n σ τ := ⟨a, b, c⟩
    obtain ⟨σ1, τ1, e1, d1, h1⟩ := s_put N hN h0 (by omega) x1
    obtain ⟨σ2, τ2, e2, d2, h2⟩ := s_put N hN h1 (by omega) x2
    obtain ⟨σ3, τ3, e3, d3, h3⟩ := s_put N hN h2 (by omega) x3
    obtain ⟨σ4, τ4, e4, d4, h4⟩ := s_put N hN h3 (by omega) x4
    obtain ⟨σ5, τ5, e5, d5, h5⟩ := s_put N hN h4 (by omega) x5
    simp only [e1, e2, e3, e4, e5, d1, d2, d3, d4, d5, bd_some]
    exact ⟨_, σ5, τ5, rfl, by rw [h5.1, h5.2.1], ⟨_, by omega, h5.1, h5.2.1⟩, h5.2.2⟩
  · rw [if_pos (nI_lt (by omega) (by omega)), if_neg (nI_ge (by omega) (by omega)), bd_some, if_pos rfl]
    exact ⟨-1, _, _, rfl, rfl, h⟩
/-! text, check -/
def tfl (k : Nat) : Nat → Nat → Mem → Mem
  | 0, _, s => s
  | n + 1, i, s => tfl k n (i + 1) (si s 33 (40 * k + i) (gi s 5 i).toInt8.toInt32)
theorem tfl_gi (k : Nat) : ∀ (n i : Nat) (s : Mem) (c j : Nat), gi (tfl k n i s) c j = if c = 33 ∧ 40 * k + i ≤ j ∧ j < 40 * k + i + n then (gi s 5 (j - 40 * k)).toInt8.toInt32 else gi s c j
  | 0, i, s, c, j => by
    rw [if_neg (by omega)]
    rfl
  | n + 1, i, s, c, j => by
    show gi (tfl k n (i + 1) _) c j = _
    rw [tfl_gi k n (i + 1) _ c j, gi_ne (c' := 5) (c := 33) (by decide), gi_si]
    by_cases h1 : c = 33 ∧ 40 * k + (i + 1) ≤ j ∧ j < 40 * k + (i + 1) + n
    · rw [if_pos h1, if_pos (show c = 33 ∧ 40 * k + i ≤ j ∧ j < 40 * k + i + (n + 1) by omega)]
    · rw [if_neg h1]
      by_cases h2 : c = 33 ∧ j = 40 * k + i
      · rw [if_pos h2, if_pos (show c = 33 ∧ 40 * k + i ≤ j ∧ j < 40 * k + i + (n + 1) by omega), show j - 40 * k = i by omega]
      · rw [if_neg h2, if_neg (show ¬ (c = 33 ∧ 40 * k + i ≤ j ∧ j < 40 * k + i + (n + 1)) by omega)]
theorem sl_laysText (N : Nat) {k n i : Nat} (hk : k < 7) (hn : n ≤ 40) (hi : i < n) (rec : Int32 → Mem → Option (Unit × Mem)) (s : Mem) : st_X10_laysText_9 N (nI k) (nI n) rec (nI i) s = rec (nI (i + 1)) (si s 33 (40 * k + i) (gi s 5 i).toInt8.toInt32) := by
  unfold st_X10_laysText_9
  rw [if_neg (nI_ge hi (by omega)), li_40, pk_mul, nI_add, chk_n (by omega) (by decide), chk_n (by omega) (by decide), ix_n (by omega), ix_n (by omega)]
  simp only [lt_e, nI_1]
theorem lp_laysText (N : Nat) {k n : Nat} (hk : k < 7) (hn : n ≤ 40) : ∀ (m i M : Nat) (s : Mem), i + m = n → m < M → itr (fun _ _ => none) (st_X10_laysText_9 N (nI k) (nI n)) M (nI i) s = some ((), tfl k m i s)
  | m, i, 0, s, _, h2 => absurd h2 (by omega)
  | 0, i, M + 1, s, h1, _ => by
    rw [show i = n by omega]
    show st_X10_laysText_9 N (nI k) (nI n) _ (nI n) s = _
    unfold st_X10_laysText_9
    rw [if_pos (nI_le (by omega) (by omega))]
    rfl
  | m + 1, i, M + 1, s, h1, h2 => (sl_laysText N hk hn (by omega) _ s).trans (lp_laysText N hk hn m (i + 1) M _ (by omega) (by omega))
theorem e_laysText (N : Nat) (hN : 50 ≤ N) {k n : Nat} (hk : k < 7) (hn : n ≤ 40) (s : Mem) : ∃ s', f_X10_laysText N (nI k) (nI n) s = some ((), s') ∧ ∀ c j, gi s' c j = if c = 33 ∧ 40 * k ≤ j ∧ j < 40 * k + n then (gi s 5 (j - 40 * k)).toInt8.toInt32 else if c = 34 ∧ j = k then nI n else gi s c j := by
  unfold f_X10_laysText
  rw [chk_n hk (by decide), ix_n (by omega), lt_e, ← nI_0, lp_laysText N hk hn n 0 N _ (by omega) (by omega)]
  refine ⟨_, rfl, fun c j => ?_⟩
  rw [tfl_gi, gi_ne (c' := 5) (c := 34) (by decide), gi_si]
  rfl
theorem e_imin {a b : Nat} (h : a ≤ b) (hb : b < 2 ^ 31) : imin (nI a) (nI b) = nI a := by
  unfold imin
  by_cases e : a = b
  · subst e; rw [if_neg (nI_nlt (Nat.le_refl _) hb)]
  · rw [if_neg (nI_nlt h hb)]
theorem chkC_n {α : Type} {n n0 n1 : Nat} (h0 : n ≤ n0) (h1 : n ≤ n1) (hn : n < 2 ^ 31) (e : Option α) : chkC 0 0 (nI n) n0 n1 e = e := by
  unfold chkC
  rw [if_neg (by decide), if_neg (by decide), if_neg (nI_pos hn), if_neg (by rw [ix_n hn]; show ¬ n0 < 0 + n; omega), if_neg (by rw [ix_n hn]; show ¬ n1 < 0 + n; omega)]
theorem Rt.bt255 {σ τ : Mem} (h : Rt σ τ) {j : Nat} (hj : j < 260) : gi σ 2 j = (gi τ 5 j).toInt8.toInt32 &&& 255 := by
  rw [(h.2 j hj).1, (h.2 j hj).2]
theorem s_text (N : Nat) (hN : 50 ≤ N) {σ τ : Mem} (h : Rt σ τ) (hx : Rx σ τ) (x1 x2 : Int32) : ∃ r σ' τ', f_X9_text N x1 x2 σ = some (r, σ') ∧ f_X10_text N x1 x2 τ = some (r, τ') ∧ Rt σ' τ' ∧ Rx σ' τ' := by
  unfold f_X9_text f_X10_text
  simp only [e_isLetterC, e_in, bd_some, ite10, e_tapeHas, e_take, show isAr 2 = true from rfl, ckc_t]
  obtain ⟨⟨t, ht, a, b⟩, c⟩ := id h
  by_cases h1 : inR x1 0 5
  · rw [if_pos h1, if_pos h1]
    by_cases h2 : inR x2 1 40
    · rw [if_pos h2]
      obtain ⟨k, -, hk', rfl⟩ := inR_n (a := 0) (b := 5) rfl rfl (by decide) (by decide) h1
      obtain ⟨n, hn1, hn2, rfl⟩ := inR_n (a := 1) (b := 40) rfl rfl (by decide) (by decide) h2
      rw [a, b]
      by_cases h3 : n ≤ t
      · have h3' : nI n ≤ nI t := nI_le h3 (by omega)
        rw [if_pos ⟨h2, h3'⟩, if_pos h3']
        obtain ⟨τ1, e1, d1⟩ := e_laysText N hN (k := k) (n := n) (by omega) hn2 τ
        rw [e1, bd_some, lt_e]
        unfold f_X1_write
        rw [chk_n (by omega) (by decide), ix_n (by omega), li_40, e_imin hn2 (by decide)]
        simp only [lt_e]
        rw [chk_n (by omega) (by decide), chk_n (by omega) (by decide), gi_eq, show lenC 2 = 260 from rfl, chkC_n (by omega) (by omega) (by omega), bd_some]
        refine ⟨1, _, _, rfl, rfl, ?_, ?_⟩
        · refine ⟨⟨0, by omega, ?_, gi_eq _ _ _ _⟩, fun j hj => ?_⟩
          · rw [gi_cpy0 _ _ _ _ (by omega), if_neg (by omega), gi_ne (by decide), gi_eq]
            rfl
          · rw [gi_cpy0 _ _ _ _ (by omega), if_neg (by omega), gi_ne (by decide), gi_ne (by decide), gi_ne (by decide), d1, if_neg (by omega), if_neg (by omega)]
            exact c j hj
        · refine ⟨fun k' hk2 => ?_, fun j hj => ?_⟩
          · by_cases e : k' = k
            · subst e
              refine ⟨n, hn2, ?_, ?_, fun j hj => ?_⟩
              · rw [gi_cpy0 _ _ _ _ (by omega), if_neg (by omega), gi_eq]
              · rw [gi_ne (by decide), d1, if_neg (by omega), if_pos ⟨rfl, rfl⟩]
              · rw [gi_cpy0 _ _ _ _ (by omega), if_pos ⟨by omega, hj⟩, gi_ne (by decide), gi_ne (by decide), gi_ne (by decide), d1, if_pos ⟨rfl, by omega, by omega⟩, show 40 * k' + j - 40 * k' = j by omega]
                exact h.bt255 (by omega)
            · obtain ⟨m, m1, m2, m3, m4⟩ := hx.1 k' hk2
              refine ⟨m, m1, ?_, ?_, fun j hj => ?_⟩
              · rw [gi_cpy0 _ _ _ _ (by omega), if_neg (by omega), gi_ni e, gi_ne (by decide)]
                exact m2
              · rw [gi_ne (by decide), d1, if_neg (by omega), if_neg (by omega)]
                exact m3
              · rw [gi_cpy0 _ _ _ _ (by omega), if_neg (by omega), gi_ne (by omega), gi_ne (by omega), gi_ne (by decide), d1, if_neg (by omega), if_neg (by omega)]
                exact m4 j hj
          · rw [gi_ne (by decide), d1]
            by_cases q : 33 = 33 ∧ 40 * k ≤ j ∧ j < 40 * k + n
            · rw [if_pos q]
              unfold Bt
              rw [i8_32]
            · rw [if_neg q, if_neg (by omega)]
              exact hx.2 j hj
      · have h3' : ¬ nI n ≤ nI t := nI_ge (by omega) (by omega)
        rw [if_neg (fun q => h3' q.2), if_neg h3']
        exact ⟨0, _, _, rfl, rfl, h, hx⟩
    · rw [if_neg h2, if_neg (fun q => h2 q.1)]
      exact ⟨0, _, _, rfl, rfl, h, hx⟩
  · rw [if_neg h1, if_neg h1]
    exact ⟨0, _, _, rfl, rfl, h, hx⟩
