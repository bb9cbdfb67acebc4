/-! rows begun, kept; bits counted by the reference -/
theorem bit01 (x : Int32) : x &&& 1 = if bt x 0 = true then 1 else 0 := by
  by_cases z : bt x 0 = true
  · rw [if_pos z]
    exact (bit1 x).mpr z
  · rw [if_neg z]
    refine b_ext (fun i hi => ?_)
    have e1 : bt (x &&& 1) i = (bt x i && bt 1 i) := by
      unfold bt
      rw [Int32.toBitVec_and, BitVec.getLsbD_and]
    rw [e1, bt_0]
    by_cases y : i = 0
    · rw [y]
      cases v : bt x 0 with
      | true => exact absurd v z
      | false => rfl
    · have : bt 1 i = false := by
        have := b_one (k := 0) (by decide) hi
        rw [show (1 : Int32) <<< (nI 0 &&& 31) = 1 by decide] at this
        rw [this]
        exact decide_eq_false y
      rw [this, Bool.and_false]
theorem bitv (m : Int32) {k : Nat} (hk : k < 32) : ((m >>> (nI k &&& 31)) &&& 1) = if bt m k = true then 1 else 0 := by
  by_cases z : bt m k = true
  · rw [if_pos z]
    exact (hb_iff m hk).mpr z
  · rw [if_neg z, bit01, if_neg (fun y => z ((hb_iff m hk).mp ((bit1 _).mpr y)))]
theorem lp_bits (N : Nat) (m : Int32) (s : Mem) : ∀ (u i M : Nat), i + u = 12 → u < M → itr (fun _ _ _ => none) (st_X10_bits_4 N m) M (nI (cnt m i)) (nI i) s = some (nI (cnt m 12), s)
  | u, i, 0, _, h2 => absurd h2 (by omega)
  | 0, i, M + 1, h1, _ => by
    show st_X10_bits_4 N m _ (nI (cnt m i)) (nI i) s = _
    unfold st_X10_bits_4
    rw [if_pos (show (12 : Int32) ≤ nI i from nI_le (a := 12) (by omega) (by omega)), show i = 12 by omega]
  | u + 1, i, M + 1, h1, h2 => by
    have e : ∀ rec, st_X10_bits_4 N m rec (nI (cnt m i)) (nI i) s = rec (nI (cnt m (i + 1))) (nI (i + 1)) s := by
      intro rec
      unfold st_X10_bits_4
      simp only [lt_p]
      rw [if_neg (show ¬ (12 : Int32) ≤ nI i from nI_ge (b := 12) (by omega) (by decide)), bitv m (by omega), nI_1, cnt_s]
      by_cases z : bt m i = true
      · rw [if_pos z, if_pos z, nI_1]
      · rw [if_neg z, if_neg z, Int32.add_zero]
        rfl
    have e' : itr (fun _ _ _ => none) (st_X10_bits_4 N m) (M + 1) (nI (cnt m i)) (nI i) s = _ := e (itr (fun _ _ _ => none) (st_X10_bits_4 N m) M)
    rw [e']
    exact lp_bits N m s u (i + 1) M (by omega) (by omega)
theorem e_bits (N : Nat) (hN : 300 ≤ N) (m : Int32) (s : Mem) : f_X10_bits N m s = some (nI (cnt m 12), s) := lp_bits N m s 12 0 N (by omega) (by omega)
theorem lp_beg (N : Nat) {n : Nat} (hn : n ≤ 7) : ∀ (u i M : Nat) (τ : Mem), i + u = n → u < M → ∃ τ', itr (fun _ _ => none) (st_X10_beginsRows_2 N (nI n)) M (nI i) τ = some ((), τ') ∧ (∀ j, i ≤ j → j < n → gi τ' 27 j = nI j) ∧ (∀ j, j < i → gi τ' 27 j = gi τ 27 j) ∧ K27 τ τ'
  | u, i, 0, τ, _, h2 => absurd h2 (by omega)
  | 0, i, M + 1, τ, h1, _ => by
    refine ⟨τ, ?_, fun j h h' => absurd h' (by omega), fun _ _ => rfl, fun _ _ _ => rfl⟩
    show st_X10_beginsRows_2 N (nI n) _ (nI i) τ = _
    unfold st_X10_beginsRows_2
    rw [if_pos (nI_le (by omega) (by omega))]
  | u + 1, i, M + 1, τ, h1, h2 => by
    have e : ∀ rec, st_X10_beginsRows_2 N (nI n) rec (nI i) τ = rec (nI (i + 1)) (si τ 27 i (nI i)) := by
      intro rec
      unfold st_X10_beginsRows_2
      simp only [lt_p]
      rw [if_neg (nI_ge (by omega) (by omega)), chk_n (by omega) (by decide), ix_n (by omega), nI_1]
    have e' : itr (fun _ _ => none) (st_X10_beginsRows_2 N (nI n)) (M + 1) (nI i) τ = _ := e (itr (fun _ _ => none) (st_X10_beginsRows_2 N (nI n)) M)
    obtain ⟨τ', r1, r2, r3, r4⟩ := lp_beg N hn u (i + 1) M (si τ 27 i (nI i)) (by omega) (by omega)
    refine ⟨τ', e'.trans r1, fun j h h' => ?_, fun j h => ?_, fun c j h => ?_⟩
    · by_cases z : j = i
      · rw [z, r3 i (by omega), gi_eq]
      · exact r2 j (by omega) h'
    · rw [r3 j (by omega), gi_ni (by omega)]
    · rw [r4 c j h, gi_ne h]
theorem s_begins (N : Nat) (hN : 300 ≤ N) {n : Nat} (hn : n ≤ 7) (τ : Mem) : ∃ τ', f_X10_beginsRows N (nI n) τ = some ((), τ') ∧ Ro τ' n (List.range n) ∧ K27 τ τ' := by
  obtain ⟨τ', r1, r2, -, r4⟩ := lp_beg N hn n 0 N τ (by omega) (by omega)
  refine ⟨τ', r1, ⟨List.length_range, fun i hi => ?_⟩, r4⟩
  have : (List.range n).getD i 0 = i := by
    rw [List.getD_eq_getElem?_getD, List.getElem?_range hi]
    rfl
  rw [this]
  exact ⟨r2 i (by omega) hi, hi⟩
/-- the row that is kept -/
def Krr (τ : Mem) (n : Nat) (its : Nat → Nat) (r : List Nat) : Prop := ∀ i, i < n → gi τ 28 i = nI (its (r.getD i 0))
def Ls (τ : Mem) (n : Nat) (its : Nat → Nat) : Prop := ∀ i, i < n → gi τ 26 i = nI (its i) ∧ its i < 12
theorem lp_kee (N : Nat) {n : Nat} {its : Nat → Nat} {r : List Nat} (hn : n ≤ 7) : ∀ (u i M : Nat) (τ : Mem), i + u = n → u < M → Ro τ n r → Ls τ n its → ∃ τ', itr (fun _ _ => none) (st_X10_keepsRow_2 N (nI n)) M (nI i) τ = some ((), τ') ∧ (∀ j, i ≤ j → j < n → gi τ' 28 j = nI (its (r.getD j 0))) ∧ (∀ j, j < i → gi τ' 28 j = gi τ 28 j) ∧ ∀ c j, ¬ c = 28 → gi τ' c j = gi τ c j
  | u, i, 0, τ, _, h2, _, _ => absurd h2 (by omega)
  | 0, i, M + 1, τ, h1, _, _, _ => by
    refine ⟨τ, ?_, fun j h h' => absurd h' (by omega), fun _ _ => rfl, fun _ _ _ => rfl⟩
    show st_X10_keepsRow_2 N (nI n) _ (nI i) τ = _
    unfold st_X10_keepsRow_2
    rw [if_pos (nI_le (by omega) (by omega))]
  | u + 1, i, M + 1, τ, h1, h2, hr, hl => by
    obtain ⟨a1, a2⟩ := hr.2 i (by omega)
    have e : ∀ rec, st_X10_keepsRow_2 N (nI n) rec (nI i) τ = rec (nI (i + 1)) (si τ 28 i (nI (its (r.getD i 0)))) := by
      intro rec
      unfold st_X10_keepsRow_2
      simp only [lt_p]
      rw [if_neg (nI_ge (by omega) (by omega)), chk_n (by omega) (by decide), ix_n (show i < 2 ^ 31 by omega), a1, chk_n (by omega) (by decide), chk_n (by omega) (by decide), ix_n (by omega), (hl _ a2).1, nI_1]
    have e' : itr (fun _ _ => none) (st_X10_keepsRow_2 N (nI n)) (M + 1) (nI i) τ = _ := e (itr (fun _ _ => none) (st_X10_keepsRow_2 N (nI n)) M)
    obtain ⟨τ', r1, r2, r3, r4⟩ := lp_kee N (its := its) (r := r) hn u (i + 1) M (si τ 28 i (nI (its (r.getD i 0)))) (by omega) (by omega) ⟨hr.1, fun j hj => by rw [gi_ne (by decide)]; exact hr.2 j hj⟩ (fun j hj => by rw [gi_ne (by decide)]; exact hl j hj)
    refine ⟨τ', e'.trans r1, fun j h h' => ?_, fun j h => ?_, fun c j h => ?_⟩
    · by_cases z : j = i
      · rw [z, r3 i (by omega), gi_eq]
      · exact r2 j (by omega) h'
    · rw [r3 j (by omega), gi_ni (by omega)]
    · rw [r4 c j h, gi_ne h]
theorem s_keeps (N : Nat) (hN : 300 ≤ N) {n : Nat} {its : Nat → Nat} {r : List Nat} {τ : Mem} (hn : n ≤ 7) (hr : Ro τ n r) (hl : Ls τ n its) : ∃ τ', f_X10_keepsRow N (nI n) τ = some ((), τ') ∧ Krr τ' n its r ∧ ∀ c j, ¬ c = 28 → gi τ' c j = gi τ c j := by
  obtain ⟨τ', r1, r2, -, r4⟩ := lp_kee N hn n 0 N τ (by omega) (by omega) hr hl
  exact ⟨τ', r1, fun i hi => r2 i (by omega) hi, r4⟩
