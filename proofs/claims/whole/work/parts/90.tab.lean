/-! round: the class's table -/
def pl (n hm : Nat) (its : Nat → Nat) (x : Nat) : Nat := if x = n then hm else its x
def Cr (τ : Mem) (n hm : Nat) (its : Nat → Nat) (σ : Mem) : Prop := Rp σ τ ∧ Rw σ τ ∧ gi σ 3 5 = nI n ∧ Lc σ n its ∧ gi σ 30 n = nI hm
def K3 (σ σ' : Mem) : Prop := ∀ c i, ¬ (18 ≤ c ∧ c < 30) → ¬ (c = 3 ∧ i = 3) → gi σ' c i = gi σ c i
theorem K3.rf (σ : Mem) : K3 σ σ := fun _ _ _ _ => rfl
theorem K3.tr {σ σ1 σ2 : Mem} (h : K3 σ σ1) (h1 : K3 σ1 σ2) : K3 σ σ2 := fun c i z1 z2 => (h1 c i z1 z2).trans (h c i z1 z2)
def Bm (W : Wm) (n hm : Nat) (its : Nat → Nat) (mu st : Nat) : Nat × List Nat := bst (re W hm) (rh W its) (rx its) (lsf (nI mu) n 0).length (lsf (nI mu) n 0) st
def Tb (W : Wm) (n hm : Nat) (its : Nat → Nat) (mu : Nat) (σ : Mem) : Prop := ∀ mu' x, mu' < mu → x ≤ n → gi σ 31 (mu' * 8 + x) = nI (cc (Bm W n hm its mu' (pl n hm its x)).1)
theorem Cr.at {τ σ : Mem} {n hm x : Nat} {its : Nat → Nat} (h : Cr τ n hm its σ) (hh : hm < 12) (hx : x ≤ n) : gi σ 30 x = nI (pl n hm its x) ∧ pl n hm its x < 12 := by
  unfold pl
  by_cases z : x = n
  · rw [if_pos z, z]
    exact ⟨h.2.2.2.2, hh⟩
  · rw [if_neg z]
    exact h.2.2.2.1 x (by omega)
/-- a way, by stops -/
theorem e_wayC (N : Nat) (hN : 300 ≤ N) {τ σ : Mem} {n hm x y : Nat} {its : Nat → Nat} (hn : n ≤ 7) (hh : hm < 12) (h : Cr τ n hm its σ) (hx : x ≤ n) (hy : y ≤ n) : ∃ σ', f_X3_way N (gi σ 30 x) (gi σ 30 y) σ = some (nI (dc (fwa (ini τ) (pl n hm its x) (pl n hm its y))), σ') ∧ Cr τ n hm its σ' ∧ K3 σ σ' := by
  obtain ⟨a1, a2⟩ := h.at hh hx
  obtain ⟨b1, b2⟩ := h.at hh hy
  obtain ⟨σ', e, r1, r2, r3, r4⟩ := s_way N hN h.1 h.2.1 a2 b2
  rw [a1, b1, e, eC_dc]
  refine ⟨σ', rfl, ⟨r1, Or.inr ⟨r2, r3⟩, ?_, fun i hi => ?_, ?_⟩, r4⟩
  · rw [r4 _ _ (by decide) (by decide)]; exact h.2.2.1
  · rw [r4 _ _ (by decide) (by omega)]; exact h.2.2.2.1 i hi
  · rw [r4 _ _ (by decide) (by omega)]; exact h.2.2.2.2
theorem msk_lst {mu i n : Nat} (hmu : mu < 128) (hn : n ≤ 7) (hi : i < n) (hb' : bt (nI mu) i = true) : lsf (nI (mu - 2 ^ i)) n 0 = (lsf (nI mu) n 0).erase i := by
  obtain ⟨e1, -⟩ := msk_tab mu hmu i (by omega) hb'
  refine (lsf_erase hb' ?_ (fun y hy hne => ?_) n 0 (by omega) (Nat.zero_le _) (by omega)).symm
  · rw [← e1, b_flip _ (by omega) hb', b_clr _ (by omega) (by omega)]
    simp
  · rw [← e1, b_flip _ (by omega) hb', b_clr _ (by omega) hy]
    simp [hne]
theorem e_ahead (N : Nat) (hN : 300 ≤ N) {τ σ : Mem} {n hm x i mu : Nat} {its : Nat → Nat} (hn : n ≤ 7) (hh : hm < 12) (h : Cr τ n hm its σ) (hx : x ≤ n) (hi : i < n) (hmu : mu < 128) (hb' : bt (nI mu) i = true) (hT : Tb (fwa (ini τ)) n hm its mu σ) : ∃ σ', f_X3_aheadBy N (nI mu) (nI x) (nI i) σ = some (nI (dc (fwa (ini τ) (pl n hm its x) (its i)) + cc (bst (re (fwa (ini τ)) hm) (rh (fwa (ini τ)) its) (rx its) ((lsf (nI mu) n 0).erase i).length ((lsf (nI mu) n 0).erase i) (its i)).1), σ') ∧ Cr τ n hm its σ' ∧ K3 σ σ' := by
  obtain ⟨e1, e2⟩ := msk_tab mu hmu i (by omega) hb'
  have hpi : pl n hm its i = its i := if_neg (by omega)
  obtain ⟨σ', w1, w2, w3⟩ := e_wayC N hN hn hh h hx (show i ≤ n by omega)
  have h2 : 1 ≤ 2 ^ i := Nat.one_le_two_pow
  have ht := hT (mu - 2 ^ i) i (by omega) (by omega)
  rw [hpi] at ht w1
  unfold Bm at ht
  rw [msk_lst hmu hn hi hb'] at ht
  refine ⟨σ', ?_, w2, w3⟩
  unfold f_X3_aheadBy
  rw [chk_n (by omega) (by decide), chk_n (by omega) (by decide), ix_n (by omega), ix_n (by omega), w1, bd_some, e1, li_8, pk_mul, nI_add, chk_n (by omega) (by decide), ix_n (by omega), w3 _ _ (by decide) (by omega), ht, nI_add]
