/-! readsMost: letters for places of a list; worths -/
theorem map_erase {f : Nat → Nat} : ∀ {S : List Nat} {i : Nat}, (∀ a b, a ∈ S → b ∈ S → f a = f b → a = b) → i ∈ S → (S.erase i).map f = (S.map f).erase (f i)
  | [], i, _, h => by cases h
  | a :: S, i, hf, h => by
    by_cases z : a = i
    · subst z
      rw [List.erase_cons_head, List.map_cons, List.erase_cons_head]
    · have hi : i ∈ S := (List.mem_cons.mp h).resolve_left (fun y => z y.symm)
      have hne : ¬ f a = f i := fun y => z (hf a i (List.mem_cons_self ..) h y)
      rw [List.erase_cons_tail (by simpa using z), List.map_cons, List.map_cons, List.erase_cons_tail (by simpa using hne), map_erase (fun a b ha hb => hf a b (List.mem_cons_of_mem _ ha) (List.mem_cons_of_mem _ hb)) hi]
def mp (f : Nat → Nat) (a : Nat × List Nat) : Nat × List Nat := (a.1, a.2.map f)
theorem tk_mp (f : Nat → Nat) (a b : Nat × List Nat) : tk (mp f a) (mp f b) = mp f (tk a b) := by
  show (if a.1 < b.1 then mp f b else mp f a) = mp f (if a.1 < b.1 then b else a)
  by_cases z : a.1 < b.1
  · rw [if_pos z, if_pos z]
  · rw [if_neg z, if_neg z]
theorem fold_mp (f : Nat → Nat) {c c' : Nat → Nat × List Nat} : ∀ (T : List Nat) (a : Nat × List Nat), (∀ i, i ∈ T → c' i = mp f (c i)) → T.foldl (fun a i => tk a (c' i)) (mp f a) = mp f (T.foldl (fun a i => tk a (c i)) a)
  | [], a, _ => rfl
  | i :: T, a, h => by
    rw [List.foldl_cons, List.foldl_cons, h i (List.mem_cons_self ..), tk_mp]
    exact fold_mp f T _ (fun j hj => h j (List.mem_cons_of_mem _ hj))
/-- what may be given if k is read next, at place j, those of S being left -/
def Cq (G : Nat → Nat → Nat) (its : Nat → Nat) (S : List Nat) (k j i : Nat) : Nat × List Nat := (mh G its j i (bst me (mh G its) mx k (S.erase i) (mx j i)).1, i :: (bst me (mh G its) mx k (S.erase i) (mx j i)).2)
theorem bst_map (G : Nat → Nat → Nat) (its : Nat → Nat) : ∀ (k : Nat) (S : List Nat) (j : Nat), (∀ a b, a ∈ S → b ∈ S → its a = its b → a = b) → bst me (mh G id) mx k (S.map its) j = mp its (bst me (mh G its) mx k S j)
  | 0, S, j, _ => rfl
  | k + 1, S, j, hS => by
    show (S.map its).foldl (fun a i => tk a (Cq G id (S.map its) k j i)) (mp its (0, [])) = mp its (S.foldl (fun a i => tk a (Cq G its S k j i)) (0, []))
    rw [List.foldl_map]
    refine fold_mp its (c' := fun i => Cq G id (S.map its) k j (its i)) S (0, []) (fun i hi => ?_)
    unfold Cq
    rw [← map_erase hS hi, bst_map G its k (S.erase i) _ (fun a b ha hb => hS a b (List.mem_of_mem_erase ha) (List.mem_of_mem_erase hb))]
    rfl
theorem fold_ub {c : Nat → Nat × List Nat} {U : Nat} : ∀ (S : List Nat) (a : Nat × List Nat), a.1 ≤ U → (∀ i, i ∈ S → (c i).1 ≤ U) → (S.foldl (fun a i => tk a (c i)) a).1 ≤ U
  | [], a, h, _ => h
  | i :: S, a, h, hc => by
    rw [List.foldl_cons]
    refine fold_ub S _ ?_ (fun j hj => hc j (List.mem_cons_of_mem _ hj))
    rw [tk_max]
    exact Nat.max_le.mpr ⟨h, hc i (List.mem_cons_self ..)⟩
theorem mh_1 {G : Nat → Nat → Nat} {its : Nat → Nat} {j i s : Nat} (h : 1 ≤ s) : mh G its j i s = s + G j (its i) := if_neg (by omega)
theorem bst_1 {G : Nat → Nat → Nat} {its : Nat → Nat} (hG : ∀ j k, G j k ≤ 999) : ∀ (k : Nat) (S : List Nat) (j : Nat), S.length = k → (1 ≤ (bst me (mh G its) mx k S j).1 ∧ (bst me (mh G its) mx k S j).1 ≤ 1 + 999 * k) ∧ (bst me (mh G its) mx k S j).2.length = k
  | 0, S, j, _ => ⟨⟨Nat.le_refl _, Nat.le_refl _⟩, rfl⟩
  | k + 1, S, j, h => by
    have hb : bst me (mh G its) mx (k + 1) S j = S.foldl (fun a i => tk a (Cq G its S k j i)) (0, []) := rfl
    have hl : ∀ i, i ∈ S → (S.erase i).length = k := fun i hi => by rw [List.length_erase_of_mem hi, h]; rfl
    have hin : ∀ i, i ∈ S → 1 ≤ (Cq G its S k j i).1 ∧ (Cq G its S k j i).1 ≤ 1 + 999 * (k + 1) ∧ (Cq G its S k j i).2.length = k + 1 := fun i hi => by
      obtain ⟨⟨a1, a2⟩, a3⟩ := bst_1 (its := its) hG k (S.erase i) (mx j i) (hl i hi)
      have := hG j (its i)
      refine ⟨?_, ?_, ?_⟩
      · show 1 ≤ mh G its j i (bst me (mh G its) mx k (S.erase i) (mx j i)).1
        rw [mh_1 a1]; omega
      · show mh G its j i (bst me (mh G its) mx k (S.erase i) (mx j i)).1 ≤ _
        rw [mh_1 a1]; omega
      · show (bst me (mh G its) mx k (S.erase i) (mx j i)).2.length + 1 = k + 1
        rw [a3]
    obtain ⟨i0, hi0⟩ : ∃ i, i ∈ S := by
      match S, h with
      | i :: S, _ => exact ⟨i, List.mem_cons_self ..⟩
    have h1 : 1 ≤ (S.foldl (fun a i => tk a (Cq G its S k j i)) (0, [])).1 := Nat.le_trans (hin i0 hi0).1 ((fold_le (fun i => Cq G its S k j i) S (0, [])).2 i0 hi0)
    obtain ⟨i, i1, -, i3⟩ := fold_fst (fun i => Cq G its S k j i) S (0, []) h1
    rw [hb]
    refine ⟨⟨h1, fold_ub S _ (Nat.zero_le _) (fun i hi => (hin i hi).2.1)⟩, ?_⟩
    rw [i3]
    exact (hin i i1).2.2
/-- the best of those of a set of letters, n being read in all -/
def Bl (G : Nat → Nat → Nat) (n mu : Nat) : Nat × List Nat := bst me (mh G id) mx (lsf (nI mu) 6 0).length (lsf (nI mu) 6 0) (n - (lsf (nI mu) 6 0).length)
theorem Bl_1 {G : Nat → Nat → Nat} (hG : ∀ j k, G j k ≤ 999) (n mu : Nat) : 1 ≤ (Bl G n mu).1 ∧ (Bl G n mu).1 ≤ 1 + 999 * 6 := by
  obtain ⟨⟨a1, a2⟩, -⟩ := bst_1 (its := id) hG (lsf (nI mu) 6 0).length (lsf (nI mu) 6 0) (n - (lsf (nI mu) 6 0).length) rfl
  have := lsf_len (nI mu) 6 0
  unfold Bl
  exact ⟨a1, by omega⟩
/-- a set of letters within another one -/
def sb (m : Int32) (mu : Nat) : Prop := ∀ i, i < 6 → bt (nI mu) i = true → bt m i = true
theorem hi6 : ∀ mu, mu < 64 → ∀ i, i < 32 → 6 ≤ i → bt (nI mu) i = false := by decide +kernel
theorem sb_iff {m : Int32} {mu : Nat} (h : mu < 64) : nI mu &&& (m ^^^ (-1)) = 0 ↔ sb m mu := by
  constructor
  · intro q i hi hb'
    have := and_not_b (nI mu) m (show i < 32 by omega)
    rw [q, bt_0, hb'] at this
    cases v : bt m i with
    | true => rfl
    | false => rw [v] at this; cases this
  · intro q
    refine b_ext (fun i hi => ?_)
    rw [and_not_b _ _ hi, bt_0]
    by_cases z : i < 6
    · cases v : bt (nI mu) i with
      | true => rw [q i z v]; rfl
      | false => rfl
    · rw [hi6 mu h i hi (by omega)]; rfl
theorem lsf_sub {m m' : Int32} : ∀ (u i : Nat), (∀ x, i ≤ x → x < i + u → bt m' x = true → bt m x = true) → (lsf m' u i).length ≤ (lsf m u i).length
  | 0, i, _ => Nat.le_refl _
  | u + 1, i, h => by
    have := lsf_sub u (i + 1) (fun x h1 h2 => h x (by omega) (by omega))
    show (if bt m' i = true then i :: lsf m' u (i + 1) else lsf m' u (i + 1)).length ≤ (if bt m i = true then i :: lsf m u (i + 1) else lsf m u (i + 1)).length
    by_cases y : bt m' i = true
    · rw [if_pos y, if_pos (h i (by omega) (by omega) y), List.length_cons, List.length_cons]
      omega
    · rw [if_neg y]
      by_cases z : bt m i = true
      · rw [if_pos z, List.length_cons]
        omega
      · rw [if_neg z]
        exact this
theorem sb_lst {mu i : Nat} (hmu : mu < 64) (hi : i < 6) (hb' : bt (nI mu) i = true) : lsf (nI (mu - 2 ^ i)) 6 0 = (lsf (nI mu) 6 0).erase i := msk_lst (n := 6) (by omega) (by decide) hi hb'
theorem sb_less {m : Int32} {mu i : Nat} (hmu : mu < 64) (hi : i < 6) (hb' : bt (nI mu) i = true) (h : sb m mu) : sb m (mu - 2 ^ i) := fun y hy hy' => by
  obtain ⟨e1, -⟩ := msk_tab mu (by omega) i (by omega) hb'
  rw [← e1, b_flip _ (by omega) hb', b_clr _ (by omega) (by omega)] at hy'
  refine h y hy ?_
  cases v : bt (nI mu) y with
  | true => rfl
  | false => rw [v] at hy'; simp at hy'
theorem Bl_less {G : Nat → Nat → Nat} {n mu i k : Nat} (hmu : mu < 64) (hi : i < 6) (hb' : bt (nI mu) i = true) (hk : (lsf (nI mu) 6 0).length = k + 1) (hkn : k + 1 ≤ n) : Bl G n (mu - 2 ^ i) = bst me (mh G id) mx k ((lsf (nI mu) 6 0).erase i) (n - (k + 1) + 1) := by
  unfold Bl
  rw [sb_lst hmu hi hb', List.length_erase_of_mem (lsf_mem hb' 6 0 (by omega) (by omega)), hk, Nat.add_sub_cancel, show n - (k + 1) + 1 = n - k by omega]
theorem Bl_fold {G : Nat → Nat → Nat} {n mu k : Nat} (hk : (lsf (nI mu) 6 0).length = k + 1) : Bl G n mu = (lsf (nI mu) 6 0).foldl (fun a i => tk a (Cq G id (lsf (nI mu) 6 0) k (n - (k + 1)) i)) (0, []) := by
  unfold Bl
  rw [hk]
  rfl
