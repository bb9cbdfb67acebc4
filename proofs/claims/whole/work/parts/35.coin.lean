/-! coins: what is paid how, apart from the machine -/
/-- v is among the first n of f -/
def agb (f : Nat → Nat) (v : Nat) : Nat → Bool
  | 0 => false
  | n + 1 => agb f v n || decide (f n = v)
theorem agb_s (f : Nat → Nat) (v n : Nat) : agb f v (n + 1) = (agb f v n || decide (f n = v)) := rfl
theorem agb_iff (f : Nat → Nat) (v : Nat) : ∀ n, agb f v n = true ↔ ∃ j, j < n ∧ f j = v
  | 0 => ⟨fun h => Bool.noConfusion (show false = true from h), fun ⟨j, h, _⟩ => absurd h (by omega)⟩
  | n + 1 => by
    rw [agb_s, Bool.or_eq_true, agb_iff f v n, decide_eq_true_iff]
    constructor
    · rintro (⟨j, a, b⟩ | a)
      · exact ⟨j, by omega, b⟩
      · exact ⟨n, by omega, a⟩
    · rintro ⟨j, a, b⟩
      by_cases e : j = n
      · rw [e] at b; exact Or.inr b
      · exact Or.inl ⟨j, by omega, b⟩
theorem agb_first (f : Nat → Nat) (v : Nat) : ∀ n, agb f v n = true → ∃ j, j < n ∧ f j = v ∧ agb f v j = false
  | 0, h => Bool.noConfusion (show false = true from h)
  | n + 1, h => by
    by_cases q : agb f v n = true
    · obtain ⟨j, a, b, c⟩ := agb_first f v n q
      exact ⟨j, by omega, b, c⟩
    · rw [agb_s, Bool.eq_false_iff.mpr q, Bool.false_or, decide_eq_true_iff] at h
      exact ⟨n, by omega, h, Bool.eq_false_iff.mpr q⟩
/-- how many different ones among the first i -/
def nd (c : Nat → Nat) : Nat → Nat
  | 0 => 0
  | i + 1 => if agb c (c i) i = true then nd c i else nd c i + 1
theorem nd_s (c : Nat → Nat) (i : Nat) : nd c (i + 1) = if agb c (c i) i = true then nd c i else nd c i + 1 := rfl
theorem nd_le (c : Nat → Nat) : ∀ i, nd c i ≤ i
  | 0 => Nat.le_refl 0
  | i + 1 => by
    have := nd_le c i
    rw [nd_s]
    by_cases q : agb c (c i) i = true
    · rw [if_pos q]; omega
    · rw [if_neg q]; omega
theorem nd_mono (c : Nat → Nat) {i : Nat} : ∀ n, nd c i ≤ nd c (i + n)
  | 0 => Nat.le_refl _
  | n + 1 => by
    have := nd_mono c (i := i) n
    rw [show i + (n + 1) = i + n + 1 from rfl, nd_s]
    by_cases q : agb c (c (i + n)) (i + n) = true
    · rw [if_pos q]; omega
    · rw [if_neg q]; omega
theorem nd_lt (c : Nat → Nat) {i x : Nat} (h : i < x) (q : agb c (c i) i = false) : nd c i < nd c x := by
  have h1 : nd c (i + 1) = nd c i + 1 := by rw [nd_s, if_neg (by rw [q]; decide)]
  have h2 := nd_mono c (i := i + 1) (x - (i + 1))
  rw [show i + 1 + (x - (i + 1)) = x by omega] at h2
  omega
theorem nd_surj (c : Nat → Nat) : ∀ i j, j < nd c i → ∃ i', i' < i ∧ agb c (c i') i' = false ∧ nd c i' = j
  | 0, j, h => absurd h (Nat.not_lt_zero j)
  | i + 1, j, h => by
    rw [nd_s] at h
    by_cases q : agb c (c i) i = true
    · rw [if_pos q] at h
      obtain ⟨i', a, b⟩ := nd_surj c i j h
      exact ⟨i', by omega, b⟩
    · rw [if_neg q] at h
      by_cases e : j = nd c i
      · exact ⟨i, by omega, Bool.eq_false_iff.mpr q, e.symm⟩
      · obtain ⟨i', a, b⟩ := nd_surj c i j (by omega)
        exact ⟨i', by omega, b⟩
/-- d lists the different ones among the first x of c, in their order -/
def IsD (c d : Nat → Nat) (x : Nat) : Prop := ∀ i, i < x → agb c (c i) i = false → d (nd c i) = c i
theorem IsD.ag {c d : Nat → Nat} {x : Nat} (h : IsD c d x) {i : Nat} (hi : i ≤ x) (v : Nat) : agb d v (nd c i) = agb c v i := by
  have : agb d v (nd c i) = true ↔ agb c v i = true := by
    constructor
    · intro q
      obtain ⟨j, a, b⟩ := (agb_iff d v _).mp q
      obtain ⟨i', a1, a2, a3⟩ := nd_surj c i j a
      rw [← a3, h i' (by omega) a2] at b
      exact (agb_iff c v i).mpr ⟨i', a1, b⟩
    · intro q
      obtain ⟨j, a, b, e⟩ := agb_first c v i q
      refine (agb_iff d v _).mpr ⟨nd c j, nd_lt c a (by rw [b]; exact e), ?_⟩
      rw [h j (by omega) (by rw [b]; exact e), b]
  exact Bool.eq_iff_iff.mpr this
/-- v is paid by k coins of S -/
def Pay (S : Nat → Prop) : Nat → Nat → Prop
  | 0, v => v = 0
  | k + 1, v => ∃ c, S c ∧ c ≤ v ∧ Pay S k (v - c)
theorem Pay_congr {S S' : Nat → Prop} (h : ∀ c, S c → S' c) : ∀ k v, Pay S k v → Pay S' k v
  | 0, v, q => q
  | k + 1, v, ⟨c, a, b, e⟩ => ⟨c, h c a, b, Pay_congr h k _ e⟩
theorem Pay_le {S : Nat → Prop} (h : ∀ c, S c → 0 < c) : ∀ k v, Pay S k v → k ≤ v
  | 0, v, _ => Nat.zero_le v
  | k + 1, v, ⟨c, a, b, e⟩ => by
    have := Pay_le h k _ e
    have := h c a
    omega
/-- a coin that is used may be paid first -/
theorem Pay_first {S : Nat → Prop} {a : Nat} : ∀ k v, Pay (fun e => S e ∨ e = a) k v → Pay S k v ∨ (a ≤ v ∧ ∃ k', k = k' + 1 ∧ Pay (fun e => S e ∨ e = a) k' (v - a))
  | 0, v, h => Or.inl h
  | k + 1, v, ⟨c, h1, h2, h3⟩ => by
    rcases h1 with h1 | rfl
    · rcases Pay_first k (v - c) h3 with q | ⟨q1, k', q2, q3⟩
      · exact Or.inl ⟨c, h1, h2, q⟩
      · refine Or.inr ⟨by omega, k, rfl, ?_⟩
        rw [q2]
        refine ⟨c, Or.inl h1, by omega, ?_⟩
        rw [show v - a - c = v - c - a by omega]
        exact q3
    · exact Or.inr ⟨h2, k, rfl, h3⟩
/-- x is the least of P, or I if there is none -/
def Mn (P : Nat → Prop) (I x : Nat) : Prop := (P x ∧ x < I ∧ ∀ k, P k → x ≤ k) ∨ (x = I ∧ ∀ k, ¬ P k)
theorem Mn.le {P : Nat → Prop} {I x : Nat} (h : Mn P I x) : x ≤ I := by
  rcases h with ⟨_, h, _⟩ | ⟨h, _⟩ <;> omega
theorem Mn.congr {P Q : Nat → Prop} {I x : Nat} (h : Mn P I x) (e : ∀ k, P k ↔ Q k) : Mn Q I x := by
  rcases h with ⟨a, b, c⟩ | ⟨a, b⟩
  · exact Or.inl ⟨(e x).mp a, b, fun k q => c k ((e k).mpr q)⟩
  · exact Or.inr ⟨a, fun k q => b k ((e k).mpr q)⟩
theorem Mn.or {P Q : Nat → Prop} {I a b : Nat} (ha : Mn P I a) (hb : Mn Q I b) (h : ∀ k, Q k → k + 1 < I) : Mn (fun k => P k ∨ ∃ k', k = k' + 1 ∧ Q k') I (min a (b + 1)) := by
  rcases hb with ⟨b1, b2, b3⟩ | ⟨b1, b2⟩
  · have b4 := h b b1
    refine Or.inl ⟨?_, by omega, fun k q => ?_⟩
    · by_cases w : a ≤ b + 1
      · rw [Nat.min_eq_left w]
        rcases ha with ⟨a1, _, _⟩ | ⟨a1, _⟩
        · exact Or.inl a1
        · omega
      · rw [Nat.min_eq_right (by omega)]
        exact Or.inr ⟨b, rfl, b1⟩
    · rcases q with q | ⟨k', rfl, q⟩
      · rcases ha with ⟨_, _, a3⟩ | ⟨_, a2⟩
        · have := a3 k q; omega
        · exact absurd q (a2 k)
      · have := b3 k' q; omega
  · have := ha.le
    rw [Nat.min_eq_left (by omega)]
    exact ha.congr (fun k => ⟨Or.inl, fun q => q.elim id (fun ⟨k', _, q⟩ => absurd q (b2 k'))⟩)
theorem Mn.uniq {P : Nat → Prop} {I J x y : Nat} (h1 : Mn P I x) (h2 : Mn P J y) : (x < I ∧ y < J ∧ x = y) ∨ (x = I ∧ y = J) := by
  rcases h1 with ⟨a1, a2, a3⟩ | ⟨a1, a2⟩
  · rcases h2 with ⟨b1, b2, b3⟩ | ⟨b1, b2⟩
    · have := a3 y b1
      have := b3 x a1
      exact Or.inl ⟨a2, b2, by omega⟩
    · exact absurd a1 (b2 x)
  · rcases h2 with ⟨b1, b2, b3⟩ | ⟨b1, b2⟩
    · exact absurd b1 (a2 y)
    · exact Or.inr ⟨a1, b1⟩
/-- the ways to pay, on by one coin, for the sums below n -/
def wstL (c : Nat) (W : Nat → Nat) : Nat → Nat → Nat
  | 0, v => W v
  | n + 1, v => if v = n ∧ c ≤ n then min 1000000000 (wstL c W n n + wstL c W n (n - c)) else wstL c W n v
theorem wstL_s (c : Nat) (W : Nat → Nat) (n v : Nat) : wstL c W (n + 1) v = if v = n ∧ c ≤ n then min 1000000000 (wstL c W n n + wstL c W n (n - c)) else wstL c W n v := rfl
theorem wstL_lo (c : Nat) (W : Nat → Nat) : ∀ n, n ≤ c → ∀ v, wstL c W n v = W v
  | 0, _, v => rfl
  | n + 1, h, v => by rw [wstL_s, if_neg (by omega), wstL_lo c W n (by omega)]
theorem wstL_le {c : Nat} {W : Nat → Nat} (h : ∀ v, W v ≤ 1000000000) : ∀ n v, wstL c W n v ≤ 1000000000
  | 0, v => h v
  | n + 1, v => by
    rw [wstL_s]
    by_cases q : v = n ∧ c ≤ n
    · rw [if_pos q]; omega
    · rw [if_neg q]; exact wstL_le h n v
def wf (d : Nat → Nat) (X : Nat) : Nat → Nat → Nat
  | 0, v => if v = 0 then 1 else 0
  | j + 1, v => wstL (d j) (wf d X j) (X + 1) v
theorem wf_le (d : Nat → Nat) (X : Nat) : ∀ j v, wf d X j v ≤ 1000000000
  | 0, v => by
    show (if v = 0 then 1 else 0) ≤ _
    by_cases q : v = 0
    · rw [if_pos q]; omega
    · rw [if_neg q]; omega
  | j + 1, v => wstL_le (wf_le d X j) _ v
/-- the greatest of the first n of f that isn't above v, at least b -/
def gmx (f : Nat → Nat) (v : Nat) : Nat → Nat
  | 0 => 0
  | n + 1 => if v < f n then gmx f v n else max (gmx f v n) (f n)
theorem gmx_s (f : Nat → Nat) (v n : Nat) : gmx f v (n + 1) = if v < f n then gmx f v n else max (gmx f v n) (f n) := rfl
theorem gmx_ub (f : Nat → Nat) (v : Nat) : ∀ n j, j < n → f j ≤ v → f j ≤ gmx f v n
  | 0, j, h, _ => absurd h (by omega)
  | n + 1, j, h, q => by
    rw [gmx_s]
    by_cases e : j = n
    · rw [e] at q ⊢
      rw [if_neg (by omega)]; omega
    · have := gmx_ub f v n j (by omega) q
      by_cases w : v < f n
      · rw [if_pos w]; exact this
      · rw [if_neg w]; omega
theorem gmx_mem (f : Nat → Nat) (v : Nat) : ∀ n, gmx f v n = 0 ∨ ∃ j, j < n ∧ f j ≤ v ∧ gmx f v n = f j
  | 0 => Or.inl rfl
  | n + 1 => by
    rw [gmx_s]
    by_cases w : v < f n
    · rw [if_pos w]
      rcases gmx_mem f v n with h | ⟨j, a, b, c⟩
      · exact Or.inl h
      · exact Or.inr ⟨j, by omega, b, c⟩
    · rw [if_neg w]
      by_cases u : gmx f v n ≤ f n
      · rw [Nat.max_eq_right u]
        exact Or.inr ⟨n, by omega, by omega, rfl⟩
      · rw [Nat.max_eq_left (by omega)]
        rcases gmx_mem f v n with h | ⟨j, a, b, c⟩
        · exact Or.inl h
        · exact Or.inr ⟨j, by omega, b, c⟩
theorem gmx_le (f : Nat → Nat) (v n : Nat) : gmx f v n ≤ v := by
  rcases gmx_mem f v n with h | ⟨j, a, b, c⟩ <;> omega
theorem gmx_eq {f : Nat → Nat} {v n m : Nat} (h1 : m = 0 ∨ ∃ j, j < n ∧ f j ≤ v ∧ m = f j) (h2 : ∀ j, j < n → f j ≤ v → f j ≤ m) : gmx f v n = m := by
  have a : m ≤ gmx f v n := by
    rcases h1 with h | ⟨j, a, b, c⟩
    · omega
    · rw [c]; exact gmx_ub f v n j a b
  rcases gmx_mem f v n with h | ⟨j, a1, b, c⟩
  · omega
  · have := h2 j a1 b
    omega
/-- the different ones give the same greatest -/
theorem IsD.gmx {c d : Nat → Nat} {x : Nat} (h : IsD c d x) (v : Nat) : gmx d v (nd c x) = gmx c v x := by
  refine gmx_eq ?_ (fun j hj q => ?_)
  · rcases gmx_mem c v x with e | ⟨j, a, b, e⟩
    · exact Or.inl e
    · right
      have := (h.ag (Nat.le_refl x) (c j)).trans ((agb_iff c (c j) x).mpr ⟨j, a, rfl⟩)
      obtain ⟨k, k1, k2⟩ := (agb_iff d _ _).mp this
      exact ⟨k, k1, by omega, by omega⟩
  · obtain ⟨i', a1, a2, a3⟩ := nd_surj c x j hj
    rw [← a3, h i' a1 a2] at q ⊢
    exact gmx_ub c v x i' a1 q
/-- how many of the first n of f aren't above v -/
def lec (f : Nat → Nat) (v : Nat) : Nat → Nat
  | 0 => 0
  | n + 1 => lec f v n + if f n ≤ v then 1 else 0
theorem lec_s (f : Nat → Nat) (v n : Nat) : lec f v (n + 1) = lec f v n + if f n ≤ v then 1 else 0 := rfl
theorem lec_le (f : Nat → Nat) (v : Nat) : ∀ n, lec f v n ≤ n
  | 0 => Nat.le_refl 0
  | n + 1 => by
    have := lec_le f v n
    rw [lec_s]
    by_cases q : f n ≤ v
    · rw [if_pos q]; omega
    · rw [if_neg q]; omega
theorem lec_mono (f : Nat → Nat) {v w : Nat} (h : w ≤ v) : ∀ n, lec f w n ≤ lec f v n
  | 0 => Nat.le_refl 0
  | n + 1 => by
    have := lec_mono f h n
    rw [lec_s, lec_s]
    by_cases q : f n ≤ w
    · rw [if_pos q, if_pos (by omega)]; omega
    · rw [if_neg q]
      omega
theorem lec_drop (f : Nat → Nat) {v w : Nat} (h : w ≤ v) : ∀ n j, j < n → w < f j → f j ≤ v → lec f w n + 1 ≤ lec f v n
  | 0, j, hj, _, _ => absurd hj (by omega)
  | n + 1, j, hj, h1, h2 => by
    rw [lec_s, lec_s]
    by_cases e : j = n
    · have := lec_mono f h n
      rw [e] at h1 h2
      rw [if_neg (by omega), if_pos h2]
      omega
    · have := lec_drop f h n j (by omega) h1 h2
      by_cases q : f n ≤ w
      · rw [if_pos q, if_pos (by omega)]; omega
      · rw [if_neg q]; omega
theorem lec_0 {f : Nat → Nat} {v : Nat} : ∀ {n}, lec f v n = 0 → gmx f v n = 0
  | 0, _ => rfl
  | n + 1, h => by
    rw [lec_s] at h
    by_cases q : f n ≤ v
    · rw [if_pos q] at h; omega
    · rw [if_neg q] at h
      rw [gmx_s, if_pos (by omega)]
      exact lec_0 (by omega)
