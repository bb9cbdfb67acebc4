/-! readsMost: the letter that is read at a place -/
theorem lp_nr (N : Nat) {G : Nat → Nat → Nat} (hG : ∀ j k, G j k ≤ 999) {n mu k : Nat} {m : Int32} {σ : Mem} (hn : n ≤ 5) (hmu : mu < 64) (hs : sb m mu) (hk : (lsf (nI mu) 6 0).length = k + 1) (hkn : k + 1 ≤ n) (hg : Gtb G n m σ) (hT : Tm G n m (mu + 1) σ) : ∀ (u i M : Nat), i + u = 6 → u < M → itr (fun _ _ => none) (st_X2_nextRead_2 N (nI mu) (nI (n - (k + 1)))) M (nI i) σ = some (nO (fst1 (fun i => (Cq G id (lsf (nI mu) 6 0) k (n - (k + 1)) i).1) (Bl G n mu).1 (lsf (nI mu) u i)), σ)
  | u, i, 0, _, h2 => absurd h2 (by omega)
  | 0, i, M + 1, h1, _ => by
    show st_X2_nextRead_2 N (nI mu) (nI (n - (k + 1))) _ (nI i) σ = _
    unfold st_X2_nextRead_2
    rw [if_pos (show (6 : Int32) ≤ nI i from nI_le (a := 6) (by omega) (by omega))]
    rfl
  | u + 1, i, M + 1, h1, h2 => by
    show _ = some (nO (fst1 (fun i => (Cq G id (lsf (nI mu) 6 0) k (n - (k + 1)) i).1) (Bl G n mu).1 (if bt (nI mu) i = true then i :: lsf (nI mu) u (i + 1) else lsf (nI mu) u (i + 1))), σ)
    by_cases z : bt (nI mu) i = true
    · rw [if_pos z]
      obtain ⟨f1, f2, f3⟩ := e_gf N hG hn hmu hs (show i < 6 by omega) z hk hkn hg (fun mu' h => hT mu' (by omega))
      obtain ⟨b1, b2⟩ := Bl_1 hG n mu
      have e : ∀ rec, st_X2_nextRead_2 N (nI mu) (nI (n - (k + 1))) rec (nI i) σ = if (Cq G id (lsf (nI mu) 6 0) k (n - (k + 1)) i).1 = (Bl G n mu).1 then some (nI i, σ) else rec (nI (i + 1)) σ := by
        intro rec
        unfold st_X2_nextRead_2
        simp only [lt_p]
        rw [if_neg (show ¬ (6 : Int32) ≤ nI i from nI_ge (b := 6) (by omega) (by decide)), e_hasBit, bd_some, ite10, if_pos ((hb_iff _ (by omega)).mpr z), f1, bd_some, chk_n hmu (by decide), ix_n (by omega), hT mu (by omega) hs, nI_1]
        by_cases y : (Cq G id (lsf (nI mu) 6 0) k (n - (k + 1)) i).1 = (Bl G n mu).1
        · rw [if_pos y, if_pos (by rw [y])]
        · rw [if_neg y, if_neg (nI_nq (by omega) (by omega) (by omega))]
      have e' : itr (fun _ _ => none) (st_X2_nextRead_2 N (nI mu) (nI (n - (k + 1)))) (M + 1) (nI i) σ = _ := e (itr (fun _ _ => none) (st_X2_nextRead_2 N (nI mu) (nI (n - (k + 1)))) M)
      rw [e']
      show _ = some (nO (if (Cq G id (lsf (nI mu) 6 0) k (n - (k + 1)) i).1 = (Bl G n mu).1 then some i else fst1 (fun i => (Cq G id (lsf (nI mu) 6 0) k (n - (k + 1)) i).1) (Bl G n mu).1 (lsf (nI mu) u (i + 1))), σ)
      by_cases y : (Cq G id (lsf (nI mu) 6 0) k (n - (k + 1)) i).1 = (Bl G n mu).1
      · rw [if_pos y, if_pos y]
        rfl
      · rw [if_neg y, if_neg y]
        exact lp_nr N hG hn hmu hs hk hkn hg hT u (i + 1) M (by omega) (by omega)
    · rw [if_neg z]
      have e : ∀ rec, st_X2_nextRead_2 N (nI mu) (nI (n - (k + 1))) rec (nI i) σ = rec (nI (i + 1)) σ := by
        intro rec
        unfold st_X2_nextRead_2
        simp only [lt_p]
        rw [if_neg (show ¬ (6 : Int32) ≤ nI i from nI_ge (b := 6) (by omega) (by decide)), e_hasBit, bd_some, ite10, if_neg (fun y => z ((hb_iff _ (by omega)).mp y)), nI_1]
      have e' : itr (fun _ _ => none) (st_X2_nextRead_2 N (nI mu) (nI (n - (k + 1)))) (M + 1) (nI i) σ = _ := e (itr (fun _ _ => none) (st_X2_nextRead_2 N (nI mu) (nI (n - (k + 1)))) M)
      rw [e']
      exact lp_nr N hG hn hmu hs hk hkn hg hT u (i + 1) M (by omega) (by omega)
theorem e_nr (N : Nat) (hN : 300 ≤ N) {G : Nat → Nat → Nat} (hG : ∀ j k, G j k ≤ 999) {n mu k : Nat} {m : Int32} {σ : Mem} (hn : n ≤ 5) (hmu : mu < 64) (hs : sb m mu) (hk : (lsf (nI mu) 6 0).length = k + 1) (hkn : k + 1 ≤ n) (hg : Gtb G n m σ) (hT : Tm G n m (mu + 1) σ) : ∃ i, i < 6 ∧ bt (nI mu) i = true ∧ f_X2_nextRead N (nI mu) (nI (n - (k + 1))) σ = some (nI i, σ) ∧ (Bl G n mu).2 = i :: (Bl G n (mu - 2 ^ i)).2 := by
  have hB := Bl_fold (G := G) (n := n) hk
  obtain ⟨b1, b2⟩ := Bl_1 hG n mu
  obtain ⟨i, i1, i2, i3⟩ := fold_fst (fun i => Cq G id (lsf (nI mu) 6 0) k (n - (k + 1)) i) (lsf (nI mu) 6 0) (0, []) (by rw [← hB]; exact b1)
  obtain ⟨-, g2, g3⟩ := lsf_ge i1
  have hi : i < 6 := by omega
  refine ⟨i, hi, g3, ?_, ?_⟩
  · refine (lp_nr N hG hn hmu hs hk hkn hg hT 6 0 N (by omega) (by omega)).trans ?_
    rw [← hB] at i2
    rw [i2]
    rfl
  · rw [Bl_less hmu hi g3 hk hkn, hB, i3]
    rfl
theorem lp_ra (N : Nat) (hN : 300 ≤ N) {G : Nat → Nat → Nat} (hG : ∀ j k, G j k ≤ 999) {n q m : Nat} {σ : Mem} (hn : n ≤ 5) (hq : q < n) (hm : m < 64) (hg : Gtb G n (nI m) σ) (hT : Tm G n (nI m) (m + 1) σ) : ∀ (u s M mu : Nat) (x4 : Int32), s + u = q + 1 → u < M → mu ≤ m → sb (nI m) mu → (lsf (nI mu) 6 0).length + s = n → itr (fun _ _ _ _ => none) (st_X2_readAt_8 N (nI q)) M (nI mu) x4 (nI s) σ = some (if u = 0 then x4 else nI ((Bl G n mu).2.getD (u - 1) 0), σ)
  | u, s, 0, mu, x4, _, h2, _, _, _ => absurd h2 (by omega)
  | 0, s, M + 1, mu, x4, h1, _, _, _, _ => by
    show st_X2_readAt_8 N (nI q) _ (nI mu) x4 (nI s) σ = _
    unfold st_X2_readAt_8
    rw [if_pos (nI_lt (by omega) (by omega)), if_pos rfl]
  | u + 1, s, M + 1, mu, x4, h1, h2, hmm, hs, hlen => by
    obtain ⟨k, hk⟩ : ∃ k, (lsf (nI mu) 6 0).length = k + 1 := ⟨(lsf (nI mu) 6 0).length - 1, by omega⟩
    have hj : n - (k + 1) = s := by omega
    obtain ⟨i, i1, i2, i3, i4⟩ := e_nr N hN hG hn (show mu < 64 by omega) hs hk (by omega) hg (fun mu' h => hT mu' (by omega))
    rw [hj] at i3
    obtain ⟨t1, t2⟩ := msk_tab mu (by omega) i (by omega) i2
    have e : ∀ rec, st_X2_readAt_8 N (nI q) rec (nI mu) x4 (nI s) σ = rec (nI (mu - 2 ^ i)) (nI i) (nI (s + 1)) σ := by
      intro rec
      unfold st_X2_readAt_8
      simp only [lt_p]
      rw [if_neg (Int32.not_lt.mpr (nI_le (show s ≤ q by omega) (by omega))), if_neg (show ¬ (5 : Int32) ≤ nI s from nI_ge (b := 5) (by omega) (by decide)), i3, bd_some, if_pos (nI_pos' (show i < 2 ^ 31 by omega)), t1, nI_1]
    have e' : itr (fun _ _ _ _ => none) (st_X2_readAt_8 N (nI q)) (M + 1) (nI mu) x4 (nI s) σ = _ := e (itr (fun _ _ _ _ => none) (st_X2_readAt_8 N (nI q)) M)
    have hl2 : (lsf (nI (mu - 2 ^ i)) 6 0).length + (s + 1) = n := by
      rw [sb_lst (by omega) i1 i2, List.length_erase_of_mem (lsf_mem i2 6 0 (by omega) (by omega))]
      omega
    rw [e', lp_ra N hN hG hn hq hm hg hT u (s + 1) M (mu - 2 ^ i) (nI i) (by omega) (by omega) (Nat.le_trans (Nat.sub_le _ _) hmm) (sb_less (by omega) i1 i2 hs) hl2, if_neg (Nat.succ_ne_zero u), i4]
    by_cases z : u = 0
    · rw [if_pos z, z]
      rfl
    · rw [if_neg z]
      obtain ⟨v, rfl⟩ : ∃ v, u = v + 1 := ⟨u - 1, by omega⟩
      rfl
/-! readsMost, whole -/
theorem it_tab : ∀ m, m < 64 → (List.range (cnt (nI m) 12)).map (it (nI m)) = lsf (nI m) 6 0 := by decide +kernel
theorem it_inj0 : ∀ m, m < 64 → ∀ a, a < 6 → ∀ b, b < 6 → (a < cnt (nI m) 12 && b < cnt (nI m) 12 && it (nI m) a == it (nI m) b && a != b) = false := by decide +kernel
theorem it_inj : ∀ m, m < 64 → ∀ a, a < 6 → ∀ b, b < 6 → a < cnt (nI m) 12 → b < cnt (nI m) 12 → it (nI m) a = it (nI m) b → a = b := by
  intro m hm a ha b hb h1 h2 h3
  have := it_inj0 m hm a ha b hb
  rw [h3] at this
  simpa [h1, h2] using this
theorem it_6 : ∀ m, m < 64 → ∀ a, a < 6 → a < cnt (nI m) 12 → it (nI m) a < 6 := by decide +kernel
theorem cnt_6 : ∀ m, m < 64 → cnt (nI m) 12 ≤ 6 ∧ (0 < m → 1 ≤ cnt (nI m) 12) := by decide +kernel
theorem s_mst (N : Nat) (hN : 6000 ≤ N) {σ τ : Mem} {lw p m : Nat} {LV : LVt} {LX : LXt} (hL : Lw lw LV LX σ τ) (hB : Rb 32 σ (Al τ 1)) (hp : p < 12) (hm : m < 64) (h0 : 0 < m) (hc : cnt (nI m) 12 ≤ 5) (x3 : Int32) (hx : x3 = 100 ∨ ∃ j, j < cnt (nI m) 12 ∧ x3 = nI j) (K : Int32 → Mem → Option (Int32 × Mem)) (hK : ∀ x s, K x s = if x3 = 100 then (some (x, s)) else chk x3 7 (some (gi s 28 (ix x3), s))) : ∃ r σ' τ', bd (f_X2_readMost N (nI p) (nI m) 32 lw σ) (fun r8 s7 => if x3 = 100 then (some (r8, s7)) else bd (f_X2_readAt N (nI m) x3 s7) (fun r10 s9 => some (r10, s9))) = some (r, σ') ∧ bd (f_X10_listsOnes N (nI m) τ) (fun _ s10 => bd (f_X10_beginsRows N (nI (cnt (nI m) 12)) s10) (fun _ s12 => itr (fun _ _ _ => none) (st_X10_readsMost_86 N (nI p) x3 (nI (cnt (nI m) 12)) K) N (-1) 1 s12)) = some (r, τ') := by
  obtain ⟨q1, q2⟩ := cnt_6 m hm
  have h1 := q2 h0
  have hG : ∀ j k, Gq LV τ p j k ≤ 999 := fun j k => Gq_le hL p j k
  have hlen : (lsf (nI m) 6 0).length = cnt (nI m) 12 := by
    rw [← it_tab m hm, List.length_map, List.length_range]
  obtain ⟨σ1, a1, a2, a3⟩ := e_readMost N (by omega) hL hB hp hc hm h0 hlen
  obtain ⟨τ2, b1, b2, b3⟩ := s_lists N (by omega) (show cnt (nI m) 12 ≤ 7 by omega) τ
  obtain ⟨τ3, c1, c2, c3⟩ := s_begins N (by omega) (show cnt (nI m) 12 ≤ 7 by omega) τ2
  obtain ⟨l, l1, l2⟩ := prm_head h1 (show cnt (nI m) 12 ≤ 7 by omega)
  have hch := chn_all h1 (show cnt (nI m) 12 ≤ 7 by omega)
  rw [l1] at hch
  obtain ⟨τ4, r1, r2, -⟩ := lp_m86 N (by omega) (its := it (nI m)) hL hp h1 (show cnt (nI m) 12 ≤ 7 by omega) (fun i hi => it_6 m hm i (by omega) hi) x3 K l (List.range (cnt (nI m) 12)) N (0, []) τ3 hch (by omega) c2 (fun i hi => by rw [c3 _ _ (by decide)]; exact b2 i hi) (fun c i _ _ z => by rw [c3 _ _ (by omega), b3 _ _ (by omega)]) (Nat.zero_le _) (fun h => absurd h (Nat.lt_irrefl _))
  rw [← l1, fb_prm me (mh (Gq LV τ p) (it (nI m))) mx (mh_Sp _ _)] at r1 r2
  obtain ⟨⟨p1, p2⟩, p3⟩ := bst_1 (its := it (nI m)) hG (cnt (nI m) 12) (List.range (cnt (nI m) 12)) 0 List.length_range
  rw [show tk (0, []) (bst me (mh (Gq LV τ p) (it (nI m))) mx (cnt (nI m) 12) (List.range (cnt (nI m) 12)) 0) = bst me (mh (Gq LV τ p) (it (nI m))) mx (cnt (nI m) 12) (List.range (cnt (nI m) 12)) 0 from if_pos p1] at r1 r2
  have hBl : Bl (Gq LV τ p) (cnt (nI m) 12) m = mp (it (nI m)) (bst me (mh (Gq LV τ p) (it (nI m))) mx (cnt (nI m) 12) (List.range (cnt (nI m) 12)) 0) := by
    rw [← bst_map (Gq LV τ p) (it (nI m)) _ _ _ (fun a b ha hb' => it_inj m hm a (by have := List.mem_range.mp ha; omega) b (by have := List.mem_range.mp hb'; omega) (List.mem_range.mp ha) (List.mem_range.mp hb')), it_tab m hm]
    unfold Bl
    rw [hlen, Nat.sub_self]
  have hra : ∀ j, j < cnt (nI m) 12 → f_X2_readAt N (nI m) (nI j) σ1 = some (nI ((Bl (Gq LV τ p) (cnt (nI m) 12) m).2.getD j 0), σ1) := fun j hj => by
    have := lp_ra N (by omega) hG hc hj hm a2 a3 (j + 1) 0 N m (-1) (by omega) (by omega) (Nat.le_refl _) (fun i _ h => h) (by rw [hlen]; rfl)
    rw [if_neg (Nat.succ_ne_zero j)] at this
    exact this
  rw [hBl] at a1 hra
  have r1' : itr (fun _ _ _ => none) (st_X10_readsMost_86 N (nI p) x3 (nI (cnt (nI m) 12)) K) N (-1) 1 τ3 = _ := r1
  rw [a1, bd_some, b1, bd_some, c1, bd_some, r1', hK]
  revert r2
  revert hra
  revert p3
  revert p1
  generalize bst me (mh (Gq LV τ p) (it (nI m))) mx (cnt (nI m) 12) (List.range (cnt (nI m) 12)) 0 = B
  intro p1 p3 hra r2
  rcases hx with rfl | ⟨j, hj, rfl⟩
  · rw [if_pos rfl, if_pos rfl]
    refine ⟨_, σ1, τ4, rfl, ?_⟩
    rw [show nI B.1 - 1 = nI (B.1 - 1) from pk_sub (b := 1) p1]
    rfl
  · have n100 : ¬ nI j = (100 : Int32) := nI_nq (b := 100) (by omega) (by omega) (by decide)
    rw [if_neg n100, if_neg n100, hra j hj, bd_some, chk_n (by omega) (by decide), ix_n (by omega), r2 p1 j hj]
    refine ⟨_, σ1, τ4, rfl, ?_⟩
    have : (mp (it (nI m)) B).2.getD j 0 = it (nI m) (B.2.getD j 0) := by
      show (B.2.map (it (nI m))).getD j 0 = _
      rw [List.getD_eq_getElem?_getD, List.getElem?_map, List.getD_eq_getElem?_getD, List.getElem?_eq_getElem (by rw [p3]; exact hj)]
      rfl
    rw [this]
theorem in_63 {x : Int32} (hs : ∀ i, 6 ≤ i → i < 32 → bt x i = false) : (∃ n, n < 64 ∧ x = nI n) ∧ (inR x 1 63 ↔ ¬ x = 0) := by
  have hn : ∃ n, n < 64 ∧ x = nI n := by
    refine ⟨x.toBitVec.toNat, Nat.lt_pow_two_of_testBit (n := 6) _ (fun i hi => ?_), ?_⟩
    · by_cases z : i < 32
      · exact hs i hi z
      · exact BitVec.getLsbD_of_ge x.toBitVec i (by omega)
    · exact Int32.toBitVec_inj.mp (by
        show x.toBitVec = (nI x.toBitVec.toNat).toBitVec
        apply BitVec.eq_of_toNat_eq
        show _ = (BitVec.ofNat 32 x.toBitVec.toNat).toNat
        rw [BitVec.toNat_ofNat, Nat.mod_eq_of_lt x.toBitVec.isLt])
  refine ⟨hn, ?_⟩
  obtain ⟨n, hn, rfl⟩ := hn
  constructor
  · intro h1 h2
    rw [h2] at h1
    exact absurd h1 (by decide)
  · intro h1
    have : ¬ n = 0 := fun z => h1 (by rw [z]; rfl)
    exact inR_of (a := 1) (b := 63) (by omega) (by omega) (by decide)
theorem s_readsMost (N : Nat) (hN : 6000 ≤ N) {σ τ : Mem} (hl : Rl σ τ) (hp : Rp σ τ) (hn : Rn σ τ) (x1 x2 x3 : Int32) : ∃ r σ' τ', f_X9_readsMost N x1 x2 x3 σ = some (r, σ') ∧ f_X10_readsMost N x1 x2 x3 τ = some (r, τ') := by
  obtain ⟨lw, LV, LX, hlw, h10, hle, hLC, hLM⟩ := hl.law
  have hL : Lw lw LV LX σ τ := ⟨hlw, hLC, hLM, hle⟩
  have hs6 : ∀ i, 6 ≤ i → i < 32 → bt (gi σ 32 1) i = false := fun i h h' => by
    rw [show gi σ 32 1 = gi τ 1 146 from hn.1.1.2.1]
    exact (hn.2.1.2.1 i h h').1
  have hs : ∀ i, 12 ≤ i → i < 32 → bt (gi σ 32 1) i = false := fun i h h' => hs6 i (by omega) h'
  have e146 : gi τ 1 (ix (146 : Int32)) = gi σ 32 1 := (show gi σ 32 1 = gi τ 1 146 from hn.1.1.2.1).symm
  have c146 : ∀ {α : Type} (e : Option α), chk (146 : Int32) 151 e = e := fun e => chk_n (n := 146) (by decide) (by decide)
  unfold f_X9_readsMost f_X10_readsMost
  rw [e_told3, e_isParish, bd_some, bd_some, ite10, ite10, ← hp.1]
  by_cases h1 : inR x1 0 11 ∧ hb (gi σ 3 0) x1
  · rw [if_pos h1, if_pos h1, show f_X9_isSome N x2 (gi σ 32 1) 5 σ = _ from e_some N (w := 5) (by decide) hs σ, e_in, bd_some, bd_some, ite10, ite10, c146, e146]
    obtain ⟨p, -, hh, rfl⟩ := inR_n (a := 0) (b := 11) rfl rfl (by decide) (by decide) h1.1
    by_cases hsub : x2 &&& (gi σ 32 1 ^^^ (-1)) = 0
    · have hlow : ∀ i, 6 ≤ i → i < 32 → bt x2 i = false := fun i h h' => by
        have := and_not_b x2 (gi σ 32 1) h'
        rw [hsub, bt_0, hs6 i h h'] at this
        cases v : bt x2 i with
        | false => rfl
        | true => rw [v] at this; cases this
      obtain ⟨⟨m, hm, rfl⟩, hin⟩ := in_63 hlow
      by_cases h0 : nI m = 0
      · rw [if_neg (fun y => y.1 h0), if_neg (fun y => (hin.mp y) h0)]
        exact ⟨_, σ, τ, rfl, rfl⟩
      · have hm0 : 0 < m := Nat.pos_of_ne_zero (fun y => h0 (by rw [y]; rfl))
        rw [if_pos (hin.mpr h0), if_pos hsub, e_bits N (by omega), bd_some]
        by_cases h7 : cnt (nI m) 12 ≤ 5
        · have hc1 := (cnt_6 m hm).2 hm0
          rw [if_pos (show nI (cnt (nI m) 12) ≤ (5 : Int32) from nI_le (b := 5) h7 (by decide)), if_pos ⟨h0, hsub, h7⟩, e_bits N (by omega), bd_some]
          simp only [lt_p]
          have h10' : ix (gi σ 0 10) = lw := by rw [h10]; exact ix_b hlw
          by_cases x100 : x3 = 100
          · rw [if_pos x100, if_pos x100, h10', hlw, ckc_t]
            exact s_mst N hN hL hn.1 (by omega) hm hm0 h7 x3 (Or.inl x100) _ (fun _ _ => rfl)
          · rw [if_neg x100, if_neg x100, e_bc, bd_some, bc_cnt (fun i h h' => hlow i (by omega) h'), nI_p1 hc1, e_within, e_in, bd_some, bd_some, ite10, ite10]
            by_cases hi : inR x3 0 (nI (cnt (nI m) 12 - 1))
            · rw [if_pos hi, if_pos hi, h10', hlw, ckc_t]
              obtain ⟨j, -, hj, ej⟩ := inR_n (a := 0) (b := cnt (nI m) 12 - 1) rfl rfl (by omega) (by decide) hi
              exact s_mst N hN hL hn.1 (by omega) hm hm0 h7 x3 (Or.inr ⟨j, by omega, ej⟩) _ (fun _ _ => rfl)
            · rw [if_neg hi, if_neg hi]
              exact ⟨_, σ, τ, rfl, rfl⟩
        · rw [if_neg (show ¬ nI (cnt (nI m) 12) ≤ (5 : Int32) from nI_ge (a := 5) (by omega) (by have := cnt_le (nI m) 12; omega)), if_neg (fun y => h7 y.2.2)]
          exact ⟨_, σ, τ, rfl, rfl⟩
    · rw [if_neg (fun y => hsub y.2.1), if_neg hsub]
      by_cases hi : inR x2 1 63
      · rw [if_pos hi]
        exact ⟨_, σ, τ, rfl, rfl⟩
      · rw [if_neg hi]
        exact ⟨_, σ, τ, rfl, rfl⟩
  · rw [if_neg h1, if_neg h1]
    exact ⟨_, σ, τ, rfl, rfl⟩
