/-! law -/
theorem W_rr {c i : Nat} (h : W_X10_readsRule c i) : (c = 0 ∧ (i = 6 ∨ i = 8 ∨ i = 9 ∨ i = 10 ∨ i = 11 ∨ i = 12 ∨ i = 13)) ∨ (6 ≤ c ∧ c ≤ 11) := by
  unfold W_X10_readsRule W_X10_readsCondition W_X10_readsCompared W_X10_readsSum W_X10_readsFactor W_X10_readsNumber W_X10_endsPiece W_X10_lands W_X10_jumps W_X10_closesSums W_X10_opens W_X10_notes W_X10_isDigit W_X10_here W_X10_wrongAt W_X10_waitTop W_X10_factOf W_X10_sumSign W_X10_hasOpenSum at h
  simp only [or_false, false_or] at h
  omega
def RG (τ τ' : Mem) : Prop := ∀ c i, ¬ ((c = 0 ∧ (i = 6 ∨ i = 8 ∨ i = 9 ∨ i = 10 ∨ i = 11 ∨ i = 12 ∨ i = 13)) ∨ (6 ≤ c ∧ c ≤ 11)) → gi τ' c i = gi τ c i
theorem RG.tr {τ τ1 τ2 : Mem} (h : RG τ τ1) (h1 : RG τ1 τ2) : RG τ τ2 := fun c i hc => (h1 c i hc).trans (h c i hc)
theorem RG.rule (N : Nat) {τ τ1 : Mem} {x : Int32} (h : f_X10_readsRule N τ = some (x, τ1)) : RG τ τ1 := fun c i hc => (fr_X10_readsRule N τ x τ1 h c i (fun z => hc (W_rr z))).1
theorem RG.w (τ : Mem) {i : Nat} {v : Int32} (hi : i = 6 ∨ i = 8) : RG τ (si τ 0 i v) := fun c k hc => by rw [gi_si, if_neg (by omega)]
theorem RT.g {n : Nat} {txt : Nat → Nat} {τ τ' : Mem} (h : RT n txt τ) (f : RG τ τ') : RT n txt τ' := ⟨by rw [f _ _ (by omega)]; exact h.1, fun j hj => by rw [f _ _ (by omega)]; exact h.2 j hj⟩
theorem ruleF (N : Nat) {b n c : Nat} {txt : Nat → Nat} {σ0 σ : Mem} {F x : Int32} (hb : isLw b = true) (hC : CT b n txt σ0) (h : CF b c σ0 σ) (hF : ¬ F = 0) (hd : gi σ 93 3 = F) : f_X6_readRule N x σ = some ((), σ) := by
  obtain ⟨y, e⟩ := hereF N hb hC h
  unfold f_X6_readRule
  rw [e, bd_some, if_neg (by rw [hd]; exact hF), e_failF (b := 0) (i := 0) (c := 0) N hF hd, bd_some]
theorem lp_law (N b n : Nat) (txt : Nat → Nat) (hb : isLw b = true) (hT : Tx txt n) (hN : 300 ≤ N) (k71 : Int32 → Mem → Option (Int32 × Mem)) : ∀ (m ru Mc Mr i c r o w : Nat) (σ τ : Mem) (G : Option (Int32 × Mem)), ru + m = 16 → m + 1 < Mc → m < Mr → CT b n txt σ → CD b σ i 0 c → RT n txt τ → RD τ i o r w → gi τ 0 13 = nI ru → i ≤ n → c ≤ i → r ≤ i → Rules b 8 6 ru c r σ τ → (∀ s, f_X10_readsRule N τ = some (1, s) → G = itr (fun _ _ => none) (st_X10_law_31 N k71) (Mr + 1) 1 s) → (∀ s, f_X10_readsRule N τ = some (0, s) → G = itr (fun _ _ => none) (st_X10_law_31 N k71) (Mr + 1) 0 s) →
    (∃ (σ' τ' : Mem) (m' c1 r1 : Nat), itr (fun _ _ => none) (st_X6_read_34 N) Mc (nI ru) σ = some (nI m', σ') ∧ G = k71 1 τ' ∧ (1 ≤ m' ∧ m' ≤ 16 ∧ r1 ≤ 240) ∧ (CG b σ σ' ∧ gi σ' b 0 = nI m') ∧ (RG τ τ' ∧ gi τ' 0 11 = nI r1 ∧ gi τ' 0 13 = nI m') ∧ Rules b 8 6 m' c1 r1 σ' τ') ∨
    (∃ (σ' τ' : Mem) (F : Int32), itr (fun _ _ => none) (st_X6_read_34 N) Mc (nI ru) σ = some (F, σ') ∧ G = k71 0 τ' ∧ CG b σ σ' ∧ RG τ τ' ∧ F < 0 ∧ gi τ' 0 8 = F)
  | m, ru, 0, Mr, i, c, r, o, w, σ, τ, G, _, h2, _, _, _, _, _, _, _, _, _, _, _, _ => absurd h2 (by omega)
  | m, ru, Mc + 1, Mr, i, c, r, o, w, σ, τ, G, h1, h2, h3, hC, hD, hR, hd, h13, hi, hc, hr', hrl, g1, g0 => by
    have hb' := isLw_or hb
    have hn := hT.1
    have ei : itr (fun _ _ => none) (st_X6_read_34 N) (Mc + 1) (nI ru) σ = st_X6_read_34 N (itr (fun _ _ => none) (st_X6_read_34 N) Mc) (nI ru) σ := rfl
    have l0 : ∀ M s, itr (fun _ _ => none) (st_X10_law_31 N k71) (M + 1) 0 s = k71 0 s := fun M s => by
      show st_X10_law_31 N k71 _ 0 s = _
      unfold st_X10_law_31
      rw [if_pos rfl]
    rcases s_rule N b n txt hb hT hN (by omega) hC hD hR hd h13 hi hc hr' hrl with ⟨σ1, τ1, j, c1, r1, o1, w1, e1, e2, ⟨b1, b2, b3, b4, b5⟩, ⟨fg, D1, z0⟩, ⟨R1, d1, z13⟩, rl1⟩ | ⟨σ1, τ1, F, e1, e2, fg, x1, x2, x3⟩
    · have C1 := hC.fg hb fg
      have rg := RG.rule N e2
      have g := g1 τ1 e2
      have ef : st_X6_read_34 N (itr (fun _ _ => none) (st_X6_read_34 N) Mc) (nI ru) σ = if nI j = nI n then some (nI (ru + 1), σ1) else bd (f_X6_pass N 59 σ1) (fun _ s10 => itr (fun _ _ => none) (st_X6_read_34 N) Mc (nI (ru + 1)) s10) := by
        generalize itr (fun _ _ => none) (st_X6_read_34 N) Mc = rec
        unfold st_X6_read_34
        simp only [lt_p]
        rw [if_neg (show ¬ (16 : Int32) < nI ru from nI_nlt (a := 16) (by omega) (by decide)), e1, bd_some, if_pos D1.2.1, D1.1, C1.1.2.1, nI_1]
      have es : itr (fun _ _ => none) (st_X10_law_31 N k71) (Mr + 1) 1 τ1 = if nI n ≤ nI j then k71 1 τ1 else bd (f_X10_takes N 59 τ1) (fun r8 s7 => if r8 = 0 then itr (fun _ _ => none) (st_X10_law_31 N k71) Mr 0 s7 else bd (f_X10_readsRule N s7) (fun r10 s9 => if r10 = 0 then itr (fun _ _ => none) (st_X10_law_31 N k71) Mr 0 s9 else itr (fun _ _ => none) (st_X10_law_31 N k71) Mr 1 s9)) := by
        show st_X10_law_31 N k71 _ 1 τ1 = _
        generalize itr (fun _ _ => none) (st_X10_law_31 N k71) Mr = rec
        unfold st_X10_law_31
        rw [if_neg (show ¬ (1 : Int32) = 0 by decide), d1.1, R1.1]
      by_cases hj : j = n
      · rw [if_pos (by rw [hj])] at ef
        rw [if_pos (by rw [hj]; exact nI_le (Nat.le_refl n) (by omega))] at es
        exact Or.inl ⟨σ1, τ1, ru + 1, c1, r1, ei.trans ef, g.trans es, ⟨by omega, by omega, by omega⟩, ⟨fg, z0⟩, ⟨rg, d1.2.2.1, z13⟩, rl1⟩
      · rw [if_neg (nI_nq hj (by omega) (by omega))] at ef
        rw [if_neg (nI_ge (by omega) (by omega))] at es
        by_cases h59 : hr txt n j = 59
        · have hjn := hr_pos (k := 59) (by decide) h59
          have et : f_X10_takes N 59 τ1 = some (1, si τ1 0 6 (nI (j + 1))) := by
            unfold f_X10_takes
            rw [e_hereM N hn b3 R1 d1, bd_some, if_pos h59, lt_p, d1.1, nI_1]
          rw [show (59 : Int32) = nI 59 from rfl, e_passT N hn b3 C1 D1 h59, bd_some] at ef
          rw [et, bd_some, if_neg (by decide)] at es
          have rg2 : RG τ (si τ1 0 6 (nI (j + 1))) := rg.tr (RG.w τ1 (by omega))
          have cg2 : CG b σ (si σ1 93 2 (nI (j + 1))) := fg.tr (CF.at' b 0 σ1 _).g
          have D2 : CD b (si σ1 93 2 (nI (j + 1))) (j + 1) 0 c1 := ⟨gi_eq _ _ _ _, by rw [gi_ni (by decide)]; exact D1.2.1, by rw [gi_ne (by omega)]; exact D1.2.2⟩
          have d2 : RD (si τ1 0 6 (nI (j + 1))) (j + 1) o1 r1 w1 := by
            unfold RD
            simp (disch := omega) only [gi_ne, gi_ni, gi_eq]
            exact ⟨trivial, d1.2.1, d1.2.2.1, d1.2.2.2⟩
          have rl2 : Rules b 8 6 (ru + 1) c1 r1 (si σ1 93 2 (nI (j + 1))) (si τ1 0 6 (nI (j + 1))) := rl1.fr (fun k q _ _ _ => gi_ne (by omega)) (fun q _ => gi_ne (by omega)) (fun k q _ _ => gi_ne (by omega)) (fun q _ => gi_ne (by omega)) (by omega) (by omega)
          have hrec := lp_law N b n txt hb hT hN k71 (m - 1) (ru + 1) Mc (Mr - 1) (j + 1) c1 r1 o1 w1 _ _ (bd (f_X10_readsRule N (si τ1 0 6 (nI (j + 1)))) (fun r10 s9 => if r10 = 0 then itr (fun _ _ => none) (st_X10_law_31 N k71) Mr 0 s9 else itr (fun _ _ => none) (st_X10_law_31 N k71) Mr 1 s9)) (by omega) (by omega) (by omega) (hC.fg hb cg2) D2 (hR.g rg2) d2 (by rw [gi_ni (by decide)]; exact z13) (by omega) (by omega) (by omega) rl2 (fun s hs => by rw [hs, bd_some, if_neg (by decide), show Mr - 1 + 1 = Mr by omega]) (fun s hs => by rw [hs, bd_some, if_pos rfl, show Mr - 1 + 1 = Mr by omega])
          rcases hrec with ⟨σ', τ', m', c', r'', y1, y2, y3, ⟨y4, y4'⟩, ⟨y5, y5'⟩, y6⟩ | ⟨σ', τ', F, y1, y2, y3, y4, y5, y6⟩
          · exact Or.inl ⟨σ', τ', m', c', r'', ei.trans (ef.trans y1), g.trans (es.trans y2), y3, ⟨cg2.tr y4, y4'⟩, ⟨rg2.tr y5, y5'⟩, y6⟩
          · exact Or.inr ⟨σ', τ', F, ei.trans (ef.trans y1), g.trans (es.trans y2), cg2.tr y3, rg2.tr y4, y5, y6⟩
        · have et : f_X10_takes N 59 τ1 = some (0, si τ1 0 8 (flt 1 j)) := by
            unfold f_X10_takes
            rw [e_hereM N hn b3 R1 d1, bd_some, if_neg h59, d1.1, show (1 : Int32) = nI 1 from rfl, e_wrongAt, bd_some, ckz_0]
          rw [show (59 : Int32) = nI 59 from rfl, e_passN N hn b3 C1 D1 h59, bd_some] at ef
          rw [et, bd_some, if_pos rfl, show Mr = (Mr - 1) + 1 by omega, l0] at es
          have hF : ¬ flt 1 j = 0 := flt_ne (by omega) (by omega) (by omega)
          have e5 : itr (fun _ _ => none) (st_X6_read_34 N) Mc (nI (ru + 1)) (si σ1 93 3 (flt 1 j)) = some (flt 1 j, si σ1 93 3 (flt 1 j)) := by
            rw [show Mc = (Mc - 1) + 1 by omega]
            show st_X6_read_34 N _ (nI (ru + 1)) _ = _
            unfold st_X6_read_34
            rw [if_neg (show ¬ (16 : Int32) < nI (ru + 1) from nI_nlt (a := 16) (by omega) (by decide)), ruleF N hb C1 (CF.ft b 0 σ1 _) hF (gi_eq _ _ _ _), bd_some, if_neg (by rw [gi_eq]; exact hF), gi_eq]
          refine Or.inr ⟨_, si τ1 0 8 (flt 1 j), flt 1 j, ei.trans (ef.trans e5), ?_, fg.tr (CF.ft b 0 σ1 _).g, rg.tr (RG.w τ1 (by omega)), flt_neg (by omega) (by omega) (by omega), gi_eq _ _ _ _⟩
          rw [show Mr - 1 + 1 = Mr by omega] at es
          exact g.trans es
    · have hF : ¬ F = 0 := fun z => by rw [z] at x2; exact absurd x2 (by decide)
      refine Or.inr ⟨σ1, τ1, F, ?_, (g0 τ1 e2).trans (l0 Mr τ1), fg, RG.rule N e2, x2, x3⟩
      rw [ei]
      unfold st_X6_read_34
      rw [if_neg (show ¬ (16 : Int32) < nI ru from nI_nlt (a := 16) (by omega) (by decide)), e1, bd_some, if_neg (by rw [x1]; exact hF), x1]
-- the law comes into force
def cp95 : Nat → Nat → Mem → Mem
  | 0, _, s => s
  | m + 1, i, s => cp95 m (i + 1) (si s 12 i (gi s 6 i))
theorem cp95_gi : ∀ (m i : Nat) (s : Mem) (c q : Nat), gi (cp95 m i s) c q = if c = 12 ∧ i ≤ q ∧ q < i + m then gi s 6 q else gi s c q
  | 0, i, s, c, q => by
    rw [if_neg (by omega)]
    rfl
  | m + 1, i, s, c, q => by
    show gi (cp95 m (i + 1) _) c q = _
    rw [cp95_gi m (i + 1) _ c q, gi_ne (by decide), gi_si]
    by_cases h1 : c = 12 ∧ i + 1 ≤ q ∧ q < i + 1 + m
    · rw [if_pos h1, if_pos (show c = 12 ∧ i ≤ q ∧ q < i + (m + 1) by omega)]
    · rw [if_neg h1]
      by_cases h2 : c = 12 ∧ q = i
      · rw [if_pos h2, if_pos (show c = 12 ∧ i ≤ q ∧ q < i + (m + 1) by omega), h2.2]
      · rw [if_neg h2, if_neg (show ¬ (c = 12 ∧ i ≤ q ∧ q < i + (m + 1)) by omega)]
theorem lp_95 (N r : Nat) (hr : r ≤ 240) (K : Mem → Option (Int32 × Mem)) : ∀ (m i M : Nat) (s : Mem), i + m = r → m < M → gi s 0 11 = nI r → itr (fun _ _ => none) (st_X10_law_95 N K) M (nI i) s = K (cp95 m i s)
  | m, i, 0, s, _, h2, _ => absurd h2 (by omega)
  | 0, i, M + 1, s, h1, _, h3 => by
    show st_X10_law_95 N K _ (nI i) s = _
    unfold st_X10_law_95
    rw [h3, if_pos (nI_le (by omega) (by omega))]
    rfl
  | m + 1, i, M + 1, s, h1, h2, h3 => by
    have e : itr (fun _ _ => none) (st_X10_law_95 N K) (M + 1) (nI i) s = itr (fun _ _ => none) (st_X10_law_95 N K) M (nI (i + 1)) (si s 12 i (gi s 6 i)) := by
      show st_X10_law_95 N K _ (nI i) s = _
      generalize itr (fun _ _ => none) (st_X10_law_95 N K) M = rec
      unfold st_X10_law_95
      simp only [lt_p]
      rw [h3, if_neg (nI_ge (by omega) (by omega)), chk_n (by omega) (by decide), chk_n (by omega) (by decide), ix_n (by omega), nI_1]
    rw [e]
    exact lp_95 N r hr K m (i + 1) M _ (by omega) (by omega) (by rw [gi_ne (by decide)]; exact h3)
def cp123 : Nat → Nat → Mem → Mem
  | 0, _, s => s
  | m + 1, i, s => cp123 m (i + 1) (si (si (si (si s 13 i (gi s 8 i)) 14 i (gi s 9 i)) 15 i (gi s 10 i)) 16 i (gi s 11 i))
theorem cp123_gi : ∀ (m i : Nat) (s : Mem) (c q : Nat), gi (cp123 m i s) c q = if (13 ≤ c ∧ c ≤ 16) ∧ i ≤ q ∧ q < i + m then gi s (c - 5) q else gi s c q
  | 0, i, s, c, q => by
    rw [if_neg (by omega)]
    rfl
  | m + 1, i, s, c, q => by
    show gi (cp123 m (i + 1) _) c q = _
    rw [cp123_gi m (i + 1) _ c q]
    by_cases h1 : (13 ≤ c ∧ c ≤ 16) ∧ i + 1 ≤ q ∧ q < i + 1 + m
    · rw [if_pos h1, if_pos (show (13 ≤ c ∧ c ≤ 16) ∧ i ≤ q ∧ q < i + (m + 1) by omega), gi_ne (by omega), gi_ne (by omega), gi_ne (by omega), gi_ne (by omega)]
    · rw [if_neg h1]
      by_cases h2 : (13 ≤ c ∧ c ≤ 16) ∧ q = i
      · rw [if_pos (show (13 ≤ c ∧ c ≤ 16) ∧ i ≤ q ∧ q < i + (m + 1) by omega)]
        obtain ⟨h3, rfl⟩ := h2
        rcases (show c = 13 ∨ c = 14 ∨ c = 15 ∨ c = 16 by omega) with rfl | rfl | rfl | rfl
        all_goals simp (disch := omega) only [gi_ne, gi_eq]
      · rw [if_neg (show ¬ ((13 ≤ c ∧ c ≤ 16) ∧ i ≤ q ∧ q < i + (m + 1)) by omega), gi_si, if_neg (by omega), gi_si, if_neg (by omega), gi_si, if_neg (by omega), gi_si, if_neg (by omega)]
theorem lp_123 (N r : Nat) (hr : r ≤ 16) : ∀ (m i M : Nat) (s : Mem), i + m = r → m < M → gi s 0 13 = nI r → itr (fun _ _ => none) (st_X10_law_123 N) M (nI i) s = some (nI r, cp123 m i s)
  | m, i, 0, s, _, h2, _ => absurd h2 (by omega)
  | 0, i, M + 1, s, h1, _, h3 => by
    show st_X10_law_123 N _ (nI i) s = _
    unfold st_X10_law_123
    rw [h3, if_pos (nI_le (by omega) (by omega))]
    rfl
  | m + 1, i, M + 1, s, h1, h2, h3 => by
    have e : itr (fun _ _ => none) (st_X10_law_123 N) (M + 1) (nI i) s = itr (fun _ _ => none) (st_X10_law_123 N) M (nI (i + 1)) (si (si (si (si s 13 i (gi s 8 i)) 14 i (gi s 9 i)) 15 i (gi s 10 i)) 16 i (gi s 11 i)) := by
      show st_X10_law_123 N _ (nI i) s = _
      generalize itr (fun _ _ => none) (st_X10_law_123 N) M = rec
      unfold st_X10_law_123
      have hc : ∀ {α : Type} (e : Option α), chk (nI i) 16 e = e := fun e => chk_n (by omega) (by decide)
      have hx : ix (nI i) = i := ix_n (by omega)
      simp only [lt_p, hc, hx, nI_1]
      rw [h3, if_neg (nI_ge (by omega) (by omega))]
      simp (disch := decide) only [gi_ne]
    rw [e]
    exact lp_123 N r hr m (i + 1) M _ (by omega) (by omega) (by simp (disch := decide) only [gi_ne]; exact h3)
/-- the law in force -/
def Rl (σ τ : Mem) : Prop := ∃ b b' m c r : Nat, (isLw b = true ∧ isLw b' = true ∧ ¬ b = b') ∧ (gi σ 0 10 = nI b ∧ gi σ 93 4 = nI b') ∧ (m ≤ 16 ∧ gi σ b 0 = nI m ∧ gi τ 0 14 = nI m) ∧ Rules b 13 12 m c r σ τ
theorem Rl.fr {σ τ σ' τ' : Mem} (h : Rl σ τ) (h1 : gi σ' 0 10 = gi σ 0 10) (h2 : gi σ' 93 4 = gi σ 93 4) (h3 : ∀ b c i, isLw b = true → gi σ 0 10 = nI b → (c = b ∧ i = 0) ∨ (b + 1 ≤ c ∧ c ≤ b + 5) → gi σ' c i = gi σ c i) (h4 : gi τ' 0 14 = gi τ 0 14) (h5 : ∀ c i, 12 ≤ c → c ≤ 16 → gi τ' c i = gi τ c i) : Rl σ' τ' := by
  obtain ⟨b, b', m, c, r, ⟨a1, a2, a3⟩, ⟨a4, a5⟩, ⟨a6, a7, a8⟩, a9⟩ := h
  refine ⟨b, b', m, c, r, ⟨a1, a2, a3⟩, ⟨h1.trans a4, h2.trans a5⟩, ⟨a6, (h3 b b 0 a1 a4 (Or.inl ⟨rfl, rfl⟩)).trans a7, h4.trans a8⟩, a9.fr (fun k q k1 k2 _ => h3 b _ _ a1 a4 (by omega)) (fun q _ => h3 b _ _ a1 a4 (by omega)) (fun k q k1 _ => h5 _ _ (by omega) (by omega)) (fun q _ => h5 _ _ (by omega) (by omega)) (Nat.le_refl _) (Nat.le_refl _)⟩
theorem nI_all (x : Int32) : ∃ n, x = nI n := ⟨x.toBitVec.toNat, Int32.toBitVec_inj.mp (by show x.toBitVec = BitVec.ofNat 32 x.toBitVec.toNat; rw [BitVec.ofNat_toNat, BitVec.setWidth_eq])⟩
noncomputable def lawK (N : Nat) (x2 : Int32) (s11 : Mem) : Option (Int32 × Mem) := if x2 = 0 then (some (gi (si s11 0 5 0) 0 8, si s11 0 5 0)) else itr (fun _ _ => none) (st_X10_law_95 N (fun  (s17 : Mem) => itr (fun _ _ => none) (st_X10_law_123 N) N 0 s17)) N 0 (si (si s11 0 5 0) 0 14 (gi (si s11 0 5 0) 0 13))
theorem s_law (N : Nat) (hN : 300 ≤ N) {σ τ : Mem} (ht : Rt σ τ) (hl : Rl σ τ) (x1 : Int32) : ∃ r σ' τ', f_X9_law N x1 σ = some (r, σ') ∧ f_X10_law N x1 τ = some (r, τ') ∧ Rt σ' τ' ∧ Rl σ' τ' := by
  obtain ⟨⟨n0, hn0, t1, t2⟩, t3⟩ := id ht
  unfold f_X9_law f_X10_law
  rw [e_tapeHas, e_in, bd_some, bd_some, ite10, ite10, t1, t2]
  by_cases h1 : inR x1 1 240
  · by_cases h2 : x1 ≤ nI n0
    · rw [if_pos ⟨h1, h2⟩, if_pos h1, if_pos h2]
      obtain ⟨n, hn1, hn2, rfl⟩ := inR_n (a := 1) (b := 240) rfl rfl (by decide) (by decide) h1
      have hnn : n ≤ n0 := (nI_leI (by omega) (by omega)).mp h2
      obtain ⟨b, b', m, cc, rr, ⟨a1, a2, a3⟩, ⟨a4, a5⟩, ⟨a6, a7, a8⟩, a9⟩ := id hl
      have hb1 := isLw_or a1
      have hb2 := isLw_or a2
      -- the text
      have htx : ∀ j, j < 260 → ∃ k, k < 256 ∧ gi σ 2 j = nI k ∧ gi τ 5 j &&& 255 = nI k := fun j hj => by
        obtain ⟨k, hk, e⟩ := pk_andE (gi τ 5 j) (m := 255) 8 (by decide)
        exact ⟨k, hk, by rw [(t3 j hj).1, e], e⟩
      obtain ⟨txt, htx⟩ : ∃ txt : Nat → Nat, ∀ j, j < 260 → txt j < 256 ∧ gi σ 2 j = nI (txt j) ∧ gi τ 5 j &&& 255 = nI (txt j) := ⟨fun j => ix (gi σ 2 j), fun j hj => by
        obtain ⟨k, k1, k2, k3⟩ := htx j hj
        show ix (gi σ 2 j) < 256 ∧ _ = nI (ix (gi σ 2 j)) ∧ _ = nI (ix (gi σ 2 j))
        rw [k2, ix_n (by omega)]
        exact ⟨k1, rfl, k3⟩⟩
      have hT : Tx txt n := ⟨hn2, fun j hj => (htx j (by omega)).1⟩
      rw [e_take, bd_some, show isAr 2 = true from rfl, ckc_t]
      -- the class's start
      have em : imin (nI n) (nI (lenC 2)) = nI n := by
        show imin (nI n) (nI 260) = _
        unfold imin
        rw [if_neg (nI_nlt (by omega) (by decide))]
      have eC : f_X6_read N 2 (nI n) (si σ 1 1 0) = itr (fun _ _ => none) (st_X6_read_34 N) N (nI 0) (si (si (si (si (si (si (si σ 1 1 0) 93 0 (nI 2)) 93 1 (nI n)) 93 2 0) 93 3 0) b' 0 0) b' 6 0) := by
        unfold f_X6_read f_X4_clear
        simp only [lt_p, em, bd_some]
        have e5 : gi (si (si (si (si (si σ 1 1 0) 93 0 (nI 2)) 93 1 (nI n)) 93 2 0) 93 3 0) 93 4 = nI b' := by
          simp (disch := omega) only [gi_ne, gi_ni]
          exact a5
        rw [e5, ix_b a2, a2, ckc_t]
        rfl
      have C0 : CT b' n txt (si (si (si (si (si (si (si σ 1 1 0) 93 0 (nI 2)) 93 1 (nI n)) 93 2 0) 93 3 0) b' 0 0) b' 6 0) := by
        refine ⟨⟨?_, ?_, ?_⟩, fun j hj => ?_⟩
        · simp (disch := omega) only [gi_ne, gi_ni, gi_eq]; rfl
        · simp (disch := omega) only [gi_ne, gi_ni, gi_eq]
        · simp (disch := omega) only [gi_ne, gi_ni, gi_eq]; exact a5
        · simp (disch := omega) only [gi_ne, gi_ni, gi_eq]; exact (htx j (by omega)).2.1
      have D0 : CD b' (si (si (si (si (si (si (si σ 1 1 0) 93 0 (nI 2)) 93 1 (nI n)) 93 2 0) 93 3 0) b' 0 0) b' 6 0) 0 0 0 := by
        refine ⟨?_, ?_, ?_⟩
        · simp (disch := omega) only [gi_ne, gi_ni, gi_eq]; rfl
        · simp (disch := omega) only [gi_ne, gi_ni, gi_eq]
        · rw [gi_eq]; rfl
      have k0 : ∀ c i, ¬ c = 93 → ¬ c = b' → ¬ c = 1 → gi (si (si (si (si (si (si (si σ 1 1 0) 93 0 (nI 2)) 93 1 (nI n)) 93 2 0) 93 3 0) b' 0 0) b' 6 0) c i = gi σ c i := fun c i z1 z2 z3 => by
        simp (disch := omega) only [gi_ne]
      have k1 : gi (si (si (si (si (si (si (si σ 1 1 0) 93 0 (nI 2)) 93 1 (nI n)) 93 2 0) 93 3 0) b' 0 0) b' 6 0) 1 1 = 0 := by
        simp (disch := omega) only [gi_ne, gi_eq]
      generalize si (si (si (si (si (si (si σ 1 1 0) 93 0 (nI 2)) 93 1 (nI n)) 93 2 0) 93 3 0) b' 0 0) b' 6 0 = σ0 at eC C0 D0 k0 k1
      -- the reference's
      unfold f_X10_beginsText
      simp only [lt_p, bd_some]
      have R0 : RT n txt (si (si (si (si τ 0 6 0) 0 7 (nI n)) 0 11 0) 0 13 0) := by
        refine ⟨?_, fun j hj => ?_⟩
        · simp (disch := omega) only [gi_ne, gi_ni, gi_eq]
        · simp (disch := omega) only [gi_ne]; exact (htx j (by omega)).2.2
      obtain ⟨o0, ho0⟩ := nI_all (gi τ 0 10)
      obtain ⟨w0, hw0⟩ := nI_all (gi τ 0 12)
      have d0 : RD (si (si (si (si τ 0 6 0) 0 7 (nI n)) 0 11 0) 0 13 0) 0 o0 0 w0 := by
        unfold RD
        simp (disch := omega) only [gi_ne, gi_ni, gi_eq]
        exact ⟨rfl, ho0, rfl, hw0⟩
      have z13 : gi (si (si (si (si τ 0 6 0) 0 7 (nI n)) 0 11 0) 0 13 0) 0 13 = nI 0 := gi_eq _ _ _ _
      have j0 : ∀ c i, ¬ c = 0 → gi (si (si (si (si τ 0 6 0) 0 7 (nI n)) 0 11 0) 0 13 0) c i = gi τ c i := fun c i z => by
        simp (disch := omega) only [gi_ne]
      have j1 : gi (si (si (si (si τ 0 6 0) 0 7 (nI n)) 0 11 0) 0 13 0) 0 14 = gi τ 0 14 := by
        simp (disch := omega) only [gi_ne, gi_ni]
      generalize si (si (si (si τ 0 6 0) 0 7 (nI n)) 0 11 0) 0 13 0 = τ0 at R0 d0 z13 j0 j1 ⊢
      rw [eC]
      show ∃ r σ' τ', _ ∧ bd (f_X10_readsRule N τ0) (fun r6 s5 => itr (fun _ _ => none) (st_X10_law_31 N (lawK N)) N r6 s5) = some (r, τ') ∧ _
      have hlp := lp_law N b' n txt a2 hT hN (lawK N) 16 0 N (N - 1) 0 0 0 o0 w0 σ0 τ0 (bd (f_X10_readsRule N τ0) (fun r6 s5 => itr (fun _ _ => none) (st_X10_law_31 N (lawK N)) N r6 s5)) (by omega) (by omega) (by omega) C0 D0 R0 d0 z13 (by omega) (by omega) (by omega) (fun q hq => by omega) (fun s hs => by rw [hs, bd_some, show N - 1 + 1 = N by omega]) (fun s hs => by rw [hs, bd_some, show N - 1 + 1 = N by omega])
      rcases hlp with ⟨σ', τ', m', c1, r1, y1, y2, ⟨y3, y3', y3''⟩, ⟨y4, y4'⟩, ⟨y5, y5', y5''⟩, y6⟩ | ⟨σ', τ', F, y1, y2, y3, y4, y5, y6⟩
      · rw [y1, y2, bd_some, if_neg (nI_nle (by omega) (by omega))]
        have e10 : gi σ' 0 10 = nI b := by rw [y4 _ _ (by omega) (by omega), k0 _ _ (by omega) (by omega) (by omega)]; exact a4
        have e94 : gi σ' 93 4 = nI b' := by rw [y4 _ _ (by omega) (by omega)]; exact C0.1.2.2
        have eh : f_X6_handOver N b σ' = some (b', si σ' 93 4 (nI b)) := by
          unfold f_X6_handOver
          simp only [lt_p]
          rw [e94, ix_b a2, a2, ckc_t]
        rw [e10, ix_b a1, a1, ckc_t, eh, bd_some, a2, ckc_t]
        have el : lawK N 1 τ' = some (nI m', cp123 m' 0 (cp95 r1 0 (si (si τ' 0 5 0) 0 14 (nI m')))) := by
          unfold lawK
          have q13 : gi (si τ' 0 5 0) 0 13 = nI m' := by rw [gi_ni (by decide)]; exact y5''
          rw [if_neg (by decide), q13, show (0 : Int32) = nI 0 from rfl, lp_95 N r1 y3'' _ r1 0 N _ (by omega) (by omega) (by rw [gi_ni (by decide), gi_ni (by decide)]; exact y5')]
          exact lp_123 N m' y3' m' 0 N _ (by omega) (by omega) (by rw [cp95_gi, if_neg (by omega), gi_ni (by decide), gi_ni (by decide)]; exact y5'')
        rw [el]
        have q1 : ∀ k q, k < 4 → q < m' → gi (cp123 m' 0 (cp95 r1 0 (si (si τ' 0 5 0) 0 14 (nI m')))) (13 + k) q = gi τ' (8 + k) q := fun k q hk hq => by
          rw [cp123_gi, if_pos (by omega), show 13 + k - 5 = 8 + k by omega, cp95_gi, if_neg (by omega), gi_ne (by omega), gi_ne (by omega)]
        have q2 : ∀ q, q < r1 → gi (cp123 m' 0 (cp95 r1 0 (si (si τ' 0 5 0) 0 14 (nI m')))) 12 q = gi τ' 6 q := fun q hq => by
          rw [cp123_gi, if_neg (by omega), cp95_gi, if_pos (by omega), gi_ne (by omega), gi_ne (by omega)]
        have q3 : gi (cp123 m' 0 (cp95 r1 0 (si (si τ' 0 5 0) 0 14 (nI m')))) 0 14 = nI m' := by
          rw [cp123_gi, if_neg (by omega), cp95_gi, if_neg (by omega), gi_eq]
        have q4 : gi (cp123 m' 0 (cp95 r1 0 (si (si τ' 0 5 0) 0 14 (nI m')))) 0 5 = 0 := by
          rw [cp123_gi, if_neg (by omega), cp95_gi, if_neg (by omega), gi_ni (by decide), gi_eq]
        have q5 : ∀ j, gi (cp123 m' 0 (cp95 r1 0 (si (si τ' 0 5 0) 0 14 (nI m')))) 5 j = gi τ 5 j := fun j => by
          rw [cp123_gi, if_neg (by omega), cp95_gi, if_neg (by omega), gi_ne (by omega), gi_ne (by omega), y5 _ _ (by omega), j0 _ _ (by omega)]
        refine ⟨nI m', _, _, rfl, rfl, ⟨⟨0, by omega, ?_, q4⟩, fun j hj => ?_⟩, ⟨b', b, m', c1, r1, ⟨a2, a1, fun z => a3 z.symm⟩, ⟨gi_eq _ _ _ _, ?_⟩, ⟨y3', ?_, q3⟩, ?_⟩⟩
        · rw [gi_ne (by decide), gi_ne (by decide), y4 _ _ (by omega) (by omega), k1]; rfl
        · rw [gi_ne (by decide), gi_ne (by decide), y4 _ _ (by omega) (by omega), k0 _ _ (by omega) (by omega) (by omega), q5]
          exact t3 j hj
        · rw [gi_ne (by decide), gi_eq]
        · rw [gi_ne (by omega), gi_ne (by omega)]; exact y4'
        · exact y6.fr (fun k q _ _ _ => by rw [gi_ne (by omega), gi_ne (by omega)]) (fun q _ => by rw [gi_ne (by omega), gi_ne (by omega)]) q1 q2 (Nat.le_refl _) (Nat.le_refl _)
      · rw [y1, y2, bd_some, if_pos (Int32.le_of_lt y5)]
        have el : lawK N 0 τ' = some (F, si τ' 0 5 0) := by
          unfold lawK
          rw [if_pos rfl, gi_ni (by decide), y6]
        rw [el]
        refine ⟨F, _, _, rfl, rfl, ⟨⟨0, by omega, ?_, gi_eq _ _ _ _⟩, fun j hj => ?_⟩, hl.fr ?_ ?_ (fun b0 c i z1 z2 z3 => ?_) ?_ (fun c i z1 z2 => ?_)⟩
        · rw [y3 _ _ (by omega) (by omega), k1]; rfl
        · rw [y3 _ _ (by omega) (by omega), k0 _ _ (by omega) (by omega) (by omega), gi_ne (by decide), y4 _ _ (by omega), j0 _ _ (by omega)]
          exact t3 j hj
        · rw [y3 _ _ (by omega) (by omega), k0 _ _ (by omega) (by omega) (by omega)]
        · rw [y3 _ _ (by omega) (by omega), a5]; exact C0.1.2.2
        · have z4 := isLw_or z1
          rw [a4] at z2
          have z5 : b = b0 := (nI_eq (by omega) (by omega)).mp z2
          rw [y3 _ _ (by omega) (by omega), k0 _ _ (by omega) (by omega) (by omega)]
        · rw [gi_ni (by decide), y4 _ _ (by omega), j1]
        · rw [gi_ne (by omega), y4 _ _ (by omega), j0 _ _ (by omega)]
    · rw [if_neg (fun z => h2 z.2), if_pos h1, if_neg h2]
      exact ⟨-1, _, _, rfl, rfl, ht, hl⟩
  · rw [if_neg (fun z => h1 z.1), if_neg h1]
    exact ⟨-1, _, _, rfl, rfl, ht, hl⟩
