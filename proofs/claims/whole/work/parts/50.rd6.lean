/-! conditions: the reference's steps -/
noncomputable def cK (N : Nat) (rec : Mem → Option (Int32 × Mem)) (s29 : Mem) : Option (Int32 × Mem) := bd (f_X10_here N s29) (fun r31 s30 => lt (fun  (s32 : Mem) => bd (f_X10_here N s32) (fun r34 s33 => lt (fun (t36 : Int32) (s35 : Mem) => bd (f_X10_lands N t36 s35) (fun _ s37 => bd (f_X10_here N s37) (fun r40 s39 => if r40 = 38 then (bd (f_X10_jumps N 11 s39) (fun _ s43 => rec s43)) else bd (f_X10_jumps N 12 s39) (fun _ s41 => rec s41)))) (fun j195 => if r34 = 124 then (j195 1 s33) else j195 0 s33))) (fun j180 => if r31 = 38 then (j180 s30) else bd (f_X10_here N s30) (fun r46 s45 => if r46 = 124 then (j180 s45) else bd (f_X10_wrongAt N 1 (gi s45 0 6) s45) (fun r48 s47 => ckz r48 (some (r48, s47))))))
noncomputable def XT (N M : Nat) (τ : Mem) : Option (Int32 × Mem) := itr (fun _ => none) (st_X10_readsCondition_40 N) M τ
noncomputable def AT (N M q : Nat) (τ : Mem) : Option (Int32 × Mem) := itr (fun _ => none) (st_X10_readsCondition_92 N (cK N (XT N M))) q τ
noncomputable def BE (N M e q : Nat) (τ : Mem) : Option (Int32 × Mem) := bd (itr (fun _ => none) (st_X10_endsPiece_0 N) e τ) (fun _ s => AT N M q s)
theorem XT_s (N M : Nat) (τ : Mem) : XT N (M + 1) τ = bd (f_X10_here N τ) (fun r8 s7 => lt (fun  (s9 : Mem) => bd (f_X10_here N s9) (fun r11 s10 => lt (fun (t13 : Int32) (s12 : Mem) => bd (f_X10_opens N t13 s12) (fun r15 s14 => if r15 = 0 then (some (0, s14)) else XT N M s14)) (fun j75 => if r11 = 33 then (j75 10 s10) else j75 13 s10))) (fun j58 => if r8 = 33 then (j58 s7) else bd (f_X10_here N s7) (fun r17 s16 => if r17 = 40 then (j58 s16) else bd (f_X10_readsCompared N s16) (fun r19 s18 => if r19 = 0 then (some (0, s18)) else AT N M N s18)))) := rfl
theorem AT_s (N M q : Nat) (τ : Mem) : AT N M (q + 1) τ = bd (f_X10_here N τ) (fun r21 s20 => if r21 = 41 then (bd (f_X10_lands N 1 s20) (fun _ s22 => lt (si s22 0 12 ((gi s22 0 12) - 1)) (fun s24 => lt (si s24 0 10 ((gi s24 0 10) - 1)) (fun s25 => lt (si s25 0 6 ((gi s25 0 6) + 1)) (fun s26 => if (gi s26 0 12) = 0 then (some (1, s26)) else bd (f_X10_endsPiece N s26) (fun _ s27 => AT N M q s27)))))) else cK N (XT N M) s20) := rfl
theorem e_opens (N : Nat) {τ : Mem} {i op r w : Nat} (o : Nat) (hd : RD τ i op r w) (ho : op < 6) (hw : w < 260) : f_X10_opens N (nI o) τ = some (1, psh (si τ 0 10 (nI (op + 1))) w o (i + 1)) := by
  unfold f_X10_opens
  simp only [lt_p]
  rw [hd.2.1, if_neg (show ¬ nI op = 6 from nI_nq (b := 6) (by omega) (by omega) (by omega)), nI_1]
  have a1 : gi (si τ 0 10 (nI (op + 1))) 0 12 = nI w := by rw [gi_ni (by decide)]; exact hd.2.2.2
  rw [a1, chk_n hw (by decide), ix_n (by omega), mul_mk]
  have a2 : gi (si (si τ 0 10 (nI (op + 1))) 7 w (nI (1048576 * o + 0))) 0 12 + 1 = nI (w + 1) := by rw [gi_ne (by decide), a1, nI_1]
  rw [a2]
  have a3 : gi (si (si (si τ 0 10 (nI (op + 1))) 7 w (nI (1048576 * o + 0))) 0 12 (nI (w + 1))) 0 6 + 1 = nI (i + 1) := by rw [gi_ni (by decide), gi_ne (by decide), gi_ni (by decide), hd.1, nI_1]
  rw [a3]
  rfl
theorem e_opens6 (N : Nat) {τ : Mem} {i r w : Nat} (x : Int32) (hd : RD τ i 6 r w) : f_X10_opens N x τ = some (0, si τ 0 8 (flt 5 i)) := by
  unfold f_X10_opens
  rw [hd.2.1, if_pos (show nI 6 = 6 from rfl), hd.1, show (5 : Int32) = nI 5 from rfl, e_wrongAt, bd_some, ckz_0]
theorem xt_open (N M : Nat) {n i op r w o : Nat} {txt : Nat → Nat} {τ : Mem} (hT : Tx txt n) (hi : i ≤ n) (hR : RT n txt τ) (hd : RD τ i op r w) (hs : (hr txt n i = 33 ∧ o = 10) ∨ (hr txt n i = 40 ∧ o = 13)) (ho : op < 6) (hw : w < 260) : XT N (M + 1) τ = XT N M (psh (si τ 0 10 (nI (op + 1))) w o (i + 1)) := by
  have eo := e_opens N o hd ho hw
  rw [XT_s]
  simp only [lt_p, e_hereM N hT.1 hi hR hd, bd_some]
  rcases hs with ⟨hs, rfl⟩ | ⟨hs, rfl⟩
  · rw [if_pos hs, if_pos hs, show (10 : Int32) = nI 10 from rfl, eo, bd_some, if_neg (by decide)]
  · have h33 : ¬ hr txt n i = 33 := by rw [hs]; decide
    rw [if_neg h33, if_pos hs, if_neg h33, show (13 : Int32) = nI 13 from rfl, eo, bd_some, if_neg (by decide)]
theorem xt_over (N M : Nat) {n i r w : Nat} {txt : Nat → Nat} {τ : Mem} (hT : Tx txt n) (hi : i ≤ n) (hR : RT n txt τ) (hd : RD τ i 6 r w) (hs : hr txt n i = 33 ∨ hr txt n i = 40) : XT N (M + 1) τ = some (0, si τ 0 8 (flt 5 i)) := by
  rw [XT_s]
  simp only [lt_p, e_hereM N hT.1 hi hR hd, bd_some]
  by_cases h33 : hr txt n i = 33
  · rw [if_pos h33, if_pos h33, e_opens6 N _ hd, bd_some, if_pos rfl]
  · have h40 : hr txt n i = 40 := by
      rcases hs with z | z
      · exact absurd z h33
      · exact z
    rw [if_neg h33, if_pos h40, if_neg h33, e_opens6 N _ hd, bd_some, if_pos rfl]
theorem xt_cmp (N M : Nat) {n i op r w : Nat} {txt : Nat → Nat} {τ : Mem} (hT : Tx txt n) (hi : i ≤ n) (hR : RT n txt τ) (hd : RD τ i op r w) (h33 : ¬ hr txt n i = 33) (h40 : ¬ hr txt n i = 40) : XT N (M + 1) τ = bd (f_X10_readsCompared N τ) (fun r19 s18 => if r19 = 0 then (some (0, s18)) else AT N M N s18) := by
  rw [XT_s]
  simp only [lt_p, e_hereM N hT.1 hi hR hd, bd_some]
  rw [if_neg h33, if_neg h40]
-- NOT
def epd (τ : Mem) (r w op : Nat) : Mem := si (si (note1 τ r 10 0) 0 12 (nI w)) 0 10 (nI op)
theorem RD.epdd {τ : Mem} {i op op' r w w' : Nat} (hd : RD τ i op' r w') : RD (epd τ r w op) i op (r + 1) w := by
  have h := hd.note (o := 10) (v := 0)
  unfold epd RD
  simp (disch := omega) only [gi_ne, gi_ni, gi_eq]
  exact ⟨h.1, trivial, h.2.2.1, trivial⟩
theorem RF.epdd (τ : Mem) {r w0 w op : Nat} : RF r w0 τ (epd τ r w op) := ((RF.note (w := w0) τ).tr (RF.f0 r w0 _ (by omega) _) (by omega) (by omega)).tr (RF.f0 r w0 _ (by omega) _) (by omega) (by omega)
theorem said_epd (τ : Mem) (r w op q : Nat) : gi (epd τ r w op) 6 q = if q = r then nI (1048576 * 10 + 0) else gi τ 6 q := by
  unfold epd
  rw [gi_ne (by decide), gi_ne (by decide), said_note]
theorem be_go (N M e q : Nat) {τ : Mem} {i op r w : Nat} (hd : RD τ i (op + 1) r (w + 1)) (hw : w < 260) (hr : r < 260) (hm : gi τ 7 w = nI (1048576 * 10 + 0)) : BE N M (e + 1) q τ = BE N M e q (epd τ r w op) := by
  have ew := e_waitTop N hd hw (by omega) (by omega) hm
  have en : f_X10_notes N 10 0 τ = some ((), note1 τ r 10 0) := e_notes N 10 0 hd hr
  unfold BE
  have z : itr (fun _ => none) (st_X10_endsPiece_0 N) (e + 1) τ = itr (fun _ => none) (st_X10_endsPiece_0 N) e (epd τ r w op) := by
    show st_X10_endsPiece_0 N _ τ = _
    generalize itr (fun _ => none) (st_X10_endsPiece_0 N) e = rec
    unfold st_X10_endsPiece_0
    have hd2 := hd.note (o := 10) (v := 0)
    simp only [lt_p]
    rw [ew, bd_some, if_pos (show nI 10 = 10 from rfl), en, bd_some, hd2.2.2.2, nI_pred]
    have e2 : gi (si (note1 τ r 10 0) 0 12 (nI w)) 0 10 - 1 = nI op := by rw [gi_ni (by decide), hd2.2.1, nI_pred]
    rw [e2]
    rfl
  rw [z]
theorem be_stop (N M e q : Nat) {τ : Mem} {i op r w o v : Nat} (hd : RD τ i op r (w + 1)) (hw : w < 260) (ho : o < 16) (hv : v < 1048576) (hm : gi τ 7 w = nI (1048576 * o + v)) (h10 : ¬ o = 10) : BE N M (e + 1) q τ = AT N M q τ := by
  have ew := e_waitTop N hd hw ho hv hm
  unfold BE
  have z : itr (fun _ => none) (st_X10_endsPiece_0 N) (e + 1) τ = some ((), τ) := by
    show st_X10_endsPiece_0 N _ τ = _
    unfold st_X10_endsPiece_0
    rw [ew, bd_some, if_neg (show ¬ nI o = 10 from nI_nq (b := 10) h10 (by omega) (by omega))]
  rw [z, bd_some]
-- jumps land
def lnd (τ : Mem) (f w o r : Nat) : Mem := si (si τ 6 f (nI (1048576 * o + r))) 0 12 (nI w)
theorem RD.lndd {τ : Mem} {i op r w w' f o : Nat} (hd : RD τ i op r w') : RD (lnd τ f w o r) i op r w := by
  unfold lnd RD
  obtain ⟨a, b, c, d⟩ := hd
  simp (disch := omega) only [gi_ne, gi_ni, gi_eq]
  exact ⟨a, b, c, trivial⟩
theorem RF.lndd (τ : Mem) {r0 r w0 w f o : Nat} (h : r0 ≤ f) : RF r0 w0 τ (lnd τ f w o r) := (RF.f6 r0 w0 τ h _).tr (RF.f0 r0 w0 _ (by omega) _) (by omega) (by omega)
theorem said_lnd (τ : Mem) (f w o r q : Nat) : gi (lnd τ f w o r) 6 q = if q = f then nI (1048576 * o + r) else gi τ 6 q := by
  unfold lnd
  rw [gi_ne (by decide), gi_si]
  by_cases h : q = f
  · rw [if_pos ⟨rfl, h⟩, if_pos h]
  · rw [if_neg (fun z => h z.2), if_neg h]
theorem ln_go (N : Nat) {x : Nat} (rec : Mem → Option (Unit × Mem)) {τ : Mem} {i op r w o f : Nat} (hd : RD τ i op r (w + 1)) (hw : w < 260) (hf : f < 260) (hm : gi τ 7 w = nI (1048576 * o + f)) (hs : gi τ 6 f = nI (1048576 * o + 0)) (ho : o = 11 ∨ (o = 12 ∧ x = 1)) : st_X10_lands_0 N (nI x) rec τ = rec (lnd τ f w o r) := by
  have ew := e_waitTop N hd hw (by omega) (by omega) hm
  have e1 : (1048576 : Int32) * (nI (1048576 * o + 0) / 1048576) + nI r = nI (1048576 * o + r) := by rw [un_div (by omega) (by omega), un_mk]
  have body : chk (gi τ 0 12 - 1) 260 (chk (gi τ 7 (ix (gi τ 0 12 - 1)) - gi τ 7 (ix (gi τ 0 12 - 1)) / 1048576 * 1048576) 260 (chk (gi τ 7 (ix (gi τ 0 12 - 1)) - gi τ 7 (ix (gi τ 0 12 - 1)) / 1048576 * 1048576) 260 (rec (si (si τ 6 (ix (gi τ 7 (ix (gi τ 0 12 - 1)) - gi τ 7 (ix (gi τ 0 12 - 1)) / 1048576 * 1048576)) ((1048576 : Int32) * (gi τ 6 (ix (gi τ 7 (ix (gi τ 0 12 - 1)) - gi τ 7 (ix (gi τ 0 12 - 1)) / 1048576 * 1048576)) / 1048576) + gi τ 0 11)) 0 12 (gi (si τ 6 (ix (gi τ 7 (ix (gi τ 0 12 - 1)) - gi τ 7 (ix (gi τ 0 12 - 1)) / 1048576 * 1048576)) ((1048576 : Int32) * (gi τ 6 (ix (gi τ 7 (ix (gi τ 0 12 - 1)) - gi τ 7 (ix (gi τ 0 12 - 1)) / 1048576 * 1048576)) / 1048576) + gi τ 0 11)) 0 12 - 1))))) = rec (lnd τ f w o r) := by
    rw [gi_ne (show ¬ 0 = 6 by decide), hd.2.2.2, hd.2.2.1, nI_pred, chk_n hw (by decide), ix_n (show w < 2 ^ 31 by omega), hm, un_rem (by omega) (by omega), chk_n hf (by decide), chk_n hf (by decide), ix_n (show f < 2 ^ 31 by omega), hs, e1]
    rfl
  unfold st_X10_lands_0
  simp only [lt_p, ew, bd_some]
  rcases ho with rfl | ⟨rfl, rfl⟩
  · rw [if_pos (show nI 11 = 11 from rfl)]
    exact body
  · rw [if_neg (show ¬ nI 12 = 11 by decide), if_neg (show ¬ nI 1 = 0 by decide), if_pos (show nI 12 = 12 from rfl)]
    exact body
theorem ln_stop (N : Nat) {x : Nat} (rec : Mem → Option (Unit × Mem)) {τ : Mem} {i op r w o v : Nat} (hd : RD τ i op r (w + 1)) (hw : w < 260) (ho : o < 16) (hv : v < 1048576) (hm : gi τ 7 w = nI (1048576 * o + v)) (h : ¬ o = 11) (h2 : x = 0 ∨ ¬ o = 12) : st_X10_lands_0 N (nI x) rec τ = some ((), τ) := by
  have ew := e_waitTop N hd hw ho hv hm
  unfold st_X10_lands_0
  simp only [lt_p, ew, bd_some]
  rw [if_neg (show ¬ nI o = 11 from nI_nq (b := 11) h (by omega) (by omega))]
  rcases h2 with rfl | h2
  · rw [if_pos (show nI 0 = 0 from rfl)]
  · rw [if_neg (show ¬ nI o = 12 from nI_nq (b := 12) h2 (by omega) (by omega))]
    by_cases z : nI x = 0
    · rw [if_pos z]
    · rw [if_neg z]
def jn (k : Nat) (a b : Option Int32) : Option Int32 := if k = 0 then andv a b else orv a b
/-- a TEST, a PART, a C as the reference holds it: some jumps have not landed -/
def PdC : Nat → Mem → Nat → Nat → Nat → Nat → Vf → Prop
  | 0, τ, r, w, r1, w1, V => w1 = w ∧ ∀ φ, RSeg (fun q => gi τ 6 q) φ r r1 (V φ)
  | k + 1, τ, r, w, r1, w1, V => PdC k τ r w r1 w1 V ∨ ∃ (f : Nat) (A B : Vf), (gi τ 7 w = nI (1048576 * (11 + k) + f) ∧ gi τ 6 f = nI (1048576 * (11 + k) + 0)) ∧ (∀ φ, RSeg (fun q => gi τ 6 q) φ r f (A φ)) ∧ (∀ φ, isB (A φ)) ∧ PdC k τ (f + 1) (w + 1) r1 w1 B ∧ ∀ φ, V φ = jn k (A φ) (B φ)
theorem PdC.lt : ∀ {k : Nat} {τ : Mem} {r w r1 w1 : Nat} {V : Vf}, PdC k τ r w r1 w1 V → r < r1 ∧ w ≤ w1 ∧ w1 ≤ w + k
  | 0, τ, r, w, r1, w1, V, h => by
    have h1 : w1 = w := h.1
    exact ⟨(h.2 (fun _ => 0)).1, by omega, by omega⟩
  | k + 1, τ, r, w, r1, w1, V, h => by
    rcases h with h | ⟨f, A, B, h1, h3, h6, h4, h5⟩
    · have := PdC.lt h; omega
    · have := PdC.lt h4
      have := (h3 (fun _ => 0)).1
      omega
theorem lnN (N : Nat) {x : Nat} : ∀ (k : Nat), (k ≤ 1 ∨ (k = 2 ∧ x = 1)) → ∀ {τ : Mem} {j op r w r1 w1 : Nat} {V : Vf}, RD τ j op r1 w1 → PdC k τ r w r1 w1 V → r1 ≤ 260 → w1 ≤ 260 → ∃ τ', (∀ M, itr (fun _ => none) (st_X10_lands_0 N (nI x)) (M + (w1 - w)) τ = itr (fun _ => none) (st_X10_lands_0 N (nI x)) M τ') ∧ RD τ' j op r1 w ∧ (∀ φ, RSeg (fun q => gi τ' 6 q) φ r r1 (V φ)) ∧ RF r w1 τ τ'
  | 0, _, τ, j, op, r, w, r1, w1, V, hd, hp, hr, hw => by
    obtain ⟨rfl, h2⟩ := hp
    exact ⟨τ, fun M => by rw [Nat.sub_self]; rfl, hd, h2, RF.rf _ _ _⟩
  | k + 1, hk, τ, j, op, r, w, r1, w1, V, hd, hp, hr, hw => by
    rcases hp with hp | ⟨f, A, B, ⟨h1, h2⟩, h3, h6, h4, h5⟩
    · exact lnN N k (by omega) hd hp hr hw
    · have hlt := h4.lt
      have hlt2 := (h3 (fun _ => 0)).1
      obtain ⟨τ1, e1, d1, s1, f1⟩ := lnN N k (by omega) hd h4 hr hw
      have hm : gi τ1 7 w = nI (1048576 * (11 + k) + f) := by rw [f1 _ _ (by omega) (by omega) (by omega)]; exact h1
      have hs : gi τ1 6 f = nI (1048576 * (11 + k) + 0) := by rw [f1 _ _ (by omega) (by omega) (by omega)]; exact h2
      refine ⟨lnd τ1 f w (11 + k) r1, fun M => ?_, d1.lndd, fun φ => ?_, ?_⟩
      · rw [show M + (w1 - w) = (M + 1) + (w1 - (w + 1)) by omega, e1]
        exact ln_go N _ d1 (by omega) (by omega) hm hs (by omega)
      · rw [h5 φ]
        have sA : RSeg (fun q => gi (lnd τ1 f w (11 + k) r1) 6 q) φ r f (A φ) := (h3 φ).fr (fun q q1 q2 => by
          show gi (lnd τ1 f w (11 + k) r1) 6 q = gi τ 6 q
          rw [said_lnd, if_neg (by omega), f1 _ _ (by omega) (by omega) (by omega)])
        have sB : RSeg (fun q => gi (lnd τ1 f w (11 + k) r1) 6 q) φ (f + 1) r1 (B φ) := (s1 φ).fr (fun q q1 q2 => by
          show gi (lnd τ1 f w (11 + k) r1) 6 q = gi τ1 6 q
          rw [said_lnd, if_neg (by omega)])
        have sf : (fun q => gi (lnd τ1 f w (11 + k) r1) 6 q) f = nI (1048576 * (11 + k) + r1) := by
          show gi (lnd τ1 f w (11 + k) r1) 6 f = _
          rw [said_lnd, if_pos rfl]
        unfold jn
        by_cases z : k = 0
        · subst z
          rw [if_pos rfl]
          exact rs_and (h6 φ) sA sB hr sf
        · obtain rfl : k = 1 := by omega
          rw [if_neg (by decide)]
          exact rs_or (h6 φ) sA sB hr sf
      · exact (f1.up (by omega) (by omega)).tr (RF.lndd (r0 := r) τ1 (by omega)) (by omega) (by omega)
/-- what stands on top: no operation; for a PART no jump of &, no !; for a C no jump at all -/
def BarC (k : Nat) (τ : Mem) (w : Nat) : Prop := ∃ w' o v, w = w' + 1 ∧ v < 1048576 ∧ gi τ 7 w' = nI (1048576 * o + v) ∧ o ≤ 13 ∧ 10 ≤ o ∧ (1 ≤ k → 12 ≤ o) ∧ (2 ≤ k → 13 ≤ o)
theorem BarC.fr {x w r w1 : Nat} {τ τ' : Mem} (h : BarC x τ w) (f : RF r w1 τ τ') (hw : w ≤ w1) : BarC x τ' w := by
  obtain ⟨w', o, v, a, c, d, e⟩ := h
  exact ⟨w', o, v, a, c, by rw [f _ _ (by omega) (by omega) (by omega)]; exact d, e⟩
theorem BarC.bar {k w : Nat} {τ : Mem} (h : BarC k τ w) : Bar 1 τ w := by
  obtain ⟨w', o, v, a, c, d, e1, e2, e3⟩ := h
  exact Or.inr ⟨w', o, v, a, by omega, c, d, Or.inl (by omega)⟩
theorem ln_all (N : Nat) {x k : Nat} (hk : (k ≤ 1 ∧ x ≤ 1) ∨ (k = 2 ∧ x = 1)) {τ : Mem} {j op r w r1 w1 : Nat} {V : Vf} (hd : RD τ j op r1 w1) (hp : PdC k τ r w r1 w1 V) (hr : r1 ≤ 260) (hw : w1 ≤ 260) (hb : BarC (x + 1) τ w) (hN : 10 ≤ N) : ∃ τ', f_X10_lands N (nI x) τ = some ((), τ') ∧ RD τ' j op r1 w ∧ (∀ φ, RSeg (fun q => gi τ' 6 q) φ r r1 (V φ)) ∧ RF r w1 τ τ' := by
  have hlt := hp.lt
  obtain ⟨τ', e, d, s, f⟩ := lnN N (x := x) k (by omega) hd hp hr hw
  refine ⟨τ', ?_, d, s, f⟩
  have z : itr (fun _ => none) (st_X10_lands_0 N (nI x)) ((N - (w1 - w) - 1 + 1) + (w1 - w)) τ = some ((), τ') := by
    rw [e]
    obtain ⟨w', o, v, rfl, a2, a3, a4, a5, a6, a7⟩ := hb.fr f (by omega)
    exact ln_stop N _ d (by omega) (by omega) a2 a3 (by omega) (by omega)
  rw [show N - (w1 - w) - 1 + 1 + (w1 - w) = N by omega] at z
  exact z
def jmp (τ : Mem) (r w o i : Nat) : Mem := si (note1 (si (si τ 7 w (nI (1048576 * o + r))) 0 12 (nI (w + 1))) r o 0) 0 6 (nI (i + 1))
theorem e_jumps (N : Nat) {τ : Mem} {i op r w o : Nat} (hd : RD τ i op r w) (hw : w < 260) (hr : r < 260) : f_X10_jumps N (nI o) τ = some ((), jmp τ r w o i) ∧ RD (jmp τ r w o i) (i + 1) op (r + 1) (w + 1) := by
  have hd2 : RD (si (si τ 7 w (nI (1048576 * o + r))) 0 12 (nI (w + 1))) i op r (w + 1) := by
    unfold RD
    obtain ⟨a, b, c, d⟩ := hd
    simp (disch := omega) only [gi_ne, gi_ni, gi_eq]
    exact ⟨a, b, c, trivial⟩
  have hd3 := hd2.note (o := o) (v := 0)
  refine ⟨?_, ?_⟩
  · unfold f_X10_jumps
    simp only [lt_p]
    rw [hd.2.2.2, hd.2.2.1, chk_n hw (by decide), ix_n (by omega), un_mk, gi_ne (by decide), hd.2.2.2, nI_1, show (0 : Int32) = nI 0 from rfl, e_notes N o 0 hd2 hr, bd_some]
    have e2 : gi (si (si (si (si τ 7 w (nI (1048576 * o + r))) 0 12 (nI (w + 1))) 6 r (nI (1048576 * o + 0))) 0 11 (nI (r + 1))) 0 6 + 1 = nI (i + 1) := by
      have := hd3.1
      unfold note1 at this
      rw [this, nI_1]
    rw [e2]
    rfl
  · unfold jmp RD
    simp (disch := omega) only [gi_ne, gi_ni, gi_eq]
    exact ⟨trivial, hd3.2.1, hd3.2.2.1, hd3.2.2.2⟩
theorem RF.jmpd (τ : Mem) {r w o i : Nat} : RF r w τ (jmp τ r w o i) := (((RF.f7 r w τ (Nat.le_refl w) _).tr (RF.f0 r w _ (by omega) _) (by omega) (by omega)).tr (RF.note (w := w) _) (by omega) (by omega)).tr (RF.f0 r w _ (by omega) _) (by omega) (by omega)
theorem said_jmp (τ : Mem) (r w o i q : Nat) : gi (jmp τ r w o i) 6 q = if q = r then nI (1048576 * o + 0) else gi τ 6 q := by
  unfold jmp
  rw [gi_ne (by decide), said_note, gi_ne (by decide), gi_ne (by decide)]
theorem mark_jmp (τ : Mem) (r w o i : Nat) : gi (jmp τ r w o i) 7 w = nI (1048576 * o + r) := by
  unfold jmp note1
  rw [gi_ne (by decide), gi_ne (by decide), gi_ne (by decide), gi_ne (by decide), gi_eq]
/-- behind a TEST stands & (k 0) or | (k 1) -/
theorem at_join (N M q : Nat) {n j op r1 w1 w k : Nat} {txt : Nat → Nat} {τ τ1 : Mem} (hk : k ≤ 1) (hT : Tx txt n) (hj : j ≤ n) (hR : RT n txt τ) (hd : RD τ j op r1 w1) (hs : hr txt n j = if k = 0 then 38 else 124) (hl : f_X10_lands N (nI k) τ = some ((), τ1)) (hR1 : RT n txt τ1) (hd1 : RD τ1 j op r1 w) (hw : w < 260) (hr1 : r1 < 260) : AT N M (q + 1) τ = XT N M (jmp τ1 r1 w (11 + k) j) := by
  rw [AT_s]
  rw [e_hereM N hT.1 hj hR hd, bd_some]
  unfold cK
  simp only [lt_p, e_hereM N hT.1 hj hR hd, bd_some]
  have ej := (e_jumps N (o := 11 + k) hd1 hw hr1).1
  rcases (show k = 0 ∨ k = 1 by omega) with rfl | rfl
  · have hs' : hr txt n j = 38 := hs
    rw [hs', if_neg (by decide), if_pos rfl, if_neg (by decide), show (0 : Int32) = nI 0 from rfl, hl, bd_some, e_hereM N hT.1 hj hR1 hd1, bd_some, hs', if_pos rfl, show (11 : Int32) = nI (11 + 0) from rfl, ej, bd_some]
  · have hs' : hr txt n j = 124 := hs
    rw [hs', if_neg (by decide), if_neg (by decide), if_pos rfl, if_pos rfl, show (1 : Int32) = nI 1 from rfl, hl, bd_some, e_hereM N hT.1 hj hR1 hd1, bd_some, hs', if_neg (by decide), show (12 : Int32) = nI (11 + 1) from rfl, ej, bd_some]
theorem at_bad (N M q : Nat) {n j op r1 w1 : Nat} {txt : Nat → Nat} {τ : Mem} (hT : Tx txt n) (hj : j ≤ n) (hR : RT n txt τ) (hd : RD τ j op r1 w1) (h1 : ¬ hr txt n j = 41) (h2 : ¬ hr txt n j = 38) (h3 : ¬ hr txt n j = 124) : AT N M (q + 1) τ = some (0, si τ 0 8 (flt 1 j)) := by
  rw [AT_s]
  rw [e_hereM N hT.1 hj hR hd, bd_some, if_neg h1]
  unfold cK
  simp only [lt_p, e_hereM N hT.1 hj hR hd, bd_some]
  rw [if_neg h2, if_neg h3, hd.1, show (1 : Int32) = nI 1 from rfl, e_wrongAt, bd_some, ckz_0]
theorem at_close (N M q : Nat) {n j op r1 w1 w : Nat} {txt : Nat → Nat} {τ τ1 : Mem} (hT : Tx txt n) (hj : j ≤ n) (hR : RT n txt τ) (hd : RD τ j (op + 1) r1 w1) (hs : hr txt n j = 41) (hl : f_X10_lands N 1 τ = some ((), τ1)) (hd1 : RD τ1 j (op + 1) r1 (w + 1)) (hw : w < 260) : AT N M (q + 1) τ = if w = 0 then some (1, pop τ1 w op (j + 1)) else BE N M N q (pop τ1 w op (j + 1)) := by
  rw [AT_s]
  rw [e_hereM N hT.1 hj hR hd, bd_some, if_pos hs, hl, bd_some]
  simp only [lt_p]
  rw [hd1.2.2.2, nI_pred]
  have e1 : gi (si τ1 0 12 (nI w)) 0 10 - 1 = nI op := by rw [gi_ni (by decide), hd1.2.1, nI_pred]
  rw [e1]
  have e2 : gi (si (si τ1 0 12 (nI w)) 0 10 (nI op)) 0 6 + 1 = nI (j + 1) := by rw [gi_ni (by decide), gi_ni (by decide), hd1.1, nI_1]
  rw [e2]
  have e3 : gi (si (si (si τ1 0 12 (nI w)) 0 10 (nI op)) 0 6 (nI (j + 1))) 0 12 = nI w := by rw [gi_ni (by decide), gi_ni (by decide), gi_eq]
  rw [e3]
  by_cases z : w = 0
  · rw [if_pos z, if_pos (show nI w = 0 by rw [z]; rfl)]
    rfl
  · rw [if_neg z, if_neg (nI_ne0 (by omega) (by omega))]
    rfl
