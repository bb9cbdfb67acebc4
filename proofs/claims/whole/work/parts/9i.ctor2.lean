/-! constructors: arrays, objects, fields, calls -/
section CX2
variable {l : Launch} {D : va_G} {cyB cyI cyJ cyO : ClassId} {own : String} {cd : ByteArray} {nL d mc ms : Nat} {S : Type} {cW : S → va_W} {P : Nat → List (Nat × Value) → List Value → va_W → Nat → Nat → Prop} {pc k n : Nat} {lv : List (Nat × Value)} {st : List Value} {ws : va_W}
theorem cx_newI {v : Int32} {N : Nat} (h : Ck l D (Ety cyB cyI cyJ cyO) own cd nL d mc ms cW P) (hw : Cond.arrayClass .int ∈ tbG) (hv : ¬ v < 0) (hN : v.toNatClampNeg = N) (hb4 : N ≤ 100000) (hk : k + 1 ≤ mc) (hn : n + N ≤ ms) (hd : decode cd pc = .ok (.newarray .int, 2)) (kk : ∀ q, P (pc + 2) lv (.ref q :: st) (ws ++ [(q, .inl (cyI, N, .inl (fun _ => 0)))]) (k + 1) (n + N)) : P pc lv (.int v :: st) ws k n := by
  obtain ⟨A, p, e, s, m, args, below, meth, c, hx, hb, hml, hr, hlk, hin, hown, ⟨_, hts⟩, hK, hX, hA, rfl⟩ := h
  intro H locs ls hP hD hS hl
  refine va_newa (D := D) (atype := .int) (ty := .int) (a0 := (N, .inl (fun _ => 0))) hx hb (hts _ (List.mem_cons_of_mem _ hw)) rfl hK hP hD hS hA (fun _ => rfl) hv hN (by show N * 4 ≤ 536870912; omega) hk hn hd (fun q cA H1 hK1 hP1 hD1 hS1 => ?_)
  have e1 : s.vm.findClass ("[" ++ FieldType.int.toString) = some cA := (hK1.2 4 (cA, .int) rfl).2
  have e2 : s.vm.findClass ("[" ++ FieldType.int.toString) = some cyI := (hK.2 1 (cyI, .int) rfl).2
  have e3 : cA = cyI := Option.some.inj (e1.symm.trans e2)
  subst e3
  exact kk q H1 locs ls hP1 hD1 hS1 hl
theorem cx_newJ {v : Int32} {N : Nat} (h : Ck l D (Ety cyB cyI cyJ cyO) own cd nL d mc ms cW P) (hw : Cond.arrayClass .long ∈ tbG) (hv : ¬ v < 0) (hN : v.toNatClampNeg = N) (hb4 : N ≤ 100000) (hk : k + 1 ≤ mc) (hn : n + N ≤ ms) (hd : decode cd pc = .ok (.newarray .long, 2)) (kk : ∀ q, P (pc + 2) lv (.ref q :: st) (ws ++ [(q, .inl (cyJ, N, .inr (.inl (fun _ => 0))))]) (k + 1) (n + N)) : P pc lv (.int v :: st) ws k n := by
  obtain ⟨A, p, e, s, m, args, below, meth, c, hx, hb, hml, hr, hlk, hin, hown, ⟨_, hts⟩, hK, hX, hA, rfl⟩ := h
  intro H locs ls hP hD hS hl
  refine va_newa (D := D) (atype := .long) (ty := .long) (a0 := (N, .inr (.inl (fun _ => 0)))) hx hb (hts _ (List.mem_cons_of_mem _ hw)) rfl hK hP hD hS hA (fun _ => rfl) hv hN (by show N * 8 ≤ 536870912; omega) hk hn hd (fun q cA H1 hK1 hP1 hD1 hS1 => ?_)
  have e1 : s.vm.findClass ("[" ++ FieldType.long.toString) = some cA := (hK1.2 4 (cA, .long) rfl).2
  have e2 : s.vm.findClass ("[" ++ FieldType.long.toString) = some cyJ := (hK.2 2 (cyJ, .long) rfl).2
  have e3 : cA = cyJ := Option.some.inj (e1.symm.trans e2)
  subst e3
  exact kk q H1 locs ls hP1 hD1 hS1 hl
theorem cx_newB {v : Int32} {N : Nat} (h : Ck l D (Ety cyB cyI cyJ cyO) own cd nL d mc ms cW P) (hw : Cond.arrayClass .byte ∈ tbG) (hv : ¬ v < 0) (hN : v.toNatClampNeg = N) (hb4 : N ≤ 100000) (hk : k + 1 ≤ mc) (hn : n + N ≤ ms) (hd : decode cd pc = .ok (.newarray .byte, 2)) (kk : ∀ q, P (pc + 2) lv (.ref q :: st) (ws ++ [(q, .inl (cyB, N, .inl (fun _ => 0)))]) (k + 1) (n + N)) : P pc lv (.int v :: st) ws k n := by
  obtain ⟨A, p, e, s, m, args, below, meth, c, hx, hb, hml, hr, hlk, hin, hown, ⟨_, hts⟩, hK, hX, hA, rfl⟩ := h
  intro H locs ls hP hD hS hl
  refine va_newa (D := D) (atype := .byte) (ty := .byte) (a0 := (N, .inl (fun _ => 0))) hx hb (hts _ (List.mem_cons_of_mem _ hw)) rfl hK hP hD hS hA (fun _ => rfl) hv hN (by show N * 1 ≤ 536870912; omega) hk hn hd (fun q cA H1 hK1 hP1 hD1 hS1 => ?_)
  have e1 : s.vm.findClass ("[" ++ FieldType.byte.toString) = some cA := (hK1.2 4 (cA, .byte) rfl).2
  have e2 : s.vm.findClass ("[" ++ FieldType.byte.toString) = some cyB := (hK.2 0 (cyB, .byte) rfl).2
  have e3 : cA = cyB := Option.some.inj (e1.symm.trans e2)
  subst e3
  exact kk q H1 locs ls hP1 hD1 hS1 hl
/-- the cells of new int[N][K] -/
def gdW (cO cI : ClassId) (N K : Nat) (r : Nat → Nat) : va_W := (r 0, .inl (cO, N, .inr (.inr (.inr (.inr (fun i => if i < N then some (r (1 + i)) else none)))))) :: (List.range N).map (fun j => (r (1 + j), .inl (cI, K, .inl (fun _ => 0))))
theorem gdW_at {cO cI : ClassId} {N K : Nat} {r : Nat → Nat} {h : Nat} (hr : ∀ i, r i = h + i) {i : Nat} {x : Nat × va_E} (hx : (gdW cO cI N K r)[i]? = some x) : x.1 = h + i ∧ i ≤ N := by
  cases i with
  | zero =>
    cases hx
    exact ⟨hr 0, Nat.zero_le _⟩
  | succ i =>
    have hx' : ((List.range N).map (fun j => ((r (1 + j), .inl (cI, K, .inl (fun _ => 0))) : Nat × va_E)))[i]? = some x := hx
    rw [List.getElem?_map] at hx'
    cases hg : (List.range N)[i]? with
    | none => rw [hg] at hx'; cases hx'
    | some j =>
      rw [hg] at hx'
      cases hx'
      have hlt : i < N := by simpa using (List.getElem?_eq_some_iff.mp hg).1
      rw [List.getElem?_range hlt] at hg
      cases hg
      exact ⟨by show r (1 + i) = h + (i + 1); rw [hr]; omega, hlt⟩
theorem cx_grid {v w : Int32} {N K idx : Nat} (h : Ck l D (Ety cyB cyI cyJ cyO) own cd nL d mc ms cW P) (hw : Cond.arrayClass .int ∈ tbG) (hcl : Cond.classLink own idx "[[I" ∈ tbG) (hv : ¬ v < 0) (hN : v.toNatClampNeg = N) (hw' : ¬ w < 0) (hK : w.toNatClampNeg = K) (hb1 : N ≤ 1000) (hb2 : K ≤ 1000) (hk : k + (1 + N) ≤ mc) (hn : n + (N + N * K) ≤ ms) (hd : decode cd pc = .ok (.multianewarray idx 2, 4)) (kk : ∀ r : Nat → Nat, P (pc + 4) lv (.ref (r 0) :: st) (ws ++ gdW cyO cyI N K r) (k + 1 + N) (n + N + N * K)) : P pc lv (.int w :: .int v :: st) ws k n := by
  obtain ⟨A, p, e, s, m, args, below, meth, c, hx, hb, hml, hr, hlk, hin, hown, ⟨_, hts⟩, hKK, hX, hA, rfl⟩ := h
  intro H locs ls hP hD hS hl T hT Xs
  subst hN
  subst hK
  obtain ⟨vm₁, cO, cI, L, hL, fO, fI, X', step⟩ := gd_step Xs hx hown (hts _ (List.mem_cons_of_mem _ hcl)) hX.1 (hts _ (List.mem_cons_of_mem _ hw)) (g := F0 m pc ls (.int w :: .int v :: st)) rfl (by rw [hb]; exact hd) rfl hv hw' hb1 hb2 hk hn
  have e1 : cI = cyI := Option.some.inj (fI.symm.trans (hKK.2 1 (cyI, .int) rfl).2)
  have e2 : cO = cyO := Option.some.inj (fO.symm.trans (hKK.2 3 (cyO, .array .int) rfl).2)
  subst e1
  subst e2
  have hTh : (T.setVm vm₁).heap = H := hT
  obtain ⟨f1, f2, -, -⟩ := gd_f (cO := cO) (cI := cI) (N := v.toNatClampNeg) (K := w.toNatClampNeg) (T.setVm vm₁) v.toNatClampNeg
  have fo := fun (q : Nat) (hq : q < H.size) => gd_old (cO := cO) (cI := cI) (N := v.toNatClampNeg) (K := w.toNatClampNeg) (T.setVm vm₁) (q := q) (by rw [hTh]; exact hq) v.toNatClampNeg
  have fr := gd_row (cO := cO) (cI := cI) (N := v.toNatClampNeg) (K := w.toNatClampNeg) (T.setVm vm₁) v.toNatClampNeg
  generalize hF : gdS (T.setVm vm₁) cO cI v.toNatClampNeg w.toNatClampNeg v.toNatClampNeg = F at X' step f1 f2 fo fr
  rw [hTh] at f1 f2 fr
  have hlt : ∀ (i : Nat) (x : Nat × va_E), ws[i]? = some x → x.1 < H.size := fun i x hx => (hP i x hx).lt
  have hrr : ∀ i, (fun i => H.size + i) i = H.size + i := fun i => rfl
  have hP1 : va_P D vwCl (ws ++ gdW cO cI v.toNatClampNeg w.toNatClampNeg (fun i => H.size + i)) F.heap := by
    refine va_P.app (hP.kept (fun i x hx => by rw [fo x.1 (hlt i x hx), hTh])) (fun i x hx => ?_)
    obtain ⟨a1, a2⟩ := gdW_at hrr hx
    cases i with
    | zero =>
      cases hx
      show F.heap[H.size + 0]? = some (vp_cell cO _)
      rw [Nat.add_zero, f2, vp_cell_q]
      unfold gdO
      refine congrArg (fun f => some (arrV cO v.toNatClampNeg f)) (funext fun j => ?_)
      by_cases z : j < v.toNatClampNeg
      · rw [if_pos z, if_pos z, Nat.add_assoc]
      · rw [if_neg z, if_neg z]
    | succ i =>
      have hx' : ((List.range v.toNatClampNeg).map (fun j => ((H.size + (1 + j), .inl (cI, w.toNatClampNeg, .inl (fun _ => 0))) : Nat × va_E)))[i]? = some x := hx
      rw [List.getElem?_map, List.getElem?_range (by omega)] at hx'
      cases hx'
      show F.heap[H.size + (1 + i)]? = some (vp_cell cI _)
      rw [← Nat.add_assoc, fr i (by omega)]
      rfl
  have hD1 : va_D A (ws ++ gdW cO cI v.toNatClampNeg w.toNatClampNeg (fun i => H.size + i)) := by
    refine va_D.app hD ⟨fun i j x y hx hy hxy => ?_, fun i x hx => ?_⟩ (fun i j x y hx hy hxy => ?_)
    · have a := (gdW_at hrr hx).1
      have b := (gdW_at hrr hy).1
      omega
    · rw [(gdW_at hrr hx).1]
      exact hA _ (Nat.le_trans hS.1 (Nat.le_add_right _ _))
    · have a := hlt i x hx
      have b := (gdW_at hrr hy).1
      omega
  have hS1 : va_S A s.heap F.heap (locs ++ L) := by
    refine ⟨by rw [f1]; have := hS.1; omega, fun q q1 q2 => ?_, fun q hq => ?_⟩
    · have := hS.1
      rw [fo q (by omega), hTh]
      exact hS.2.1 q q1 q2
    · rcases List.mem_append.mp hq with z | z
      · exact hS.2.2 q z
      · rw [hL q z]
        have : T.heap.size = H.size := by rw [hT]
        rw [this]
        exact hA _ hS.1
  obtain ⟨t, a, b⟩ := kk (fun i => H.size + i) F.heap (locs ++ L) ls hP1 hD1 hS1 hl F rfl X'
  refine ⟨t, step t ?_, b⟩
  have : T.heap.size = H.size + 0 := by rw [hT]; rfl
  rw [this]
  exact a
end CX2
