/-! the strings at the beginning, as the statement gives them -/
def tmS (i : Nat) : Term := .string RX6 (idxS i)
def nrw : List Cond := flatC (Jvm.Cond.and given_1 narrow_1)
theorem nr_ex : ∀ i, i < 5 → Cond.exactly (tmS i) "java/lang/String" ∈ nrw := by decide +kernel
theorem nr_co : ∀ i, i < 5 → Cond.eq (.field (tmS i) "java/lang/String" "coder" "B") (.int 0) ∈ nrw := by decide +kernel
theorem nr_ar : ∀ i, i < 5 → Cond.arrayOf (.field (tmS i) "java/lang/String" "value" "[B") .byte ∈ nrw := by decide +kernel
theorem nr_le : ∀ i, i < 5 → Cond.eq (.length (.field (tmS i) "java/lang/String" "value" "[B")) (.int (Int32.ofNat (lenL.getD i 0))) ∈ nrw := by decide +kernel
theorem nr_el : ∀ i, i < 5 → ∀ j, j < lenL.getD i 0 → Cond.eq (.elem (.field (tmS i) "java/lang/String" "value" "[B") (.int (Int32.ofNat j))) (.int ((bytL.getD i []).getD j 0)) ∈ nrw := by decide +kernel
theorem nr_ne : ∀ i, i < 5 → ∀ j, j < 5 → i ≠ j → Cond.not (Cond.eq (tmS i) (tmS j)) ∈ nrw ∨ Cond.not (Cond.eq (tmS j) (tmS i)) ∈ nrw := by decide +kernel
theorem nr_cs : Cond.eq (.static "java/lang/String" "COMPACT_STRINGS" "Z") (.int 1) ∈ nrw := by decide +kernel
theorem nr_N : ∀ i, i < 5 → lenL.getD i 0 < 2 ^ 31 := by decide +kernel
theorem sr_0 : Cond.stringRef RX6 (idxS 0) (txtS 0) ∈ lw_tbl := List.mem_of_getElem? (i := 663) (by decide +kernel)
theorem sr_1 : Cond.stringRef RX6 (idxS 1) (txtS 1) ∈ lw_tbl := List.mem_of_getElem? (i := 662) (by decide +kernel)
theorem sr_2 : Cond.stringRef RX6 (idxS 2) (txtS 2) ∈ lw_tbl := List.mem_of_getElem? (i := 672) (by decide +kernel)
theorem sr_3 : Cond.stringRef RX6 (idxS 3) (txtS 3) ∈ lw_tbl := List.mem_of_getElem? (i := 550) (by decide +kernel)
theorem sr_4 : Cond.stringRef RX6 (idxS 4) (txtS 4) ∈ lw_tbl := List.mem_of_getElem? (i := 650) (by decide +kernel)
theorem sr_all : ∀ i, i < 5 → Cond.stringRef RX6 (idxS i) (txtS i) ∈ lw_tbl := by
  intro i hi
  rcases (show i = 0 ∨ i = 1 ∨ i = 2 ∨ i = 3 ∨ i = 4 by omega) with rfl | rfl | rfl | rfl | rfl
  · exact sr_0
  · exact sr_1
  · exact sr_2
  · exact sr_3
  · exact sr_4
theorem cs_1 : Cond.laysStatic "java/lang/String" "COMPACT_STRINGS" "Z" ∈ lw_tbl := List.mem_of_getElem? (i := 567) (by decide +kernel)
theorem cs_2 : Cond.initialized "java/lang/String" ∈ lw_tbl := List.mem_of_getElem? (i := 116) (by decide +kernel)
theorem str_at {args : Array Value} {s : State} (hgv : (Jvm.Cond.and given_1 narrow_1).before args s = true) (hts : ∀ w ∈ lw_tbl, w.before args s = true) {A : Nat → Prop} (hA : ∀ a : Nat, a < s.heap.size → ¬ A a) : ∃ adK adV : Nat → Nat, vk_S 5 lenL bytL adK adV A s s.heap ∧ va_Z "java/lang/String" "COMPACT_STRINGS" "Z" (.int 1) A s s.heap ∧ ∀ i : Nat, i < 5 → vk_R RX6 (idxS i) (txtS i) (adK i) s := by
  have hf := flat_of_before _ hgv
  obtain ⟨adK, adV, h1, h2⟩ := vk_Sof (args := args) (s := s) (N := 5) (tm := tmS) (len := lenL) (byt := bytL) (A := A) nr_N (fun i hi => hf _ (nr_ex i hi)) (fun i hi => hf _ (nr_co i hi)) (fun i hi => hf _ (nr_ar i hi)) (fun i hi => hf _ (nr_le i hi)) (fun i hi j hj => hf _ (nr_el i hi j hj)) (fun i j hi hj hij => (nr_ne i hi j hj hij).imp (fun h => hf _ h) (fun h => hf _ h)) hA
  exact ⟨adK, adV, h1, va_Zof (hts _ cs_1) (hts _ cs_2) (va_eqt (hf _ nr_cs)) hA, fun i hi => vk_R.of (hts _ (sr_all i hi)) (h2 i hi)⟩
theorem vkS_by {N : Nat} {len : List Nat} {byt : List (List Int32)} {adK adV adK' adV' : Nat → Nat} {A : Nat → Prop} {U : State} {H : Heap} (h : vk_S N len byt adK adV A U H) (hK : ∀ i, i < N → adK' i = adK i) (hV : ∀ i, i < N → adV' i = adV i) : vk_S N len byt adK' adV' A U H :=
  ⟨fun i hi => by rw [hK i hi, hV i hi]; exact h.1 i hi, fun i j hi hj e => h.2 i j hi hj (by rw [← hK i hi, ← hK j hj]; exact e)⟩
/-! the nest words, the arrays' classes, the objects' classes at the beginning -/
theorem ao_in : Cond.arrayOver (.array .int) ∈ lw_tbl := List.mem_of_getElem? (i := 153) (by decide +kernel)
theorem xn_at {args : Array Value} {s : State} (hts : ∀ w ∈ lw_tbl, w.before args s = true) : XN s := by
  refine ⟨hts _ ao_in, fun w hw hn => ?_⟩
  cases w with
  | fieldLinkNest => exact va_Nw.of rfl (hts _ hw)
  | methodLinkNest => exact va_Nw.of rfl (hts _ hw)
  | _ => cases hn
theorem ac_I : Cond.arrayClass .int ∈ lw_tbl := List.mem_of_getElem? (i := 145) (by decide +kernel)
theorem ac_J : Cond.arrayClass .long ∈ lw_tbl := List.mem_of_getElem? (i := 302) (by decide +kernel)
theorem ac_B : Cond.arrayClass .byte ∈ lw_tbl := List.mem_of_getElem? (i := 677) (by decide +kernel)
theorem ty_at {args : Array Value} {s : State} (hts : ∀ w ∈ lw_tbl, w.before args s = true) : ∃ cyB cyI cyJ cyO : ClassId, ∀ (k : Nat) (q : ClassId × FieldType), (Ety cyB cyI cyJ cyO)[k]? = some q → ArrOfT s q.1 q.2 ∧ va_RA s q.1 q.2 := by
  obtain ⟨cB, kB, xB, b1, b2, b3⟩ := Cond.arrayClass_spec (hts _ ac_B)
  obtain ⟨cI, kI, xI, i1, i2, i3⟩ := Cond.arrayClass_spec (hts _ ac_I)
  obtain ⟨cJ, kJ, xJ, j1, j2, j3⟩ := Cond.arrayClass_spec (hts _ ac_J)
  obtain ⟨c1, cO, kO, o0, o1, o2, o3⟩ := over_spec (hts _ ao_in)
  refine ⟨cB, cI, cJ, cO, fun k q hk => ?_⟩
  match k, hk with
  | 0, hk => cases hk; exact ⟨fun N z => ⟨(fun k h => by cases h), kB, b2, xB, b3⟩, b1⟩
  | 1, hk => cases hk; exact ⟨fun N z => ⟨(fun k h => by cases h), kI, i2, xI, i3⟩, i1⟩
  | 2, hk => cases hk; exact ⟨fun N z => ⟨(fun k h => by cases h), kJ, j2, xJ, j3⟩, j1⟩
  | 3, hk => cases hk; exact ⟨fun N z => ⟨(fun k h => by cases h), kO, o1, c1, o2⟩, o3⟩
  | k + 4, hk => exact absurd (List.getElem?_eq_some_iff.mp hk).1 (by show ¬ k + 4 < 4; omega)
theorem knw_0 {args : Array Value} {s : State} (hts : ∀ w ∈ lw_tbl, w.before args s = true) : ∃ (cC : ClassId) (iS : Nat → Nat), u_Kn s RX0 TX0 16 cC iS := u_known (n := 16) (ws := tbG) (fun w hw => hts w (List.mem_filter.mp hw).1) wsin_X0 (hts (.instantiable RX0 16) (List.mem_of_getElem? (i := 180) (by decide +kernel)))
theorem knw_1 {args : Array Value} {s : State} (hts : ∀ w ∈ lw_tbl, w.before args s = true) : ∃ (cC : ClassId) (iS : Nat → Nat), u_Kn s RX1 TX1 5 cC iS := u_known (n := 5) (ws := tbG) (fun w hw => hts w (List.mem_filter.mp hw).1) wsin_X1 (hts (.instantiable RX1 5) (List.mem_of_getElem? (i := 379) (by decide +kernel)))
theorem knw_2 {args : Array Value} {s : State} (hts : ∀ w ∈ lw_tbl, w.before args s = true) : ∃ (cC : ClassId) (iS : Nat → Nat), u_Kn s RX2 TX2 5 cC iS := u_known (n := 5) (ws := tbG) (fun w hw => hts w (List.mem_filter.mp hw).1) wsin_X2 (hts (.instantiable RX2 5) (List.mem_of_getElem? (i := 355) (by decide +kernel)))
theorem knw_3 {args : Array Value} {s : State} (hts : ∀ w ∈ lw_tbl, w.before args s = true) : ∃ (cC : ClassId) (iS : Nat → Nat), u_Kn s RX3 TX3 7 cC iS := u_known (n := 7) (ws := tbG) (fun w hw => hts w (List.mem_filter.mp hw).1) wsin_X3 (hts (.instantiable RX3 7) (List.mem_of_getElem? (i := 147) (by decide +kernel)))
theorem knw_4 {args : Array Value} {s : State} (hts : ∀ w ∈ lw_tbl, w.before args s = true) : ∃ (cC : ClassId) (iS : Nat → Nat), u_Kn s RX4 TX4 9 cC iS := u_known (n := 9) (ws := tbG) (fun w hw => hts w (List.mem_filter.mp hw).1) wsin_X4 (hts (.instantiable RX4 9) (List.mem_of_getElem? (i := 262) (by decide +kernel)))
theorem knw_5 {args : Array Value} {s : State} (hts : ∀ w ∈ lw_tbl, w.before args s = true) : ∃ (cC : ClassId) (iS : Nat → Nat), u_Kn s RX5 TX5 6 cC iS := u_known (n := 6) (ws := tbG) (fun w hw => hts w (List.mem_filter.mp hw).1) wsin_X5 (hts (.instantiable RX5 6) (List.mem_of_getElem? (i := 404) (by decide +kernel)))
theorem knw_6 {args : Array Value} {s : State} (hts : ∀ w ∈ lw_tbl, w.before args s = true) : ∃ (cC : ClassId) (iS : Nat → Nat), u_Kn s RX6 TX6 5 cC iS := u_known (n := 5) (ws := tbG) (fun w hw => hts w (List.mem_filter.mp hw).1) wsin_X6 (hts (.instantiable RX6 5) (List.mem_of_getElem? (i := 256) (by decide +kernel)))
theorem knw_7 {args : Array Value} {s : State} (hts : ∀ w ∈ lw_tbl, w.before args s = true) : ∃ (cC : ClassId) (iS : Nat → Nat), u_Kn s RX7 TX7 8 cC iS := u_known (n := 8) (ws := tbG) (fun w hw => hts w (List.mem_filter.mp hw).1) wsin_X7 (hts (.instantiable RX7 8) (List.mem_of_getElem? (i := 320) (by decide +kernel)))
theorem knw_8 {args : Array Value} {s : State} (hts : ∀ w ∈ lw_tbl, w.before args s = true) : ∃ (cC : ClassId) (iS : Nat → Nat), u_Kn s RX8 TX8 2 cC iS := u_known (n := 2) (ws := tbG) (fun w hw => hts w (List.mem_filter.mp hw).1) wsin_X8 (hts (.instantiable RX8 2) (List.mem_of_getElem? (i := 132) (by decide +kernel)))
theorem knw_9 {args : Array Value} {s : State} (hts : ∀ w ∈ lw_tbl, w.before args s = true) : ∃ (cC : ClassId) (iS : Nat → Nat), u_Kn s RX9 TX9 12 cC iS := u_known (n := 12) (ws := tbG) (fun w hw => hts w (List.mem_filter.mp hw).1) wsin_X9 (hts (.instantiable RX9 12) (List.mem_of_getElem? (i := 124) (by decide +kernel)))
theorem knw_10 {args : Array Value} {s : State} (hts : ∀ w ∈ lw_tbl, w.before args s = true) : ∃ (cC : ClassId) (iS : Nat → Nat), u_Kn s RX10 TX10 56 cC iS := u_known (n := 56) (ws := tbG) (fun w hw => hts w (List.mem_filter.mp hw).1) wsin_X10 (hts (.instantiable RX10 56) (List.mem_of_getElem? (i := 1160) (by decide +kernel)))
theorem cl_at {args : Array Value} {s : State} (hts : ∀ w ∈ lw_tbl, w.before args s = true) : ∃ D : va_G, ∀ (k : Nat) (q : vw_C), vwCl[k]? = some q → u_Kn s q.1 q.2.1 q.2.2 (D.1 k) (D.2 k) := by
  obtain ⟨c0, i0, h0⟩ := knw_0 hts
  obtain ⟨c1, i1, h1⟩ := knw_1 hts
  obtain ⟨c2, i2, h2⟩ := knw_2 hts
  obtain ⟨c3, i3, h3⟩ := knw_3 hts
  obtain ⟨c4, i4, h4⟩ := knw_4 hts
  obtain ⟨c5, i5, h5⟩ := knw_5 hts
  obtain ⟨c6, i6, h6⟩ := knw_6 hts
  obtain ⟨c7, i7, h7⟩ := knw_7 hts
  obtain ⟨c8, i8, h8⟩ := knw_8 hts
  obtain ⟨c9, i9, h9⟩ := knw_9 hts
  obtain ⟨c10, i10, h10⟩ := knw_10 hts
  refine ⟨(fun k => ([c0, c1, c2, c3, c4, c5, c6, c7, c8, c9, c10] : List ClassId).getD k c0, fun k => ([i0, i1, i2, i3, i4, i5, i6, i7, i8, i9, i10] : List (Nat → Nat)).getD k i0), fun k q hq => ?_⟩
  match k, hq with
  | 0, hq => cases hq; exact h0
  | 1, hq => cases hq; exact h1
  | 2, hq => cases hq; exact h2
  | 3, hq => cases hq; exact h3
  | 4, hq => cases hq; exact h4
  | 5, hq => cases hq; exact h5
  | 6, hq => cases hq; exact h6
  | 7, hq => cases hq; exact h7
  | 8, hq => cases hq; exact h8
  | 9, hq => cases hq; exact h9
  | 10, hq => cases hq; exact h10
  | k + 11, hq => exact absurd (List.getElem?_eq_some_iff.mp hq).1 (by show ¬ k + 11 < 11; omega)
theorem k_at {args : Array Value} {s : State} (hts : ∀ w ∈ lw_tbl, w.before args s = true) : ∃ (D : va_G) (cyB cyI cyJ cyO : ClassId), va_K D vwCl (Ety cyB cyI cyJ cyO) s := by
  obtain ⟨D, h1⟩ := cl_at hts
  obtain ⟨cyB, cyI, cyJ, cyO, h2⟩ := ty_at hts
  exact ⟨D, cyB, cyI, cyJ, cyO, h1, h2⟩
