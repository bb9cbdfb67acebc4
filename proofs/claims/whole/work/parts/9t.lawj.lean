/-! THE LAW: its end and its entry (the skeleton's words), its judgement, its rows -/
def R_law : String := "BeggingLetterLaw"
def lw_P (b : Addr) (xs : List Int32) (args : Array Value) (s : State) : Prop := args = #[.ref b] ∧ s.IntsAt b xs ∧ xs.length ≤ 3072 ∧ (Jvm.Cond.and given_1 narrow_1).before args s = true
def lw_Q (_ : Array Value) (s : State) (o : Outcome) (t : State) : Prop := o = .returned (some (.int 1)) ∧ Framed s o t [] 600000 7302249
def lw_Z (below : List Frame) (a : Array Value) (s : State) : State → Prop := fun t => ∃ o, t.status = .running ∧ Ended t below o ∧ lw_Q a s o t
theorem lw_ret {p : Program} {l : Launch} {e : Env} {s : State} {m : MethodId} {below : List Frame} {meth : Method} {c : Code} {b : Nat} (hx : p.tables.exec = Jvm.exec) (hb : c.code = code) (hr : meth.sig.returnType = ret) (hlocks : meth.locks = false) {pc : Nat} {H : Heap} {ls : Array Slot} (hdg : decode code pc = .ok (.ireturn, 1)) : W p l e room_1 s m #[Value.ref b] below meth c H [] 600000 7302249 (lw_Z below #[Value.ref b] s) (F0 m pc ls [.int 1]) := by
  intro T hT X
  obtain ⟨fs, hret, hrun, hended, hW, hframe⟩ := X.leave (v := some (.int 1)) (hlocks := hlocks) (fun h => by rw [hr] at h; cases h)
  have hmeth' : T.vm.method? m = some meth := X.method'
  refine ⟨T.setFrames fs, ?_, .returned (some (.int 1)), hrun, hended, rfl, ⟨_, rfl⟩, hW, hframe⟩
  jvm_step X.here [X.here.top, hx, hb, hdg, hmeth', hr, ret, narrow_b1]
  (try refine ⟨rfl, ?_⟩); (try refine ⟨rfl, ?_⟩)
  first | (intro acts; rw [hret _ acts rfl rfl rfl]) | rw [hret _ _ rfl rfl rfl]
  exact Steps.refl _
def lw_At (p : Program) (s : State) (m : MethodId) (meth : Method) (c : Code) (b L : Nat) (xs : Nat → Int32) : Prop :=
  p.tables.exec = Jvm.exec ∧ c.code = code ∧ meth.sig.returnType = ret ∧ c.maxLocals = 4 ∧ s.vm.findClass R_law = some m.cls ∧ (∀ w ∈ lw_tbl, w.before #[Value.ref b] s = true) ∧ va_X b L xs s s.heap ∧ b < s.heap.size ∧ meth.locks = false ∧ (Jvm.Cond.and given_1 narrow_1).before #[Value.ref b] s = true
def lwA (s : State) : Nat → Prop := fun q => s.heap.size ≤ q
theorem gcells_in {G : Gx} {σ : Mem} {k : Nat} {q : Nat × va_E} (h : (gcells G σ)[k]? = some q) : AA G q.1 := by
  have hl : k < Gn G := by
    have := (List.getElem?_eq_some_iff.mp h).1
    unfold gcells at this
    simpa using this
  rw [gcells_at hl] at h
  cases h
  exact ⟨k, hl, rfl⟩
theorem Wo.kept {G : Gx} {σ : Mem} {H H1 : Heap} (h : Wo G σ H) (hk : ∀ q, q < H.size → AA G q → H1[q]? = H[q]?) : Wo G σ H1 := fun k q hq => (h k q hq).kept (hk q.1 (h k q hq).lt (gcells_in hq))
/-- a layout is fit at the law's entry -/
def Lg (l : Launch) (s : State) (G : Gx) (lay : List (Nat × Nat)) (fso : Fs) : Prop := (Gok G ∧ IsG G lay fso) ∧ Gl G = l ∧ GX G s ∧ va_K (GD G) vwCl (Gt G) s ∧ (∀ q, AA G q → lwA s q)
def LwP (gc gm : Gx) (p : Program) (l : Launch) (e : Env) (s : State) (m : MethodId) (below : List Frame) (meth : Method) (c : Code) (b : Nat) (i : Int32) (σ τ : Mem) (pc : Nat) (st : List Value) : Prop :=
  ∀ (H : Heap) (locs : List Loc) (ls : Array Slot), Wo gc σ H → Wo gm τ H → va_S (lwA s) s.heap H locs → lv_has ls 4 [(0, .ref b), (1, .ref (Ga gc 0)), (2, .ref (Ga gm 0)), (3, .int i)] → W p l e room_1 s m #[Value.ref b] below meth c H locs 170 9118 (lw_Z below #[Value.ref b] s) (F0 m pc ls st)
/-- P is the judgement of the law's body, behind the making of both objects -/
def LJ (b L : Nat) (xs : Nat → Int32) (gc gm : Gx) (P : Int32 → Mem → Mem → Nat → List Value → Prop) : Prop :=
  ∃ (p : Program) (l : Launch) (e : Env) (s : State) (m : MethodId) (below : List Frame) (meth : Method) (c : Code), lw_At p s m meth c b L xs ∧ L ≤ 3072 ∧ Lg l s gc layC fsoC ∧ StrOk gc ∧ Lg l s gm layM fsoM ∧ (∀ q, AA gc q → ¬ AA gm q) ∧ P = LwP gc gm p l e s m below meth c b
def MW (idx : Nat) (y : MethodName) (cd : ByteArray) (nL : Nat) (rt : Option FieldType) (n ci : Nat) : Prop := (Cond.code y cd nL rt ∈ tbG ∧ Cond.initialized y.cls ∈ tbG ∧ (y.cls ≠ "java/lang/invoke/MethodHandle" ∧ y.cls ≠ "java/lang/invoke/VarHandle" ∧ (parseMethodDescriptor y.desc).map (fun d => d.parameters.length) = some n)) ∧ Cond.instanceMethod y ∈ tbG ∧ Cond.selects y.cls y y ∈ tbG ∧ (∃ (T : u_T) (N : Nat), vwCl[ci]? = some (y.cls, T, N)) ∧ Cond.methodLink RL idx y ∈ tbG
theorem lw_go {p : Program} {e : Env} {s : State} {m : MethodId} {args : Array Value} {below : List Frame} {meth : Method} {c : Code} {H : Heap} {locs : List Loc} {Q : State → Prop} {ls : Array Slot} {st0 rest : List Value} {ov : Option Value} {σ1 : Mem} {a : Array Value} {l : Launch} {G : Gx} {pc k n : Nat}
    (hr : va_Run p l e room_1 s m args below meth c H locs k n 0 0 (F0 m pc ls st0) rest (Cpost G ov σ1 a) (AA G)) (hAA : ∀ q, AA G q → lwA s q) (hS : va_S (lwA s) s.heap H locs)
    (kk : ∀ (H1 : Heap) (locs1 : List Loc), Wo G σ1 H1 → va_S (lwA s) s.heap H1 locs1 → (∀ q, q < H.size → ¬ AA G q → H1[q]? = H[q]?) → W p l e room_1 s m args below meth c H1 locs1 k n Q (F0 m (pc + 3) ls (ov.toList ++ rest))) : W p l e room_1 s m args below meth c H locs k n Q (F0 m pc ls st0) := by
  intro T hT X
  obtain ⟨v, st₀, t, T', L, h0, X', hL, e1, e2, ⟨hv, hp, hz, hk⟩, st⟩ := hr T hT X
  cases hv
  rw [h0] at hz hk
  obtain ⟨t2, a1, b1⟩ := kk T'.heap (locs ++ L) (by rw [e1]; exact hp)
    ⟨Nat.le_trans hS.1 (by rw [e1]; exact hz), fun q h1 h2 => by rw [e1, hk q (Nat.lt_of_lt_of_le h1 hS.1) (fun z => h2 (hAA q z))]; exact hS.2.1 q h1 h2, fun q hq => by
      rcases List.mem_append.mp hq with h | h
      · exact hS.2.2 q h
      · exact hAA _ (hL q h)⟩ (fun q h1 h2 => by rw [e1]; exact hk q h1 h2) T' rfl X'
  exact ⟨t2, st t2 a1, b1⟩
/-- a call of the law: what it needs of its callee's layout -/
theorem lw_call {p : Program} {e : Env} {s : State} {m : MethodId} {below : List Frame} {meth : Method} {c : Code} {H : Heap} {locs : List Loc} {Q : State → Prop} {ls : Array Slot} {b L : Nat} {xs : Nat → Int32} {l : Launch} {G : Gx} {lay : List (Nat × Nat)} {fso : Fs} {pc ci u0 : Nat} {y : MethodName} {cdy : ByteArray} {nLy d' idx : Nat} {rty : Option FieldType} {As rest st0 : List Value} {ex : Option (Int32 × Mem)} {r : Int32} {σ σ1 : Mem}
    (C0 : lw_At p s m meth c b L xs) (hg : Lg l s G lay fso) (hc : lay[0]? = some (ci + 10, u0)) (hM : Ct G y cdy nLy rty d' (.ref (Ga G 0) :: As) tvI σ ex) (hex : ex = some (r, σ1)) (hm : MW idx y cdy nLy rty As.length ci) (hdd : d' ≤ 1000) (hn : nLy ≤ 45) (hd : decode code pc = .ok (.invokevirtual idx, 3)) (hw : (rest.map fun v => v.category).sum ≤ 8) (hst : st0 = As.reverse ++ .ref (Ga G 0) :: rest) (hW : Wo G σ H) (hS : va_S (lwA s) s.heap H locs) (hls : ls.size = 4)
    (kk : ∀ (H1 : Heap) (locs1 : List Loc), Wo G σ1 H1 → va_S (lwA s) s.heap H1 locs1 → (∀ q, q < H.size → ¬ AA G q → H1[q]? = H[q]?) → W p l e room_1 s m #[Value.ref b] below meth c H1 locs1 170 9118 Q (F0 m (pc + 3) ls (.int r :: rest))) : W p l e room_1 s m #[Value.ref b] below meth c H locs 170 9118 Q (F0 m pc ls st0) := by
  obtain ⟨hx, hb, hr, hml, hown, hts, hX0, hbl, hlocks, hgv⟩ := C0
  obtain ⟨⟨hG, hI⟩, hGl, hX, hK, hAA⟩ := hg
  subst hGl
  have hMet := hM r σ1 hex
  obtain ⟨⟨m1, m2, m3⟩, m4, m4b, ⟨T, N, hvc⟩, m5⟩ := hm
  have htt : ∀ w ∈ Cond.code y cdy nLy rty :: tbG, w.before #[Value.ref b] s = true := fun w hw => by
    rcases List.mem_cons.mp hw with rfl | h
    · exact hts _ (List.mem_filter.mp m1).1
    · exact hts _ (List.mem_filter.mp h).1
  have hpre : PreV s H y.cls (Ga G 0) (Cpre G (.ref (Ga G 0) :: As) σ) As := ⟨Cpre_blind hG _ σ, va_recv hK hW hvc (hI.obj hc σ), fun U hU hWm => ⟨rfl, by rw [hU]; exact hW, va_K.moved hWm.alike hK, hG.2.2.1 s U hX hWm (by rw [hU]; exact hS.1) (fun q q1 q2 => by rw [hU]; exact hS.2.1 q q1 (Nat.not_le.mpr q1))⟩⟩
  refine lw_go (va_runV (As := As) (rest := rest) (own := RL) (Ts := Cond.code y cdy nLy rty :: tbG) ⟨hx, hb, hml, hown, htt⟩ hMet ⟨callB_of As.length htt (tbG_call m1) rfl rfl rfl (htt _ (List.mem_cons_of_mem _ m2)) (htt _ (List.mem_cons_of_mem _ m5)) m3 ⟨by show d' + 1 ≤ 2048; omega, by show 8 + (nLy + 11) + 64 * d' ≤ 84000; omega⟩, htt _ (List.mem_cons_of_mem _ m4), htt _ (List.mem_cons_of_mem _ m4b)⟩ hpre rfl rfl hls hst (lv_room hw) hd ⟨by show 170 + 0 ≤ 600000; omega, by show 9118 + 0 ≤ 7302249; omega⟩) hAA hS (fun H1 locs1 h1 h2 h3 => kk H1 locs1 h1 h2 h3)
section LWR
variable {b L : Nat} {xs : Nat → Int32} {gc gm : Gx} {P : Int32 → Mem → Mem → Nat → List Value → Prop} {σ τ : Mem} {i : Int32} {pc : Nat} {st : List Value}
theorem LJ.okc (h : LJ b L xs gc gm P) : Gok gc ∧ IsG gc layC fsoC := by
  obtain ⟨p, l, e, s, m, below, meth, c, C0, hL, hc, hSt, hm, hdis, rfl⟩ := h
  exact hc.1
theorem LJ.okm (h : LJ b L xs gc gm P) : Gok gm ∧ IsG gm layM fsoM := by
  obtain ⟨p, l, e, s, m, below, meth, c, C0, hL, hc, hSt, hm, hdis, rfl⟩ := h
  exact hm.1
theorem LJ.oks (h : LJ b L xs gc gm P) : StrOk gc := by
  obtain ⟨p, l, e, s, m, below, meth, c, C0, hL, hc, hSt, hm, hdis, rfl⟩ := h
  exact hSt
theorem LJ.len (h : LJ b L xs gc gm P) : L ≤ 3072 := by
  obtain ⟨p, l, e, s, m, below, meth, c, C0, hL, hc, hSt, hm, hdis, rfl⟩ := h
  exact hL
theorem lr_callC {y : MethodName} {cdy : ByteArray} {nLy d' idx : Nat} {rty : Option FieldType} {As : List Value} {ex : Option (Int32 × Mem)} {r : Int32} {σ1 : Mem} (rest : List Value) (h : LJ b L xs gc gm P) (hM : Ct gc y cdy nLy rty d' (.ref (Ga gc 0) :: As) tvI σ ex) (hex : ex = some (r, σ1)) (hm : MW idx y cdy nLy rty As.length 9) (hdd : d' ≤ 1000) (hn : nLy ≤ 45) (hd : decode code pc = .ok (.invokevirtual idx, 3)) (hw : (rest.map fun v => v.category).sum ≤ 8) (hst : st = As.reverse ++ .ref (Ga gc 0) :: rest) (kk : P i σ1 τ (pc + 3) (.int r :: rest)) : P i σ τ pc st := by
  obtain ⟨p, l, e, s, m, below, meth, c, C0, hL, hc, hSt, hmm, hdis, rfl⟩ := h
  intro H locs ls hWc hWm hS hl
  exact lw_call C0 hc lc_0 hM hex hm hdd hn hd hw hst hWc hS hl.1 (fun H1 locs1 h1 h2 h3 => kk H1 locs1 ls h1 (hWm.kept (fun q q1 q2 => h3 q q1 (fun z => hdis q z q2))) h2 hl)
theorem lr_callM {y : MethodName} {cdy : ByteArray} {nLy d' idx : Nat} {rty : Option FieldType} {As : List Value} {ex : Option (Int32 × Mem)} {r : Int32} {τ1 : Mem} (rest : List Value) (h : LJ b L xs gc gm P) (hM : Ct gm y cdy nLy rty d' (.ref (Ga gm 0) :: As) tvI τ ex) (hex : ex = some (r, τ1)) (hm : MW idx y cdy nLy rty As.length 10) (hdd : d' ≤ 1000) (hn : nLy ≤ 45) (hd : decode code pc = .ok (.invokevirtual idx, 3)) (hw : (rest.map fun v => v.category).sum ≤ 8) (hst : st = As.reverse ++ .ref (Ga gm 0) :: rest) (kk : P i σ τ1 (pc + 3) (.int r :: rest)) : P i σ τ pc st := by
  obtain ⟨p, l, e, s, m, below, meth, c, C0, hL, hc, hSt, hmm, hdis, rfl⟩ := h
  intro H locs ls hWc hWm hS hl
  exact lw_call C0 hmm lm_0 hM hex hm hdd hn hd hw hst hWm hS hl.1 (fun H1 locs1 h1 h2 h3 => kk H1 locs1 ls (hWc.kept (fun q q1 q2 => h3 q q1 (hdis q q2))) h1 h2 hl)
theorem lr_al1 (h : LJ b L xs gc gm P) (hd : decode code pc = .ok (.aload_n 1, 1)) (kk : P i σ τ (pc + 1) (.ref (Ga gc 0) :: st)) : P i σ τ pc st := by
  obtain ⟨p, l, e, s, m, below, meth, c, ⟨hx, hb, -⟩, hL, hc, hSt, hmm, hdis, rfl⟩ := h
  intro H locs ls hWc hWm hS hl
  exact lv_aload_n hx hb hd rfl (lv_at hl 1 rfl) (kk H locs ls hWc hWm hS hl)
theorem lr_al2 (h : LJ b L xs gc gm P) (hd : decode code pc = .ok (.aload_n 2, 1)) (kk : P i σ τ (pc + 1) (.ref (Ga gm 0) :: st)) : P i σ τ pc st := by
  obtain ⟨p, l, e, s, m, below, meth, c, ⟨hx, hb, -⟩, hL, hc, hSt, hmm, hdis, rfl⟩ := h
  intro H locs ls hWc hWm hS hl
  exact lv_aload_n hx hb hd rfl (lv_at hl 2 rfl) (kk H locs ls hWc hWm hS hl)
/-- the script's place j + k, pushed -/
theorem lr_arg {j k : Nat} {kk : Int} (h : LJ b L xs gc gm P) (hj : j + 6 ≤ L) (hk : k < 6) (d0 : decode code pc = .ok (.aload_n 0, 1)) (d1 : decode code (pc + 1) = .ok (.iload_n 3, 1)) (d2 : decode code (pc + 2) = .ok (.iconst kk, 1)) (hkk : Int32.ofInt kk = nI k) (d3 : decode code (pc + 3) = .ok (.iadd, 1)) (d4 : decode code (pc + 4) = .ok (.iaload, 1)) (nx : P (nI j) σ τ (pc + 5) (.int (xs (j + k)) :: st)) : P (nI j) σ τ pc st := by
  obtain ⟨p, l, e, s, m, below, meth, c, ⟨hx, hb, hr, hml, hown, hts, hX0, hbl, hlocks, hgv⟩, hL, hc, hSt, hmm, hdis, rfl⟩ := h
  intro H locs ls hWc hWm hS hl
  have hbA : ¬ lwA s b := Nat.not_le.mpr hbl
  refine lv_aload_n hx hb d0 rfl (lv_at hl 0 rfl) ?_
  refine lv_iload_n hx hb d1 rfl (lv_at hl 3 rfl) ?_
  refine lv_iconst hx hb d2 hkk ?_
  refine lv_iadd hx hb d3 ?_
  rw [nI_add]
  refine va_sld hx hb hX0 hbl hbA hS (vp_in_nI (show j + k < L by omega) (by omega)) d4 ?_
  rw [nI_clamp (show j + k < 2 ^ 31 by omega)]
  exact nx H locs ls hWc hWm hS hl
theorem lr_eq {r : Int32} {off : Int} {tgt : Nat} (h : LJ b L xs gc gm P) (hd : decode code pc = .ok (.if_icmp .eq off, 3)) (ht : (pc : Int) + off = (tgt : Int)) (kk : P i σ τ tgt st) : P i σ τ pc (.int r :: .int r :: st) := by
  obtain ⟨p, l, e, s, m, below, meth, c, ⟨hx, hb, -⟩, hL, hc, hSt, hmm, hdis, rfl⟩ := h
  intro H locs ls hWc hWm hS hl
  exact lv_icmp_eq hx hb hd ht (fun _ => kk H locs ls hWc hWm hS hl) (fun q => absurd rfl q)
theorem lr_inc {off : Int} {tgt j : Nat} (h : LJ b L xs gc gm P) (d0 : decode code pc = .ok (.iinc 3 6, 3)) (d1 : decode code (pc + 3) = .ok (.goto off, 3)) (ht : ((pc + 3 : Nat) : Int) + off = (tgt : Int)) (kk : P (nI (j + 6)) σ τ tgt st) : P (nI j) σ τ pc st := by
  obtain ⟨p, l, e, s, m, below, meth, c, ⟨hx, hb, -⟩, hL, hc, hSt, hmm, hdis, rfl⟩ := h
  intro H locs ls hWc hWm hS hl
  refine lv_iinc (k := 3) (v := nI (j + 6)) hx hb d0 hl rfl (nI_add j 6) (by decide) rfl (fun ls1 hl1 => ?_)
  exact lv_goto hx hb d1 ht (kk H locs ls1 hWc hWm hS (lv_sub hl1 [1, 2, 3, 0] rfl))
theorem sub6_ge {L : Nat} (h : 6 ≤ L) : nI L - 6 = nI (L - 6) := by
  have e : nI (L - 6) + nI 6 = nI L := by rw [nI_add, Nat.sub_add_cancel h]
  rw [← e]
  exact Int32.add_sub_cancel _ _
theorem lr_head {j : Nat} {tgt : Nat} {off : Int} (h : LJ b L xs gc gm P) (hj : j ≤ 3078) (d0 : decode code pc = .ok (.iload_n 3, 1)) (d1 : decode code (pc + 1) = .ok (.aload_n 0, 1)) (d2 : decode code (pc + 2) = .ok (.arraylength, 1)) (d3 : decode code (pc + 3) = .ok (.bipush 6, 2)) (d5 : decode code (pc + 5) = .ok (.isub, 1)) (d6 : decode code (pc + 6) = .ok (.if_icmp .gt off, 3)) (ht : ((pc + 6 : Nat) : Int) + off = (tgt : Int)) (e0 : decode code tgt = .ok (.iconst 1, 1)) (e1 : decode code (tgt + 1) = .ok (.ireturn, 1)) (nx : j + 6 ≤ L → P (nI j) σ τ (pc + 9) []) : P (nI j) σ τ pc [] := by
  obtain ⟨p, l, e, s, m, below, meth, c, ⟨hx, hb, hr, hml, hown, hts, hX0, hbl, hlocks, hgv⟩, hL, hc, hSt, hmm, hdis, rfl⟩ := h
  intro H locs ls hWc hWm hS hl
  have hbA : ¬ lwA s b := Nat.not_le.mpr hbl
  refine lv_iload_n hx hb d0 rfl (lv_at hl 3 rfl) ?_
  refine lv_aload_n hx hb d1 rfl (lv_at hl 0 rfl) ?_
  refine va_slen hx hb hX0 hbl hbA hS d2 ?_
  refine lv_bipush (v := 6) hx hb d3 (by decide) ?_
  refine lv_isub hx hb d5 ?_
  refine lv_icmp_gt hx hb d6 ht (fun _ => ?_) (fun q => ?_)
  · refine lv_iconst (v := 1) hx hb e0 (by decide) ?_
    refine va_forget (fun q hq => hS.2.2 q hq) ?_
    refine W.widen (k := 600000) (n := 7302249) (Nat.le_of_ble_eq_true rfl) (Nat.le_of_ble_eq_true rfl) ?_
    exact lw_ret hx hb hr hlocks e1
  · have q : ¬ nI L - 6 < nI j := q
    have hjl : j + 6 ≤ L := by
      rcases Nat.lt_or_ge L 6 with z | z
      · refine absurd (Int32.lt_of_lt_of_le ?_ (nI_pos' (show j < 2 ^ 31 by omega))) q
        rcases (show L = 0 ∨ L = 1 ∨ L = 2 ∨ L = 3 ∨ L = 4 ∨ L = 5 by omega) with rfl | rfl | rfl | rfl | rfl | rfl <;> decide
      · rw [sub6_ge z, nI_ltI (by omega) (by omega)] at q
        omega
    exact nx hjl H locs ls hWc hWm hS hl
theorem and31 (x : Int32) : ∃ k : Nat, k ≤ 31 ∧ x &&& 31 = nI k := by
  refine ⟨(x &&& 31).toBitVec.toNat, ?_, ?_⟩
  · rw [Int32.toBitVec_and, BitVec.toNat_and]
    exact Nat.and_le_right
  · apply Int32.toBitVec_inj.mp
    show (x &&& 31).toBitVec = BitVec.ofNat 32 (x &&& 31).toBitVec.toNat
    rw [BitVec.ofNat_toNat, BitVec.setWidth_eq]
theorem lr_sw {j k len tgt : Nat} {offs : Array Int} {dflt off : Int} (h : LJ b L xs gc gm P) (hj : j + 6 ≤ L) (d0 : decode code pc = .ok (.aload_n 0, 1)) (d1 : decode code (pc + 1) = .ok (.iload_n 3, 1)) (d2 : decode code (pc + 2) = .ok (.iaload, 1)) (d3 : decode code (pc + 3) = .ok (.bipush 31, 2)) (d5 : decode code (pc + 5) = .ok (.iand, 1)) (d6 : decode code (pc + 6) = .ok (.tableswitch dflt 0 30 offs, len)) (hx31 : xs j &&& 31 = nI k) (hk : k ≤ 30) (ho : offs[k]? = some off) (ht : ((pc + 6 : Nat) : Int) + off = (tgt : Int)) (nx : P (nI j) σ τ tgt []) : P (nI j) σ τ pc [] := by
  obtain ⟨p, l, e, s, m, below, meth, c, ⟨hx, hb, hr, hml, hown, hts, hX0, hbl, hlocks, hgv⟩, hL, hc, hSt, hmm, hdis, rfl⟩ := h
  intro H locs ls hWc hWm hS hl
  have hbA : ¬ lwA s b := Nat.not_le.mpr hbl
  refine lv_aload_n hx hb d0 rfl (lv_at hl 0 rfl) ?_
  refine lv_iload_n hx hb d1 rfl (lv_at hl 3 rfl) ?_
  refine va_sld hx hb hX0 hbl hbA hS (vp_in_nI (show j < L by omega) (by omega)) d2 ?_
  rw [nI_clamp (show j < 2 ^ 31 by omega)]
  refine lv_bipush (v := 31) hx hb d3 (by decide) ?_
  refine lv_iand hx hb d5 ?_
  rw [hx31]
  have e1 : (nI k).toInt = (k : Int) := nI_toInt (by omega)
  refine lv_tableIn hx hb d6 (by rw [e1]; omega) (by rw [e1]; omega) (off := off) (by rw [e1, show ((k : Int) - 0).toNat = k by omega]; exact ho) ht ?_
  exact nx H locs ls hWc hWm hS hl
theorem lr_sw31 {j len tgt : Nat} {offs : Array Int} {dflt : Int} (h : LJ b L xs gc gm P) (hj : j + 6 ≤ L) (d0 : decode code pc = .ok (.aload_n 0, 1)) (d1 : decode code (pc + 1) = .ok (.iload_n 3, 1)) (d2 : decode code (pc + 2) = .ok (.iaload, 1)) (d3 : decode code (pc + 3) = .ok (.bipush 31, 2)) (d5 : decode code (pc + 5) = .ok (.iand, 1)) (d6 : decode code (pc + 6) = .ok (.tableswitch dflt 0 30 offs, len)) (hx31 : xs j &&& 31 = nI 31) (ht : ((pc + 6 : Nat) : Int) + dflt = (tgt : Int)) (nx : P (nI j) σ τ tgt []) : P (nI j) σ τ pc [] := by
  obtain ⟨p, l, e, s, m, below, meth, c, ⟨hx, hb, hr, hml, hown, hts, hX0, hbl, hlocks, hgv⟩, hL, hc, hSt, hmm, hdis, rfl⟩ := h
  intro H locs ls hWc hWm hS hl
  have hbA : ¬ lwA s b := Nat.not_le.mpr hbl
  refine lv_aload_n hx hb d0 rfl (lv_at hl 0 rfl) ?_
  refine lv_iload_n hx hb d1 rfl (lv_at hl 3 rfl) ?_
  refine va_sld hx hb hX0 hbl hbA hS (vp_in_nI (show j < L by omega) (by omega)) d2 ?_
  rw [nI_clamp (show j < 2 ^ 31 by omega)]
  refine lv_bipush (v := 31) hx hb d3 (by decide) ?_
  refine lv_iand hx hb d5 ?_
  rw [hx31]
  have e1 : (nI 31).toInt = ((31 : Nat) : Int) := nI_toInt (by omega)
  refine lv_tableOut hx hb d6 (Or.inr (by rw [e1]; omega)) ht ?_
  exact nx H locs ls hWc hWm hS hl
end LWR
