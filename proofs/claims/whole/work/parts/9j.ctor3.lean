/-! constructors: fields, objects, calls -/
def FQ (own : String) (ci k : Nat) (ty : FieldType) (fin : Bool) : Prop := ∃ (C : String) (T : u_T) (N : Nat) (ty0 : Nat → FieldType), vwCl[ci]? = some (C, T, N) ∧ (∀ k, k < N → parseFieldDescriptor (T k).2.2.1 = some (ty0 k)) ∧ (∀ a, a < N → ∀ b, b < N → a ≠ b → (T a).2.1 ≠ (T b).2.1) ∧ (T k).2.2.2 = fin ∧ (T k).1 = own ∧ parseFieldDescriptor (T k).2.2.1 = some ty
def FD (own : String) (idx ci k : Nat) : Prop := ∃ (C : String) (T : u_T) (N : Nat), vwCl[ci]? = some (C, T, N) ∧ k < N ∧ (∀ w ∈ u_ws C T N, w ∈ tbG) ∧ Cond.fieldLink own idx (T k).1 (T k).2.1 (T k).2.2.1 ∈ tbG
section CX3
variable {l : Launch} {D : va_G} {tys : List (ClassId × FieldType)} {own : String} {cd : ByteArray} {nL d mc ms : Nat} {S : Type} {cW : S → va_W} {P : Nat → List (Nat × Value) → List Value → va_W → Nat → Nat → Prop} {pc k n : Nat} {lv : List (Nat × Value)} {st : List Value} {ws : va_W}
theorem cx_put {idx ci kf x : Nat} {v : Value} {ty : FieldType} {fin : Bool} {fs : List Value} (h : Ck l D tys own cd nL d mc ms cW P) (fa : FD own idx ci kf) (fq : FQ own ci kf ty fin) (hn : narrow ty v = v) (hfit : fits ty v = true) (hl9 : kf < fs.length) (hd : decode cd pc = .ok (.putfield idx, 3)) (kk : P (pc + 3) lv st ((x, .inr (ci, fs.set kf v)) :: ws) k n) : P pc lv (v :: .ref x :: st) ((x, .inr (ci, fs)) :: ws) k n := by
  obtain ⟨A, p, e, s, m, args, below, meth, c, hx, hb, hml, hr, hlk, hin, hown, ⟨_, hts⟩, hK, hX, hA, rfl⟩ := h
  intro H locs ls hP hD hS hl
  obtain ⟨C, T, N, hvc, hk, hws, hlk2⟩ := fa
  obtain ⟨C', T', N', ty0, hvc', hty, hnm, hfin, hdecl, hpar⟩ := fq
  rw [hvc] at hvc'
  cases hvc'
  cases fin with
  | true => exact va_putF (D := D) hx hb hts (fun w hw => List.mem_cons_of_mem _ (hws w hw)) ty0 hty hnm hown hK hP hD hS 0 rfl hvc kf hk (hts _ (List.mem_cons_of_mem _ hlk2)) (fun _ h9 => h9) hfin hin hdecl hpar hn hfit hl9 hd (fun H1 locs1 hP1 hD1 hS1 => kk H1 locs1 ls hP1 hD1 hS1 hl)
  | false => exact va_put (D := D) hx hb hts (fun w hw => List.mem_cons_of_mem _ (hws w hw)) ty0 hty hnm hown hK hP hD hS 0 rfl hvc kf hk (hts _ (List.mem_cons_of_mem _ hlk2)) (fun _ h9 => h9) hfin hpar hn hfit hl9 hd (fun H1 locs1 hP1 hD1 hS1 => kk H1 locs1 ls hP1 hD1 hS1 hl)
theorem cx_new {idx ci N : Nat} {C : String} {T : u_T} {ty : Nat → FieldType} {fs : List Value} (h : Ck l D tys own cd nL d mc ms cW P) (hvc : vwCl[ci]? = some (C, T, N)) (hws : ∀ w ∈ u_ws C T N, w ∈ tbG) (hty : ∀ k, k < N → parseFieldDescriptor (T k).2.2.1 = some (ty k)) (hcl : Cond.classLink own idx C ∈ tbG) (hinst : Cond.instantiable C N ∈ tbG) (hini : Cond.initialized C ∈ tbG) (hfs : ∀ j, j < N → defaultValue (ty j) = vp_V fs j) (hk : k + 1 ≤ mc) (hn : n + N ≤ ms) (hd : decode cd pc = .ok (.new idx, 3)) (kk : ∀ q, P (pc + 3) lv (.ref q :: st) (ws ++ [(q, .inr (ci, fs))]) (k + 1) (n + N)) : P pc lv st ws k n := by
  obtain ⟨A, p, e, s, m, args, below, meth, c, hx, hb, hml, hr, hlk, hin, hown, ⟨_, hts⟩, hK, hX, hA, rfl⟩ := h
  intro H locs ls hP hD hS hl
  exact va_new (D := D) hx hb hts (fun w hw => List.mem_cons_of_mem _ (hws w hw)) ty hty hown (hts _ (List.mem_cons_of_mem _ hcl)) (hts _ (List.mem_cons_of_mem _ hinst)) (hts _ (List.mem_cons_of_mem _ hini)) hK hP hD hS hA hvc hfs hk hn hd (fun q H1 hP1 hD1 hS1 => kk q H1 locs ls hP1 hD1 hS1 hl)
/-- behind a constructor's call: the caller's other cells, and what was made -/
theorem cx_join {A0 : Nat → Prop} {pre w1 : va_W} {x : Nat × va_E} {H H1 : Heap} (hP : va_P D vwCl (pre ++ [x]) H) (hD : va_D A0 (pre ++ [x])) (hk : ∀ q : Nat, q < H.size → ¬ va_A [x] H.size q → H1[q]? = H[q]?) (hF : ∀ q, va_A [x] H.size q → A0 q) (hP1 : va_P D vwCl w1 H1) (hD1 : va_D (va_A [x] H.size) w1) : va_P D vwCl (pre ++ w1) H1 ∧ va_D A0 (pre ++ w1) := by
  have up : ∀ {i : Nat} {y : Nat × va_E}, pre[i]? = some y → (pre ++ [x])[i]? = some y := fun {i y} hy => by
    rw [List.getElem?_append_left (List.getElem?_eq_some_iff.mp hy).1]
    exact hy
  have lastx : (pre ++ [x])[pre.length]? = some x := by simp
  have apart : ∀ (i : Nat) (y : Nat × va_E), pre[i]? = some y → y.1 < H.size ∧ ¬ va_A [x] H.size y.1 := fun i y hy => by
    have hl := (hP i y (up hy)).lt
    refine ⟨hl, fun z => ?_⟩
    rcases z with ⟨j, e, hj⟩ | z
    · have hj0 : j < 1 := (List.getElem?_eq_some_iff.mp hj).1
      rw [show j = 0 by omega] at hj
      have hx1 : x = (y.1, e) := Option.some.inj hj
      have := hD.1 i pre.length y x (up hy) lastx (by rw [hx1])
      have := (List.getElem?_eq_some_iff.mp hy).1
      omega
    · omega
  have hDp : va_D A0 pre := ⟨fun i j y z hi hj => hD.1 i j y z (up hi) (up hj), fun i y hi => hD.2 i y (up hi)⟩
  refine ⟨va_P.app (fun i y hy => (hP i y (up hy)).kept (hk y.1 (apart i y hy).1 (apart i y hy).2)) hP1, va_D.app hDp (hD1.weaken (fun i y _ h => hF y.1 h)) (fun i j y z hy hz hyz => (apart i y hy).2 (by rw [hyz]; exact hD1.2 j z hz))⟩
theorem cx_call {y : MethodName} {cdy : ByteArray} {nLy d' mc' ms' ci idx q : Nat} {fs0 : List Value} {S' : Type} {cW' : Nat → S' → va_W} {host : String} (h : Ck l D tys own cd nL d mc ms cW P) (hM : Kc l D tys y cdy nLy d' mc' ms' ci fs0 cW') (m1 : Cond.code y cdy nLy none ∈ tbG) (m2 : Cond.initialized y.cls ∈ tbG) (m3 : y.cls ≠ "java/lang/invoke/MethodHandle" ∧ y.cls ≠ "java/lang/invoke/VarHandle" ∧ (parseMethodDescriptor y.desc).map (fun d => d.parameters.length) = some 0) (m4 : Cond.instanceMethod y ∈ tbG) (m5 : Cond.methodLinkNest own idx y host ∈ lw_tbl) (hname : y.name = "<init>") (hdd : d' < d) (hnl : nLy ≤ 45) (hk : k + mc' ≤ mc) (hn : n + ms' ≤ ms) (hd : decode cd pc = .ok (.invokespecial idx, 3)) (hw : (st.map fun v => v.category).sum ≤ 8) (kk : ∀ u : S', P (pc + 3) lv st (ws ++ cW' q u) (k + mc') (n + ms')) : P pc lv (.ref q :: st) (ws ++ [(q, .inr (ci, fs0))]) k n := by
  obtain ⟨A, p, e, s, m, args, below, meth, c, hx, hb, hml, hr, hlk, hin, hown, ⟨_, hts⟩, hK, hX, hA, rfl⟩ := h
  intro H locs ls hP hD hS hl
  have hPc : va_P D vwCl [(q, .inr (ci, fs0))] H := fun i y hy => by
    have hj0 : i < 1 := (List.getElem?_eq_some_iff.mp hy).1
    rw [show i = 0 by omega] at hy
    cases hy
    exact hP ws.length _ (by simp)
  have hFc : ∀ z, va_A [(q, .inr (ci, fs0))] H.size z → A z := fun z hz => by
    rcases hz with ⟨j, e, hj⟩ | hz
    · have hj0 : j < 1 := (List.getElem?_eq_some_iff.mp hj).1
      rw [show j = 0 by omega] at hj
      cases hj
      exact hD.2 ws.length (q, .inr (ci, fs0)) (by simp)
    · exact hA z (Nat.le_trans hS.1 hz)
  have hpre : PreS s H (va_Pc [.ref q] (kcP D tys q H.size ci fs0)) (.ref q :: []) := ⟨fun a U g mk z => by
    obtain ⟨z0, z1, zP, zK, zX⟩ := z
    exact ⟨z0, z1, zP, va_K.moved (u := U) (U := U.calling g mk a) (Vm.Alike.refl U.vm) zK, zX.same rfl⟩, fun U hU hWm => ⟨rfl, by rw [hU], by rw [hU]; exact hPc, va_K.moved hWm.alike hK, hX.warm hWm⟩⟩
  refine va_callv (va_runIN (As := []) (rest := st) (Ts := _ :: tbG) ⟨hx, hb, hml, hown, hts⟩ (hM q H.size) ⟨va_cnB 0 hts (tbG_call m1) rfl rfl rfl (hX.2 _ m5 rfl) (hts _ (List.mem_cons_of_mem _ m2)) m3 ⟨by show d' + 1 ≤ d; omega, by show 8 + (nLy + 11) + 64 * d' ≤ 64 * d; omega⟩, hname, hts _ (List.mem_cons_of_mem _ m4)⟩ hpre rfl rfl hl.1 rfl (lv_room hw) hd ⟨hk, hn⟩) hS (fun z _ h => hFc z h) hFc (fun u t H1 locs1 ht hvm _ hB hz1 hk1 hS1 => ?_)
  obtain ⟨hP1, hD1⟩ := hB
  rw [ht] at hP1
  obtain ⟨hP2, hD2⟩ := cx_join hP hD hk1 hFc hP1 hD1
  exact kk u H1 locs1 ls hP2 hD2 hS1 hl
end CX3
