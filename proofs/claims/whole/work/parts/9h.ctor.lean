/-! constructors: the core -/
def XO (U : State) : Prop := (Cond.arrayOver (.array .int)).before #[] U = true
theorem XO.moved {u U : State} (hvm : u.vm.Alike U.vm) (h : XO u) : XO U := by
  have h0 := h
  unfold XO Cond.before Cond.holds at h0
  simp only [Cond.value, beq_iff_eq] at h0
  obtain ⟨cI, cO, kO, h1, h2, h3, h4⟩ := over_spec h
  have h1' : u.vm.findClass (FieldType.array .int).toString = some cI := h1
  simp only [h1', Option.bind_some, Option.bind_eq_some_iff, Option.map_eq_some_iff] at h0
  obtain ⟨c, hi, k, hk, hb⟩ := h0
  have e1 := va_idx_bare U.vm cI
  have e2 := va_idx_bare u.vm cI
  have e3 : U.vm.bare = u.vm.bare := by first | exact hvm.bare_eq | exact hvm.bare_eq.symm
  rw [e3] at e1
  have hi' := e1.symm.trans (e2.trans hi)
  obtain ⟨k', hk', he⟩ := hvm.2.2 _ _ hk
  have f1 : U.vm.findClass (FieldType.array .int).toString = some cI := by rw [hvm.findClass]; exact h1
  have hkind : k'.kind = k.kind := by rw [he]
  unfold XO Cond.before Cond.holds
  simp only [Cond.value]
  rw [f1, Option.bind_some]
  refine (congrArg (fun o : Option Nat => (o.bind (fun c => (U.vm.classes[c]?).map fun (k : Class) => match k.kind with | .array _ ty => decide (ty = FieldType.array .int) && decide (U.vm.findClass ("[" ++ (FieldType.array .int).toString) = some c) | _ => false) == some true)) hi').trans ?_
  simp only [Option.bind_some, hk', Option.map_some, hkind, hvm.findClass]
  cases hkd : k.kind with
  | array component ty =>
    rw [hkd] at hb
    simpa [hkd] using hb
  | _ => rw [hkd] at hb; simp at hb
def XN (U : State) : Prop := XO U ∧ ∀ w ∈ lw_tbl, is_nest w = true → va_Nw w U
theorem XN.warm {s U : State} (h : XN s) (hW : s.WarmedH U.vm) : XN U := by
  refine ⟨h.1.moved hW.alike, fun w hw hn => ?_⟩
  have h2 := h.2 w hw hn
  cases w with
  | fieldLinkNest => exact va_Nw.warmF hW h2
  | methodLinkNest => exact va_Nw.warmM hW h2
  | _ => cases hn
theorem XN.same {u U : State} (h : XN u) (hv : u.vm = U.vm) : XN U := by
  refine ⟨h.1.moved (by rw [hv]; exact Vm.Alike.refl U.vm), fun w hw hn => ?_⟩
  have h2 := h.2 w hw hn
  cases w with
  | fieldLinkNest => exact va_Nw.same rfl hv h2
  | methodLinkNest => exact va_Nw.same rfl hv h2
  | _ => cases hn
def rmc (d mc ms : Nat) : Room := { frames := d, cells := mc, slots := ms, locals := 64 * d }
def kcP (D : va_G) (tys : List (ClassId × FieldType)) (h0 sz ci : Nat) (fs0 : List Value) : State → Prop := fun U => U.heap.size = sz ∧ va_P D vwCl [(h0, .inr (ci, fs0))] U.heap ∧ va_K D vwCl tys U ∧ XN U
def kcA (h0 ci : Nat) (fs0 : List Value) (sz : Nat) : Nat → Prop := va_A [(h0, .inr (ci, fs0))] sz
/-- a constructor's contract: the object at h0, all at its default, becomes the world cW u for some u -/
def Kc (l : Launch) (D : va_G) (tys : List (ClassId × FieldType)) (y : MethodName) (cd : ByteArray) (nL d mc ms ci : Nat) (fs0 : List Value) {S : Type} (cW : Nat → S → va_W) : Prop :=
  ∀ h0 sz : Nat, Met l y (.code y cd nL none :: tbG) (rmc d mc ms) (va_Pc [.ref h0] (kcP D tys h0 sz ci fs0)) (va_Qv (fun _ : S => True) (fun u t => va_P D vwCl (cW h0 u) t.heap ∧ va_D (kcA h0 ci fs0 sz) (cW h0 u)) (kcA h0 ci fs0 sz)) mc ms (kcA h0 ci fs0 sz)
def CP (A : Nat → Prop) (R : Room) (p : Program) (l : Launch) (e : Env) (s : State) (m : MethodId) (args : Array Value) (below : List Frame) (meth : Method) (c : Code) (nL : Nat) (D : va_G) (Q : State → Prop) : Nat → List (Nat × Value) → List Value → va_W → Nat → Nat → Prop :=
  fun pc lv st ws k n => ∀ (H : Heap) (locs : List Loc) (ls : Array Slot), va_P D vwCl ws H → va_D A ws → va_S A s.heap H locs → lv_has ls nL lv → W p l e R s m args below meth c H locs k n Q (F0 m pc ls st)
/-- P is the judgement of a constructor's body -/
def Ck (l : Launch) (D : va_G) (tys : List (ClassId × FieldType)) (own : String) (cd : ByteArray) (nL d mc ms : Nat) {S : Type} (cW : S → va_W) (P : Nat → List (Nat × Value) → List Value → va_W → Nat → Nat → Prop) : Prop :=
  ∃ (A : Nat → Prop) (p : Program) (e : Env) (s : State) (m : MethodId) (args : Array Value) (below : List Frame) (meth : Method) (c : Code), p.tables.exec = Jvm.exec ∧ c.code = cd ∧ c.maxLocals = nL ∧ meth.sig.returnType = none ∧ meth.locks = false ∧ meth.name = "<init>" ∧ s.vm.findClass own = some m.cls ∧ (∃ a, ∀ w ∈ a :: tbG, w.before args s = true) ∧ va_K D vwCl tys s ∧ XN s ∧ (∀ q, s.heap.size ≤ q → A q) ∧
    P = CP A (rmc d mc ms) p l e s m args below meth c nL D (MQ below (va_Qv (fun _ : S => True) (fun u t => va_P D vwCl (cW u) t.heap ∧ va_D A (cW u)) A) args s mc ms A)
theorem Kc.of {l : Launch} {D : va_G} {tys : List (ClassId × FieldType)} {y : MethodName} {cd : ByteArray} {nL d mc ms ci : Nat} {fs0 : List Value} {S : Type} {cW : Nat → S → va_W} (hy : plainName y.cls = true) (hn : y.name = "<init>") (hL : 1 ≤ nL)
    (k : ∀ (h0 : Nat) (P : Nat → List (Nat × Value) → List Value → va_W → Nat → Nat → Prop), Ck l D tys y.cls cd nL d mc ms (cW h0) P → P 0 [(0, .ref h0)] [] [(h0, .inr (ci, fs0))] 0 0) : Kc l D tys y cd nL d mc ms ci fs0 cW := by
  intro h0 sz
  refine Met.ofW (cc := cd) (maxL := nL) (ret := none) hy rfl ?_
  intro p e s m args below meth c s₁ B hml hv
  obtain ⟨rfl, hsz, hP, hK, hX⟩ := hv
  have hts := atoms_spec (ws := Cond.code y cd nL none :: tbG) B.pre
  have hown : s.vm.findClass y.cls = some m.cls := findClass_of_methodNamed B.named
  have hin : meth.name = "<init>" := ((name_of_methodNamed B.named B.method).1).trans hn
  subst hsz
  have hA : ∀ q : Nat, s.heap.size ≤ q → kcA h0 ci fs0 s.heap.size q := fun q h => Or.inr h
  have h := k h0 _ ⟨kcA h0 ci fs0 s.heap.size, p, e, s, m, _, below, meth, c, B.exec, B.bytes, hml, B.returns, B.notSynchronized, hin, hown, ⟨_, hts⟩, hK, hX, hA, rfl⟩
  rw [lg_entry_eq]
  refine h s.heap [] _ hP ⟨fun i j x y hi hj _ => ?_, fun k q hk => va_A.in hk⟩ va_S.rf (lv_entry [.ref h0] (by exact hL))
  have hi' := (List.getElem?_eq_some_iff.mp hi).1
  have hj' := (List.getElem?_eq_some_iff.mp hj).1
  have e1 : ([(h0, Sum.inr (ci, fs0))] : va_W).length = 1 := rfl
  omega
section CX
variable {l : Launch} {D : va_G} {tys : List (ClassId × FieldType)} {own : String} {cd : ByteArray} {nL d mc ms : Nat} {S : Type} {cW : S → va_W} {P : Nat → List (Nat × Value) → List Value → va_W → Nat → Nat → Prop} {pc k n : Nat} {lv : List (Nat × Value)} {st : List Value} {ws : va_W}
theorem cx_aload {j : Fin 4} {i x : Nat} (h : Ck l D tys own cd nL d mc ms cW P) (hd : decode cd pc = .ok (.aload_n j, 1)) (hi : (j : Nat) = i) (q : Nat) (hv : lv[q]? = some (i, .ref x)) (kk : P (pc + 1) lv (.ref x :: st) ws k n) : P pc lv st ws k n := by
  obtain ⟨A, p, e, s, m, args, below, meth, c, hx, hb, hml, hr, hlk, hin, hown, ⟨_, hts⟩, hK, hX, hA, rfl⟩ := h
  intro H locs ls hP hD hS hl
  exact lv_aload_n hx hb hd hi (lv_at hl q hv) (kk H locs ls hP hD hS hl)
theorem cx_iconst {i : Int} {v : Int32} (h : Ck l D tys own cd nL d mc ms cW P) (hd : decode cd pc = .ok (.iconst i, 1)) (hv : Int32.ofInt i = v) (kk : P (pc + 1) lv (.int v :: st) ws k n) : P pc lv st ws k n := by
  obtain ⟨A, p, e, s, m, args, below, meth, c, hx, hb, hml, hr, hlk, hin, hown, ⟨_, hts⟩, hK, hX, hA, rfl⟩ := h
  intro H locs ls hP hD hS hl
  exact lv_iconst hx hb hd hv (kk H locs ls hP hD hS hl)
theorem cx_bipush {i : Int} {v : Int32} (h : Ck l D tys own cd nL d mc ms cW P) (hd : decode cd pc = .ok (.bipush i, 2)) (hv : (Int8.ofInt i).toInt32 = v) (kk : P (pc + 2) lv (.int v :: st) ws k n) : P pc lv st ws k n := by
  obtain ⟨A, p, e, s, m, args, below, meth, c, hx, hb, hml, hr, hlk, hin, hown, ⟨_, hts⟩, hK, hX, hA, rfl⟩ := h
  intro H locs ls hP hD hS hl
  exact lv_bipush hx hb hd hv (kk H locs ls hP hD hS hl)
theorem cx_sipush {i : Int} {v : Int32} (h : Ck l D tys own cd nL d mc ms cW P) (hd : decode cd pc = .ok (.sipush i, 3)) (hv : (Int16.ofInt i).toInt32 = v) (kk : P (pc + 3) lv (.int v :: st) ws k n) : P pc lv st ws k n := by
  obtain ⟨A, p, e, s, m, args, below, meth, c, hx, hb, hml, hr, hlk, hin, hown, ⟨_, hts⟩, hK, hX, hA, rfl⟩ := h
  intro H locs ls hP hD hS hl
  exact lv_sipush hx hb hd hv (kk H locs ls hP hD hS hl)
theorem cx_dup {v : Value} (h : Ck l D tys own cd nL d mc ms cW P) (hd : decode cd pc = .ok (.dup, 1)) (hv : v.category = 1) (kk : P (pc + 1) lv (v :: v :: st) ws k n) : P pc lv (v :: st) ws k n := by
  obtain ⟨A, p, e, s, m, args, below, meth, c, hx, hb, hml, hr, hlk, hin, hown, ⟨_, hts⟩, hK, hX, hA, rfl⟩ := h
  intro H locs ls hP hD hS hl
  exact lv_dup hx hb hd hv (kk H locs ls hP hD hS hl)
theorem cx_obj {idx x : Nat} (h : Ck l D tys own cd nL d mc ms cW P) (h1 : Cond.methodLink own idx objectInit ∈ tbG) (h2 : Cond.instanceMethod objectInit ∈ tbG) (h3 : Cond.code objectInit ⟨#[0xb1]⟩ 1 none ∈ tbG) (hd1 : 1 ≤ d) (hd : decode cd pc = .ok (.invokespecial idx, 3)) (kk : P (pc + 3) lv [] ws k n) : P pc lv [.ref x] ws k n := by
  obtain ⟨A, p, e, s, m, args, below, meth, c, hx, hb, hml, hr, hlk, hin, hown, ⟨_, hts⟩, hK, hX, hA, rfl⟩ := h
  intro H locs ls hP hD hS hl
  exact W.objInit hx hb hown (hts _ (List.mem_cons_of_mem _ h1)) (hts _ (List.mem_cons_of_mem _ h2)) (hts _ (List.mem_cons_of_mem _ h3)) rfl (by rw [hml]; exact hl.1) rfl hd hd1 (by show 0 + 0 + 12 ≤ 64 * d; omega) (kk H locs ls hP hD hS hl)
theorem cx_ret (h : Ck l D tys own cd nL d mc ms cW P) (u : S) (hw : ws = cW u) (hk : k ≤ mc) (hn : n ≤ ms) (hd : decode cd pc = .ok (.return_, 1)) : P pc lv [] ws k n := by
  obtain ⟨A, p, e, s, m, args, below, meth, c, hx, hb, hml, hr, hlk, hin, hown, ⟨_, hts⟩, hK, hX, hA, rfl⟩ := h
  intro H locs ls hP hD hS hl
  subst hw
  refine W.widen (k := mc) (n := ms) hk hn ?_
  exact W.vret hx hb hr (fun t ht hW => ⟨⟨u, rfl, trivial, by rw [ht]; exact hP, hD⟩, hS.F ht⟩) hS.2.2 hd
end CX
