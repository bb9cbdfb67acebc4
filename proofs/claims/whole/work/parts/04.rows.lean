/-! rows: an instruction each, over the judgement of a body -/
def lt {α β : Type} (a : α) (f : α → β) : β := f a
def ckd {α : Type} (y : Int32) (e : Option α) : Option α := if y = 0 then none else e
def ckl {α : Type} (y : Int64) (e : Option α) : Option α := if y = 0 then none else e
def ckz {α : Type} (x : Int32) (e : Option α) : Option α := if x = 0 then e else if x = 1 then e else none
/-- cell c is as the layout tells it -/
def ckc {α : Type} (b : Bool) (e : Option α) : Option α := if b then e else none
def imin (x y : Int32) : Int32 := if y < x then y else x
def imax (x y : Int32) : Int32 := if x < y then y else x
def lmin (x y : Int64) : Int64 := if y < x then y else x
def lmax (x y : Int64) : Int64 := if y < x then x else y
def chkC {α : Type} (sp dp n : Int32) (n0 n1 : Nat) (e : Option α) : Option α := if sp < 0 then none else if dp < 0 then none else if n < 0 then none else if n0 < ix sp + ix n then none else if n1 < ix dp + ix n then none else e
def cpy (σ : Mem) (c0 c1 : Nat) (sp dp n : Int32) : Mem := sr σ c1 (va_cpy (σ.1 c0) (σ.1 c1) (ix sp) (ix dp) (ix n))
def tvI : Int32 → Option Value := fun r => some (.int r)
def tvL : Int64 → Option Value := fun r => some (.long r)
def tvV : Unit → Option Value := fun _ => none
def tvR (G : Gx) : Nat → Option Value := fun c => some (.ref (Ga G c))
/-- a field's link: the word of it, and the class it belongs to -/
def FA (own : String) (idx ci k : Nat) : Prop := ∃ (C : String) (T : u_T) (N : Nat), vwCl[ci]? = some (C, T, N) ∧ k < N ∧ (∀ w ∈ u_ws C T N, w ∈ tbG) ∧ (Cond.fieldLink own idx (T k).1 (T k).2.1 (T k).2.2.1 ∈ tbG ∨ ∃ host, Cond.fieldLinkNest own idx (T k).1 (T k).2.1 (T k).2.2.1 host ∈ lw_tbl)
/-- a field that may be written -/
def FP (fso : Fs) (ci k : Nat) (ty : FieldType) : Prop := ∃ (C : String) (T : u_T) (N : Nat) (ty0 : Nat → FieldType), vwCl[ci]? = some (C, T, N) ∧ (∀ k, k < N → parseFieldDescriptor (T k).2.2.1 = some (ty0 k)) ∧ (∀ a, a < N → ∀ b, b < N → a ≠ b → (T a).2.1 ≠ (T b).2.1) ∧ (T k).2.2.2 = false ∧ parseFieldDescriptor (T k).2.2.1 = some ty ∧ (∀ c ad f, (fso ci c ad f).length = N)
/-- a static method's link, an instance method's -/
def MS (own : String) (idx : Nat) (y : MethodName) (cd : ByteArray) (nL : Nat) (rt : Option FieldType) (n : Nat) : Prop := (Cond.code y cd nL rt ∈ tbG ∧ Cond.initialized y.cls ∈ tbG ∧ (y.cls ≠ "java/lang/invoke/MethodHandle" ∧ y.cls ≠ "java/lang/invoke/VarHandle" ∧ (parseMethodDescriptor y.desc).map (fun d => d.parameters.length) = some n)) ∧ Cond.static y ∈ tbG ∧ (Cond.methodLink own idx y ∈ tbG ∨ ∃ host, Cond.methodLinkNest own idx y host ∈ lw_tbl)
def MV (own : String) (idx : Nat) (y : MethodName) (cd : ByteArray) (nL : Nat) (rt : Option FieldType) (n : Nat) (ci : Nat) : Prop := (Cond.code y cd nL rt ∈ tbG ∧ Cond.initialized y.cls ∈ tbG ∧ (y.cls ≠ "java/lang/invoke/MethodHandle" ∧ y.cls ≠ "java/lang/invoke/VarHandle" ∧ (parseMethodDescriptor y.desc).map (fun d => d.parameters.length) = some n)) ∧ Cond.instanceMethod y ∈ tbG ∧ Cond.selects y.cls y y ∈ tbG ∧ (∃ (T : u_T) (N : Nat), vwCl[ci]? = some (y.cls, T, N)) ∧ (Cond.methodLink own idx y ∈ tbG ∨ ∃ host, Cond.methodLinkNest own idx y host ∈ lw_tbl)
section Rows
variable {G : Gx} {lay : List (Nat × Nat)} {fso : Fs} {own : String} {cd : ByteArray} {nL : Nat} {rt : Option FieldType} {d : Nat} {R : Type} {tv : R → Option Value} {P : Option (R × Mem) → Nat → List (Nat × Value) → List Value → Mem → Prop} {ex : Option (R × Mem)} {pc : Nat} {lv : List (Nat × Value)} {st : List Value} {σ : Mem}
theorem jx_none (h : Jk G lay fso own cd nL rt d tv P) : P none pc lv st σ := by
  obtain ⟨p, e, s, m, args, below, meth, cq, hx, hb, hml, hr, hlk, hown, ⟨_, hts⟩, hK, hX, hG, hI, rfl⟩ := h
  intro r σ' he
  cases he
theorem jx_lt {α : Type} {a : α} {f : α → Option (R × Mem)} {L : α → List (Nat × Value)} {S : α → List Value} (k : ∀ x, P (f x) pc (L x) (S x) σ) : P (lt a f) pc (L a) (S a) σ := k a
theorem jx_lti {a : Int32} {f : Int32 → Option (R × Mem)} (k : ∀ x, P (f x) pc lv (.int x :: st) σ) : P (lt a f) pc lv (.int a :: st) σ := k a
theorem jx_ltl {a : Int64} {f : Int64 → Option (R × Mem)} (k : ∀ x, P (f x) pc lv (.long x :: st) σ) : P (lt a f) pc lv (.long a :: st) σ := k a
theorem jx_ltr {a : Nat} {f : Nat → Option (R × Mem)} (k : ∀ x, P (f x) pc lv (.ref (Ga G x) :: st) σ) : P (lt a f) pc lv (.ref (Ga G a) :: st) σ := k a
theorem jx_ckc {b : Bool} (h : Jk G lay fso own cd nL rt d tv P) (k : b = true → P ex pc lv st σ) : P (ckc b ex) pc lv st σ := by
  cases b with
  | false => exact jx_none h
  | true => exact k rfl
theorem jx_sub {ls' : List (Nat × Value)} (ks : List Nat) (h : Jk G lay fso own cd nL rt d tv P) (hl' : lv_pick lv ks = ls') (k : P ex pc ls' st σ) : P ex pc lv st σ := by
  obtain ⟨p, e, s, m, args, below, meth, cq, hx, hb, hml, hr, hlk, hown, ⟨_, hts⟩, hK, hX, hG, hI, rfl⟩ := h
  intro r σ' he H locs ls hW hS hl
  exact k r σ' he H locs ls hW hS (lv_sub hl ks hl')

theorem jx_iload_n {j : Fin 4} {i : Nat} {x : Int32} (h : Jk G lay fso own cd nL rt d tv P) (hd : decode cd pc = .ok (.iload_n j, 1)) (hi : (j : Nat) = i) (q : Nat) (hv : lv[q]? = some (i, .int x)) (k : P ex (pc + 1) lv (.int x :: st) σ) : P ex pc lv (st) σ := by
  obtain ⟨p, e, s, m, args, below, meth, cq, hx, hb, hml, hr, hlk, hown, ⟨_, hts⟩, hK, hX, hG, hI, rfl⟩ := h
  intro r σ' he H locs ls hW hS hl
  exact lv_iload_n hx hb hd hi (lv_at hl q hv) (k r σ' he H locs ls hW hS hl)
theorem jx_iload {i : Nat} {x : Int32} (h : Jk G lay fso own cd nL rt d tv P) (hd : decode cd pc = .ok (.iload i, 2)) (q : Nat) (hv : lv[q]? = some (i, .int x)) (k : P ex (pc + 2) lv (.int x :: st) σ) : P ex pc lv (st) σ := by
  obtain ⟨p, e, s, m, args, below, meth, cq, hx, hb, hml, hr, hlk, hown, ⟨_, hts⟩, hK, hX, hG, hI, rfl⟩ := h
  intro r σ' he H locs ls hW hS hl
  exact lv_iload hx hb hd (lv_at hl q hv) (k r σ' he H locs ls hW hS hl)
theorem jx_lload_n {j : Fin 4} {i : Nat} {x : Int64} (h : Jk G lay fso own cd nL rt d tv P) (hd : decode cd pc = .ok (.lload_n j, 1)) (hi : (j : Nat) = i) (q : Nat) (hv : lv[q]? = some (i, .long x)) (k : P ex (pc + 1) lv (.long x :: st) σ) : P ex pc lv (st) σ := by
  obtain ⟨p, e, s, m, args, below, meth, cq, hx, hb, hml, hr, hlk, hown, ⟨_, hts⟩, hK, hX, hG, hI, rfl⟩ := h
  intro r σ' he H locs ls hW hS hl
  exact lv_lload_n hx hb hd hi (lv_at hl q hv) (k r σ' he H locs ls hW hS hl)
theorem jx_lload {i : Nat} {x : Int64} (h : Jk G lay fso own cd nL rt d tv P) (hd : decode cd pc = .ok (.lload i, 2)) (q : Nat) (hv : lv[q]? = some (i, .long x)) (k : P ex (pc + 2) lv (.long x :: st) σ) : P ex pc lv (st) σ := by
  obtain ⟨p, e, s, m, args, below, meth, cq, hx, hb, hml, hr, hlk, hown, ⟨_, hts⟩, hK, hX, hG, hI, rfl⟩ := h
  intro r σ' he H locs ls hW hS hl
  exact lv_lload hx hb hd (lv_at hl q hv) (k r σ' he H locs ls hW hS hl)
theorem jx_aload_n {j : Fin 4} {i : Nat} {x : Nat} (h : Jk G lay fso own cd nL rt d tv P) (hd : decode cd pc = .ok (.aload_n j, 1)) (hi : (j : Nat) = i) (q : Nat) (hv : lv[q]? = some (i, .ref x)) (k : P ex (pc + 1) lv (.ref x :: st) σ) : P ex pc lv (st) σ := by
  obtain ⟨p, e, s, m, args, below, meth, cq, hx, hb, hml, hr, hlk, hown, ⟨_, hts⟩, hK, hX, hG, hI, rfl⟩ := h
  intro r σ' he H locs ls hW hS hl
  exact lv_aload_n hx hb hd hi (lv_at hl q hv) (k r σ' he H locs ls hW hS hl)
theorem jx_aload {i : Nat} {x : Nat} (h : Jk G lay fso own cd nL rt d tv P) (hd : decode cd pc = .ok (.aload i, 2)) (q : Nat) (hv : lv[q]? = some (i, .ref x)) (k : P ex (pc + 2) lv (.ref x :: st) σ) : P ex pc lv (st) σ := by
  obtain ⟨p, e, s, m, args, below, meth, cq, hx, hb, hml, hr, hlk, hown, ⟨_, hts⟩, hK, hX, hG, hI, rfl⟩ := h
  intro r σ' he H locs ls hW hS hl
  exact lv_aload hx hb hd (lv_at hl q hv) (k r σ' he H locs ls hW hS hl)
theorem jx_iconst {n : Int} {v : Int32} (h : Jk G lay fso own cd nL rt d tv P) (hd : decode cd pc = .ok (.iconst n, 1)) (hv : Int32.ofInt n = v) (k : P ex (pc + 1) lv (.int v :: st) σ) : P ex pc lv (st) σ := by
  obtain ⟨p, e, s, m, args, below, meth, cq, hx, hb, hml, hr, hlk, hown, ⟨_, hts⟩, hK, hX, hG, hI, rfl⟩ := h
  intro r σ' he H locs ls hW hS hl
  exact lv_iconst hx hb hd hv (k r σ' he H locs ls hW hS hl)
theorem jx_bipush {n : Int} {v : Int32} (h : Jk G lay fso own cd nL rt d tv P) (hd : decode cd pc = .ok (.bipush n, 2)) (hv : (Int8.ofInt n).toInt32 = v) (k : P ex (pc + 2) lv (.int v :: st) σ) : P ex pc lv (st) σ := by
  obtain ⟨p, e, s, m, args, below, meth, cq, hx, hb, hml, hr, hlk, hown, ⟨_, hts⟩, hK, hX, hG, hI, rfl⟩ := h
  intro r σ' he H locs ls hW hS hl
  exact lv_bipush hx hb hd hv (k r σ' he H locs ls hW hS hl)
theorem jx_sipush {n : Int} {v : Int32} (h : Jk G lay fso own cd nL rt d tv P) (hd : decode cd pc = .ok (.sipush n, 3)) (hv : (Int16.ofInt n).toInt32 = v) (k : P ex (pc + 3) lv (.int v :: st) σ) : P ex pc lv (st) σ := by
  obtain ⟨p, e, s, m, args, below, meth, cq, hx, hb, hml, hr, hlk, hown, ⟨_, hts⟩, hK, hX, hG, hI, rfl⟩ := h
  intro r σ' he H locs ls hW hS hl
  exact lv_sipush hx hb hd hv (k r σ' he H locs ls hW hS hl)
theorem jx_lconst {n : Fin 2} {v : Int64} (h : Jk G lay fso own cd nL rt d tv P) (hd : decode cd pc = .ok (.lconst n, 1)) (hv : Int64.ofNat (n : Nat) = v) (k : P ex (pc + 1) lv (.long v :: st) σ) : P ex pc lv (st) σ := by
  obtain ⟨p, e, s, m, args, below, meth, cq, hx, hb, hml, hr, hlk, hown, ⟨_, hts⟩, hK, hX, hG, hI, rfl⟩ := h
  intro r σ' he H locs ls hW hS hl
  exact lv_lconst hx hb hd hv (k r σ' he H locs ls hW hS hl)
theorem jx_ldc {i : Nat} {v : Int32} (h : Jk G lay fso own cd nL rt d tv P) (hd : decode cd pc = .ok (.ldc i, 2)) (hc : Cond.constant own i v ∈ tbG) (k : P ex (pc + 2) lv (.int v :: st) σ) : P ex pc lv (st) σ := by
  obtain ⟨p, e, s, m, args, below, meth, cq, hx, hb, hml, hr, hlk, hown, ⟨_, hts⟩, hK, hX, hG, hI, rfl⟩ := h
  intro r σ' he H locs ls hW hS hl
  exact lv_ldc hx hb hown (hts _ (List.mem_cons_of_mem _ hc)) hd (k r σ' he H locs ls hW hS hl)
theorem jx_ldcw {i : Nat} {v : Int32} (h : Jk G lay fso own cd nL rt d tv P) (hd : decode cd pc = .ok (.ldc_w i, 3)) (hc : Cond.constant own i v ∈ tbG) (k : P ex (pc + 3) lv (.int v :: st) σ) : P ex pc lv (st) σ := by
  obtain ⟨p, e, s, m, args, below, meth, cq, hx, hb, hml, hr, hlk, hown, ⟨_, hts⟩, hK, hX, hG, hI, rfl⟩ := h
  intro r σ' he H locs ls hW hS hl
  exact lv_ldcw hx hb hown (hts _ (List.mem_cons_of_mem _ hc)) hd (k r σ' he H locs ls hW hS hl)
theorem jx_ldc2 {i : Nat} {v : Int64} (h : Jk G lay fso own cd nL rt d tv P) (hd : decode cd pc = .ok (.ldc2_w i, 3)) (hc : Cond.constantLong own i v ∈ tbG) (k : P ex (pc + 3) lv (.long v :: st) σ) : P ex pc lv (st) σ := by
  obtain ⟨p, e, s, m, args, below, meth, cq, hx, hb, hml, hr, hlk, hown, ⟨_, hts⟩, hK, hX, hG, hI, rfl⟩ := h
  intro r σ' he H locs ls hW hS hl
  exact lv_ldc2 hx hb hown (hts _ (List.mem_cons_of_mem _ hc)) hd (k r σ' he H locs ls hW hS hl)
theorem jx_iadd {x y : Int32} (h : Jk G lay fso own cd nL rt d tv P) (hd : decode cd pc = .ok (.iadd, 1)) (k : P ex (pc + 1) lv (.int (x + y) :: st) σ) : P ex pc lv (.int y :: .int x :: st) σ := by
  obtain ⟨p, e, s, m, args, below, meth, cq, hx, hb, hml, hr, hlk, hown, ⟨_, hts⟩, hK, hX, hG, hI, rfl⟩ := h
  intro r σ' he H locs ls hW hS hl
  exact lv_iadd hx hb hd (k r σ' he H locs ls hW hS hl)
theorem jx_isub {x y : Int32} (h : Jk G lay fso own cd nL rt d tv P) (hd : decode cd pc = .ok (.isub, 1)) (k : P ex (pc + 1) lv (.int (x - y) :: st) σ) : P ex pc lv (.int y :: .int x :: st) σ := by
  obtain ⟨p, e, s, m, args, below, meth, cq, hx, hb, hml, hr, hlk, hown, ⟨_, hts⟩, hK, hX, hG, hI, rfl⟩ := h
  intro r σ' he H locs ls hW hS hl
  exact lv_isub hx hb hd (k r σ' he H locs ls hW hS hl)
theorem jx_imul {x y : Int32} (h : Jk G lay fso own cd nL rt d tv P) (hd : decode cd pc = .ok (.imul, 1)) (k : P ex (pc + 1) lv (.int (x * y) :: st) σ) : P ex pc lv (.int y :: .int x :: st) σ := by
  obtain ⟨p, e, s, m, args, below, meth, cq, hx, hb, hml, hr, hlk, hown, ⟨_, hts⟩, hK, hX, hG, hI, rfl⟩ := h
  intro r σ' he H locs ls hW hS hl
  exact lv_imul hx hb hd (k r σ' he H locs ls hW hS hl)
theorem jx_iand {x y : Int32} (h : Jk G lay fso own cd nL rt d tv P) (hd : decode cd pc = .ok (.iand, 1)) (k : P ex (pc + 1) lv (.int (x &&& y) :: st) σ) : P ex pc lv (.int y :: .int x :: st) σ := by
  obtain ⟨p, e, s, m, args, below, meth, cq, hx, hb, hml, hr, hlk, hown, ⟨_, hts⟩, hK, hX, hG, hI, rfl⟩ := h
  intro r σ' he H locs ls hW hS hl
  exact lv_iand hx hb hd (k r σ' he H locs ls hW hS hl)
theorem jx_ior {x y : Int32} (h : Jk G lay fso own cd nL rt d tv P) (hd : decode cd pc = .ok (.ior, 1)) (k : P ex (pc + 1) lv (.int (x ||| y) :: st) σ) : P ex pc lv (.int y :: .int x :: st) σ := by
  obtain ⟨p, e, s, m, args, below, meth, cq, hx, hb, hml, hr, hlk, hown, ⟨_, hts⟩, hK, hX, hG, hI, rfl⟩ := h
  intro r σ' he H locs ls hW hS hl
  exact lv_ior hx hb hd (k r σ' he H locs ls hW hS hl)
theorem jx_ixor {x y : Int32} (h : Jk G lay fso own cd nL rt d tv P) (hd : decode cd pc = .ok (.ixor, 1)) (k : P ex (pc + 1) lv (.int (x ^^^ y) :: st) σ) : P ex pc lv (.int y :: .int x :: st) σ := by
  obtain ⟨p, e, s, m, args, below, meth, cq, hx, hb, hml, hr, hlk, hown, ⟨_, hts⟩, hK, hX, hG, hI, rfl⟩ := h
  intro r σ' he H locs ls hW hS hl
  exact lv_ixor hx hb hd (k r σ' he H locs ls hW hS hl)
theorem jx_ishl {x y : Int32} (h : Jk G lay fso own cd nL rt d tv P) (hd : decode cd pc = .ok (.ishl, 1)) (k : P ex (pc + 1) lv (.int (x <<< (y &&& 31)) :: st) σ) : P ex pc lv (.int y :: .int x :: st) σ := by
  obtain ⟨p, e, s, m, args, below, meth, cq, hx, hb, hml, hr, hlk, hown, ⟨_, hts⟩, hK, hX, hG, hI, rfl⟩ := h
  intro r σ' he H locs ls hW hS hl
  exact lv_ishl hx hb hd (k r σ' he H locs ls hW hS hl)
theorem jx_ishr {x y : Int32} (h : Jk G lay fso own cd nL rt d tv P) (hd : decode cd pc = .ok (.ishr, 1)) (k : P ex (pc + 1) lv (.int (x >>> (y &&& 31)) :: st) σ) : P ex pc lv (.int y :: .int x :: st) σ := by
  obtain ⟨p, e, s, m, args, below, meth, cq, hx, hb, hml, hr, hlk, hown, ⟨_, hts⟩, hK, hX, hG, hI, rfl⟩ := h
  intro r σ' he H locs ls hW hS hl
  exact lv_ishr hx hb hd (k r σ' he H locs ls hW hS hl)
theorem jx_iushr {x y : Int32} (h : Jk G lay fso own cd nL rt d tv P) (hd : decode cd pc = .ok (.iushr, 1)) (k : P ex (pc + 1) lv (.int (x.toUInt32 >>> (y.toUInt32 &&& Int32.toUInt32 31)).toInt32 :: st) σ) : P ex pc lv (.int y :: .int x :: st) σ := by
  obtain ⟨p, e, s, m, args, below, meth, cq, hx, hb, hml, hr, hlk, hown, ⟨_, hts⟩, hK, hX, hG, hI, rfl⟩ := h
  intro r σ' he H locs ls hW hS hl
  exact lv_iushr hx hb hd rfl (k r σ' he H locs ls hW hS hl)
theorem jx_ineg {x : Int32} (h : Jk G lay fso own cd nL rt d tv P) (hd : decode cd pc = .ok (.ineg, 1)) (k : P ex (pc + 1) lv (.int (-x) :: st) σ) : P ex pc lv (.int x :: st) σ := by
  obtain ⟨p, e, s, m, args, below, meth, cq, hx, hb, hml, hr, hlk, hown, ⟨_, hts⟩, hK, hX, hG, hI, rfl⟩ := h
  intro r σ' he H locs ls hW hS hl
  exact lv_ineg hx hb hd (k r σ' he H locs ls hW hS hl)
theorem jx_ladd {x y : Int64} (h : Jk G lay fso own cd nL rt d tv P) (hd : decode cd pc = .ok (.ladd, 1)) (k : P ex (pc + 1) lv (.long (x + y) :: st) σ) : P ex pc lv (.long y :: .long x :: st) σ := by
  obtain ⟨p, e, s, m, args, below, meth, cq, hx, hb, hml, hr, hlk, hown, ⟨_, hts⟩, hK, hX, hG, hI, rfl⟩ := h
  intro r σ' he H locs ls hW hS hl
  exact lv_ladd hx hb hd (k r σ' he H locs ls hW hS hl)
theorem jx_lsub {x y : Int64} (h : Jk G lay fso own cd nL rt d tv P) (hd : decode cd pc = .ok (.lsub, 1)) (k : P ex (pc + 1) lv (.long (x - y) :: st) σ) : P ex pc lv (.long y :: .long x :: st) σ := by
  obtain ⟨p, e, s, m, args, below, meth, cq, hx, hb, hml, hr, hlk, hown, ⟨_, hts⟩, hK, hX, hG, hI, rfl⟩ := h
  intro r σ' he H locs ls hW hS hl
  exact lv_lsub hx hb hd (k r σ' he H locs ls hW hS hl)
theorem jx_lmul {x y : Int64} (h : Jk G lay fso own cd nL rt d tv P) (hd : decode cd pc = .ok (.lmul, 1)) (k : P ex (pc + 1) lv (.long (x * y) :: st) σ) : P ex pc lv (.long y :: .long x :: st) σ := by
  obtain ⟨p, e, s, m, args, below, meth, cq, hx, hb, hml, hr, hlk, hown, ⟨_, hts⟩, hK, hX, hG, hI, rfl⟩ := h
  intro r σ' he H locs ls hW hS hl
  exact lv_lmul hx hb hd (k r σ' he H locs ls hW hS hl)
theorem jx_lcmp {x y : Int64} (h : Jk G lay fso own cd nL rt d tv P) (hd : decode cd pc = .ok (.lcmp, 1)) (k : P ex (pc + 1) lv (.int (lg_cmp x y) :: st) σ) : P ex pc lv (.long y :: .long x :: st) σ := by
  obtain ⟨p, e, s, m, args, below, meth, cq, hx, hb, hml, hr, hlk, hown, ⟨_, hts⟩, hK, hX, hG, hI, rfl⟩ := h
  intro r σ' he H locs ls hW hS hl
  exact W.lcmp hx hb hd (k r σ' he H locs ls hW hS hl)
theorem jx_i2l {x : Int32} (h : Jk G lay fso own cd nL rt d tv P) (hd : decode cd pc = .ok (.i2l, 1)) (k : P ex (pc + 1) lv (.long x.toInt64 :: st) σ) : P ex pc lv (.int x :: st) σ := by
  obtain ⟨p, e, s, m, args, below, meth, cq, hx, hb, hml, hr, hlk, hown, ⟨_, hts⟩, hK, hX, hG, hI, rfl⟩ := h
  intro r σ' he H locs ls hW hS hl
  exact lv_i2l hx hb hd rfl (k r σ' he H locs ls hW hS hl)
theorem jx_l2i {x : Int64} (h : Jk G lay fso own cd nL rt d tv P) (hd : decode cd pc = .ok (.l2i, 1)) (k : P ex (pc + 1) lv (.int x.toInt32 :: st) σ) : P ex pc lv (.long x :: st) σ := by
  obtain ⟨p, e, s, m, args, below, meth, cq, hx, hb, hml, hr, hlk, hown, ⟨_, hts⟩, hK, hX, hG, hI, rfl⟩ := h
  intro r σ' he H locs ls hW hS hl
  exact lv_l2i hx hb hd rfl (k r σ' he H locs ls hW hS hl)
theorem jx_i2b {x : Int32} (h : Jk G lay fso own cd nL rt d tv P) (hd : decode cd pc = .ok (.i2b, 1)) (k : P ex (pc + 1) lv (.int x.toInt8.toInt32 :: st) σ) : P ex pc lv (.int x :: st) σ := by
  obtain ⟨p, e, s, m, args, below, meth, cq, hx, hb, hml, hr, hlk, hown, ⟨_, hts⟩, hK, hX, hG, hI, rfl⟩ := h
  intro r σ' he H locs ls hW hS hl
  exact lv_i2b hx hb hd rfl (k r σ' he H locs ls hW hS hl)
theorem jx_i2c {x : Int32} (h : Jk G lay fso own cd nL rt d tv P) (hd : decode cd pc = .ok (.i2c, 1)) (k : P ex (pc + 1) lv (.int (x.toUInt32 % 65536).toInt32 :: st) σ) : P ex pc lv (.int x :: st) σ := by
  obtain ⟨p, e, s, m, args, below, meth, cq, hx, hb, hml, hr, hlk, hown, ⟨_, hts⟩, hK, hX, hG, hI, rfl⟩ := h
  intro r σ' he H locs ls hW hS hl
  exact lv_i2c hx hb hd rfl (k r σ' he H locs ls hW hS hl)
theorem jx_dup {v : Value} (h : Jk G lay fso own cd nL rt d tv P) (hd : decode cd pc = .ok (.dup, 1)) (hv : v.category = 1) (k : P ex (pc + 1) lv (v :: v :: st) σ) : P ex pc lv (v :: st) σ := by
  obtain ⟨p, e, s, m, args, below, meth, cq, hx, hb, hml, hr, hlk, hown, ⟨_, hts⟩, hK, hX, hG, hI, rfl⟩ := h
  intro r σ' he H locs ls hW hS hl
  exact lv_dup hx hb hd hv (k r σ' he H locs ls hW hS hl)
theorem jx_pop {v : Value} (h : Jk G lay fso own cd nL rt d tv P) (hd : decode cd pc = .ok (.pop, 1)) (hv : v.category = 1) (k : P ex (pc + 1) lv (st) σ) : P ex pc lv (v :: st) σ := by
  obtain ⟨p, e, s, m, args, below, meth, cq, hx, hb, hml, hr, hlk, hown, ⟨_, hts⟩, hK, hX, hG, hI, rfl⟩ := h
  intro r σ' he H locs ls hW hS hl
  exact lv_pop hx hb hd hv (k r σ' he H locs ls hW hS hl)
theorem jx_dup2 {v w : Value} (h : Jk G lay fso own cd nL rt d tv P) (hd : decode cd pc = .ok (.dup2, 1)) (hv : v.category = 1) (hw : w.category = 1) (k : P ex (pc + 1) lv (v :: w :: v :: w :: st) σ) : P ex pc lv (v :: w :: st) σ := by
  obtain ⟨p, e, s, m, args, below, meth, cq, hx, hb, hml, hr, hlk, hown, ⟨_, hts⟩, hK, hX, hG, hI, rfl⟩ := h
  intro r σ' he H locs ls hW hS hl
  exact lv_dup2_11 hx hb hd hv hw (k r σ' he H locs ls hW hS hl)
theorem jx_idiv {x y : Int32} (h : Jk G lay fso own cd nL rt d tv P) (hd : decode cd pc = .ok (.idiv, 1)) (k : P ex (pc + 1) lv (.int (x / y) :: st) σ) : P (ckd y ex) pc lv (.int y :: .int x :: st) σ := by
  obtain ⟨p, e, s, m, args, below, meth, cq, hx, hb, hml, hr, hlk, hown, ⟨_, hts⟩, hK, hX, hG, hI, rfl⟩ := h
  intro r σ' he H locs ls hW hS hl
  unfold ckd at he
  by_cases hy : y = 0
  · rw [if_pos hy] at he; cases he
  · rw [if_neg hy] at he
    exact lv_idiv hx hb hd hy (k r σ' he H locs ls hW hS hl)
theorem jx_idivc {x y : Int32} (h : Jk G lay fso own cd nL rt d tv P) (hy : ¬ y = 0) (hd : decode cd pc = .ok (.idiv, 1)) (k : P ex (pc + 1) lv (.int (x / y) :: st) σ) : P ex pc lv (.int y :: .int x :: st) σ := by
  obtain ⟨p, e, s, m, args, below, meth, cq, hx, hb, hml, hr, hlk, hown, ⟨_, hts⟩, hK, hX, hG, hI, rfl⟩ := h
  intro r σ' he H locs ls hW hS hl
  exact lv_idiv hx hb hd hy (k r σ' he H locs ls hW hS hl)
theorem jx_irem {x y : Int32} (h : Jk G lay fso own cd nL rt d tv P) (hd : decode cd pc = .ok (.irem, 1)) (k : P ex (pc + 1) lv (.int (x - x / y * y) :: st) σ) : P (ckd y ex) pc lv (.int y :: .int x :: st) σ := by
  obtain ⟨p, e, s, m, args, below, meth, cq, hx, hb, hml, hr, hlk, hown, ⟨_, hts⟩, hK, hX, hG, hI, rfl⟩ := h
  intro r σ' he H locs ls hW hS hl
  unfold ckd at he
  by_cases hy : y = 0
  · rw [if_pos hy] at he; cases he
  · rw [if_neg hy] at he
    exact lv_irem hx hb hd hy (k r σ' he H locs ls hW hS hl)
theorem jx_iremc {x y : Int32} (h : Jk G lay fso own cd nL rt d tv P) (hy : ¬ y = 0) (hd : decode cd pc = .ok (.irem, 1)) (k : P ex (pc + 1) lv (.int (x - x / y * y) :: st) σ) : P ex pc lv (.int y :: .int x :: st) σ := by
  obtain ⟨p, e, s, m, args, below, meth, cq, hx, hb, hml, hr, hlk, hown, ⟨_, hts⟩, hK, hX, hG, hI, rfl⟩ := h
  intro r σ' he H locs ls hW hS hl
  exact lv_irem hx hb hd hy (k r σ' he H locs ls hW hS hl)
theorem jx_ldiv {x y : Int64} (h : Jk G lay fso own cd nL rt d tv P) (hd : decode cd pc = .ok (.ldiv, 1)) (k : P ex (pc + 1) lv (.long (x / y) :: st) σ) : P (ckl y ex) pc lv (.long y :: .long x :: st) σ := by
  obtain ⟨p, e, s, m, args, below, meth, cq, hx, hb, hml, hr, hlk, hown, ⟨_, hts⟩, hK, hX, hG, hI, rfl⟩ := h
  intro r σ' he H locs ls hW hS hl
  unfold ckl at he
  by_cases hy : y = 0
  · rw [if_pos hy] at he; cases he
  · rw [if_neg hy] at he
    exact lv_ldiv hx hb hd hy (k r σ' he H locs ls hW hS hl)
theorem jx_ldivc {x y : Int64} (h : Jk G lay fso own cd nL rt d tv P) (hy : ¬ y = 0) (hd : decode cd pc = .ok (.ldiv, 1)) (k : P ex (pc + 1) lv (.long (x / y) :: st) σ) : P ex pc lv (.long y :: .long x :: st) σ := by
  obtain ⟨p, e, s, m, args, below, meth, cq, hx, hb, hml, hr, hlk, hown, ⟨_, hts⟩, hK, hX, hG, hI, rfl⟩ := h
  intro r σ' he H locs ls hW hS hl
  exact lv_ldiv hx hb hd hy (k r σ' he H locs ls hW hS hl)
theorem jx_lrem {x y : Int64} (h : Jk G lay fso own cd nL rt d tv P) (hd : decode cd pc = .ok (.lrem, 1)) (k : P ex (pc + 1) lv (.long (x - x / y * y) :: st) σ) : P (ckl y ex) pc lv (.long y :: .long x :: st) σ := by
  obtain ⟨p, e, s, m, args, below, meth, cq, hx, hb, hml, hr, hlk, hown, ⟨_, hts⟩, hK, hX, hG, hI, rfl⟩ := h
  intro r σ' he H locs ls hW hS hl
  unfold ckl at he
  by_cases hy : y = 0
  · rw [if_pos hy] at he; cases he
  · rw [if_neg hy] at he
    exact lv_lrem hx hb hd hy (k r σ' he H locs ls hW hS hl)
theorem jx_lremc {x y : Int64} (h : Jk G lay fso own cd nL rt d tv P) (hy : ¬ y = 0) (hd : decode cd pc = .ok (.lrem, 1)) (k : P ex (pc + 1) lv (.long (x - x / y * y) :: st) σ) : P ex pc lv (.long y :: .long x :: st) σ := by
  obtain ⟨p, e, s, m, args, below, meth, cq, hx, hb, hml, hr, hlk, hown, ⟨_, hts⟩, hK, hX, hG, hI, rfl⟩ := h
  intro r σ' he H locs ls hW hS hl
  exact lv_lrem hx hb hd hy (k r σ' he H locs ls hW hS hl)
theorem jx_istore_n {j : Fin 4} {i : Nat} {x : Int32} {lv' : List (Nat × Value)} (h : Jk G lay fso own cd nL rt d tv P) (hd : decode cd pc = .ok (.istore_n j, 1)) (hi : (j : Nat) = i) (hn : i < nL) (hf : (i, Value.int x) :: lv.filter (fun q => !(q.1 == i) && !(q.1 + 1 == i && q.2.category == 2)) = lv') (k : P ex (pc + 1) lv' st σ) : P ex pc lv (.int x :: st) σ := by
  obtain ⟨p, e, s, m, args, below, meth, cq, hx, hb, hml, hr, hlk, hown, ⟨_, hts⟩, hK, hX, hG, hI, rfl⟩ := h
  intro r σ' he H locs ls hW hS hl
  exact lv_istore_n hx hb hd hi hl hn hf (fun ls hl => k r σ' he H locs ls hW hS hl)
theorem jx_istore {i : Nat} {x : Int32} {lv' : List (Nat × Value)} (h : Jk G lay fso own cd nL rt d tv P) (hd : decode cd pc = .ok (.istore i, 2)) (hn : i < nL) (hf : (i, Value.int x) :: lv.filter (fun q => !(q.1 == i) && !(q.1 + 1 == i && q.2.category == 2)) = lv') (k : P ex (pc + 2) lv' st σ) : P ex pc lv (.int x :: st) σ := by
  obtain ⟨p, e, s, m, args, below, meth, cq, hx, hb, hml, hr, hlk, hown, ⟨_, hts⟩, hK, hX, hG, hI, rfl⟩ := h
  intro r σ' he H locs ls hW hS hl
  exact lv_istore hx hb hd hl hn hf (fun ls hl => k r σ' he H locs ls hW hS hl)
theorem jx_astore_n {j : Fin 4} {i : Nat} {x : Nat} {lv' : List (Nat × Value)} (h : Jk G lay fso own cd nL rt d tv P) (hd : decode cd pc = .ok (.astore_n j, 1)) (hi : (j : Nat) = i) (hn : i < nL) (hf : (i, Value.ref x) :: lv.filter (fun q => !(q.1 == i) && !(q.1 + 1 == i && q.2.category == 2)) = lv') (k : P ex (pc + 1) lv' st σ) : P ex pc lv (.ref x :: st) σ := by
  obtain ⟨p, e, s, m, args, below, meth, cq, hx, hb, hml, hr, hlk, hown, ⟨_, hts⟩, hK, hX, hG, hI, rfl⟩ := h
  intro r σ' he H locs ls hW hS hl
  exact lv_astore_n hx hb hd hi hl hn hf (fun ls hl => k r σ' he H locs ls hW hS hl)
theorem jx_astore {i : Nat} {x : Nat} {lv' : List (Nat × Value)} (h : Jk G lay fso own cd nL rt d tv P) (hd : decode cd pc = .ok (.astore i, 2)) (hn : i < nL) (hf : (i, Value.ref x) :: lv.filter (fun q => !(q.1 == i) && !(q.1 + 1 == i && q.2.category == 2)) = lv') (k : P ex (pc + 2) lv' st σ) : P ex pc lv (.ref x :: st) σ := by
  obtain ⟨p, e, s, m, args, below, meth, cq, hx, hb, hml, hr, hlk, hown, ⟨_, hts⟩, hK, hX, hG, hI, rfl⟩ := h
  intro r σ' he H locs ls hW hS hl
  exact lv_astore hx hb hd hl hn hf (fun ls hl => k r σ' he H locs ls hW hS hl)
theorem jx_lstore {i : Nat} {x : Int64} {lv' : List (Nat × Value)} (h : Jk G lay fso own cd nL rt d tv P) (hd : decode cd pc = .ok (.lstore i, 2)) (hn : i + 1 < nL) (hf : (i, Value.long x) :: lv.filter (fun q => !(q.1 == i) && (!(q.1 == i + 1) && !(q.1 + 1 == i && q.2.category == 2))) = lv') (k : P ex (pc + 2) lv' st σ) : P ex pc lv (.long x :: st) σ := by
  obtain ⟨p, e, s, m, args, below, meth, cq, hx, hb, hml, hr, hlk, hown, ⟨_, hts⟩, hK, hX, hG, hI, rfl⟩ := h
  intro r σ' he H locs ls hW hS hl
  exact lv_lstore hx hb hd hl hn hf (fun ls hl => k r σ' he H locs ls hW hS hl)
theorem jx_iinc {i : Nat} {n : Int} {x v : Int32} {lv' : List (Nat × Value)} (h : Jk G lay fso own cd nL rt d tv P) (hd : decode cd pc = .ok (.iinc i n, 3)) (q : Nat) (hk : lv[q]? = some (i, .int x)) (hv : x + Int32.ofInt n = v) (hn : i < nL) (hf : (i, Value.int v) :: lv.filter (fun q => !(q.1 == i) && !(q.1 + 1 == i && q.2.category == 2)) = lv') (k : P ex (pc + 3) lv' st σ) : P ex pc lv st σ := by
  obtain ⟨p, e, s, m, args, below, meth, cq, hx, hb, hml, hr, hlk, hown, ⟨_, hts⟩, hK, hX, hG, hI, rfl⟩ := h
  intro r σ' he H locs ls hW hS hl
  exact lv_iinc hx hb hd hl hk hv hn hf (fun ls hl => k r σ' he H locs ls hW hS hl)
theorem jx_iincl {i : Nat} {n : Int} {x v : Int32} {f : Int32 → Option (R × Mem)} {L : Int32 → List (Nat × Value)} (h : Jk G lay fso own cd nL rt d tv P) (hd : decode cd pc = .ok (.iinc i n, 3)) (q : Nat) (hk : lv[q]? = some (i, .int x)) (hv : x + Int32.ofInt n = v) (hn : i < nL) (hf : ∀ w, (i, Value.int w) :: lv.filter (fun q => !(q.1 == i) && !(q.1 + 1 == i && q.2.category == 2)) = L w) (k : ∀ w, P (f w) (pc + 3) (L w) st σ) : P (lt v f) pc lv st σ := jx_iinc h hd q hk hv hn (hf v) (k v)
theorem jx_goto {off : Int} {tgt : Nat} (h : Jk G lay fso own cd nL rt d tv P) (hd : decode cd pc = .ok (.goto off, 3)) (ht : (pc : Int) + off = (tgt : Int)) (k : P ex tgt lv st σ) : P ex pc lv st σ := by
  obtain ⟨p, e, s, m, args, below, meth, cq, hx, hb, hml, hr, hlk, hown, ⟨_, hts⟩, hK, hX, hG, hI, rfl⟩ := h
  intro r σ' he H locs ls hW hS hl
  exact lv_goto hx hb hd ht (k r σ' he H locs ls hW hS hl)
theorem jx_icmp_eq {x y : Int32} {inst : Decidable (x = y)} {a b : Option (R × Mem)} {off : Int} {tgt : Nat} (h : Jk G lay fso own cd nL rt d tv P) (hd : decode cd pc = .ok (.if_icmp .eq off, 3)) (ht : (pc : Int) + off = (tgt : Int)) (kt : P a tgt lv st σ) (kf : P b (pc + 3) lv st σ) : P (@ite _ (x = y) inst a b) pc lv (.int y :: .int x :: st) σ := by
  obtain ⟨p, e, s, m, args, below, meth, cq, hx, hb, hml, hr, hlk, hown, ⟨_, hts⟩, hK, hX, hG, hI, rfl⟩ := h
  intro r σ' he H locs ls hW hS hl
  exact lv_icmp_eq hx hb hd ht (fun q => kt r σ' (by rw [if_pos q] at he; exact he) H locs ls hW hS hl) (fun q => kf r σ' (by rw [if_neg q] at he; exact he) H locs ls hW hS hl)
theorem jx_if_eq {x : Int32} {inst : Decidable (x = 0)} {a b : Option (R × Mem)} {off : Int} {tgt : Nat} (h : Jk G lay fso own cd nL rt d tv P) (hd : decode cd pc = .ok (.ifCond .eq off, 3)) (ht : (pc : Int) + off = (tgt : Int)) (kt : P a tgt lv st σ) (kf : P b (pc + 3) lv st σ) : P (@ite _ (x = 0) inst a b) pc lv (.int x :: st) σ := by
  obtain ⟨p, e, s, m, args, below, meth, cq, hx, hb, hml, hr, hlk, hown, ⟨_, hts⟩, hK, hX, hG, hI, rfl⟩ := h
  intro r σ' he H locs ls hW hS hl
  exact lv_if_eq hx hb hd ht (fun q => kt r σ' (by rw [if_pos q] at he; exact he) H locs ls hW hS hl) (fun q => kf r σ' (by rw [if_neg q] at he; exact he) H locs ls hW hS hl)
theorem jx_icmp_ne {x y : Int32} {inst : Decidable (x = y)} {a b : Option (R × Mem)} {off : Int} {tgt : Nat} (h : Jk G lay fso own cd nL rt d tv P) (hd : decode cd pc = .ok (.if_icmp .ne off, 3)) (ht : (pc : Int) + off = (tgt : Int)) (kt : P a tgt lv st σ) (kf : P b (pc + 3) lv st σ) : P (@ite _ (x = y) inst b a) pc lv (.int y :: .int x :: st) σ := by
  obtain ⟨p, e, s, m, args, below, meth, cq, hx, hb, hml, hr, hlk, hown, ⟨_, hts⟩, hK, hX, hG, hI, rfl⟩ := h
  intro r σ' he H locs ls hW hS hl
  exact lv_icmp_ne hx hb hd ht (fun q => kt r σ' (by rw [if_neg q] at he; exact he) H locs ls hW hS hl) (fun q => kf r σ' (by rw [if_pos q] at he; exact he) H locs ls hW hS hl)
theorem jx_if_ne {x : Int32} {inst : Decidable (x = 0)} {a b : Option (R × Mem)} {off : Int} {tgt : Nat} (h : Jk G lay fso own cd nL rt d tv P) (hd : decode cd pc = .ok (.ifCond .ne off, 3)) (ht : (pc : Int) + off = (tgt : Int)) (kt : P a tgt lv st σ) (kf : P b (pc + 3) lv st σ) : P (@ite _ (x = 0) inst b a) pc lv (.int x :: st) σ := by
  obtain ⟨p, e, s, m, args, below, meth, cq, hx, hb, hml, hr, hlk, hown, ⟨_, hts⟩, hK, hX, hG, hI, rfl⟩ := h
  intro r σ' he H locs ls hW hS hl
  exact lv_if_ne hx hb hd ht (fun q => kt r σ' (by rw [if_neg q] at he; exact he) H locs ls hW hS hl) (fun q => kf r σ' (by rw [if_pos q] at he; exact he) H locs ls hW hS hl)
theorem jx_icmp_lt {x y : Int32} {inst : Decidable (x < y)} {a b : Option (R × Mem)} {off : Int} {tgt : Nat} (h : Jk G lay fso own cd nL rt d tv P) (hd : decode cd pc = .ok (.if_icmp .lt off, 3)) (ht : (pc : Int) + off = (tgt : Int)) (kt : P a tgt lv st σ) (kf : P b (pc + 3) lv st σ) : P (@ite _ (x < y) inst a b) pc lv (.int y :: .int x :: st) σ := by
  obtain ⟨p, e, s, m, args, below, meth, cq, hx, hb, hml, hr, hlk, hown, ⟨_, hts⟩, hK, hX, hG, hI, rfl⟩ := h
  intro r σ' he H locs ls hW hS hl
  exact lv_icmp_lt hx hb hd ht (fun q => kt r σ' (by rw [if_pos q] at he; exact he) H locs ls hW hS hl) (fun q => kf r σ' (by rw [if_neg q] at he; exact he) H locs ls hW hS hl)
theorem jx_if_lt {x : Int32} {inst : Decidable (x < 0)} {a b : Option (R × Mem)} {off : Int} {tgt : Nat} (h : Jk G lay fso own cd nL rt d tv P) (hd : decode cd pc = .ok (.ifCond .lt off, 3)) (ht : (pc : Int) + off = (tgt : Int)) (kt : P a tgt lv st σ) (kf : P b (pc + 3) lv st σ) : P (@ite _ (x < 0) inst a b) pc lv (.int x :: st) σ := by
  obtain ⟨p, e, s, m, args, below, meth, cq, hx, hb, hml, hr, hlk, hown, ⟨_, hts⟩, hK, hX, hG, hI, rfl⟩ := h
  intro r σ' he H locs ls hW hS hl
  exact lv_if_lt hx hb hd ht (fun q => kt r σ' (by rw [if_pos q] at he; exact he) H locs ls hW hS hl) (fun q => kf r σ' (by rw [if_neg q] at he; exact he) H locs ls hW hS hl)
theorem jx_icmp_ge {x y : Int32} {inst : Decidable (y ≤ x)} {a b : Option (R × Mem)} {off : Int} {tgt : Nat} (h : Jk G lay fso own cd nL rt d tv P) (hd : decode cd pc = .ok (.if_icmp .ge off, 3)) (ht : (pc : Int) + off = (tgt : Int)) (kt : P a tgt lv st σ) (kf : P b (pc + 3) lv st σ) : P (@ite _ (y ≤ x) inst a b) pc lv (.int y :: .int x :: st) σ := by
  obtain ⟨p, e, s, m, args, below, meth, cq, hx, hb, hml, hr, hlk, hown, ⟨_, hts⟩, hK, hX, hG, hI, rfl⟩ := h
  intro r σ' he H locs ls hW hS hl
  exact lv_icmp_ge hx hb hd ht (fun q => kt r σ' (by rw [if_pos q] at he; exact he) H locs ls hW hS hl) (fun q => kf r σ' (by rw [if_neg q] at he; exact he) H locs ls hW hS hl)
theorem jx_if_ge {x : Int32} {inst : Decidable (0 ≤ x)} {a b : Option (R × Mem)} {off : Int} {tgt : Nat} (h : Jk G lay fso own cd nL rt d tv P) (hd : decode cd pc = .ok (.ifCond .ge off, 3)) (ht : (pc : Int) + off = (tgt : Int)) (kt : P a tgt lv st σ) (kf : P b (pc + 3) lv st σ) : P (@ite _ (0 ≤ x) inst a b) pc lv (.int x :: st) σ := by
  obtain ⟨p, e, s, m, args, below, meth, cq, hx, hb, hml, hr, hlk, hown, ⟨_, hts⟩, hK, hX, hG, hI, rfl⟩ := h
  intro r σ' he H locs ls hW hS hl
  exact lv_if_ge hx hb hd ht (fun q => kt r σ' (by rw [if_pos q] at he; exact he) H locs ls hW hS hl) (fun q => kf r σ' (by rw [if_neg q] at he; exact he) H locs ls hW hS hl)
theorem jx_icmp_gt {x y : Int32} {inst : Decidable (y < x)} {a b : Option (R × Mem)} {off : Int} {tgt : Nat} (h : Jk G lay fso own cd nL rt d tv P) (hd : decode cd pc = .ok (.if_icmp .gt off, 3)) (ht : (pc : Int) + off = (tgt : Int)) (kt : P a tgt lv st σ) (kf : P b (pc + 3) lv st σ) : P (@ite _ (y < x) inst a b) pc lv (.int y :: .int x :: st) σ := by
  obtain ⟨p, e, s, m, args, below, meth, cq, hx, hb, hml, hr, hlk, hown, ⟨_, hts⟩, hK, hX, hG, hI, rfl⟩ := h
  intro r σ' he H locs ls hW hS hl
  exact lv_icmp_gt hx hb hd ht (fun q => kt r σ' (by rw [if_pos q] at he; exact he) H locs ls hW hS hl) (fun q => kf r σ' (by rw [if_neg q] at he; exact he) H locs ls hW hS hl)
theorem jx_if_gt {x : Int32} {inst : Decidable (0 < x)} {a b : Option (R × Mem)} {off : Int} {tgt : Nat} (h : Jk G lay fso own cd nL rt d tv P) (hd : decode cd pc = .ok (.ifCond .gt off, 3)) (ht : (pc : Int) + off = (tgt : Int)) (kt : P a tgt lv st σ) (kf : P b (pc + 3) lv st σ) : P (@ite _ (0 < x) inst a b) pc lv (.int x :: st) σ := by
  obtain ⟨p, e, s, m, args, below, meth, cq, hx, hb, hml, hr, hlk, hown, ⟨_, hts⟩, hK, hX, hG, hI, rfl⟩ := h
  intro r σ' he H locs ls hW hS hl
  exact lv_if_gt hx hb hd ht (fun q => kt r σ' (by rw [if_pos q] at he; exact he) H locs ls hW hS hl) (fun q => kf r σ' (by rw [if_neg q] at he; exact he) H locs ls hW hS hl)
theorem jx_icmp_le {x y : Int32} {inst : Decidable (x ≤ y)} {a b : Option (R × Mem)} {off : Int} {tgt : Nat} (h : Jk G lay fso own cd nL rt d tv P) (hd : decode cd pc = .ok (.if_icmp .le off, 3)) (ht : (pc : Int) + off = (tgt : Int)) (kt : P a tgt lv st σ) (kf : P b (pc + 3) lv st σ) : P (@ite _ (x ≤ y) inst a b) pc lv (.int y :: .int x :: st) σ := by
  obtain ⟨p, e, s, m, args, below, meth, cq, hx, hb, hml, hr, hlk, hown, ⟨_, hts⟩, hK, hX, hG, hI, rfl⟩ := h
  intro r σ' he H locs ls hW hS hl
  exact lv_icmp_le hx hb hd ht (fun q => kt r σ' (by rw [if_pos q] at he; exact he) H locs ls hW hS hl) (fun q => kf r σ' (by rw [if_neg q] at he; exact he) H locs ls hW hS hl)
theorem jx_if_le {x : Int32} {inst : Decidable (x ≤ 0)} {a b : Option (R × Mem)} {off : Int} {tgt : Nat} (h : Jk G lay fso own cd nL rt d tv P) (hd : decode cd pc = .ok (.ifCond .le off, 3)) (ht : (pc : Int) + off = (tgt : Int)) (kt : P a tgt lv st σ) (kf : P b (pc + 3) lv st σ) : P (@ite _ (x ≤ 0) inst a b) pc lv (.int x :: st) σ := by
  obtain ⟨p, e, s, m, args, below, meth, cq, hx, hb, hml, hr, hlk, hown, ⟨_, hts⟩, hK, hX, hG, hI, rfl⟩ := h
  intro r σ' he H locs ls hW hS hl
  exact lv_if_le hx hb hd ht (fun q => kt r σ' (by rw [if_pos q] at he; exact he) H locs ls hW hS hl) (fun q => kf r σ' (by rw [if_neg q] at he; exact he) H locs ls hW hS hl)
theorem jx_tcase {dflt lo hi : Int} {offs : Array Int} {len : Nat} {x v : Int32} {inst : Decidable (x = v)} {a b : Option (R × Mem)} {off : Int} {tgt : Nat} (h : Jk G lay fso own cd nL rt d tv P) (hd : decode cd pc = .ok (.tableswitch dflt lo hi offs, len)) (h1 : ¬ v.toInt < lo) (h2 : ¬ hi < v.toInt) (ho : offs[(v.toInt - lo).toNat]? = some off) (ht : (pc : Int) + off = (tgt : Int)) (kt : P a tgt lv st σ) (kf : ¬ x = v → P b pc lv (.int x :: st) σ) : P (@ite _ (x = v) inst a b) pc lv (.int x :: st) σ := by
  obtain ⟨p, e, s, m, args, below, meth, cq, hx, hb, hml, hr, hlk, hown, ⟨_, hts⟩, hK, hX, hG, hI, rfl⟩ := h
  intro r σ' he H locs ls hW hS hl
  by_cases q : x = v
  · rw [if_pos q] at he
    subst q
    exact lv_tableIn hx hb hd h1 h2 ho ht (kt r σ' he H locs ls hW hS hl)
  · rw [if_neg q] at he
    exact kf q r σ' he H locs ls hW hS hl
theorem jx_tdef {dflt lo hi : Int} {offs : Array Int} {len : Nat} {x : Int32} {tgt : Nat} (h : Jk G lay fso own cd nL rt d tv P) (hd : decode cd pc = .ok (.tableswitch dflt lo hi offs, len)) (h1 : x.toInt < lo ∨ hi < x.toInt) (ht : (pc : Int) + dflt = (tgt : Int)) (k : P ex tgt lv st σ) : P ex pc lv (.int x :: st) σ := by
  obtain ⟨p, e, s, m, args, below, meth, cq, hx, hb, hml, hr, hlk, hown, ⟨_, hts⟩, hK, hX, hG, hI, rfl⟩ := h
  intro r σ' he H locs ls hW hS hl
  exact lv_tableOut hx hb hd h1 ht (k r σ' he H locs ls hW hS hl)
theorem jx_lookup {dflt : Int} {ps : Array (Int × Int)} {len : Nat} {x v : Int32} {inst : Decidable (x = v)} {a b : Option (R × Mem)} {off : Int} {tgt : Nat} (h : Jk G lay fso own cd nL rt d tv P) (hd : decode cd pc = .ok (.lookupswitch dflt ps, len)) (hp : (ps.toList.zip (ps.toList.drop 1)).all (fun (a, next) => a.1 < next.1) = true) (ho : Op.lookupswitch.offset ps.toList dflt v.toInt = off) (ht : (pc : Int) + off = (tgt : Int)) (kt : P a tgt lv st σ) (kf : ¬ x = v → P b pc lv (.int x :: st) σ) : P (@ite _ (x = v) inst a b) pc lv (.int x :: st) σ := by
  obtain ⟨p, e, s, m, args, below, meth, cq, hx, hb, hml, hr, hlk, hown, ⟨_, hts⟩, hK, hX, hG, hI, rfl⟩ := h
  intro r σ' he H locs ls hW hS hl
  by_cases q : x = v
  · rw [if_pos q] at he
    subst q
    exact lv_lookup hx hb hd hp ho ht (kt r σ' he H locs ls hW hS hl)
  · rw [if_neg q] at he
    exact kf q r σ' he H locs ls hW hS hl
theorem jx_lookdef {dflt : Int} {ps : Array (Int × Int)} {len : Nat} {x : Int32} {tgt : Nat} (h : Jk G lay fso own cd nL rt d tv P) (hd : decode cd pc = .ok (.lookupswitch dflt ps, len)) (hp : (ps.toList.zip (ps.toList.drop 1)).all (fun (a, next) => a.1 < next.1) = true) (ho : Op.lookupswitch.offset ps.toList dflt x.toInt = dflt) (ht : (pc : Int) + dflt = (tgt : Int)) (k : P ex tgt lv st σ) : P ex pc lv (.int x :: st) σ := by
  obtain ⟨p, e, s, m, args, below, meth, cq, hx, hb, hml, hr, hlk, hown, ⟨_, hts⟩, hK, hX, hG, hI, rfl⟩ := h
  intro r σ' he H locs ls hW hS hl
  exact lv_lookup hx hb hd hp ho ht (k r σ' he H locs ls hW hS hl)
theorem jx_get {idx ci k c u : Nat} {v : Value} (h : Jk G lay fso own cd nL rt d tv P) (fa : FA own idx ci k) (hc : lay[c]? = some (ci + 10, u)) (hd : decode cd pc = .ok (.getfield idx, 3)) (hv : (fso ci c (Ga G) (σ.1 c))[k]? = some v) (kk : P ex (pc + 3) lv (v :: st) σ) : P ex pc lv (.ref (Ga G c) :: st) σ := by
  obtain ⟨p, e, s, m, args, below, meth, cq, hx, hb, hml, hr, hlk, hown, ⟨_, hts⟩, hK, hX, hG, hI, rfl⟩ := h
  intro r σ' he H locs ls hW hS hl
  obtain ⟨C, T, N, hvc, hk, hws, hlk2⟩ := fa
  rcases hlk2 with hlk2 | ⟨host, hlk2⟩
  · exact va_get (D := GD G) hx hb hts (fun w hw => List.mem_cons_of_mem _ (hws w hw)) hown hK hW c (hI.obj hc σ) hvc k hk (hts _ (List.mem_cons_of_mem _ hlk2)) (fun _ h9 => h9) hv hd (kk r σ' he H locs ls hW hS hl)
  · exact va_getN (D := GD G) hx hb hts (fun w hw => List.mem_cons_of_mem _ (hws w hw)) hown hK hW c (hI.obj hc σ) hvc k hk (va_Nw.use rfl (hG.2.2.2 s hX _ hlk2 rfl)) (fun _ h9 => h9) hv hd (kk r σ' he H locs ls hW hS hl)
theorem jx_putv {idx ci k c u : Nat} {v : Value} {ty : FieldType} {σ1 : Mem} (h : Jk G lay fso own cd nL rt d tv P) (fa : FA own idx ci k) (fp : FP fso ci k ty) (hc : lay[c]? = some (ci + 10, u)) (hn : narrow ty v = v) (hfit : fits ty v = true) (hd : decode cd pc = .ok (.putfield idx, 3)) (hv : (fso ci c (Ga G) (σ.1 c)).set k v = fso ci c (Ga G) (σ1.1 c)) (ho : ∀ c', c' ≠ c → σ1.1 c' = σ.1 c' ∧ σ1.2 c' = σ.2 c') (kk : P ex (pc + 3) lv st σ1) : P ex pc lv (v :: .ref (Ga G c) :: st) σ := by
  obtain ⟨p, e, s, m, args, below, meth, cq, hx, hb, hml, hr, hlk, hown, ⟨_, hts⟩, hK, hX, hG, hI, rfl⟩ := h
  intro r σ' he H locs ls hW hS hl
  obtain ⟨C, T, N, hvc, hk, hws, hlk2⟩ := fa
  obtain ⟨C', T', N', ty0, hvc', hty, hnm, hfin, hpar, hlen⟩ := fp
  rw [hvc] at hvc'
  cases hvc'
  have e : (gcells G σ).set c (Ga G c, .inr (ci, (fso ci c (Ga G) (σ.1 c)).set k v)) = gcells G σ1 := by
    refine gcells_set ?_ ho
    have h1 := hI.obj hc σ1
    rw [gcells_at (hI.lt hc)] at h1
    rw [hv]
    exact congrArg (fun q => q.2) (Option.some.inj h1)
  have hl9 : k < (fso ci c (Ga G) (σ.1 c)).length := by rw [hlen]; exact hk
  rcases hlk2 with hlk2 | ⟨host, hlk2⟩
  · refine va_put (D := GD G) hx hb hts (fun w hw => List.mem_cons_of_mem _ (hws w hw)) ty0 hty hnm hown hK hW (gcells_D hG σ) hS c (hI.obj hc σ) hvc k hk (hts _ (List.mem_cons_of_mem _ hlk2)) (fun _ h9 => h9) hfin hpar hn hfit hl9 hd (fun H1 locs1 hP1 hD1 hS1 => ?_)
    rw [e] at hP1
    exact kk r σ' he H1 locs1 ls hP1 hS1 hl
  · refine va_putN (D := GD G) hx hb hts (fun w hw => List.mem_cons_of_mem _ (hws w hw)) ty0 hty hnm hown hK hW (gcells_D hG σ) hS c (hI.obj hc σ) hvc k hk (va_Nw.use rfl (hG.2.2.2 s hX _ hlk2 rfl)) (fun _ h9 => h9) hfin hpar hn hfit hl9 hd (fun H1 locs1 hP1 hD1 hS1 => ?_)
    rw [e] at hP1
    exact kk r σ' he H1 locs1 ls hP1 hS1 hl
theorem si_out {c i : Nat} {x : Int32} : ∀ c', c' ≠ c → (si σ c i x).1 c' = σ.1 c' ∧ (si σ c i x).2 c' = σ.2 c' := fun c' h => ⟨if_neg h, rfl⟩
theorem si_at {c i : Nat} {x : Int32} : (si σ c i x).1 c = upd (σ.1 c) i x := if_pos rfl
/-- an int field (or one that tells a cell) is written -/
theorem jx_put {idx ci k c u : Nat} {x : Int32} {v : Value} {ty : FieldType} {f : Mem → Option (R × Mem)} (h : Jk G lay fso own cd nL rt d tv P) (fa : FA own idx ci k) (fp : FP fso ci k ty) (hc : lay[c]? = some (ci + 10, u)) (hn : narrow ty v = v) (hfit : fits ty v = true) (hd : decode cd pc = .ok (.putfield idx, 3)) (hv : (fso ci c (Ga G) (σ.1 c)).set k v = fso ci c (Ga G) (upd (σ.1 c) k x)) (kk : ∀ σ1, P (f σ1) (pc + 3) lv st σ1) : P (lt (si σ c k x) f) pc lv (v :: .ref (Ga G c) :: st) σ :=
  jx_putv (σ1 := si σ c k x) h fa fp hc hn hfit hd (by rw [si_at]; exact hv) si_out (kk _)
-- arrays
theorem jx_iaload {c n : Nat} {i : Int32} (h : Jk G lay fso own cd nL rt d tv P) (hc : lay[c]? = some (0, n)) (hd : decode cd pc = .ok (.iaload, 1)) (kk : P ex (pc + 1) lv (.int (gi σ c (ix i)) :: st) σ) : P (chk i n ex) pc lv (.int i :: .ref (Ga G c) :: st) σ := by
  obtain ⟨p, e, s, m, args, below, meth, cq, hx, hb, hml, hr, hlk, hown, ⟨_, hts⟩, hK, hX, hG, hI, rfl⟩ := h
  intro r σ' he H locs ls hW hS hl
  obtain ⟨hin, he⟩ := chk_eq he
  obtain ⟨cA, ht, ha⟩ := hI.int hc
  exact va_iald (D := GD G) hx hb hK hW c 1 (ha σ) ht hin hd (kk r σ' he H locs ls hW hS hl)
theorem jx_baload {c n : Nat} {i : Int32} (h : Jk G lay fso own cd nL rt d tv P) (hc : lay[c]? = some (3, n)) (hd : decode cd pc = .ok (.baload, 1)) (kk : P ex (pc + 1) lv (.int (gi σ c (ix i)) :: st) σ) : P (chk i n ex) pc lv (.int i :: .ref (Ga G c) :: st) σ := by
  obtain ⟨p, e, s, m, args, below, meth, cq, hx, hb, hml, hr, hlk, hown, ⟨_, hts⟩, hK, hX, hG, hI, rfl⟩ := h
  intro r σ' he H locs ls hW hS hl
  obtain ⟨hin, he⟩ := chk_eq he
  obtain ⟨cA, ht, ha⟩ := hI.byte hc
  exact va_bald (D := GD G) hx hb hK hW c 0 (ha σ) ht hin hd (kk r σ' he H locs ls hW hS hl)
theorem jx_laload {c n : Nat} {i : Int32} (h : Jk G lay fso own cd nL rt d tv P) (hc : lay[c]? = some (1, n)) (hd : decode cd pc = .ok (.laload, 1)) (kk : P ex (pc + 1) lv (.long (gl σ c (ix i)) :: st) σ) : P (chk i n ex) pc lv (.int i :: .ref (Ga G c) :: st) σ := by
  obtain ⟨p, e, s, m, args, below, meth, cq, hx, hb, hml, hr, hlk, hown, ⟨_, hts⟩, hK, hX, hG, hI, rfl⟩ := h
  intro r σ' he H locs ls hW hS hl
  obtain ⟨hin, he⟩ := chk_eq he
  obtain ⟨cA, ht, ha⟩ := hI.long hc
  exact va_lald (D := GD G) hx hb hK hW c 2 (ha σ) ht hin hd (kk r σ' he H locs ls hW hS hl)
theorem jx_aaload {c n : Nat} {i : Int32} (h : Jk G lay fso own cd nL rt d tv P) (hc : lay[c]? = some (2, n)) (hd : decode cd pc = .ok (.aaload, 1)) (kk : ix i < n → P ex (pc + 1) lv (.ref (Ga G (c + 1 + ix i)) :: st) σ) : P (chk i n ex) pc lv (.int i :: .ref (Ga G c) :: st) σ := by
  obtain ⟨p, e, s, m, args, below, meth, cq, hx, hb, hml, hr, hlk, hown, ⟨_, hts⟩, hK, hX, hG, hI, rfl⟩ := h
  intro r σ' he H locs ls hW hS hl
  obtain ⟨hin, he⟩ := chk_eq he
  obtain ⟨cA, ht, ha⟩ := hI.rows hc
  have hlt : i.toNatClampNeg < n := Nat.not_le.mp fun q => hin (Or.inr q)
  refine W.aald (v := .ref (Ga G (c + 1 + ix i))) (ty := .array .int) hx hb (hW c _ (ha σ)) ((hK.2 3 _ ht).1 n (fun j => va_rf (if j < n then some (Ga G (c + 1 + j)) else none))) rfl (fun q => by cases q) (by show ¬ (i < 0 ∨ (arrV _ _ _).slots.size ≤ _); rw [arrV_size]; exact hin) ?_ rfl rfl hd (kk hlt r σ' he H locs ls hW hS hl)
  show (arrV _ _ _).slots[_]? = _
  rw [arrV_read _ _ hlt]
  show some (va_rf (if i.toNatClampNeg < n then some (Ga G (c + 1 + i.toNatClampNeg)) else none)) = _
  rw [if_pos hlt]
  rfl
theorem jx_iastore {c n : Nat} {i x : Int32} {f : Mem → Option (R × Mem)} (h : Jk G lay fso own cd nL rt d tv P) (hc : lay[c]? = some (0, n)) (hd : decode cd pc = .ok (.iastore, 1)) (kk : ∀ σ1, P (f σ1) (pc + 1) lv st σ1) : P (chk i n (lt (si σ c (ix i) x) f)) pc lv (.int x :: .int i :: .ref (Ga G c) :: st) σ := by
  obtain ⟨p, e, s, m, args, below, meth, cq, hx, hb, hml, hr, hlk, hown, ⟨_, hts⟩, hK, hX, hG, hI, rfl⟩ := h
  intro r σ' he H locs ls hW hS hl
  obtain ⟨hin, he⟩ := chk_eq he
  obtain ⟨cA, ht, ha⟩ := hI.int hc
  refine va_iast (D := GD G) hx hb hK hW (gcells_D hG σ) hS c 1 (ha σ) ht hin hd (fun H1 locs1 hP1 hD1 hS1 => ?_)
  have e : (gcells G σ).set c (Ga G c, .inl (cA, n, .inl (upd (σ.1 c) (ix i) x))) = gcells G (si σ c (ix i) x) := by
    refine gcells_set ?_ si_out
    have h1 := ha (si σ c (ix i) x)
    rw [gcells_at (hI.lt hc), si_at] at h1
    exact congrArg (fun q => q.2) (Option.some.inj h1)
  rw [e] at hP1
  exact kk _ r σ' he H1 locs1 ls hP1 hS1 hl
theorem jx_bastore {c n : Nat} {i x : Int32} {f : Mem → Option (R × Mem)} (h : Jk G lay fso own cd nL rt d tv P) (hc : lay[c]? = some (3, n)) (hd : decode cd pc = .ok (.bastore, 1)) (kk : ∀ σ1, P (f σ1) (pc + 1) lv st σ1) : P (chk i n (lt (si σ c (ix i) x.toInt8.toInt32) f)) pc lv (.int x :: .int i :: .ref (Ga G c) :: st) σ := by
  obtain ⟨p, e, s, m, args, below, meth, cq, hx, hb, hml, hr, hlk, hown, ⟨_, hts⟩, hK, hX, hG, hI, rfl⟩ := h
  intro r σ' he H locs ls hW hS hl
  obtain ⟨hin, he⟩ := chk_eq he
  obtain ⟨cA, ht, ha⟩ := hI.byte hc
  refine va_bast (D := GD G) hx hb hK hW (gcells_D hG σ) hS c 0 (ha σ) ht hin hd (fun H1 locs1 hP1 hD1 hS1 => ?_)
  rw [vp_nar_byte] at hP1
  have e : (gcells G σ).set c (Ga G c, .inl (cA, n, .inl (upd (σ.1 c) (ix i) x.toInt8.toInt32))) = gcells G (si σ c (ix i) x.toInt8.toInt32) := by
    refine gcells_set ?_ si_out
    have h1 := ha (si σ c (ix i) x.toInt8.toInt32)
    rw [gcells_at (hI.lt hc), si_at] at h1
    exact congrArg (fun q => q.2) (Option.some.inj h1)
  rw [e] at hP1
  exact kk _ r σ' he H1 locs1 ls hP1 hS1 hl
theorem jx_lastore {c n : Nat} {i : Int32} {x : Int64} {f : Mem → Option (R × Mem)} (h : Jk G lay fso own cd nL rt d tv P) (hc : lay[c]? = some (1, n)) (hd : decode cd pc = .ok (.lastore, 1)) (kk : ∀ σ1, P (f σ1) (pc + 1) lv st σ1) : P (chk i n (lt (sl σ c (ix i) x) f)) pc lv (.long x :: .int i :: .ref (Ga G c) :: st) σ := by
  obtain ⟨p, e, s, m, args, below, meth, cq, hx, hb, hml, hr, hlk, hown, ⟨_, hts⟩, hK, hX, hG, hI, rfl⟩ := h
  intro r σ' he H locs ls hW hS hl
  obtain ⟨hin, he⟩ := chk_eq he
  obtain ⟨cA, ht, ha⟩ := hI.long hc
  refine va_last (D := GD G) hx hb hK hW (gcells_D hG σ) hS c 2 (ha σ) ht hin hd (fun H1 locs1 hP1 hD1 hS1 => ?_)
  have e : (gcells G σ).set c (Ga G c, .inl (cA, n, .inr (.inl (vp_updL (σ.2 c) (ix i) x)))) = gcells G (sl σ c (ix i) x) := by
    refine gcells_set ?_ (fun c' h => ⟨rfl, if_neg h⟩)
    have h1 := ha (sl σ c (ix i) x)
    rw [gcells_at (hI.lt hc), show (sl σ c (ix i) x).2 c = vp_updL (σ.2 c) (ix i) x from if_pos rfl] at h1
    exact congrArg (fun q => q.2) (Option.some.inj h1)
  rw [e] at hP1
  exact kk _ r σ' he H1 locs1 ls hP1 hS1 hl
theorem jx_alen {c n : Nat} {v : Int32} (h : Jk G lay fso own cd nL rt d tv P) (hc : lay[c]? = some (0, n)) (hv : Int32.ofNat n = v) (hd : decode cd pc = .ok (.arraylength, 1)) (kk : P ex (pc + 1) lv (.int v :: st) σ) : P ex pc lv (.ref (Ga G c) :: st) σ := by
  obtain ⟨p, e, s, m, args, below, meth, cq, hx, hb, hml, hr, hlk, hown, ⟨_, hts⟩, hK, hX, hG, hI, rfl⟩ := h
  intro r σ' he H locs ls hW hS hl
  obtain ⟨cA, ht, ha⟩ := hI.int hc
  exact va_alen (D := GD G) hx hb hK hW c 1 (ha σ) ht hv hd (kk r σ' he H locs ls hW hS hl)
theorem jx_copy {c0 c1 n0 n1 : Nat} {sp dp n : Int32} {idx : Nat} {f : Mem → Option (R × Mem)} (h : Jk G lay fso own cd nL rt d tv P) (hlink : Cond.methodLink own idx arraycopyName ∈ tbG) (hnat : Cond.native arraycopyName ∈ tbG) (hstat : Cond.static arraycopyName ∈ tbG) (hini : Cond.initialized "java/lang/System" ∈ tbG) (h0 : lay[c0]? = some (0, n0)) (h1 : lay[c1]? = some (0, n1)) (hd1 : 1 ≤ d) (hlo : (st.map fun v => v.category).sum + (nativeFrameWords "java/lang/System" "arraycopy" 5 + 11) ≤ 64) (hd : decode cd pc = .ok (.invokestatic idx, 3)) (kk : ∀ σ1, P (f σ1) (pc + 3) lv st σ1) : P (chkC sp dp n n0 n1 (lt (cpy σ c0 c1 sp dp n) f)) pc lv (.int n :: .int dp :: .ref (Ga G c1) :: .int sp :: .ref (Ga G c0) :: st) σ := by
  obtain ⟨p, e, s, m, args, below, meth, cq, hx, hb, hml, hr, hlk, hown, ⟨_, hts⟩, hK, hX, hG, hI, rfl⟩ := h
  intro r σ' he H locs ls hW hS hl
  unfold chkC at he
  by_cases a1 : sp < 0
  · rw [if_pos a1] at he; cases he
  rw [if_neg a1] at he
  by_cases a2 : dp < 0
  · rw [if_pos a2] at he; cases he
  rw [if_neg a2] at he
  by_cases a3 : n < 0
  · rw [if_pos a3] at he; cases he
  rw [if_neg a3] at he
  by_cases a4 : n0 < ix sp + ix n
  · rw [if_pos a4] at he; cases he
  rw [if_neg a4] at he
  by_cases a5 : n1 < ix dp + ix n
  · rw [if_pos a5] at he; cases he
  rw [if_neg a5] at he
  obtain ⟨cA, ht, ha⟩ := hI.int h0
  obtain ⟨cA', ht', ha'⟩ := hI.int h1
  rw [ht] at ht'
  cases ht'
  refine va_copyi (D := GD G) hx hb (hml.trans hl.1.symm) hown (hts _ (List.mem_cons_of_mem _ hlink)) (hts _ (List.mem_cons_of_mem _ hnat)) (hts _ (List.mem_cons_of_mem _ hstat)) (hts _ (List.mem_cons_of_mem _ hini)) hK hW (gcells_D hG σ) hS c0 c1 1 1 (ha σ) (ha' σ) ht ht rfl a1 a2 a3 (Nat.le_of_not_lt a4) (Nat.le_of_not_lt a5) (fun i _ => rfl) hd1 (by show _ ≤ 64 * d; omega) hd (fun H1 locs1 hP1 hD1 hS1 => ?_)
  have e : (gcells G σ).set c1 (Ga G c1, .inl (cA, n1, .inl (va_cpy (σ.1 c0) (σ.1 c1) (ix sp) (ix dp) (ix n)))) = gcells G (cpy σ c0 c1 sp dp n) := by
    refine gcells_set ?_ (fun c' h => ⟨if_neg h, rfl⟩)
    have h1' := ha' (cpy σ c0 c1 sp dp n)
    rw [gcells_at (hI.lt h1), show (cpy σ c0 c1 sp dp n).1 c1 = va_cpy (σ.1 c0) (σ.1 c1) (ix sp) (ix dp) (ix n) from if_pos rfl] at h1'
    exact congrArg (fun q => q.2) (Option.some.inj h1')
  rw [e] at hP1
  exact kk _ r σ' he H1 locs1 ls hP1 hS1 hl
theorem jx_mmin {idx : Nat} {x y : Int32} (h : Jk G lay fso own cd nL rt d tv P) (hm : Cond.methodLink own idx Lib.Math.min.name ∈ tbG ∧ Cond.static Lib.Math.min.name ∈ tbG ∧ Cond.initialized "java/lang/Math" ∈ tbG ∧ Cond.code Lib.Math.min.name Lib.Math.min.code 2 (some .int) ∈ tbG) (hd1 : 1 ≤ d) (hw : (st.map fun v => v.category).sum ≤ 8) (hd : decode cd pc = .ok (.invokestatic idx, 3)) (kk : P ex (pc + 3) lv (.int (imin x y) :: st) σ) : P ex pc lv (.int y :: .int x :: st) σ := by
  obtain ⟨p, e, s, m, args, below, meth, cq, hx, hb, hml, hr, hlk, hown, ⟨_, hts⟩, hK, hX, hG, hI, rfl⟩ := h
  intro r σ' he H locs ls hW hS hl
  exact va_mmin hx hb (hml.trans hl.1.symm) hown (hts _ (List.mem_cons_of_mem _ hm.1)) (hts _ (List.mem_cons_of_mem _ hm.2.1)) (hts _ (List.mem_cons_of_mem _ hm.2.2.1)) (hts _ (List.mem_cons_of_mem _ hm.2.2.2)) hd1 (by show _ ≤ 64 * d; omega) (Nat.zero_le _) (Nat.zero_le _) hd (kk r σ' he H locs ls hW hS hl)
theorem jx_mmax {idx : Nat} {x y : Int32} (h : Jk G lay fso own cd nL rt d tv P) (hm : Cond.methodLink own idx Lib.Math.max.name ∈ tbG ∧ Cond.static Lib.Math.max.name ∈ tbG ∧ Cond.initialized "java/lang/Math" ∈ tbG ∧ Cond.code Lib.Math.max.name Lib.Math.max.code 2 (some .int) ∈ tbG) (hd1 : 1 ≤ d) (hw : (st.map fun v => v.category).sum ≤ 8) (hd : decode cd pc = .ok (.invokestatic idx, 3)) (kk : P ex (pc + 3) lv (.int (imax x y) :: st) σ) : P ex pc lv (.int y :: .int x :: st) σ := by
  obtain ⟨p, e, s, m, args, below, meth, cq, hx, hb, hml, hr, hlk, hown, ⟨_, hts⟩, hK, hX, hG, hI, rfl⟩ := h
  intro r σ' he H locs ls hW hS hl
  exact va_mmax hx hb (hml.trans hl.1.symm) hown (hts _ (List.mem_cons_of_mem _ hm.1)) (hts _ (List.mem_cons_of_mem _ hm.2.1)) (hts _ (List.mem_cons_of_mem _ hm.2.2.1)) (hts _ (List.mem_cons_of_mem _ hm.2.2.2)) hd1 (by show _ ≤ 64 * d; omega) (Nat.zero_le _) (Nat.zero_le _) hd (kk r σ' he H locs ls hW hS hl)
theorem jx_mminl {idx : Nat} {x y : Int64} (h : Jk G lay fso own cd nL rt d tv P) (hm : Cond.methodLink own idx Lib.MathLoose.min_long.x ∈ tbG ∧ Cond.static Lib.MathLoose.min_long.x ∈ tbG ∧ Cond.initialized "java/lang/Math" ∈ tbG ∧ Cond.code Lib.MathLoose.min_long.x Lib.MathLoose.min_long.code 4 (some .long) ∈ tbG) (hd1 : 1 ≤ d) (hw : (st.map fun v => v.category).sum ≤ 8) (hd : decode cd pc = .ok (.invokestatic idx, 3)) (kk : P ex (pc + 3) lv (.long (lmin x y) :: st) σ) : P ex pc lv (.long y :: .long x :: st) σ := by
  obtain ⟨p, e, s, m, args, below, meth, cq, hx, hb, hml, hr, hlk, hown, ⟨_, hts⟩, hK, hX, hG, hI, rfl⟩ := h
  intro r σ' he H locs ls hW hS hl
  exact va_mmin_long hx hb (hml.trans hl.1.symm) hown (hts _ (List.mem_cons_of_mem _ hm.1)) (hts _ (List.mem_cons_of_mem _ hm.2.1)) (hts _ (List.mem_cons_of_mem _ hm.2.2.1)) (hts _ (List.mem_cons_of_mem _ hm.2.2.2)) hd1 (by show _ ≤ 64 * d; omega) (Nat.zero_le _) (Nat.zero_le _) hd (kk r σ' he H locs ls hW hS hl)
theorem jx_mmaxl {idx : Nat} {x y : Int64} (h : Jk G lay fso own cd nL rt d tv P) (hm : Cond.methodLink own idx Lib.MathLoose.max_long.x ∈ tbG ∧ Cond.static Lib.MathLoose.max_long.x ∈ tbG ∧ Cond.initialized "java/lang/Math" ∈ tbG ∧ Cond.code Lib.MathLoose.max_long.x Lib.MathLoose.max_long.code 4 (some .long) ∈ tbG) (hd1 : 1 ≤ d) (hw : (st.map fun v => v.category).sum ≤ 8) (hd : decode cd pc = .ok (.invokestatic idx, 3)) (kk : P ex (pc + 3) lv (.long (lmax x y) :: st) σ) : P ex pc lv (.long y :: .long x :: st) σ := by
  obtain ⟨p, e, s, m, args, below, meth, cq, hx, hb, hml, hr, hlk, hown, ⟨_, hts⟩, hK, hX, hG, hI, rfl⟩ := h
  intro r σ' he H locs ls hW hS hl
  exact va_mmax_long hx hb (hml.trans hl.1.symm) hown (hts _ (List.mem_cons_of_mem _ hm.1)) (hts _ (List.mem_cons_of_mem _ hm.2.1)) (hts _ (List.mem_cons_of_mem _ hm.2.2.1)) (hts _ (List.mem_cons_of_mem _ hm.2.2.2)) hd1 (by show _ ≤ 64 * d; omega) (Nat.zero_le _) (Nat.zero_le _) hd (kk r σ' he H locs ls hW hS hl)
theorem jx_fin {G : Gx} {s t : State} {H : Heap} {ov : Option Value} {σ : Mem} {locs : List Loc} {args : Array Value} (ht : t.heap = H) (hW : Wo G σ H) (hS : va_S (AA G) s.heap H locs) : Cpost G ov σ args s (.returned ov) t := ⟨rfl, by rw [ht]; exact hW, hS.F ht⟩
theorem jx_iret {P : Option (Int32 × Mem) → Nat → List (Nat × Value) → List Value → Mem → Prop} {x : Int32} (h : Jk G lay fso own cd nL (some .int) d tvI P) (hd : decode cd pc = .ok (.ireturn, 1)) : P (some (x, σ)) pc lv [.int x] σ := by
  obtain ⟨p, e, s, m, args, below, meth, cq, hx, hb, hml, hr, hlk, hown, ⟨_, hts⟩, hK, hX, hG, hI, rfl⟩ := h
  intro r σ' he H locs ls hW hS hl
  cases he
  exact W.iret hx hb hr (fun t ht _ => jx_fin ht hW hS) hS.2.2 hd
theorem jx_zret {P : Option (Int32 × Mem) → Nat → List (Nat × Value) → List Value → Mem → Prop} {x : Int32} (h : Jk G lay fso own cd nL (some .boolean) d tvI P) (hn : narrow .boolean (.int x) = .int x) (hd : decode cd pc = .ok (.ireturn, 1)) : P (some (x, σ)) pc lv [.int x] σ := by
  obtain ⟨p, e, s, m, args, below, meth, cq, hx, hb, hml, hr, hlk, hown, ⟨_, hts⟩, hK, hX, hG, hI, rfl⟩ := h
  intro r σ' he H locs ls hW hS hl
  cases he
  exact W.zret hx hb hr hn (fun t ht _ => jx_fin ht hW hS) hS.2.2 hd
theorem jx_lret {P : Option (Int64 × Mem) → Nat → List (Nat × Value) → List Value → Mem → Prop} {x : Int64} (h : Jk G lay fso own cd nL (some .long) d tvL P) (hd : decode cd pc = .ok (.lreturn, 1)) : P (some (x, σ)) pc lv [.long x] σ := by
  obtain ⟨p, e, s, m, args, below, meth, cq, hx, hb, hml, hr, hlk, hown, ⟨_, hts⟩, hK, hX, hG, hI, rfl⟩ := h
  intro r σ' he H locs ls hW hS hl
  cases he
  exact W.lret hx hb hr (fun t ht _ => jx_fin ht hW hS) hS.2.2 hd
theorem jx_vret {P : Option (Unit × Mem) → Nat → List (Nat × Value) → List Value → Mem → Prop}  (h : Jk G lay fso own cd nL none d tvV P) (hd : decode cd pc = .ok (.return_, 1)) : P (some ((), σ)) pc lv [] σ := by
  obtain ⟨p, e, s, m, args, below, meth, cq, hx, hb, hml, hr, hlk, hown, ⟨_, hts⟩, hK, hX, hG, hI, rfl⟩ := h
  intro r σ' he H locs ls hW hS hl
  cases he
  exact W.vret hx hb hr (fun t ht _ => jx_fin ht hW hS) hS.2.2 hd
theorem jx_aret {P : Option (Nat × Mem) → Nat → List (Nat × Value) → List Value → Mem → Prop} {x : Nat} {rt : FieldType} (h : Jk G lay fso own cd nL (some rt) d (tvR G) P) (hrt : (∃ n, rt = .object n) ∨ ∃ t, rt = .array t) (hd : decode cd pc = .ok (.areturn, 1)) : P (some (x, σ)) pc lv [.ref (Ga G x)] σ := by
  obtain ⟨p, e, s, m, args, below, meth, cq, hx, hb, hml, hr, hlk, hown, ⟨_, hts⟩, hK, hX, hG, hI, rfl⟩ := h
  intro r σ' he H locs ls hW hS hl
  cases he
  exact W.aret hx hb hr hrt (Or.inr ⟨_, rfl⟩) (fun t ht _ => jx_fin ht hW hS) hS.2.2 hd
theorem jx_zretc {P : Option (Int32 × Mem) → Nat → List (Nat × Value) → List Value → Mem → Prop} {x : Int32} (h : Jk G lay fso own cd nL (some .boolean) d tvI P) (hd : decode cd pc = .ok (.ireturn, 1)) : P (ckz x (some (x, σ))) pc lv [.int x] σ := by
  by_cases h0 : x = 0
  · subst h0
    exact jx_zret h (by decide) hd
  · by_cases h1 : x = 1
    · subst h1
      exact jx_zret h (by decide) hd
    · have : ckz x (some (x, σ)) = none := by unfold ckz; rw [if_neg h0, if_neg h1]
      rw [this]
      exact jx_none h
theorem jx_go {p : Program} {e : Env} {s : State} {m : MethodId} {args : Array Value} {below : List Frame} {meth : Method} {c : Code} {H : Heap} {locs : List Loc} {Q : State → Prop} {Rm : Room} {ls : Array Slot} {st0 rest : List Value} {ov : Option Value} {σ1 : Mem} {a : Array Value} {l : Launch}
    (hr : va_Run p l e Rm s m args below meth c H locs 0 0 0 0 (F0 m pc ls st0) rest (Cpost G ov σ1 a) (AA G)) (hS : va_S (AA G) s.heap H locs)
    (kk : ∀ (H1 : Heap) (locs1 : List Loc), Wo G σ1 H1 → va_S (AA G) s.heap H1 locs1 → W p l e Rm s m args below meth c H1 locs1 0 0 Q (F0 m (pc + 3) ls (ov.toList ++ rest))) : W p l e Rm s m args below meth c H locs 0 0 Q (F0 m pc ls st0) := by
  intro T hT X
  obtain ⟨v, st₀, t, T', L, h0, X', hL, e1, e2, ⟨hv, hp, hz, hk⟩, st⟩ := hr T hT X
  cases hv
  rw [h0] at hz hk
  obtain ⟨t2, a1, b1⟩ := kk T'.heap (locs ++ L) (by rw [e1]; exact hp)
    ⟨Nat.le_trans hS.1 (by rw [e1]; exact hz), fun q h1 h2 => by rw [e1, hk q (Nat.lt_of_lt_of_le h1 hS.1) h2]; exact hS.2.1 q h1 h2, fun q hq => by
      rcases List.mem_append.mp hq with h | h
      · exact hS.2.2 q h
      · exact hL q h⟩ T' rfl X'
  exact ⟨t2, st t2 a1, b1⟩
theorem jx_callSi {y : MethodName} {cdy : ByteArray} {nLy d' idx : Nat} {rty : Option FieldType} {As : List Value} {a : Option (Int32 × Mem)} {kf : Int32 → Mem → Option (R × Mem)} (rest : List Value) (h : Jk G lay fso own cd nL rt d tv P) (hM : Ct G y cdy nLy rty d' As tvI σ a) (hm : MS own idx y cdy nLy rty As.length) (hdd : d' < d) (hn : nLy ≤ 45) (hd : decode cd pc = .ok (.invokestatic idx, 3)) (hw : (rest.map fun v => v.category).sum ≤ 8) (hst : st = As.reverse ++ rest) (kk : (∀ (r : Int32) (σ1 : Mem), P (kf r σ1) (pc + 3) lv (.int r :: rest) σ1)) : P (bd a kf) pc lv st σ := by
  obtain ⟨p, e, s, m, args, below, meth, cq, hx, hb, hml, hr, hlk, hown, ⟨_, hts⟩, hK, hX, hG, hI, rfl⟩ := h
  intro r σ' he H locs ls hW hS hl
  obtain ⟨r1, σ1, ha, he⟩ := bd_eq he
  have hMet := hM r1 σ1 ha
  obtain ⟨⟨m1, m2, m3⟩, m4, m5⟩ := hm
  have hpre : PreS s H (Cpre G As σ) As := ⟨Cpre_blind hG As σ, fun U hU hWm => ⟨rfl, by rw [hU]; exact hW, va_K.moved hWm.alike hK, hG.2.2.1 s U hX hWm (by rw [hU]; exact hS.1) (fun q q1 q2 => by rw [hU]; exact hS.2.1 q q1 q2)⟩⟩
  rcases m5 with m5 | ⟨host, m5⟩
  · exact jx_go (va_runS (As := As) (rest := rest) (Ts := _ :: tbG) ⟨hx, hb, hml, hown, hts⟩ hMet ⟨callB_of As.length hts (tbG_call m1) rfl rfl rfl (hts _ (List.mem_cons_of_mem _ m2)) (hts _ (List.mem_cons_of_mem _ m5)) m3 ⟨by show d' + 1 ≤ d; omega, by show 8 + (nLy + 11) + 64 * d' ≤ 64 * d; omega⟩, hts _ (List.mem_cons_of_mem _ m4)⟩ hpre rfl rfl hl.1 hst (lv_room hw) hd ⟨Nat.zero_le _, Nat.zero_le _⟩) hS (fun H1 locs1 hW1 hS1 => kk r1 σ1 r σ' he H1 locs1 ls hW1 hS1 hl)
  · exact jx_go (va_runSN (As := As) (rest := rest) (Ts := _ :: tbG) ⟨hx, hb, hml, hown, hts⟩ hMet ⟨va_cnB As.length hts (tbG_call m1) rfl rfl rfl (hG.2.2.2 s hX _ m5 rfl) (hts _ (List.mem_cons_of_mem _ m2)) m3 ⟨by show d' + 1 ≤ d; omega, by show 8 + (nLy + 11) + 64 * d' ≤ 64 * d; omega⟩, hts _ (List.mem_cons_of_mem _ m4), trivial⟩ hpre rfl rfl hl.1 hst (lv_room hw) hd ⟨Nat.zero_le _, Nat.zero_le _⟩) hS (fun H1 locs1 hW1 hS1 => kk r1 σ1 r σ' he H1 locs1 ls hW1 hS1 hl)
theorem jx_callVi {y : MethodName} {cdy : ByteArray} {nLy d' idx co ci u : Nat} {rty : Option FieldType} {As : List Value} {a : Option (Int32 × Mem)} {kf : Int32 → Mem → Option (R × Mem)} (rest : List Value) (h : Jk G lay fso own cd nL rt d tv P) (hc : lay[co]? = some (ci + 10, u)) (hM : Ct G y cdy nLy rty d' (.ref (Ga G co) :: As) tvI σ a) (hm : MV own idx y cdy nLy rty As.length ci) (hdd : d' < d) (hn : nLy ≤ 45) (hd : decode cd pc = .ok (.invokevirtual idx, 3)) (hw : (rest.map fun v => v.category).sum ≤ 8) (hst : st = As.reverse ++ .ref (Ga G co) :: rest) (kk : (∀ (r : Int32) (σ1 : Mem), P (kf r σ1) (pc + 3) lv (.int r :: rest) σ1)) : P (bd a kf) pc lv st σ := by
  obtain ⟨p, e, s, m, args, below, meth, cq, hx, hb, hml, hr, hlk, hown, ⟨_, hts⟩, hK, hX, hG, hI, rfl⟩ := h
  intro r σ' he H locs ls hW hS hl
  obtain ⟨r1, σ1, ha, he⟩ := bd_eq he
  have hMet := hM r1 σ1 ha
  obtain ⟨⟨m1, m2, m3⟩, m4, m4b, ⟨T, N, hvc⟩, m5⟩ := hm
  have hpre : PreV s H y.cls (Ga G co) (Cpre G (.ref (Ga G co) :: As) σ) As := ⟨Cpre_blind hG _ σ, va_recv hK hW hvc (hI.obj hc σ), fun U hU hWm => ⟨rfl, by rw [hU]; exact hW, va_K.moved hWm.alike hK, hG.2.2.1 s U hX hWm (by rw [hU]; exact hS.1) (fun q q1 q2 => by rw [hU]; exact hS.2.1 q q1 q2)⟩⟩
  rcases m5 with m5 | ⟨host, m5⟩
  · exact jx_go (va_runV (As := As) (rest := rest) (Ts := _ :: tbG) ⟨hx, hb, hml, hown, hts⟩ hMet ⟨callB_of As.length hts (tbG_call m1) rfl rfl rfl (hts _ (List.mem_cons_of_mem _ m2)) (hts _ (List.mem_cons_of_mem _ m5)) m3 ⟨by show d' + 1 ≤ d; omega, by show 8 + (nLy + 11) + 64 * d' ≤ 64 * d; omega⟩, hts _ (List.mem_cons_of_mem _ m4), hts _ (List.mem_cons_of_mem _ m4b)⟩ hpre rfl rfl hl.1 hst (lv_room hw) hd ⟨Nat.zero_le _, Nat.zero_le _⟩) hS (fun H1 locs1 hW1 hS1 => kk r1 σ1 r σ' he H1 locs1 ls hW1 hS1 hl)
  · exact jx_go (va_runVN (As := As) (rest := rest) (Ts := _ :: tbG) ⟨hx, hb, hml, hown, hts⟩ hMet ⟨va_cnB As.length hts (tbG_call m1) rfl rfl rfl (hG.2.2.2 s hX _ m5 rfl) (hts _ (List.mem_cons_of_mem _ m2)) m3 ⟨by show d' + 1 ≤ d; omega, by show 8 + (nLy + 11) + 64 * d' ≤ 64 * d; omega⟩, hts _ (List.mem_cons_of_mem _ m4), hts _ (List.mem_cons_of_mem _ m4b)⟩ hpre rfl rfl hl.1 hst (lv_room hw) hd ⟨Nat.zero_le _, Nat.zero_le _⟩) hS (fun H1 locs1 hW1 hS1 => kk r1 σ1 r σ' he H1 locs1 ls hW1 hS1 hl)
theorem jx_callSv {y : MethodName} {cdy : ByteArray} {nLy d' idx : Nat} {rty : Option FieldType} {As : List Value} {a : Option (Unit × Mem)} {kf : Unit → Mem → Option (R × Mem)} (rest : List Value) (h : Jk G lay fso own cd nL rt d tv P) (hM : Ct G y cdy nLy rty d' As tvV σ a) (hm : MS own idx y cdy nLy rty As.length) (hdd : d' < d) (hn : nLy ≤ 45) (hd : decode cd pc = .ok (.invokestatic idx, 3)) (hw : (rest.map fun v => v.category).sum ≤ 8) (hst : st = As.reverse ++ rest) (kk : (∀ (σ1 : Mem), P (kf () σ1) (pc + 3) lv (rest) σ1)) : P (bd a kf) pc lv st σ := by
  obtain ⟨p, e, s, m, args, below, meth, cq, hx, hb, hml, hr, hlk, hown, ⟨_, hts⟩, hK, hX, hG, hI, rfl⟩ := h
  intro r σ' he H locs ls hW hS hl
  obtain ⟨r1, σ1, ha, he⟩ := bd_eq he
  have hMet := hM r1 σ1 ha
  obtain ⟨⟨m1, m2, m3⟩, m4, m5⟩ := hm
  have hpre : PreS s H (Cpre G As σ) As := ⟨Cpre_blind hG As σ, fun U hU hWm => ⟨rfl, by rw [hU]; exact hW, va_K.moved hWm.alike hK, hG.2.2.1 s U hX hWm (by rw [hU]; exact hS.1) (fun q q1 q2 => by rw [hU]; exact hS.2.1 q q1 q2)⟩⟩
  rcases m5 with m5 | ⟨host, m5⟩
  · exact jx_go (va_runS (As := As) (rest := rest) (Ts := _ :: tbG) ⟨hx, hb, hml, hown, hts⟩ hMet ⟨callB_of As.length hts (tbG_call m1) rfl rfl rfl (hts _ (List.mem_cons_of_mem _ m2)) (hts _ (List.mem_cons_of_mem _ m5)) m3 ⟨by show d' + 1 ≤ d; omega, by show 8 + (nLy + 11) + 64 * d' ≤ 64 * d; omega⟩, hts _ (List.mem_cons_of_mem _ m4)⟩ hpre rfl rfl hl.1 hst (lv_room hw) hd ⟨Nat.zero_le _, Nat.zero_le _⟩) hS (fun H1 locs1 hW1 hS1 => kk σ1 r σ' he H1 locs1 ls hW1 hS1 hl)
  · exact jx_go (va_runSN (As := As) (rest := rest) (Ts := _ :: tbG) ⟨hx, hb, hml, hown, hts⟩ hMet ⟨va_cnB As.length hts (tbG_call m1) rfl rfl rfl (hG.2.2.2 s hX _ m5 rfl) (hts _ (List.mem_cons_of_mem _ m2)) m3 ⟨by show d' + 1 ≤ d; omega, by show 8 + (nLy + 11) + 64 * d' ≤ 64 * d; omega⟩, hts _ (List.mem_cons_of_mem _ m4), trivial⟩ hpre rfl rfl hl.1 hst (lv_room hw) hd ⟨Nat.zero_le _, Nat.zero_le _⟩) hS (fun H1 locs1 hW1 hS1 => kk σ1 r σ' he H1 locs1 ls hW1 hS1 hl)
theorem jx_callVv {y : MethodName} {cdy : ByteArray} {nLy d' idx co ci u : Nat} {rty : Option FieldType} {As : List Value} {a : Option (Unit × Mem)} {kf : Unit → Mem → Option (R × Mem)} (rest : List Value) (h : Jk G lay fso own cd nL rt d tv P) (hc : lay[co]? = some (ci + 10, u)) (hM : Ct G y cdy nLy rty d' (.ref (Ga G co) :: As) tvV σ a) (hm : MV own idx y cdy nLy rty As.length ci) (hdd : d' < d) (hn : nLy ≤ 45) (hd : decode cd pc = .ok (.invokevirtual idx, 3)) (hw : (rest.map fun v => v.category).sum ≤ 8) (hst : st = As.reverse ++ .ref (Ga G co) :: rest) (kk : (∀ (σ1 : Mem), P (kf () σ1) (pc + 3) lv (rest) σ1)) : P (bd a kf) pc lv st σ := by
  obtain ⟨p, e, s, m, args, below, meth, cq, hx, hb, hml, hr, hlk, hown, ⟨_, hts⟩, hK, hX, hG, hI, rfl⟩ := h
  intro r σ' he H locs ls hW hS hl
  obtain ⟨r1, σ1, ha, he⟩ := bd_eq he
  have hMet := hM r1 σ1 ha
  obtain ⟨⟨m1, m2, m3⟩, m4, m4b, ⟨T, N, hvc⟩, m5⟩ := hm
  have hpre : PreV s H y.cls (Ga G co) (Cpre G (.ref (Ga G co) :: As) σ) As := ⟨Cpre_blind hG _ σ, va_recv hK hW hvc (hI.obj hc σ), fun U hU hWm => ⟨rfl, by rw [hU]; exact hW, va_K.moved hWm.alike hK, hG.2.2.1 s U hX hWm (by rw [hU]; exact hS.1) (fun q q1 q2 => by rw [hU]; exact hS.2.1 q q1 q2)⟩⟩
  rcases m5 with m5 | ⟨host, m5⟩
  · exact jx_go (va_runV (As := As) (rest := rest) (Ts := _ :: tbG) ⟨hx, hb, hml, hown, hts⟩ hMet ⟨callB_of As.length hts (tbG_call m1) rfl rfl rfl (hts _ (List.mem_cons_of_mem _ m2)) (hts _ (List.mem_cons_of_mem _ m5)) m3 ⟨by show d' + 1 ≤ d; omega, by show 8 + (nLy + 11) + 64 * d' ≤ 64 * d; omega⟩, hts _ (List.mem_cons_of_mem _ m4), hts _ (List.mem_cons_of_mem _ m4b)⟩ hpre rfl rfl hl.1 hst (lv_room hw) hd ⟨Nat.zero_le _, Nat.zero_le _⟩) hS (fun H1 locs1 hW1 hS1 => kk σ1 r σ' he H1 locs1 ls hW1 hS1 hl)
  · exact jx_go (va_runVN (As := As) (rest := rest) (Ts := _ :: tbG) ⟨hx, hb, hml, hown, hts⟩ hMet ⟨va_cnB As.length hts (tbG_call m1) rfl rfl rfl (hG.2.2.2 s hX _ m5 rfl) (hts _ (List.mem_cons_of_mem _ m2)) m3 ⟨by show d' + 1 ≤ d; omega, by show 8 + (nLy + 11) + 64 * d' ≤ 64 * d; omega⟩, hts _ (List.mem_cons_of_mem _ m4), hts _ (List.mem_cons_of_mem _ m4b)⟩ hpre rfl rfl hl.1 hst (lv_room hw) hd ⟨Nat.zero_le _, Nat.zero_le _⟩) hS (fun H1 locs1 hW1 hS1 => kk σ1 r σ' he H1 locs1 ls hW1 hS1 hl)
theorem jx_callSl {y : MethodName} {cdy : ByteArray} {nLy d' idx : Nat} {rty : Option FieldType} {As : List Value} {a : Option (Int64 × Mem)} {kf : Int64 → Mem → Option (R × Mem)} (rest : List Value) (h : Jk G lay fso own cd nL rt d tv P) (hM : Ct G y cdy nLy rty d' As tvL σ a) (hm : MS own idx y cdy nLy rty As.length) (hdd : d' < d) (hn : nLy ≤ 45) (hd : decode cd pc = .ok (.invokestatic idx, 3)) (hw : (rest.map fun v => v.category).sum ≤ 8) (hst : st = As.reverse ++ rest) (kk : (∀ (r : Int64) (σ1 : Mem), P (kf r σ1) (pc + 3) lv (.long r :: rest) σ1)) : P (bd a kf) pc lv st σ := by
  obtain ⟨p, e, s, m, args, below, meth, cq, hx, hb, hml, hr, hlk, hown, ⟨_, hts⟩, hK, hX, hG, hI, rfl⟩ := h
  intro r σ' he H locs ls hW hS hl
  obtain ⟨r1, σ1, ha, he⟩ := bd_eq he
  have hMet := hM r1 σ1 ha
  obtain ⟨⟨m1, m2, m3⟩, m4, m5⟩ := hm
  have hpre : PreS s H (Cpre G As σ) As := ⟨Cpre_blind hG As σ, fun U hU hWm => ⟨rfl, by rw [hU]; exact hW, va_K.moved hWm.alike hK, hG.2.2.1 s U hX hWm (by rw [hU]; exact hS.1) (fun q q1 q2 => by rw [hU]; exact hS.2.1 q q1 q2)⟩⟩
  rcases m5 with m5 | ⟨host, m5⟩
  · exact jx_go (va_runS (As := As) (rest := rest) (Ts := _ :: tbG) ⟨hx, hb, hml, hown, hts⟩ hMet ⟨callB_of As.length hts (tbG_call m1) rfl rfl rfl (hts _ (List.mem_cons_of_mem _ m2)) (hts _ (List.mem_cons_of_mem _ m5)) m3 ⟨by show d' + 1 ≤ d; omega, by show 8 + (nLy + 11) + 64 * d' ≤ 64 * d; omega⟩, hts _ (List.mem_cons_of_mem _ m4)⟩ hpre rfl rfl hl.1 hst (lv_room hw) hd ⟨Nat.zero_le _, Nat.zero_le _⟩) hS (fun H1 locs1 hW1 hS1 => kk r1 σ1 r σ' he H1 locs1 ls hW1 hS1 hl)
  · exact jx_go (va_runSN (As := As) (rest := rest) (Ts := _ :: tbG) ⟨hx, hb, hml, hown, hts⟩ hMet ⟨va_cnB As.length hts (tbG_call m1) rfl rfl rfl (hG.2.2.2 s hX _ m5 rfl) (hts _ (List.mem_cons_of_mem _ m2)) m3 ⟨by show d' + 1 ≤ d; omega, by show 8 + (nLy + 11) + 64 * d' ≤ 64 * d; omega⟩, hts _ (List.mem_cons_of_mem _ m4), trivial⟩ hpre rfl rfl hl.1 hst (lv_room hw) hd ⟨Nat.zero_le _, Nat.zero_le _⟩) hS (fun H1 locs1 hW1 hS1 => kk r1 σ1 r σ' he H1 locs1 ls hW1 hS1 hl)
theorem jx_callVl {y : MethodName} {cdy : ByteArray} {nLy d' idx co ci u : Nat} {rty : Option FieldType} {As : List Value} {a : Option (Int64 × Mem)} {kf : Int64 → Mem → Option (R × Mem)} (rest : List Value) (h : Jk G lay fso own cd nL rt d tv P) (hc : lay[co]? = some (ci + 10, u)) (hM : Ct G y cdy nLy rty d' (.ref (Ga G co) :: As) tvL σ a) (hm : MV own idx y cdy nLy rty As.length ci) (hdd : d' < d) (hn : nLy ≤ 45) (hd : decode cd pc = .ok (.invokevirtual idx, 3)) (hw : (rest.map fun v => v.category).sum ≤ 8) (hst : st = As.reverse ++ .ref (Ga G co) :: rest) (kk : (∀ (r : Int64) (σ1 : Mem), P (kf r σ1) (pc + 3) lv (.long r :: rest) σ1)) : P (bd a kf) pc lv st σ := by
  obtain ⟨p, e, s, m, args, below, meth, cq, hx, hb, hml, hr, hlk, hown, ⟨_, hts⟩, hK, hX, hG, hI, rfl⟩ := h
  intro r σ' he H locs ls hW hS hl
  obtain ⟨r1, σ1, ha, he⟩ := bd_eq he
  have hMet := hM r1 σ1 ha
  obtain ⟨⟨m1, m2, m3⟩, m4, m4b, ⟨T, N, hvc⟩, m5⟩ := hm
  have hpre : PreV s H y.cls (Ga G co) (Cpre G (.ref (Ga G co) :: As) σ) As := ⟨Cpre_blind hG _ σ, va_recv hK hW hvc (hI.obj hc σ), fun U hU hWm => ⟨rfl, by rw [hU]; exact hW, va_K.moved hWm.alike hK, hG.2.2.1 s U hX hWm (by rw [hU]; exact hS.1) (fun q q1 q2 => by rw [hU]; exact hS.2.1 q q1 q2)⟩⟩
  rcases m5 with m5 | ⟨host, m5⟩
  · exact jx_go (va_runV (As := As) (rest := rest) (Ts := _ :: tbG) ⟨hx, hb, hml, hown, hts⟩ hMet ⟨callB_of As.length hts (tbG_call m1) rfl rfl rfl (hts _ (List.mem_cons_of_mem _ m2)) (hts _ (List.mem_cons_of_mem _ m5)) m3 ⟨by show d' + 1 ≤ d; omega, by show 8 + (nLy + 11) + 64 * d' ≤ 64 * d; omega⟩, hts _ (List.mem_cons_of_mem _ m4), hts _ (List.mem_cons_of_mem _ m4b)⟩ hpre rfl rfl hl.1 hst (lv_room hw) hd ⟨Nat.zero_le _, Nat.zero_le _⟩) hS (fun H1 locs1 hW1 hS1 => kk r1 σ1 r σ' he H1 locs1 ls hW1 hS1 hl)
  · exact jx_go (va_runVN (As := As) (rest := rest) (Ts := _ :: tbG) ⟨hx, hb, hml, hown, hts⟩ hMet ⟨va_cnB As.length hts (tbG_call m1) rfl rfl rfl (hG.2.2.2 s hX _ m5 rfl) (hts _ (List.mem_cons_of_mem _ m2)) m3 ⟨by show d' + 1 ≤ d; omega, by show 8 + (nLy + 11) + 64 * d' ≤ 64 * d; omega⟩, hts _ (List.mem_cons_of_mem _ m4), hts _ (List.mem_cons_of_mem _ m4b)⟩ hpre rfl rfl hl.1 hst (lv_room hw) hd ⟨Nat.zero_le _, Nat.zero_le _⟩) hS (fun H1 locs1 hW1 hS1 => kk r1 σ1 r σ' he H1 locs1 ls hW1 hS1 hl)
theorem jx_callSr {y : MethodName} {cdy : ByteArray} {nLy d' idx : Nat} {rty : Option FieldType} {As : List Value} {a : Option (Nat × Mem)} {kf : Nat → Mem → Option (R × Mem)} (rest : List Value) (h : Jk G lay fso own cd nL rt d tv P) (hM : Ct G y cdy nLy rty d' As (tvR G) σ a) (hm : MS own idx y cdy nLy rty As.length) (hdd : d' < d) (hn : nLy ≤ 45) (hd : decode cd pc = .ok (.invokestatic idx, 3)) (hw : (rest.map fun v => v.category).sum ≤ 8) (hst : st = As.reverse ++ rest) (kk : (∀ (r : Nat) (σ1 : Mem), P (kf r σ1) (pc + 3) lv (.ref (Ga G r) :: rest) σ1)) : P (bd a kf) pc lv st σ := by
  obtain ⟨p, e, s, m, args, below, meth, cq, hx, hb, hml, hr, hlk, hown, ⟨_, hts⟩, hK, hX, hG, hI, rfl⟩ := h
  intro r σ' he H locs ls hW hS hl
  obtain ⟨r1, σ1, ha, he⟩ := bd_eq he
  have hMet := hM r1 σ1 ha
  obtain ⟨⟨m1, m2, m3⟩, m4, m5⟩ := hm
  have hpre : PreS s H (Cpre G As σ) As := ⟨Cpre_blind hG As σ, fun U hU hWm => ⟨rfl, by rw [hU]; exact hW, va_K.moved hWm.alike hK, hG.2.2.1 s U hX hWm (by rw [hU]; exact hS.1) (fun q q1 q2 => by rw [hU]; exact hS.2.1 q q1 q2)⟩⟩
  rcases m5 with m5 | ⟨host, m5⟩
  · exact jx_go (va_runS (As := As) (rest := rest) (Ts := _ :: tbG) ⟨hx, hb, hml, hown, hts⟩ hMet ⟨callB_of As.length hts (tbG_call m1) rfl rfl rfl (hts _ (List.mem_cons_of_mem _ m2)) (hts _ (List.mem_cons_of_mem _ m5)) m3 ⟨by show d' + 1 ≤ d; omega, by show 8 + (nLy + 11) + 64 * d' ≤ 64 * d; omega⟩, hts _ (List.mem_cons_of_mem _ m4)⟩ hpre rfl rfl hl.1 hst (lv_room hw) hd ⟨Nat.zero_le _, Nat.zero_le _⟩) hS (fun H1 locs1 hW1 hS1 => kk r1 σ1 r σ' he H1 locs1 ls hW1 hS1 hl)
  · exact jx_go (va_runSN (As := As) (rest := rest) (Ts := _ :: tbG) ⟨hx, hb, hml, hown, hts⟩ hMet ⟨va_cnB As.length hts (tbG_call m1) rfl rfl rfl (hG.2.2.2 s hX _ m5 rfl) (hts _ (List.mem_cons_of_mem _ m2)) m3 ⟨by show d' + 1 ≤ d; omega, by show 8 + (nLy + 11) + 64 * d' ≤ 64 * d; omega⟩, hts _ (List.mem_cons_of_mem _ m4), trivial⟩ hpre rfl rfl hl.1 hst (lv_room hw) hd ⟨Nat.zero_le _, Nat.zero_le _⟩) hS (fun H1 locs1 hW1 hS1 => kk r1 σ1 r σ' he H1 locs1 ls hW1 hS1 hl)
theorem jx_callVr {y : MethodName} {cdy : ByteArray} {nLy d' idx co ci u : Nat} {rty : Option FieldType} {As : List Value} {a : Option (Nat × Mem)} {kf : Nat → Mem → Option (R × Mem)} (rest : List Value) (h : Jk G lay fso own cd nL rt d tv P) (hc : lay[co]? = some (ci + 10, u)) (hM : Ct G y cdy nLy rty d' (.ref (Ga G co) :: As) (tvR G) σ a) (hm : MV own idx y cdy nLy rty As.length ci) (hdd : d' < d) (hn : nLy ≤ 45) (hd : decode cd pc = .ok (.invokevirtual idx, 3)) (hw : (rest.map fun v => v.category).sum ≤ 8) (hst : st = As.reverse ++ .ref (Ga G co) :: rest) (kk : (∀ (r : Nat) (σ1 : Mem), P (kf r σ1) (pc + 3) lv (.ref (Ga G r) :: rest) σ1)) : P (bd a kf) pc lv st σ := by
  obtain ⟨p, e, s, m, args, below, meth, cq, hx, hb, hml, hr, hlk, hown, ⟨_, hts⟩, hK, hX, hG, hI, rfl⟩ := h
  intro r σ' he H locs ls hW hS hl
  obtain ⟨r1, σ1, ha, he⟩ := bd_eq he
  have hMet := hM r1 σ1 ha
  obtain ⟨⟨m1, m2, m3⟩, m4, m4b, ⟨T, N, hvc⟩, m5⟩ := hm
  have hpre : PreV s H y.cls (Ga G co) (Cpre G (.ref (Ga G co) :: As) σ) As := ⟨Cpre_blind hG _ σ, va_recv hK hW hvc (hI.obj hc σ), fun U hU hWm => ⟨rfl, by rw [hU]; exact hW, va_K.moved hWm.alike hK, hG.2.2.1 s U hX hWm (by rw [hU]; exact hS.1) (fun q q1 q2 => by rw [hU]; exact hS.2.1 q q1 q2)⟩⟩
  rcases m5 with m5 | ⟨host, m5⟩
  · exact jx_go (va_runV (As := As) (rest := rest) (Ts := _ :: tbG) ⟨hx, hb, hml, hown, hts⟩ hMet ⟨callB_of As.length hts (tbG_call m1) rfl rfl rfl (hts _ (List.mem_cons_of_mem _ m2)) (hts _ (List.mem_cons_of_mem _ m5)) m3 ⟨by show d' + 1 ≤ d; omega, by show 8 + (nLy + 11) + 64 * d' ≤ 64 * d; omega⟩, hts _ (List.mem_cons_of_mem _ m4), hts _ (List.mem_cons_of_mem _ m4b)⟩ hpre rfl rfl hl.1 hst (lv_room hw) hd ⟨Nat.zero_le _, Nat.zero_le _⟩) hS (fun H1 locs1 hW1 hS1 => kk r1 σ1 r σ' he H1 locs1 ls hW1 hS1 hl)
  · exact jx_go (va_runVN (As := As) (rest := rest) (Ts := _ :: tbG) ⟨hx, hb, hml, hown, hts⟩ hMet ⟨va_cnB As.length hts (tbG_call m1) rfl rfl rfl (hG.2.2.2 s hX _ m5 rfl) (hts _ (List.mem_cons_of_mem _ m2)) m3 ⟨by show d' + 1 ≤ d; omega, by show 8 + (nLy + 11) + 64 * d' ≤ 64 * d; omega⟩, hts _ (List.mem_cons_of_mem _ m4), hts _ (List.mem_cons_of_mem _ m4b)⟩ hpre rfl rfl hl.1 hst (lv_room hw) hd ⟨Nat.zero_le _, Nat.zero_le _⟩) hS (fun H1 locs1 hW1 hS1 => kk r1 σ1 r σ' he H1 locs1 ls hW1 hS1 hl)
end Rows
