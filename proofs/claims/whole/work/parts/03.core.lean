/-! THE CORE: a memory by cells, the judgement P ex pc locals stack memory ('if ex comes to a value, the method comes to it from here'), a row an instruction -/
def is_nest : Cond → Bool
  | .fieldLinkNest _ _ _ _ _ _ => true
  | .methodLinkNest _ _ _ _ => true
  | _ => false
def tbG : List Cond := lw_tbl.filter goodWord
theorem tbG_in {w : Cond} (h : w ∈ lw_tbl) (hg : goodWord w = true) : w ∈ tbG := List.mem_filter.mpr ⟨h, hg⟩
theorem tbG_good {w : Cond} (h : w ∈ tbG) : goodWord w = true := (List.mem_filter.mp h).2
theorem tbG_call {a b : Cond} (hb : b ∈ tbG) : GoodIn (a :: tbG) (b :: tbG) := by
  intro w hw
  rcases List.mem_cons.mp hw with rfl | h
  · exact ⟨List.mem_cons_of_mem _ hb, good_of_word (tbG_good hb)⟩
  · exact ⟨List.mem_cons_of_mem _ h, good_of_word (tbG_good h)⟩
abbrev Mem : Type := (Nat → Nat → Int32) × (Nat → Nat → Int64)
def gi (σ : Mem) (c i : Nat) : Int32 := σ.1 c i
def gl (σ : Mem) (c i : Nat) : Int64 := σ.2 c i
def si (σ : Mem) (c i : Nat) (v : Int32) : Mem := (fun c' => if c' = c then upd (σ.1 c) i v else σ.1 c', σ.2)
def sl (σ : Mem) (c i : Nat) (v : Int64) : Mem := (σ.1, fun c' => if c' = c then vp_updL (σ.2 c) i v else σ.2 c')
/-- row c becomes f -/
def sr (σ : Mem) (c : Nat) (f : Nat → Int32) : Mem := (fun c' => if c' = c then f else σ.1 c', σ.2)
abbrev ix (i : Int32) : Nat := i.toNatClampNeg
def chk {α : Type} (i : Int32) (n : Nat) (e : Option α) : Option α := if i < 0 then none else if n ≤ i.toNatClampNeg then none else e
def bd {α β : Type} (a : Option (α × Mem)) (k : α → Mem → Option (β × Mem)) : Option (β × Mem) := match a with
  | some q => k q.1 q.2
  | none => none
theorem bd_some {α β : Type} (r : α) (σ : Mem) (k : α → Mem → Option (β × Mem)) : bd (some (r, σ)) k = k r σ := rfl
theorem bd_none {α β : Type} (k : α → Mem → Option (β × Mem)) : bd none k = none := rfl
theorem bd_eq {α β : Type} {a : Option (α × Mem)} {k : α → Mem → Option (β × Mem)} {q : β × Mem} (h : bd a k = some q) : ∃ r σ, a = some (r, σ) ∧ k r σ = some q := by
  cases a with
  | none => cases h
  | some x => exact ⟨x.1, x.2, rfl, h⟩
theorem chk_eq {α : Type} {i : Int32} {n : Nat} {e : Option α} {q : α} (h : chk i n e = some q) : vp_in i n ∧ e = some q := by
  unfold chk at h
  by_cases h1 : i < 0
  · rw [if_pos h1] at h; cases h
  · rw [if_neg h1] at h
    by_cases h2 : n ≤ i.toNatClampNeg
    · rw [if_pos h2] at h; cases h
    · rw [if_neg h2] at h
      exact ⟨fun q => q.elim h1 h2, h⟩
theorem chk_in {α : Type} {i : Int32} {n : Nat} {e : Option α} (h : vp_in i n) : chk i n e = e := by
  unfold chk
  rw [if_neg (fun q => h (Or.inl q)), if_neg (fun q => h (Or.inr q))]
/-- what holds for a layout: the launch, the numbers of classes and slots, the array classes, the cells' addresses, how many, what each holds, what else holds of a state -/
abbrev Gx : Type := Launch × va_G × List (ClassId × FieldType) × (Nat → Nat) × Nat × (Nat → (Nat → Int32) → (Nat → Int64) → va_E) × (State → Prop)
def Gl (G : Gx) : Launch := G.1
def GD (G : Gx) : va_G := G.2.1
def Gt (G : Gx) : List (ClassId × FieldType) := G.2.2.1
def Ga (G : Gx) : Nat → Nat := G.2.2.2.1
def Gn (G : Gx) : Nat := G.2.2.2.2.1
def GE (G : Gx) : Nat → (Nat → Int32) → (Nat → Int64) → va_E := G.2.2.2.2.2.1
def GX (G : Gx) : State → Prop := G.2.2.2.2.2.2
def cE (G : Gx) (c : Nat) (σ : Mem) : va_E := GE G c (σ.1 c) (σ.2 c)
def AA (G : Gx) : Nat → Prop := fun q => ∃ c, c < Gn G ∧ Ga G c = q
def gcells (G : Gx) (σ : Mem) : va_W := (List.range (Gn G)).map (fun c => (Ga G c, cE G c σ))
def Wo (G : Gx) (σ : Mem) (H : Heap) : Prop := va_P (GD G) vwCl (gcells G σ) H
def Gok (G : Gx) : Prop := (∀ i j : Nat, i < Gn G → j < Gn G → Ga G i = Ga G j → i = j) ∧ (∀ (U : State) (g : JFrame) (mk : MethodId) (a : Array Value), GX G U → GX G (U.calling g mk a)) ∧ (∀ s U : State, GX G s → s.WarmedH U.vm → s.heap.size ≤ U.heap.size → (∀ q : Nat, q < s.heap.size → ¬ AA G q → U.heap[q]? = s.heap[q]?) → GX G U) ∧ (∀ U : State, GX G U → ∀ w ∈ lw_tbl, is_nest w = true → va_Nw w U)
theorem gcells_at {G : Gx} {σ : Mem} {c : Nat} (h : c < Gn G) : (gcells G σ)[c]? = some (Ga G c, cE G c σ) := by
  unfold gcells
  rw [List.getElem?_map, List.getElem?_range h]
  rfl
theorem gcells_D {G : Gx} (hG : Gok G) (σ : Mem) : va_D (AA G) (gcells G σ) := by
  have key : ∀ (k : Nat) (q : Nat × va_E), (gcells G σ)[k]? = some q → k < Gn G ∧ q.1 = Ga G k := by
    intro k q h
    have hl : k < Gn G := by
      have := (List.getElem?_eq_some_iff.mp h).1
      unfold gcells at this
      simpa using this
    rw [gcells_at hl] at h
    cases h
    exact ⟨hl, rfl⟩
  refine ⟨fun i j x y hi hj hxy => ?_, fun k q hk => ?_⟩
  · obtain ⟨a1, a2⟩ := key i x hi
    obtain ⟨b1, b2⟩ := key j y hj
    exact hG.1 i j a1 b1 (a2.symm.trans (hxy.trans b2))
  · obtain ⟨a1, a2⟩ := key k q hk
    exact ⟨k, a1, a2.symm⟩
theorem gcells_set {G : Gx} {σ σ' : Mem} {c : Nat} {e : va_E} (he : cE G c σ' = e) (ho : ∀ c', c' ≠ c → σ'.1 c' = σ.1 c' ∧ σ'.2 c' = σ.2 c') : (gcells G σ).set c (Ga G c, e) = gcells G σ' := by
  unfold gcells
  apply List.ext_getElem?
  intro k
  by_cases hk : k < Gn G
  · rw [List.getElem?_map, List.getElem?_range hk]
    by_cases hkc : k = c
    · subst hkc
      rw [List.getElem?_set_self (by simpa using hk), ← he]
      rfl
    · rw [List.getElem?_set_ne (Ne.symm hkc), List.getElem?_map, List.getElem?_range hk]
      obtain ⟨h1, h2⟩ := ho k hkc
      show some (Ga G k, GE G k (σ.1 k) (σ.2 k)) = some (Ga G k, GE G k (σ'.1 k) (σ'.2 k))
      rw [h1, h2]
  · rw [List.getElem?_eq_none (by simp; omega), List.getElem?_eq_none (by simp; omega)]
/-! layouts: cell c is, by lay[c]: (0, n) an int array of n, (1, n) a long array, (2, n) an array of the n int arrays behind it, (3, n) a byte array, (ci + 10, _) an object of class ci, whose fields fso tells -/
abbrev Fs : Type := Nat → Nat → (Nat → Nat) → (Nat → Int32) → List Value
def Ety (cyB cyI cyJ cyO : ClassId) : List (ClassId × FieldType) := [(cyB, .byte), (cyI, .int), (cyJ, .long), (cyO, .array .int)]
def Etab (cyB cyI cyJ cyO : ClassId) (ad : Nat → Nat) (lay : List (Nat × Nat)) (fso : Fs) (c : Nat) (f : Nat → Int32) (g : Nat → Int64) : va_E := match lay.getD c (0, 0) with
  | (0, n) => .inl (cyI, n, .inl f)
  | (1, n) => .inl (cyJ, n, .inr (.inl g))
  | (2, n) => .inl (cyO, n, .inr (.inr (.inr (.inr (fun i => if i < n then some (ad (c + 1 + i)) else none)))))
  | (3, n) => .inl (cyB, n, .inl f)
  | (k + 10, _) => .inr (k, fso k c ad f)
  | _ => .inl (cyI, 0, .inl f)
def IsG (G : Gx) (lay : List (Nat × Nat)) (fso : Fs) : Prop := Gn G = lay.length ∧ ∃ cyB cyI cyJ cyO : ClassId, Gt G = Ety cyB cyI cyJ cyO ∧ ∀ (c : Nat) (f : Nat → Int32) (g : Nat → Int64), GE G c f g = Etab cyB cyI cyJ cyO (Ga G) lay fso c f g
theorem IsG.lt {G : Gx} {lay : List (Nat × Nat)} {fso : Fs} (h : IsG G lay fso) {c : Nat} {q : Nat × Nat} (hc : lay[c]? = some q) : c < Gn G := by
  rw [h.1]
  exact (List.getElem?_eq_some_iff.mp hc).1
theorem IsG.int {G : Gx} {lay : List (Nat × Nat)} {fso : Fs} (h : IsG G lay fso) {c n : Nat} (hc : lay[c]? = some (0, n)) : ∃ cA, (Gt G)[1]? = some (cA, .int) ∧ ∀ σ, (gcells G σ)[c]? = some (Ga G c, .inl (cA, n, .inl (σ.1 c))) := by
  have hlt := h.lt hc
  obtain ⟨-, cyB, cyI, cyJ, cyO, h1, h2⟩ := h
  refine ⟨cyI, by rw [h1]; rfl, fun σ => ?_⟩
  rw [gcells_at hlt]
  unfold cE
  rw [h2]
  unfold Etab
  rw [List.getD_eq_getElem?_getD, hc]
  rfl
theorem IsG.long {G : Gx} {lay : List (Nat × Nat)} {fso : Fs} (h : IsG G lay fso) {c n : Nat} (hc : lay[c]? = some (1, n)) : ∃ cA, (Gt G)[2]? = some (cA, .long) ∧ ∀ σ, (gcells G σ)[c]? = some (Ga G c, .inl (cA, n, .inr (.inl (σ.2 c)))) := by
  have hlt := h.lt hc
  obtain ⟨-, cyB, cyI, cyJ, cyO, h1, h2⟩ := h
  refine ⟨cyJ, by rw [h1]; rfl, fun σ => ?_⟩
  rw [gcells_at hlt]
  unfold cE
  rw [h2]
  unfold Etab
  rw [List.getD_eq_getElem?_getD, hc]
  rfl
theorem IsG.byte {G : Gx} {lay : List (Nat × Nat)} {fso : Fs} (h : IsG G lay fso) {c n : Nat} (hc : lay[c]? = some (3, n)) : ∃ cA, (Gt G)[0]? = some (cA, .byte) ∧ ∀ σ, (gcells G σ)[c]? = some (Ga G c, .inl (cA, n, .inl (σ.1 c))) := by
  have hlt := h.lt hc
  obtain ⟨-, cyB, cyI, cyJ, cyO, h1, h2⟩ := h
  refine ⟨cyB, by rw [h1]; rfl, fun σ => ?_⟩
  rw [gcells_at hlt]
  unfold cE
  rw [h2]
  unfold Etab
  rw [List.getD_eq_getElem?_getD, hc]
  rfl
theorem IsG.rows {G : Gx} {lay : List (Nat × Nat)} {fso : Fs} (h : IsG G lay fso) {c n : Nat} (hc : lay[c]? = some (2, n)) : ∃ cA, (Gt G)[3]? = some (cA, .array .int) ∧ ∀ σ, (gcells G σ)[c]? = some (Ga G c, .inl (cA, n, .inr (.inr (.inr (.inr (fun i => if i < n then some (Ga G (c + 1 + i)) else none)))))) := by
  have hlt := h.lt hc
  obtain ⟨-, cyB, cyI, cyJ, cyO, h1, h2⟩ := h
  refine ⟨cyO, by rw [h1]; rfl, fun σ => ?_⟩
  rw [gcells_at hlt]
  unfold cE
  rw [h2]
  unfold Etab
  rw [List.getD_eq_getElem?_getD, hc]
  rfl
theorem IsG.obj {G : Gx} {lay : List (Nat × Nat)} {fso : Fs} (h : IsG G lay fso) {c ci u : Nat} (hc : lay[c]? = some (ci + 10, u)) : ∀ σ, (gcells G σ)[c]? = some (Ga G c, .inr (ci, fso ci c (Ga G) (σ.1 c))) := by
  have hlt := h.lt hc
  obtain ⟨-, cyB, cyI, cyJ, cyO, h1, h2⟩ := h
  intro σ
  rw [gcells_at hlt]
  unfold cE
  rw [h2]
  unfold Etab
  rw [List.getD_eq_getElem?_getD, hc]
  rfl
def Cpre (G : Gx) (av : List Value) (σ : Mem) : Array Value → State → Prop := fun v U => v = av.toArray ∧ Wo G σ U.heap ∧ va_K (GD G) vwCl (Gt G) U ∧ GX G U
def Cpost (G : Gx) (ov : Option Value) (σ' : Mem) : Array Value → State → Outcome → State → Prop := fun _ st oc t => oc = .returned ov ∧ Wo G σ' t.heap ∧ va_F (AA G) st t
def rmd (d : Nat) : Room := { frames := d, cells := 0, slots := 0, locals := 64 * d }
def Ct (G : Gx) (y : MethodName) (cd : ByteArray) (nL : Nat) (rt : Option FieldType) (d : Nat) (av : List Value) {R : Type} (tv : R → Option Value) (σ : Mem) (ex : Option (R × Mem)) : Prop :=
  ∀ r σ', ex = some (r, σ') → Met (Gl G) y (.code y cd nL rt :: tbG) (rmd d) (Cpre G av σ) (Cpost G (tv r) σ') 0 0 (AA G)
theorem Cpre_blind {G : Gx} (hG : Gok G) (av : List Value) (σ : Mem) : FrameBlind (Cpre G av σ) := by
  intro a U g mk h
  obtain ⟨h1, h2, h3, h4⟩ := h
  exact ⟨h1, h2, va_K.moved (u := U) (U := U.calling g mk a) (Vm.Alike.refl U.vm) h3, hG.2.1 U g mk a h4⟩
def Jp (G : Gx) (p : Program) (e : Env) (s : State) (m : MethodId) (args : Array Value) (below : List Frame) (meth : Method) (c : Code) (nL d : Nat) {R : Type} (tv : R → Option Value) : Option (R × Mem) → Nat → List (Nat × Value) → List Value → Mem → Prop :=
  fun ex pc lv st σ => ∀ r σ', ex = some (r, σ') → ∀ (H : Heap) (locs : List Loc) (ls : Array Slot), Wo G σ H → va_S (AA G) s.heap H locs → lv_has ls nL lv →
    W p (Gl G) e (rmd d) s m args below meth c H locs 0 0 (MQ below (Cpost G (tv r) σ') args s 0 0 (AA G)) (F0 m pc ls st)
/-- P is the judgement of a body: own class, code, locals, return type, depth -/
def Jk (G : Gx) (lay : List (Nat × Nat)) (fso : Fs) (own : String) (cd : ByteArray) (nL : Nat) (rt : Option FieldType) (d : Nat) {R : Type} (tv : R → Option Value) (P : Option (R × Mem) → Nat → List (Nat × Value) → List Value → Mem → Prop) : Prop :=
  ∃ (p : Program) (e : Env) (s : State) (m : MethodId) (args : Array Value) (below : List Frame) (meth : Method) (c : Code),
    p.tables.exec = Jvm.exec ∧ c.code = cd ∧ c.maxLocals = nL ∧ meth.sig.returnType = rt ∧ meth.locks = false ∧ s.vm.findClass own = some m.cls ∧ (∃ a, ∀ w ∈ a :: tbG, w.before args s = true) ∧ va_K (GD G) vwCl (Gt G) s ∧ GX G s ∧ Gok G ∧ IsG G lay fso ∧ P = Jp G p e s m args below meth c nL d tv
theorem Ct.of {G : Gx} {y : MethodName} {cd : ByteArray} {nL : Nat} {rt : Option FieldType} {d : Nat} {av : List Value} {R : Type} {tv : R → Option Value} {σ : Mem} {ex : Option (R × Mem)} {lay : List (Nat × Nat)} {fso : Fs} (hG : Gok G ∧ IsG G lay fso) (hy : plainName y.cls = true) (hav : (lg_sl av).length ≤ nL)
    (k : ∀ P : Option (R × Mem) → Nat → List (Nat × Value) → List Value → Mem → Prop, Jk G lay fso y.cls cd nL rt d tv P → P ex 0 (lv_args 0 av) [] σ) : Ct G y cd nL rt d av tv σ ex := by
  intro r σ' hex
  refine Met.ofW (cc := cd) (maxL := nL) (ret := rt) hy rfl ?_
  intro p e s m args below meth c s₁ B hml hv
  obtain ⟨rfl, hP, hK, hX⟩ := hv
  have hts := atoms_spec (ws := Cond.code y cd nL rt :: tbG) B.pre
  have hown : s.vm.findClass y.cls = some m.cls := findClass_of_methodNamed B.named
  have h := k (Jp G p e s m av.toArray below meth c nL d tv) ⟨p, e, s, m, av.toArray, below, meth, c, B.exec, B.bytes, hml, B.returns, B.notSynchronized, hown, ⟨_, hts⟩, hK, hX, hG.1, hG.2, rfl⟩
  rw [lg_entry_eq]
  exact h r σ' hex s.heap [] _ hP va_S.rf (lv_entry av hav)
