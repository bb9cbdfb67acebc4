/-! new int[n][k]: what the machine makes, row by row -/
def gdI (cI : ClassId) (K : Nat) : Cell := arrV cI K (fun _ => .int 0)
def gdO (cO : ClassId) (N h i : Nat) : Cell := arrV cO N (fun j => va_rf (if j < i then some (h + 1 + j) else none))
def gdS (T : State) (cO cI : ClassId) (N K : Nat) : Nat → State
  | 0 => T.pushCell (gdO cO N T.heap.size 0)
  | i + 1 => ((gdS T cO cI N K i).pushCell (gdI cI K)).setCell T.heap.size (gdO cO N T.heap.size (i + 1))
theorem gdO_0 (cO : ClassId) (N h : Nat) : ({ cls := cO, slots := Array.replicate N .null, vm := .none } : Cell) = gdO cO N h 0 := by
  rw [arrV_new]
  exact congrArg (arrV cO N) (funext fun j => by simp [va_rf])
theorem gdO_s (cO : ClassId) (N h i : Nat) : (gdO cO N h i).setSlot i (.ref (h + 1 + i)) = gdO cO N h (i + 1) := by
  unfold gdO
  rw [arrV_store]
  refine congrArg (arrV cO N) (funext fun j => ?_)
  unfold updV
  by_cases e : j = i
  · subst e
    rw [if_pos rfl, if_pos (Nat.lt_succ_self j)]
    rfl
  · rw [if_neg e]
    show va_rf (if j < i then some (h + 1 + j) else none) = _
    by_cases g : j < i
    · rw [if_pos g, if_pos (Nat.lt_succ_of_lt g)]
    · rw [if_neg g, if_neg (by omega)]
theorem gdO_sz (cO : ClassId) (N h i : Nat) : (gdO cO N h i).slots.size = N := arrV_size _ _ _
theorem gdI_sz (cI : ClassId) (K : Nat) : (gdI cI K).slots.size = K := arrV_size _ _ _
section GD
variable {cO cI : ClassId} {N K : Nat}
theorem gd_f (T : State) : ∀ i, (gdS T cO cI N K i).heap.size = T.heap.size + 1 + i ∧ (gdS T cO cI N K i).heap[T.heap.size]? = some (gdO cO N T.heap.size i) ∧ (gdS T cO cI N K i).vm = T.vm ∧ (gdS T cO cI N K i).slotsUsed = T.slotsUsed + N + i * K
  | 0 => by
    refine ⟨size_pushCell _ _, State.heap_pushCell_size _ _, rfl, ?_⟩
    show T.slotsUsed + (gdO cO N T.heap.size 0).slots.size = _
    rw [gdO_sz]
    omega
  | i + 1 => by
    obtain ⟨a, b, d, u⟩ := gd_f T i
    have hlt : T.heap.size < (gdS T cO cI N K i).heap.size := by omega
    have hb' : ((gdS T cO cI N K i).pushCell (gdI cI K)).heap[T.heap.size]? = some (gdO cO N T.heap.size i) := by
      rw [State.heap_pushCell_of_lt (h := hlt)]
      exact b
    refine ⟨?_, State.heap_setCell_self hb', d, ?_⟩
    · show (((gdS T cO cI N K i).pushCell (gdI cI K)).setCell T.heap.size _).heap.size = _
      rw [size_setCell, size_pushCell, a]
      omega
    · show (gdS T cO cI N K i).slotsUsed + (gdI cI K).slots.size = _
      rw [gdI_sz, u, Nat.succ_mul]
      omega
theorem gd_old (T : State) {q : Addr} (hq : q < T.heap.size) : ∀ i, (gdS T cO cI N K i).heap[q]? = T.heap[q]?
  | 0 => State.heap_pushCell_of_lt _ _ hq
  | i + 1 => by
    have f1 := (gd_f (cO := cO) (cI := cI) (N := N) (K := K) T i).1
    have hlt : q < (gdS T cO cI N K i).heap.size := by rw [f1]; exact Nat.lt_of_lt_of_le hq (by omega)
    show (((gdS T cO cI N K i).pushCell (gdI cI K)).setCell T.heap.size _).heap[q]? = _
    rw [State.heap_setCell_other (Nat.ne_of_gt hq), State.heap_pushCell_of_lt (h := hlt)]
    exact gd_old T hq i
theorem gd_row (T : State) : ∀ i j, j < i → (gdS T cO cI N K i).heap[T.heap.size + 1 + j]? = some (gdI cI K)
  | 0, _, h => absurd h (Nat.not_lt_zero _)
  | i + 1, j, h => by
    have f1 := (gd_f (cO := cO) (cI := cI) (N := N) (K := K) T i).1
    show (((gdS T cO cI N K i).pushCell (gdI cI K)).setCell T.heap.size _).heap[T.heap.size + 1 + j]? = _
    rw [State.heap_setCell_other (show T.heap.size ≠ T.heap.size + 1 + j by omega)]
    by_cases g : j < i
    · have hlt : T.heap.size + 1 + j < (gdS T cO cI N K i).heap.size := by rw [f1]; omega
      rw [State.heap_pushCell_of_lt (h := hlt)]
      exact gd_row T i j g
    · rw [show T.heap.size + 1 + j = (gdS T cO cI N K i).heap.size by omega]
      exact State.heap_pushCell_size _ _
theorem gd_top (T : State) (f : JFrame) : ∀ i, gdS (T.setTop f) cO cI N K i = (gdS T cO cI N K i).setTop f
  | 0 => rfl
  | i + 1 => by simp only [gdS, gd_top T f i, State.heap_setTop, State.pushCell_setTop, State.setCell_setTop]
theorem gd_stand {p : Program} {l : Launch} {e : Env} {R : Room} {s : State} {m : MethodId} {args : Array Value} {below : List Frame} {meth : Method} {c : Code} {T : State} {locs : List Loc} {cells slots : Nat} (X : Stand p l e R s m args below meth c T locs cells slots) : ∀ i, ∃ L : List Loc, (∀ q ∈ L, q.base = T.heap.size) ∧ Stand p l e R s m args below meth c (gdS T cO cI N K i) (locs ++ L) (cells + 1 + i) (slots + N + i * K)
  | 0 => by
    have h := X.pushed (gdO cO N T.heap.size 0)
    rw [gdO_sz] at h
    refine ⟨[], fun _ h => absurd h List.not_mem_nil, ?_⟩
    rw [List.append_nil, Nat.zero_mul]
    exact h
  | i + 1 => by
    obtain ⟨L, hL, Xi⟩ := gd_stand X i
    obtain ⟨a, b, d, u⟩ := gd_f (cO := cO) (cI := cI) (N := N) (K := K) T i
    have hlt : T.heap.size < (gdS T cO cI N K i).heap.size := by omega
    have hb' : ((gdS T cO cI N K i).pushCell (gdI cI K)).heap[T.heap.size]? = some (gdO cO N T.heap.size i) := by
      rw [State.heap_pushCell_of_lt (h := hlt)]
      exact b
    have h := (Xi.pushed (gdI cI K)).stored hb' i (.ref (T.heap.size + 1 + i))
    rw [gdI_sz, gdO_s] at h
    refine ⟨L ++ [⟨T.heap.size, i⟩], fun q hq => ?_, ?_⟩
    · rcases List.mem_append.mp hq with z | z
      · exact hL q z
      · rw [List.mem_singleton.mp z]
    · rw [← List.append_assoc, show slots + N + (i + 1) * K = slots + N + i * K + K by rw [Nat.succ_mul]; omega]
      exact h
end GD
section GDW
variable {E : CtlPost} {e : Env} {d : Bool} {acts : List Action} {s : State}
/-- a new array, all at its default -/
theorem wp_gd0 {c comp : ClassId} {k : Class} {type : FieldType} {len : Nat} {v : Value} (hk : s.vm.classes[c]? = some k) (hkind : k.kind = .array comp type) (hl : len ≤ e.platform.arrayLengthLimit) (hh : len * componentBytes type ≤ e.platform.maxHeapBytes) (hf : fits type v = true) (hv : v.isDefault = true) (h1 : s.heap.size < e.platform.maxCells) (h2 : s.slotsUsed + len ≤ e.platform.maxSlots) {Q : Addr → Pre} (hq : Q s.heap.size d acts (s.pushCell (arrV c len (fun _ => v)))) : wp (Jvm.newArray c len v) Q E e d acts s := by
  have hfs : ∀ i x, (Array.replicate len v)[i]? = some x → s.fitsSlot c .none i x = true := by
    intro i x hx
    rw [Array.getElem?_replicate] at hx
    split at hx
    · cases hx
      simp [State.fitsSlot, State.slotType?, hk, hkind, hf]
    · cases hx
  have hall : ((Array.replicate len v).all (·.isDefault)) = true := by
    rw [Array.all_replicate]
    split <;> simp [hv]
  have hac : allocActs (Array.replicate len v) s.heap.size acts = acts := by
    unfold allocActs
    rw [if_pos hall]
  rw [← arrV_new] at hq
  have n1 : ¬ len > e.platform.arrayLengthLimit := by omega
  have n2 : ¬ len * componentBytes type > e.platform.maxHeapBytes := by omega
  simp only [Jvm.newArray, Jvm.arrayFits, wp_bind', Jvm.W.ask, Jvm.W.ite, n1, if_false, wp_pure', Jvm.W.theClass, hk, hkind, n2, Jvm.W.alloc, Jvm.W.stop, Option.some.injEq, exists_eq_left', Array.size_replicate, hac]
  rw [if_neg (by omega)]
  exact ⟨h1, h2, hfs, hq⟩
/-- one row -/
theorem wp_gd1 {cI cc : ClassId} {kI : Class} {K : Int32} (hk : s.vm.classes[cI]? = some kI) (hkind : kI.kind = .array cc .int) (hK : ¬ K < 0) (hl : K.toNatClampNeg ≤ e.platform.arrayLengthLimit) (hh : K.toNatClampNeg * 4 ≤ e.platform.maxHeapBytes) (h1 : s.heap.size < e.platform.maxCells) (h2 : s.slotsUsed + K.toNatClampNeg ≤ e.platform.maxSlots) {Q : Addr → Pre} (hq : Q s.heap.size d acts (s.pushCell (gdI cI K.toNatClampNeg))) : wp (multianewarray.make cI [K]) Q E e d acts s := by
  rw [multianewarray.make]
  simp only [wp_bind', Jvm.W.ite, hK, if_false, wp_pure', Jvm.W.theClass, hk, hkind, Option.some.injEq, exists_eq_left']
  exact wp_gd0 hk hkind hl hh rfl rfl h1 h2 hq
/-- all rows -/
theorem wp_gd2 {cO cI cc : ClassId} {kO kI : Class} {n K : Int32} (hk : s.vm.classes[cO]? = some kO) (hkind : kO.kind = .array cI (.array .int)) (hk' : s.vm.classes[cI]? = some kI) (hkind' : kI.kind = .array cc .int) (hn : ¬ n < 0) (hK : ¬ K < 0) (hl : n.toNatClampNeg ≤ e.platform.arrayLengthLimit) (hh : n.toNatClampNeg * 4 ≤ e.platform.maxHeapBytes) (hl' : K.toNatClampNeg ≤ e.platform.arrayLengthLimit) (hh' : K.toNatClampNeg * 4 ≤ e.platform.maxHeapBytes) (h1 : s.heap.size + 1 + n.toNatClampNeg ≤ e.platform.maxCells) (h2 : s.slotsUsed + n.toNatClampNeg + n.toNatClampNeg * K.toNatClampNeg ≤ e.platform.maxSlots) {Q : Addr → Pre} (hq : ∀ d' acts', Q s.heap.size d' acts' (gdS s cO cI n.toNatClampNeg K.toNatClampNeg n.toNatClampNeg)) : wp (multianewarray.make cO [n, K]) Q E e d acts s := by
  have hno : ([K].find? (· < 0)) = none := by simp [hK]
  have hz := Nat.zero_le (n.toNatClampNeg * K.toNatClampNeg)
  rw [multianewarray.make]
  simp only [wp_bind', Jvm.W.ite, hn, if_false, wp_pure', Jvm.W.theClass, hk, hkind, Option.some.injEq, exists_eq_left']
  refine wp_gd0 hk hkind hl hh rfl rfl (by omega) (by omega) ?_
  simp only [hno]
  rw [ite_self, wp_bind', Std.Legacy.Range.forIn_eq_forIn_range', show ([:n.toNatClampNeg] : Std.Legacy.Range).size = n.toNatClampNeg by simp [Std.Legacy.Range.size]]
  show wp (forIn (List.range' 0 n.toNatClampNeg 1) PUnit.unit _) _ E e d acts _
  rw [← arrV_new, gdO_0 cO n.toNatClampNeg s.heap.size]
  refine wp_forIn_inv (fun rest t => ∃ i, i + rest.length = n.toNatClampNeg ∧ rest = List.range' i rest.length ∧ t = gdS s cO cI n.toNatClampNeg K.toNatClampNeg i) _ _ ⟨0, by simp, by simp, rfl⟩ ?_ ?_
  · rintro x rest t d' acts' Q' ⟨i, hi, hr, rfl⟩ hnext
    rw [List.length_cons] at hi hr
    rw [List.range'_succ] at hr
    obtain ⟨rfl, hr⟩ := List.cons.inj hr
    obtain ⟨f1, f2, f3, f4⟩ := gd_f (cO := cO) (cI := cI) (N := n.toNatClampNeg) (K := K.toNatClampNeg) s x
    have hmul : x * K.toNatClampNeg + K.toNatClampNeg ≤ n.toNatClampNeg * K.toNatClampNeg := by
      have := Nat.mul_le_mul_right K.toNatClampNeg (show x + 1 ≤ n.toNatClampNeg by omega)
      rw [Nat.succ_mul] at this
      exact this
    simp only [wp_bind']
    refine wp_gd1 (by rw [f3]; exact hk') hkind' hK hl' hh' (by rw [f1]; omega) (by rw [f4]; omega) ?_
    have hlt : s.heap.size < (gdS s cO cI n.toNatClampNeg K.toNatClampNeg x).heap.size := by rw [f1]; omega
    simp only [wp_bind', Jvm.W.writeLoc, wp_pure']
    refine ⟨gdO cO n.toNatClampNeg s.heap.size x, by rw [State.heap_pushCell_of_lt (h := hlt)]; exact f2, (fun h => by cases h), (by rw [gdO_sz]; omega), ?_, hnext _ _ _ ⟨x + 1, by omega, hr, ?_⟩⟩
    · show State.fitsSlot _ cO .none x _ = true
      simp [State.fitsSlot, State.slotType?, f3, hk, hkind, fits]
    · rw [f1, gdO_s]
      rfl
  · rintro t d' acts' ⟨i, hi, -, rfl⟩
    have : i = n.toNatClampNeg := hi
    rw [this]
    simp only [wp_pure']
    exact hq _ _
end GDW
theorem over_spec {args : Array Value} {first s : State} {o : Option Outcome} {idx : List Nat} (h : (Cond.arrayOver (.array .int)).holds args first o s idx = true) : ∃ cI cO kO, s.vm.findClass "[I" = some cI ∧ s.vm.classes[cO]? = some kO ∧ kO.kind = .array cI (.array .int) ∧ s.vm.findClass "[[I" = some cO := by
  simp only [Cond.holds, Cond.value, beq_iff_eq] at h
  cases hc : s.vm.findClass (FieldType.array .int).toString with
  | none => simp [hc] at h
  | some cI =>
    simp only [hc, Option.bind_some, Option.bind_eq_some_iff, Option.map_eq_some_iff] at h
    obtain ⟨cO, hi, kO, hk, hb⟩ := h
    obtain ⟨hlt, hp, -⟩ := Array.findIdx?_eq_some_iff_getElem.mp hi
    rw [(Array.getElem?_eq_some_iff.mp hk).2] at hp
    cases hkind : kO.kind with
    | array component ty =>
      rw [hkind] at hb hp
      simp at hb hp
      exact ⟨cI, cO, kO, hc, hk, by rw [hkind, hp, hb.1], hb.2⟩
    | _ => rw [hkind] at hb; simp at hb
theorem gd_step {p : Program} {l : Launch} {e : Env} {R : Room} {s : State} {m : MethodId} {args : Array Value} {below : List Frame} {meth : Method} {c : Code} {T : State} {locs : List Loc} {cells slots : Nat} (X : Stand p l e R s m args below meth c T locs cells slots) (hexec : p.tables.exec = Jvm.exec) {own : String} {index : Nat} (hown : s.vm.findClass own = some m.cls) (hclink : (Cond.classLink own index "[[I").before args s = true) (hover : (Cond.arrayOver (.array .int)).before args s = true) (harr : (Cond.arrayClass .int).before args s = true) {g : JFrame} (hg : g.method = m) (hdg : decode c.code g.pc = .ok (.multianewarray index 2, 4)) {n K : Int32} {rest : List Value} (hstack : g.stack = .int K :: .int n :: rest) (hn : ¬ n < 0) (hK : ¬ K < 0) (hb1 : n.toNatClampNeg ≤ 1000) (hb2 : K.toNatClampNeg ≤ 1000) (hcells : cells + (1 + n.toNatClampNeg) ≤ R.cells) (hslots : slots + (n.toNatClampNeg + n.toNatClampNeg * K.toNatClampNeg) ≤ R.slots) :
    ∃ (vm₁ : Vm) (cO cI : ClassId) (L : List Loc), (∀ q ∈ L, q.base = T.heap.size) ∧ s.vm.findClass "[[I" = some cO ∧ s.vm.findClass "[I" = some cI ∧ Stand p l e R s m args below meth c (gdS (T.setVm vm₁) cO cI n.toNatClampNeg K.toNatClampNeg n.toNatClampNeg) (locs ++ L) (cells + 1 + n.toNatClampNeg) (slots + n.toNatClampNeg + n.toNatClampNeg * K.toNatClampNeg) ∧ ∀ target, Steps p.tables e below ((gdS (T.setVm vm₁) cO cI n.toNatClampNeg K.toNatClampNeg n.toNatClampNeg).setTop { g with pc := g.pc + 4, stack := .ref T.heap.size :: rest }) target → Steps p.tables e below (T.setTop g) target := by
  subst hg
  have hpl : e.platform.magicAccessors = ({} : Platform).magicAccessors := by rw [X.admits.platform]
  obtain ⟨cI, cO, kO, hI, hkO, hkindO, hO⟩ := over_spec hover
  obtain ⟨cI', kI, cc, hI', hkI, hkindI⟩ := Cond.arrayClass_spec harr
  have eI : cI' = cI := Option.some.inj (hI'.symm.trans hI)
  subst eI
  obtain ⟨c0, hc0, hcl⟩ := Cond.classLink_spec hown hclink e.platform hpl
  cases hO.symm.trans hc0
  obtain ⟨hg₁, hwarm, hready⟩ := State.classEntry (e := e) X.warmed hcl
  generalize T.vm.noted g.method.cls index (.cls cO) = vm₁ at hg₁ hwarm hready
  have hal : s.vm.Alike vm₁ := hwarm.alike
  obtain ⟨kO₁, hkO₁, heO⟩ := hal.2.2 _ _ hkO
  obtain ⟨kI₁, hkI₁, heI⟩ := hal.2.2 _ _ hkI
  have hkindO₁ : kO₁.kind = .array cI' (.array .int) := by rw [heO]; exact hkindO
  have hkindI₁ : kI₁.kind = .array cc .int := by rw [heI]; exact hkindI
  have X₁ := X.noted hwarm
  obtain ⟨hr1, hr2⟩ := X.roomAbove hcells hslots
  obtain ⟨L, hL, XF⟩ := gd_stand (cO := cO) (cI := cI') (N := n.toNatClampNeg) (K := K.toNatClampNeg) X₁ n.toNatClampNeg
  refine ⟨vm₁, cO, cI', L, hL, hO, hI, XF, fun target hrest => ?_⟩
  have hl1 : n.toNatClampNeg ≤ e.platform.arrayLengthLimit := by rw [Launch.admits_arrayLengthLimit X.admits]; omega
  have hh1 : n.toNatClampNeg * 4 ≤ e.platform.maxHeapBytes := by rw [Launch.admits_maxHeapBytes X.admits]; omega
  have hl2 : K.toNatClampNeg ≤ e.platform.arrayLengthLimit := by rw [Launch.admits_arrayLengthLimit X.admits]; omega
  have hh2 : K.toNatClampNeg * 4 ≤ e.platform.maxHeapBytes := by rw [Launch.admits_maxHeapBytes X.admits]; omega
  jvm_step X.here [hexec, hdg]
  simp only [multianewarray.sem, wp_bind', Jvm.W.resolveClassAt_links (State.method?_setTop g X.here.top) hg₁]
  rw [Jvm.W.popN, if_neg (by decide)]
  refine ⟨g, State.topJava?_setTop' (s := T.setVm vm₁) g X.here.top, [.int n, .int K], rest, rfl, hstack, ?_⟩
  simp only [List.mapM_cons, List.mapM_nil, wp_bind', wp_pure']
  refine wp_gd2 (kO := kO₁) (kI := kI₁) (cI := cI') (cc := cc) hkO₁ hkindO₁ hkI₁ hkindI₁ hn hK hl1 hh1 hl2 hh2 (by show T.heap.size + 1 + _ ≤ _; omega) (by show T.slotsUsed + _ + _ ≤ _; omega) (fun d' acts' => ?_)
  have eS : ((T.setTop g).setVm vm₁).setTop { g with stack := rest } = (T.setVm vm₁).setTop { g with stack := rest } := by
    show ((T.setVm vm₁).setTop g).setTop _ = _
    rw [State.setTop_setTop]
  rw [eS, gd_top]
  simp only [wp_bind', Jvm.W.mark, Jvm.W.pushRef, State.topJava?_setTop' _ XF.here.top, Option.some.injEq, exists_eq_left', State.setTop_setTop, State.heap_setTop]
  intro acts
  simp [jvm, XF.here.top]
  exact hrest
