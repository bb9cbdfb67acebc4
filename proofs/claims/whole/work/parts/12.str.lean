/-! strings: five constants, by their places; what their cells hold is given -/
def lenL : List Nat := [3, 2, 3, 4, 7]
def bytL : List (List Int32) := [[42, 47, 37], [43, 45], [60, 62, 61], [103, 116, 104, 120], [112, 119, 114, 107, 108, 100, 109]]
def lenS (i : Nat) : Nat := lenL.getD i 0
def bytC (i j : Nat) : Int32 := (bytL.getD i []).getD j 0
def idxS (i : Nat) : Nat := ([99, 97, 92, 52, 101] : List Nat).getD i 0
def txtS (i : Nat) : String := (["*/%", "+-", "<>=", "gthx", "pwrkldm"] : List String).getD i ""
def StrX (G : Gx) (U : State) : Prop := vk_S 5 lenL bytL (fun i => Ga G (1000 + i)) (fun i => Ga G (1100 + i)) (AA G) U U.heap ∧ va_Z "java/lang/String" "COMPACT_STRINGS" "Z" (.int 1) (AA G) U U.heap ∧ ∀ i : Nat, i < 5 → vk_R RX6 (idxS i) (txtS i) (Ga G (1000 + i)) U
def StrOk (G : Gx) : Prop := ∀ U, GX G U → StrX G U
section RowsS
variable {G : Gx} {lay : List (Nat × Nat)} {fso : Fs} {own : String} {cd : ByteArray} {nL : Nat} {rt : Option FieldType} {d : Nat} {R : Type} {tv : R → Option Value} {P : Option (R × Mem) → Nat → List (Nat × Value) → List Value → Mem → Prop} {ex : Option (R × Mem)} {pc : Nat} {lv : List (Nat × Value)} {st : List Value} {σ : Mem}
theorem jx_ldcs (h : Jk G lay fso RX6 cd nL rt d tv P) (hSt : StrOk G) {i : Nat} (hi : i < 5) (hd : decode cd pc = .ok (.ldc (idxS i), 2)) (k : P ex (pc + 2) lv (.ref (Ga G (1000 + i)) :: st) σ) : P ex pc lv st σ := by
  obtain ⟨p, e, s, m, args, below, meth, cq, hx, hb, hml, hr, hlk, hown, ⟨_, hts⟩, hK, hX, hG, hI, rfl⟩ := h
  intro r σ' he H locs ls hW hS hl
  exact va_ldcS hx hb hown ((hSt s hX).2.2 i hi) hd (k r σ' he H locs ls hW hS hl)
theorem jx_getsS {idx : Nat} (h : Jk G lay fso own cd nL rt d tv P) (hSt : StrOk G) (hf : Cond.fieldLink own idx "java/lang/String" "COMPACT_STRINGS" "Z" ∈ tbG) (hd : decode cd pc = .ok (.getstatic idx, 3)) (k : P ex (pc + 3) lv (.int 1 :: st) σ) : P ex pc lv st σ := by
  obtain ⟨p, e, s, m, args, below, meth, cq, hx, hb, hml, hr, hlk, hown, ⟨_, hts⟩, hK, hX, hG, hI, rfl⟩ := h
  intro r σ' he H locs ls hW hS hl
  exact va_gets hx hb (hSt s hX).2.1 hS hown (hts _ (List.mem_cons_of_mem _ hf)) (fun _ q => q) hd (k r σ' he H locs ls hW hS hl)
theorem jx_getSc {idx i : Nat} (h : Jk G lay fso own cd nL rt d tv P) (hSt : StrOk G) (hf : Cond.fieldLink own idx "java/lang/String" "coder" "B" ∈ tbG) (hi : i < 5) (hd : decode cd pc = .ok (.getfield idx, 3)) (k : P ex (pc + 3) lv (.int 0 :: st) σ) : P ex pc lv (.ref (Ga G (1000 + i)) :: st) σ := by
  obtain ⟨p, e, s, m, args, below, meth, cq, hx, hb, hml, hr, hlk, hown, ⟨_, hts⟩, hK, hX, hG, hI, rfl⟩ := h
  intro r σ' he H locs ls hW hS hl
  exact vk_getf hx hb ((hSt s hX).1.1 i hi).2.1 hS hown (hts _ (List.mem_cons_of_mem _ hf)) (fun _ q => q) hd (k r σ' he H locs ls hW hS hl)
theorem jx_getSv {idx i : Nat} (h : Jk G lay fso own cd nL rt d tv P) (hSt : StrOk G) (hf : Cond.fieldLink own idx "java/lang/String" "value" "[B" ∈ tbG) (hi : i < 5) (hd : decode cd pc = .ok (.getfield idx, 3)) (k : P ex (pc + 3) lv (.ref (Ga G (1100 + i)) :: st) σ) : P ex pc lv (.ref (Ga G (1000 + i)) :: st) σ := by
  obtain ⟨p, e, s, m, args, below, meth, cq, hx, hb, hml, hr, hlk, hown, ⟨_, hts⟩, hK, hX, hG, hI, rfl⟩ := h
  intro r σ' he H locs ls hW hS hl
  exact vk_getf hx hb ((hSt s hX).1.1 i hi).2.2.1 hS hown (hts _ (List.mem_cons_of_mem _ hf)) (fun _ q => q) hd (k r σ' he H locs ls hW hS hl)
theorem jx_alenS {i : Nat} (h : Jk G lay fso own cd nL rt d tv P) (hSt : StrOk G) (hi : i < 5) (hd : decode cd pc = .ok (.arraylength, 1)) (k : P ex (pc + 1) lv (.int (nI (lenS i)) :: st) σ) : P ex pc lv (.ref (Ga G (1100 + i)) :: st) σ := by
  obtain ⟨p, e, s, m, args, below, meth, cq, hx, hb, hml, hr, hlk, hown, ⟨_, hts⟩, hK, hX, hG, hI, rfl⟩ := h
  intro r σ' he H locs ls hW hS hl
  exact va_tlen hx hb ((hSt s hX).1.1 i hi).2.2.2 hS rfl hd (k r σ' he H locs ls hW hS hl)
theorem jx_baloadS {i : Nat} {j : Int32} (h : Jk G lay fso own cd nL rt d tv P) (hSt : StrOk G) (hi : i < 5) (hd : decode cd pc = .ok (.baload, 1)) (k : P ex (pc + 1) lv (.int (bytC i (ix j)) :: st) σ) : P (chk j (lenS i) ex) pc lv (.int j :: .ref (Ga G (1100 + i)) :: st) σ := by
  obtain ⟨p, e, s, m, args, below, meth, cq, hx, hb, hml, hr, hlk, hown, ⟨_, hts⟩, hK, hX, hG, hI, rfl⟩ := h
  intro r σ' he H locs ls hW hS hl
  obtain ⟨hin, he⟩ := chk_eq he
  exact va_tb hx hb ((hSt s hX).1.1 i hi).2.2.2 hS hin rfl hd (k r σ' he H locs ls hW hS hl)
theorem jx_nret {P : Option (Int32 × Mem) → Nat → List (Nat × Value) → List Value → Mem → Prop} {x : Int32} {ty : FieldType} (h : Jk G lay fso own cd nL (some ty) d tvI P) (hn : narrow ty (.int x) = .int x) (hd : decode cd pc = .ok (.ireturn, 1)) : P (some (x, σ)) pc lv [.int x] σ := by
  obtain ⟨p, e, s, m, args, below, meth, cq, hx, hb, hml, hr, hlk, hown, ⟨_, hts⟩, hK, hX, hG, hI, rfl⟩ := h
  intro r σ' he H locs ls hW hS hl
  cases he
  exact W.zret hx hb hr hn (fun t ht _ => jx_fin ht hW hS) hS.2.2 hd
def MT (own : String) (idx : Nat) (y : MethodName) (cd : ByteArray) (nL : Nat) (rt : Option FieldType) (n : Nat) : Prop := (Cond.code y cd nL rt ∈ tbG ∧ Cond.initialized y.cls ∈ tbG ∧ (y.cls ≠ "java/lang/invoke/MethodHandle" ∧ y.cls ≠ "java/lang/invoke/VarHandle" ∧ (parseMethodDescriptor y.desc).map (fun d => d.parameters.length) = some n)) ∧ Cond.instanceMethod y ∈ tbG ∧ Cond.selects y.cls y y ∈ tbG ∧ y.cls = "java/lang/String" ∧ Cond.methodLink own idx y ∈ tbG
theorem jx_callTi {y : MethodName} {cdy : ByteArray} {nLy d' idx i : Nat} {rty : Option FieldType} {As : List Value} {a : Option (Int32 × Mem)} {kf : Int32 → Mem → Option (R × Mem)} (rest : List Value) (h : Jk G lay fso own cd nL rt d tv P) (hSt : StrOk G) (hi : i < 5) (hM : Ct G y cdy nLy rty d' (.ref (Ga G (1000 + i)) :: As) tvI σ a) (hm : MT own idx y cdy nLy rty As.length) (hdd : d' < d) (hn : nLy ≤ 45) (hd : decode cd pc = .ok (.invokevirtual idx, 3)) (hw : (rest.map fun v => v.category).sum ≤ 8) (hst : st = As.reverse ++ .ref (Ga G (1000 + i)) :: rest) (kk : (∀ (r : Int32) (σ1 : Mem), P (kf r σ1) (pc + 3) lv (.int r :: rest) σ1)) : P (bd a kf) pc lv st σ := by
  obtain ⟨p, e, s, m, args, below, meth, cq, hx, hb, hml, hr, hlk, hown, ⟨_, hts⟩, hK, hX, hG, hI, rfl⟩ := h
  intro r σ' he H locs ls hW hS hl
  obtain ⟨r1, σ1, ha, he⟩ := bd_eq he
  have hMet := hM r1 σ1 ha
  obtain ⟨⟨m1, m2, m3⟩, m4, m4b, m6, m5⟩ := hm
  have hpre : PreV s H y.cls (Ga G (1000 + i)) (Cpre G (.ref (Ga G (1000 + i)) :: As) σ) As := ⟨Cpre_blind hG _ σ, by rw [m6]; exact vk_recv (adK := fun i => Ga G (1000 + i)) (hSt s hX).1 hi hS, fun U hU hWm => ⟨rfl, by rw [hU]; exact hW, va_K.moved hWm.alike hK, hG.2.2.1 s U hX hWm (by rw [hU]; exact hS.1) (fun q q1 q2 => by rw [hU]; exact hS.2.1 q q1 q2)⟩⟩
  exact jx_go (va_runV (As := As) (rest := rest) (Ts := _ :: tbG) ⟨hx, hb, hml, hown, hts⟩ hMet ⟨callB_of As.length hts (tbG_call m1) rfl rfl rfl (hts _ (List.mem_cons_of_mem _ m2)) (hts _ (List.mem_cons_of_mem _ m5)) m3 ⟨by show d' + 1 ≤ d; omega, by show 8 + (nLy + 11) + 64 * d' ≤ 64 * d; omega⟩, hts _ (List.mem_cons_of_mem _ m4), hts _ (List.mem_cons_of_mem _ m4b)⟩ hpre rfl rfl hl.1 hst (lv_room hw) hd ⟨Nat.zero_le _, Nat.zero_le _⟩) hS (fun H1 locs1 hW1 hS1 => kk r1 σ1 r σ' he H1 locs1 ls hW1 hS1 hl)
end RowsS
theorem dJ0_length_8abf5_0 : decode cJ0_length_8abf5 0 = .ok (.aload_n 0, 1) := by decide +kernel
theorem dJ0_length_8abf5_1 : decode cJ0_length_8abf5 1 = .ok (.getfield 9, 3) := by decide +kernel
theorem dJ0_length_8abf5_4 : decode cJ0_length_8abf5 4 = .ok (.arraylength, 1) := by decide +kernel
theorem dJ0_length_8abf5_5 : decode cJ0_length_8abf5 5 = .ok (.aload_n 0, 1) := by decide +kernel
theorem dJ0_length_8abf5_6 : decode cJ0_length_8abf5 6 = .ok (.invokevirtual 335, 3) := by decide +kernel
theorem dJ0_length_8abf5_9 : decode cJ0_length_8abf5 9 = .ok (.ishr, 1) := by decide +kernel
theorem dJ0_length_8abf5_10 : decode cJ0_length_8abf5 10 = .ok (.ireturn, 1) := by decide +kernel
theorem dJ0_indexOf_0f7a4_0 : decode cJ0_indexOf_0f7a4 0 = .ok (.aload_n 0, 1) := by decide +kernel
theorem dJ0_indexOf_0f7a4_1 : decode cJ0_indexOf_0f7a4 1 = .ok (.iload_n 1, 1) := by decide +kernel
theorem dJ0_indexOf_0f7a4_2 : decode cJ0_indexOf_0f7a4 2 = .ok (.iconst 0, 1) := by decide +kernel
theorem dJ0_indexOf_0f7a4_3 : decode cJ0_indexOf_0f7a4 3 = .ok (.invokevirtual 633, 3) := by decide +kernel
theorem dJ0_indexOf_0f7a4_6 : decode cJ0_indexOf_0f7a4 6 = .ok (.ireturn, 1) := by decide +kernel
theorem dJ0_indexOf_7cf53_0 : decode cJ0_indexOf_7cf53 0 = .ok (.aload_n 0, 1) := by decide +kernel
theorem dJ0_indexOf_7cf53_1 : decode cJ0_indexOf_7cf53 1 = .ok (.invokevirtual 492, 3) := by decide +kernel
theorem dJ0_indexOf_7cf53_4 : decode cJ0_indexOf_7cf53 4 = .ok (.ifCond .eq 19, 3) := by decide +kernel
theorem dJ0_indexOf_7cf53_7 : decode cJ0_indexOf_7cf53 7 = .ok (.aload_n 0, 1) := by decide +kernel
theorem dJ0_indexOf_7cf53_8 : decode cJ0_indexOf_7cf53 8 = .ok (.getfield 9, 3) := by decide +kernel
theorem dJ0_indexOf_7cf53_11 : decode cJ0_indexOf_7cf53 11 = .ok (.iload_n 1, 1) := by decide +kernel
theorem dJ0_indexOf_7cf53_12 : decode cJ0_indexOf_7cf53 12 = .ok (.iload_n 2, 1) := by decide +kernel
theorem dJ0_indexOf_7cf53_13 : decode cJ0_indexOf_7cf53 13 = .ok (.aload_n 0, 1) := by decide +kernel
theorem dJ0_indexOf_7cf53_14 : decode cJ0_indexOf_7cf53 14 = .ok (.invokevirtual 505, 3) := by decide +kernel
theorem dJ0_indexOf_7cf53_17 : decode cJ0_indexOf_7cf53 17 = .ok (.invokestatic 637, 3) := by decide +kernel
theorem dJ0_indexOf_7cf53_20 : decode cJ0_indexOf_7cf53 20 = .ok (.goto 16, 3) := by decide +kernel
theorem dJ0_indexOf_7cf53_23 : decode cJ0_indexOf_7cf53 23 = .ok (.aload_n 0, 1) := by decide +kernel
theorem dJ0_indexOf_7cf53_24 : decode cJ0_indexOf_7cf53 24 = .ok (.getfield 9, 3) := by decide +kernel
theorem dJ0_indexOf_7cf53_27 : decode cJ0_indexOf_7cf53 27 = .ok (.iload_n 1, 1) := by decide +kernel
theorem dJ0_indexOf_7cf53_28 : decode cJ0_indexOf_7cf53 28 = .ok (.iload_n 2, 1) := by decide +kernel
theorem dJ0_indexOf_7cf53_29 : decode cJ0_indexOf_7cf53 29 = .ok (.aload_n 0, 1) := by decide +kernel
theorem dJ0_indexOf_7cf53_30 : decode cJ0_indexOf_7cf53 30 = .ok (.invokevirtual 505, 3) := by decide +kernel
theorem dJ0_indexOf_7cf53_33 : decode cJ0_indexOf_7cf53 33 = .ok (.invokestatic 640, 3) := by decide +kernel
theorem dJ0_indexOf_7cf53_36 : decode cJ0_indexOf_7cf53 36 = .ok (.ireturn, 1) := by decide +kernel
theorem dJ0_coder_7d493_0 : decode cJ0_coder_7d493 0 = .ok (.getstatic 38, 3) := by decide +kernel
theorem dJ0_coder_7d493_3 : decode cJ0_coder_7d493 3 = .ok (.ifCond .eq 10, 3) := by decide +kernel
theorem dJ0_coder_7d493_6 : decode cJ0_coder_7d493 6 = .ok (.aload_n 0, 1) := by decide +kernel
theorem dJ0_coder_7d493_7 : decode cJ0_coder_7d493 7 = .ok (.getfield 15, 3) := by decide +kernel
theorem dJ0_coder_7d493_10 : decode cJ0_coder_7d493 10 = .ok (.goto 4, 3) := by decide +kernel
theorem dJ0_coder_7d493_13 : decode cJ0_coder_7d493 13 = .ok (.iconst 1, 1) := by decide +kernel
theorem dJ0_coder_7d493_14 : decode cJ0_coder_7d493 14 = .ok (.ireturn, 1) := by decide +kernel
theorem dJ0_isLatin1_aae02_0 : decode cJ0_isLatin1_aae02 0 = .ok (.getstatic 38, 3) := by decide +kernel
theorem dJ0_isLatin1_aae02_3 : decode cJ0_isLatin1_aae02 3 = .ok (.ifCond .eq 14, 3) := by decide +kernel
theorem dJ0_isLatin1_aae02_6 : decode cJ0_isLatin1_aae02 6 = .ok (.aload_n 0, 1) := by decide +kernel
theorem dJ0_isLatin1_aae02_7 : decode cJ0_isLatin1_aae02 7 = .ok (.getfield 15, 3) := by decide +kernel
theorem dJ0_isLatin1_aae02_10 : decode cJ0_isLatin1_aae02 10 = .ok (.ifCond .ne 7, 3) := by decide +kernel
theorem dJ0_isLatin1_aae02_13 : decode cJ0_isLatin1_aae02 13 = .ok (.iconst 1, 1) := by decide +kernel
theorem dJ0_isLatin1_aae02_14 : decode cJ0_isLatin1_aae02 14 = .ok (.goto 4, 3) := by decide +kernel
theorem dJ0_isLatin1_aae02_17 : decode cJ0_isLatin1_aae02 17 = .ok (.iconst 0, 1) := by decide +kernel
theorem dJ0_isLatin1_aae02_18 : decode cJ0_isLatin1_aae02 18 = .ok (.ireturn, 1) := by decide +kernel
theorem dJ1_canEncode_9a6ad_0 : decode cJ1_canEncode_9a6ad 0 = .ok (.iload_n 0, 1) := by decide +kernel
theorem dJ1_canEncode_9a6ad_1 : decode cJ1_canEncode_9a6ad 1 = .ok (.ifCond .lt 14, 3) := by decide +kernel
theorem dJ1_canEncode_9a6ad_4 : decode cJ1_canEncode_9a6ad 4 = .ok (.iload_n 0, 1) := by decide +kernel
theorem dJ1_canEncode_9a6ad_5 : decode cJ1_canEncode_9a6ad 5 = .ok (.sipush 255, 3) := by decide +kernel
theorem dJ1_canEncode_9a6ad_8 : decode cJ1_canEncode_9a6ad 8 = .ok (.if_icmp .gt 7, 3) := by decide +kernel
theorem dJ1_canEncode_9a6ad_11 : decode cJ1_canEncode_9a6ad 11 = .ok (.iconst 1, 1) := by decide +kernel
theorem dJ1_canEncode_9a6ad_12 : decode cJ1_canEncode_9a6ad 12 = .ok (.goto 4, 3) := by decide +kernel
theorem dJ1_canEncode_9a6ad_15 : decode cJ1_canEncode_9a6ad 15 = .ok (.iconst 0, 1) := by decide +kernel
theorem dJ1_canEncode_9a6ad_16 : decode cJ1_canEncode_9a6ad 16 = .ok (.ireturn, 1) := by decide +kernel
theorem dJ1_indexOf_4cfef_0 : decode cJ1_indexOf_4cfef 0 = .ok (.iload_n 1, 1) := by decide +kernel
theorem dJ1_indexOf_4cfef_1 : decode cJ1_indexOf_4cfef 1 = .ok (.invokestatic 88, 3) := by decide +kernel
theorem dJ1_indexOf_4cfef_4 : decode cJ1_indexOf_4cfef 4 = .ok (.ifCond .ne 5, 3) := by decide +kernel
theorem dJ1_indexOf_4cfef_7 : decode cJ1_indexOf_4cfef 7 = .ok (.iconst (-1), 1) := by decide +kernel
theorem dJ1_indexOf_4cfef_8 : decode cJ1_indexOf_4cfef 8 = .ok (.ireturn, 1) := by decide +kernel
theorem dJ1_indexOf_4cfef_9 : decode cJ1_indexOf_4cfef 9 = .ok (.iload_n 2, 1) := by decide +kernel
theorem dJ1_indexOf_4cfef_10 : decode cJ1_indexOf_4cfef 10 = .ok (.iconst 0, 1) := by decide +kernel
theorem dJ1_indexOf_4cfef_11 : decode cJ1_indexOf_4cfef 11 = .ok (.invokestatic 92, 3) := by decide +kernel
theorem dJ1_indexOf_4cfef_14 : decode cJ1_indexOf_4cfef 14 = .ok (.istore_n 2, 1) := by decide +kernel
theorem dJ1_indexOf_4cfef_15 : decode cJ1_indexOf_4cfef 15 = .ok (.iload_n 3, 1) := by decide +kernel
theorem dJ1_indexOf_4cfef_16 : decode cJ1_indexOf_4cfef 16 = .ok (.aload_n 0, 1) := by decide +kernel
theorem dJ1_indexOf_4cfef_17 : decode cJ1_indexOf_4cfef 17 = .ok (.arraylength, 1) := by decide +kernel
theorem dJ1_indexOf_4cfef_18 : decode cJ1_indexOf_4cfef 18 = .ok (.invokestatic 38, 3) := by decide +kernel
theorem dJ1_indexOf_4cfef_21 : decode cJ1_indexOf_4cfef 21 = .ok (.istore_n 3, 1) := by decide +kernel
theorem dJ1_indexOf_4cfef_22 : decode cJ1_indexOf_4cfef 22 = .ok (.iload_n 2, 1) := by decide +kernel
theorem dJ1_indexOf_4cfef_23 : decode cJ1_indexOf_4cfef 23 = .ok (.iload_n 3, 1) := by decide +kernel
theorem dJ1_indexOf_4cfef_24 : decode cJ1_indexOf_4cfef 24 = .ok (.if_icmp .lt 5, 3) := by decide +kernel
theorem dJ1_indexOf_4cfef_27 : decode cJ1_indexOf_4cfef 27 = .ok (.iconst (-1), 1) := by decide +kernel
theorem dJ1_indexOf_4cfef_28 : decode cJ1_indexOf_4cfef 28 = .ok (.ireturn, 1) := by decide +kernel
theorem dJ1_indexOf_4cfef_29 : decode cJ1_indexOf_4cfef 29 = .ok (.aload_n 0, 1) := by decide +kernel
theorem dJ1_indexOf_4cfef_30 : decode cJ1_indexOf_4cfef 30 = .ok (.iload_n 1, 1) := by decide +kernel
theorem dJ1_indexOf_4cfef_31 : decode cJ1_indexOf_4cfef 31 = .ok (.iload_n 2, 1) := by decide +kernel
theorem dJ1_indexOf_4cfef_32 : decode cJ1_indexOf_4cfef 32 = .ok (.iload_n 3, 1) := by decide +kernel
theorem dJ1_indexOf_4cfef_33 : decode cJ1_indexOf_4cfef 33 = .ok (.invokestatic 95, 3) := by decide +kernel
theorem dJ1_indexOf_4cfef_36 : decode cJ1_indexOf_4cfef 36 = .ok (.ireturn, 1) := by decide +kernel
theorem dJ1_indexOfChar_4cfef_0 : decode cJ1_indexOfChar_4cfef 0 = .ok (.iload_n 1, 1) := by decide +kernel
theorem dJ1_indexOfChar_4cfef_1 : decode cJ1_indexOfChar_4cfef 1 = .ok (.i2b, 1) := by decide +kernel
theorem dJ1_indexOfChar_4cfef_2 : decode cJ1_indexOfChar_4cfef 2 = .ok (.istore 4, 2) := by decide +kernel
theorem dJ1_indexOfChar_4cfef_4 : decode cJ1_indexOfChar_4cfef 4 = .ok (.iload_n 2, 1) := by decide +kernel
theorem dJ1_indexOfChar_4cfef_5 : decode cJ1_indexOfChar_4cfef 5 = .ok (.istore 5, 2) := by decide +kernel
theorem dJ1_indexOfChar_4cfef_7 : decode cJ1_indexOfChar_4cfef 7 = .ok (.iload 5, 2) := by decide +kernel
theorem dJ1_indexOfChar_4cfef_9 : decode cJ1_indexOfChar_4cfef 9 = .ok (.iload_n 3, 1) := by decide +kernel
theorem dJ1_indexOfChar_4cfef_10 : decode cJ1_indexOfChar_4cfef 10 = .ok (.if_icmp .ge 21, 3) := by decide +kernel
theorem dJ1_indexOfChar_4cfef_13 : decode cJ1_indexOfChar_4cfef 13 = .ok (.aload_n 0, 1) := by decide +kernel
theorem dJ1_indexOfChar_4cfef_14 : decode cJ1_indexOfChar_4cfef 14 = .ok (.iload 5, 2) := by decide +kernel
theorem dJ1_indexOfChar_4cfef_16 : decode cJ1_indexOfChar_4cfef 16 = .ok (.baload, 1) := by decide +kernel
theorem dJ1_indexOfChar_4cfef_17 : decode cJ1_indexOfChar_4cfef 17 = .ok (.iload 4, 2) := by decide +kernel
theorem dJ1_indexOfChar_4cfef_19 : decode cJ1_indexOfChar_4cfef 19 = .ok (.if_icmp .ne 6, 3) := by decide +kernel
theorem dJ1_indexOfChar_4cfef_22 : decode cJ1_indexOfChar_4cfef 22 = .ok (.iload 5, 2) := by decide +kernel
theorem dJ1_indexOfChar_4cfef_24 : decode cJ1_indexOfChar_4cfef 24 = .ok (.ireturn, 1) := by decide +kernel
theorem dJ1_indexOfChar_4cfef_25 : decode cJ1_indexOfChar_4cfef 25 = .ok (.iinc 5 1, 3) := by decide +kernel
theorem dJ1_indexOfChar_4cfef_28 : decode cJ1_indexOfChar_4cfef 28 = .ok (.goto (-21), 3) := by decide +kernel
theorem dJ1_indexOfChar_4cfef_31 : decode cJ1_indexOfChar_4cfef 31 = .ok (.iconst (-1), 1) := by decide +kernel
theorem dJ1_indexOfChar_4cfef_32 : decode cJ1_indexOfChar_4cfef 32 = .ok (.ireturn, 1) := by decide +kernel
theorem fs_J0_9 : Cond.fieldLink RJ0 9 "java/lang/String" "value" "[B" ∈ tbG := tw 1751 (by decide +kernel) rfl
theorem mk_J0_coder_7d493 : Cond.code yJ0_coder_7d493 cJ0_coder_7d493 1 (some .byte) ∈ tbG ∧ Cond.initialized yJ0_coder_7d493.cls ∈ tbG ∧ (yJ0_coder_7d493.cls ≠ "java/lang/invoke/MethodHandle" ∧ yJ0_coder_7d493.cls ≠ "java/lang/invoke/VarHandle" ∧ (parseMethodDescriptor yJ0_coder_7d493.desc).map (fun d => d.parameters.length) = some 0) := ⟨tw 575 (by decide +kernel) rfl, tw 116 (by decide +kernel) rfl, by decide +kernel, by decide +kernel, by decide +kernel⟩
theorem ml_J0_335 : MT RJ0 335 yJ0_coder_7d493 cJ0_coder_7d493 1 (some .byte) 0 := ⟨mk_J0_coder_7d493, tw 573 (by decide +kernel) rfl, tw 574 (by decide +kernel) rfl, rfl, tw 572 (by decide +kernel) rfl⟩
theorem mk_J0_indexOf_7cf53 : Cond.code yJ0_indexOf_7cf53 cJ0_indexOf_7cf53 3 (some .int) ∈ tbG ∧ Cond.initialized yJ0_indexOf_7cf53.cls ∈ tbG ∧ (yJ0_indexOf_7cf53.cls ≠ "java/lang/invoke/MethodHandle" ∧ yJ0_indexOf_7cf53.cls ≠ "java/lang/invoke/VarHandle" ∧ (parseMethodDescriptor yJ0_indexOf_7cf53.desc).map (fun d => d.parameters.length) = some 2) := ⟨tw 561 (by decide +kernel) rfl, tw 116 (by decide +kernel) rfl, by decide +kernel, by decide +kernel, by decide +kernel⟩
theorem ml_J0_633 : MT RJ0 633 yJ0_indexOf_7cf53 cJ0_indexOf_7cf53 3 (some .int) 2 := ⟨mk_J0_indexOf_7cf53, tw 559 (by decide +kernel) rfl, tw 560 (by decide +kernel) rfl, rfl, tw 558 (by decide +kernel) rfl⟩
theorem mk_J0_isLatin1_aae02 : Cond.code yJ0_isLatin1_aae02 cJ0_isLatin1_aae02 1 (some .boolean) ∈ tbG ∧ Cond.initialized yJ0_isLatin1_aae02.cls ∈ tbG ∧ (yJ0_isLatin1_aae02.cls ≠ "java/lang/invoke/MethodHandle" ∧ yJ0_isLatin1_aae02.cls ≠ "java/lang/invoke/VarHandle" ∧ (parseMethodDescriptor yJ0_isLatin1_aae02.desc).map (fun d => d.parameters.length) = some 0) := ⟨tw 565 (by decide +kernel) rfl, tw 116 (by decide +kernel) rfl, by decide +kernel, by decide +kernel, by decide +kernel⟩
theorem ml_J0_492 : MT RJ0 492 yJ0_isLatin1_aae02 cJ0_isLatin1_aae02 1 (some .boolean) 0 := ⟨mk_J0_isLatin1_aae02, tw 563 (by decide +kernel) rfl, tw 564 (by decide +kernel) rfl, rfl, tw 562 (by decide +kernel) rfl⟩
theorem mk_J0_length_8abf5 : Cond.code yJ0_length_8abf5 cJ0_length_8abf5 1 (some .int) ∈ tbG ∧ Cond.initialized yJ0_length_8abf5.cls ∈ tbG ∧ (yJ0_length_8abf5.cls ≠ "java/lang/invoke/MethodHandle" ∧ yJ0_length_8abf5.cls ≠ "java/lang/invoke/VarHandle" ∧ (parseMethodDescriptor yJ0_length_8abf5.desc).map (fun d => d.parameters.length) = some 0) := ⟨tw 571 (by decide +kernel) rfl, tw 116 (by decide +kernel) rfl, by decide +kernel, by decide +kernel, by decide +kernel⟩
theorem ml_J0_505 : MT RJ0 505 yJ0_length_8abf5 cJ0_length_8abf5 1 (some .int) 0 := ⟨mk_J0_length_8abf5, tw 569 (by decide +kernel) rfl, tw 570 (by decide +kernel) rfl, rfl, tw 568 (by decide +kernel) rfl⟩
theorem mk_J1_indexOf_4cfef : Cond.code yJ1_indexOf_4cfef cJ1_indexOf_4cfef 4 (some .int) ∈ tbG ∧ Cond.initialized yJ1_indexOf_4cfef.cls ∈ tbG ∧ (yJ1_indexOf_4cfef.cls ≠ "java/lang/invoke/MethodHandle" ∧ yJ1_indexOf_4cfef.cls ≠ "java/lang/invoke/VarHandle" ∧ (parseMethodDescriptor yJ1_indexOf_4cfef.desc).map (fun d => d.parameters.length) = some 4) := ⟨tw 578 (by decide +kernel) rfl, tw 117 (by decide +kernel) rfl, by decide +kernel, by decide +kernel, by decide +kernel⟩
theorem ml_J0_637 : MS RJ0 637 yJ1_indexOf_4cfef cJ1_indexOf_4cfef 4 (some .int) 4 := ⟨mk_J1_indexOf_4cfef, tw 577 (by decide +kernel) rfl, Or.inl (tw 576 (by decide +kernel) rfl)⟩
theorem fs_J0_38 : Cond.fieldLink RJ0 38 "java/lang/String" "COMPACT_STRINGS" "Z" ∈ tbG := tw 566 (by decide +kernel) rfl
theorem fs_J0_15 : Cond.fieldLink RJ0 15 "java/lang/String" "coder" "B" ∈ tbG := tw 1750 (by decide +kernel) rfl
theorem mk_J1_canEncode_9a6ad : Cond.code yJ1_canEncode_9a6ad cJ1_canEncode_9a6ad 1 (some .boolean) ∈ tbG ∧ Cond.initialized yJ1_canEncode_9a6ad.cls ∈ tbG ∧ (yJ1_canEncode_9a6ad.cls ≠ "java/lang/invoke/MethodHandle" ∧ yJ1_canEncode_9a6ad.cls ≠ "java/lang/invoke/VarHandle" ∧ (parseMethodDescriptor yJ1_canEncode_9a6ad.desc).map (fun d => d.parameters.length) = some 1) := ⟨tw 581 (by decide +kernel) rfl, tw 117 (by decide +kernel) rfl, by decide +kernel, by decide +kernel, by decide +kernel⟩
theorem ml_J1_88 : MS RJ1 88 yJ1_canEncode_9a6ad cJ1_canEncode_9a6ad 1 (some .boolean) 1 := ⟨mk_J1_canEncode_9a6ad, tw 580 (by decide +kernel) rfl, Or.inl (tw 579 (by decide +kernel) rfl)⟩
theorem mm_J1_92 : Cond.methodLink RJ1 92 Lib.Math.max.name ∈ tbG ∧ Cond.static Lib.Math.max.name ∈ tbG ∧ Cond.initialized "java/lang/Math" ∈ tbG ∧ Cond.code Lib.Math.max.name Lib.Math.max.code 2 (some .int) ∈ tbG := ⟨tw 582 (by decide +kernel) rfl, tw 583 (by decide +kernel) rfl, tw 115 (by decide +kernel) rfl, tw 584 (by decide +kernel) rfl⟩
theorem mm_J1_38 : Cond.methodLink RJ1 38 Lib.Math.min.name ∈ tbG ∧ Cond.static Lib.Math.min.name ∈ tbG ∧ Cond.initialized "java/lang/Math" ∈ tbG ∧ Cond.code Lib.Math.min.name Lib.Math.min.code 2 (some .int) ∈ tbG := ⟨tw 585 (by decide +kernel) rfl, tw 536 (by decide +kernel) rfl, tw 115 (by decide +kernel) rfl, tw 537 (by decide +kernel) rfl⟩
theorem mk_J1_indexOfChar_4cfef : Cond.code yJ1_indexOfChar_4cfef cJ1_indexOfChar_4cfef 6 (some .int) ∈ tbG ∧ Cond.initialized yJ1_indexOfChar_4cfef.cls ∈ tbG ∧ (yJ1_indexOfChar_4cfef.cls ≠ "java/lang/invoke/MethodHandle" ∧ yJ1_indexOfChar_4cfef.cls ≠ "java/lang/invoke/VarHandle" ∧ (parseMethodDescriptor yJ1_indexOfChar_4cfef.desc).map (fun d => d.parameters.length) = some 4) := ⟨tw 588 (by decide +kernel) rfl, tw 117 (by decide +kernel) rfl, by decide +kernel, by decide +kernel, by decide +kernel⟩
theorem ml_J1_95 : MS RJ1 95 yJ1_indexOfChar_4cfef cJ1_indexOfChar_4cfef 6 (some .int) 4 := ⟨mk_J1_indexOfChar_4cfef, tw 587 (by decide +kernel) rfl, Or.inl (tw 586 (by decide +kernel) rfl)⟩
theorem mk_J0_indexOf_0f7a4 : Cond.code yJ0_indexOf_0f7a4 cJ0_indexOf_0f7a4 2 (some .int) ∈ tbG ∧ Cond.initialized yJ0_indexOf_0f7a4.cls ∈ tbG ∧ (yJ0_indexOf_0f7a4.cls ≠ "java/lang/invoke/MethodHandle" ∧ yJ0_indexOf_0f7a4.cls ≠ "java/lang/invoke/VarHandle" ∧ (parseMethodDescriptor yJ0_indexOf_0f7a4.desc).map (fun d => d.parameters.length) = some 1) := ⟨tw 557 (by decide +kernel) rfl, tw 116 (by decide +kernel) rfl, by decide +kernel, by decide +kernel, by decide +kernel⟩
theorem ml_X6_107 : MT RX6 107 yJ0_indexOf_0f7a4 cJ0_indexOf_0f7a4 2 (some .int) 1 := ⟨mk_J0_indexOf_0f7a4, tw 555 (by decide +kernel) rfl, tw 556 (by decide +kernel) rfl, rfl, tw 554 (by decide +kernel) rfl⟩
