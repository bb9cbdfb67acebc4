/-! THE LAW, from its entry (words by program) -/
theorem df_X10 : ∀ j, j < 56 → defaultValue (tyX10 j) = vp_V fs10 j := by
  intro j hj
  rcases (show j = 0 ∨ j = 1 ∨ j = 2 ∨ j = 3 ∨ j = 4 ∨ j = 5 ∨ j = 6 ∨ j = 7 ∨ j = 8 ∨ j = 9 ∨ j = 10 ∨ j = 11 ∨ j = 12 ∨ j = 13 ∨ j = 14 ∨ j = 15 ∨ j = 16 ∨ j = 17 ∨ j = 18 ∨ j = 19 ∨ j = 20 ∨ j = 21 ∨ j = 22 ∨ j = 23 ∨ j = 24 ∨ j = 25 ∨ j = 26 ∨ j = 27 ∨ j = 28 ∨ j = 29 ∨ j = 30 ∨ j = 31 ∨ j = 32 ∨ j = 33 ∨ j = 34 ∨ j = 35 ∨ j = 36 ∨ j = 37 ∨ j = 38 ∨ j = 39 ∨ j = 40 ∨ j = 41 ∨ j = 42 ∨ j = 43 ∨ j = 44 ∨ j = 45 ∨ j = 46 ∨ j = 47 ∨ j = 48 ∨ j = 49 ∨ j = 50 ∨ j = 51 ∨ j = 52 ∨ j = 53 ∨ j = 54 ∨ j = 55 by omega) with rfl | rfl | rfl | rfl | rfl | rfl | rfl | rfl | rfl | rfl | rfl | rfl | rfl | rfl | rfl | rfl | rfl | rfl | rfl | rfl | rfl | rfl | rfl | rfl | rfl | rfl | rfl | rfl | rfl | rfl | rfl | rfl | rfl | rfl | rfl | rfl | rfl | rfl | rfl | rfl | rfl | rfl | rfl | rfl | rfl | rfl | rfl | rfl | rfl | rfl | rfl | rfl | rfl | rfl | rfl | rfl <;> rfl
theorem nw_X9 : Cond.classLink RL 7 RX9 ∈ tbG ∧ Cond.instantiable RX9 12 ∈ tbG ∧ Cond.initialized RX9 ∈ tbG := ⟨tw 123 (by decide +kernel) rfl, tw 124 (by decide +kernel) rfl, tw 104 (by decide +kernel) rfl⟩
theorem ni_X9 : Cond.code yX9_init cX9_init 1 none ∈ tbG ∧ Cond.initialized yX9_init.cls ∈ tbG ∧ (yX9_init.cls ≠ "java/lang/invoke/MethodHandle" ∧ yX9_init.cls ≠ "java/lang/invoke/VarHandle" ∧ (parseMethodDescriptor yX9_init.desc).map (fun d => d.parameters.length) = some 0) ∧ Cond.instanceMethod yX9_init ∈ tbG ∧ Cond.methodLink RL 9 yX9_init ∈ tbG := ⟨tw 127 (by decide +kernel) rfl, tw 104 (by decide +kernel) rfl, ⟨by decide +kernel, by decide +kernel, by decide +kernel⟩, tw 126 (by decide +kernel) rfl, tw 125 (by decide +kernel) rfl⟩
theorem nw_X10 : Cond.classLink RL 10 RX10 ∈ tbG ∧ Cond.instantiable RX10 56 ∈ tbG ∧ Cond.initialized RX10 ∈ tbG := ⟨tw 1159 (by decide +kernel) rfl, tw 1160 (by decide +kernel) rfl, tw 114 (by decide +kernel) rfl⟩
theorem ni_X10 : Cond.code yX10_init cX10_init 2 none ∈ tbG ∧ Cond.initialized yX10_init.cls ∈ tbG ∧ (yX10_init.cls ≠ "java/lang/invoke/MethodHandle" ∧ yX10_init.cls ≠ "java/lang/invoke/VarHandle" ∧ (parseMethodDescriptor yX10_init.desc).map (fun d => d.parameters.length) = some 0) ∧ Cond.instanceMethod yX10_init ∈ tbG ∧ Cond.methodLink RL 12 yX10_init ∈ tbG := ⟨tw 1163 (by decide +kernel) rfl, tw 114 (by decide +kernel) rfl, ⟨by decide +kernel, by decide +kernel, by decide +kernel⟩, tw 1162 (by decide +kernel) rfl, tw 1161 (by decide +kernel) rfl⟩
/-- the making of an object in the law -/
theorem lw_make {p : Program} {e : Env} {s : State} {m : MethodId} {below : List Frame} {meth : Method} {c : Code} {H : Heap} {locs : List Loc} {Q : State → Prop} {ls : Array Slot} {b L : Nat} {xs : Nat → Int32} {l : Launch} {D : va_G} {tys : List (ClassId × FieldType)} {ws : va_W} {pc k n idx idx2 ci N mc ms d' nLy : Nat} {C : String} {T : u_T} {ty : Nat → FieldType} {fs0 : List Value} {y : MethodName} {cdy : ByteArray} {S' : Type} {cW' : Nat → S' → va_W}
    (C0 : lw_At p s m meth c b L xs) (hK : va_K D vwCl tys s) (hXN : XN s) (hvc : vwCl[ci]? = some (C, T, N)) (hws : ∀ w ∈ u_ws C T N, w ∈ tbG) (hty : ∀ k, k < N → parseFieldDescriptor (T k).2.2.1 = some (ty k)) (hn3 : Cond.classLink RL idx C ∈ tbG ∧ Cond.instantiable C N ∈ tbG ∧ Cond.initialized C ∈ tbG) (hfs : ∀ j, j < N → defaultValue (ty j) = vp_V fs0 j) (hM : Kc l D tys y cdy nLy d' mc ms ci fs0 cW')
    (hi5 : Cond.code y cdy nLy none ∈ tbG ∧ Cond.initialized y.cls ∈ tbG ∧ (y.cls ≠ "java/lang/invoke/MethodHandle" ∧ y.cls ≠ "java/lang/invoke/VarHandle" ∧ (parseMethodDescriptor y.desc).map (fun d => d.parameters.length) = some 0) ∧ Cond.instanceMethod y ∈ tbG ∧ Cond.methodLink RL idx2 y ∈ tbG) (hname : y.name = "<init>") (hdd : d' ≤ 1000) (hnl : nLy ≤ 45) (hk : k + 1 + mc ≤ 600000) (hn : n + N + ms ≤ 7302249)
    (d0 : decode code pc = .ok (.new idx, 3)) (d1 : decode code (pc + 3) = .ok (.dup, 1)) (d2 : decode code (pc + 4) = .ok (.invokespecial idx2, 3)) (hP : va_P D vwCl ws H) (hD : va_D (lwA s) ws) (hS : va_S (lwA s) s.heap H locs) (hls : ls.size = 4)
    (kk : ∀ (q : Nat) (u : S') (H1 : Heap) (locs1 : List Loc), va_P D vwCl (ws ++ cW' q u) H1 → va_D (lwA s) (ws ++ cW' q u) → va_S (lwA s) s.heap H1 locs1 → W p l e room_1 s m #[Value.ref b] below meth c H1 locs1 (k + 1 + mc) (n + N + ms) Q (F0 m (pc + 7) ls [.ref q])) : W p l e room_1 s m #[Value.ref b] below meth c H locs k n Q (F0 m pc ls []) := by
  obtain ⟨hx, hb, hr, hml, hown, hts, hX0, hbl, hlocks, hgv⟩ := C0
  obtain ⟨m1, m2, m3, m4, m5⟩ := hi5
  have htt : ∀ w ∈ Cond.code y cdy nLy none :: tbG, w.before #[Value.ref b] s = true := fun w hw => by
    rcases List.mem_cons.mp hw with rfl | h
    · exact hts _ (List.mem_filter.mp m1).1
    · exact hts _ (List.mem_filter.mp h).1
  have hA : ∀ q : Nat, s.heap.size ≤ q → lwA s q := fun _ h => h
  refine va_new (D := D) (own := RL) hx hb htt (fun w hw => List.mem_cons_of_mem _ (hws w hw)) ty hty hown (htt _ (List.mem_cons_of_mem _ hn3.1)) (htt _ (List.mem_cons_of_mem _ hn3.2.1)) (htt _ (List.mem_cons_of_mem _ hn3.2.2)) hK hP hD hS hA hvc hfs (by show k + 1 ≤ 600000; omega) (by show n + N ≤ 7302249; omega) d0 (fun q H1 hP1 hD1 hS1 => ?_)
  refine lv_dup hx hb d1 rfl ?_
  have hPc : va_P D vwCl [(q, .inr (ci, fs0))] H1 := fun i z hz => by
    have hj0 : i < 1 := (List.getElem?_eq_some_iff.mp hz).1
    rw [show i = 0 by omega] at hz
    cases hz
    exact hP1 ws.length _ (by simp)
  have hFc : ∀ z, va_A [(q, .inr (ci, fs0))] H1.size z → lwA s z := fun z hz => by
    rcases hz with ⟨j, e, hj⟩ | hz
    · have hj0 : j < 1 := (List.getElem?_eq_some_iff.mp hj).1
      rw [show j = 0 by omega] at hj
      cases hj
      exact hD1.2 ws.length (q, .inr (ci, fs0)) (by simp)
    · exact hA z (Nat.le_trans hS1.1 hz)
  have hpre : PreS s H1 (va_Pc [.ref q] (kcP D tys q H1.size ci fs0)) (.ref q :: []) := ⟨fun a U g mk z => by
    obtain ⟨z0, z1, zP, zK, zX⟩ := z
    exact ⟨z0, z1, zP, va_K.moved (u := U) (U := U.calling g mk a) (Vm.Alike.refl U.vm) zK, zX.same rfl⟩, fun U hU hWm => ⟨rfl, by rw [hU], by rw [hU]; exact hPc, va_K.moved hWm.alike hK, hXN.warm hWm⟩⟩
  refine va_callv (va_runI (As := []) (rest := [.ref q]) (own := RL) (Ts := Cond.code y cdy nLy none :: tbG) ⟨hx, hb, hml, hown, htt⟩ (hM q H1.size) ⟨callB_of 0 htt (tbG_call m1) rfl rfl rfl (htt _ (List.mem_cons_of_mem _ m2)) (htt _ (List.mem_cons_of_mem _ m5)) m3 ⟨by show d' + 1 ≤ 2048; omega, by show 8 + (nLy + 11) + 64 * d' ≤ 84000; omega⟩, hname, htt _ (List.mem_cons_of_mem _ m4)⟩ hpre rfl rfl hls rfl (lv_room (Nat.le_of_ble_eq_true rfl)) d2 ⟨by show k + 1 + mc ≤ 600000; omega, by show n + N + ms ≤ 7302249; omega⟩) hS1 (fun z _ h => hFc z h) hFc (fun u t H2 locs2 ht hvm _ hB hz1 hk1 hS2 => ?_)
  obtain ⟨hP2, hD2⟩ := hB
  rw [ht] at hP2
  obtain ⟨hP3, hD3⟩ := cx_join hP1 hD1 hk1 hFc hP2 hD2
  exact kk q u H2 locs2 hP3 hD3 hS2
theorem w9_len {cyI cyJ cyO : ClassId} {h0 : Nat} {u : UC} : (w_X9 cyI cyJ cyO h0 u).length = 127 := by
  show (_ :: _).length = 127
  rw [List.length_cons]
  exact congrArg (· + 1) (wl_11 (cyI := cyI) (cyJ := cyJ) (cyO := cyO) (h0 := h0) (u := u))
/-- both layouts, at the beginning -/
theorem lay_at {l : Launch} {s : State} {b : Nat} {D : va_G} {cyB cyI cyJ cyO : ClassId} {q1 q2 : Nat} {u1 : UC} {u2 : Nat → Nat} {H : Heap} (hts : ∀ w ∈ lw_tbl, w.before #[Value.ref b] s = true) (hgv : (Jvm.Cond.and given_1 narrow_1).before #[Value.ref b] s = true) (hK : va_K D vwCl (Ety cyB cyI cyJ cyO) s) (hP : va_P D vwCl (w_X9 cyI cyJ cyO q1 u1 ++ w_X10 cyB cyI q2 u2) H) (hD : va_D (lwA s) (w_X9 cyI cyJ cyO q1 u1 ++ w_X10 cyB cyI q2 u2)) :
    ∃ gc gm : Gx, Lg l s gc layC fsoC ∧ StrOk gc ∧ Lg l s gm layM fsoM ∧ (∀ q, AA gc q → ¬ AA gm q) ∧ Wo gc s0 H ∧ Wo gm t0 H ∧ Ga gc 0 = q1 ∧ Ga gm 0 = q2 := by
  have hXN := xn_at hts
  obtain ⟨adK, adV, s1, s2, s3⟩ := str_at hgv hts (A := lwA s) (fun a h => Nat.not_le.mpr h)
  obtain ⟨sa, hsa⟩ : ∃ sa : Nat → Nat, sa = fun c => if c < 1100 then adK (c - 1000) else adV (c - 1100) := ⟨_, rfl⟩
  have a1 : ∀ i, i < 5 → adC q1 u1 sa (1000 + i) = adK i := fun i hi => by
    rw [adC_sa (by omega), hsa]
    show (if 1000 + i < 1100 then adK (1000 + i - 1000) else adV (1000 + i - 1100)) = adK i
    rw [if_pos (by omega), Nat.add_sub_cancel_left]
  have a2 : ∀ i, i < 5 → adC q1 u1 sa (1100 + i) = adV i := fun i hi => by
    rw [adC_sa (by omega), hsa]
    show (if 1100 + i < 1100 then adK (1100 + i - 1000) else adV (1100 + i - 1100)) = adV i
    rw [if_neg (by omega), Nat.add_sub_cancel_left]
  have hDc : va_D (lwA s) (w_X9 cyI cyJ cyO q1 u1) := ⟨fun i j x y hi hj => hD.1 i j x y (ap_l hi) (ap_l hj), fun i x hi => hD.2 i x (ap_l hi)⟩
  have hDm : va_D (lwA s) (w_X10 cyB cyI q2 u2) := ⟨fun i j x y hi hj hxy => by
    have := hD.1 (127 + i) (127 + j) x y (ap_r w9_len hi rfl) (ap_r w9_len hj rfl) hxy
    omega, fun i x hi => hD.2 (127 + i) x (ap_r w9_len hi rfl)⟩
  have inc := gcL_in l D cyB (sa := sa) hDc
  have inm : ∀ i : Nat, i < 42 → lwA s (adM q2 u2 i) := gM_in (l := l) (D := D) (cyJ := cyJ) (cyO := cyO) hDm
  refine ⟨gcL l D cyB cyI cyJ cyO (adC q1 u1 sa) (gcX (adC q1 u1 sa)), gM l D cyB cyI cyJ cyO (adM q2 u2) XN, ⟨⟨gcL_ok (gcL_inj l D cyB hDc), gcL_is _ _ _ _ _ _ _ _⟩, rfl, ⟨hXN, ?_, ?_, ?_⟩, hK, ?_⟩, gcL_st, ⟨⟨gM_ok (gM_inj (l := l) (D := D) (cyJ := cyJ) (cyO := cyO) hDm), gM_is _ _ _ _ _ _ _ _⟩, rfl, hXN, hK, ?_⟩, ?_, gcL_wo (fun k q h => hP k q (ap_l h)), gM_wo (fun k q h => hP (127 + k) q (ap_r w9_len h rfl)), rfl, rfl⟩
  · refine vkS_by (s1.narrow (fun q hq => ?_)) a1 a2
    obtain ⟨c, hc, rfl⟩ := hq
    exact inc c hc
  · refine s2.narrow (fun q hq => ?_)
    obtain ⟨c, hc, rfl⟩ := hq
    exact inc c hc
  · intro i hi
    rw [a1 i hi]
    exact s3 i hi
  · rintro q ⟨c, hc, rfl⟩
    exact inc c hc
  · rintro q ⟨c, hc, rfl⟩
    exact inm c hc
  · rintro q ⟨c, hc, rfl⟩ ⟨c', hc', e⟩
    have w1 := wC_all l D cyB cyI cyJ cyO q1 u1 sa (fun _ => True) c hc
    have w2 := wM_all l D cyB cyI cyJ cyO q2 u2 (fun _ => True) c' hc'
    have hlt := (List.getElem?_eq_some_iff.mp w1).1
    rw [w9_len] at hlt
    have := hD.1 (psC c) (127 + c') _ _ (ap_l w1) (ap_r w9_len w2 rfl) e.symm
    omega
set_option maxHeartbeats 4000000 in
theorem whole_start {p : Program} {e : Env} {s : State} {m : MethodId} {below : List Frame} {meth : Method} {c : Code} (l : Launch) (hflags : l.flags = flags0) {b L : Nat} {xs : Nat → Int32} (hL : L ≤ 3072) (C0 : lw_At p s m meth c b L xs) : W p l e room_1 s m #[Value.ref b] below meth c s.heap [] 0 0 (lw_Z below #[Value.ref b] s) (entryFrame m ([Value.ref b] : List Value).toArray 4) := by
  obtain ⟨hx, hb, hr, hml, hown, hts, hX, hbl, hlocks, hgv⟩ := id C0
  obtain ⟨D, cyB, cyI, cyJ, cyO, hK⟩ := k_at hts
  have hXN := xn_at hts
  have hP0 : va_P D vwCl [] s.heap := fun k q h => by simp at h
  have hD0 : va_D (lwA s) [] := ⟨fun i j p q h => by simp at h, fun k q h => by simp at h⟩
  have hl := lv_entry ([.ref b]) (n := 4) (Nat.le_of_ble_eq_true rfl)
  rw [lg_entry_eq]
  generalize (lg_sl ([.ref b]) ++ List.replicate (4 - (lg_sl ([.ref b])).length) Slot.unset).toArray = ls at hl ⊢
  have hl : lv_has ls 4 [(0, .ref b)] := hl
  refine lw_make (pc := 0) (ws := []) (fs0 := [.null, .null, .null, .null, .null, .null, .null, .null, .null, .null, .null, .int 0]) C0 hK hXN (ci := 9) rfl wsin_X9 tyX9_ok nw_X9 df_X9 (k_X9_init l D cyB cyI cyJ cyO) ni_X9 rfl (by decide) (by decide) (Nat.le_of_ble_eq_true rfl) (Nat.le_of_ble_eq_true rfl) dL_0 dL_3 dL_4 hP0 hD0 va_S.rf hl.1 (fun q1 u1 H1 locs1 hP1 hD1 hS1 => ?_)
  have hP1 : va_P D vwCl (w_X9 cyI cyJ cyO q1 u1) H1 := hP1
  have hD1 : va_D (lwA s) (w_X9 cyI cyJ cyO q1 u1) := hD1
  refine lv_astore_n (lv' := [(1, .ref q1), (0, .ref b)]) hx hb dL_7 rfl hl (by decide) rfl (fun ls hl => ?_)
  refine lw_make (pc := 8) (ws := w_X9 cyI cyJ cyO q1 u1) (fs0 := fs10) C0 hK hXN (ci := 10) rfl wsin_X10 tyX10_ok nw_X10 df_X10 (k_X10_init l D cyB cyI cyJ cyO) ni_X10 rfl (by decide) (by decide) (Nat.le_of_ble_eq_true rfl) (Nat.le_of_ble_eq_true rfl) dL_8 dL_11 dL_12 hP1 hD1 hS1 hl.1 (fun q2 u2 H2 locs2 hP2 hD2 hS2 => ?_)
  refine lv_astore_n (lv' := [(2, .ref q2), (1, .ref q1), (0, .ref b)]) hx hb dL_15 rfl hl (by decide) rfl (fun ls hl => ?_)
  refine lv_iconst (v := nI 0) hx hb dL_16 (by decide) ?_
  refine lv_istore_n (lv' := [(3, .int (nI 0)), (2, .ref q2), (1, .ref q1), (0, .ref b)]) hx hb dL_17 rfl hl (by decide) rfl (fun ls hl => ?_)
  obtain ⟨gc, gm, g1, g2, g3, g4, g5, g6, g7, g8⟩ := lay_at (l := l) hts hgv hK hP2 hD2
  subst g7
  subst g8
  refine W.widen (k := 170) (n := 9118) (Nat.le_of_ble_eq_true rfl) (Nat.le_of_ble_eq_true rfl) ?_
  exact law_loop 50000 (Nat.le_refl _) ⟨p, l, e, s, m, below, meth, c, C0, hL, g1, g2, g3, g4, rfl⟩ (L + 1) 0 s0 t0 (by omega) (by omega) RR0 H2 locs2 ls g5 g6 hS2 (lv_sub hl [3, 2, 1, 0] rfl)
