/-! the reference's constructor -/
section CX4
variable {l : Launch} {D : va_G} {cyB cyI cyJ cyO : ClassId} {own : String} {cd : ByteArray} {nL d mc ms : Nat} {S : Type} {cW : S → va_W} {P : Nat → List (Nat × Value) → List Value → va_W → Nat → Nat → Prop} {pc k n : Nat} {lv : List (Nat × Value)} {st : List Value} {ws : va_W}
theorem cx_get {idx ci kf x : Nat} {v : Value} {fs : List Value} (h : Ck l D (Ety cyB cyI cyJ cyO) own cd nL d mc ms cW P) (fa : FD own idx ci kf) (hd : decode cd pc = .ok (.getfield idx, 3)) (hv : fs[kf]? = some v) (kk : P (pc + 3) lv (v :: st) ((x, .inr (ci, fs)) :: ws) k n) : P pc lv (.ref x :: st) ((x, .inr (ci, fs)) :: ws) k n := by
  obtain ⟨A, p, e, s, m, args, below, meth, c, hx, hb, hml, hr, hlk, hin, hown, ⟨_, hts⟩, hK, hX, hA, rfl⟩ := h
  intro H locs ls hP hD hS hl
  obtain ⟨C, T, N, hvc, hk, hws, hlk2⟩ := fa
  exact va_get (D := D) hx hb hts (fun w hw => List.mem_cons_of_mem _ (hws w hw)) hown hK hP 0 rfl hvc kf hk (hts _ (List.mem_cons_of_mem _ hlk2)) (fun _ h9 => h9) hv hd (kk H locs ls hP hD hS hl)
theorem cx_iast {x N : Nat} {f : Nat → Int32} {i v : Int32} {c0 : Nat × va_E} (h : Ck l D (Ety cyB cyI cyJ cyO) own cd nL d mc ms cW P) (hin : vp_in i N) (hd : decode cd pc = .ok (.iastore, 1)) (kk : P (pc + 1) lv st (c0 :: (x, .inl (cyI, N, .inl (upd f (ix i) v))) :: ws) k n) : P pc lv (.int v :: .int i :: .ref x :: st) (c0 :: (x, .inl (cyI, N, .inl f)) :: ws) k n := by
  obtain ⟨A, p, e, s, m, args, below, meth, c, hx, hb, hml, hr, hlk, hin', hown, ⟨_, hts⟩, hK, hX, hA, rfl⟩ := h
  intro H locs ls hP hD hS hl
  exact va_iast (D := D) hx hb hK hP hD hS 1 1 rfl rfl hin hd (fun H1 locs1 hP1 hD1 hS1 => kk H1 locs1 ls hP1 hD1 hS1 hl)
theorem cx_istore {j : Fin 4} {i : Nat} {x : Int32} {lv' : List (Nat × Value)} (h : Ck l D (Ety cyB cyI cyJ cyO) own cd nL d mc ms cW P) (hd : decode cd pc = .ok (.istore_n j, 1)) (hi : (j : Nat) = i) (hn : i < nL) (hf : (i, Value.int x) :: lv.filter (fun q => !(q.1 == i) && !(q.1 + 1 == i && q.2.category == 2)) = lv') (kk : P (pc + 1) lv' st ws k n) : P pc lv (.int x :: st) ws k n := by
  obtain ⟨A, p, e, s, m, args, below, meth, c, hx, hb, hml, hr, hlk, hin, hown, ⟨_, hts⟩, hK, hX, hA, rfl⟩ := h
  intro H locs ls hP hD hS hl
  exact lv_istore_n hx hb hd hi hl hn hf (fun ls hl => kk H locs ls hP hD hS hl)
theorem cx_iload {j : Fin 4} {i : Nat} {x : Int32} (h : Ck l D (Ety cyB cyI cyJ cyO) own cd nL d mc ms cW P) (hd : decode cd pc = .ok (.iload_n j, 1)) (hi : (j : Nat) = i) (q : Nat) (hv : lv[q]? = some (i, .int x)) (kk : P (pc + 1) lv (.int x :: st) ws k n) : P pc lv st ws k n := by
  obtain ⟨A, p, e, s, m, args, below, meth, c, hx, hb, hml, hr, hlk, hin, hown, ⟨_, hts⟩, hK, hX, hA, rfl⟩ := h
  intro H locs ls hP hD hS hl
  exact lv_iload_n hx hb hd hi (lv_at hl q hv) (kk H locs ls hP hD hS hl)
theorem cx_ge {x y : Int32} {off : Int} {tgt : Nat} (h : Ck l D (Ety cyB cyI cyJ cyO) own cd nL d mc ms cW P) (hd : decode cd pc = .ok (.if_icmp .ge off, 3)) (ht : (pc : Int) + off = (tgt : Int)) (kt : y ≤ x → P tgt lv st ws k n) (kf : ¬ y ≤ x → P (pc + 3) lv st ws k n) : P pc lv (.int y :: .int x :: st) ws k n := by
  obtain ⟨A, p, e, s, m, args, below, meth, c, hx, hb, hml, hr, hlk, hin, hown, ⟨_, hts⟩, hK, hX, hA, rfl⟩ := h
  intro H locs ls hP hD hS hl
  exact lv_icmp_ge hx hb hd ht (fun q => kt q H locs ls hP hD hS hl) (fun q => kf q H locs ls hP hD hS hl)
theorem cx_iinc {i : Nat} {a : Int} {x v : Int32} {lv' : List (Nat × Value)} (h : Ck l D (Ety cyB cyI cyJ cyO) own cd nL d mc ms cW P) (hd : decode cd pc = .ok (.iinc i a, 3)) (q : Nat) (hk : lv[q]? = some (i, .int x)) (hv : x + Int32.ofInt a = v) (hn : i < nL) (hf : (i, Value.int v) :: lv.filter (fun q => !(q.1 == i) && !(q.1 + 1 == i && q.2.category == 2)) = lv') (kk : P (pc + 3) lv' st ws k n) : P pc lv st ws k n := by
  obtain ⟨A, p, e, s, m, args, below, meth, c, hx, hb, hml, hr, hlk, hin, hown, ⟨_, hts⟩, hK, hX, hA, rfl⟩ := h
  intro H locs ls hP hD hS hl
  exact lv_iinc hx hb hd hl hk hv hn hf (fun ls hl => kk H locs ls hP hD hS hl)
theorem cx_goto {off : Int} {tgt : Nat} (h : Ck l D (Ety cyB cyI cyJ cyO) own cd nL d mc ms cW P) (hd : decode cd pc = .ok (.goto off, 3)) (ht : (pc : Int) + off = (tgt : Int)) (kk : P tgt lv st ws k n) : P pc lv st ws k n := by
  obtain ⟨A, p, e, s, m, args, below, meth, c, hx, hb, hml, hr, hlk, hin, hown, ⟨_, hts⟩, hK, hX, hA, rfl⟩ := h
  intro H locs ls hP hD hS hl
  exact lv_goto hx hb hd ht (kk H locs ls hP hD hS hl)
end CX4
/-- what 'now' holds at the beginning: nobody has heard of anything, x is 1 -/
def nowI (i : Nat) : Nat → Int32 := fun j => if j = 150 then 1 else if 12 ≤ j ∧ j < i then -1 else 0
theorem now_0 : upd (fun _ => 0) 150 1 = nowI 12 := by
  funext j
  unfold upd nowI
  by_cases z : j = 150
  · rw [if_pos z, if_pos z]
  · rw [if_neg z, if_neg z, if_neg (by omega)]
theorem now_s {i : Nat} (h1 : 12 ≤ i) (h2 : i < 84) : upd (nowI i) i (-1) = nowI (i + 1) := by
  funext j
  unfold upd nowI
  by_cases z : j = i
  · rw [if_pos z, if_neg (by omega), if_pos (by omega)]
  · rw [if_neg z]
    by_cases y : j = 150
    · rw [if_pos y, if_pos y]
    · rw [if_neg y, if_neg y]
      by_cases w : 12 ≤ j ∧ j < i
      · rw [if_pos w, if_pos (by omega)]
      · rw [if_neg w, if_neg (by omega)]
theorem fd_X10_7 : FD RX10 7 10 0 := ⟨RX10, TX10, 56, rfl, by decide, wsin_X10, tw 1165 (by decide +kernel) rfl⟩
theorem fq_X10_7 : FQ RX10 10 0 (.array .int) true := ⟨RX10, TX10, 56, tyX10, rfl, tyX10_ok, nmX10, rfl, rfl, by decide +kernel⟩
theorem fd_X10_13 : FD RX10 13 10 1 := ⟨RX10, TX10, 56, rfl, by decide, wsin_X10, tw 1166 (by decide +kernel) rfl⟩
theorem fq_X10_13 : FQ RX10 10 1 (.array .int) true := ⟨RX10, TX10, 56, tyX10, rfl, tyX10_ok, nmX10, rfl, rfl, by decide +kernel⟩
theorem fd_X10_16 : FD RX10 16 10 2 := ⟨RX10, TX10, 56, rfl, by decide, wsin_X10, tw 1167 (by decide +kernel) rfl⟩
theorem fq_X10_16 : FQ RX10 10 2 (.array .int) true := ⟨RX10, TX10, 56, tyX10, rfl, tyX10_ok, nmX10, rfl, rfl, by decide +kernel⟩
theorem fd_X10_19 : FD RX10 19 10 3 := ⟨RX10, TX10, 56, rfl, by decide, wsin_X10, tw 1168 (by decide +kernel) rfl⟩
theorem fq_X10_19 : FQ RX10 10 3 (.array .int) true := ⟨RX10, TX10, 56, tyX10, rfl, tyX10_ok, nmX10, rfl, rfl, by decide +kernel⟩
theorem fd_X10_22 : FD RX10 22 10 4 := ⟨RX10, TX10, 56, rfl, by decide, wsin_X10, tw 1169 (by decide +kernel) rfl⟩
theorem fq_X10_22 : FQ RX10 10 4 (.array .byte) true := ⟨RX10, TX10, 56, tyX10, rfl, tyX10_ok, nmX10, rfl, rfl, by decide +kernel⟩
theorem fd_X10_26 : FD RX10 26 10 15 := ⟨RX10, TX10, 56, rfl, by decide, wsin_X10, tw 1180 (by decide +kernel) rfl⟩
theorem fq_X10_26 : FQ RX10 10 15 (.array .int) true := ⟨RX10, TX10, 56, tyX10, rfl, tyX10_ok, nmX10, rfl, rfl, by decide +kernel⟩
theorem fd_X10_29 : FD RX10 29 10 16 := ⟨RX10, TX10, 56, rfl, by decide, wsin_X10, tw 1181 (by decide +kernel) rfl⟩
theorem fq_X10_29 : FQ RX10 10 16 (.array .int) true := ⟨RX10, TX10, 56, tyX10, rfl, tyX10_ok, nmX10, rfl, rfl, by decide +kernel⟩
theorem fd_X10_32 : FD RX10 32 10 17 := ⟨RX10, TX10, 56, rfl, by decide, wsin_X10, tw 1182 (by decide +kernel) rfl⟩
theorem fq_X10_32 : FQ RX10 10 17 (.array .int) true := ⟨RX10, TX10, 56, tyX10, rfl, tyX10_ok, nmX10, rfl, rfl, by decide +kernel⟩
theorem fd_X10_35 : FD RX10 35 10 18 := ⟨RX10, TX10, 56, rfl, by decide, wsin_X10, tw 1183 (by decide +kernel) rfl⟩
theorem fq_X10_35 : FQ RX10 10 18 (.array .int) true := ⟨RX10, TX10, 56, tyX10, rfl, tyX10_ok, nmX10, rfl, rfl, by decide +kernel⟩
theorem fd_X10_38 : FD RX10 38 10 19 := ⟨RX10, TX10, 56, rfl, by decide, wsin_X10, tw 1184 (by decide +kernel) rfl⟩
theorem fq_X10_38 : FQ RX10 10 19 (.array .int) true := ⟨RX10, TX10, 56, tyX10, rfl, tyX10_ok, nmX10, rfl, rfl, by decide +kernel⟩
theorem fd_X10_41 : FD RX10 41 10 20 := ⟨RX10, TX10, 56, rfl, by decide, wsin_X10, tw 1185 (by decide +kernel) rfl⟩
theorem fq_X10_41 : FQ RX10 10 20 (.array .int) true := ⟨RX10, TX10, 56, tyX10, rfl, tyX10_ok, nmX10, rfl, rfl, by decide +kernel⟩
theorem fd_X10_44 : FD RX10 44 10 21 := ⟨RX10, TX10, 56, rfl, by decide, wsin_X10, tw 1186 (by decide +kernel) rfl⟩
theorem fq_X10_44 : FQ RX10 10 21 (.array .int) true := ⟨RX10, TX10, 56, tyX10, rfl, tyX10_ok, nmX10, rfl, rfl, by decide +kernel⟩
theorem fd_X10_47 : FD RX10 47 10 22 := ⟨RX10, TX10, 56, rfl, by decide, wsin_X10, tw 1187 (by decide +kernel) rfl⟩
theorem fq_X10_47 : FQ RX10 10 22 (.array .int) true := ⟨RX10, TX10, 56, tyX10, rfl, tyX10_ok, nmX10, rfl, rfl, by decide +kernel⟩
theorem fd_X10_50 : FD RX10 50 10 23 := ⟨RX10, TX10, 56, rfl, by decide, wsin_X10, tw 1188 (by decide +kernel) rfl⟩
theorem fq_X10_50 : FQ RX10 10 23 (.array .int) true := ⟨RX10, TX10, 56, tyX10, rfl, tyX10_ok, nmX10, rfl, rfl, by decide +kernel⟩
theorem fd_X10_53 : FD RX10 53 10 24 := ⟨RX10, TX10, 56, rfl, by decide, wsin_X10, tw 1189 (by decide +kernel) rfl⟩
theorem fq_X10_53 : FQ RX10 10 24 (.array .int) true := ⟨RX10, TX10, 56, tyX10, rfl, tyX10_ok, nmX10, rfl, rfl, by decide +kernel⟩
theorem fd_X10_56 : FD RX10 56 10 25 := ⟨RX10, TX10, 56, rfl, by decide, wsin_X10, tw 1190 (by decide +kernel) rfl⟩
theorem fq_X10_56 : FQ RX10 10 25 (.array .int) true := ⟨RX10, TX10, 56, tyX10, rfl, tyX10_ok, nmX10, rfl, rfl, by decide +kernel⟩
theorem fd_X10_59 : FD RX10 59 10 26 := ⟨RX10, TX10, 56, rfl, by decide, wsin_X10, tw 1191 (by decide +kernel) rfl⟩
theorem fq_X10_59 : FQ RX10 10 26 (.array .int) true := ⟨RX10, TX10, 56, tyX10, rfl, tyX10_ok, nmX10, rfl, rfl, by decide +kernel⟩
theorem fd_X10_62 : FD RX10 62 10 27 := ⟨RX10, TX10, 56, rfl, by decide, wsin_X10, tw 1192 (by decide +kernel) rfl⟩
theorem fq_X10_62 : FQ RX10 10 27 (.array .int) true := ⟨RX10, TX10, 56, tyX10, rfl, tyX10_ok, nmX10, rfl, rfl, by decide +kernel⟩
theorem fd_X10_65 : FD RX10 65 10 28 := ⟨RX10, TX10, 56, rfl, by decide, wsin_X10, tw 1193 (by decide +kernel) rfl⟩
theorem fq_X10_65 : FQ RX10 10 28 (.array .int) true := ⟨RX10, TX10, 56, tyX10, rfl, tyX10_ok, nmX10, rfl, rfl, by decide +kernel⟩
theorem fd_X10_68 : FD RX10 68 10 29 := ⟨RX10, TX10, 56, rfl, by decide, wsin_X10, tw 1194 (by decide +kernel) rfl⟩
theorem fq_X10_68 : FQ RX10 10 29 (.array .int) true := ⟨RX10, TX10, 56, tyX10, rfl, tyX10_ok, nmX10, rfl, rfl, by decide +kernel⟩
theorem fd_X10_71 : FD RX10 71 10 30 := ⟨RX10, TX10, 56, rfl, by decide, wsin_X10, tw 1195 (by decide +kernel) rfl⟩
theorem fq_X10_71 : FQ RX10 10 30 (.array .int) true := ⟨RX10, TX10, 56, tyX10, rfl, tyX10_ok, nmX10, rfl, rfl, by decide +kernel⟩
theorem fd_X10_74 : FD RX10 74 10 31 := ⟨RX10, TX10, 56, rfl, by decide, wsin_X10, tw 1196 (by decide +kernel) rfl⟩
theorem fq_X10_74 : FQ RX10 10 31 (.array .int) true := ⟨RX10, TX10, 56, tyX10, rfl, tyX10_ok, nmX10, rfl, rfl, by decide +kernel⟩
theorem fd_X10_77 : FD RX10 77 10 33 := ⟨RX10, TX10, 56, rfl, by decide, wsin_X10, tw 1198 (by decide +kernel) rfl⟩
theorem fq_X10_77 : FQ RX10 10 33 (.array .int) true := ⟨RX10, TX10, 56, tyX10, rfl, tyX10_ok, nmX10, rfl, rfl, by decide +kernel⟩
theorem fd_X10_80 : FD RX10 80 10 37 := ⟨RX10, TX10, 56, rfl, by decide, wsin_X10, tw 1202 (by decide +kernel) rfl⟩
theorem fq_X10_80 : FQ RX10 10 37 (.array .int) true := ⟨RX10, TX10, 56, tyX10, rfl, tyX10_ok, nmX10, rfl, rfl, by decide +kernel⟩
theorem fd_X10_83 : FD RX10 83 10 38 := ⟨RX10, TX10, 56, rfl, by decide, wsin_X10, tw 1203 (by decide +kernel) rfl⟩
theorem fq_X10_83 : FQ RX10 10 38 (.array .int) true := ⟨RX10, TX10, 56, tyX10, rfl, tyX10_ok, nmX10, rfl, rfl, by decide +kernel⟩
theorem fd_X10_86 : FD RX10 86 10 39 := ⟨RX10, TX10, 56, rfl, by decide, wsin_X10, tw 1204 (by decide +kernel) rfl⟩
theorem fq_X10_86 : FQ RX10 10 39 (.array .int) true := ⟨RX10, TX10, 56, tyX10, rfl, tyX10_ok, nmX10, rfl, rfl, by decide +kernel⟩
theorem fd_X10_89 : FD RX10 89 10 40 := ⟨RX10, TX10, 56, rfl, by decide, wsin_X10, tw 1205 (by decide +kernel) rfl⟩
theorem fq_X10_89 : FQ RX10 10 40 (.array .int) true := ⟨RX10, TX10, 56, tyX10, rfl, tyX10_ok, nmX10, rfl, rfl, by decide +kernel⟩
theorem fd_X10_92 : FD RX10 92 10 41 := ⟨RX10, TX10, 56, rfl, by decide, wsin_X10, tw 1206 (by decide +kernel) rfl⟩
theorem fq_X10_92 : FQ RX10 10 41 (.array .int) true := ⟨RX10, TX10, 56, tyX10, rfl, tyX10_ok, nmX10, rfl, rfl, by decide +kernel⟩
theorem fd_X10_95 : FD RX10 95 10 42 := ⟨RX10, TX10, 56, rfl, by decide, wsin_X10, tw 1207 (by decide +kernel) rfl⟩
theorem fq_X10_95 : FQ RX10 10 42 (.array .int) true := ⟨RX10, TX10, 56, tyX10, rfl, tyX10_ok, nmX10, rfl, rfl, by decide +kernel⟩
theorem fd_X10_98 : FD RX10 98 10 43 := ⟨RX10, TX10, 56, rfl, by decide, wsin_X10, tw 1208 (by decide +kernel) rfl⟩
theorem fq_X10_98 : FQ RX10 10 43 (.array .int) true := ⟨RX10, TX10, 56, tyX10, rfl, tyX10_ok, nmX10, rfl, rfl, by decide +kernel⟩
theorem fd_X10_101 : FD RX10 101 10 44 := ⟨RX10, TX10, 56, rfl, by decide, wsin_X10, tw 1209 (by decide +kernel) rfl⟩
theorem fq_X10_101 : FQ RX10 10 44 (.array .int) true := ⟨RX10, TX10, 56, tyX10, rfl, tyX10_ok, nmX10, rfl, rfl, by decide +kernel⟩
theorem fd_X10_104 : FD RX10 104 10 45 := ⟨RX10, TX10, 56, rfl, by decide, wsin_X10, tw 1210 (by decide +kernel) rfl⟩
theorem fq_X10_104 : FQ RX10 10 45 (.array .int) true := ⟨RX10, TX10, 56, tyX10, rfl, tyX10_ok, nmX10, rfl, rfl, by decide +kernel⟩
theorem fd_X10_107 : FD RX10 107 10 46 := ⟨RX10, TX10, 56, rfl, by decide, wsin_X10, tw 1211 (by decide +kernel) rfl⟩
theorem fq_X10_107 : FQ RX10 10 46 (.array .byte) true := ⟨RX10, TX10, 56, tyX10, rfl, tyX10_ok, nmX10, rfl, rfl, by decide +kernel⟩
theorem fd_X10_110 : FD RX10 110 10 47 := ⟨RX10, TX10, 56, rfl, by decide, wsin_X10, tw 1212 (by decide +kernel) rfl⟩
theorem fq_X10_110 : FQ RX10 10 47 (.array .int) true := ⟨RX10, TX10, 56, tyX10, rfl, tyX10_ok, nmX10, rfl, rfl, by decide +kernel⟩
theorem fd_X10_113 : FD RX10 113 10 48 := ⟨RX10, TX10, 56, rfl, by decide, wsin_X10, tw 1213 (by decide +kernel) rfl⟩
theorem fq_X10_113 : FQ RX10 10 48 (.array .int) true := ⟨RX10, TX10, 56, tyX10, rfl, tyX10_ok, nmX10, rfl, rfl, by decide +kernel⟩
theorem fd_X10_116 : FD RX10 116 10 49 := ⟨RX10, TX10, 56, rfl, by decide, wsin_X10, tw 1214 (by decide +kernel) rfl⟩
theorem fq_X10_116 : FQ RX10 10 49 (.array .int) true := ⟨RX10, TX10, 56, tyX10, rfl, tyX10_ok, nmX10, rfl, rfl, by decide +kernel⟩
theorem fd_X10_119 : FD RX10 119 10 50 := ⟨RX10, TX10, 56, rfl, by decide, wsin_X10, tw 1215 (by decide +kernel) rfl⟩
theorem fq_X10_119 : FQ RX10 10 50 (.array .int) true := ⟨RX10, TX10, 56, tyX10, rfl, tyX10_ok, nmX10, rfl, rfl, by decide +kernel⟩
theorem fd_X10_122 : FD RX10 122 10 51 := ⟨RX10, TX10, 56, rfl, by decide, wsin_X10, tw 1216 (by decide +kernel) rfl⟩
theorem fq_X10_122 : FQ RX10 10 51 (.array .int) true := ⟨RX10, TX10, 56, tyX10, rfl, tyX10_ok, nmX10, rfl, rfl, by decide +kernel⟩
theorem fd_X10_125 : FD RX10 125 10 52 := ⟨RX10, TX10, 56, rfl, by decide, wsin_X10, tw 1217 (by decide +kernel) rfl⟩
theorem fq_X10_125 : FQ RX10 10 52 (.array .int) true := ⟨RX10, TX10, 56, tyX10, rfl, tyX10_ok, nmX10, rfl, rfl, by decide +kernel⟩
theorem fd_X10_128 : FD RX10 128 10 53 := ⟨RX10, TX10, 56, rfl, by decide, wsin_X10, tw 1218 (by decide +kernel) rfl⟩
theorem fq_X10_128 : FQ RX10 10 53 (.array .int) true := ⟨RX10, TX10, 56, tyX10, rfl, tyX10_ok, nmX10, rfl, rfl, by decide +kernel⟩
theorem fd_X10_131 : FD RX10 131 10 54 := ⟨RX10, TX10, 56, rfl, by decide, wsin_X10, tw 1219 (by decide +kernel) rfl⟩
theorem fq_X10_131 : FQ RX10 10 54 (.array .int) true := ⟨RX10, TX10, 56, tyX10, rfl, tyX10_ok, nmX10, rfl, rfl, by decide +kernel⟩
theorem lp_now {l : Launch} {D : va_G} {cyB cyI cyJ cyO : ClassId} {S : Type} {cW : S → va_W} {P : Nat → List (Nat × Value) → List Value → va_W → Nat → Nat → Prop} {k n h0 q : Nat} {fs : List Value} {ws : va_W} (h : Ck l D (Ety cyB cyI cyJ cyO) RX10 cX10_init 2 1 41 4717 cW P) (hv : fs[0]? = some (.ref q)) (hend : ∀ lv, P 373 lv [] ((h0, .inr (10, fs)) :: (q, .inl (cyI, 151, .inl (nowI 84))) :: ws) k n) : ∀ (u i : Nat), i + u = 84 → 12 ≤ i → P 354 [(1, .int (nI i)), (0, .ref h0)] [] ((h0, .inr (10, fs)) :: (q, .inl (cyI, 151, .inl (nowI i))) :: ws) k n
  | 0, i, h1, _ => by
    have hi : i = 84 := by omega
    subst hi
    refine cx_iload h dX10_init_354 rfl 0 rfl ?_
    refine cx_bipush (v := 84) h dX10_init_355 (by decide) ?_
    refine cx_ge (tgt := 373) h dX10_init_357 rfl (fun _ => hend _) (fun z => absurd (show (84 : Int32) ≤ nI 84 by decide) z)
  | u + 1, i, h1, h12 => by
    refine cx_iload h dX10_init_354 rfl 0 rfl ?_
    refine cx_bipush (v := 84) h dX10_init_355 (by decide) ?_
    refine cx_ge (tgt := 373) h dX10_init_357 rfl (fun z => absurd z (show ¬ (84 : Int32) ≤ nI i from nI_ge (b := 84) (by omega) (by decide))) (fun _ => ?_)
    refine cx_aload h dX10_init_360 rfl 1 rfl ?_
    refine cx_get h fd_X10_7 dX10_init_361 hv ?_
    refine cx_iload h dX10_init_364 rfl 0 rfl ?_
    refine cx_iconst (v := -1) h dX10_init_365 (by decide) ?_
    refine cx_iast h (vp_in_nI (by omega) (by decide)) dX10_init_366 ?_
    rw [ix_n (show i < 2 ^ 31 by omega), now_s h12 (by omega)]
    refine cx_iinc (v := nI (i + 1)) h dX10_init_367 0 rfl (nI_1 i) (by decide) rfl ?_
    refine cx_goto (tgt := 354) h dX10_init_370 rfl ?_
    exact lp_now h hv hend u (i + 1) (by omega) (by omega)
/-- a new array of ints for a field -/
theorem cx_fldI {l : Launch} {D : va_G} {cyB cyI cyJ cyO : ClassId} {cd : ByteArray} {mc ms : Nat} {S : Type} {cW : S → va_W} {P : Nat → List (Nat × Value) → List Value → va_W → Nat → Nat → Prop} {pc pc2 k n h0 idx kf N : Nat} {fs : List Value} {Z : va_W} {v : Int32} {fin : Bool} (h : Ck l D (Ety cyB cyI cyJ cyO) RX10 cd 2 1 mc ms cW P) (hfs : fs.length = 56) (d1 : decode cd pc = .ok (.aload_n 0, 1)) (d2 : decode cd (pc + 1) = .ok (.bipush (v.toInt), 2) ∧ (Int8.ofInt v.toInt).toInt32 = v ∧ pc2 = pc + 3 ∨ decode cd (pc + 1) = .ok (.sipush (v.toInt), 3) ∧ (Int16.ofInt v.toInt).toInt32 = v ∧ pc2 = pc + 4 ∨ decode cd (pc + 1) = .ok (.iconst (v.toInt), 1) ∧ Int32.ofInt v.toInt = v ∧ pc2 = pc + 2) (hv : ¬ v < 0) (hN : v.toNatClampNeg = N) (hb4 : N ≤ 100000) (hk : k + 1 ≤ mc) (hn : n + N ≤ ms) (d3 : decode cd pc2 = .ok (.newarray .int, 2)) (fa : FD RX10 idx 10 kf) (fq : FQ RX10 10 kf (.array .int) fin) (hkf : kf < 56) (d4 : decode cd (pc2 + 2) = .ok (.putfield idx, 3)) (kk : ∀ q, (fs.set kf (.ref q)).length = 56 → P (pc2 + 2 + 3) [(0, .ref h0)] [] ((h0, .inr (10, fs.set kf (.ref q))) :: (Z ++ [(q, .inl (cyI, N, .inl (fun _ => 0)))])) (k + 1) (n + N)) : P pc [(0, .ref h0)] [] ((h0, .inr (10, fs)) :: Z) k n := by
  refine cx_aload h d1 rfl 0 rfl ?_
  have key : P pc2 [(0, .ref h0)] [.int v, .ref h0] ((h0, .inr (10, fs)) :: Z) k n := by
    refine cx_newI (N := N) h aw_I hv hN hb4 hk hn d3 (fun q => ?_)
    show P (pc2 + 2) [(0, .ref h0)] [.ref q, .ref h0] ((h0, .inr (10, fs)) :: (Z ++ [(q, .inl (cyI, N, .inl (fun _ => 0)))])) (k + 1) (n + N)
    refine cx_put h fa fq rfl rfl (by rw [hfs]; exact hkf) d4 ?_
    exact kk q (by rw [List.length_set]; exact hfs)
  rcases d2 with ⟨d2, e, rfl⟩ | ⟨d2, e, rfl⟩ | ⟨d2, e, rfl⟩
  · exact cx_bipush h d2 e key
  · exact cx_sipush h d2 e key
  · exact cx_iconst h d2 e key
theorem cx_fldB {l : Launch} {D : va_G} {cyB cyI cyJ cyO : ClassId} {cd : ByteArray} {mc ms : Nat} {S : Type} {cW : S → va_W} {P : Nat → List (Nat × Value) → List Value → va_W → Nat → Nat → Prop} {pc k n h0 idx kf N : Nat} {fs : List Value} {Z : va_W} {v : Int32} {fin : Bool} (h : Ck l D (Ety cyB cyI cyJ cyO) RX10 cd 2 1 mc ms cW P) (hfs : fs.length = 56) (d1 : decode cd pc = .ok (.aload_n 0, 1)) (d2 : decode cd (pc + 1) = .ok (.sipush (v.toInt), 3)) (e : (Int16.ofInt v.toInt).toInt32 = v) (hv : ¬ v < 0) (hN : v.toNatClampNeg = N) (hb4 : N ≤ 100000) (hk : k + 1 ≤ mc) (hn : n + N ≤ ms) (d3 : decode cd (pc + 4) = .ok (.newarray .byte, 2)) (fa : FD RX10 idx 10 kf) (fq : FQ RX10 10 kf (.array .byte) fin) (hkf : kf < 56) (d4 : decode cd (pc + 4 + 2) = .ok (.putfield idx, 3)) (kk : ∀ q, (fs.set kf (.ref q)).length = 56 → P (pc + 4 + 2 + 3) [(0, .ref h0)] [] ((h0, .inr (10, fs.set kf (.ref q))) :: (Z ++ [(q, .inl (cyB, N, .inl (fun _ => 0)))])) (k + 1) (n + N)) : P pc [(0, .ref h0)] [] ((h0, .inr (10, fs)) :: Z) k n := by
  refine cx_aload h d1 rfl 0 rfl ?_
  refine cx_sipush h d2 e ?_
  refine cx_newB (N := N) h aw_B hv hN hb4 hk hn d3 (fun q => ?_)
  show P (pc + 4 + 2) [(0, .ref h0)] [.ref q, .ref h0] ((h0, .inr (10, fs)) :: (Z ++ [(q, .inl (cyB, N, .inl (fun _ => 0)))])) (k + 1) (n + N)
  refine cx_put h fa fq rfl rfl (by rw [hfs]; exact hkf) d4 ?_
  exact kk q (by rw [List.length_set]; exact hfs)
