/-! more rows: joins, loops, switches, constants -/
def itr {α : Type} (z : α) (st : α → α) : Nat → α
  | 0 => z
  | n + 1 => st (itr z st n)
theorem itr_ind {α : Type} {z : α} {st : α → α} {Q : α → Prop} (hz : Q z) (hs : ∀ r, Q r → Q (st r)) : ∀ n, Q (itr z st n)
  | 0 => hz
  | n + 1 => hs _ (itr_ind hz hs n)
theorem itr_indn {α : Type} {z : α} {st : α → α} {Q : Nat → α → Prop} (hz : Q 0 z) (hs : ∀ n r, Q n r → Q (n + 1) (st r)) : ∀ n, Q n (itr z st n)
  | 0 => hz
  | n + 1 => hs n _ (itr_indn hz hs n)
theorem i32ne {x v : Int32} (h : ¬ x = v) {k : Int} (hk : v.toInt = k) : x.toInt ≠ k := fun q => h (Int32.toInt_inj.mp (q.trans hk.symm))
theorem isBk_o {b : Nat} (h : isBk b = true) : layC[b]? = some (10, 0) := isBk_0 h
theorem isLw_o {b : Nat} (h : isLw b = true) : layC[b]? = some (14, 0) := isLw_0 h
theorem isLw_lt {b : Nat} (h : isLw b = true) : b < 2 ^ 31 := by
  rcases isLw_or h with rfl | rfl <;> decide
theorem isAr_of {c n : Nat} (h : layC[c]? = some (0, n)) : isAr c = true := by
  unfold isAr
  rw [h]
  rfl
def lenM (c : Nat) : Nat := (layM.getD c (0, 0)).2
def isAm (c : Nat) : Bool := match layM[c]? with
  | some (0, _) => true
  | _ => false
theorem isAm_0 {c : Nat} (h : isAm c = true) : layM[c]? = some (0, lenM c) := by
  unfold isAm at h
  unfold lenM
  rw [List.getD_eq_getElem?_getD]
  split at h
  · next q => rw [q]; rfl
  · cases h
section Rows2
variable {G : Gx} {lay : List (Nat × Nat)} {fso : Fs} {own : String} {cd : ByteArray} {nL : Nat} {rt : Option FieldType} {d : Nat} {R : Type} {tv : R → Option Value} {P : Option (R × Mem) → Nat → List (Nat × Value) → List Value → Mem → Prop} {ex : Option (R × Mem)} {pc : Nat} {lv : List (Nat × Value)} {st : List Value} {σ : Mem}
theorem jx_join {α : Type} {F : α} {B : α → Option (R × Mem)} (HF : α → Prop) (hF : HF F) (hB : ∀ j, HF j → P (B j) pc lv st σ) : P (lt F B) pc lv st σ := hB F hF
theorem jx_subk {ls' : List (Nat × Value)} (ks : List Nat) (h : Jk G lay fso own cd nL rt d tv P) (k : P ex pc ls' st σ) (hl' : lv_pick lv ks = ls') : P ex pc lv st σ := jx_sub ks h hl' k
theorem jx_tdef2 {dflt lo hi : Int} {offs : Array Int} {len : Nat} {x : Int32} {tgt : Nat} (h : Jk G lay fso own cd nL rt d tv P) (hd : decode cd pc = .ok (.tableswitch dflt lo hi offs, len)) (h1 : (x.toInt < lo ∨ hi < x.toInt) ∨ (¬ x.toInt < lo ∧ ¬ hi < x.toInt ∧ offs[(x.toInt - lo).toNat]? = some dflt)) (ht : (pc : Int) + dflt = (tgt : Int)) (k : P ex tgt lv st σ) : P ex pc lv (.int x :: st) σ := by
  rcases h1 with h1 | ⟨h1, h2, h3⟩
  · exact jx_tdef h hd h1 ht k
  · obtain ⟨p, e, s, m, args, below, meth, cq, hx, hb, hml, hr, hlk, hown, ⟨_, hts⟩, hK, hX, hG, hI, rfl⟩ := h
    intro r σ' he H locs ls hW hS hl
    exact lv_tableIn hx hb hd h1 h2 h3 ht (k r σ' he H locs ls hW hS hl)
end Rows2
theorem ki_m1 : Int32.ofInt (-1) = (-1) := by decide
theorem ki_0 : Int32.ofInt 0 = 0 := by decide
theorem ki_1 : Int32.ofInt 1 = 1 := by decide
theorem ki_2 : Int32.ofInt 2 = 2 := by decide
theorem ki_3 : Int32.ofInt 3 = 3 := by decide
theorem ki_4 : Int32.ofInt 4 = 4 := by decide
theorem ki_5 : Int32.ofInt 5 = 5 := by decide
theorem kb_m33 : (Int8.ofInt (-33)).toInt32 = (-33) := by decide
theorem kb_m3 : (Int8.ofInt (-3)).toInt32 = (-3) := by decide
theorem kb_m2 : (Int8.ofInt (-2)).toInt32 = (-2) := by decide
theorem kb_6 : (Int8.ofInt 6).toInt32 = 6 := by decide
theorem kb_7 : (Int8.ofInt 7).toInt32 = 7 := by decide
theorem kb_8 : (Int8.ofInt 8).toInt32 = 8 := by decide
theorem kb_9 : (Int8.ofInt 9).toInt32 = 9 := by decide
theorem kb_10 : (Int8.ofInt 10).toInt32 = 10 := by decide
theorem kb_11 : (Int8.ofInt 11).toInt32 = 11 := by decide
theorem kb_12 : (Int8.ofInt 12).toInt32 = 12 := by decide
theorem kb_13 : (Int8.ofInt 13).toInt32 = 13 := by decide
theorem kb_14 : (Int8.ofInt 14).toInt32 = 14 := by decide
theorem kb_15 : (Int8.ofInt 15).toInt32 = 15 := by decide
theorem kb_16 : (Int8.ofInt 16).toInt32 = 16 := by decide
theorem kb_17 : (Int8.ofInt 17).toInt32 = 17 := by decide
theorem kb_20 : (Int8.ofInt 20).toInt32 = 20 := by decide
theorem kb_22 : (Int8.ofInt 22).toInt32 = 22 := by decide
theorem kb_24 : (Int8.ofInt 24).toInt32 = 24 := by decide
theorem kb_32 : (Int8.ofInt 32).toInt32 = 32 := by decide
theorem kb_33 : (Int8.ofInt 33).toInt32 = 33 := by decide
theorem kb_37 : (Int8.ofInt 37).toInt32 = 37 := by decide
theorem kb_38 : (Int8.ofInt 38).toInt32 = 38 := by decide
theorem kb_40 : (Int8.ofInt 40).toInt32 = 40 := by decide
theorem kb_41 : (Int8.ofInt 41).toInt32 = 41 := by decide
theorem kb_42 : (Int8.ofInt 42).toInt32 = 42 := by decide
theorem kb_43 : (Int8.ofInt 43).toInt32 = 43 := by decide
theorem kb_45 : (Int8.ofInt 45).toInt32 = 45 := by decide
theorem kb_47 : (Int8.ofInt 47).toInt32 = 47 := by decide
theorem kb_48 : (Int8.ofInt 48).toInt32 = 48 := by decide
theorem kb_57 : (Int8.ofInt 57).toInt32 = 57 := by decide
theorem kb_58 : (Int8.ofInt 58).toInt32 = 58 := by decide
theorem kb_59 : (Int8.ofInt 59).toInt32 = 59 := by decide
theorem kb_60 : (Int8.ofInt 60).toInt32 = 60 := by decide
theorem kb_61 : (Int8.ofInt 61).toInt32 = 61 := by decide
theorem kb_62 : (Int8.ofInt 62).toInt32 = 62 := by decide
theorem kb_63 : (Int8.ofInt 63).toInt32 = 63 := by decide
theorem kb_65 : (Int8.ofInt 65).toInt32 = 65 := by decide
theorem kb_80 : (Int8.ofInt 80).toInt32 = 80 := by decide
theorem kb_84 : (Int8.ofInt 84).toInt32 = 84 := by decide
theorem kb_90 : (Int8.ofInt 90).toInt32 = 90 := by decide
theorem kb_91 : (Int8.ofInt 91).toInt32 = 91 := by decide
theorem kb_93 : (Int8.ofInt 93).toInt32 = 93 := by decide
theorem kb_97 : (Int8.ofInt 97).toInt32 = 97 := by decide
theorem kb_99 : (Int8.ofInt 99).toInt32 = 99 := by decide
theorem kb_100 : (Int8.ofInt 100).toInt32 = 100 := by decide
theorem kb_101 : (Int8.ofInt 101).toInt32 = 101 := by decide
theorem kb_102 : (Int8.ofInt 102).toInt32 = 102 := by decide
theorem kb_103 : (Int8.ofInt 103).toInt32 = 103 := by decide
theorem kb_104 : (Int8.ofInt 104).toInt32 = 104 := by decide
theorem kb_116 : (Int8.ofInt 116).toInt32 = 116 := by decide
theorem kb_120 : (Int8.ofInt 120).toInt32 = 120 := by decide
theorem kb_122 : (Int8.ofInt 122).toInt32 = 122 := by decide
theorem kb_124 : (Int8.ofInt 124).toInt32 = 124 := by decide
theorem kb_126 : (Int8.ofInt 126).toInt32 = 126 := by decide
theorem ks_m1000 : (Int16.ofInt (-1000)).toInt32 = (-1000) := by decide
theorem ks_132 : (Int16.ofInt 132).toInt32 = 132 := by decide
theorem ks_138 : (Int16.ofInt 138).toInt32 = 138 := by decide
theorem ks_144 : (Int16.ofInt 144).toInt32 = 144 := by decide
theorem ks_145 : (Int16.ofInt 145).toInt32 = 145 := by decide
theorem ks_146 : (Int16.ofInt 146).toInt32 = 146 := by decide
theorem ks_147 : (Int16.ofInt 147).toInt32 = 147 := by decide
theorem ks_148 : (Int16.ofInt 148).toInt32 = 148 := by decide
theorem ks_149 : (Int16.ofInt 149).toInt32 = 149 := by decide
theorem ks_150 : (Int16.ofInt 150).toInt32 = 150 := by decide
theorem ks_151 : (Int16.ofInt 151).toInt32 = 151 := by decide
theorem ks_240 : (Int16.ofInt 240).toInt32 = 240 := by decide
theorem ks_255 : (Int16.ofInt 255).toInt32 = 255 := by decide
theorem ks_256 : (Int16.ofInt 256).toInt32 = 256 := by decide
theorem ks_260 : (Int16.ofInt 260).toInt32 = 260 := by decide
theorem ks_999 : (Int16.ofInt 999).toInt32 = 999 := by decide
theorem ks_1000 : (Int16.ofInt 1000).toInt32 = 1000 := by decide
theorem ks_4095 : (Int16.ofInt 4095).toInt32 = 4095 := by decide
theorem ks_8192 : (Int16.ofInt 8192).toInt32 = 8192 := by decide
theorem ks_9999 : (Int16.ofInt 9999).toInt32 = 9999 := by decide
theorem ks_13849 : (Int16.ofInt 13849).toInt32 = 13849 := by decide
theorem ks_25173 : (Int16.ofInt 25173).toInt32 = 25173 := by decide
theorem kn_m8 (x : Int32) : x + Int32.ofInt (-8) = x + (-8) := by rw [show Int32.ofInt (-8) = (-8) by decide]
theorem kn_m1 (x : Int32) : x + Int32.ofInt (-1) = x + (-1) := by rw [show Int32.ofInt (-1) = (-1) by decide]
theorem kn_1 (x : Int32) : x + Int32.ofInt 1 = x + 1 := by rw [show Int32.ofInt 1 = 1 by decide]
