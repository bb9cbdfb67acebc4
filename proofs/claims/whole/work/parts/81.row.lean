/-! rows in their order -/
def fnd1 (r : List Nat) : Nat → Option Nat
  | 0 => none
  | k + 1 => if r.getD k 0 ≤ r.getD (k + 1) 0 then some k else fnd1 r k
def fnd2 (r : List Nat) (v : Nat) : Nat → Nat
  | 0 => 0
  | k + 1 => if v ≤ r.getD (k + 1) 0 then k + 1 else fnd2 r v k
def swp (r : List Nat) (i j : Nat) : List Nat := (r.set i (r.getD j 0)).set j (r.getD i 0)
def rvs : Nat → Nat → Nat → List Nat → List Nat
  | 0, _, _, r => r
  | f + 1, i, j, r => if j ≤ i then r else rvs f (i + 1) (j - 1) (swp r i j)
def nxr (n : Nat) (r : List Nat) : Option (List Nat) :=
  match fnd1 r (n - 1) with
  | none => none
  | some i => some (rvs n (i + 1) (n - 1) (swp r i (fnd2 r (r.getD i 0) (n - 1))))
def prm : Nat → List Nat → List (List Nat)
  | 0, _ => [[]]
  | k + 1, S => S.flatMap (fun i => (prm k (S.erase i)).map (fun l => i :: l))
def chn (n : Nat) : List (List Nat) → Bool
  | [] => false
  | [a] => nxr n a == none
  | a :: b :: l => nxr n a == some b && chn n (b :: l)
theorem chn_1 : chn 1 (prm 1 [0]) = true := by decide +kernel
theorem chn_5 : chn 5 (prm 5 [0, 1, 2, 3, 4]) = true := by decide +kernel
theorem chn_6 : chn 6 (prm 6 [0, 1, 2, 3, 4, 5]) = true := by decide +kernel
theorem chn_7 : chn 7 (prm 7 [0, 1, 2, 3, 4, 5, 6]) = true := by decide +kernel
theorem chn_2 : chn 2 (prm 2 [0, 1]) = true := by decide +kernel
theorem chn_3 : chn 3 (prm 3 [0, 1, 2]) = true := by decide +kernel
theorem chn_4 : chn 4 (prm 4 [0, 1, 2, 3]) = true := by decide +kernel
theorem chn_all {n : Nat} (h1 : 1 ≤ n) (h7 : n ≤ 7) : chn n (prm n (List.range n)) = true := by
  rcases (show n = 1 ∨ n = 2 ∨ n = 3 ∨ n = 4 ∨ n = 5 ∨ n = 6 ∨ n = 7 by omega) with rfl | rfl | rfl | rfl | rfl | rfl | rfl
  · exact chn_1
  · exact chn_2
  · exact chn_3
  · exact chn_4
  · exact chn_5
  · exact chn_6
  · exact chn_7
