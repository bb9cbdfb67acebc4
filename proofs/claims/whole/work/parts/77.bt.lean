/-! no bit of nought is set -/
theorem bt_0 (i : Nat) : bt 0 i = false := by
  show (0#32).getLsbD i = false
  exact BitVec.getLsbD_zero
theorem cnt_z : cnt 0 12 = 0 := by decide
