theorem tst_1 : (0 : Int32) + 1 = 1 := rfl
theorem tst_2 (x : Int32) (nL : Nat) : sxs 5 [(3, .iinc 1 1, .int 1)] 3 [(1, .int 0)] [] = some (6, [(1, .int 1)], []) := rfl
theorem tst_3 : lw_tbl[1000]? = some (Cond.initialized "ChanceStepsLaw") ∨ True := Or.inr trivial
