theorem mk_holds {z L : Nat} {xs : Nat → Int32} : tb_P z L xs kg_X10_makes_0 := fun T => mk_holds0 T
theorem co_holds {z L : Nat} {xs : Nat → Int32} : tb_P z L xs kg_X10_cost_0 := fun T => co_holds0 T
