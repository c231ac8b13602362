theorem inv_first : Inv c0 m0 := trivial
