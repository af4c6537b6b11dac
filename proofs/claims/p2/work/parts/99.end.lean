theorem zz_o : 0 = 0 := rfl
