theorem zz_test : w32 5 = 5 := rfl
