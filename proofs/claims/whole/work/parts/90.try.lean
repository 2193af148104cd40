theorem z_9 : 1 = 1 := rfl
