theorem im_dummy15 : 1 = 1 := rfl
