theorem zz_1 : kd 5 = 0 := rfl
theorem zz_2 : fch 6 0 = some (.iload 1, 1, []) := by decide +kernel
