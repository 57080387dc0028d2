/-! EVERY METHOD'S INSTRUCTIONS, checked -/
theorem mj_mc_0 : ([(0, 0), (0, 1), (0, 2), (0, 3), (0, 4), (0, 5)].all fun q => mj_mc q.1 q.2) = true := by decide +kernel
theorem mj_mc_1 : ([(0, 6), (0, 7), (0, 8), (1, 9), (1, 10), (1, 11)].all fun q => mj_mc q.1 q.2) = true := by decide +kernel
theorem mj_mc_2 : ([(1, 12), (1, 13), (1, 14), (1, 15), (1, 16), (2, 17)].all fun q => mj_mc q.1 q.2) = true := by decide +kernel
theorem mj_mc_3 : ([(2, 18), (2, 19), (2, 20), (3, 21), (3, 22), (3, 23)].all fun q => mj_mc q.1 q.2) = true := by decide +kernel
theorem mj_mc_4 : ([(3, 24), (3, 25), (3, 26), (3, 27), (3, 28), (3, 29)].all fun q => mj_mc q.1 q.2) = true := by decide +kernel
theorem mj_mc_5 : ([(3, 30), (3, 31), (3, 32), (3, 33), (3, 34), (3, 35)].all fun q => mj_mc q.1 q.2) = true := by decide +kernel
theorem mj_mc_6 : ([(3, 36), (3, 37), (3, 38), (3, 39), (3, 40), (3, 41)].all fun q => mj_mc q.1 q.2) = true := by decide +kernel
theorem mj_mc_7 : ([(3, 42), (3, 43), (3, 44), (4, 45), (4, 46), (4, 47)].all fun q => mj_mc q.1 q.2) = true := by decide +kernel
theorem mj_mc_8 : ([(4, 48), (4, 49), (4, 50), (4, 51), (4, 52), (4, 53)].all fun q => mj_mc q.1 q.2) = true := by decide +kernel
