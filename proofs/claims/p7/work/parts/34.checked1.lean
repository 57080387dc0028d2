/-! EVERY METHOD'S INSTRUCTIONS, checked -/
theorem mj_mc_9 : ([(5, 54), (5, 55), (5, 56), (5, 57), (6, 58), (6, 59)].all fun q => mj_mc q.1 q.2) = true := by decide +kernel
theorem mj_mc_10 : ([(6, 60), (6, 61), (6, 62), (6, 63), (6, 64), (6, 65)].all fun q => mj_mc q.1 q.2) = true := by decide +kernel
theorem mj_mc_11 : ([(6, 66), (6, 67), (6, 68), (6, 69), (6, 70), (6, 71)].all fun q => mj_mc q.1 q.2) = true := by decide +kernel
theorem mj_mc_12 : ([(6, 72), (6, 73), (6, 74), (7, 75), (7, 76), (7, 77)].all fun q => mj_mc q.1 q.2) = true := by decide +kernel
theorem mj_mc_13 : ([(7, 78), (7, 79), (7, 80), (8, 81), (8, 82), (8, 83)].all fun q => mj_mc q.1 q.2) = true := by decide +kernel
theorem mj_mc_14 : ([(8, 84), (8, 85), (8, 86), (8, 87), (8, 88), (9, 89)].all fun q => mj_mc q.1 q.2) = true := by decide +kernel
theorem mj_mc_15 : ([(9, 90), (9, 91), (9, 92), (9, 93), (9, 94), (9, 95)].all fun q => mj_mc q.1 q.2) = true := by decide +kernel
theorem mj_mc_16 : ([(9, 96), (9, 97), (9, 98), (9, 99), (9, 100), (9, 101)].all fun q => mj_mc q.1 q.2) = true := by decide +kernel
theorem mj_mc_17 : ([(9, 102), (10, 103), (10, 104), (10, 105), (10, 106), (10, 107)].all fun q => mj_mc q.1 q.2) = true := by decide +kernel
