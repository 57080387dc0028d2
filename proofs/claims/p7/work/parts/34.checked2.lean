/-! EVERY METHOD'S INSTRUCTIONS, checked -/
theorem mj_mc_18 : ([(10, 108), (10, 109), (10, 110), (10, 111), (10, 112), (10, 113)].all fun q => mj_mc q.1 q.2) = true := by decide +kernel
theorem mj_mc_19 : ([(10, 114), (10, 115), (10, 116), (10, 117), (10, 118), (10, 119)].all fun q => mj_mc q.1 q.2) = true := by decide +kernel
theorem mj_mc_20 : ([(10, 120), (10, 121), (10, 122), (10, 123), (10, 124), (10, 125)].all fun q => mj_mc q.1 q.2) = true := by decide +kernel
theorem mj_mc_21 : ([(10, 126), (10, 127), (10, 128), (10, 129), (10, 130), (10, 131)].all fun q => mj_mc q.1 q.2) = true := by decide +kernel
theorem mj_mc_22 : ([(10, 132), (10, 133), (10, 134), (10, 135), (10, 136), (10, 137)].all fun q => mj_mc q.1 q.2) = true := by decide +kernel
theorem mj_mc_23 : ([(10, 138), (10, 139), (10, 140), (10, 141), (10, 142), (10, 143)].all fun q => mj_mc q.1 q.2) = true := by decide +kernel
theorem mj_mc_24 : ([(10, 144), (10, 145), (10, 146), (10, 147), (10, 148), (10, 149)].all fun q => mj_mc q.1 q.2) = true := by decide +kernel
theorem mj_mc_25 : ([(10, 150), (10, 151), (10, 152), (10, 153), (10, 154), (10, 155)].all fun q => mj_mc q.1 q.2) = true := by decide +kernel
theorem mj_mc_26 : ([(10, 156), (10, 157), (10, 158), (10, 159), (10, 160), (10, 161)].all fun q => mj_mc q.1 q.2) = true := by decide +kernel
