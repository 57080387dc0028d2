/-! CALL SITES, LITERALS, THROWS, HANDLERS, checked -/
def mj_lits : List (Nat × Nat × Nat) := [(3, 204, 900001), (5, 10, 900002), (10, 137, 900003)]
/-- method, place, class, entry of the exception's class, of the text, of the constructor, the exception -/
def mj_thrs : List (Nat × Nat × Nat × Nat × Nat × Nat × Nat) := [(5, 15, 0, 131, 133, 135, 502), (6, 11, 0, 131, 142, 135, 502), (7, 11, 0, 147, 149, 151, 501), (80, 5, 7, 28, 30, 32, 500)]
def mj_vx (o n : Nat) (x : mj_I) : Bool := match x.2.1 with
  | .invokestatic i => mj_vk o x && (x.2.2.2.1.1 != 196) && (Nat.blt x.2.2.2.1.1 900 || ((x.2.2.2.1.1 == 900 || x.2.2.2.1.1 == 901 || x.2.2.2.1.1 == 902) && mj_ML.contains (o, i, x.2.2.2.1.1)))
  | .invokevirtual i => mj_vk o x && (x.2.2.2.1.1 != 196) && (Nat.blt x.2.2.2.1.1 900 || ((x.2.2.2.1.1 == 903 || x.2.2.2.1.1 == 904 || x.2.2.2.1.1 == 905) && mj_ML.contains (o, i, x.2.2.2.1.1)))
  | .invokespecial _ => mj_vk o x && (x.2.2.2.1.1 != 196)
  | .ldc i => (x.2.2.2.1.2.2 == 0) || mj_lits.contains (o, i, x.2.2.2.1.1)
  | .new i => (x.2.2.2.1.2.2 == 0) || mj_thrs.any (fun q => (q.1 == n) && (q.2.1 == x.1) && (q.2.2.1 == o) && (q.2.2.2.1 == i) && (q.2.2.2.2.2.2 == x.2.2.2.1.1))
  | _ => true
def mj_hc (o : Nat) (y : mj_D) (hs : List (Nat × Nat × Nat × Nat × Nat × Nat)) : Bool := match hs, y.2.2.2.2 with
  | [], [] => true
  | [(f, t, hp, k, i, h)], [(sp, ep, hpc, ct)] => (f == sp) && (t == ep) && (hp == hpc) && (ct != 0) && decide (Cond.classLink (mj_nm o) ct (mj_ex k) ∈ lw_tbl) && Nat.blt i y.2.2.1 && (i == 3) && decide (decode y.2.1 hpc = .ok (.astore_n 3, 1)) && (h == hpc + 1)
  | _, _ => false
def mj_ma (o n : Nat) : Bool := match mj_P[n]?, mj_PD[n]? with
  | some mm, some y => (n == 196 || mj_mhc n) && mj_hc o y mm.2.1 && plainName y.1.cls && mm.2.2.all fun b => b.2.2.1.all fun x => mj_vx o n x
  | _, _ => false
def mj_g_0 : List (Nat × Nat) := [(0, 0), (0, 1), (0, 2), (0, 3), (0, 4), (0, 5)]
def mj_g_1 : List (Nat × Nat) := [(0, 6), (0, 7), (0, 8), (1, 9), (1, 10), (1, 11)]
def mj_g_2 : List (Nat × Nat) := [(1, 12), (1, 13), (1, 14), (1, 15), (1, 16), (2, 17)]
def mj_g_3 : List (Nat × Nat) := [(2, 18), (2, 19), (2, 20), (3, 21), (3, 22), (3, 23)]
def mj_g_4 : List (Nat × Nat) := [(3, 24), (3, 25), (3, 26), (3, 27), (3, 28), (3, 29)]
def mj_g_5 : List (Nat × Nat) := [(3, 30), (3, 31), (3, 32), (3, 33), (3, 34), (3, 35)]
def mj_g_6 : List (Nat × Nat) := [(3, 36), (3, 37), (3, 38), (3, 39), (3, 40), (3, 41)]
def mj_g_7 : List (Nat × Nat) := [(3, 42), (3, 43), (3, 44), (4, 45), (4, 46), (4, 47)]
def mj_g_8 : List (Nat × Nat) := [(4, 48), (4, 49), (4, 50), (4, 51), (4, 52), (4, 53)]
def mj_g_9 : List (Nat × Nat) := [(5, 54), (5, 55), (5, 56), (5, 57), (6, 58), (6, 59)]
def mj_g_10 : List (Nat × Nat) := [(6, 60), (6, 61), (6, 62), (6, 63), (6, 64), (6, 65)]
def mj_g_11 : List (Nat × Nat) := [(6, 66), (6, 67), (6, 68), (6, 69), (6, 70), (6, 71)]
def mj_g_12 : List (Nat × Nat) := [(6, 72), (6, 73), (6, 74), (7, 75), (7, 76), (7, 77)]
def mj_g_13 : List (Nat × Nat) := [(7, 78), (7, 79), (7, 80), (8, 81), (8, 82), (8, 83)]
def mj_g_14 : List (Nat × Nat) := [(8, 84), (8, 85), (8, 86), (8, 87), (8, 88), (9, 89)]
def mj_g_15 : List (Nat × Nat) := [(9, 90), (9, 91), (9, 92), (9, 93), (9, 94), (9, 95)]
def mj_g_16 : List (Nat × Nat) := [(9, 96), (9, 97), (9, 98), (9, 99), (9, 100), (9, 101)]
def mj_g_17 : List (Nat × Nat) := [(9, 102), (10, 103), (10, 104), (10, 105), (10, 106), (10, 107)]
def mj_g_18 : List (Nat × Nat) := [(10, 108), (10, 109), (10, 110), (10, 111), (10, 112), (10, 113)]
def mj_g_19 : List (Nat × Nat) := [(10, 114), (10, 115), (10, 116), (10, 117), (10, 118), (10, 119)]
def mj_g_20 : List (Nat × Nat) := [(10, 120), (10, 121), (10, 122), (10, 123), (10, 124), (10, 125)]
def mj_g_21 : List (Nat × Nat) := [(10, 126), (10, 127), (10, 128), (10, 129), (10, 130), (10, 131)]
def mj_g_22 : List (Nat × Nat) := [(10, 132), (10, 133), (10, 134), (10, 135), (10, 136), (10, 137)]
def mj_g_23 : List (Nat × Nat) := [(10, 138), (10, 139), (10, 140), (10, 141), (10, 142), (10, 143)]
def mj_g_24 : List (Nat × Nat) := [(10, 144), (10, 145), (10, 146), (10, 147), (10, 148), (10, 149)]
def mj_g_25 : List (Nat × Nat) := [(10, 150), (10, 151), (10, 152), (10, 153), (10, 154), (10, 155)]
def mj_g_26 : List (Nat × Nat) := [(10, 156), (10, 157), (10, 158), (10, 159), (10, 160), (10, 161)]
def mj_g_27 : List (Nat × Nat) := [(10, 162), (10, 163), (10, 164), (10, 165), (10, 166), (10, 167)]
def mj_g_28 : List (Nat × Nat) := [(10, 168), (10, 169), (10, 170), (10, 171), (10, 172), (10, 173)]
def mj_g_29 : List (Nat × Nat) := [(10, 174), (10, 175), (10, 176), (10, 177), (10, 178), (10, 179)]
def mj_g_30 : List (Nat × Nat) := [(10, 180), (10, 181), (10, 182), (11, 183), (11, 184), (11, 185)]
def mj_g_31 : List (Nat × Nat) := [(11, 186), (11, 187), (11, 188), (11, 189), (11, 190), (11, 191)]
def mj_g_32 : List (Nat × Nat) := [(11, 192), (12, 193), (12, 194), (12, 195), (12, 196)]
theorem mj_ma_0 : (mj_g_0.all fun q => mj_ma q.1 q.2) = true := by decide +kernel
theorem mj_ma_1 : (mj_g_1.all fun q => mj_ma q.1 q.2) = true := by decide +kernel
theorem mj_ma_2 : (mj_g_2.all fun q => mj_ma q.1 q.2) = true := by decide +kernel
theorem mj_ma_3 : (mj_g_3.all fun q => mj_ma q.1 q.2) = true := by decide +kernel
theorem mj_ma_4 : (mj_g_4.all fun q => mj_ma q.1 q.2) = true := by decide +kernel
theorem mj_ma_5 : (mj_g_5.all fun q => mj_ma q.1 q.2) = true := by decide +kernel
theorem mj_ma_6 : (mj_g_6.all fun q => mj_ma q.1 q.2) = true := by decide +kernel
theorem mj_ma_7 : (mj_g_7.all fun q => mj_ma q.1 q.2) = true := by decide +kernel
theorem mj_ma_8 : (mj_g_8.all fun q => mj_ma q.1 q.2) = true := by decide +kernel
theorem mj_ma_9 : (mj_g_9.all fun q => mj_ma q.1 q.2) = true := by decide +kernel
theorem mj_ma_10 : (mj_g_10.all fun q => mj_ma q.1 q.2) = true := by decide +kernel
theorem mj_ma_11 : (mj_g_11.all fun q => mj_ma q.1 q.2) = true := by decide +kernel
theorem mj_ma_12 : (mj_g_12.all fun q => mj_ma q.1 q.2) = true := by decide +kernel
theorem mj_ma_13 : (mj_g_13.all fun q => mj_ma q.1 q.2) = true := by decide +kernel
theorem mj_ma_14 : (mj_g_14.all fun q => mj_ma q.1 q.2) = true := by decide +kernel
theorem mj_ma_15 : (mj_g_15.all fun q => mj_ma q.1 q.2) = true := by decide +kernel
theorem mj_ma_16 : (mj_g_16.all fun q => mj_ma q.1 q.2) = true := by decide +kernel
theorem mj_ma_17 : (mj_g_17.all fun q => mj_ma q.1 q.2) = true := by decide +kernel
theorem mj_ma_18 : (mj_g_18.all fun q => mj_ma q.1 q.2) = true := by decide +kernel
theorem mj_ma_19 : (mj_g_19.all fun q => mj_ma q.1 q.2) = true := by decide +kernel
theorem mj_ma_20 : (mj_g_20.all fun q => mj_ma q.1 q.2) = true := by decide +kernel
theorem mj_ma_21 : (mj_g_21.all fun q => mj_ma q.1 q.2) = true := by decide +kernel
theorem mj_ma_22 : (mj_g_22.all fun q => mj_ma q.1 q.2) = true := by decide +kernel
theorem mj_ma_23 : (mj_g_23.all fun q => mj_ma q.1 q.2) = true := by decide +kernel
theorem mj_ma_24 : (mj_g_24.all fun q => mj_ma q.1 q.2) = true := by decide +kernel
theorem mj_ma_25 : (mj_g_25.all fun q => mj_ma q.1 q.2) = true := by decide +kernel
theorem mj_ma_26 : (mj_g_26.all fun q => mj_ma q.1 q.2) = true := by decide +kernel
theorem mj_ma_27 : (mj_g_27.all fun q => mj_ma q.1 q.2) = true := by decide +kernel
theorem mj_ma_28 : (mj_g_28.all fun q => mj_ma q.1 q.2) = true := by decide +kernel
theorem mj_ma_29 : (mj_g_29.all fun q => mj_ma q.1 q.2) = true := by decide +kernel
theorem mj_ma_30 : (mj_g_30.all fun q => mj_ma q.1 q.2) = true := by decide +kernel
theorem mj_ma_31 : (mj_g_31.all fun q => mj_ma q.1 q.2) = true := by decide +kernel
theorem mj_ma_32 : (mj_g_32.all fun q => mj_ma q.1 q.2) = true := by decide +kernel
def mj_on : List (Nat × Nat) := mj_g_0 ++ (mj_g_1 ++ (mj_g_2 ++ (mj_g_3 ++ (mj_g_4 ++ (mj_g_5 ++ (mj_g_6 ++ (mj_g_7 ++ (mj_g_8 ++ (mj_g_9 ++ (mj_g_10 ++ (mj_g_11 ++ (mj_g_12 ++ (mj_g_13 ++ (mj_g_14 ++ (mj_g_15 ++ (mj_g_16 ++ (mj_g_17 ++ (mj_g_18 ++ (mj_g_19 ++ (mj_g_20 ++ (mj_g_21 ++ (mj_g_22 ++ (mj_g_23 ++ (mj_g_24 ++ (mj_g_25 ++ (mj_g_26 ++ (mj_g_27 ++ (mj_g_28 ++ (mj_g_29 ++ (mj_g_30 ++ (mj_g_31 ++ (mj_g_32))))))))))))))))))))))))))))))))
theorem mj_aa {α : Type} {f : α → Bool} {a b : List α} (h : a.all f = true) (k : b.all f = true) : (a ++ b).all f = true := by rw [List.all_append, h, k]; rfl
theorem mj_mas : (mj_on.all fun q => mj_ma q.1 q.2) = true := mj_aa mj_ma_0 (mj_aa mj_ma_1 (mj_aa mj_ma_2 (mj_aa mj_ma_3 (mj_aa mj_ma_4 (mj_aa mj_ma_5 (mj_aa mj_ma_6 (mj_aa mj_ma_7 (mj_aa mj_ma_8 (mj_aa mj_ma_9 (mj_aa mj_ma_10 (mj_aa mj_ma_11 (mj_aa mj_ma_12 (mj_aa mj_ma_13 (mj_aa mj_ma_14 (mj_aa mj_ma_15 (mj_aa mj_ma_16 (mj_aa mj_ma_17 (mj_aa mj_ma_18 (mj_aa mj_ma_19 (mj_aa mj_ma_20 (mj_aa mj_ma_21 (mj_aa mj_ma_22 (mj_aa mj_ma_23 (mj_aa mj_ma_24 (mj_aa mj_ma_25 (mj_aa mj_ma_26 (mj_aa mj_ma_27 (mj_aa mj_ma_28 (mj_aa mj_ma_29 (mj_aa mj_ma_30 (mj_aa mj_ma_31 (mj_ma_32))))))))))))))))))))))))))))))))
theorem mj_mcs : (mj_on.all fun q => mj_mc q.1 q.2) = true := mj_aa mj_mc_0 (mj_aa mj_mc_1 (mj_aa mj_mc_2 (mj_aa mj_mc_3 (mj_aa mj_mc_4 (mj_aa mj_mc_5 (mj_aa mj_mc_6 (mj_aa mj_mc_7 (mj_aa mj_mc_8 (mj_aa mj_mc_9 (mj_aa mj_mc_10 (mj_aa mj_mc_11 (mj_aa mj_mc_12 (mj_aa mj_mc_13 (mj_aa mj_mc_14 (mj_aa mj_mc_15 (mj_aa mj_mc_16 (mj_aa mj_mc_17 (mj_aa mj_mc_18 (mj_aa mj_mc_19 (mj_aa mj_mc_20 (mj_aa mj_mc_21 (mj_aa mj_mc_22 (mj_aa mj_mc_23 (mj_aa mj_mc_24 (mj_aa mj_mc_25 (mj_aa mj_mc_26 (mj_aa mj_mc_27 (mj_aa mj_mc_28 (mj_aa mj_mc_29 (mj_aa mj_mc_30 (mj_aa mj_mc_31 (mj_mc_32))))))))))))))))))))))))))))))))
theorem mj_on_all : ((List.range 197).all fun n => mj_on.contains (mj_ow.getD n 0, n)) = true := by decide +kernel
theorem mj_chk {n : Nat} {z : mj_M} (h : mj_P[n]? = some z) : mj_mc (mj_ow.getD n 0) n = true ∧ mj_ma (mj_ow.getD n 0) n = true := by
  have hn : n < 197 := (List.getElem?_eq_some_iff.mp h).1
  have hm := List.contains_iff_mem.mp (List.all_eq_true.mp mj_on_all n (List.mem_range.mpr hn))
  exact ⟨List.all_eq_true.mp mj_mcs _ hm, List.all_eq_true.mp mj_mas _ hm⟩
