/-! A NEW MacroPress -/
def mj_Rt : List (Nat × Nat × Nat) → (Nat → Nat → Option Nat) → Prop
  | [], _ => True
  | t :: r, Rf => Rf t.1 t.2.1 = some t.2.2 ∧ mj_Rt r Rf
theorem mj_Rt.at {Rf : Nat → Nat → Option Nat} : ∀ {T : List (Nat × Nat × Nat)}, mj_Rt T Rf → ∀ {a b c : Nat}, (a, b, c) ∈ T → Rf a b = some c
  | t :: r, h, a, b, c, ht => by
    rcases List.mem_cons.mp ht with rfl | ht
    · exact h.1
    · exact mj_Rt.at h.2 ht
def mp_R : List (Nat × Nat × Nat) := [(0, 0, 1), (0, 1, 2), (0, 2, 9), (0, 3, 17), (0, 4, 21), (0, 5, 25), (0, 6, 28), (0, 7, 34), (2, 0, 3), (2, 1, 4), (2, 2, 5), (2, 3, 8), (2, 4, 6), (9, 0, 10), (9, 1, 11), (9, 2, 12), (9, 3, 13), (9, 4, 14), (9, 6, 15), (9, 7, 16), (9, 9, 1),
  (17, 0, 18), (17, 7, 19), (17, 9, 20), (17, 10, 2), (17, 11, 9), (17, 12, 1), (21, 0, 22), (21, 1, 23), (21, 2, 24), (21, 5, 1), (25, 0, 26), (25, 1, 27), (25, 3, 17), (25, 4, 9), (25, 5, 1), (28, 0, 29), (28, 2, 17), (28, 3, 2), (28, 4, 9), (28, 5, 21), (28, 6, 25), (28, 7, 1), (28, 8, 30),
  (30, 0, 31), (30, 1, 32), (30, 2, 33), (30, 4, 17), (30, 5, 21), (30, 6, 1), (34, 0, 35), (34, 2, 28), (34, 3, 17), (34, 4, 9), (34, 5, 21), (34, 6, 1)]
theorem mz_row {I : Nat → Nat → Int32} {n : Nat} (h : ∀ b q, b < n → mz b → I b q = 0) {b q : Nat} (hb : b < n + 1) (hm : mz b) : mj_row I n (fun _ => 0) b q = 0 := by
  by_cases hn : b = n
  · subst hn
    exact if_pos rfl
  · rw [mjs_row_c hn]
    exact h b q (by omega) hm
section MJP0
variable {L d : Nat} {xs : Nat → Int32} {Q : mj_Q} {I : Nat → Nat → Int32} {Lg : Nat → Nat → Int64} {Rf : Nat → Nat → Option Nat}
set_option maxRecDepth 20000 in
set_option maxHeartbeats 1000000 in
theorem c_0 (hz : ∀ q, I 0 q = 0) (hQ : ∀ (I' : Nat → Nat → Int32) (Lg' : Nat → Nat → Int64) (Rf' : Nat → Nat → Option Nat) (k : Nat), (∀ b q, b < 36 → mz b → I' b q = 0) → nm_I I' 2 4 5 6 k 237 → mj_Rt mp_R Rf' → Q (.inl none) (sh36, I', Lg', Rf', 36, 176631)) :
    mj_call (mj_X0 L xs) mj_P (mj_bi (mj_X0 L xs)) (d + 3) 0 [.ref 0] ([(0, 8)], I, Lg, Rf, 1, 8) Q := by
  refine mj_enter (z := (1, [], mb_0)) (by decide) rfl rfl ?_
  refine mj_blk rfl ?_
  simp +decide only [mjs_0, mjs_1, mjs_2, mjs_3, mjs_ble, true_and, Bool.false_eq_true, if_false, if_true, Nat.reduceAdd, Nat.reduceSub, Nat.reduceLeDiff, mjs_lit, mjs_ttb, Nat.reduceEqDiff]
  refine c_75 ?_
  simp +decide only [mjs_0, mjs_1, mjs_2, mjs_3, mjs_ble, true_and, Bool.false_eq_true, if_false, if_true, Nat.reduceAdd, Nat.reduceSub, Nat.reduceLeDiff, mjs_lit, mjs_ttb, Nat.reduceEqDiff]
  refine c_54 (by simp +decide only [mjs_0, mjs_1, mjs_2, mjs_3, mjs_ble, true_and, Bool.false_eq_true, if_false, if_true, Nat.reduceAdd, Nat.reduceSub, Nat.reduceLeDiff, mjs_lit, mjs_ttb, Nat.reduceEqDiff]) (fun I1 Lg1 Rf1 k hn hi1 hr1 n0 n1 n2 n3 n4 => ?_)
  simp +decide only [mjs_0, mjs_1, mjs_2, mjs_3, mjs_ble, true_and, Bool.false_eq_true, if_false, if_true, Nat.reduceAdd, Nat.reduceSub, Nat.reduceLeDiff, mjs_lit, mjs_ttb, Nat.reduceEqDiff, sh9, hr1]
  refine c_89 (p := 1) (fun I2 Lg2 Rf2 hi2 hv2 hr2 s0 s1 s2 s3 s4 s6 s7 s9 => ?_)
  simp +decide only [mjs_0, mjs_1, mjs_2, mjs_3, mjs_ble, true_and, Bool.false_eq_true, if_false, if_true, Nat.reduceAdd, Nat.reduceSub, Nat.reduceLeDiff, mjs_lit, mjs_ttb, Nat.reduceEqDiff, sh17, hr2, hr1]
  have z18 : ∀ b q, b < 18 → mz b → mj_row I2 17 (fun _ => 0) b q = 0 := by
    intro b q hb hm
    unfold mz at hm
    by_cases h17 : b = 17
    · subst h17
      simp +decide only [mjs_0, mjs_1, mjs_2, mjs_3, mjs_ble, true_and, Bool.false_eq_true, if_false, if_true, Nat.reduceAdd, Nat.reduceSub, Nat.reduceLeDiff, mjs_lit, mjs_ttb, Nat.reduceEqDiff]
    rw [mjs_row_c h17]
    by_cases h10 : b < 10
    · rw [hi2 b q h10]
      by_cases h9 : b = 9
      · subst h9
        simp +decide only [mjs_0, mjs_1, mjs_2, mjs_3, mjs_ble, true_and, Bool.false_eq_true, if_false, if_true, Nat.reduceAdd, Nat.reduceSub, Nat.reduceLeDiff, mjs_lit, mjs_ttb, Nat.reduceEqDiff]
      rw [mjs_row_c h9, hi1 b q (by omega)]
      rcases (show b = 0 ∨ b = 1 by omega) with rfl | rfl <;> simp +decide only [mjs_0, mjs_1, mjs_2, mjs_3, mjs_ble, true_and, Bool.false_eq_true, if_false, if_true, Nat.reduceAdd, Nat.reduceSub, Nat.reduceLeDiff, mjs_lit, mjs_ttb, Nat.reduceEqDiff, hz]
    · exact hv2 b q (by omega) (by omega) (by omega)
  have nm18 : nm_I (mj_row I2 17 fun _ => 0) 2 4 5 6 k 237 := hn.to fun b q hb => by
    rw [mjs_row_c (by omega), hi2 b q (by omega), mjs_row_c (by omega)]
  refine c_81 (a1 := 2) (a2 := 9) (a3 := 1) z18 (fun I3 Lg3 Rf3 z3 y3 hr3 g0 g1 g2 g3 g4 g5 => ?_)
  simp +decide only [mjs_0, mjs_1, mjs_2, mjs_3, mjs_ble, true_and, Bool.false_eq_true, if_false, if_true, Nat.reduceAdd, Nat.reduceSub, Nat.reduceLeDiff, mjs_lit, mjs_ttb, Nat.reduceEqDiff, sh21, hr3, hr2, hr1]
  refine c_45 (a1 := 1) (fun b q hb hm => mz_row z3 hb hm) (fun I4 Lg4 Rf4 z4 y4 hr4 k0 k1 k2 k3 => ?_)
  simp +decide only [mjs_0, mjs_1, mjs_2, mjs_3, mjs_ble, true_and, Bool.false_eq_true, if_false, if_true, Nat.reduceAdd, Nat.reduceSub, Nat.reduceLeDiff, mjs_lit, mjs_ttb, Nat.reduceEqDiff, sh25, hr4, hr3, hr2, hr1]
  refine c_17 (a1 := 17) (a2 := 9) (a3 := 1) (fun b q hb hm => mz_row z4 hb hm) (fun I5 Lg5 Rf5 z5 y5 hr5 q0 q1 q2 q3 q4 => ?_)
  simp +decide only [mjs_0, mjs_1, mjs_2, mjs_3, mjs_ble, true_and, Bool.false_eq_true, if_false, if_true, Nat.reduceAdd, Nat.reduceSub, Nat.reduceLeDiff, mjs_lit, mjs_ttb, Nat.reduceEqDiff, sh28, hr5, hr4, hr3, hr2, hr1]
  refine c_21 (a1 := 17) (a2 := 2) (a3 := 9) (a4 := 21) (a5 := 25) (a6 := 1) (fun b q hb hm => mz_row z5 hb hm) (fun I6 Lg6 Rf6 z6 y6 hr6 e0 e1 e2 e3 e4 e5 e6 e7 m0 m1 m2 m3 m4 m5 => ?_)
  simp +decide only [mjs_0, mjs_1, mjs_2, mjs_3, mjs_ble, true_and, Bool.false_eq_true, if_false, if_true, Nat.reduceAdd, Nat.reduceSub, Nat.reduceLeDiff, mjs_lit, mjs_ttb, Nat.reduceEqDiff, sh34, hr6, hr5, hr4, hr3, hr2, hr1]
  refine c_58 (a1 := 28) (a2 := 17) (a3 := 9) (a4 := 21) (a5 := 1) (fun b q hb hm => mz_row z6 hb hm) (fun I7 Lg7 Rf7 z7 y7 hr7 w0 w1 w2 w3 w4 w5 => ?_)
  simp +decide only [mjs_0, mjs_1, mjs_2, mjs_3, mjs_ble, true_and, Bool.false_eq_true, if_false, if_true, Nat.reduceAdd, Nat.reduceSub, Nat.reduceLeDiff, mjs_lit, mjs_ttb, Nat.reduceEqDiff, sh36]
  have nmz : ∀ b, b = 2 ∨ b = 4 ∨ b = 5 ∨ b = 6 → ¬ mz b := fun b hb => by unfold mz; omega
  refine hQ _ _ _ k z7 (nm18.to fun b q hb => ?_) ?_
  · rw [y7 b q (by omega) (nmz b hb), mjs_row_c (by omega), y6 b q (by omega) (nmz b hb), mjs_row_c (by omega), y5 b q (by omega) (nmz b hb), mjs_row_c (by omega), y4 b q (by omega) (nmz b hb), mjs_row_c (by omega), y3 b q (by omega) (nmz b hb)]
  · simp +decide only [mp_R, mj_Rt, mjs_0, mjs_1, mjs_2, mjs_3, mjs_ble, true_and, Bool.false_eq_true, if_false, if_true, Nat.reduceAdd, Nat.reduceSub, Nat.reduceLeDiff, mjs_lit, mjs_ttb, Nat.reduceEqDiff, hr7, hr6, hr5, hr4, hr3, hr2, hr1, n0, n1, n2, n3, n4, s0, s1, s2, s3, s4, s6, s7, s9, g0, g1, g2, g3, g4, g5, k0, k1, k2, k3, q0, q1, q2, q3, q4, e0, e1, e2, e3, e4, e5, e6, e7, m0, m1, m2, m3, m4, m5, w0, w1, w2, w3, w4, w5, and_self]
end MJP0
