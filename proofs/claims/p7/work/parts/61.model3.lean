/-! THE REFERENCE: made -/
theorem mj_n9 : (9 : Int32).toNatClampNeg = 9 := by decide
theorem mj_n101 : (101 : Int32).toNatClampNeg = 101 := by decide
theorem mj_n102 : (102 : Int32).toNatClampNeg = 102 := by decide
theorem mj_n1100 : (1100 : Int32).toNatClampNeg = 1100 := by decide
theorem mj_n1722 : (1722 : Int32).toNatClampNeg = 1722 := by decide
theorem mj_n4000 : (4000 : Int32).toNatClampNeg = 4000 := by decide
theorem mj_n10001 : (10001 : Int32).toNatClampNeg = 10001 := by decide
theorem mj_n10600 : (10600 : Int32).toNatClampNeg = 10600 := by decide
theorem mj_n25856 : (25856 : Int32).toNatClampNeg = 25856 := by decide
theorem mj_n30002 : (30002 : Int32).toNatClampNeg = 30002 := by decide
theorem mj_n44000 : (44000 : Int32).toNatClampNeg = 44000 := by decide
theorem mj_n99000 : (99000 : Int32).toNatClampNeg = 99000 := by decide
theorem mj_n141400 : (141400 : Int32).toNatClampNeg = 141400 := by decide
def sh37 : List (Nat × Nat) := [(0, 8), (7, 4), (5, 6), (1002, 40237), (1000, 1037), (1000, 256), (1000, 1036), (1000, 40), (1000, 256), (9, 10), (1000, 1804), (1000, 1804), (1000, 1804), (1000, 30001), (1000, 30001), (1000, 100), (1000, 100), (8, 13), (1000, 4001), (1000, 10100), (1000, 41), (4, 6), (1000, 10000), (1000, 10002), (1000, 10002), (2, 6), (1000, 100), (1003, 100), (3, 9), (1000, 1600), (1, 7), (1000, 14101), (1000, 16), (1000, 16), (6, 7), (1000, 8000), (10, 41)]
def sh58 : List (Nat × Nat) := [(0, 8), (7, 4), (5, 6), (1002, 40237), (1000, 1037), (1000, 256), (1000, 1036), (1000, 40), (1000, 256), (9, 10), (1000, 1804), (1000, 1804), (1000, 1804), (1000, 30001), (1000, 30001), (1000, 100), (1000, 100), (8, 13), (1000, 4001), (1000, 10100), (1000, 41), (4, 6), (1000, 10000), (1000, 10002), (1000, 10002), (2, 6), (1000, 100), (1003, 100), (3, 9), (1000, 1600), (1, 7), (1000, 14101), (1000, 16), (1000, 16), (6, 7), (1000, 8000), (10, 41), (1004, 4000), (1004, 8000), (1000, 4001), (1004, 44000), (1000, 1100), (1000, 41), (1000, 1722), (1003, 102), (1000, 141400), (1000, 25856), (1000, 25856), (1000, 30002), (1000, 30002), (1000, 30002), (1000, 30002), (1000, 10001), (1000, 10600), (1000, 99000), (1000, 9), (1003, 101), (1000, 101)]
def sh59 : List (Nat × Nat) := [(0, 8), (7, 4), (5, 6), (1002, 40237), (1000, 1037), (1000, 256), (1000, 1036), (1000, 40), (1000, 256), (9, 10), (1000, 1804), (1000, 1804), (1000, 1804), (1000, 30001), (1000, 30001), (1000, 100), (1000, 100), (8, 13), (1000, 4001), (1000, 10100), (1000, 41), (4, 6), (1000, 10000), (1000, 10002), (1000, 10002), (2, 6), (1000, 100), (1003, 100), (3, 9), (1000, 1600), (1, 7), (1000, 14101), (1000, 16), (1000, 16), (6, 7), (1000, 8000), (10, 41), (1004, 4000), (1004, 8000), (1000, 4001), (1004, 44000), (1000, 1100), (1000, 41), (1000, 1722), (1003, 102), (1000, 141400), (1000, 25856), (1000, 25856), (1000, 30002), (1000, 30002), (1000, 30002), (1000, 30002), (1000, 10001), (1000, 10600), (1000, 99000), (1000, 9), (1003, 101), (1000, 101), (1001, 1)]
section MJM3
variable {L d : Nat} {xs : Nat → Int32} {Q : mj_Q} {I : Nat → Nat → Int32} {Lg : Nat → Nat → Int64} {Rf : Nat → Nat → Option Nat}
theorem mm_C58 : mm_C sh58 := ⟨rfl, rfl, rfl, rfl, rfl, rfl, rfl⟩
theorem mm_C59 : mm_C sh59 := ⟨rfl, rfl, rfl, rfl, rfl, rfl, rfl⟩
set_option maxRecDepth 400000 in
set_option maxHeartbeats 1000000 in
theorem c_103 (hz : ∀ q, I 36 q = 0) (hQ : ∀ (I' : Nat → Nat → Int32) (Lg' : Nat → Nat → Int64) (Rf' : Nat → Nat → Option Nat), (∀ b q, b < 36 → I' b q = I b q) → (∀ q, q ∈ mm_cf → I' 36 q = 0) → (I' 36 0 = 0 ∧ I' 36 1 = 0) → (∀ q, q < 256 → I' 46 q = 0) → (∀ b q, b < 36 → Rf' b q = Rf b q) → mj_Rt mm_R Rf' → Q (.inl none) (sh58, I', Lg', Rf', 58, 672570)) :
    mj_call (mj_X0 L xs) mj_P (mj_bi (mj_X0 L xs)) (d + 4) 103 [.ref 36] (sh37, I, Lg, Rf, 37, 176672) Q := by
  refine mj_enter (z := (1, [], mb_103)) (by decide) rfl rfl ?_
  refine mj_blk rfl ?_
  simp +decide only [mjs_0, mjs_1, mjs_2, mjs_3, mjs_ble, true_and, Bool.false_eq_true, if_false, if_true, Nat.reduceAdd, Nat.reduceSub, Nat.reduceLeDiff, mjs_lit, mjs_ttb, Nat.reduceEqDiff, sh37, mj_n9, mj_n101, mj_n102, mj_n1100, mj_n1722, mj_n4000, mj_n10001, mj_n10600, mj_n25856, mj_n30002, mj_n44000, mj_n99000, mj_n141400, mj_n41, mj_n8000, mj_n4001]
  refine c_107 (sh := sh58) mm_C58 ?_ (fun I1 hI1 => ?_)
  · simp +decide only [mm_R, mj_Rt, mjs_0, mjs_1, mjs_2, mjs_3, mjs_ble, true_and, Bool.false_eq_true, if_false, if_true, Nat.reduceAdd, Nat.reduceSub, Nat.reduceLeDiff, mjs_lit, mjs_ttb, Nat.reduceEqDiff, and_self]
  · simp +decide only [mjs_0, mjs_1, mjs_2, mjs_3, mjs_ble, true_and, Bool.false_eq_true, if_false, if_true, Nat.reduceAdd, Nat.reduceSub, Nat.reduceLeDiff, mjs_lit, mjs_ttb, Nat.reduceEqDiff, sh58]
    obtain ⟨h1, h2, h3, h4⟩ := hI1
    refine hQ _ _ _ (fun b q hb => ?_) (fun q hq => ?_) ⟨?_, ?_⟩ (fun q hq => ?_) (fun b q hb => ?_) ?_
    · rw [mjs_up_c (by omega), h1 b q (by omega) (by omega) (by omega) (by omega) (by omega) (by omega) (by omega)]
      simp only [mjs_row_c (show b ≠ 37 by omega), mjs_row_c (show b ≠ 38 by omega), mjs_row_c (show b ≠ 39 by omega), mjs_row_c (show b ≠ 40 by omega), mjs_row_c (show b ≠ 41 by omega), mjs_row_c (show b ≠ 42 by omega), mjs_row_c (show b ≠ 43 by omega), mjs_row_c (show b ≠ 44 by omega), mjs_row_c (show b ≠ 45 by omega), mjs_row_c (show b ≠ 46 by omega), mjs_row_c (show b ≠ 47 by omega), mjs_row_c (show b ≠ 48 by omega), mjs_row_c (show b ≠ 49 by omega), mjs_row_c (show b ≠ 50 by omega), mjs_row_c (show b ≠ 51 by omega), mjs_row_c (show b ≠ 52 by omega), mjs_row_c (show b ≠ 53 by omega), mjs_row_c (show b ≠ 54 by omega), mjs_row_c (show b ≠ 55 by omega), mjs_row_c (show b ≠ 56 by omega), mjs_row_c (show b ≠ 57 by omega)]
    · by_cases h36 : q = 36
      · rw [h36, mjs_up_at]
      · rw [mjs_up_ne (Or.inr h36)]
        exact h2 q hq
    · rw [mjs_up_ne (Or.inr (by decide)), h3.1]
      simp +decide only [mjs_0, mjs_1, mjs_2, mjs_3, mjs_ble, true_and, Bool.false_eq_true, if_false, if_true, Nat.reduceAdd, Nat.reduceSub, Nat.reduceLeDiff, mjs_lit, mjs_ttb, Nat.reduceEqDiff, hz]
    · rw [mjs_up_ne (Or.inr (by decide)), h3.2.1]
      simp +decide only [mjs_0, mjs_1, mjs_2, mjs_3, mjs_ble, true_and, Bool.false_eq_true, if_false, if_true, Nat.reduceAdd, Nat.reduceSub, Nat.reduceLeDiff, mjs_lit, mjs_ttb, Nat.reduceEqDiff, hz]
    · rw [mjs_up_c (by decide)]
      exact h4 q hq
    · simp only [mjs_row_c (show b ≠ 37 by omega), mjs_row_c (show b ≠ 38 by omega), mjs_row_c (show b ≠ 39 by omega), mjs_row_c (show b ≠ 40 by omega), mjs_row_c (show b ≠ 41 by omega), mjs_row_c (show b ≠ 42 by omega), mjs_row_c (show b ≠ 43 by omega), mjs_row_c (show b ≠ 44 by omega), mjs_row_c (show b ≠ 45 by omega), mjs_row_c (show b ≠ 46 by omega), mjs_row_c (show b ≠ 47 by omega), mjs_row_c (show b ≠ 48 by omega), mjs_row_c (show b ≠ 49 by omega), mjs_row_c (show b ≠ 50 by omega), mjs_row_c (show b ≠ 51 by omega), mjs_row_c (show b ≠ 52 by omega), mjs_row_c (show b ≠ 53 by omega), mjs_row_c (show b ≠ 54 by omega), mjs_row_c (show b ≠ 55 by omega), mjs_row_c (show b ≠ 56 by omega), mjs_row_c (show b ≠ 57 by omega), mjs_up_c (show b ≠ 36 by omega)]
    · simp +decide only [mm_R, mj_Rt, mjs_0, mjs_1, mjs_2, mjs_3, mjs_ble, true_and, Bool.false_eq_true, if_false, if_true, Nat.reduceAdd, Nat.reduceSub, Nat.reduceLeDiff, mjs_lit, mjs_ttb, Nat.reduceEqDiff, and_self]
end MJM3
