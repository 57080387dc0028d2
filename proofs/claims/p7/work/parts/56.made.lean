/-! STRAIGHT CONSTRUCTORS, printed by ctor.py -/
theorem mj_n4001 : (4001 : Int32).toNatClampNeg = 4001 := by decide
theorem mj_n10100 : (10100 : Int32).toNatClampNeg = 10100 := by decide
theorem mj_n41 : (41 : Int32).toNatClampNeg = 41 := by decide
theorem mj_n10000 : (10000 : Int32).toNatClampNeg = 10000 := by decide
theorem mj_n10002 : (10002 : Int32).toNatClampNeg = 10002 := by decide
theorem mj_n14101 : (14101 : Int32).toNatClampNeg = 14101 := by decide
theorem mj_n16 : (16 : Int32).toNatClampNeg = 16 := by decide
theorem mj_n1600 : (1600 : Int32).toNatClampNeg = 1600 := by decide
theorem mj_n8000 : (8000 : Int32).toNatClampNeg = 8000 := by decide
/-- the cells that stay all zero while the class is made -/
def mz (b : Nat) : Prop := b < 2 ∨ 9 ≤ b ∧ b ≠ 11
def sh18 : List (Nat × Nat) := [(0, 8), (7, 4), (5, 6), (1002, 40237), (1000, 1037), (1000, 256), (1000, 1036), (1000, 40), (1000, 256), (9, 10), (1000, 1804), (1000, 1804), (1000, 1804), (1000, 30001), (1000, 30001), (1000, 100), (1000, 100), (8, 13)]
def sh21 : List (Nat × Nat) := [(0, 8), (7, 4), (5, 6), (1002, 40237), (1000, 1037), (1000, 256), (1000, 1036), (1000, 40), (1000, 256), (9, 10), (1000, 1804), (1000, 1804), (1000, 1804), (1000, 30001), (1000, 30001), (1000, 100), (1000, 100), (8, 13), (1000, 4001), (1000, 10100), (1000, 41)]
def sh22 : List (Nat × Nat) := [(0, 8), (7, 4), (5, 6), (1002, 40237), (1000, 1037), (1000, 256), (1000, 1036), (1000, 40), (1000, 256), (9, 10), (1000, 1804), (1000, 1804), (1000, 1804), (1000, 30001), (1000, 30001), (1000, 100), (1000, 100), (8, 13), (1000, 4001), (1000, 10100), (1000, 41), (4, 6)]
def sh25 : List (Nat × Nat) := [(0, 8), (7, 4), (5, 6), (1002, 40237), (1000, 1037), (1000, 256), (1000, 1036), (1000, 40), (1000, 256), (9, 10), (1000, 1804), (1000, 1804), (1000, 1804), (1000, 30001), (1000, 30001), (1000, 100), (1000, 100), (8, 13), (1000, 4001), (1000, 10100), (1000, 41), (4, 6), (1000, 10000), (1000, 10002), (1000, 10002)]
def sh26 : List (Nat × Nat) := [(0, 8), (7, 4), (5, 6), (1002, 40237), (1000, 1037), (1000, 256), (1000, 1036), (1000, 40), (1000, 256), (9, 10), (1000, 1804), (1000, 1804), (1000, 1804), (1000, 30001), (1000, 30001), (1000, 100), (1000, 100), (8, 13), (1000, 4001), (1000, 10100), (1000, 41), (4, 6), (1000, 10000), (1000, 10002), (1000, 10002), (2, 6)]
def sh28 : List (Nat × Nat) := [(0, 8), (7, 4), (5, 6), (1002, 40237), (1000, 1037), (1000, 256), (1000, 1036), (1000, 40), (1000, 256), (9, 10), (1000, 1804), (1000, 1804), (1000, 1804), (1000, 30001), (1000, 30001), (1000, 100), (1000, 100), (8, 13), (1000, 4001), (1000, 10100), (1000, 41), (4, 6), (1000, 10000), (1000, 10002), (1000, 10002), (2, 6), (1000, 100), (1003, 100)]
def sh29 : List (Nat × Nat) := [(0, 8), (7, 4), (5, 6), (1002, 40237), (1000, 1037), (1000, 256), (1000, 1036), (1000, 40), (1000, 256), (9, 10), (1000, 1804), (1000, 1804), (1000, 1804), (1000, 30001), (1000, 30001), (1000, 100), (1000, 100), (8, 13), (1000, 4001), (1000, 10100), (1000, 41), (4, 6), (1000, 10000), (1000, 10002), (1000, 10002), (2, 6), (1000, 100), (1003, 100), (3, 9)]
def sh30 : List (Nat × Nat) := [(0, 8), (7, 4), (5, 6), (1002, 40237), (1000, 1037), (1000, 256), (1000, 1036), (1000, 40), (1000, 256), (9, 10), (1000, 1804), (1000, 1804), (1000, 1804), (1000, 30001), (1000, 30001), (1000, 100), (1000, 100), (8, 13), (1000, 4001), (1000, 10100), (1000, 41), (4, 6), (1000, 10000), (1000, 10002), (1000, 10002), (2, 6), (1000, 100), (1003, 100), (3, 9), (1000, 1600)]
def sh31 : List (Nat × Nat) := [(0, 8), (7, 4), (5, 6), (1002, 40237), (1000, 1037), (1000, 256), (1000, 1036), (1000, 40), (1000, 256), (9, 10), (1000, 1804), (1000, 1804), (1000, 1804), (1000, 30001), (1000, 30001), (1000, 100), (1000, 100), (8, 13), (1000, 4001), (1000, 10100), (1000, 41), (4, 6), (1000, 10000), (1000, 10002), (1000, 10002), (2, 6), (1000, 100), (1003, 100), (3, 9), (1000, 1600), (1, 7)]
def sh34 : List (Nat × Nat) := [(0, 8), (7, 4), (5, 6), (1002, 40237), (1000, 1037), (1000, 256), (1000, 1036), (1000, 40), (1000, 256), (9, 10), (1000, 1804), (1000, 1804), (1000, 1804), (1000, 30001), (1000, 30001), (1000, 100), (1000, 100), (8, 13), (1000, 4001), (1000, 10100), (1000, 41), (4, 6), (1000, 10000), (1000, 10002), (1000, 10002), (2, 6), (1000, 100), (1003, 100), (3, 9), (1000, 1600), (1, 7), (1000, 14101), (1000, 16), (1000, 16)]
def sh35 : List (Nat × Nat) := [(0, 8), (7, 4), (5, 6), (1002, 40237), (1000, 1037), (1000, 256), (1000, 1036), (1000, 40), (1000, 256), (9, 10), (1000, 1804), (1000, 1804), (1000, 1804), (1000, 30001), (1000, 30001), (1000, 100), (1000, 100), (8, 13), (1000, 4001), (1000, 10100), (1000, 41), (4, 6), (1000, 10000), (1000, 10002), (1000, 10002), (2, 6), (1000, 100), (1003, 100), (3, 9), (1000, 1600), (1, 7), (1000, 14101), (1000, 16), (1000, 16), (6, 7)]
def sh36 : List (Nat × Nat) := [(0, 8), (7, 4), (5, 6), (1002, 40237), (1000, 1037), (1000, 256), (1000, 1036), (1000, 40), (1000, 256), (9, 10), (1000, 1804), (1000, 1804), (1000, 1804), (1000, 30001), (1000, 30001), (1000, 100), (1000, 100), (8, 13), (1000, 4001), (1000, 10100), (1000, 41), (4, 6), (1000, 10000), (1000, 10002), (1000, 10002), (2, 6), (1000, 100), (1003, 100), (3, 9), (1000, 1600), (1, 7), (1000, 14101), (1000, 16), (1000, 16), (6, 7), (1000, 8000)]
section MJMADE
variable {L d : Nat} {xs : Nat → Int32} {Q : mj_Q} {I : Nat → Nat → Int32} {Lg : Nat → Nat → Int64} {Rf : Nat → Nat → Option Nat}
set_option maxRecDepth 20000 in
theorem c_81 {a1 a2 a3 : Nat} (hz : ∀ b q, b < 18 → mz b → I b q = 0) (hQ : ∀ (I' : Nat → Nat → Int32) (Lg' : Nat → Nat → Int64) (Rf' : Nat → Nat → Option Nat), (∀ b q, b < 21 → mz b → I' b q = 0) → (∀ b q, b < 21 → ¬ mz b → I' b q = I b q) → (∀ b q, b < 17 → Rf' b q = Rf b q) → Rf' 17 0 = some 18 → Rf' 17 7 = some 19 → Rf' 17 9 = some 20 → Rf' 17 10 = some a1 → Rf' 17 11 = some a2 → Rf' 17 12 = some a3 → Q (.inl none) (sh21, I', Lg', Rf', 21, 122659)) :
    mj_call (mj_X0 L xs) mj_P (mj_bi (mj_X0 L xs)) (d + 1) 81 [.ref 17, .ref a1, .ref a2, .ref a3] (sh18, I, Lg, Rf, 18, 108517) Q := by
  refine mj_enter (z := (4, [], mb_81)) (by decide) rfl rfl ?_
  refine mj_blk rfl ?_
  simp +decide only [mjs_0, mjs_1, mjs_2, mjs_3, mjs_ble, true_and, Bool.false_eq_true, if_false, if_true, Nat.reduceAdd, Nat.reduceSub, Nat.reduceLeDiff, mjs_lit, mjs_ttb, Nat.reduceEqDiff, sh18, mj_n4001, mj_n10100, mj_n41, mj_n10000, mj_n10002, mj_n14101, mj_n16, mj_n1600, mj_n8000, mj_n100]
  refine hQ _ _ _ (fun b q hb hm => ?_) (fun b q hb hm => ?_) (fun b q hb => ?_) ?_ ?_ ?_ ?_ ?_ ?_
  · rcases (show b < 18 ∨ b = 18 ∨ b = 19 ∨ b = 20 by omega) with h | rfl | rfl | rfl
    · rw [mjs_row_c (by omega), mjs_row_c (by omega), mjs_row_c (by omega)]
      exact hz b q h hm
    all_goals simp +decide only [mjs_0, mjs_1, mjs_2, mjs_3, mjs_ble, true_and, Bool.false_eq_true, if_false, if_true, Nat.reduceAdd, Nat.reduceSub, Nat.reduceLeDiff, mjs_lit, mjs_ttb, Nat.reduceEqDiff]
  · have h : b < 9 ∨ b = 11 := by unfold mz at hm; omega
    rw [mjs_row_c (by omega), mjs_row_c (by omega), mjs_row_c (by omega)]
  · simp only [mjs_row_c (show b ≠ 18 by omega), mjs_row_c (show b ≠ 19 by omega), mjs_row_c (show b ≠ 20 by omega), mjs_up_c (show b ≠ 17 by omega)]
  all_goals simp +decide only [mjs_0, mjs_1, mjs_2, mjs_3, mjs_ble, true_and, Bool.false_eq_true, if_false, if_true, Nat.reduceAdd, Nat.reduceSub, Nat.reduceLeDiff, mjs_lit, mjs_ttb, Nat.reduceEqDiff]
set_option maxRecDepth 20000 in
theorem c_45 {a1 : Nat} (hz : ∀ b q, b < 22 → mz b → I b q = 0) (hQ : ∀ (I' : Nat → Nat → Int32) (Lg' : Nat → Nat → Int64) (Rf' : Nat → Nat → Option Nat), (∀ b q, b < 25 → mz b → I' b q = 0) → (∀ b q, b < 25 → ¬ mz b → I' b q = I b q) → (∀ b q, b < 21 → Rf' b q = Rf b q) → Rf' 21 0 = some 22 → Rf' 21 1 = some 23 → Rf' 21 2 = some 24 → Rf' 21 5 = some a1 → Q (.inl none) (sh25, I', Lg', Rf', 25, 152669)) :
    mj_call (mj_X0 L xs) mj_P (mj_bi (mj_X0 L xs)) (d + 1) 45 [.ref 21, .ref a1] (sh22, I, Lg, Rf, 22, 122665) Q := by
  refine mj_enter (z := (2, [], mb_45)) (by decide) rfl rfl ?_
  refine mj_blk rfl ?_
  simp +decide only [mjs_0, mjs_1, mjs_2, mjs_3, mjs_ble, true_and, Bool.false_eq_true, if_false, if_true, Nat.reduceAdd, Nat.reduceSub, Nat.reduceLeDiff, mjs_lit, mjs_ttb, Nat.reduceEqDiff, sh22, mj_n4001, mj_n10100, mj_n41, mj_n10000, mj_n10002, mj_n14101, mj_n16, mj_n1600, mj_n8000, mj_n100]
  refine hQ _ _ _ (fun b q hb hm => ?_) (fun b q hb hm => ?_) (fun b q hb => ?_) ?_ ?_ ?_ ?_
  · rcases (show b < 22 ∨ b = 22 ∨ b = 23 ∨ b = 24 by omega) with h | rfl | rfl | rfl
    · rw [mjs_row_c (by omega), mjs_row_c (by omega), mjs_row_c (by omega)]
      exact hz b q h hm
    all_goals simp +decide only [mjs_0, mjs_1, mjs_2, mjs_3, mjs_ble, true_and, Bool.false_eq_true, if_false, if_true, Nat.reduceAdd, Nat.reduceSub, Nat.reduceLeDiff, mjs_lit, mjs_ttb, Nat.reduceEqDiff]
  · have h : b < 9 ∨ b = 11 := by unfold mz at hm; omega
    rw [mjs_row_c (by omega), mjs_row_c (by omega), mjs_row_c (by omega)]
  · simp only [mjs_row_c (show b ≠ 22 by omega), mjs_row_c (show b ≠ 23 by omega), mjs_row_c (show b ≠ 24 by omega), mjs_up_c (show b ≠ 21 by omega)]
  all_goals simp +decide only [mjs_0, mjs_1, mjs_2, mjs_3, mjs_ble, true_and, Bool.false_eq_true, if_false, if_true, Nat.reduceAdd, Nat.reduceSub, Nat.reduceLeDiff, mjs_lit, mjs_ttb, Nat.reduceEqDiff]
set_option maxRecDepth 20000 in
theorem c_17 {a1 a2 a3 : Nat} (hz : ∀ b q, b < 26 → mz b → I b q = 0) (hQ : ∀ (I' : Nat → Nat → Int32) (Lg' : Nat → Nat → Int64) (Rf' : Nat → Nat → Option Nat), (∀ b q, b < 28 → mz b → I' b q = 0) → (∀ b q, b < 28 → ¬ mz b → I' b q = I b q) → (∀ b q, b < 25 → Rf' b q = Rf b q) → Rf' 25 0 = some 26 → Rf' 25 1 = some 27 → Rf' 25 3 = some a1 → Rf' 25 4 = some a2 → Rf' 25 5 = some a3 → Q (.inl none) (sh28, I', Lg', Rf', 28, 152875)) :
    mj_call (mj_X0 L xs) mj_P (mj_bi (mj_X0 L xs)) (d + 1) 17 [.ref 25, .ref a1, .ref a2, .ref a3] (sh26, I, Lg, Rf, 26, 152675) Q := by
  refine mj_enter (z := (4, [], mb_17)) (by decide) rfl rfl ?_
  refine mj_blk rfl ?_
  simp +decide only [mjs_0, mjs_1, mjs_2, mjs_3, mjs_ble, true_and, Bool.false_eq_true, if_false, if_true, Nat.reduceAdd, Nat.reduceSub, Nat.reduceLeDiff, mjs_lit, mjs_ttb, Nat.reduceEqDiff, sh26, mj_n4001, mj_n10100, mj_n41, mj_n10000, mj_n10002, mj_n14101, mj_n16, mj_n1600, mj_n8000, mj_n100]
  refine hQ _ _ _ (fun b q hb hm => ?_) (fun b q hb hm => ?_) (fun b q hb => ?_) ?_ ?_ ?_ ?_ ?_
  · rcases (show b < 26 ∨ b = 26 ∨ b = 27 by omega) with h | rfl | rfl
    · rw [mjs_row_c (by omega), mjs_row_c (by omega)]
      exact hz b q h hm
    all_goals simp +decide only [mjs_0, mjs_1, mjs_2, mjs_3, mjs_ble, true_and, Bool.false_eq_true, if_false, if_true, Nat.reduceAdd, Nat.reduceSub, Nat.reduceLeDiff, mjs_lit, mjs_ttb, Nat.reduceEqDiff]
  · have h : b < 9 ∨ b = 11 := by unfold mz at hm; omega
    rw [mjs_row_c (by omega), mjs_row_c (by omega)]
  · simp only [mjs_row_c (show b ≠ 26 by omega), mjs_row_c (show b ≠ 27 by omega), mjs_up_c (show b ≠ 25 by omega)]
  all_goals simp +decide only [mjs_0, mjs_1, mjs_2, mjs_3, mjs_ble, true_and, Bool.false_eq_true, if_false, if_true, Nat.reduceAdd, Nat.reduceSub, Nat.reduceLeDiff, mjs_lit, mjs_ttb, Nat.reduceEqDiff]
set_option maxRecDepth 20000 in
theorem c_9 {a1 a2 a3 : Nat} (hz : ∀ b q, b < 31 → mz b → I b q = 0) (hQ : ∀ (I' : Nat → Nat → Int32) (Lg' : Nat → Nat → Int64) (Rf' : Nat → Nat → Option Nat), (∀ b q, b < 34 → mz b → I' b q = 0) → (∀ b q, b < 34 → ¬ mz b → I' b q = I b q) → (∀ b q, b < 30 → Rf' b q = Rf b q) → Rf' 30 0 = some 31 → Rf' 30 1 = some 32 → Rf' 30 2 = some 33 → Rf' 30 4 = some a1 → Rf' 30 5 = some a2 → Rf' 30 6 = some a3 → Q (.inl none) (sh34, I', Lg', Rf', 34, 168624)) :
    mj_call (mj_X0 L xs) mj_P (mj_bi (mj_X0 L xs)) (d + 1) 9 [.ref 30, .ref a1, .ref a2, .ref a3] (sh31, I, Lg, Rf, 31, 154491) Q := by
  refine mj_enter (z := (4, [], mb_9)) (by decide) rfl rfl ?_
  refine mj_blk rfl ?_
  simp +decide only [mjs_0, mjs_1, mjs_2, mjs_3, mjs_ble, true_and, Bool.false_eq_true, if_false, if_true, Nat.reduceAdd, Nat.reduceSub, Nat.reduceLeDiff, mjs_lit, mjs_ttb, Nat.reduceEqDiff, sh31, mj_n4001, mj_n10100, mj_n41, mj_n10000, mj_n10002, mj_n14101, mj_n16, mj_n1600, mj_n8000, mj_n100]
  refine hQ _ _ _ (fun b q hb hm => ?_) (fun b q hb hm => ?_) (fun b q hb => ?_) ?_ ?_ ?_ ?_ ?_ ?_
  · rcases (show b < 31 ∨ b = 31 ∨ b = 32 ∨ b = 33 by omega) with h | rfl | rfl | rfl
    · rw [mjs_row_c (by omega), mjs_row_c (by omega), mjs_row_c (by omega)]
      exact hz b q h hm
    all_goals simp +decide only [mjs_0, mjs_1, mjs_2, mjs_3, mjs_ble, true_and, Bool.false_eq_true, if_false, if_true, Nat.reduceAdd, Nat.reduceSub, Nat.reduceLeDiff, mjs_lit, mjs_ttb, Nat.reduceEqDiff]
  · have h : b < 9 ∨ b = 11 := by unfold mz at hm; omega
    rw [mjs_row_c (by omega), mjs_row_c (by omega), mjs_row_c (by omega)]
  · simp only [mjs_row_c (show b ≠ 31 by omega), mjs_row_c (show b ≠ 32 by omega), mjs_row_c (show b ≠ 33 by omega), mjs_up_c (show b ≠ 30 by omega)]
  all_goals simp +decide only [mjs_0, mjs_1, mjs_2, mjs_3, mjs_ble, true_and, Bool.false_eq_true, if_false, if_true, Nat.reduceAdd, Nat.reduceSub, Nat.reduceLeDiff, mjs_lit, mjs_ttb, Nat.reduceEqDiff]
set_option maxRecDepth 20000 in
theorem c_21 {a1 a2 a3 a4 a5 a6 : Nat} (hz : ∀ b q, b < 29 → mz b → I b q = 0) (hQ : ∀ (I' : Nat → Nat → Int32) (Lg' : Nat → Nat → Int64) (Rf' : Nat → Nat → Option Nat), (∀ b q, b < 34 → mz b → I' b q = 0) → (∀ b q, b < 34 → ¬ mz b → I' b q = I b q) → (∀ b q, b < 28 → Rf' b q = Rf b q) → Rf' 28 0 = some 29 → Rf' 28 2 = some a1 → Rf' 28 3 = some a2 → Rf' 28 4 = some a3 → Rf' 28 5 = some a4 → Rf' 28 6 = some a5 → Rf' 28 7 = some a6 → Rf' 28 8 = some 30 → Rf' 30 0 = some 31 → Rf' 30 1 = some 32 → Rf' 30 2 = some 33 → Rf' 30 4 = some a1 → Rf' 30 5 = some a4 → Rf' 30 6 = some a6 → Q (.inl none) (sh34, I', Lg', Rf', 34, 168624)) :
    mj_call (mj_X0 L xs) mj_P (mj_bi (mj_X0 L xs)) (d + 2) 21 [.ref 28, .ref a1, .ref a2, .ref a3, .ref a4, .ref a5, .ref a6] (sh29, I, Lg, Rf, 29, 152884) Q := by
  refine mj_enter (z := (7, [], mb_21)) (by decide) rfl rfl ?_
  refine mj_blk rfl ?_
  simp +decide only [mjs_0, mjs_1, mjs_2, mjs_3, mjs_ble, true_and, Bool.false_eq_true, if_false, if_true, Nat.reduceAdd, Nat.reduceSub, Nat.reduceLeDiff, mjs_lit, mjs_ttb, Nat.reduceEqDiff, sh29, mj_n4001, mj_n10100, mj_n41, mj_n10000, mj_n10002, mj_n14101, mj_n16, mj_n1600, mj_n8000, mj_n100]
  refine c_9 (fun b q hb hm => ?_) (fun I1 Lg1 Rf1 z1 z2 f1 g1 g2 g3 g4 g5 g6 => ?_)
  · rcases (show b < 29 ∨ b = 29 ∨ b = 30 by omega) with h | rfl | rfl
    · rw [mjs_row_c (by omega), mjs_row_c (by omega)]
      exact hz b q h hm
    all_goals simp +decide only [mjs_0, mjs_1, mjs_2, mjs_3, mjs_ble, true_and, Bool.false_eq_true, if_false, if_true, Nat.reduceAdd, Nat.reduceSub, Nat.reduceLeDiff, mjs_lit, mjs_ttb, Nat.reduceEqDiff]
  · simp +decide only [mjs_0, mjs_1, mjs_2, mjs_3, mjs_ble, true_and, Bool.false_eq_true, if_false, if_true, Nat.reduceAdd, Nat.reduceSub, Nat.reduceLeDiff, mjs_lit, mjs_ttb, Nat.reduceEqDiff, sh34]
    refine hQ _ _ _ z1 (fun b q hb hm => ?_) (fun b q hb => ?_) ?_ ?_ ?_ ?_ ?_ ?_ ?_ ?_ ?_ ?_ ?_ ?_ ?_ ?_
    · have h : b < 9 ∨ b = 11 := by unfold mz at hm; omega
      rw [z2 b q hb hm, mjs_row_c (by omega), mjs_row_c (by omega)]
    · rw [mjs_up_c (by omega), f1 b q (by omega)]
      simp only [mjs_row_c (show b ≠ 29 by omega), mjs_row_c (show b ≠ 30 by omega), mjs_up_c (show b ≠ 28 by omega)]
    all_goals simp +decide only [mjs_0, mjs_1, mjs_2, mjs_3, mjs_ble, true_and, Bool.false_eq_true, if_false, if_true, Nat.reduceAdd, Nat.reduceSub, Nat.reduceLeDiff, mjs_lit, mjs_ttb, Nat.reduceEqDiff, f1, g1, g2, g3, g4, g5, g6]
set_option maxRecDepth 20000 in
theorem c_58 {a1 a2 a3 a4 a5 : Nat} (hz : ∀ b q, b < 35 → mz b → I b q = 0) (hQ : ∀ (I' : Nat → Nat → Int32) (Lg' : Nat → Nat → Int64) (Rf' : Nat → Nat → Option Nat), (∀ b q, b < 36 → mz b → I' b q = 0) → (∀ b q, b < 36 → ¬ mz b → I' b q = I b q) → (∀ b q, b < 34 → Rf' b q = Rf b q) → Rf' 34 0 = some 35 → Rf' 34 2 = some a1 → Rf' 34 3 = some a2 → Rf' 34 4 = some a3 → Rf' 34 5 = some a4 → Rf' 34 6 = some a5 → Q (.inl none) (sh36, I', Lg', Rf', 36, 176631)) :
    mj_call (mj_X0 L xs) mj_P (mj_bi (mj_X0 L xs)) (d + 1) 58 [.ref 34, .ref a1, .ref a2, .ref a3, .ref a4, .ref a5] (sh35, I, Lg, Rf, 35, 168631) Q := by
  refine mj_enter (z := (6, [], mb_58)) (by decide) rfl rfl ?_
  refine mj_blk rfl ?_
  simp +decide only [mjs_0, mjs_1, mjs_2, mjs_3, mjs_ble, true_and, Bool.false_eq_true, if_false, if_true, Nat.reduceAdd, Nat.reduceSub, Nat.reduceLeDiff, mjs_lit, mjs_ttb, Nat.reduceEqDiff, sh35, mj_n4001, mj_n10100, mj_n41, mj_n10000, mj_n10002, mj_n14101, mj_n16, mj_n1600, mj_n8000, mj_n100]
  refine hQ _ _ _ (fun b q hb hm => ?_) (fun b q hb hm => ?_) (fun b q hb => ?_) ?_ ?_ ?_ ?_ ?_ ?_
  · rcases (show b < 35 ∨ b = 35 by omega) with h | rfl
    · rw [mjs_row_c (by omega)]
      exact hz b q h hm
    all_goals simp +decide only [mjs_0, mjs_1, mjs_2, mjs_3, mjs_ble, true_and, Bool.false_eq_true, if_false, if_true, Nat.reduceAdd, Nat.reduceSub, Nat.reduceLeDiff, mjs_lit, mjs_ttb, Nat.reduceEqDiff]
  · have h : b < 9 ∨ b = 11 := by unfold mz at hm; omega
    rw [mjs_row_c (by omega)]
  · simp only [mjs_row_c (show b ≠ 35 by omega), mjs_up_c (show b ≠ 34 by omega)]
  all_goals simp +decide only [mjs_0, mjs_1, mjs_2, mjs_3, mjs_ble, true_and, Bool.false_eq_true, if_false, if_true, Nat.reduceAdd, Nat.reduceSub, Nat.reduceLeDiff, mjs_lit, mjs_ttb, Nat.reduceEqDiff]
end MJMADE
