/-! STORE: made -/
def sh10 : List (Nat × Nat) := [(0, 8), (7, 4), (5, 6), (1002, 40237), (1000, 1037), (1000, 256), (1000, 1036), (1000, 40), (1000, 256), (9, 10)]
def sh17 : List (Nat × Nat) := [(0, 8), (7, 4), (5, 6), (1002, 40237), (1000, 1037), (1000, 256), (1000, 1036), (1000, 40), (1000, 256), (9, 10), (1000, 1804), (1000, 1804), (1000, 1804), (1000, 30001), (1000, 30001), (1000, 100), (1000, 100)]
theorem mj_n1804 : (1804 : Int32).toNatClampNeg = 1804 := by decide
theorem mj_n30001 : (30001 : Int32).toNatClampNeg = 30001 := by decide
theorem mj_n100 : (100 : Int32).toNatClampNeg = 100 := by decide
section MJS0
variable {L d nc ns p : Nat} {xs : Nat → Int32} {Q : mj_Q} {I : Nat → Nat → Int32} {Lg : Nat → Nat → Int64} {Rf : Nat → Nat → Option Nat} {X : mj_X} {S : mj_S}
theorem c_91 {c : Int32} (hQ : ∀ v : Int32, Q (.inl (some (.int v))) S) : mj_call X mj_P (mj_bi X) (d + 1) 91 [.int c] S Q := by
  refine mj_enter (z := (1, [], mb_91)) (by decide) rfl rfl ?_
  have r24 : mj_rn X (mj_hd []) (mj_call X mj_P (mj_bi X) d) mb_91 24 [some (.int c)] [] S Q := by
    refine mj_blk rfl ?_
    simp +decide only [mjs_0, mjs_1, mjs_2, mjs_3, mjs_ble, true_and, Bool.false_eq_true, if_false, if_true, Nat.reduceAdd, Nat.reduceSub, Nat.reduceLeDiff]
    exact hQ _
  have r27 : mj_rn X (mj_hd []) (mj_call X mj_P (mj_bi X) d) mb_91 27 [some (.int c)] [] S Q := by
    refine mj_blk rfl ?_
    simp +decide only [mjs_0, mjs_1, mjs_2, mjs_3, mjs_ble, true_and, Bool.false_eq_true, if_false, if_true, Nat.reduceAdd, Nat.reduceSub, Nat.reduceLeDiff]
    repeat' refine And.intro (fun _ => ?_) (fun _ => ?_)
    all_goals
      refine mj_blk rfl ?_
      simp +decide only [mjs_0, mjs_1, mjs_2, mjs_3, mjs_ble, true_and, Bool.false_eq_true, if_false, if_true, Nat.reduceAdd, Nat.reduceSub, Nat.reduceLeDiff]
      exact hQ _
  have r12 : mj_rn X (mj_hd []) (mj_call X mj_P (mj_bi X) d) mb_91 12 [some (.int c)] [] S Q := by
    refine mj_blk rfl ?_
    simp +decide only [mjs_0, mjs_1, mjs_2, mjs_3, mjs_ble, true_and, Bool.false_eq_true, if_false, if_true, Nat.reduceAdd, Nat.reduceSub, Nat.reduceLeDiff]
    refine ⟨fun _ => r27, fun _ => mj_blk rfl ?_⟩
    simp +decide only [mjs_0, mjs_1, mjs_2, mjs_3, mjs_ble, true_and, Bool.false_eq_true, if_false, if_true, Nat.reduceAdd, Nat.reduceSub, Nat.reduceLeDiff]
    exact ⟨fun _ => r27, fun _ => r24⟩
  refine mj_blk rfl ?_
  simp +decide only [mjs_0, mjs_1, mjs_2, mjs_3, mjs_ble, true_and, Bool.false_eq_true, if_false, if_true, Nat.reduceAdd, Nat.reduceSub, Nat.reduceLeDiff]
  refine ⟨fun _ => r12, fun _ => mj_blk rfl ?_⟩
  simp +decide only [mjs_0, mjs_1, mjs_2, mjs_3, mjs_ble, true_and, Bool.false_eq_true, if_false, if_true, Nat.reduceAdd, Nat.reduceSub, Nat.reduceLeDiff]
  exact ⟨fun _ => r24, fun _ => r12⟩
theorem c_92 {a b : Int32} (hQ : Q (.inl (some (.int (a <<< (16 &&& 31) + b)))) S) : mj_call X mj_P (mj_bi X) (d + 1) 92 [.int a, .int b] S Q := by
  refine mj_enter (z := (2, [], mb_92)) (by decide) rfl rfl ?_
  refine mj_blk rfl ?_
  simp +decide only [mjs_0, mjs_1, mjs_2, mjs_3, mjs_ble, true_and, Bool.false_eq_true, if_false, if_true, Nat.reduceAdd, Nat.reduceSub, Nat.reduceLeDiff]
  exact hQ
theorem f89_A (hr : Rf 9 1 = some 11) (hk : ∀ I' : Nat → Nat → Int32, (∀ b q, b ≠ 11 → I' b q = I b q) → mj_rn X (mj_hd []) (mj_call X mj_P (mj_bi X) (d + 1)) mb_89 99 [some (.ref 9), none, some (.int (nI 256))] [] (sh17, I', Lg, Rf, nc, ns) Q) :
    ∀ (m j : Nat) (I' : Nat → Nat → Int32) (w : Option Value), j + m = 256 → (∀ b q, b ≠ 11 → I' b q = I b q) → mj_rn X (mj_hd []) (mj_call X mj_P (mj_bi X) (d + 1)) mb_89 72 [some (.ref 9), w, some (.int (nI j))] [] (sh17, I', Lg, Rf, nc, ns) Q := by
  intro m
  induction m with
  | zero =>
    intro j I' w hj h2
    obtain rfl : j = 256 := by omega
    refine mj_blk rfl ?_
    simp +decide only [mjs_0, mjs_1, mjs_2, mjs_3, mjs_ble, true_and, Bool.false_eq_true, if_false, if_true, Nat.reduceAdd, Nat.reduceSub, Nat.reduceLeDiff]
    exact ⟨fun _ => hk I' h2, fun q => q.elim⟩
  | succ m ih =>
    intro j I' w hj h2
    refine mj_blk rfl ?_
    simp +decide only [mjs_0, mjs_1, mjs_2, mjs_3, mjs_ble, true_and, Bool.false_eq_true, if_false, if_true, Nat.reduceAdd, Nat.reduceSub, Nat.reduceLeDiff]
    refine ⟨fun q => absurd q (nI_ge (a := j) (b := 256) (by omega) (by decide)), fun _ => mj_blk rfl ?_⟩
    simp +decide only [mjs_0, mjs_1, mjs_2, mjs_3, mjs_ble, true_and, Bool.false_eq_true, if_false, if_true, Nat.reduceAdd, Nat.reduceSub, Nat.reduceLeDiff, mjs_lit, mjs_ttb, Nat.reduceEqDiff, sh17, hr]
    refine c_91 (fun v => ?_)
    simp +decide only [mjs_0, mjs_1, mjs_2, mjs_3, mjs_ble, true_and, Bool.false_eq_true, if_false, if_true, Nat.reduceAdd, Nat.reduceSub, Nat.reduceLeDiff, mjs_lit, mjs_ttb, Nat.reduceEqDiff, nI_1]
    have e0 : (256 : Int32) + nI j = nI (256 + j) := nI_add 256 j
    rw [e0]
    refine ⟨nI_in (by omega) (by decide), ih (j + 1) _ _ (by omega) (fun b q hb => ?_)⟩
    rw [mjs_up_c hb]
    exact h2 b q hb
theorem f89_B (hr : Rf 9 1 = some 11) (hk : ∀ I' : Nat → Nat → Int32, (∀ b q, b ≠ 11 → I' b q = I b q) → Q (.inl none) (sh17, I', Lg, Rf, nc, ns)) :
    ∀ (m j : Nat) (I' : Nat → Nat → Int32), j + m = 36 → (∀ b q, b ≠ 11 → I' b q = I b q) → mj_rn X (mj_hd []) (mj_call X mj_P (mj_bi X) (d + 1)) mb_89 101 [some (.ref 9), none, some (.int (nI j))] [] (sh17, I', Lg, Rf, nc, ns) Q := by
  intro m
  induction m with
  | zero =>
    intro j I' hj h2
    obtain rfl : j = 36 := by omega
    refine mj_blk rfl ?_
    simp +decide only [mjs_0, mjs_1, mjs_2, mjs_3, mjs_ble, true_and, Bool.false_eq_true, if_false, if_true, Nat.reduceAdd, Nat.reduceSub, Nat.reduceLeDiff]
    refine ⟨fun _ => mj_blk rfl ?_, fun q => q.elim⟩
    simp +decide only [mjs_0, mjs_1, mjs_2, mjs_3, mjs_ble, true_and, Bool.false_eq_true, if_false, if_true, Nat.reduceAdd, Nat.reduceSub, Nat.reduceLeDiff]
    exact hk I' h2
  | succ m ih =>
    intro j I' hj h2
    refine mj_blk rfl ?_
    simp +decide only [mjs_0, mjs_1, mjs_2, mjs_3, mjs_ble, true_and, Bool.false_eq_true, if_false, if_true, Nat.reduceAdd, Nat.reduceSub, Nat.reduceLeDiff]
    refine ⟨fun q => absurd q (nI_ge (a := j) (b := 36) (by omega) (by decide)), fun _ => mj_blk rfl ?_⟩
    simp +decide only [mjs_0, mjs_1, mjs_2, mjs_3, mjs_ble, true_and, Bool.false_eq_true, if_false, if_true, Nat.reduceAdd, Nat.reduceSub, Nat.reduceLeDiff, mjs_lit, mjs_ttb, Nat.reduceEqDiff, sh17, hr]
    refine c_92 ?_
    simp +decide only [mjs_0, mjs_1, mjs_2, mjs_3, mjs_ble, true_and, Bool.false_eq_true, if_false, if_true, Nat.reduceAdd, Nat.reduceSub, Nat.reduceLeDiff, mjs_lit, mjs_ttb, Nat.reduceEqDiff, nI_1]
    have e0 : (768 : Int32) + nI j = nI (768 + j) := nI_add 768 j
    rw [e0]
    refine ⟨nI_in (by omega) (by decide), ih (j + 1) _ (by omega) (fun b q hb => ?_)⟩
    rw [mjs_up_c hb]
    exact h2 b q hb
set_option maxRecDepth 20000 in
theorem c_89 (hQ : ∀ (I' : Nat → Nat → Int32) (Lg' : Nat → Nat → Int64) (Rf' : Nat → Nat → Option Nat), (∀ b q, b < 10 → I' b q = I b q) → (∀ b q, 10 ≤ b → b < 17 → b ≠ 11 → I' b q = 0) → (∀ b q, b < 9 → Rf' b q = Rf b q) → Rf' 9 0 = some 10 → Rf' 9 1 = some 11 → Rf' 9 2 = some 12 → Rf' 9 3 = some 13 → Rf' 9 4 = some 14 → Rf' 9 6 = some 15 → Rf' 9 7 = some 16 → Rf' 9 9 = some p → Q (.inl none) (sh17, I', Lg', Rf', 17, 108504)) :
    mj_call (mj_X0 L xs) mj_P (mj_bi (mj_X0 L xs)) (d + 2) 89 [.ref 9, .ref p] (sh10, I, Lg, Rf, 10, 42890) Q := by
  refine mj_enter (z := (3, [], mb_89)) (by decide) rfl rfl ?_
  refine mj_blk rfl ?_
  simp +decide only [mjs_0, mjs_1, mjs_2, mjs_3, mjs_ble, true_and, Bool.false_eq_true, if_false, if_true, Nat.reduceAdd, Nat.reduceSub, Nat.reduceLeDiff, mjs_lit, mjs_ttb, Nat.reduceEqDiff, sh10, mj_n1804, mj_n30001, mj_n100]
  refine f89_A (by simp +decide only [mjs_0, mjs_1, mjs_2, mjs_3, mjs_ble, true_and, Bool.false_eq_true, if_false, if_true, Nat.reduceAdd, Nat.reduceSub, Nat.reduceLeDiff, mjs_lit, mjs_ttb, Nat.reduceEqDiff]) (fun I1 h1 => ?_) 256 0 _ _ rfl (fun _ _ _ => rfl)
  refine mj_blk rfl ?_
  simp +decide only [mjs_0, mjs_1, mjs_2, mjs_3, mjs_ble, true_and, Bool.false_eq_true, if_false, if_true, Nat.reduceAdd, Nat.reduceSub, Nat.reduceLeDiff]
  refine f89_B (by simp +decide only [mjs_0, mjs_1, mjs_2, mjs_3, mjs_ble, true_and, Bool.false_eq_true, if_false, if_true, Nat.reduceAdd, Nat.reduceSub, Nat.reduceLeDiff, mjs_lit, mjs_ttb, Nat.reduceEqDiff]) (fun I2 h2 => ?_) 36 0 _ rfl (fun _ _ _ => rfl)
  refine hQ _ _ _ (fun b q hb => ?_) (fun b q h10 h17 h11 => ?_) (fun b q hb => ?_) ?_ ?_ ?_ ?_ ?_ ?_ ?_ ?_
  · rw [h2 b q (by omega), h1 b q (by omega), mjs_row_c (by omega), mjs_row_c (by omega), mjs_row_c (by omega), mjs_row_c (by omega), mjs_row_c (by omega), mjs_row_c (by omega), mjs_row_c (by omega)]
  · rw [h2 b q h11, h1 b q h11]
    rcases (show b = 10 ∨ b = 12 ∨ b = 13 ∨ b = 14 ∨ b = 15 ∨ b = 16 by omega) with rfl | rfl | rfl | rfl | rfl | rfl <;> simp +decide only [mjs_0, mjs_1, mjs_2, mjs_3, mjs_ble, true_and, Bool.false_eq_true, if_false, if_true, Nat.reduceAdd, Nat.reduceSub, Nat.reduceLeDiff, mjs_lit, mjs_ttb, Nat.reduceEqDiff]
  · have n9 : b ≠ 9 := by omega
    simp only [mjs_row_c (show b ≠ 16 by omega), mjs_row_c (show b ≠ 15 by omega), mjs_row_c (show b ≠ 14 by omega), mjs_row_c (show b ≠ 13 by omega), mjs_row_c (show b ≠ 12 by omega), mjs_row_c (show b ≠ 11 by omega), mjs_row_c (show b ≠ 10 by omega), mjs_up_c n9]
  all_goals simp +decide only [mjs_0, mjs_1, mjs_2, mjs_3, mjs_ble, true_and, Bool.false_eq_true, if_false, if_true, Nat.reduceAdd, Nat.reduceSub, Nat.reduceLeDiff, mjs_lit, mjs_ttb, Nat.reduceEqDiff]
end MJS0
