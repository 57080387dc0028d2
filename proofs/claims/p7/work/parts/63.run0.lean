/-! RUN over the empty text: the class -/
section MJRUN0
variable {X : mj_X} {d nc ns : Nat} {Q : mj_Q} {I : Nat → Nat → Int32} {Lg : Nat → Nat → Int64} {Rf : Nat → Nat → Option Nat}
theorem c_55 (hR : mj_Rt mp_R Rf) (hQ : ∀ I' : Nat → Nat → Int32, (∀ b q, b ≠ 2 → b ≠ 5 → I' b q = I b q) → Q (.inl none) (sh59, I', Lg, Rf, nc, ns)) : mj_call X mj_P (mj_bi X) (d + 2) 55 [.ref 2] (sh59, I, Lg, Rf, nc, ns) Q := by
  have r3 := hR.at (a := 2) (b := 3) (c := 8) (by decide)
  have r2 := hR.at (a := 2) (b := 2) (c := 5) (by decide)
  refine mj_enter (z := (1, [], mb_55)) (by decide) rfl rfl ?_
  refine mj_blk rfl ?_
  simp +decide only [mjs_0, mjs_1, mjs_2, mjs_3, mjs_ble, true_and, Bool.false_eq_true, if_false, if_true, Nat.reduceAdd, Nat.reduceSub, Nat.reduceLeDiff, mjs_ob s59_2, r3, r2]
  refine c_902 (n0 := 256) (n1 := 256) (mjs_ar (t := 0) s59_8) (mjs_ar (t := 0) s59_5) (by decide) ?_
  simp +decide only [mjs_0, mjs_1, mjs_2, mjs_3, mjs_ble, true_and, Bool.false_eq_true, if_false, if_true, Nat.reduceAdd, Nat.reduceSub, Nat.reduceLeDiff, mjs_ob s59_2]
  exact hQ _ (fun b q h1 h2 => by rw [mjs_up_c h1, mjs_row_c h2])
theorem c_90 (hR : mj_Rt mp_R Rf) (hQ : ∀ I' : Nat → Nat → Int32, (∀ b q, b ≠ 10 → I' b q = I b q) → Q (.inl none) (sh59, I', Lg, Rf, nc, ns)) : mj_call X mj_P (mj_bi X) (d + 2) 90 [.ref 9] (sh59, I, Lg, Rf, nc, ns) Q := by
  have r1 := hR.at (a := 9) (b := 1) (c := 11) (by decide)
  have r0 := hR.at (a := 9) (b := 0) (c := 10) (by decide)
  refine mj_enter (z := (1, [], mb_90)) (by decide) rfl rfl ?_
  refine mj_blk rfl ?_
  simp +decide only [mjs_0, mjs_1, mjs_2, mjs_3, mjs_ble, true_and, Bool.false_eq_true, if_false, if_true, Nat.reduceAdd, Nat.reduceSub, Nat.reduceLeDiff, mjs_ob s59_9, r1, r0]
  refine c_902 (n0 := 1804) (n1 := 1804) (mjs_ar (t := 0) s59_11) (mjs_ar (t := 0) s59_10) (by decide) ?_
  simp +decide only [mjs_0, mjs_1, mjs_2, mjs_3, mjs_ble, true_and, Bool.false_eq_true, if_false, if_true, Nat.reduceAdd, Nat.reduceSub, Nat.reduceLeDiff]
  exact hQ _ (fun b q h1 => by rw [mjs_row_c h1])
def br_I (I I' : Nat → Nat → Int32) : Prop := (∀ b q, 36 ≤ b → I' b q = I b q) ∧ I' 17 1 = I 17 1 ∧ I' 17 2 = 0 ∧ I' 17 3 = 1 ∧ I' 17 4 = 0 ∧ I' 17 8 = 0 ∧ I' 9 8 = I 9 8 ∧ I' 25 2 = 0
theorem c_8 (hR : mj_Rt mp_R Rf) {t : Int32} (hQ : ∀ I' : Nat → Nat → Int32, br_I I I' → Q (.inl none) (sh59, I', Lg, Rf, nc, ns)) : mj_call X mj_P (mj_bi X) (d + 3) 8 [.ref 0, .int t] (sh59, I, Lg, Rf, nc, ns) Q := by
  have r0 := hR.at (a := 0) (b := 0) (c := 1) (by decide)
  have r1 := hR.at (a := 0) (b := 1) (c := 2) (by decide)
  have r2 := hR.at (a := 0) (b := 2) (c := 9) (by decide)
  have r3 := hR.at (a := 0) (b := 3) (c := 17) (by decide)
  have r4 := hR.at (a := 0) (b := 4) (c := 21) (by decide)
  have r5 := hR.at (a := 0) (b := 5) (c := 25) (by decide)
  have r6 := hR.at (a := 0) (b := 6) (c := 28) (by decide)
  have r7 := hR.at (a := 0) (b := 7) (c := 34) (by decide)
  refine mj_enter (z := (2, [], mb_8)) (by decide) rfl rfl ?_
  refine mj_blk rfl ?_
  simp +decide only [mjs_0, mjs_1, mjs_2, mjs_3, mjs_ble, true_and, Bool.false_eq_true, if_false, if_true, Nat.reduceAdd, Nat.reduceSub, Nat.reduceLeDiff, mjs_ob s59_0, r0, mjs_rc s59_1]
  refine c_76 s59_1 ?_
  simp +decide only [mjs_0, mjs_1, mjs_2, mjs_3, mjs_ble, true_and, Bool.false_eq_true, if_false, if_true, Nat.reduceAdd, Nat.reduceSub, Nat.reduceLeDiff, mjs_ob s59_0, r1, mjs_rc s59_2]
  refine c_55 hR (fun I1 h1 => ?_)
  simp +decide only [mjs_0, mjs_1, mjs_2, mjs_3, mjs_ble, true_and, Bool.false_eq_true, if_false, if_true, Nat.reduceAdd, Nat.reduceSub, Nat.reduceLeDiff, mjs_ob s59_0, r2, mjs_rc s59_9]
  refine c_90 hR (fun I2 h2 => ?_)
  simp +decide only [mjs_0, mjs_1, mjs_2, mjs_3, mjs_ble, true_and, Bool.false_eq_true, if_false, if_true, Nat.reduceAdd, Nat.reduceSub, Nat.reduceLeDiff, mjs_ob s59_0, r3, mjs_rc s59_17]
  refine c_83 s59_17 ?_
  simp +decide only [mjs_0, mjs_1, mjs_2, mjs_3, mjs_ble, true_and, Bool.false_eq_true, if_false, if_true, Nat.reduceAdd, Nat.reduceSub, Nat.reduceLeDiff, mjs_ob s59_0, r4, mjs_rc s59_21]
  refine c_46 s59_21 ?_
  simp +decide only [mjs_0, mjs_1, mjs_2, mjs_3, mjs_ble, true_and, Bool.false_eq_true, if_false, if_true, Nat.reduceAdd, Nat.reduceSub, Nat.reduceLeDiff, mjs_ob s59_0, r5, r6, r7, mjs_ob s59_25, mjs_ob s59_28, mjs_ob s59_34]
  refine hQ _ ⟨fun b q hb => ?_, ?_, ?_, ?_, ?_, ?_, ?_, ?_⟩
  · simp only [mjs_up_c (show b ≠ 34 by omega), mjs_up_c (show b ≠ 28 by omega), mjs_up_c (show b ≠ 25 by omega), mjs_up_c (show b ≠ 21 by omega), mjs_up_c (show b ≠ 17 by omega)]
    rw [h2 b q (by omega), h1 b q (by omega) (by omega)]
    simp only [mjs_up_c (show b ≠ 1 by omega)]
  · simp +decide only [mjs_0, mjs_1, mjs_2, mjs_3, mjs_ble, true_and, Bool.false_eq_true, if_false, if_true, Nat.reduceAdd, Nat.reduceSub, Nat.reduceLeDiff, mjs_lit, mjs_ttb, Nat.reduceEqDiff]
    rw [h2 17 1 (by decide), h1 17 1 (by decide) (by decide)]
    simp +decide only [mjs_0, mjs_1, mjs_2, mjs_3, mjs_ble, true_and, Bool.false_eq_true, if_false, if_true, Nat.reduceAdd, Nat.reduceSub, Nat.reduceLeDiff, mjs_lit, mjs_ttb, Nat.reduceEqDiff]
  · simp +decide only [mjs_0, mjs_1, mjs_2, mjs_3, mjs_ble, true_and, Bool.false_eq_true, if_false, if_true, Nat.reduceAdd, Nat.reduceSub, Nat.reduceLeDiff, mjs_lit, mjs_ttb, Nat.reduceEqDiff]
  · simp +decide only [mjs_0, mjs_1, mjs_2, mjs_3, mjs_ble, true_and, Bool.false_eq_true, if_false, if_true, Nat.reduceAdd, Nat.reduceSub, Nat.reduceLeDiff, mjs_lit, mjs_ttb, Nat.reduceEqDiff]
  · simp +decide only [mjs_0, mjs_1, mjs_2, mjs_3, mjs_ble, true_and, Bool.false_eq_true, if_false, if_true, Nat.reduceAdd, Nat.reduceSub, Nat.reduceLeDiff, mjs_lit, mjs_ttb, Nat.reduceEqDiff]
  · simp +decide only [mjs_0, mjs_1, mjs_2, mjs_3, mjs_ble, true_and, Bool.false_eq_true, if_false, if_true, Nat.reduceAdd, Nat.reduceSub, Nat.reduceLeDiff, mjs_lit, mjs_ttb, Nat.reduceEqDiff]
  · simp +decide only [mjs_0, mjs_1, mjs_2, mjs_3, mjs_ble, true_and, Bool.false_eq_true, if_false, if_true, Nat.reduceAdd, Nat.reduceSub, Nat.reduceLeDiff, mjs_lit, mjs_ttb, Nat.reduceEqDiff]
    rw [h2 9 8 (by decide), h1 9 8 (by decide) (by decide)]
    simp +decide only [mjs_0, mjs_1, mjs_2, mjs_3, mjs_ble, true_and, Bool.false_eq_true, if_false, if_true, Nat.reduceAdd, Nat.reduceSub, Nat.reduceLeDiff, mjs_lit, mjs_ttb, Nat.reduceEqDiff]
  · simp +decide only [mjs_0, mjs_1, mjs_2, mjs_3, mjs_ble, true_and, Bool.false_eq_true, if_false, if_true, Nat.reduceAdd, Nat.reduceSub, Nat.reduceLeDiff, mjs_lit, mjs_ttb, Nat.reduceEqDiff]
theorem c_87 (h1 : I 17 1 = 0) (h2 : I 17 2 = 0) (hQ : Q (.inl (some (.int 0))) (sh59, I, Lg, Rf, nc, ns)) : mj_call X mj_P (mj_bi X) (d + 1) 87 [.ref 17] (sh59, I, Lg, Rf, nc, ns) Q := by
  refine mj_enter (z := (2, [], mb_87)) (by decide) rfl rfl ?_
  refine mj_blk rfl ?_
  simp +decide only [mjs_0, mjs_1, mjs_2, mjs_3, mjs_ble, true_and, Bool.false_eq_true, if_false, if_true, Nat.reduceAdd, Nat.reduceSub, Nat.reduceLeDiff, mjs_ob s59_17, h1, h2]
  refine ⟨fun q => q.elim, fun _ => mj_blk rfl ?_⟩
  simp +decide only [mjs_0, mjs_1, mjs_2, mjs_3, mjs_ble, true_and, Bool.false_eq_true, if_false, if_true, Nat.reduceAdd, Nat.reduceSub, Nat.reduceLeDiff]
  exact hQ
theorem c_85 (h1 : I 17 1 = 0) (h2 : I 17 2 = 0) (h3 : I 17 3 = 1) (h4 : I 17 4 = 0) (h8 : I 17 8 = 0) (hQ : Q (.inl (some (.int (-1)))) (sh59, I, Lg, Rf, nc, ns)) : mj_call X mj_P (mj_bi X) (d + 2) 85 [.ref 17, .int 1] (sh59, I, Lg, Rf, nc, ns) Q := by
  refine mj_enter (z := (7, [], mb_85)) (by decide) rfl rfl ?_
  refine mj_blk rfl ?_
  simp +decide only [mjs_0, mjs_1, mjs_2, mjs_3, mjs_ble, true_and, Bool.false_eq_true, if_false, if_true, Nat.reduceAdd, Nat.reduceSub, Nat.reduceLeDiff, mjs_ob s59_17, h8]
  refine ⟨fun _ => mj_blk rfl ?_, fun q => q.elim⟩
  simp +decide only [mjs_0, mjs_1, mjs_2, mjs_3, mjs_ble, true_and, Bool.false_eq_true, if_false, if_true, Nat.reduceAdd, Nat.reduceSub, Nat.reduceLeDiff]
  refine mj_blk rfl ?_
  simp +decide only [mjs_0, mjs_1, mjs_2, mjs_3, mjs_ble, true_and, Bool.false_eq_true, if_false, if_true, Nat.reduceAdd, Nat.reduceSub, Nat.reduceLeDiff]
  refine ⟨fun q => q.elim, fun _ => mj_blk rfl ?_⟩
  simp +decide only [mjs_0, mjs_1, mjs_2, mjs_3, mjs_ble, true_and, Bool.false_eq_true, if_false, if_true, Nat.reduceAdd, Nat.reduceSub, Nat.reduceLeDiff, mjs_ob s59_17, h3, h4]
  refine ⟨fun q => q.elim, fun _ => mj_blk rfl ?_⟩
  simp +decide only [mjs_0, mjs_1, mjs_2, mjs_3, mjs_ble, true_and, Bool.false_eq_true, if_false, if_true, Nat.reduceAdd, Nat.reduceSub, Nat.reduceLeDiff, mjs_rc s59_17]
  refine c_87 h1 h2 ?_
  simp +decide only [mjs_0, mjs_1, mjs_2, mjs_3, mjs_ble, true_and, Bool.false_eq_true, if_false, if_true, Nat.reduceAdd, Nat.reduceSub, Nat.reduceLeDiff]
  refine ⟨fun _ => mj_blk rfl ?_, fun q => q.elim⟩
  simp +decide only [mjs_0, mjs_1, mjs_2, mjs_3, mjs_ble, true_and, Bool.false_eq_true, if_false, if_true, Nat.reduceAdd, Nat.reduceSub, Nat.reduceLeDiff]
  refine ⟨fun q => q.elim, fun _ => mj_blk rfl ?_⟩
  simp +decide only [mjs_0, mjs_1, mjs_2, mjs_3, mjs_ble, true_and, Bool.false_eq_true, if_false, if_true, Nat.reduceAdd, Nat.reduceSub, Nat.reduceLeDiff]
  refine mj_blk rfl ?_
  simp +decide only [mjs_0, mjs_1, mjs_2, mjs_3, mjs_ble, true_and, Bool.false_eq_true, if_false, if_true, Nat.reduceAdd, Nat.reduceSub, Nat.reduceLeDiff]
  exact hQ
end MJRUN0
