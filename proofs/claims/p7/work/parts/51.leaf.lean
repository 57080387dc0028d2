/-! LEAVES, walked -/
section MJLEAF
variable {X : mj_X} {d o : Nat} {S : mj_S} {Q : mj_Q}
theorem c_75 (hQ : Q (.inl none) S) : mj_call X mj_P (mj_bi X) (d + 1) 75 [.ref o] S Q := by
  refine mj_enter (z := (1, [], mb_75)) (by decide) rfl rfl ?_
  refine mj_blk rfl ?_
  simp +decide only [mjs_0, mjs_1, mjs_2, mjs_3, mjs_ble, true_and, Bool.false_eq_true, if_false, if_true, Nat.reduceAdd, Nat.reduceSub, Nat.reduceLeDiff]
  exact hQ
theorem c_76 {n : Int32} (h : S.1[o]? = some (7, 4)) (hQ : Q (.inl none) (S.1, mj_up (mj_up (mj_up (mj_up S.2.1 o 0 0) o 1 0) o 2 n) o 3 0, S.2.2)) : mj_call X mj_P (mj_bi X) (d + 1) 76 [.ref o, .int n] S Q := by
  refine mj_enter (z := (2, [], mb_76)) (by decide) rfl rfl ?_
  refine mj_blk rfl ?_
  simp +decide only [mjs_0, mjs_1, mjs_2, mjs_3, mjs_ble, true_and, Bool.false_eq_true, if_false, if_true, Nat.reduceAdd, Nat.reduceSub, Nat.reduceLeDiff, mjs_ob h]
  exact hQ
theorem c_46 (h : S.1[o]? = some (4, 6)) (hQ : Q (.inl none) (S.1, mj_up (mj_up S.2.1 o 3 0) o 4 1, S.2.2)) : mj_call X mj_P (mj_bi X) (d + 1) 46 [.ref o] S Q := by
  refine mj_enter (z := (1, [], mb_46)) (by decide) rfl rfl ?_
  refine mj_blk rfl ?_
  simp +decide only [mjs_0, mjs_1, mjs_2, mjs_3, mjs_ble, true_and, Bool.false_eq_true, if_false, if_true, Nat.reduceAdd, Nat.reduceSub, Nat.reduceLeDiff, mjs_ob h]
  exact hQ
theorem c_86 (h : S.1[o]? = some (8, 13)) (hQ : Q (.inl none) (S.1, mj_up S.2.1 o 3 (S.2.1 o 4 + 1), S.2.2)) : mj_call X mj_P (mj_bi X) (d + 1) 86 [.ref o] S Q := by
  refine mj_enter (z := (1, [], mb_86)) (by decide) rfl rfl ?_
  refine mj_blk rfl ?_
  simp +decide only [mjs_0, mjs_1, mjs_2, mjs_3, mjs_ble, true_and, Bool.false_eq_true, if_false, if_true, Nat.reduceAdd, Nat.reduceSub, Nat.reduceLeDiff, mjs_ob h]
  exact hQ
theorem c_83 (h : S.1[o]? = some (8, 13)) (hQ : Q (.inl none) (S.1, mj_up (mj_up (mj_up (mj_up (mj_up S.2.1 o 2 0) o 6 0) o 8 0) o 4 0) o 3 1, S.2.2)) : mj_call X mj_P (mj_bi X) (d + 2) 83 [.ref o] S Q := by
  refine mj_enter (z := (1, [], mb_83)) (by decide) rfl rfl ?_
  refine mj_blk rfl ?_
  simp +decide only [mjs_0, mjs_1, mjs_2, mjs_3, mjs_ble, true_and, Bool.false_eq_true, if_false, if_true, Nat.reduceAdd, Nat.reduceSub, Nat.reduceLeDiff, mjs_ob h, mjs_rc h]
  refine c_86 h ?_
  simp +decide only [mjs_0, mjs_1, mjs_2, mjs_3, mjs_ble, true_and, Bool.false_eq_true, if_false, if_true, Nat.reduceAdd, Nat.reduceSub, Nat.reduceLeDiff, mjs_up_at]
  exact hQ
theorem c_80 {n : Int32} (h : S.1[o]? = some (7, 4)) (hr : S.2.2.2.2.1 + 1 ≤ X.2.2.1 ∧ S.2.2.2.2.2 + 6 ≤ X.2.2.2) (hQ : Q (.inr 500) (S.1, mj_up S.2.1 o 0 n, S.2.2.1, S.2.2.2.1, S.2.2.2.2.1 + 1, S.2.2.2.2.2 + 6)) : mj_call X mj_P (mj_bi X) (d + 1) 80 [.ref o, .int n] S Q := by
  refine mj_enter (z := (2, [], mb_80)) (by decide) rfl rfl ?_
  refine mj_blk rfl ?_
  simp +decide only [mjs_0, mjs_1, mjs_2, mjs_3, mjs_ble, true_and, Bool.false_eq_true, if_false, if_true, Nat.reduceAdd, Nat.reduceSub, Nat.reduceLeDiff, mjs_ob h]
  exact ⟨hr, hQ⟩
theorem c_77 (h : S.1[o]? = some (7, 4)) (hr : S.2.2.2.2.1 + 1 ≤ X.2.2.1 ∧ S.2.2.2.2.2 + 6 ≤ X.2.2.2)
    (hQ1 : S.2.1 o 1 + 1 ≤ S.2.1 o 2 → Q (.inl none) (S.1, mj_up S.2.1 o 1 (S.2.1 o 1 + 1), S.2.2))
    (hQ2 : ¬ S.2.1 o 1 + 1 ≤ S.2.1 o 2 → Q (.inr 500) (S.1, mj_up (mj_up S.2.1 o 1 (S.2.1 o 1 + 1)) o 0 10, S.2.2.1, S.2.2.2.1, S.2.2.2.2.1 + 1, S.2.2.2.2.2 + 6)) : mj_call X mj_P (mj_bi X) (d + 2) 77 [.ref o] S Q := by
  refine mj_enter (z := (1, [], mb_77)) (by decide) rfl rfl ?_
  refine mj_blk rfl ?_
  have e1 : ∀ v : Int32, mj_up S.2.1 o 1 v o 1 = v := fun v => mjs_up_at
  have e2 : ∀ v : Int32, mj_up S.2.1 o 1 v o 2 = S.2.1 o 2 := fun v => mjs_up_ne (Or.inr (by decide))
  simp +decide only [mjs_0, mjs_1, mjs_2, mjs_3, mjs_ble, true_and, Bool.false_eq_true, if_false, if_true, Nat.reduceAdd, Nat.reduceSub, Nat.reduceLeDiff, mjs_ob h, e1, e2]
  refine ⟨fun q => mj_blk rfl ?_, fun q => mj_blk rfl ?_⟩
  · simp +decide only [mjs_0, mjs_1, mjs_2, mjs_3, mjs_ble, true_and, Bool.false_eq_true, if_false, if_true, Nat.reduceAdd, Nat.reduceSub, Nat.reduceLeDiff]
    exact hQ1 q
  · simp +decide only [mjs_0, mjs_1, mjs_2, mjs_3, mjs_ble, true_and, Bool.false_eq_true, if_false, if_true, Nat.reduceAdd, Nat.reduceSub, Nat.reduceLeDiff, mjs_rc h]
    refine c_80 h hr ?_
    simp +decide only [mjs_0, mjs_1, mjs_2, mjs_3, mjs_ble, true_and, Bool.false_eq_true, if_false, if_true, Nat.reduceAdd, Nat.reduceSub, Nat.reduceLeDiff]
    exact hQ2 q
end MJLEAF
