/-! THE LAW over scripts of at most 4 ints -/
theorem mj_n1 : (1 : Int32).toNatClampNeg = 1 := by decide
set_option maxRecDepth 400000 in
theorem mj_one {L : Nat} {xs : Nat → Int32} (hL : L ≤ 4) : mj_rn (mj_X0 L xs) (mj_hd []) (mj_call (mj_X0 L xs) mj_P (mj_bi (mj_X0 L xs)) 2039) mb_196 0 (mj_en [.ref 900000] ++ List.replicate 6 none) [] mj_S0 (fun o _ => o = .inl (some (.int 1))) := by
  refine mj_blk rfl ?_
  simp +decide only [mjs_0, mjs_1, mjs_2, mjs_3, mjs_ble, true_and, Bool.false_eq_true, if_false, if_true, Nat.reduceAdd, Nat.reduceSub, Nat.reduceLeDiff, mjs_lit, mjs_ttb, Nat.reduceEqDiff, mj_S0]
  refine c_0 (fun q => by simp +decide only [mjs_0, mjs_1, mjs_2, mjs_3, mjs_ble, true_and, Bool.false_eq_true, if_false, if_true, Nat.reduceAdd, Nat.reduceSub, Nat.reduceLeDiff, mjs_lit, mjs_ttb, Nat.reduceEqDiff]) (fun I1 Lg1 Rf1 k h1 h2 h3 => ?_)
  simp +decide only [mjs_0, mjs_1, mjs_2, mjs_3, mjs_ble, true_and, Bool.false_eq_true, if_false, if_true, Nat.reduceAdd, Nat.reduceSub, Nat.reduceLeDiff, mjs_lit, mjs_ttb, Nat.reduceEqDiff, sh36]
  refine c_103 (fun q => by simp +decide only [mjs_0, mjs_1, mjs_2, mjs_3, mjs_ble, true_and, Bool.false_eq_true, if_false, if_true, Nat.reduceAdd, Nat.reduceSub, Nat.reduceLeDiff, mjs_lit, mjs_ttb, Nat.reduceEqDiff]) (fun I2 Lg2 Rf2 g1 g2 g3 g4 g5 g6 => ?_)
  simp +decide only [mjs_0, mjs_1, mjs_2, mjs_3, mjs_ble, true_and, Bool.false_eq_true, if_false, if_true, Nat.reduceAdd, Nat.reduceSub, Nat.reduceLeDiff, mjs_lit, mjs_ttb, Nat.reduceEqDiff, sh58, mj_n1]
  have hR : mj_Rt mp_R (mj_row Rf2 58 fun _ => none) := by
    have key : ∀ T : List (Nat × Nat × Nat), (∀ t ∈ T, t.1 < 36) → mj_Rt T Rf1 → mj_Rt T (mj_row Rf2 58 fun _ => none) := by
      intro T
      induction T with
      | nil => intro _ _; trivial
      | cons t r ih =>
        intro ht h
        have h36 : t.1 < 36 := ht t List.mem_cons_self
        refine ⟨?_, ih (fun u hu => ht u (List.mem_cons_of_mem _ hu)) h.2⟩
        rw [mjs_row_c (by omega), g5 _ _ h36, mjs_row_c (by omega)]
        exact h.1
    exact key mp_R (by decide) h3
  have hM : mj_Rt mm_R (mj_row Rf2 58 fun _ => none) := by
    have key : ∀ T : List (Nat × Nat × Nat), (∀ t ∈ T, t.1 < 58) → mj_Rt T Rf2 → mj_Rt T (mj_row Rf2 58 fun _ => none) := by
      intro T
      induction T with
      | nil => intro _ _; trivial
      | cons t r ih =>
        intro ht h
        have h36 : t.1 < 58 := ht t List.mem_cons_self
        refine ⟨?_, ih (fun u hu => ht u (List.mem_cons_of_mem _ hu)) h.2⟩
        rw [mjs_row_c (by omega)]
        exact h.1
    exact key mm_R (by decide) g6
  have hq : q1_I (mj_row I2 58 fun _ => 0) := by
    refine ⟨fun b q hb hm => ?_, fun q hq => ?_, ?_, fun q hq => ?_⟩
    · rw [mjs_row_c (by omega), g1 b q hb, mjs_row_c (by omega)]
      exact h1 b q hb hm
    · rw [mjs_row_c (by decide)]
      exact g2 q hq
    · rw [mjs_row_c (by decide)]
      exact g3.2
    · rw [mjs_row_c (by decide)]
      exact g4 q hq
  refine mj_blk rfl ?_
  have e : ∀ L : Nat, Int32.ofNat (mj_X0 L xs).1.1 = Int32.ofNat L := fun L => rfl
  rcases (show L = 0 ∨ L = 1 ∨ L = 2 ∨ L = 3 ∨ L = 4 by omega) with rfl | rfl | rfl | rfl | rfl
  all_goals simp +decide only [mjs_0, mjs_1, mjs_2, mjs_3, mjs_ble, true_and, Bool.false_eq_true, if_false, if_true, Nat.reduceAdd, Nat.reduceSub, Nat.reduceLeDiff, e]
  · refine ⟨fun _ => mj_blk rfl ?_, fun q => q.elim⟩
    simp +decide only [mjs_0, mjs_1, mjs_2, mjs_3, mjs_ble, true_and, Bool.false_eq_true, if_false, if_true, Nat.reduceAdd, Nat.reduceSub, Nat.reduceLeDiff]
  · refine ⟨fun _ => mj_blk rfl ?_, fun q => q.elim⟩
    simp +decide only [mjs_0, mjs_1, mjs_2, mjs_3, mjs_ble, true_and, Bool.false_eq_true, if_false, if_true, Nat.reduceAdd, Nat.reduceSub, Nat.reduceLeDiff]
  · refine ⟨fun _ => mj_blk rfl ?_, fun q => q.elim⟩
    simp +decide only [mjs_0, mjs_1, mjs_2, mjs_3, mjs_ble, true_and, Bool.false_eq_true, if_false, if_true, Nat.reduceAdd, Nat.reduceSub, Nat.reduceLeDiff]
  · refine ⟨fun _ => mj_blk rfl ?_, fun q => q.elim⟩
    simp +decide only [mjs_0, mjs_1, mjs_2, mjs_3, mjs_ble, true_and, Bool.false_eq_true, if_false, if_true, Nat.reduceAdd, Nat.reduceSub, Nat.reduceLeDiff]
  · exact ⟨fun q => q.elim, fun _ => l1_one (d := 2033) hR hM hq (by decide)⟩
