/-! RUN over the empty text: the class, whole; the law's helpers -/
section MJRUN1
variable {X : mj_X} {d nc ns : Nat} {Q : mj_Q} {I : Nat → Nat → Int32} {Lg : Nat → Nat → Int64} {Rf : Nat → Nat → Option Nat}
theorem c_24e {S : mj_S} {o : Nat} (hQ : Q (.inl (some (.int 0))) S) : mj_call X mj_P (mj_bi X) (d + 1) 24 [.ref o, .int (-1)] S Q := by
  refine mj_enter (z := (2, [], mb_24)) (by decide) rfl rfl ?_
  refine mj_blk rfl ?_
  simp +decide only [mjs_0, mjs_1, mjs_2, mjs_3, mjs_ble, true_and, Bool.false_eq_true, if_false, if_true, Nat.reduceAdd, Nat.reduceSub, Nat.reduceLeDiff]
  refine ⟨fun _ => mj_blk rfl ?_, fun q => q.elim⟩
  simp +decide only [mjs_0, mjs_1, mjs_2, mjs_3, mjs_ble, true_and, Bool.false_eq_true, if_false, if_true, Nat.reduceAdd, Nat.reduceSub, Nat.reduceLeDiff]
  refine mj_blk rfl ?_
  simp +decide only [mjs_0, mjs_1, mjs_2, mjs_3, mjs_ble, true_and, Bool.false_eq_true, if_false, if_true, Nat.reduceAdd, Nat.reduceSub, Nat.reduceLeDiff]
  exact hQ
theorem c_22e (hR : mj_Rt mp_R Rf) (h1 : I 17 1 = 0) (h2 : I 17 2 = 0) (h3 : I 17 3 = 1) (h4 : I 17 4 = 0) (h8 : I 17 8 = 0) (hQ : Q (.inl (some (.int (-1)))) (sh59, I, Lg, Rf, nc, ns)) : mj_call X mj_P (mj_bi X) (d + 3) 22 [.ref 28, .int 1] (sh59, I, Lg, Rf, nc, ns) Q := by
  have r2 := hR.at (a := 28) (b := 2) (c := 17) (by decide)
  refine mj_enter (z := (4, [], mb_22)) (by decide) rfl rfl ?_
  refine mj_blk rfl ?_
  simp +decide only [mjs_0, mjs_1, mjs_2, mjs_3, mjs_ble, true_and, Bool.false_eq_true, if_false, if_true, Nat.reduceAdd, Nat.reduceSub, Nat.reduceLeDiff, mjs_ob s59_28, r2, mjs_rc s59_17]
  refine c_85 h1 h2 h3 h4 h8 ?_
  simp +decide only [mjs_0, mjs_1, mjs_2, mjs_3, mjs_ble, true_and, Bool.false_eq_true, if_false, if_true, Nat.reduceAdd, Nat.reduceSub, Nat.reduceLeDiff]
  refine mj_blk rfl ?_
  simp +decide only [mjs_0, mjs_1, mjs_2, mjs_3, mjs_ble, true_and, Bool.false_eq_true, if_false, if_true, Nat.reduceAdd, Nat.reduceSub, Nat.reduceLeDiff]
  refine ⟨fun q => q.elim, fun _ => mj_blk rfl ?_⟩
  simp +decide only [mjs_0, mjs_1, mjs_2, mjs_3, mjs_ble, true_and, Bool.false_eq_true, if_false, if_true, Nat.reduceAdd, Nat.reduceSub, Nat.reduceLeDiff, mjs_rc s59_28]
  refine c_24e ?_
  simp +decide only [mjs_0, mjs_1, mjs_2, mjs_3, mjs_ble, true_and, Bool.false_eq_true, if_false, if_true, Nat.reduceAdd, Nat.reduceSub, Nat.reduceLeDiff]
  refine ⟨fun _ => mj_blk rfl ?_, fun q => q.elim⟩
  simp +decide only [mjs_0, mjs_1, mjs_2, mjs_3, mjs_ble, true_and, Bool.false_eq_true, if_false, if_true, Nat.reduceAdd, Nat.reduceSub, Nat.reduceLeDiff]
  exact hQ
theorem c_101e (h : I 9 8 = 0) (hQ : Q (.inl none) (sh59, I, Lg, Rf, nc, ns)) : mj_call X mj_P (mj_bi X) (d + 1) 101 [.ref 9] (sh59, I, Lg, Rf, nc, ns) Q := by
  refine mj_enter (z := (2, [], mb_101)) (by decide) rfl rfl ?_
  refine mj_blk rfl ?_
  simp +decide only [mjs_0, mjs_1, mjs_2, mjs_3, mjs_ble, true_and, Bool.false_eq_true, if_false, if_true, Nat.reduceAdd, Nat.reduceSub, Nat.reduceLeDiff]
  refine mj_blk rfl ?_
  simp +decide only [mjs_0, mjs_1, mjs_2, mjs_3, mjs_ble, true_and, Bool.false_eq_true, if_false, if_true, Nat.reduceAdd, Nat.reduceSub, Nat.reduceLeDiff]
  refine ⟨fun q => q.elim, fun _ => mj_blk rfl ?_⟩
  simp +decide only [mjs_0, mjs_1, mjs_2, mjs_3, mjs_ble, true_and, Bool.false_eq_true, if_false, if_true, Nat.reduceAdd, Nat.reduceSub, Nat.reduceLeDiff, mjs_ob s59_9, h]
  refine ⟨fun _ => mj_blk rfl ?_, fun q => q.elim⟩
  simp +decide only [mjs_0, mjs_1, mjs_2, mjs_3, mjs_ble, true_and, Bool.false_eq_true, if_false, if_true, Nat.reduceAdd, Nat.reduceSub, Nat.reduceLeDiff]
  exact hQ
theorem mj_ret_out {f t hp c i h : Nat} {nx : mj_N} {pc : Nat} {K : mj_K} {lv : mj_LV} {r : List Value} {Q : mj_Q} {S : mj_S} {x : Nat} (hpc : ¬ (f ≤ pc ∧ pc < t)) (hq : Q (.inr x) S) : mj_ret (mj_hd [(f, t, hp, c, i, h)]) nx pc K lv r Q (.inr x) S := by
  have e : mj_hd [(f, t, hp, c, i, h)] pc = none := by
    unfold mj_hd
    rw [if_neg hpc]
    rfl
  unfold mj_ret
  rw [e]
  exact hq
theorem mj_ret_in {f t hp c i h : Nat} {nx : mj_N} {pc : Nat} {K : mj_K} {lv : mj_LV} {r : List Value} {Q : mj_Q} {S : mj_S} (hpc : f ≤ pc ∧ pc < t) (hq : nx h (mj_er lv i) [] S Q) : mj_ret (mj_hd [(f, t, hp, c, i, h)]) nx pc K lv r Q (.inr c) S := by
  have e : mj_hd [(f, t, hp, c, i, h)] pc = some (c, i, h) := by
    unfold mj_hd
    rw [if_pos hpc]
  unfold mj_ret
  rw [e]
  exact ⟨rfl, hq⟩
theorem c_2e (hR : mj_Rt mp_R Rf) {t : Int32} (h1 : I 17 1 = 0) (h9 : I 9 8 = 0) (hr : nc + 1 ≤ X.2.2.1 ∧ ns + 6 ≤ X.2.2.2) (hQ1 : t < 0 ∨ ¬ t ≤ 30000 → Q (.inr 501) (sh59, I, Lg, Rf, nc + 1, ns + 6)) (hQ2 : ∀ I' : Nat → Nat → Int32, ¬ t < 0 → t ≤ 30000 → (∀ b q, 36 ≤ b → I' b q = I b q) → Q (.inl (some (.int 0))) (sh59, I', Lg, Rf, nc, ns)) :
    mj_call X mj_P (mj_bi X) (d + 4) 2 [.ref 0, .int t] (sh59, I, Lg, Rf, nc, ns) Q := by
  have r2 := hR.at (a := 0) (b := 2) (c := 9) (by decide)
  have r3 := hR.at (a := 0) (b := 3) (c := 17) (by decide)
  have r5 := hR.at (a := 0) (b := 5) (c := 25) (by decide)
  have r6 := hR.at (a := 0) (b := 6) (c := 28) (by decide)
  refine mj_enter (z := (6, [(11, 117, 120, 500, 3, 121)], mb_2)) (by decide) rfl rfl ?_
  refine mj_blk rfl ?_
  simp +decide only [mjs_0, mjs_1, mjs_2, mjs_3, mjs_ble, true_and, Bool.false_eq_true, if_false, if_true, Nat.reduceAdd, Nat.reduceSub, Nat.reduceLeDiff]
  refine c_7 hr (fun q => mj_ret_out (by decide) (hQ1 q)) (fun q q' => ?_)
  simp +decide only [mjs_0, mjs_1, mjs_2, mjs_3, mjs_ble, true_and, Bool.false_eq_true, if_false, if_true, Nat.reduceAdd, Nat.reduceSub, Nat.reduceLeDiff, mjs_rc s59_0]
  refine c_8 hR (fun I1 hb => ?_)
  obtain ⟨b0, b1, b2, b3, b4, b8, b9, b25⟩ := hb
  simp +decide only [mjs_0, mjs_1, mjs_2, mjs_3, mjs_ble, true_and, Bool.false_eq_true, if_false, if_true, Nat.reduceAdd, Nat.reduceSub, Nat.reduceLeDiff]
  refine mj_blk rfl ?_
  simp +decide only [mjs_0, mjs_1, mjs_2, mjs_3, mjs_ble, true_and, Bool.false_eq_true, if_false, if_true, Nat.reduceAdd, Nat.reduceSub, Nat.reduceLeDiff]
  refine ⟨fun q => q.elim, fun _ => mj_blk rfl ?_⟩
  simp +decide only [mjs_0, mjs_1, mjs_2, mjs_3, mjs_ble, true_and, Bool.false_eq_true, if_false, if_true, Nat.reduceAdd, Nat.reduceSub, Nat.reduceLeDiff, mjs_ob s59_0, r6, mjs_rc s59_28]
  refine c_22e hR (b1.trans h1) b2 b3 b4 b8 ?_
  simp +decide only [mjs_0, mjs_1, mjs_2, mjs_3, mjs_ble, true_and, Bool.false_eq_true, if_false, if_true, Nat.reduceAdd, Nat.reduceSub, Nat.reduceLeDiff]
  refine ⟨fun q => q.elim, fun _ => mj_blk rfl ?_⟩
  simp +decide only [mjs_0, mjs_1, mjs_2, mjs_3, mjs_ble, true_and, Bool.false_eq_true, if_false, if_true, Nat.reduceAdd, Nat.reduceSub, Nat.reduceLeDiff]
  refine mj_blk rfl ?_
  simp +decide only [mjs_0, mjs_1, mjs_2, mjs_3, mjs_ble, true_and, Bool.false_eq_true, if_false, if_true, Nat.reduceAdd, Nat.reduceSub, Nat.reduceLeDiff, mjs_ob s59_0, r2, mjs_ob s59_9, b9, h9]
  refine ⟨fun q => q.elim, fun _ => mj_blk rfl ?_⟩
  simp +decide only [mjs_0, mjs_1, mjs_2, mjs_3, mjs_ble, true_and, Bool.false_eq_true, if_false, if_true, Nat.reduceAdd, Nat.reduceSub, Nat.reduceLeDiff, mjs_ob s59_0, r5, mjs_ob s59_25, b25]
  refine ⟨fun _ => mj_blk rfl ?_, fun q => q.elim⟩
  simp +decide only [mjs_0, mjs_1, mjs_2, mjs_3, mjs_ble, true_and, Bool.false_eq_true, if_false, if_true, Nat.reduceAdd, Nat.reduceSub, Nat.reduceLeDiff]
  refine mj_blk rfl ?_
  simp +decide only [mjs_0, mjs_1, mjs_2, mjs_3, mjs_ble, true_and, Bool.false_eq_true, if_false, if_true, Nat.reduceAdd, Nat.reduceSub, Nat.reduceLeDiff, mjs_ob s59_0, r2, mjs_rc s59_9]
  refine c_101e (b9.trans h9) ?_
  simp +decide only [mjs_0, mjs_1, mjs_2, mjs_3, mjs_ble, true_and, Bool.false_eq_true, if_false, if_true, Nat.reduceAdd, Nat.reduceSub, Nat.reduceLeDiff, mjs_ob s59_0, r3, mjs_ob s59_17]
  refine ⟨fun q => q.elim, fun _ => mj_blk rfl ?_⟩
  simp +decide only [mjs_0, mjs_1, mjs_2, mjs_3, mjs_ble, true_and, Bool.false_eq_true, if_false, if_true, Nat.reduceAdd, Nat.reduceSub, Nat.reduceLeDiff]
  refine mj_blk rfl ?_
  simp +decide only [mjs_0, mjs_1, mjs_2, mjs_3, mjs_ble, true_and, Bool.false_eq_true, if_false, if_true, Nat.reduceAdd, Nat.reduceSub, Nat.reduceLeDiff]
  exact hQ2 _ q q' (fun b q hb => by rw [mjs_up_c (by omega)]; exact b0 b q hb)
end MJRUN1
