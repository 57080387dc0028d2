/-! ONE CALL on a fresh object: the law's helpers, the reference -/
section MJREF1
variable {X : mj_X} {d nc ns : Nat} {Q : mj_Q} {I : Nat → Nat → Int32} {Lg : Nat → Nat → Int64} {Rf : Nat → Nat → Option Nat}
theorem mj_er_eq (lv : mj_LV) (i : Nat) : mj_er lv i = (mj_st lv i .null).set i none := rfl
theorem c_193e (hR : mj_Rt mp_R Rf) {t : Int32} (h1 : I 17 1 = 0) (h9 : I 9 8 = 0) (hr : nc + 1 ≤ X.2.2.1 ∧ ns + 6 ≤ X.2.2.2) (hQ1 : t < 0 ∨ ¬ t ≤ 30000 → Q (.inl (some (.int 1))) (sh59, I, Lg, Rf, nc + 1, ns + 6)) (hQ2 : ∀ I' : Nat → Nat → Int32, ¬ t < 0 → t ≤ 30000 → (∀ b q, 36 ≤ b → I' b q = I b q) → Q (.inl (some (.int 0))) (sh59, I', mj_up Lg 58 0 (Int32.toInt64 0), Rf, nc, ns)) :
    mj_call X mj_P (mj_bi X) (d + 5) 193 [.ref 0, .int t, .ref 58] (sh59, I, Lg, Rf, nc, ns) Q := by
  refine mj_enter (z := (4, [(0, 9, 12, 501, 3, 13)], mb_193)) (by decide) rfl rfl ?_
  refine mj_blk rfl ?_
  simp +decide only [mjs_0, mjs_1, mjs_2, mjs_3, mjs_ble, true_and, Bool.false_eq_true, if_false, if_true, Nat.reduceAdd, Nat.reduceSub, Nat.reduceLeDiff, mjs_rc s59_0]
  refine c_2e hR h1 h9 hr (fun q => mj_ret_in (by decide) ?_) (fun I' q q' hb => ?_)
  · refine mj_blk rfl ?_
    simp +decide only [mjs_0, mjs_1, mjs_2, mjs_3, mjs_ble, true_and, Bool.false_eq_true, if_false, if_true, Nat.reduceAdd, Nat.reduceSub, Nat.reduceLeDiff, mj_er_eq]
    exact hQ1 q
  · simp +decide only [mjs_0, mjs_1, mjs_2, mjs_3, mjs_ble, true_and, Bool.false_eq_true, if_false, if_true, Nat.reduceAdd, Nat.reduceSub, Nat.reduceLeDiff, mjs_ar (t := 1) s59_58]
    refine ⟨by unfold vp_in; decide, mj_blk rfl ?_⟩
    simp +decide only [mjs_0, mjs_1, mjs_2, mjs_3, mjs_ble, true_and, Bool.false_eq_true, if_false, if_true, Nat.reduceAdd, Nat.reduceSub, Nat.reduceLeDiff]
    exact hQ2 I' q q' hb
theorem c_194e (hR : mj_Rt mp_R Rf) {t : Int32} (h0 : I 34 1 = 0) (hr : nc + 1 ≤ X.2.2.1 ∧ ns + 6 ≤ X.2.2.2) (hQ1 : Q (.inl (some (.int 1))) (sh59, I, Lg, Rf, nc + 1, ns + 6)) :
    mj_call X mj_P (mj_bi X) (d + 2) 194 [.ref 0, .int t, .ref 58] (sh59, I, Lg, Rf, nc, ns) Q := by
  refine mj_enter (z := (4, [(0, 9, 12, 502, 3, 13)], mb_194)) (by decide) rfl rfl ?_
  refine mj_blk rfl ?_
  simp +decide only [mjs_0, mjs_1, mjs_2, mjs_3, mjs_ble, true_and, Bool.false_eq_true, if_false, if_true, Nat.reduceAdd, Nat.reduceSub, Nat.reduceLeDiff, mjs_rc s59_0]
  refine c_5 hR h0 hr (mj_ret_in (by decide) ?_)
  refine mj_blk rfl ?_
  simp +decide only [mjs_0, mjs_1, mjs_2, mjs_3, mjs_ble, true_and, Bool.false_eq_true, if_false, if_true, Nat.reduceAdd, Nat.reduceSub, Nat.reduceLeDiff, mj_er_eq]
  exact hQ1
theorem c_195e (hR : mj_Rt mp_R Rf) {t : Int32} (hr : nc + 1 ≤ X.2.2.1 ∧ ns + 6 ≤ X.2.2.2) (hQ1 : t < 0 ∨ ¬ t ≤ 255 → Q (.inl (some (.int 1))) (sh59, I, Lg, Rf, nc + 1, ns + 6)) (hQ2 : ∀ k : Nat, k ≤ 255 → t = nI k → Q (.inl (some (.int 0))) (sh59, I, mj_up Lg 58 0 (I 10 k).toInt64, Rf, nc, ns)) :
    mj_call X mj_P (mj_bi X) (d + 2) 195 [.ref 0, .int t, .ref 58] (sh59, I, Lg, Rf, nc, ns) Q := by
  refine mj_enter (z := (4, [(0, 9, 12, 502, 3, 13)], mb_195)) (by decide) rfl rfl ?_
  refine mj_blk rfl ?_
  simp +decide only [mjs_0, mjs_1, mjs_2, mjs_3, mjs_ble, true_and, Bool.false_eq_true, if_false, if_true, Nat.reduceAdd, Nat.reduceSub, Nat.reduceLeDiff, mjs_rc s59_0]
  refine c_6 hR hr (fun q => mj_ret_in (by decide) ?_) (fun k hk e => ?_)
  · refine mj_blk rfl ?_
    simp +decide only [mjs_0, mjs_1, mjs_2, mjs_3, mjs_ble, true_and, Bool.false_eq_true, if_false, if_true, Nat.reduceAdd, Nat.reduceSub, Nat.reduceLeDiff, mj_er_eq]
    exact hQ1 q
  · simp +decide only [mjs_0, mjs_1, mjs_2, mjs_3, mjs_ble, true_and, Bool.false_eq_true, if_false, if_true, Nat.reduceAdd, Nat.reduceSub, Nat.reduceLeDiff, mjs_ar (t := 1) s59_58]
    refine ⟨by unfold vp_in; decide, mj_blk rfl ?_⟩
    simp +decide only [mjs_0, mjs_1, mjs_2, mjs_3, mjs_ble, true_and, Bool.false_eq_true, if_false, if_true, Nat.reduceAdd, Nat.reduceSub, Nat.reduceLeDiff]
    exact hQ2 k hk e
theorem c_104 (hQ : Q (.inl (some (.int (I 36 0)))) (sh59, I, Lg, Rf, nc, ns)) : mj_call X mj_P (mj_bi X) (d + 1) 104 [.ref 36] (sh59, I, Lg, Rf, nc, ns) Q := by
  refine mj_enter (z := (1, [], mb_104)) (by decide) rfl rfl ?_
  refine mj_blk rfl ?_
  simp +decide only [mjs_0, mjs_1, mjs_2, mjs_3, mjs_ble, true_and, Bool.false_eq_true, if_false, if_true, Nat.reduceAdd, Nat.reduceSub, Nat.reduceLeDiff, mjs_ob s59_36]
  exact hQ
theorem c_179 (hQ : Q (.inl (some (.int (I 36 36)))) (sh59, mj_up I 36 0 0, Lg, Rf, nc, ns)) : mj_call X mj_P (mj_bi X) (d + 1) 179 [.ref 36] (sh59, I, Lg, Rf, nc, ns) Q := by
  have e : mj_up I 36 0 0 36 36 = I 36 36 := mjs_up_ne (Or.inr (by decide))
  refine mj_enter (z := (1, [], mb_179)) (by decide) rfl rfl ?_
  refine mj_blk rfl ?_
  simp +decide only [mjs_0, mjs_1, mjs_2, mjs_3, mjs_ble, true_and, Bool.false_eq_true, if_false, if_true, Nat.reduceAdd, Nat.reduceSub, Nat.reduceLeDiff, mjs_ob s59_36, e]
  exact hQ
theorem c_180 (hQ : Q (.inl (some (.int (I 36 3)))) (sh59, mj_up I 36 0 0, Lg, Rf, nc, ns)) : mj_call X mj_P (mj_bi X) (d + 1) 180 [.ref 36] (sh59, I, Lg, Rf, nc, ns) Q := by
  have e : mj_up I 36 0 0 36 3 = I 36 3 := mjs_up_ne (Or.inr (by decide))
  refine mj_enter (z := (1, [], mb_180)) (by decide) rfl rfl ?_
  refine mj_blk rfl ?_
  simp +decide only [mjs_0, mjs_1, mjs_2, mjs_3, mjs_ble, true_and, Bool.false_eq_true, if_false, if_true, Nat.reduceAdd, Nat.reduceSub, Nat.reduceLeDiff, mjs_ob s59_36, e]
  exact hQ
theorem c_181e {i : Int32} (h3 : I 36 3 = 0) (hQ : Q (.inl (some (.int 0))) (sh59, mj_up I 36 0 1, Lg, Rf, nc, ns)) : mj_call X mj_P (mj_bi X) (d + 1) 181 [.ref 36, .int i] (sh59, I, Lg, Rf, nc, ns) Q := by
  have e : mj_up I 36 0 1 36 0 = 1 := mjs_up_at
  have K : mj_rn X (mj_hd []) (mj_call X mj_P (mj_bi X) d) mb_181 13 [some (.ref 36), some (.int i)] [.ref 36] (sh59, I, Lg, Rf, nc, ns) Q := by
    refine mj_blk rfl ?_
    simp +decide only [mjs_0, mjs_1, mjs_2, mjs_3, mjs_ble, true_and, Bool.false_eq_true, if_false, if_true, Nat.reduceAdd, Nat.reduceSub, Nat.reduceLeDiff]
    refine mj_blk rfl ?_
    simp +decide only [mjs_0, mjs_1, mjs_2, mjs_3, mjs_ble, true_and, Bool.false_eq_true, if_false, if_true, Nat.reduceAdd, Nat.reduceSub, Nat.reduceLeDiff, mjs_ob s59_36, e]
    refine ⟨fun q => q.elim, fun _ => mj_blk rfl ?_⟩
    simp +decide only [mjs_0, mjs_1, mjs_2, mjs_3, mjs_ble, true_and, Bool.false_eq_true, if_false, if_true, Nat.reduceAdd, Nat.reduceSub, Nat.reduceLeDiff]
    refine mj_blk rfl ?_
    simp +decide only [mjs_0, mjs_1, mjs_2, mjs_3, mjs_ble, true_and, Bool.false_eq_true, if_false, if_true, Nat.reduceAdd, Nat.reduceSub, Nat.reduceLeDiff]
    exact hQ
  refine mj_enter (z := (2, [], mb_181)) (by decide) rfl rfl ?_
  refine mj_blk rfl ?_
  simp +decide only [mjs_0, mjs_1, mjs_2, mjs_3, mjs_ble, true_and, Bool.false_eq_true, if_false, if_true, Nat.reduceAdd, Nat.reduceSub, Nat.reduceLeDiff]
  refine ⟨fun _ => K, fun q => mj_blk rfl ?_⟩
  simp +decide only [mjs_0, mjs_1, mjs_2, mjs_3, mjs_ble, true_and, Bool.false_eq_true, if_false, if_true, Nat.reduceAdd, Nat.reduceSub, Nat.reduceLeDiff, mjs_ob s59_36, h3]
  exact ⟨fun q' => absurd q' q, fun _ => K⟩
theorem c_182 (hR : mj_Rt mm_R Rf) {i : Int32} (hQ1 : i < 0 ∨ ¬ i ≤ 255 → Q (.inl (some (.int 0))) (sh59, mj_up I 36 0 1, Lg, Rf, nc, ns)) (hQ2 : ∀ k : Nat, k ≤ 255 → i = nI k → Q (.inl (some (.int (I 46 k)))) (sh59, mj_up I 36 0 0, Lg, Rf, nc, ns)) : mj_call X mj_P (mj_bi X) (d + 1) 182 [.ref 36, .int i] (sh59, I, Lg, Rf, nc, ns) Q := by
  have r20 := hR.at (a := 36) (b := 20) (c := 46) (by decide)
  have e : mj_up I 36 0 1 36 0 = 1 := mjs_up_at
  have e' : mj_up I 36 0 0 36 0 = 0 := mjs_up_at
  have K : (i < 0 ∨ ¬ i ≤ 255) → mj_rn X (mj_hd []) (mj_call X mj_P (mj_bi X) d) mb_182 12 [some (.ref 36), some (.int i)] [.ref 36] (sh59, I, Lg, Rf, nc, ns) Q := by
    intro hi
    refine mj_blk rfl ?_
    simp +decide only [mjs_0, mjs_1, mjs_2, mjs_3, mjs_ble, true_and, Bool.false_eq_true, if_false, if_true, Nat.reduceAdd, Nat.reduceSub, Nat.reduceLeDiff]
    refine mj_blk rfl ?_
    simp +decide only [mjs_0, mjs_1, mjs_2, mjs_3, mjs_ble, true_and, Bool.false_eq_true, if_false, if_true, Nat.reduceAdd, Nat.reduceSub, Nat.reduceLeDiff, mjs_ob s59_36, e]
    refine ⟨fun q => q.elim, fun _ => mj_blk rfl ?_⟩
    simp +decide only [mjs_0, mjs_1, mjs_2, mjs_3, mjs_ble, true_and, Bool.false_eq_true, if_false, if_true, Nat.reduceAdd, Nat.reduceSub, Nat.reduceLeDiff]
    refine mj_blk rfl ?_
    simp +decide only [mjs_0, mjs_1, mjs_2, mjs_3, mjs_ble, true_and, Bool.false_eq_true, if_false, if_true, Nat.reduceAdd, Nat.reduceSub, Nat.reduceLeDiff]
    exact hQ1 hi
  refine mj_enter (z := (2, [], mb_182)) (by decide) rfl rfl ?_
  refine mj_blk rfl ?_
  simp +decide only [mjs_0, mjs_1, mjs_2, mjs_3, mjs_ble, true_and, Bool.false_eq_true, if_false, if_true, Nat.reduceAdd, Nat.reduceSub, Nat.reduceLeDiff]
  refine ⟨fun q => K (Or.inl q), fun q => mj_blk rfl ?_⟩
  simp +decide only [mjs_0, mjs_1, mjs_2, mjs_3, mjs_ble, true_and, Bool.false_eq_true, if_false, if_true, Nat.reduceAdd, Nat.reduceSub, Nat.reduceLeDiff]
  refine ⟨fun q' => mj_blk rfl ?_, fun q' => K (Or.inr q')⟩
  obtain ⟨k, hk, rfl⟩ := nI_of2 (n := 255) (by decide) q q'
  have e1 : (nI k).toNatClampNeg = k := nI_clamp (by omega)
  have e2 : mj_up I 36 0 0 46 k = I 46 k := mjs_up_c (by decide)
  simp +decide only [mjs_0, mjs_1, mjs_2, mjs_3, mjs_ble, true_and, Bool.false_eq_true, if_false, if_true, Nat.reduceAdd, Nat.reduceSub, Nat.reduceLeDiff]
  refine mj_blk rfl ?_
  simp +decide only [mjs_0, mjs_1, mjs_2, mjs_3, mjs_ble, true_and, Bool.false_eq_true, if_false, if_true, Nat.reduceAdd, Nat.reduceSub, Nat.reduceLeDiff, mjs_ob s59_36, e']
  refine ⟨fun _ => mj_blk rfl ?_, fun q => q.elim⟩
  simp +decide only [mjs_0, mjs_1, mjs_2, mjs_3, mjs_ble, true_and, Bool.false_eq_true, if_false, if_true, Nat.reduceAdd, Nat.reduceSub, Nat.reduceLeDiff, mjs_ob s59_36, r20, mjs_ar (t := 0) s59_46, e1, e2]
  refine ⟨nI_in (by omega) (by decide), mj_blk rfl ?_⟩
  simp +decide only [mjs_0, mjs_1, mjs_2, mjs_3, mjs_ble, true_and, Bool.false_eq_true, if_false, if_true, Nat.reduceAdd, Nat.reduceSub, Nat.reduceLeDiff]
  exact hQ2 k hk rfl
end MJREF1
