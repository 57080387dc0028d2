/-! THE CLASS: small methods, exact -/
theorem s59_12 : sh59[12]? = some (1000, 1804) := rfl
theorem s59_13 : sh59[13]? = some (1000, 30001) := rfl
theorem s59_14 : sh59[14]? = some (1000, 30001) := rfl
theorem s59_15 : sh59[15]? = some (1000, 100) := rfl
theorem s59_16 : sh59[16]? = some (1000, 100) := rfl
theorem s59_19 : sh59[19]? = some (1000, 10100) := rfl
theorem s59_22 : sh59[22]? = some (1000, 10000) := rfl
theorem s59_23 : sh59[23]? = some (1000, 10002) := rfl
theorem s59_24 : sh59[24]? = some (1000, 10002) := rfl
theorem s59_26 : sh59[26]? = some (1000, 100) := rfl
theorem s59_27 : sh59[27]? = some (1003, 100) := rfl
theorem s59_35 : sh59[35]? = some (1000, 8000) := rfl
section MJSM
variable {X : mj_X} {d nc ns k : Nat} {Q : mj_Q} {I : Nat → Nat → Int32} {Lg : Nat → Nat → Int64} {Rf : Nat → Nat → Option Nat} {v : Int32}
theorem c_84 (hR : mj_Rt mp_R Rf) (hk : k < 10100) (h8 : I 17 8 = nI k) (hQ : Q (.inl none) (sh59, mj_up (mj_up I 19 k v) 17 8 (nI (k + 1)), Lg, Rf, nc, ns)) : mj_call X mj_P (mj_bi X) (d + 1) 84 [.ref 17, .int v] (sh59, I, Lg, Rf, nc, ns) Q := by
  have r7 := hR.at (a := 17) (b := 7) (c := 19) (by decide)
  have e0 : (nI k).toNatClampNeg = k := nI_clamp (by omega)
  have u1 : ∀ (J : Nat → Nat → Int32) (j : Nat) (w : Int32) (q : Nat), mj_up J 19 j w 17 q = J 17 q := fun J j w q => mjs_up_c (by decide)
  refine mj_enter (z := (2, [], mb_84)) (by decide) rfl rfl ?_
  refine mj_blk rfl ?_
  simp +decide only [mjs_0, mjs_1, mjs_2, mjs_3, mjs_ble, true_and, Bool.false_eq_true, if_false, if_true, Nat.reduceAdd, Nat.reduceSub, Nat.reduceLeDiff, mjs_ob s59_17, h8]
  refine ⟨fun _ => mj_blk rfl ?_, fun q => absurd (show nI k < nI 10100 from nI_lt hk (by decide)) q⟩
  simp +decide only [mjs_0, mjs_1, mjs_2, mjs_3, mjs_ble, true_and, Bool.false_eq_true, if_false, if_true, Nat.reduceAdd, Nat.reduceSub, Nat.reduceLeDiff, mjs_ob s59_17, r7, h8, mjs_ar (t := 0) s59_19, e0, u1, nI_1]
  exact ⟨nI_in hk (by decide), hQ⟩
theorem c_85p (hR : mj_Rt mp_R Rf) (hk : k < 10100) (h8 : I 17 8 = nI (k + 1)) {b : Int32} (hQ : Q (.inl (some (.int (I 19 k)))) (sh59, mj_up I 17 8 (nI k), Lg, Rf, nc, ns)) : mj_call X mj_P (mj_bi X) (d + 1) 85 [.ref 17, .int b] (sh59, I, Lg, Rf, nc, ns) Q := by
  have r7 := hR.at (a := 17) (b := 7) (c := 19) (by decide)
  have e0 : (nI k).toNatClampNeg = k := nI_clamp (by omega)
  have u1 : ∀ (w : Int32) (q : Nat), mj_up I 17 8 w 19 q = I 19 q := fun w q => mjs_up_c (by decide)
  refine mj_enter (z := (7, [], mb_85)) (by decide) rfl rfl ?_
  refine mj_blk rfl ?_
  simp +decide only [mjs_0, mjs_1, mjs_2, mjs_3, mjs_ble, true_and, Bool.false_eq_true, if_false, if_true, Nat.reduceAdd, Nat.reduceSub, Nat.reduceLeDiff, mjs_ob s59_17, h8]
  refine ⟨fun q => absurd q (nI_nle (by omega) (by omega)), fun _ => mj_blk rfl ?_⟩
  simp +decide only [mjs_0, mjs_1, mjs_2, mjs_3, mjs_ble, true_and, Bool.false_eq_true, if_false, if_true, Nat.reduceAdd, Nat.reduceSub, Nat.reduceLeDiff, mjs_ob s59_17, r7, h8, nI_pred, mjs_up_at, mjs_ar (t := 0) s59_19, e0, u1]
  exact ⟨nI_in hk (by decide), hQ⟩
theorem c_78 (hk : k ≤ 40) (h3 : I 1 3 = nI k) (hr : nc + 1 ≤ X.2.2.1 ∧ ns + 6 ≤ X.2.2.2) (hQ1 : k < 40 → Q (.inl none) (sh59, mj_up I 1 3 (nI (k + 1)), Lg, Rf, nc, ns)) (hQ2 : k = 40 → Q (.inr 500) (sh59, mj_up I 1 0 3, Lg, Rf, nc + 1, ns + 6)) : mj_call X mj_P (mj_bi X) (d + 2) 78 [.ref 1] (sh59, I, Lg, Rf, nc, ns) Q := by
  refine mj_enter (z := (1, [], mb_78)) (by decide) rfl rfl ?_
  refine mj_blk rfl ?_
  simp +decide only [mjs_0, mjs_1, mjs_2, mjs_3, mjs_ble, true_and, Bool.false_eq_true, if_false, if_true, Nat.reduceAdd, Nat.reduceSub, Nat.reduceLeDiff, mjs_ob s59_1, h3]
  refine ⟨fun q => mj_blk rfl ?_, fun q => mj_blk rfl ?_⟩
  · simp +decide only [mjs_0, mjs_1, mjs_2, mjs_3, mjs_ble, true_and, Bool.false_eq_true, if_false, if_true, Nat.reduceAdd, Nat.reduceSub, Nat.reduceLeDiff, mjs_ob s59_1, h3, nI_1]
    exact hQ1 ((nI_ltI (by omega) (by decide)).mp (show nI k < nI 40 from q))
  · simp +decide only [mjs_0, mjs_1, mjs_2, mjs_3, mjs_ble, true_and, Bool.false_eq_true, if_false, if_true, Nat.reduceAdd, Nat.reduceSub, Nat.reduceLeDiff, mjs_rc s59_1]
    refine c_80 s59_1 hr ?_
    simp +decide only [mjs_0, mjs_1, mjs_2, mjs_3, mjs_ble, true_and, Bool.false_eq_true, if_false, if_true, Nat.reduceAdd, Nat.reduceSub, Nat.reduceLeDiff]
    refine hQ2 ?_
    rcases Nat.lt_or_eq_of_le hk with h | h
    · exact absurd (show nI k < nI 40 from nI_lt h (by decide)) q
    · exact h
theorem c_79 (h3 : I 1 3 = nI (k + 1)) (hQ : Q (.inl none) (sh59, mj_up I 1 3 (nI k), Lg, Rf, nc, ns)) : mj_call X mj_P (mj_bi X) (d + 1) 79 [.ref 1] (sh59, I, Lg, Rf, nc, ns) Q := by
  refine mj_enter (z := (1, [], mb_79)) (by decide) rfl rfl ?_
  refine mj_blk rfl ?_
  simp +decide only [mjs_0, mjs_1, mjs_2, mjs_3, mjs_ble, true_and, Bool.false_eq_true, if_false, if_true, Nat.reduceAdd, Nat.reduceSub, Nat.reduceLeDiff, mjs_ob s59_1, h3, nI_pred]
  exact hQ
theorem c_47 (hR : mj_Rt mp_R Rf) (hk : k < 10002) (hQ : Q (.inl (some (.int (I 23 k)))) (sh59, I, Lg, Rf, nc, ns)) : mj_call X mj_P (mj_bi X) (d + 1) 47 [.ref 21, .int (nI k)] (sh59, I, Lg, Rf, nc, ns) Q := by
  have r1 := hR.at (a := 21) (b := 1) (c := 23) (by decide)
  have e0 : (nI k).toNatClampNeg = k := nI_clamp (by omega)
  refine mj_enter (z := (2, [], mb_47)) (by decide) rfl rfl ?_
  refine mj_blk rfl ?_
  simp +decide only [mjs_0, mjs_1, mjs_2, mjs_3, mjs_ble, true_and, Bool.false_eq_true, if_false, if_true, Nat.reduceAdd, Nat.reduceSub, Nat.reduceLeDiff, mjs_ob s59_21, r1, mjs_ar (t := 0) s59_23, e0]
  exact ⟨nI_in hk (by decide), hQ⟩
theorem c_48 (hR : mj_Rt mp_R Rf) (hk : k < 10002) (hQ : Q (.inl (some (.int (I 24 k)))) (sh59, I, Lg, Rf, nc, ns)) : mj_call X mj_P (mj_bi X) (d + 1) 48 [.ref 21, .int (nI k)] (sh59, I, Lg, Rf, nc, ns) Q := by
  have r1 := hR.at (a := 21) (b := 2) (c := 24) (by decide)
  have e0 : (nI k).toNatClampNeg = k := nI_clamp (by omega)
  refine mj_enter (z := (2, [], mb_48)) (by decide) rfl rfl ?_
  refine mj_blk rfl ?_
  simp +decide only [mjs_0, mjs_1, mjs_2, mjs_3, mjs_ble, true_and, Bool.false_eq_true, if_false, if_true, Nat.reduceAdd, Nat.reduceSub, Nat.reduceLeDiff, mjs_ob s59_21, r1, mjs_ar (t := 0) s59_24, e0]
  exact ⟨nI_in hk (by decide), hQ⟩
theorem c_49 (hR : mj_Rt mp_R Rf) (hk : k + 1 < 10002) (hQ : Q (.inl (some (.int (I 23 (k + 1))))) (sh59, I, Lg, Rf, nc, ns)) : mj_call X mj_P (mj_bi X) (d + 1) 49 [.ref 21, .int (nI k)] (sh59, I, Lg, Rf, nc, ns) Q := by
  have r1 := hR.at (a := 21) (b := 1) (c := 23) (by decide)
  have e0 : (nI (k + 1)).toNatClampNeg = k + 1 := nI_clamp (by omega)
  refine mj_enter (z := (2, [], mb_49)) (by decide) rfl rfl ?_
  refine mj_blk rfl ?_
  simp +decide only [mjs_0, mjs_1, mjs_2, mjs_3, mjs_ble, true_and, Bool.false_eq_true, if_false, if_true, Nat.reduceAdd, Nat.reduceSub, Nat.reduceLeDiff, mjs_ob s59_21, r1, nI_1, mjs_ar (t := 0) s59_23, e0]
  exact ⟨nI_in hk (by decide), hQ⟩
theorem c_50 (hR : mj_Rt mp_R Rf) (hk : k ≤ 10000) (h3 : I 21 3 = nI k) (hr : nc + 1 ≤ X.2.2.1 ∧ ns + 6 ≤ X.2.2.2) (hQ1 : k < 10000 → Q (.inl none) (sh59, mj_up (mj_up I 22 k v) 21 3 (nI (k + 1)), Lg, Rf, nc, ns)) (hQ2 : k = 10000 → Q (.inr 500) (sh59, mj_up I 1 0 2, Lg, Rf, nc + 1, ns + 6)) : mj_call X mj_P (mj_bi X) (d + 2) 50 [.ref 21, .int v] (sh59, I, Lg, Rf, nc, ns) Q := by
  have r0 := hR.at (a := 21) (b := 0) (c := 22) (by decide)
  have r5 := hR.at (a := 21) (b := 5) (c := 1) (by decide)
  have e0 : (nI k).toNatClampNeg = k := nI_clamp (by omega)
  have u1 : ∀ (J : Nat → Nat → Int32) (j : Nat) (w : Int32) (q : Nat), mj_up J 22 j w 21 q = J 21 q := fun J j w q => mjs_up_c (by decide)
  refine mj_enter (z := (2, [], mb_50)) (by decide) rfl rfl ?_
  refine mj_blk rfl ?_
  simp +decide only [mjs_0, mjs_1, mjs_2, mjs_3, mjs_ble, true_and, Bool.false_eq_true, if_false, if_true, Nat.reduceAdd, Nat.reduceSub, Nat.reduceLeDiff, mjs_ob s59_21, h3]
  refine ⟨fun q => mj_blk rfl ?_, fun q => mj_blk rfl ?_⟩
  · have h := (nI_ltI (by omega) (by decide)).mp (show nI k < nI 10000 from q)
    simp +decide only [mjs_0, mjs_1, mjs_2, mjs_3, mjs_ble, true_and, Bool.false_eq_true, if_false, if_true, Nat.reduceAdd, Nat.reduceSub, Nat.reduceLeDiff, mjs_ob s59_21, r0, h3, mjs_ar (t := 0) s59_22, e0, u1, nI_1]
    exact ⟨nI_in h (by decide), hQ1 h⟩
  · simp +decide only [mjs_0, mjs_1, mjs_2, mjs_3, mjs_ble, true_and, Bool.false_eq_true, if_false, if_true, Nat.reduceAdd, Nat.reduceSub, Nat.reduceLeDiff, mjs_ob s59_21, r5, mjs_rc s59_1]
    refine c_80 s59_1 hr ?_
    simp +decide only [mjs_0, mjs_1, mjs_2, mjs_3, mjs_ble, true_and, Bool.false_eq_true, if_false, if_true, Nat.reduceAdd, Nat.reduceSub, Nat.reduceLeDiff]
    refine hQ2 ?_
    rcases Nat.lt_or_eq_of_le hk with h | h
    · exact absurd (show nI k < nI 10000 from nI_lt h (by decide)) q
    · exact h
theorem c_51 (hR : mj_Rt mp_R Rf) (hk : k < 10002) (h4 : I 21 4 = nI k) (hQ : Q (.inl none) (sh59, mj_up I 24 k (I 21 3), Lg, Rf, nc, ns)) : mj_call X mj_P (mj_bi X) (d + 1) 51 [.ref 21] (sh59, I, Lg, Rf, nc, ns) Q := by
  have r2 := hR.at (a := 21) (b := 2) (c := 24) (by decide)
  have e0 : (nI k).toNatClampNeg = k := nI_clamp (by omega)
  refine mj_enter (z := (1, [], mb_51)) (by decide) rfl rfl ?_
  refine mj_blk rfl ?_
  simp +decide only [mjs_0, mjs_1, mjs_2, mjs_3, mjs_ble, true_and, Bool.false_eq_true, if_false, if_true, Nat.reduceAdd, Nat.reduceSub, Nat.reduceLeDiff, mjs_ob s59_21, r2, h4, mjs_ar (t := 0) s59_24, e0]
  exact ⟨nI_in hk (by decide), hQ⟩
theorem c_52 (hR : mj_Rt mp_R Rf) (hk : k + 1 < 10002) (h4 : I 21 4 = nI k) (hQ0 : I 21 3 = I 23 k → Q (.inl (some (.int 0))) (sh59, I, Lg, Rf, nc, ns)) (hQ1 : ¬ I 21 3 = I 23 k → Q (.inl (some (.int (nI k)))) (sh59, mj_up (mj_up I 23 (k + 1) (I 21 3)) 21 4 (nI (k + 1)), Lg, Rf, nc, ns)) : mj_call X mj_P (mj_bi X) (d + 1) 52 [.ref 21] (sh59, I, Lg, Rf, nc, ns) Q := by
  have r1 := hR.at (a := 21) (b := 1) (c := 23) (by decide)
  have e0 : (nI k).toNatClampNeg = k := nI_clamp (by omega)
  have e1 : (nI (k + 1)).toNatClampNeg = k + 1 := nI_clamp (by omega)
  have u1 : ∀ (J : Nat → Nat → Int32) (j : Nat) (w : Int32) (q : Nat), mj_up J 23 j w 21 q = J 21 q := fun J j w q => mjs_up_c (by decide)
  refine mj_enter (z := (1, [], mb_52)) (by decide) rfl rfl ?_
  refine mj_blk rfl ?_
  simp +decide only [mjs_0, mjs_1, mjs_2, mjs_3, mjs_ble, true_and, Bool.false_eq_true, if_false, if_true, Nat.reduceAdd, Nat.reduceSub, Nat.reduceLeDiff, mjs_ob s59_21, r1, h4, mjs_ar (t := 0) s59_23, e0]
  refine ⟨nI_in (by omega) (by decide), fun q => mj_blk rfl ?_, fun q => mj_blk rfl ?_⟩
  · simp +decide only [mjs_0, mjs_1, mjs_2, mjs_3, mjs_ble, true_and, Bool.false_eq_true, if_false, if_true, Nat.reduceAdd, Nat.reduceSub, Nat.reduceLeDiff, mjs_ob s59_21, r1, h4, nI_1, mjs_ar (t := 0) s59_23, e1, u1, mjs_up_at, nI_pred]
    exact ⟨nI_in hk (by decide), hQ1 q⟩
  · simp +decide only [mjs_0, mjs_1, mjs_2, mjs_3, mjs_ble, true_and, Bool.false_eq_true, if_false, if_true, Nat.reduceAdd, Nat.reduceSub, Nat.reduceLeDiff]
    exact hQ0 (Decidable.not_not.mp q)
theorem c_61 (hR : mj_Rt mp_R Rf) (hk : k ≤ 8000) (h1 : I 34 1 = nI k) (hr : nc + 1 ≤ X.2.2.1 ∧ ns + 6 ≤ X.2.2.2) (hQ1 : k < 8000 → Q (.inl none) (sh59, mj_up (mj_up I 35 k v) 34 1 (nI (k + 1)), Lg, Rf, nc, ns)) (hQ2 : k = 8000 → Q (.inr 500) (sh59, mj_up I 1 0 2, Lg, Rf, nc + 1, ns + 6)) : mj_call X mj_P (mj_bi X) (d + 2) 61 [.ref 34, .int v] (sh59, I, Lg, Rf, nc, ns) Q := by
  have r0 := hR.at (a := 34) (b := 0) (c := 35) (by decide)
  have r6 := hR.at (a := 34) (b := 6) (c := 1) (by decide)
  have e0 : (nI k).toNatClampNeg = k := nI_clamp (by omega)
  have u1 : ∀ (J : Nat → Nat → Int32) (j : Nat) (w : Int32) (q : Nat), mj_up J 35 j w 34 q = J 34 q := fun J j w q => mjs_up_c (by decide)
  refine mj_enter (z := (2, [], mb_61)) (by decide) rfl rfl ?_
  refine mj_blk rfl ?_
  simp +decide only [mjs_0, mjs_1, mjs_2, mjs_3, mjs_ble, true_and, Bool.false_eq_true, if_false, if_true, Nat.reduceAdd, Nat.reduceSub, Nat.reduceLeDiff, mjs_ob s59_34, h1]
  refine ⟨fun q => mj_blk rfl ?_, fun q => mj_blk rfl ?_⟩
  · have h := (nI_ltI (by omega) (by decide)).mp (show nI k < nI 8000 from q)
    simp +decide only [mjs_0, mjs_1, mjs_2, mjs_3, mjs_ble, true_and, Bool.false_eq_true, if_false, if_true, Nat.reduceAdd, Nat.reduceSub, Nat.reduceLeDiff, mjs_ob s59_34, r0, h1, mjs_ar (t := 0) s59_35, e0, u1, nI_1]
    exact ⟨nI_in h (by decide), hQ1 h⟩
  · simp +decide only [mjs_0, mjs_1, mjs_2, mjs_3, mjs_ble, true_and, Bool.false_eq_true, if_false, if_true, Nat.reduceAdd, Nat.reduceSub, Nat.reduceLeDiff, mjs_ob s59_34, r6, mjs_rc s59_1]
    refine c_80 s59_1 hr ?_
    simp +decide only [mjs_0, mjs_1, mjs_2, mjs_3, mjs_ble, true_and, Bool.false_eq_true, if_false, if_true, Nat.reduceAdd, Nat.reduceSub, Nat.reduceLeDiff]
    refine hQ2 ?_
    rcases Nat.lt_or_eq_of_le hk with h | h
    · exact absurd (show nI k < nI 8000 from nI_lt h (by decide)) q
    · exact h
theorem c_18 (hR : mj_Rt mp_R Rf) (hk : k ≤ 100) (h2 : I 25 2 = nI k) (hv : vp_nar .boolean v = v) (hr : nc + 1 ≤ X.2.2.1 ∧ ns + 6 ≤ X.2.2.2) (hQ1 : k < 100 → Q (.inl (some (.int (nI k)))) (sh59, mj_up (mj_up (mj_up I 26 k 0) 27 k v) 25 2 (nI (k + 1)), Lg, Rf, nc, ns)) (hQ2 : k = 100 → Q (.inr 500) (sh59, mj_up I 1 0 2, Lg, Rf, nc + 1, ns + 6)) : mj_call X mj_P (mj_bi X) (d + 2) 18 [.ref 25, .int v] (sh59, I, Lg, Rf, nc, ns) Q := by
  have r0 := hR.at (a := 25) (b := 0) (c := 26) (by decide)
  have r1 := hR.at (a := 25) (b := 1) (c := 27) (by decide)
  have r5 := hR.at (a := 25) (b := 5) (c := 1) (by decide)
  have e0 : (nI k).toNatClampNeg = k := nI_clamp (by omega)
  have u1 : ∀ (J : Nat → Nat → Int32) (j : Nat) (w : Int32) (q : Nat), mj_up J 26 j w 25 q = J 25 q := fun J j w q => mjs_up_c (by decide)
  have u2 : ∀ (J : Nat → Nat → Int32) (j : Nat) (w : Int32) (q : Nat), mj_up J 27 j w 25 q = J 25 q := fun J j w q => mjs_up_c (by decide)
  refine mj_enter (z := (2, [], mb_18)) (by decide) rfl rfl ?_
  refine mj_blk rfl ?_
  simp +decide only [mjs_0, mjs_1, mjs_2, mjs_3, mjs_ble, true_and, Bool.false_eq_true, if_false, if_true, Nat.reduceAdd, Nat.reduceSub, Nat.reduceLeDiff, mjs_ob s59_25, h2]
  refine ⟨fun q => mj_blk rfl ?_, fun q => mj_blk rfl ?_⟩
  · have h := (nI_ltI (by omega) (by decide)).mp (show nI k < nI 100 from q)
    simp +decide only [mjs_0, mjs_1, mjs_2, mjs_3, mjs_ble, true_and, Bool.false_eq_true, if_false, if_true, Nat.reduceAdd, Nat.reduceSub, Nat.reduceLeDiff, mjs_ob s59_25, r0, r1, h2, mjs_ar (t := 0) s59_26, mjs_ar (t := 3) s59_27, e0, u1, u2, nI_1, mjs_up_at, nI_pred, hv]
    exact ⟨nI_in h (by decide), nI_in h (by decide), hQ1 h⟩
  · simp +decide only [mjs_0, mjs_1, mjs_2, mjs_3, mjs_ble, true_and, Bool.false_eq_true, if_false, if_true, Nat.reduceAdd, Nat.reduceSub, Nat.reduceLeDiff, mjs_ob s59_25, r5, mjs_rc s59_1]
    refine c_80 s59_1 hr ?_
    simp +decide only [mjs_0, mjs_1, mjs_2, mjs_3, mjs_ble, true_and, Bool.false_eq_true, if_false, if_true, Nat.reduceAdd, Nat.reduceSub, Nat.reduceLeDiff]
    refine hQ2 ?_
    rcases Nat.lt_or_eq_of_le hk with h | h
    · exact absurd (show nI k < nI 100 from nI_lt h (by decide)) q
    · exact h
end MJSM
