/-! ONE CALL on a fresh object: the class -/
theorem s59_0 : sh59[0]? = some (0, 8) := rfl
theorem s59_1 : sh59[1]? = some (7, 4) := rfl
theorem s59_2 : sh59[2]? = some (5, 6) := rfl
theorem s59_5 : sh59[5]? = some (1000, 256) := rfl
theorem s59_8 : sh59[8]? = some (1000, 256) := rfl
theorem s59_9 : sh59[9]? = some (9, 10) := rfl
theorem s59_10 : sh59[10]? = some (1000, 1804) := rfl
theorem s59_11 : sh59[11]? = some (1000, 1804) := rfl
theorem s59_17 : sh59[17]? = some (8, 13) := rfl
theorem s59_18 : sh59[18]? = some (1000, 4001) := rfl
theorem s59_21 : sh59[21]? = some (4, 6) := rfl
theorem s59_25 : sh59[25]? = some (2, 6) := rfl
theorem s59_28 : sh59[28]? = some (3, 9) := rfl
theorem s59_34 : sh59[34]? = some (6, 7) := rfl
theorem s59_36 : sh59[36]? = some (10, 41) := rfl
theorem s59_37 : sh59[37]? = some (1004, 4000) := rfl
theorem s59_46 : sh59[46]? = some (1000, 25856) := rfl
theorem s59_58 : sh59[58]? = some (1001, 1) := rfl
section MJONE
variable {X : mj_X} {d nc ns : Nat} {Q : mj_Q} {I : Nat → Nat → Int32} {Lg : Nat → Nat → Int64} {Rf : Nat → Nat → Option Nat}
theorem c_3 (hR : mj_Rt mp_R Rf) (hQ : Q (.inl (some (.int (I 1 1)))) (sh59, I, Lg, Rf, nc, ns)) : mj_call X mj_P (mj_bi X) (d + 1) 3 [.ref 0] (sh59, I, Lg, Rf, nc, ns) Q := by
  have r0 := hR.at (a := 0) (b := 0) (c := 1) (by decide)
  refine mj_enter (z := (1, [], mb_3)) (by decide) rfl rfl ?_
  refine mj_blk rfl ?_
  simp +decide only [mjs_0, mjs_1, mjs_2, mjs_3, mjs_ble, true_and, Bool.false_eq_true, if_false, if_true, Nat.reduceAdd, Nat.reduceSub, Nat.reduceLeDiff, mjs_ob s59_0, mjs_ob s59_1, r0]
  exact hQ
theorem c_4 (hR : mj_Rt mp_R Rf) (hQ : Q (.inl (some (.int (I 34 1)))) (sh59, I, Lg, Rf, nc, ns)) : mj_call X mj_P (mj_bi X) (d + 1) 4 [.ref 0] (sh59, I, Lg, Rf, nc, ns) Q := by
  have r0 := hR.at (a := 0) (b := 7) (c := 34) (by decide)
  refine mj_enter (z := (1, [], mb_4)) (by decide) rfl rfl ?_
  refine mj_blk rfl ?_
  simp +decide only [mjs_0, mjs_1, mjs_2, mjs_3, mjs_ble, true_and, Bool.false_eq_true, if_false, if_true, Nat.reduceAdd, Nat.reduceSub, Nat.reduceLeDiff, mjs_ob s59_0, mjs_ob s59_34, r0]
  exact hQ
/-- out of the empty OUT throws -/
theorem c_5 (hR : mj_Rt mp_R Rf) {i : Int32} (h0 : I 34 1 = 0) (hr : nc + 1 ≤ X.2.2.1 ∧ ns + 6 ≤ X.2.2.2) (hQ : Q (.inr 502) (sh59, I, Lg, Rf, nc + 1, ns + 6)) : mj_call X mj_P (mj_bi X) (d + 1) 5 [.ref 0, .int i] (sh59, I, Lg, Rf, nc, ns) Q := by
  have r0 := hR.at (a := 0) (b := 7) (c := 34) (by decide)
  have K : ∀ lv : mj_LV, lv.length = 2 → mj_rn X (mj_hd []) (mj_call X mj_P (mj_bi X) d) mb_5 15 lv [] (sh59, I, Lg, Rf, nc, ns) Q := by
    intro lv hl
    match lv, hl with
    | [a, b], _ =>
      refine mj_blk rfl ?_
      simp +decide only [mjs_0, mjs_1, mjs_2, mjs_3, mjs_ble, true_and, Bool.false_eq_true, if_false, if_true, Nat.reduceAdd, Nat.reduceSub, Nat.reduceLeDiff]
      exact ⟨hr, hQ⟩
  refine mj_enter (z := (2, [], mb_5)) (by decide) rfl rfl ?_
  refine mj_blk rfl ?_
  simp +decide only [mjs_0, mjs_1, mjs_2, mjs_3, mjs_ble, true_and, Bool.false_eq_true, if_false, if_true, Nat.reduceAdd, Nat.reduceSub, Nat.reduceLeDiff]
  refine ⟨fun _ => K _ rfl, fun q => mj_blk rfl ?_⟩
  simp +decide only [mjs_0, mjs_1, mjs_2, mjs_3, mjs_ble, true_and, Bool.false_eq_true, if_false, if_true, Nat.reduceAdd, Nat.reduceSub, Nat.reduceLeDiff, mjs_ob s59_0, mjs_ob s59_34, r0, h0]
  exact ⟨fun q' => absurd q' q, fun _ => K _ rfl⟩
theorem c_6 (hR : mj_Rt mp_R Rf) {i : Int32} (hr : nc + 1 ≤ X.2.2.1 ∧ ns + 6 ≤ X.2.2.2) (hQ1 : i < 0 ∨ ¬ i ≤ 255 → Q (.inr 502) (sh59, I, Lg, Rf, nc + 1, ns + 6)) (hQ2 : ∀ k : Nat, k ≤ 255 → i = nI k → Q (.inl (some (.int (I 10 k)))) (sh59, I, Lg, Rf, nc, ns)) : mj_call X mj_P (mj_bi X) (d + 1) 6 [.ref 0, .int i] (sh59, I, Lg, Rf, nc, ns) Q := by
  have r0 := hR.at (a := 0) (b := 2) (c := 9) (by decide)
  have r1 := hR.at (a := 9) (b := 0) (c := 10) (by decide)
  have K : (i < 0 ∨ ¬ i ≤ 255) → ∀ lv : mj_LV, lv.length = 2 → mj_rn X (mj_hd []) (mj_call X mj_P (mj_bi X) d) mb_6 11 lv [] (sh59, I, Lg, Rf, nc, ns) Q := by
    intro hi lv hl
    match lv, hl with
    | [a, b], _ =>
      refine mj_blk rfl ?_
      simp +decide only [mjs_0, mjs_1, mjs_2, mjs_3, mjs_ble, true_and, Bool.false_eq_true, if_false, if_true, Nat.reduceAdd, Nat.reduceSub, Nat.reduceLeDiff]
      exact ⟨hr, hQ1 hi⟩
  refine mj_enter (z := (2, [], mb_6)) (by decide) rfl rfl ?_
  refine mj_blk rfl ?_
  simp +decide only [mjs_0, mjs_1, mjs_2, mjs_3, mjs_ble, true_and, Bool.false_eq_true, if_false, if_true, Nat.reduceAdd, Nat.reduceSub, Nat.reduceLeDiff]
  refine ⟨fun q => K (Or.inl q) _ rfl, fun q => mj_blk rfl ?_⟩
  simp +decide only [mjs_0, mjs_1, mjs_2, mjs_3, mjs_ble, true_and, Bool.false_eq_true, if_false, if_true, Nat.reduceAdd, Nat.reduceSub, Nat.reduceLeDiff]
  refine ⟨fun q' => mj_blk rfl ?_, fun q' => K (Or.inr q') _ rfl⟩
  obtain ⟨k, hk, rfl⟩ := nI_of2 (n := 255) (by decide) q q'
  have e0 : (0 : Int32) + nI k = nI k := (nI_add 0 k).trans (by rw [Nat.zero_add])
  have e1 : (nI k).toNatClampNeg = k := nI_clamp (by omega)
  simp +decide only [mjs_0, mjs_1, mjs_2, mjs_3, mjs_ble, true_and, Bool.false_eq_true, if_false, if_true, Nat.reduceAdd, Nat.reduceSub, Nat.reduceLeDiff, mjs_ob s59_0, mjs_ob s59_9, r0, r1, mjs_ar (t := 0) s59_10, e0, e1]
  exact ⟨nI_in (by omega) (by decide), hQ2 k hk rfl⟩
theorem c_7 {t : Int32} {S : mj_S} (hr : S.2.2.2.2.1 + 1 ≤ X.2.2.1 ∧ S.2.2.2.2.2 + 6 ≤ X.2.2.2) (hQ1 : t < 0 ∨ ¬ t ≤ 30000 → Q (.inr 501) (S.1, S.2.1, S.2.2.1, S.2.2.2.1, S.2.2.2.2.1 + 1, S.2.2.2.2.2 + 6)) (hQ2 : ¬ t < 0 → t ≤ 30000 → Q (.inl none) S) : mj_call X mj_P (mj_bi X) (d + 1) 7 [.int t] S Q := by
  have K : (t < 0 ∨ ¬ t ≤ 30000) → ∀ lv : mj_LV, lv.length = 1 → mj_rn X (mj_hd []) (mj_call X mj_P (mj_bi X) d) mb_7 11 lv [] S Q := by
    intro hi lv hl
    match lv, hl with
    | [a], _ =>
      refine mj_blk rfl ?_
      simp +decide only [mjs_0, mjs_1, mjs_2, mjs_3, mjs_ble, true_and, Bool.false_eq_true, if_false, if_true, Nat.reduceAdd, Nat.reduceSub, Nat.reduceLeDiff]
      exact ⟨hr, hQ1 hi⟩
  refine mj_enter (z := (1, [], mb_7)) (by decide) rfl rfl ?_
  refine mj_blk rfl ?_
  simp +decide only [mjs_0, mjs_1, mjs_2, mjs_3, mjs_ble, true_and, Bool.false_eq_true, if_false, if_true, Nat.reduceAdd, Nat.reduceSub, Nat.reduceLeDiff]
  refine ⟨fun q => K (Or.inl q) _ rfl, fun q => mj_blk rfl ?_⟩
  simp +decide only [mjs_0, mjs_1, mjs_2, mjs_3, mjs_ble, true_and, Bool.false_eq_true, if_false, if_true, Nat.reduceAdd, Nat.reduceSub, Nat.reduceLeDiff]
  refine ⟨fun q' => mj_blk rfl ?_, fun q' => K (Or.inr q') _ rfl⟩
  simp +decide only [mjs_0, mjs_1, mjs_2, mjs_3, mjs_ble, true_and, Bool.false_eq_true, if_false, if_true, Nat.reduceAdd, Nat.reduceSub, Nat.reduceLeDiff]
  exact hQ2 q q'
theorem c_82 (hR : mj_Rt mp_R Rf) {j : Nat} {v : Int32} (hj : j < 4000) (h1 : I 17 1 = nI j) (hQ : ∀ I' : Nat → Nat → Int32, (∀ b q, b ≠ 17 → b ≠ 18 → I' b q = I b q) → I' 17 1 = nI (j + 1) → Q (.inl none) (sh59, I', Lg, Rf, nc, ns)) : mj_call X mj_P (mj_bi X) (d + 1) 82 [.ref 17, .int v] (sh59, I, Lg, Rf, nc, ns) Q := by
  have r0 := hR.at (a := 17) (b := 0) (c := 18) (by decide)
  refine mj_enter (z := (2, [], mb_82)) (by decide) rfl rfl ?_
  refine mj_blk rfl ?_
  simp +decide only [mjs_0, mjs_1, mjs_2, mjs_3, mjs_ble, true_and, Bool.false_eq_true, if_false, if_true, Nat.reduceAdd, Nat.reduceSub, Nat.reduceLeDiff, mjs_ob s59_17, h1]
  refine ⟨fun q => absurd q (nI_ge (a := j) (b := 4000) hj (by decide)), fun _ => mj_blk rfl ?_⟩
  have u1 : ∀ (J : Nat → Nat → Int32) (j : Nat) (w : Int32) (q : Nat), mj_up J 18 j w 17 q = J 17 q := fun J j w q => mjs_up_c (by decide)
  simp +decide only [mjs_0, mjs_1, mjs_2, mjs_3, mjs_ble, true_and, Bool.false_eq_true, if_false, if_true, Nat.reduceAdd, Nat.reduceSub, Nat.reduceLeDiff, mjs_ob s59_17, r0, h1, mjs_ar (t := 0) s59_18, u1, nI_1]
  refine ⟨nI_in (by omega) (by decide), mj_blk rfl ?_⟩
  simp +decide only [mjs_0, mjs_1, mjs_2, mjs_3, mjs_ble, true_and, Bool.false_eq_true, if_false, if_true, Nat.reduceAdd, Nat.reduceSub, Nat.reduceLeDiff]
  exact hQ _ (fun b q hb1 hb2 => by rw [mjs_up_c hb1, mjs_up_c hb2]) mjs_up_at
theorem f1 (hR : mj_Rt mp_R Rf) {w : Int64} {n : Nat} (hn : n ≤ 8) (hQ : ∀ I' : Nat → Nat → Int32, (∀ b q, b ≠ 17 → b ≠ 18 → I' b q = I b q) → Q (.inl (some (.int 1))) (sh59, I', Lg, Rf, nc, ns)) :
    ∀ (m j : Nat) (I' : Nat → Nat → Int32), j + m = n → (∀ b q, b ≠ 17 → b ≠ 18 → I' b q = I b q) → I' 17 1 = nI j → mj_rn X (mj_hd []) (mj_call X mj_P (mj_bi X) (d + 1)) mb_1 31 [some (.ref 0), some (.long w), none, some (.int (nI n)), some (.int (nI j))] [] (sh59, I', Lg, Rf, nc, ns) Q := by
  have r0 := hR.at (a := 0) (b := 3) (c := 17) (by decide)
  intro m
  induction m with
  | zero =>
    intro j I' hj h2 h3
    obtain rfl : j = n := by omega
    refine mj_blk rfl ?_
    simp +decide only [mjs_0, mjs_1, mjs_2, mjs_3, mjs_ble, true_and, Bool.false_eq_true, if_false, if_true, Nat.reduceAdd, Nat.reduceSub, Nat.reduceLeDiff]
    refine ⟨fun _ => mj_blk rfl ?_, fun q => absurd (nI_le (Nat.le_refl j) (by omega)) q⟩
    simp +decide only [mjs_0, mjs_1, mjs_2, mjs_3, mjs_ble, true_and, Bool.false_eq_true, if_false, if_true, Nat.reduceAdd, Nat.reduceSub, Nat.reduceLeDiff]
    exact hQ I' h2
  | succ m ih =>
    intro j I' hj h2 h3
    refine mj_blk rfl ?_
    simp +decide only [mjs_0, mjs_1, mjs_2, mjs_3, mjs_ble, true_and, Bool.false_eq_true, if_false, if_true, Nat.reduceAdd, Nat.reduceSub, Nat.reduceLeDiff]
    refine ⟨fun q => absurd q (nI_ge (by omega) (by omega)), fun _ => mj_blk rfl ?_⟩
    simp +decide only [mjs_0, mjs_1, mjs_2, mjs_3, mjs_ble, true_and, Bool.false_eq_true, if_false, if_true, Nat.reduceAdd, Nat.reduceSub, Nat.reduceLeDiff, mjs_ob s59_0, r0, mjs_rc s59_17]
    refine c_82 hR (j := j) (by omega) h3 (fun I2 g1 g2 => ?_)
    simp +decide only [mjs_0, mjs_1, mjs_2, mjs_3, mjs_ble, true_and, Bool.false_eq_true, if_false, if_true, Nat.reduceAdd, Nat.reduceSub, Nat.reduceLeDiff, nI_1]
    exact ih (j + 1) I2 (by omega) (fun b q hb1 hb2 => by rw [g1 b q hb1 hb2]; exact h2 b q hb1 hb2) g2
theorem c_1 (hR : mj_Rt mp_R Rf) {w : Int64} {n : Int32} (h0 : I 17 1 = 0) (hQ1 : n < 1 ∨ 8 < n → Q (.inl (some (.int 0))) (sh59, I, Lg, Rf, nc, ns)) (hQ2 : ∀ (k : Nat) (I' : Nat → Nat → Int32), 1 ≤ k → k ≤ 8 → n = nI k → (∀ b q, b ≠ 17 → b ≠ 18 → I' b q = I b q) → Q (.inl (some (.int 1))) (sh59, I', Lg, Rf, nc, ns)) : mj_call X mj_P (mj_bi X) (d + 2) 1 [.ref 0, .long w, .int n] (sh59, I, Lg, Rf, nc, ns) Q := by
  have r0 := hR.at (a := 0) (b := 3) (c := 17) (by decide)
  have K : (n < 1 ∨ 8 < n) → ∀ lv : mj_LV, lv.length = 5 → mj_rn X (mj_hd []) (mj_call X mj_P (mj_bi X) (d + 1)) mb_1 26 lv [] (sh59, I, Lg, Rf, nc, ns) Q := by
    intro hi lv hl
    match lv, hl with
    | [a, b, c, d, e], _ =>
      refine mj_blk rfl ?_
      simp +decide only [mjs_0, mjs_1, mjs_2, mjs_3, mjs_ble, true_and, Bool.false_eq_true, if_false, if_true, Nat.reduceAdd, Nat.reduceSub, Nat.reduceLeDiff]
      exact hQ1 hi
  refine mj_enter (z := (5, [], mb_1)) (by decide) rfl rfl ?_
  refine mj_blk rfl ?_
  simp +decide only [mjs_0, mjs_1, mjs_2, mjs_3, mjs_ble, true_and, Bool.false_eq_true, if_false, if_true, Nat.reduceAdd, Nat.reduceSub, Nat.reduceLeDiff]
  refine ⟨fun q => K (Or.inl q) _ rfl, fun q => mj_blk rfl ?_⟩
  simp +decide only [mjs_0, mjs_1, mjs_2, mjs_3, mjs_ble, true_and, Bool.false_eq_true, if_false, if_true, Nat.reduceAdd, Nat.reduceSub, Nat.reduceLeDiff]
  refine ⟨fun q' => K (Or.inr q') _ rfl, fun q' => mj_blk rfl ?_⟩
  have q0 : ¬ n < 0 := fun h => q (Int32.lt_trans h (by decide))
  obtain ⟨k, hk, rfl⟩ := nI_of2 (n := 8) (M := 8) (by decide) q0 (Int32.not_lt.mp q')
  have k1 : 1 ≤ k := by
    rcases Nat.eq_zero_or_pos k with rfl | h
    · exact absurd (by decide) q
    · exact h
  simp +decide only [mjs_0, mjs_1, mjs_2, mjs_3, mjs_ble, true_and, Bool.false_eq_true, if_false, if_true, Nat.reduceAdd, Nat.reduceSub, Nat.reduceLeDiff, mjs_ob s59_0, mjs_ob s59_17, r0, h0]
  refine ⟨fun _ => mj_blk rfl ?_, fun q2 => absurd (show nI k ≤ nI 4000 from nI_le (by omega) (by decide)) q2⟩
  simp +decide only [mjs_0, mjs_1, mjs_2, mjs_3, mjs_ble, true_and, Bool.false_eq_true, if_false, if_true, Nat.reduceAdd, Nat.reduceSub, Nat.reduceLeDiff]
  exact f1 hR hk (fun I' g => hQ2 k I' k1 hk rfl g) k 0 I (Nat.zero_add _) (fun _ _ _ _ => rfl) h0
end MJONE
