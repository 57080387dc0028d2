/-! ONE CALL on a fresh object: the reference's type and run -/
section MJREF2
variable {X : mj_X} {L d nc ns : Nat} {xs : Nat → Int32} {Q : mj_Q} {I : Nat → Nat → Int32} {Lg : Nat → Nat → Int64} {Rf : Nat → Nat → Option Nat}
theorem f105 (hR : mj_Rt mm_R Rf) {w : Int64} {n : Nat} (hn : n ≤ 8) (hQ : ∀ I' : Nat → Nat → Int32, Q (.inl (some (.int 1))) (sh59, I', Lg, Rf, nc, ns)) :
    ∀ (m j : Nat) (I' : Nat → Nat → Int32), j + m = n → I' 36 1 = nI j → mj_rn X (mj_hd []) (mj_call X mj_P (mj_bi X) d) mb_105 33 [some (.ref 36), some (.long w), none, some (.int (nI n)), some (.int (nI j))] [] (sh59, I', Lg, Rf, nc, ns) Q := by
  have r2 := hR.at (a := 36) (b := 2) (c := 37) (by decide)
  intro m
  induction m with
  | zero =>
    intro j I' hj h3
    obtain rfl : j = n := by omega
    refine mj_blk rfl ?_
    simp +decide only [mjs_0, mjs_1, mjs_2, mjs_3, mjs_ble, true_and, Bool.false_eq_true, if_false, if_true, Nat.reduceAdd, Nat.reduceSub, Nat.reduceLeDiff]
    refine ⟨fun _ => mj_blk rfl ?_, fun q => absurd (nI_le (Nat.le_refl j) (by omega)) q⟩
    simp +decide only [mjs_0, mjs_1, mjs_2, mjs_3, mjs_ble, true_and, Bool.false_eq_true, if_false, if_true, Nat.reduceAdd, Nat.reduceSub, Nat.reduceLeDiff]
    exact hQ I'
  | succ m ih =>
    intro j I' hj h3
    have u1 : ∀ (J : Nat → Nat → Int32) (j : Nat) (w : Int32) (q : Nat), mj_up J 37 j w 36 q = J 36 q := fun J j w q => mjs_up_c (by decide)
    refine mj_blk rfl ?_
    simp +decide only [mjs_0, mjs_1, mjs_2, mjs_3, mjs_ble, true_and, Bool.false_eq_true, if_false, if_true, Nat.reduceAdd, Nat.reduceSub, Nat.reduceLeDiff]
    refine ⟨fun q => absurd q (nI_ge (by omega) (by omega)), fun _ => mj_blk rfl ?_⟩
    simp +decide only [mjs_0, mjs_1, mjs_2, mjs_3, mjs_ble, true_and, Bool.false_eq_true, if_false, if_true, Nat.reduceAdd, Nat.reduceSub, Nat.reduceLeDiff, mjs_ob s59_36, r2, h3, mjs_ar (t := 4) s59_37, u1, nI_1]
    exact ⟨nI_in (by omega) (by decide), ih (j + 1) _ (by omega) mjs_up_at⟩
theorem c_105e (hR : mj_Rt mm_R Rf) {w : Int64} {n : Int32} (h1 : I 36 1 = 0) (hQ1 : n < 1 ∨ 8 < n → ∀ I' : Nat → Nat → Int32, Q (.inl (some (.int 0))) (sh59, I', Lg, Rf, nc, ns)) (hQ2 : ¬ (n < 1 ∨ 8 < n) → ∀ I' : Nat → Nat → Int32, Q (.inl (some (.int 1))) (sh59, I', Lg, Rf, nc, ns)) : mj_call X mj_P (mj_bi X) (d + 1) 105 [.ref 36, .long w, .int n] (sh59, I, Lg, Rf, nc, ns) Q := by
  have e1 : mj_up I 36 0 0 36 1 = 0 := (mjs_up_ne (Or.inr (by decide))).trans h1
  have K : (n < 1 ∨ 8 < n) → ∀ lv : mj_LV, lv.length = 5 → mj_rn X (mj_hd []) (mj_call X mj_P (mj_bi X) d) mb_105 28 lv [] (sh59, mj_up I 36 0 0, Lg, Rf, nc, ns) Q := by
    intro hi lv hl
    match lv, hl with
    | [a, b, c, d, e], _ =>
      refine mj_blk rfl ?_
      simp +decide only [mjs_0, mjs_1, mjs_2, mjs_3, mjs_ble, true_and, Bool.false_eq_true, if_false, if_true, Nat.reduceAdd, Nat.reduceSub, Nat.reduceLeDiff]
      exact hQ1 hi _
  refine mj_enter (z := (5, [], mb_105)) (by decide) rfl rfl ?_
  refine mj_blk rfl ?_
  simp +decide only [mjs_0, mjs_1, mjs_2, mjs_3, mjs_ble, true_and, Bool.false_eq_true, if_false, if_true, Nat.reduceAdd, Nat.reduceSub, Nat.reduceLeDiff, mjs_ob s59_36]
  refine ⟨fun q => K (Or.inl q) _ rfl, fun q => mj_blk rfl ?_⟩
  simp +decide only [mjs_0, mjs_1, mjs_2, mjs_3, mjs_ble, true_and, Bool.false_eq_true, if_false, if_true, Nat.reduceAdd, Nat.reduceSub, Nat.reduceLeDiff]
  refine ⟨fun q' => K (Or.inr q') _ rfl, fun q' => mj_blk rfl ?_⟩
  have hno : ¬ (n < 1 ∨ 8 < n) := fun h => h.elim q q'
  have q0 : ¬ n < 0 := fun h => q (Int32.lt_trans h (by decide))
  obtain ⟨k, hk, rfl⟩ := nI_of2 (n := 8) (M := 8) (by decide) q0 (Int32.not_lt.mp q')
  have e0 : (0 : Int32) + nI k = nI k := (nI_add 0 k).trans (by rw [Nat.zero_add])
  simp +decide only [mjs_0, mjs_1, mjs_2, mjs_3, mjs_ble, true_and, Bool.false_eq_true, if_false, if_true, Nat.reduceAdd, Nat.reduceSub, Nat.reduceLeDiff, mjs_ob s59_36, e1, e0]
  refine ⟨fun _ => mj_blk rfl ?_, fun q2 => absurd (show nI k ≤ nI 4000 from nI_le (by omega) (by decide)) q2⟩
  simp +decide only [mjs_0, mjs_1, mjs_2, mjs_3, mjs_ble, true_and, Bool.false_eq_true, if_false, if_true, Nat.reduceAdd, Nat.reduceSub, Nat.reduceLeDiff]
  exact f105 hR hk (hQ2 hno) k 0 _ (Nat.zero_add _) e1
theorem c_113e (h5 : I 36 5 = 0) (h1 : I 36 1 = 0) (hQ : Q (.inl (some (.int 0))) (sh59, I, Lg, Rf, nc, ns)) : mj_call X mj_P (mj_bi X) (d + 1) 113 [.ref 36] (sh59, I, Lg, Rf, nc, ns) Q := by
  refine mj_enter (z := (4, [], mb_113)) (by decide) rfl rfl ?_
  refine mj_blk rfl ?_
  simp +decide only [mjs_0, mjs_1, mjs_2, mjs_3, mjs_ble, true_and, Bool.false_eq_true, if_false, if_true, Nat.reduceAdd, Nat.reduceSub, Nat.reduceLeDiff, mjs_ob s59_36, h5, h1]
  refine ⟨fun q => q.elim, fun _ => mj_blk rfl ?_⟩
  simp +decide only [mjs_0, mjs_1, mjs_2, mjs_3, mjs_ble, true_and, Bool.false_eq_true, if_false, if_true, Nat.reduceAdd, Nat.reduceSub, Nat.reduceLeDiff]
  exact hQ
theorem c_115e (h5 : I 36 5 = 0) (h1 : I 36 1 = 0) (h8 : I 36 8 = 0) (h9 : I 36 9 = 0) (hQ : Q (.inl (some (.int (-1)))) (sh59, I, Lg, Rf, nc, ns)) : mj_call X mj_P (mj_bi X) (d + 2) 115 [.ref 36] (sh59, I, Lg, Rf, nc, ns) Q := by
  refine mj_enter (z := (3, [], mb_115)) (by decide) rfl rfl ?_
  refine mj_blk rfl ?_
  simp +decide only [mjs_0, mjs_1, mjs_2, mjs_3, mjs_ble, true_and, Bool.false_eq_true, if_false, if_true, Nat.reduceAdd, Nat.reduceSub, Nat.reduceLeDiff, mjs_ob s59_36, h8, h9]
  refine ⟨fun q => q.elim, fun _ => mj_blk rfl ?_⟩
  simp +decide only [mjs_0, mjs_1, mjs_2, mjs_3, mjs_ble, true_and, Bool.false_eq_true, if_false, if_true, Nat.reduceAdd, Nat.reduceSub, Nat.reduceLeDiff, mjs_rc s59_36]
  refine c_113e h5 h1 ?_
  simp +decide only [mjs_0, mjs_1, mjs_2, mjs_3, mjs_ble, true_and, Bool.false_eq_true, if_false, if_true, Nat.reduceAdd, Nat.reduceSub, Nat.reduceLeDiff]
  refine ⟨fun q => q.elim, fun _ => mj_blk rfl ?_⟩
  simp +decide only [mjs_0, mjs_1, mjs_2, mjs_3, mjs_ble, true_and, Bool.false_eq_true, if_false, if_true, Nat.reduceAdd, Nat.reduceSub, Nat.reduceLeDiff]
  exact hQ
theorem c_116e (h39 : I 36 39 = 0) (h29 : I 36 29 = 0) (h5 : I 36 5 = 0) (h1 : I 36 1 = 0) (h8 : I 36 8 = 0) (h9 : I 36 9 = 0) (hQ : Q (.inl (some (.int (-1)))) (sh59, I, Lg, Rf, nc, ns)) : mj_call X mj_P (mj_bi X) (d + 3) 116 [.ref 36] (sh59, I, Lg, Rf, nc, ns) Q := by
  refine mj_enter (z := (1, [], mb_116)) (by decide) rfl rfl ?_
  refine mj_blk rfl ?_
  simp +decide only [mjs_0, mjs_1, mjs_2, mjs_3, mjs_ble, true_and, Bool.false_eq_true, if_false, if_true, Nat.reduceAdd, Nat.reduceSub, Nat.reduceLeDiff, mjs_ob s59_36, h39]
  refine ⟨fun _ => mj_blk rfl ?_, fun q => q.elim⟩
  simp +decide only [mjs_0, mjs_1, mjs_2, mjs_3, mjs_ble, true_and, Bool.false_eq_true, if_false, if_true, Nat.reduceAdd, Nat.reduceSub, Nat.reduceLeDiff, mjs_ob s59_36, h29]
  refine ⟨fun _ => mj_blk rfl ?_, fun q => q.elim⟩
  simp +decide only [mjs_0, mjs_1, mjs_2, mjs_3, mjs_ble, true_and, Bool.false_eq_true, if_false, if_true, Nat.reduceAdd, Nat.reduceSub, Nat.reduceLeDiff, mjs_rc s59_36]
  refine c_115e h5 h1 h8 h9 ?_
  simp +decide only [mjs_0, mjs_1, mjs_2, mjs_3, mjs_ble, true_and, Bool.false_eq_true, if_false, if_true, Nat.reduceAdd, Nat.reduceSub, Nat.reduceLeDiff]
  exact hQ
theorem c_127e (hQ : Q (.inl (some (.int 0))) (sh59, I, Lg, Rf, nc, ns)) : mj_call X mj_P (mj_bi X) (d + 1) 127 [.ref 36, .int (-1)] (sh59, I, Lg, Rf, nc, ns) Q := by
  refine mj_enter (z := (3, [], mb_127)) (by decide) rfl rfl ?_
  refine mj_blk rfl ?_
  simp +decide only [mjs_0, mjs_1, mjs_2, mjs_3, mjs_ble, true_and, Bool.false_eq_true, if_false, if_true, Nat.reduceAdd, Nat.reduceSub, Nat.reduceLeDiff]
  refine ⟨fun _ => mj_blk rfl ?_, fun q => q.elim⟩
  simp +decide only [mjs_0, mjs_1, mjs_2, mjs_3, mjs_ble, true_and, Bool.false_eq_true, if_false, if_true, Nat.reduceAdd, Nat.reduceSub, Nat.reduceLeDiff]
  exact hQ
theorem c_129e (h39 : I 36 39 = 0) (h29 : I 36 29 = 0) (h5 : I 36 5 = 0) (h1 : I 36 1 = 0) (h8 : I 36 8 = 0) (h9 : I 36 9 = 0) (hQ : Q (.inl (some (.int (-1)))) (sh59, I, Lg, Rf, nc, ns)) : mj_call X mj_P (mj_bi X) (d + 4) 129 [.ref 36] (sh59, I, Lg, Rf, nc, ns) Q := by
  refine mj_enter (z := (2, [], mb_129)) (by decide) rfl rfl ?_
  refine mj_blk rfl ?_
  simp +decide only [mjs_0, mjs_1, mjs_2, mjs_3, mjs_ble, true_and, Bool.false_eq_true, if_false, if_true, Nat.reduceAdd, Nat.reduceSub, Nat.reduceLeDiff, mjs_rc s59_36]
  refine c_116e h39 h29 h5 h1 h8 h9 ?_
  simp +decide only [mjs_0, mjs_1, mjs_2, mjs_3, mjs_ble, true_and, Bool.false_eq_true, if_false, if_true, Nat.reduceAdd, Nat.reduceSub, Nat.reduceLeDiff]
  refine mj_blk rfl ?_
  simp +decide only [mjs_0, mjs_1, mjs_2, mjs_3, mjs_ble, true_and, Bool.false_eq_true, if_false, if_true, Nat.reduceAdd, Nat.reduceSub, Nat.reduceLeDiff, mjs_rc s59_36]
  refine c_127e ?_
  simp +decide only [mjs_0, mjs_1, mjs_2, mjs_3, mjs_ble, true_and, Bool.false_eq_true, if_false, if_true, Nat.reduceAdd, Nat.reduceSub, Nat.reduceLeDiff]
  refine ⟨fun _ => mj_blk rfl ?_, fun q => q.elim⟩
  simp +decide only [mjs_0, mjs_1, mjs_2, mjs_3, mjs_ble, true_and, Bool.false_eq_true, if_false, if_true, Nat.reduceAdd, Nat.reduceSub, Nat.reduceLeDiff]
  exact hQ
theorem c_178e (hR : mj_Rt mm_R Rf) {t : Int32} (h1 : I 36 1 = 0) (hQ1 : t < 0 ∨ ¬ t ≤ 30000 → ∀ I' : Nat → Nat → Int32, I' 36 0 = 1 → Q (.inl (some (.int 0))) (sh59, I', Lg, Rf, nc, ns)) (hQ2 : ¬ t < 0 → t ≤ 30000 → ∀ I' : Nat → Nat → Int32, I' 36 0 = 0 → Q (.inl (some (.int 0))) (sh59, I', Lg, Rf, nc, ns)) :
    mj_call (mj_X0 L xs) mj_P (mj_bi (mj_X0 L xs)) (d + 5) 178 [.ref 36, .int t] (sh59, I, Lg, Rf, nc, ns) Q := by
  have e : mj_up I 36 0 1 36 0 = 1 := mjs_up_at
  have e' : mj_up I 36 0 0 36 0 = 0 := mjs_up_at
  have K : (t < 0 ∨ ¬ t ≤ 30000) → mj_rn (mj_X0 L xs) (mj_hd []) (mj_call (mj_X0 L xs) mj_P (mj_bi (mj_X0 L xs)) (d + 4)) mb_178 12 [some (.ref 36), some (.int t), none] [.ref 36] (sh59, I, Lg, Rf, nc, ns) Q := by
    intro hi
    refine mj_blk rfl ?_
    simp +decide only [mjs_0, mjs_1, mjs_2, mjs_3, mjs_ble, true_and, Bool.false_eq_true, if_false, if_true, Nat.reduceAdd, Nat.reduceSub, Nat.reduceLeDiff]
    refine mj_blk rfl ?_
    simp +decide only [mjs_0, mjs_1, mjs_2, mjs_3, mjs_ble, true_and, Bool.false_eq_true, if_false, if_true, Nat.reduceAdd, Nat.reduceSub, Nat.reduceLeDiff, mjs_ob s59_36, e]
    refine ⟨fun q => q.elim, fun _ => mj_blk rfl ?_⟩
    simp +decide only [mjs_0, mjs_1, mjs_2, mjs_3, mjs_ble, true_and, Bool.false_eq_true, if_false, if_true, Nat.reduceAdd, Nat.reduceSub, Nat.reduceLeDiff]
    exact hQ1 hi _ e
  refine mj_enter (z := (3, [], mb_178)) (by decide) rfl rfl ?_
  refine mj_blk rfl ?_
  simp +decide only [mjs_0, mjs_1, mjs_2, mjs_3, mjs_ble, true_and, Bool.false_eq_true, if_false, if_true, Nat.reduceAdd, Nat.reduceSub, Nat.reduceLeDiff]
  refine ⟨fun q => K (Or.inl q), fun q => mj_blk rfl ?_⟩
  simp +decide only [mjs_0, mjs_1, mjs_2, mjs_3, mjs_ble, true_and, Bool.false_eq_true, if_false, if_true, Nat.reduceAdd, Nat.reduceSub, Nat.reduceLeDiff]
  refine ⟨fun q' => mj_blk rfl ?_, fun q' => K (Or.inr q')⟩
  simp +decide only [mjs_0, mjs_1, mjs_2, mjs_3, mjs_ble, true_and, Bool.false_eq_true, if_false, if_true, Nat.reduceAdd, Nat.reduceSub, Nat.reduceLeDiff]
  refine mj_blk rfl ?_
  simp +decide only [mjs_0, mjs_1, mjs_2, mjs_3, mjs_ble, true_and, Bool.false_eq_true, if_false, if_true, Nat.reduceAdd, Nat.reduceSub, Nat.reduceLeDiff, mjs_ob s59_36, e']
  refine ⟨fun _ => mj_blk rfl ?_, fun q => q.elim⟩
  simp +decide only [mjs_0, mjs_1, mjs_2, mjs_3, mjs_ble, true_and, Bool.false_eq_true, if_false, if_true, Nat.reduceAdd, Nat.reduceSub, Nat.reduceLeDiff, mjs_rc s59_36]
  refine c_107 mm_C59 hR (fun I1 hI1 => ?_)
  obtain ⟨k1, k2, k3, k4⟩ := hI1
  have z : ∀ q, q ∈ mm_cf → mj_up I1 36 37 t 36 q = 0 := fun q hq => by
    rw [mjs_up_ne (Or.inr (by rintro rfl; revert hq; decide))]
    exact k2 q hq
  have z1 : mj_up I1 36 37 t 36 1 = 0 := by
    rw [mjs_up_ne (Or.inr (by decide)), k3.2.1, mjs_up_ne (Or.inr (by decide))]
    exact h1
  have z0 : mj_up I1 36 37 t 36 0 = 0 := by
    rw [mjs_up_ne (Or.inr (by decide)), k3.1, mjs_up_at]
  simp +decide only [mjs_0, mjs_1, mjs_2, mjs_3, mjs_ble, true_and, Bool.false_eq_true, if_false, if_true, Nat.reduceAdd, Nat.reduceSub, Nat.reduceLeDiff, mjs_ob s59_36]
  refine mj_blk rfl ?_
  simp +decide only [mjs_0, mjs_1, mjs_2, mjs_3, mjs_ble, true_and, Bool.false_eq_true, if_false, if_true, Nat.reduceAdd, Nat.reduceSub, Nat.reduceLeDiff, mjs_ob s59_36, z 39 (by decide)]
  refine ⟨fun q => q.elim, fun _ => mj_blk rfl ?_⟩
  simp +decide only [mjs_0, mjs_1, mjs_2, mjs_3, mjs_ble, true_and, Bool.false_eq_true, if_false, if_true, Nat.reduceAdd, Nat.reduceSub, Nat.reduceLeDiff, mjs_ob s59_36, z 40 (by decide)]
  refine ⟨fun q => q.elim, fun _ => mj_blk rfl ?_⟩
  simp +decide only [mjs_0, mjs_1, mjs_2, mjs_3, mjs_ble, true_and, Bool.false_eq_true, if_false, if_true, Nat.reduceAdd, Nat.reduceSub, Nat.reduceLeDiff, mjs_rc s59_36]
  refine c_129e (z 39 (by decide)) (z 29 (by decide)) (z 5 (by decide)) z1 (z 8 (by decide)) (z 9 (by decide)) ?_
  simp +decide only [mjs_0, mjs_1, mjs_2, mjs_3, mjs_ble, true_and, Bool.false_eq_true, if_false, if_true, Nat.reduceAdd, Nat.reduceSub, Nat.reduceLeDiff]
  refine ⟨fun q => q.elim, fun _ => mj_blk rfl ?_⟩
  simp +decide only [mjs_0, mjs_1, mjs_2, mjs_3, mjs_ble, true_and, Bool.false_eq_true, if_false, if_true, Nat.reduceAdd, Nat.reduceSub, Nat.reduceLeDiff, mjs_ob s59_36]
  refine mj_blk rfl ?_
  simp +decide only [mjs_0, mjs_1, mjs_2, mjs_3, mjs_ble, true_and, Bool.false_eq_true, if_false, if_true, Nat.reduceAdd, Nat.reduceSub, Nat.reduceLeDiff]
  have w : ∀ q, q ≠ 40 → mj_up (mj_up I1 36 37 t) 36 40 1 36 q = mj_up I1 36 37 t 36 q := fun q hq => mjs_up_ne (Or.inr hq)
  have w40 : mj_up (mj_up I1 36 37 t) 36 40 1 36 40 = 1 := mjs_up_at
  refine mj_blk rfl ?_
  simp +decide only [mjs_0, mjs_1, mjs_2, mjs_3, mjs_ble, true_and, Bool.false_eq_true, if_false, if_true, Nat.reduceAdd, Nat.reduceSub, Nat.reduceLeDiff, mjs_ob s59_36, w 39 (by decide), z 39 (by decide)]
  refine ⟨fun q => q.elim, fun _ => mj_blk rfl ?_⟩
  simp +decide only [mjs_0, mjs_1, mjs_2, mjs_3, mjs_ble, true_and, Bool.false_eq_true, if_false, if_true, Nat.reduceAdd, Nat.reduceSub, Nat.reduceLeDiff, mjs_ob s59_36, w40]
  refine ⟨fun _ => mj_blk rfl ?_, fun q => q.elim⟩
  simp +decide only [mjs_0, mjs_1, mjs_2, mjs_3, mjs_ble, true_and, Bool.false_eq_true, if_false, if_true, Nat.reduceAdd, Nat.reduceSub, Nat.reduceLeDiff, mjs_ob s59_36, w 39 (by decide), z 39 (by decide)]
  refine ⟨fun q => q.elim, fun _ => mj_blk rfl ?_⟩
  simp +decide only [mjs_0, mjs_1, mjs_2, mjs_3, mjs_ble, true_and, Bool.false_eq_true, if_false, if_true, Nat.reduceAdd, Nat.reduceSub, Nat.reduceLeDiff, mjs_ob s59_36, w 17 (by decide), z 17 (by decide)]
  refine ⟨fun q => q.elim, fun _ => mj_blk rfl ?_⟩
  simp +decide only [mjs_0, mjs_1, mjs_2, mjs_3, mjs_ble, true_and, Bool.false_eq_true, if_false, if_true, Nat.reduceAdd, Nat.reduceSub, Nat.reduceLeDiff, mjs_ob s59_36, w 33 (by decide), z 33 (by decide)]
  refine ⟨fun _ => mj_blk rfl ?_, fun q => q.elim⟩
  have v39 : mj_up (mj_up (mj_up I1 36 37 t) 36 40 1) 36 1 0 36 39 = 0 := by
    rw [mjs_up_ne (Or.inr (by decide)), w 39 (by decide)]
    exact z 39 (by decide)
  have v0 : mj_up (mj_up (mj_up I1 36 37 t) 36 40 1) 36 1 0 36 0 = 0 := by
    rw [mjs_up_ne (Or.inr (by decide)), w 0 (by decide)]
    exact z0
  simp +decide only [mjs_0, mjs_1, mjs_2, mjs_3, mjs_ble, true_and, Bool.false_eq_true, if_false, if_true, Nat.reduceAdd, Nat.reduceSub, Nat.reduceLeDiff, mjs_ob s59_36, v39]
  refine ⟨fun q => q.elim, fun _ => mj_blk rfl ?_⟩
  simp +decide only [mjs_0, mjs_1, mjs_2, mjs_3, mjs_ble, true_and, Bool.false_eq_true, if_false, if_true, Nat.reduceAdd, Nat.reduceSub, Nat.reduceLeDiff]
  refine mj_blk rfl ?_
  simp +decide only [mjs_0, mjs_1, mjs_2, mjs_3, mjs_ble, true_and, Bool.false_eq_true, if_false, if_true, Nat.reduceAdd, Nat.reduceSub, Nat.reduceLeDiff]
  exact hQ2 q q' _ v0
end MJREF2
