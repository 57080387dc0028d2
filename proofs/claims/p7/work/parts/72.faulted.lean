/-! THE REFERENCE behind a fault: it gets nothing, puts nothing, reads no number; nothing changes -/
theorem mj_up_id {α : Type} {f : Nat → Nat → α} {a j : Nat} : mj_up f a j (f a j) = f := by
  funext b k
  unfold mj_up
  split
  · split
    · rename_i h1 h2
      rw [h1, h2]
    · rfl
  · rfl
section MJFLT
variable {X : mj_X} {d nc ns m f : Nat} {Q : mj_Q} {sh : List (Nat × Nat)} {I : Nat → Nat → Int32} {Lg : Nat → Nat → Int64} {Rf : Nat → Nat → Option Nat}
/-- fail: the first fault stays -/
theorem c_106 (c1 : sh[m]? = some (10, 41)) {w : Int32} (hQ : Q (.inl none) (sh, mj_up I m 39 (if I m 39 = 0 then w else I m 39), Lg, Rf, nc, ns)) : mj_call X mj_P (mj_bi X) (d + 1) 106 [.ref m, .int w] (sh, I, Lg, Rf, nc, ns) Q := by
  refine mj_enter (z := (2, [], mb_106)) (by decide) rfl rfl ?_
  refine mj_blk rfl ?_
  simp +decide only [mjs_0, mjs_1, mjs_2, mjs_3, mjs_ble, true_and, Bool.false_eq_true, if_false, if_true, Nat.reduceAdd, Nat.reduceSub, Nat.reduceLeDiff, mjs_ob c1]
  refine ⟨fun q => mj_blk rfl ?_, fun q => mj_blk rfl ?_⟩
  · rw [if_neg q] at hQ
    simp +decide only [mjs_0, mjs_1, mjs_2, mjs_3, mjs_ble, true_and, Bool.false_eq_true, if_false, if_true, Nat.reduceAdd, Nat.reduceSub, Nat.reduceLeDiff, mjs_ob c1]
    refine mj_blk rfl ?_
    simp +decide only [mjs_0, mjs_1, mjs_2, mjs_3, mjs_ble, true_and, Bool.false_eq_true, if_false, if_true, Nat.reduceAdd, Nat.reduceSub, Nat.reduceLeDiff, mjs_ob c1]
    exact hQ
  · rw [if_pos (Decidable.not_not.mp q)] at hQ
    simp +decide only [mjs_0, mjs_1, mjs_2, mjs_3, mjs_ble, true_and, Bool.false_eq_true, if_false, if_true, Nat.reduceAdd, Nat.reduceSub, Nat.reduceLeDiff]
    refine mj_blk rfl ?_
    simp +decide only [mjs_0, mjs_1, mjs_2, mjs_3, mjs_ble, true_and, Bool.false_eq_true, if_false, if_true, Nat.reduceAdd, Nat.reduceSub, Nat.reduceLeDiff, mjs_ob c1]
    exact hQ
theorem ft_ne (h0 : 0 < f) (hf : f < 2 ^ 31) (h : I m 39 = nI f) : ¬ I m 39 = 0 := by
  rw [h]
  exact nI_ne0 h0 hf
theorem ft_nle (h0 : 0 < f) (hf : f < 2 ^ 31) (h : I m 39 = nI f) : ¬ I m 39 ≤ 0 := by
  rw [h]
  exact nI_nle h0 hf
theorem f_106 (c1 : sh[m]? = some (10, 41)) (hn : ¬ I m 39 = 0) {w : Int32} (hQ : Q (.inl none) (sh, I, Lg, Rf, nc, ns)) : mj_call X mj_P (mj_bi X) (d + 1) 106 [.ref m, .int w] (sh, I, Lg, Rf, nc, ns) Q := by
  refine c_106 c1 ?_
  rw [if_neg hn, mj_up_id]
  exact hQ
theorem f_116 (c1 : sh[m]? = some (10, 41)) (hn : ¬ I m 39 ≤ 0) (hQ : Q (.inl (some (.int (-1)))) (sh, I, Lg, Rf, nc, ns)) : mj_call X mj_P (mj_bi X) (d + 1) 116 [.ref m] (sh, I, Lg, Rf, nc, ns) Q := by
  refine mj_enter (z := (1, [], mb_116)) (by decide) rfl rfl ?_
  refine mj_blk rfl ?_
  simp +decide only [mjs_0, mjs_1, mjs_2, mjs_3, mjs_ble, true_and, Bool.false_eq_true, if_false, if_true, Nat.reduceAdd, Nat.reduceSub, Nat.reduceLeDiff, mjs_ob c1]
  refine ⟨fun q => absurd q hn, fun _ => mj_blk rfl ?_⟩
  simp +decide only [mjs_0, mjs_1, mjs_2, mjs_3, mjs_ble, true_and, Bool.false_eq_true, if_false, if_true, Nat.reduceAdd, Nat.reduceSub, Nat.reduceLeDiff]
  exact hQ
theorem f_117 (c1 : sh[m]? = some (10, 41)) (hz : ¬ I m 39 = 0) (hn : ¬ I m 39 ≤ 0) (hQ : Q (.inl (some (.int (-1)))) (sh, I, Lg, Rf, nc, ns)) : mj_call X mj_P (mj_bi X) (d + 2) 117 [.ref m] (sh, I, Lg, Rf, nc, ns) Q := by
  refine mj_enter (z := (2, [], mb_117)) (by decide) rfl rfl ?_
  refine mj_blk rfl ?_
  simp +decide only [mjs_0, mjs_1, mjs_2, mjs_3, mjs_ble, true_and, Bool.false_eq_true, if_false, if_true, Nat.reduceAdd, Nat.reduceSub, Nat.reduceLeDiff, mjs_rc c1]
  refine f_116 c1 hn ?_
  simp +decide only [mjs_0, mjs_1, mjs_2, mjs_3, mjs_ble, true_and, Bool.false_eq_true, if_false, if_true, Nat.reduceAdd, Nat.reduceSub, Nat.reduceLeDiff]
  refine ⟨fun q => q.elim, fun _ => mj_blk rfl ?_⟩
  simp +decide only [mjs_0, mjs_1, mjs_2, mjs_3, mjs_ble, true_and, Bool.false_eq_true, if_false, if_true, Nat.reduceAdd, Nat.reduceSub, Nat.reduceLeDiff, mjs_rc c1]
  refine f_106 c1 hz ?_
  simp +decide only [mjs_0, mjs_1, mjs_2, mjs_3, mjs_ble, true_and, Bool.false_eq_true, if_false, if_true, Nat.reduceAdd, Nat.reduceSub, Nat.reduceLeDiff]
  refine mj_blk rfl ?_
  simp +decide only [mjs_0, mjs_1, mjs_2, mjs_3, mjs_ble, true_and, Bool.false_eq_true, if_false, if_true, Nat.reduceAdd, Nat.reduceSub, Nat.reduceLeDiff]
  exact hQ
theorem f_118 (c1 : sh[m]? = some (10, 41)) (hz : ¬ I m 39 = 0) {t : Int32} (hQ : Q (.inl none) (sh, I, Lg, Rf, nc, ns)) : mj_call X mj_P (mj_bi X) (d + 1) 118 [.ref m, .int t] (sh, I, Lg, Rf, nc, ns) Q := by
  have K : ∀ lv : mj_LV, lv.length = 2 → mj_rn X (mj_hd []) (mj_call X mj_P (mj_bi X) d) mb_118 32 lv [] (sh, I, Lg, Rf, nc, ns) Q := by
    intro lv hl
    match lv, hl with
    | [a, b], _ =>
      refine mj_blk rfl ?_
      simp +decide only [mjs_0, mjs_1, mjs_2, mjs_3, mjs_ble, true_and, Bool.false_eq_true, if_false, if_true, Nat.reduceAdd, Nat.reduceSub, Nat.reduceLeDiff]
      exact hQ
  refine mj_enter (z := (2, [], mb_118)) (by decide) rfl rfl ?_
  refine mj_blk rfl ?_
  simp +decide only [mjs_0, mjs_1, mjs_2, mjs_3, mjs_ble, true_and, Bool.false_eq_true, if_false, if_true, Nat.reduceAdd, Nat.reduceSub, Nat.reduceLeDiff]
  refine ⟨fun _ => K _ rfl, fun _ => mj_blk rfl ?_⟩
  simp +decide only [mjs_0, mjs_1, mjs_2, mjs_3, mjs_ble, true_and, Bool.false_eq_true, if_false, if_true, Nat.reduceAdd, Nat.reduceSub, Nat.reduceLeDiff, mjs_ob c1]
  exact ⟨fun _ => K _ rfl, fun q => absurd hz q⟩
theorem r_119e {S : mj_S} (hQ : Q (.inl (some (.int 0))) S) : mj_call X mj_P (mj_bi X) (d + 1) 119 [.int (-1)] S Q := by
  refine mj_enter (z := (1, [], mb_119)) (by decide) rfl rfl ?_
  refine mj_blk rfl ?_
  simp +decide only [mjs_0, mjs_1, mjs_2, mjs_3, mjs_ble, true_and, Bool.false_eq_true, if_false, if_true, Nat.reduceAdd, Nat.reduceSub, Nat.reduceLeDiff]
  refine ⟨fun _ => mj_blk rfl ?_, fun q => q.elim⟩
  simp +decide only [mjs_0, mjs_1, mjs_2, mjs_3, mjs_ble, true_and, Bool.false_eq_true, if_false, if_true, Nat.reduceAdd, Nat.reduceSub, Nat.reduceLeDiff]
  refine mj_blk rfl ?_
  simp +decide only [mjs_0, mjs_1, mjs_2, mjs_3, mjs_ble, true_and, Bool.false_eq_true, if_false, if_true, Nat.reduceAdd, Nat.reduceSub, Nat.reduceLeDiff]
  exact hQ
theorem r_121e {S : mj_S} {k : Int32} (hQ : Q (.inl (some (.int 0))) S) : mj_call X mj_P (mj_bi X) (d + 2) 121 [.int (-1), .int k] S Q := by
  refine mj_enter (z := (2, [], mb_121)) (by decide) rfl rfl ?_
  refine mj_blk rfl ?_
  simp +decide only [mjs_0, mjs_1, mjs_2, mjs_3, mjs_ble, true_and, Bool.false_eq_true, if_false, if_true, Nat.reduceAdd, Nat.reduceSub, Nat.reduceLeDiff]
  refine r_119e ?_
  simp +decide only [mjs_0, mjs_1, mjs_2, mjs_3, mjs_ble, true_and, Bool.false_eq_true, if_false, if_true, Nat.reduceAdd, Nat.reduceSub, Nat.reduceLeDiff]
  refine ⟨fun _ => mj_blk rfl ?_, fun q => q.elim⟩
  simp +decide only [mjs_0, mjs_1, mjs_2, mjs_3, mjs_ble, true_and, Bool.false_eq_true, if_false, if_true, Nat.reduceAdd, Nat.reduceSub, Nat.reduceLeDiff]
  refine mj_blk rfl ?_
  simp +decide only [mjs_0, mjs_1, mjs_2, mjs_3, mjs_ble, true_and, Bool.false_eq_true, if_false, if_true, Nat.reduceAdd, Nat.reduceSub, Nat.reduceLeDiff]
  exact hQ
theorem r_127e {S : mj_S} {o : Nat} (hQ : Q (.inl (some (.int 0))) S) : mj_call X mj_P (mj_bi X) (d + 1) 127 [.ref o, .int (-1)] S Q := by
  refine mj_enter (z := (3, [], mb_127)) (by decide) rfl rfl ?_
  refine mj_blk rfl ?_
  simp +decide only [mjs_0, mjs_1, mjs_2, mjs_3, mjs_ble, true_and, Bool.false_eq_true, if_false, if_true, Nat.reduceAdd, Nat.reduceSub, Nat.reduceLeDiff]
  refine ⟨fun _ => mj_blk rfl ?_, fun q => q.elim⟩
  simp +decide only [mjs_0, mjs_1, mjs_2, mjs_3, mjs_ble, true_and, Bool.false_eq_true, if_false, if_true, Nat.reduceAdd, Nat.reduceSub, Nat.reduceLeDiff]
  exact hQ
theorem f_129 (c1 : sh[m]? = some (10, 41)) (hn : ¬ I m 39 ≤ 0) (hQ : Q (.inl (some (.int (-1)))) (sh, I, Lg, Rf, nc, ns)) : mj_call X mj_P (mj_bi X) (d + 2) 129 [.ref m] (sh, I, Lg, Rf, nc, ns) Q := by
  refine mj_enter (z := (2, [], mb_129)) (by decide) rfl rfl ?_
  refine mj_blk rfl ?_
  simp +decide only [mjs_0, mjs_1, mjs_2, mjs_3, mjs_ble, true_and, Bool.false_eq_true, if_false, if_true, Nat.reduceAdd, Nat.reduceSub, Nat.reduceLeDiff, mjs_rc c1]
  refine f_116 c1 hn ?_
  simp +decide only [mjs_0, mjs_1, mjs_2, mjs_3, mjs_ble, true_and, Bool.false_eq_true, if_false, if_true, Nat.reduceAdd, Nat.reduceSub, Nat.reduceLeDiff]
  refine mj_blk rfl ?_
  simp +decide only [mjs_0, mjs_1, mjs_2, mjs_3, mjs_ble, true_and, Bool.false_eq_true, if_false, if_true, Nat.reduceAdd, Nat.reduceSub, Nat.reduceLeDiff, mjs_rc c1]
  refine r_127e ?_
  simp +decide only [mjs_0, mjs_1, mjs_2, mjs_3, mjs_ble, true_and, Bool.false_eq_true, if_false, if_true, Nat.reduceAdd, Nat.reduceSub, Nat.reduceLeDiff]
  refine ⟨fun _ => mj_blk rfl ?_, fun q => q.elim⟩
  simp +decide only [mjs_0, mjs_1, mjs_2, mjs_3, mjs_ble, true_and, Bool.false_eq_true, if_false, if_true, Nat.reduceAdd, Nat.reduceSub, Nat.reduceLeDiff]
  exact hQ
theorem f_130 (c1 : sh[m]? = some (10, 41)) (hz : ¬ I m 39 = 0) (hn : ¬ I m 39 ≤ 0) (hQ : Q (.inl (some (.int (-1)))) (sh, I, Lg, Rf, nc, ns)) : mj_call X mj_P (mj_bi X) (d + 3) 130 [.ref m] (sh, I, Lg, Rf, nc, ns) Q := by
  refine mj_enter (z := (2, [], mb_130)) (by decide) rfl rfl ?_
  refine mj_blk rfl ?_
  simp +decide only [mjs_0, mjs_1, mjs_2, mjs_3, mjs_ble, true_and, Bool.false_eq_true, if_false, if_true, Nat.reduceAdd, Nat.reduceSub, Nat.reduceLeDiff, mjs_rc c1]
  refine f_129 c1 hn ?_
  simp +decide only [mjs_0, mjs_1, mjs_2, mjs_3, mjs_ble, true_and, Bool.false_eq_true, if_false, if_true, Nat.reduceAdd, Nat.reduceSub, Nat.reduceLeDiff]
  refine ⟨fun q => q.elim, fun _ => mj_blk rfl ?_⟩
  simp +decide only [mjs_0, mjs_1, mjs_2, mjs_3, mjs_ble, true_and, Bool.false_eq_true, if_false, if_true, Nat.reduceAdd, Nat.reduceSub, Nat.reduceLeDiff, mjs_rc c1]
  refine f_106 c1 hz ?_
  simp +decide only [mjs_0, mjs_1, mjs_2, mjs_3, mjs_ble, true_and, Bool.false_eq_true, if_false, if_true, Nat.reduceAdd, Nat.reduceSub, Nat.reduceLeDiff]
  refine mj_blk rfl ?_
  simp +decide only [mjs_0, mjs_1, mjs_2, mjs_3, mjs_ble, true_and, Bool.false_eq_true, if_false, if_true, Nat.reduceAdd, Nat.reduceSub, Nat.reduceLeDiff]
  exact hQ
theorem f_131 (c1 : sh[m]? = some (10, 41)) (hz : ¬ I m 39 = 0) (hn : ¬ I m 39 ≤ 0) (hQ : Q (.inl (some (.int (-1)))) (sh, I, Lg, Rf, nc, ns)) : mj_call X mj_P (mj_bi X) (d + 4) 131 [.ref m] (sh, I, Lg, Rf, nc, ns) Q := by
  refine mj_enter (z := (2, [], mb_131)) (by decide) rfl rfl ?_
  refine mj_blk rfl ?_
  simp +decide only [mjs_0, mjs_1, mjs_2, mjs_3, mjs_ble, true_and, Bool.false_eq_true, if_false, if_true, Nat.reduceAdd, Nat.reduceSub, Nat.reduceLeDiff, mjs_rc c1]
  refine f_130 c1 hz hn ?_
  simp +decide only [mjs_0, mjs_1, mjs_2, mjs_3, mjs_ble, true_and, Bool.false_eq_true, if_false, if_true, Nat.reduceAdd, Nat.reduceSub, Nat.reduceLeDiff]
  refine mj_blk rfl ?_
  simp +decide only [mjs_0, mjs_1, mjs_2, mjs_3, mjs_ble, true_and, Bool.false_eq_true, if_false, if_true, Nat.reduceAdd, Nat.reduceSub, Nat.reduceLeDiff]
  refine r_121e ?_
  simp +decide only [mjs_0, mjs_1, mjs_2, mjs_3, mjs_ble, true_and, Bool.false_eq_true, if_false, if_true, Nat.reduceAdd, Nat.reduceSub, Nat.reduceLeDiff]
  refine ⟨fun _ => mj_blk rfl ?_, fun q => q.elim⟩
  simp +decide only [mjs_0, mjs_1, mjs_2, mjs_3, mjs_ble, true_and, Bool.false_eq_true, if_false, if_true, Nat.reduceAdd, Nat.reduceSub, Nat.reduceLeDiff]
  exact hQ
theorem f_136 (c1 : sh[m]? = some (10, 41)) (hz : ¬ I m 39 = 0) {t : Int32} (hQ : Q (.inl none) (sh, I, Lg, Rf, nc, ns)) : mj_call X mj_P (mj_bi X) (d + 2) 136 [.ref m, .int t] (sh, I, Lg, Rf, nc, ns) Q := by
  have K : ∀ (lv : mj_LV) (v : Int32), lv.length = 2 → mj_rn X (mj_hd []) (mj_call X mj_P (mj_bi X) (d + 1)) mb_136 18 lv [.int v, .ref m] (sh, I, Lg, Rf, nc, ns) Q := by
    intro lv v hl
    match lv, hl with
    | [a, b], _ =>
      refine mj_blk rfl ?_
      simp +decide only [mjs_0, mjs_1, mjs_2, mjs_3, mjs_ble, true_and, Bool.false_eq_true, if_false, if_true, Nat.reduceAdd, Nat.reduceSub, Nat.reduceLeDiff, mjs_rc c1]
      refine f_118 c1 hz ?_
      simp +decide only [mjs_0, mjs_1, mjs_2, mjs_3, mjs_ble, true_and, Bool.false_eq_true, if_false, if_true, Nat.reduceAdd, Nat.reduceSub, Nat.reduceLeDiff]
      exact hQ
  refine mj_enter (z := (2, [], mb_136)) (by decide) rfl rfl ?_
  refine mj_blk rfl ?_
  simp +decide only [mjs_0, mjs_1, mjs_2, mjs_3, mjs_ble, true_and, Bool.false_eq_true, if_false, if_true, Nat.reduceAdd, Nat.reduceSub, Nat.reduceLeDiff]
  refine ⟨fun _ => mj_blk rfl ?_, fun _ => mj_blk rfl ?_⟩
  · simp +decide only [mjs_0, mjs_1, mjs_2, mjs_3, mjs_ble, true_and, Bool.false_eq_true, if_false, if_true, Nat.reduceAdd, Nat.reduceSub, Nat.reduceLeDiff]
    exact K _ _ rfl
  · simp +decide only [mjs_0, mjs_1, mjs_2, mjs_3, mjs_ble, true_and, Bool.false_eq_true, if_false, if_true, Nat.reduceAdd, Nat.reduceSub, Nat.reduceLeDiff]
    exact K _ _ rfl
theorem f_161 (c1 : sh[m]? = some (10, 41)) (hz : ¬ I m 39 = 0) (hn : ¬ I m 39 ≤ 0) (hQ : Q (.inl (some (.int 0))) (sh, I, Lg, Rf, nc, ns)) : mj_call X mj_P (mj_bi X) (d + 2) 161 [.ref m] (sh, I, Lg, Rf, nc, ns) Q := by
  have K : ∀ (lv : mj_LV), lv.length = 2 → lv.getD 0 none = some (.ref m) → mj_rn X (mj_hd []) (mj_call X mj_P (mj_bi X) (d + 1)) mb_161 14 lv [] (sh, I, Lg, Rf, nc, ns) Q := by
    intro lv hl h0
    match lv, hl, h0 with
    | [a, b], _, h0 =>
      obtain rfl : a = some (.ref m) := h0
      refine mj_blk rfl ?_
      simp +decide only [mjs_0, mjs_1, mjs_2, mjs_3, mjs_ble, true_and, Bool.false_eq_true, if_false, if_true, Nat.reduceAdd, Nat.reduceSub, Nat.reduceLeDiff, mjs_ob c1]
      refine ⟨fun q => absurd q hn, fun _ => mj_blk rfl ?_⟩
      simp +decide only [mjs_0, mjs_1, mjs_2, mjs_3, mjs_ble, true_and, Bool.false_eq_true, if_false, if_true, Nat.reduceAdd, Nat.reduceSub, Nat.reduceLeDiff]
      exact hQ
  refine mj_enter (z := (2, [], mb_161)) (by decide) rfl rfl ?_
  refine mj_blk rfl ?_
  simp +decide only [mjs_0, mjs_1, mjs_2, mjs_3, mjs_ble, true_and, Bool.false_eq_true, if_false, if_true, Nat.reduceAdd, Nat.reduceSub, Nat.reduceLeDiff, mjs_ob c1]
  refine ⟨fun _ => K _ rfl rfl, fun _ => mj_blk rfl ?_⟩
  simp +decide only [mjs_0, mjs_1, mjs_2, mjs_3, mjs_ble, true_and, Bool.false_eq_true, if_false, if_true, Nat.reduceAdd, Nat.reduceSub, Nat.reduceLeDiff, mjs_rc c1]
  refine f_106 c1 hz ?_
  simp +decide only [mjs_0, mjs_1, mjs_2, mjs_3, mjs_ble, true_and, Bool.false_eq_true, if_false, if_true, Nat.reduceAdd, Nat.reduceSub, Nat.reduceLeDiff]
  exact K _ rfl rfl
theorem f_155 (c1 : sh[m]? = some (10, 41)) (hz : ¬ I m 39 = 0) (hn : ¬ I m 39 ≤ 0) {k : Int32} (hQ : Q (.inl (some (.int 0))) (sh, I, Lg, Rf, nc, ns)) : mj_call X mj_P (mj_bi X) (d + 3) 155 [.ref m, .int k] (sh, I, Lg, Rf, nc, ns) Q := by
  refine mj_enter (z := (3, [], mb_155)) (by decide) rfl rfl ?_
  refine mj_blk rfl ?_
  simp +decide only [mjs_0, mjs_1, mjs_2, mjs_3, mjs_ble, true_and, Bool.false_eq_true, if_false, if_true, Nat.reduceAdd, Nat.reduceSub, Nat.reduceLeDiff, mjs_rc c1]
  refine f_161 c1 hz hn ?_
  simp +decide only [mjs_0, mjs_1, mjs_2, mjs_3, mjs_ble, true_and, Bool.false_eq_true, if_false, if_true, Nat.reduceAdd, Nat.reduceSub, Nat.reduceLeDiff, mjs_ob c1]
  refine ⟨fun _ => mj_blk rfl ?_, fun q => absurd hz q⟩
  simp +decide only [mjs_0, mjs_1, mjs_2, mjs_3, mjs_ble, true_and, Bool.false_eq_true, if_false, if_true, Nat.reduceAdd, Nat.reduceSub, Nat.reduceLeDiff, mjs_ob c1]
  refine ⟨fun q => absurd q hn, fun _ => mj_blk rfl ?_⟩
  simp +decide only [mjs_0, mjs_1, mjs_2, mjs_3, mjs_ble, true_and, Bool.false_eq_true, if_false, if_true, Nat.reduceAdd, Nat.reduceSub, Nat.reduceLeDiff]
  refine mj_blk rfl ?_
  simp +decide only [mjs_0, mjs_1, mjs_2, mjs_3, mjs_ble, true_and, Bool.false_eq_true, if_false, if_true, Nat.reduceAdd, Nat.reduceSub, Nat.reduceLeDiff]
  exact hQ
theorem f_176 (c1 : sh[m]? = some (10, 41)) (hz : ¬ I m 39 = 0) {t : Int32} (hQ : Q (.inl none) (sh, I, Lg, Rf, nc, ns)) : mj_call X mj_P (mj_bi X) (d + 2) 176 [.ref m, .int t] (sh, I, Lg, Rf, nc, ns) Q := by
  have K : ∀ (lv : mj_LV), lv.length = 2 → mj_rn X (mj_hd []) (mj_call X mj_P (mj_bi X) (d + 1)) mb_176 48 lv [] (sh, I, Lg, Rf, nc, ns) Q := by
    intro lv hl
    match lv, hl with
    | [a, b], _ =>
      refine mj_blk rfl ?_
      simp +decide only [mjs_0, mjs_1, mjs_2, mjs_3, mjs_ble, true_and, Bool.false_eq_true, if_false, if_true, Nat.reduceAdd, Nat.reduceSub, Nat.reduceLeDiff]
      exact hQ
  refine mj_enter (z := (2, [], mb_176)) (by decide) rfl rfl ?_
  refine mj_blk rfl ?_
  simp +decide only [mjs_0, mjs_1, mjs_2, mjs_3, mjs_ble, true_and, Bool.false_eq_true, if_false, if_true, Nat.reduceAdd, Nat.reduceSub, Nat.reduceLeDiff, mjs_ob c1]
  refine ⟨fun _ => mj_blk rfl ?_, fun _ => mj_blk rfl ?_⟩
  · simp +decide only [mjs_0, mjs_1, mjs_2, mjs_3, mjs_ble, true_and, Bool.false_eq_true, if_false, if_true, Nat.reduceAdd, Nat.reduceSub, Nat.reduceLeDiff, mjs_ob c1]
    exact ⟨fun _ => K _ rfl, fun q => absurd hz q⟩
  · simp +decide only [mjs_0, mjs_1, mjs_2, mjs_3, mjs_ble, true_and, Bool.false_eq_true, if_false, if_true, Nat.reduceAdd, Nat.reduceSub, Nat.reduceLeDiff, mjs_rc c1]
    refine f_106 c1 hz ?_
    simp +decide only [mjs_0, mjs_1, mjs_2, mjs_3, mjs_ble, true_and, Bool.false_eq_true, if_false, if_true, Nat.reduceAdd, Nat.reduceSub, Nat.reduceLeDiff]
    exact K _ rfl
end MJFLT
