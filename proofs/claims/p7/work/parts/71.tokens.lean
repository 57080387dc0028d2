/-! TOKENS: the class's leaves, of tokens that are numbers below 2^31 -/
section MJTOK
variable {X : mj_X} {d : Nat} {S : mj_S} {Q : mj_Q} {t : Nat}
theorem tk_0 {n : Nat} (hn : n < 2 ^ 31) (q : nI n = 0) : n = 0 := (nI_eq hn (by decide)).mp (show nI n = nI 0 from q)
theorem c_183 (ht : t < 2 ^ 31) (hQ : Q (.inl (some (.int (nI (if t / 1048576 % 2 = 1 then t - 1048576 else t))))) S) : mj_call X mj_P (mj_bi X) (d + 1) 183 [.int (nI t)] S Q := by
  refine mj_enter (z := (1, [], mb_183)) (by decide) rfl rfl ?_
  refine mj_blk rfl ?_
  simp +decide only [mjs_0, mjs_1, mjs_2, mjs_3, mjs_ble, true_and, Bool.false_eq_true, if_false, if_true, Nat.reduceAdd, Nat.reduceSub, Nat.reduceLeDiff, bt_plain ht]
  exact hQ
theorem c_184 (ht : t < 2 ^ 31) (hQ : Q (.inl (some (.int (if t / 1048576 % 2 = 1 then 1 else 0)))) S) : mj_call X mj_P (mj_bi X) (d + 1) 184 [.int (nI t)] S Q := by
  refine mj_enter (z := (1, [], mb_184)) (by decide) rfl rfl ?_
  refine mj_blk rfl ?_
  simp +decide only [mjs_0, mjs_1, mjs_2, mjs_3, mjs_ble, true_and, Bool.false_eq_true, if_false, if_true, Nat.reduceAdd, Nat.reduceSub, Nat.reduceLeDiff, bt_20]
  refine ⟨fun q => mj_blk rfl ?_, fun q => mj_blk rfl ?_⟩
  · have h := tk_0 (by omega) q
    rw [if_neg (by omega)] at hQ
    simp +decide only [mjs_0, mjs_1, mjs_2, mjs_3, mjs_ble, true_and, Bool.false_eq_true, if_false, if_true, Nat.reduceAdd, Nat.reduceSub, Nat.reduceLeDiff]
    refine mj_blk rfl ?_
    simp +decide only [mjs_0, mjs_1, mjs_2, mjs_3, mjs_ble, true_and, Bool.false_eq_true, if_false, if_true, Nat.reduceAdd, Nat.reduceSub, Nat.reduceLeDiff]
    exact hQ
  · have h : t / 1048576 % 2 = 1 := by
      rcases Nat.mod_two_eq_zero_or_one (t / 1048576) with h | h
      · exact absurd (by rw [h]; rfl) q
      · exact h
    rw [if_pos h] at hQ
    simp +decide only [mjs_0, mjs_1, mjs_2, mjs_3, mjs_ble, true_and, Bool.false_eq_true, if_false, if_true, Nat.reduceAdd, Nat.reduceSub, Nat.reduceLeDiff]
    refine mj_blk rfl ?_
    simp +decide only [mjs_0, mjs_1, mjs_2, mjs_3, mjs_ble, true_and, Bool.false_eq_true, if_false, if_true, Nat.reduceAdd, Nat.reduceSub, Nat.reduceLeDiff]
    exact hQ
theorem c_185 (ht : t < 2 ^ 31) (hQ : Q (.inl (some (.int (if t / 2097152 % 2 = 1 then 1 else 0)))) S) : mj_call X mj_P (mj_bi X) (d + 1) 185 [.int (nI t)] S Q := by
  refine mj_enter (z := (1, [], mb_185)) (by decide) rfl rfl ?_
  refine mj_blk rfl ?_
  simp +decide only [mjs_0, mjs_1, mjs_2, mjs_3, mjs_ble, true_and, Bool.false_eq_true, if_false, if_true, Nat.reduceAdd, Nat.reduceSub, Nat.reduceLeDiff, bt_21]
  refine ⟨fun q => mj_blk rfl ?_, fun q => mj_blk rfl ?_⟩
  · have h := tk_0 (by omega) q
    rw [if_neg (by omega)] at hQ
    simp +decide only [mjs_0, mjs_1, mjs_2, mjs_3, mjs_ble, true_and, Bool.false_eq_true, if_false, if_true, Nat.reduceAdd, Nat.reduceSub, Nat.reduceLeDiff]
    refine mj_blk rfl ?_
    simp +decide only [mjs_0, mjs_1, mjs_2, mjs_3, mjs_ble, true_and, Bool.false_eq_true, if_false, if_true, Nat.reduceAdd, Nat.reduceSub, Nat.reduceLeDiff]
    exact hQ
  · have h : t / 2097152 % 2 = 1 := by
      rcases Nat.mod_two_eq_zero_or_one (t / 2097152) with h | h
      · exact absurd (by rw [h]; rfl) q
      · exact h
    rw [if_pos h] at hQ
    simp +decide only [mjs_0, mjs_1, mjs_2, mjs_3, mjs_ble, true_and, Bool.false_eq_true, if_false, if_true, Nat.reduceAdd, Nat.reduceSub, Nat.reduceLeDiff]
    refine mj_blk rfl ?_
    simp +decide only [mjs_0, mjs_1, mjs_2, mjs_3, mjs_ble, true_and, Bool.false_eq_true, if_false, if_true, Nat.reduceAdd, Nat.reduceSub, Nat.reduceLeDiff]
    exact hQ
theorem c_186 (ht : t < 2 ^ 31) (hQ : Q (.inl (some (.int (if t / 65536 % 2 = 1 then 1 else 0)))) S) : mj_call X mj_P (mj_bi X) (d + 1) 186 [.int (nI t)] S Q := by
  refine mj_enter (z := (1, [], mb_186)) (by decide) rfl rfl ?_
  refine mj_blk rfl ?_
  simp +decide only [mjs_0, mjs_1, mjs_2, mjs_3, mjs_ble, true_and, Bool.false_eq_true, if_false, if_true, Nat.reduceAdd, Nat.reduceSub, Nat.reduceLeDiff]
  refine ⟨fun q => absurd q (nI_pos ht), fun _ => mj_blk rfl ?_⟩
  simp +decide only [mjs_0, mjs_1, mjs_2, mjs_3, mjs_ble, true_and, Bool.false_eq_true, if_false, if_true, Nat.reduceAdd, Nat.reduceSub, Nat.reduceLeDiff, bt_16]
  refine ⟨fun q => mj_blk rfl ?_, fun q => mj_blk rfl ?_⟩
  · have h := tk_0 (by omega) q
    rw [if_neg (by omega)] at hQ
    simp +decide only [mjs_0, mjs_1, mjs_2, mjs_3, mjs_ble, true_and, Bool.false_eq_true, if_false, if_true, Nat.reduceAdd, Nat.reduceSub, Nat.reduceLeDiff]
    refine mj_blk rfl ?_
    simp +decide only [mjs_0, mjs_1, mjs_2, mjs_3, mjs_ble, true_and, Bool.false_eq_true, if_false, if_true, Nat.reduceAdd, Nat.reduceSub, Nat.reduceLeDiff]
    exact hQ
  · have h : t / 65536 % 2 = 1 := by
      rcases Nat.mod_two_eq_zero_or_one (t / 65536) with h | h
      · exact absurd (by rw [h]; rfl) q
      · exact h
    rw [if_pos h] at hQ
    simp +decide only [mjs_0, mjs_1, mjs_2, mjs_3, mjs_ble, true_and, Bool.false_eq_true, if_false, if_true, Nat.reduceAdd, Nat.reduceSub, Nat.reduceLeDiff]
    refine mj_blk rfl ?_
    simp +decide only [mjs_0, mjs_1, mjs_2, mjs_3, mjs_ble, true_and, Bool.false_eq_true, if_false, if_true, Nat.reduceAdd, Nat.reduceSub, Nat.reduceLeDiff]
    exact hQ
theorem c_187 (ht : t < 2 ^ 31) (hQ : Q (.inl (some (.int (if (if t / 1048576 % 2 = 1 then t - 1048576 else t) / 256 = 13 then 1 else 0)))) S) : mj_call X mj_P (mj_bi X) (d + 1) 187 [.int (nI t)] S Q := by
  have hb : (if t / 1048576 % 2 = 1 then t - 1048576 else t) < 2 ^ 31 := by split <;> omega
  refine mj_enter (z := (1, [], mb_187)) (by decide) rfl rfl ?_
  refine mj_blk rfl ?_
  simp +decide only [mjs_0, mjs_1, mjs_2, mjs_3, mjs_ble, true_and, Bool.false_eq_true, if_false, if_true, Nat.reduceAdd, Nat.reduceSub, Nat.reduceLeDiff, bt_plain ht, bt_shr8 hb]
  generalize (if t / 1048576 % 2 = 1 then t - 1048576 else t) = u at hQ hb
  refine ⟨fun q => mj_blk rfl ?_, fun q => mj_blk rfl ?_⟩
  · have h : ¬ u / 256 = 13 := fun h => q (by rw [h]; rfl)
    rw [if_neg h] at hQ
    simp +decide only [mjs_0, mjs_1, mjs_2, mjs_3, mjs_ble, true_and, Bool.false_eq_true, if_false, if_true, Nat.reduceAdd, Nat.reduceSub, Nat.reduceLeDiff]
    refine mj_blk rfl ?_
    simp +decide only [mjs_0, mjs_1, mjs_2, mjs_3, mjs_ble, true_and, Bool.false_eq_true, if_false, if_true, Nat.reduceAdd, Nat.reduceSub, Nat.reduceLeDiff]
    exact hQ
  · have h : u / 256 = 13 := (nI_eq (by omega) (by decide)).mp (show nI (u / 256) = nI 13 from Decidable.not_not.mp q)
    rw [if_pos h] at hQ
    simp +decide only [mjs_0, mjs_1, mjs_2, mjs_3, mjs_ble, true_and, Bool.false_eq_true, if_false, if_true, Nat.reduceAdd, Nat.reduceSub, Nat.reduceLeDiff]
    refine mj_blk rfl ?_
    simp +decide only [mjs_0, mjs_1, mjs_2, mjs_3, mjs_ble, true_and, Bool.false_eq_true, if_false, if_true, Nat.reduceAdd, Nat.reduceSub, Nat.reduceLeDiff]
    exact hQ
theorem c_188 (ht : t < 2 ^ 31) (hQ : Q (.inl (some (.int (if t < 3328 then 1 else 0)))) S) : mj_call X mj_P (mj_bi X) (d + 1) 188 [.int (nI t)] S Q := by
  refine mj_enter (z := (1, [], mb_188)) (by decide) rfl rfl ?_
  refine mj_blk rfl ?_
  simp +decide only [mjs_0, mjs_1, mjs_2, mjs_3, mjs_ble, true_and, Bool.false_eq_true, if_false, if_true, Nat.reduceAdd, Nat.reduceSub, Nat.reduceLeDiff]
  refine ⟨fun q => absurd q (nI_pos ht), fun _ => mj_blk rfl ?_⟩
  simp +decide only [mjs_0, mjs_1, mjs_2, mjs_3, mjs_ble, true_and, Bool.false_eq_true, if_false, if_true, Nat.reduceAdd, Nat.reduceSub, Nat.reduceLeDiff]
  refine ⟨fun q => mj_blk rfl ?_, fun q => mj_blk rfl ?_⟩
  · have h := (nI_leI (by decide) ht).mp (show nI 3328 ≤ nI t from q)
    rw [if_neg (by omega)] at hQ
    simp +decide only [mjs_0, mjs_1, mjs_2, mjs_3, mjs_ble, true_and, Bool.false_eq_true, if_false, if_true, Nat.reduceAdd, Nat.reduceSub, Nat.reduceLeDiff]
    refine mj_blk rfl ?_
    simp +decide only [mjs_0, mjs_1, mjs_2, mjs_3, mjs_ble, true_and, Bool.false_eq_true, if_false, if_true, Nat.reduceAdd, Nat.reduceSub, Nat.reduceLeDiff]
    exact hQ
  · have h : t < 3328 := by
      by_cases h : t < 3328
      · exact h
      · exact absurd (show nI 3328 ≤ nI t from nI_le (by omega) ht) q
    rw [if_pos h] at hQ
    simp +decide only [mjs_0, mjs_1, mjs_2, mjs_3, mjs_ble, true_and, Bool.false_eq_true, if_false, if_true, Nat.reduceAdd, Nat.reduceSub, Nat.reduceLeDiff]
    refine mj_blk rfl ?_
    simp +decide only [mjs_0, mjs_1, mjs_2, mjs_3, mjs_ble, true_and, Bool.false_eq_true, if_false, if_true, Nat.reduceAdd, Nat.reduceSub, Nat.reduceLeDiff]
    exact hQ
theorem c_189 (ht : t < 2 ^ 31) (hQ : Q (.inl (some (.int (nI (if t < 3328 then t / 256 else 16))))) S) : mj_call X mj_P (mj_bi X) (d + 1) 189 [.int (nI t)] S Q := by
  refine mj_enter (z := (1, [], mb_189)) (by decide) rfl rfl ?_
  refine mj_blk rfl ?_
  simp +decide only [mjs_0, mjs_1, mjs_2, mjs_3, mjs_ble, true_and, Bool.false_eq_true, if_false, if_true, Nat.reduceAdd, Nat.reduceSub, Nat.reduceLeDiff]
  refine ⟨fun q => absurd q (nI_pos ht), fun _ => mj_blk rfl ?_⟩
  simp +decide only [mjs_0, mjs_1, mjs_2, mjs_3, mjs_ble, true_and, Bool.false_eq_true, if_false, if_true, Nat.reduceAdd, Nat.reduceSub, Nat.reduceLeDiff]
  refine ⟨fun q => mj_blk rfl ?_, fun q => mj_blk rfl ?_⟩
  · have h := (nI_leI (by decide) ht).mp (show nI 3328 ≤ nI t from q)
    rw [if_neg (by omega)] at hQ
    simp +decide only [mjs_0, mjs_1, mjs_2, mjs_3, mjs_ble, true_and, Bool.false_eq_true, if_false, if_true, Nat.reduceAdd, Nat.reduceSub, Nat.reduceLeDiff]
    refine mj_blk rfl ?_
    simp +decide only [mjs_0, mjs_1, mjs_2, mjs_3, mjs_ble, true_and, Bool.false_eq_true, if_false, if_true, Nat.reduceAdd, Nat.reduceSub, Nat.reduceLeDiff]
    exact hQ
  · have h : t < 3328 := by
      by_cases h : t < 3328
      · exact h
      · exact absurd (show nI 3328 ≤ nI t from nI_le (by omega) ht) q
    rw [if_pos h] at hQ
    simp +decide only [mjs_0, mjs_1, mjs_2, mjs_3, mjs_ble, true_and, Bool.false_eq_true, if_false, if_true, Nat.reduceAdd, Nat.reduceSub, Nat.reduceLeDiff, bt_shr8 ht]
    refine mj_blk rfl ?_
    simp +decide only [mjs_0, mjs_1, mjs_2, mjs_3, mjs_ble, true_and, Bool.false_eq_true, if_false, if_true, Nat.reduceAdd, Nat.reduceSub, Nat.reduceLeDiff]
    exact hQ
theorem c_189e (hQ : Q (.inl (some (.int 16))) S) : mj_call X mj_P (mj_bi X) (d + 1) 189 [.int (-1)] S Q := by
  refine mj_enter (z := (1, [], mb_189)) (by decide) rfl rfl ?_
  refine mj_blk rfl ?_
  simp +decide only [mjs_0, mjs_1, mjs_2, mjs_3, mjs_ble, true_and, Bool.false_eq_true, if_false, if_true, Nat.reduceAdd, Nat.reduceSub, Nat.reduceLeDiff]
  refine ⟨fun _ => mj_blk rfl ?_, fun q => q.elim⟩
  simp +decide only [mjs_0, mjs_1, mjs_2, mjs_3, mjs_ble, true_and, Bool.false_eq_true, if_false, if_true, Nat.reduceAdd, Nat.reduceSub, Nat.reduceLeDiff]
  refine mj_blk rfl ?_
  simp +decide only [mjs_0, mjs_1, mjs_2, mjs_3, mjs_ble, true_and, Bool.false_eq_true, if_false, if_true, Nat.reduceAdd, Nat.reduceSub, Nat.reduceLeDiff]
  exact hQ
theorem c_190 (ht : t < 2 ^ 31) (hQ : Q (.inl (some (.int (if t / 256 = 10 then 1 else 0)))) S) : mj_call X mj_P (mj_bi X) (d + 2) 190 [.int (nI t)] S Q := by
  refine mj_enter (z := (1, [], mb_190)) (by decide) rfl rfl ?_
  refine mj_blk rfl ?_
  simp +decide only [mjs_0, mjs_1, mjs_2, mjs_3, mjs_ble, true_and, Bool.false_eq_true, if_false, if_true, Nat.reduceAdd, Nat.reduceSub, Nat.reduceLeDiff]
  refine c_189 ht ?_
  simp +decide only [mjs_0, mjs_1, mjs_2, mjs_3, mjs_ble, true_and, Bool.false_eq_true, if_false, if_true, Nat.reduceAdd, Nat.reduceSub, Nat.reduceLeDiff]
  refine ⟨fun q => mj_blk rfl ?_, fun q => mj_blk rfl ?_⟩
  · have h : ¬ t / 256 = 10 := fun h => q (by rw [if_pos (by omega), h]; rfl)
    rw [if_neg h] at hQ
    simp +decide only [mjs_0, mjs_1, mjs_2, mjs_3, mjs_ble, true_and, Bool.false_eq_true, if_false, if_true, Nat.reduceAdd, Nat.reduceSub, Nat.reduceLeDiff]
    refine mj_blk rfl ?_
    simp +decide only [mjs_0, mjs_1, mjs_2, mjs_3, mjs_ble, true_and, Bool.false_eq_true, if_false, if_true, Nat.reduceAdd, Nat.reduceSub, Nat.reduceLeDiff]
    exact hQ
  · have h : t / 256 = 10 := by
      have h1 := (nI_eq (by split <;> omega) (by decide)).mp (show nI (if t < 3328 then t / 256 else 16) = nI 10 from Decidable.not_not.mp q)
      split at h1
      · exact h1
      · cases h1
    rw [if_pos h] at hQ
    simp +decide only [mjs_0, mjs_1, mjs_2, mjs_3, mjs_ble, true_and, Bool.false_eq_true, if_false, if_true, Nat.reduceAdd, Nat.reduceSub, Nat.reduceLeDiff]
    refine mj_blk rfl ?_
    simp +decide only [mjs_0, mjs_1, mjs_2, mjs_3, mjs_ble, true_and, Bool.false_eq_true, if_false, if_true, Nat.reduceAdd, Nat.reduceSub, Nat.reduceLeDiff]
    exact hQ
theorem c_190e (hQ : Q (.inl (some (.int 0))) S) : mj_call X mj_P (mj_bi X) (d + 2) 190 [.int (-1)] S Q := by
  refine mj_enter (z := (1, [], mb_190)) (by decide) rfl rfl ?_
  refine mj_blk rfl ?_
  simp +decide only [mjs_0, mjs_1, mjs_2, mjs_3, mjs_ble, true_and, Bool.false_eq_true, if_false, if_true, Nat.reduceAdd, Nat.reduceSub, Nat.reduceLeDiff]
  refine c_189e ?_
  simp +decide only [mjs_0, mjs_1, mjs_2, mjs_3, mjs_ble, true_and, Bool.false_eq_true, if_false, if_true, Nat.reduceAdd, Nat.reduceSub, Nat.reduceLeDiff]
  refine ⟨fun _ => mj_blk rfl ?_, fun q => q.elim⟩
  simp +decide only [mjs_0, mjs_1, mjs_2, mjs_3, mjs_ble, true_and, Bool.false_eq_true, if_false, if_true, Nat.reduceAdd, Nat.reduceSub, Nat.reduceLeDiff]
  refine mj_blk rfl ?_
  simp +decide only [mjs_0, mjs_1, mjs_2, mjs_3, mjs_ble, true_and, Bool.false_eq_true, if_false, if_true, Nat.reduceAdd, Nat.reduceSub, Nat.reduceLeDiff]
  exact hQ
theorem c_191e (hQ : Q (.inl (some (.int (-1)))) S) : mj_call X mj_P (mj_bi X) (d + 1) 191 [.int (-1)] S Q := by
  refine mj_enter (z := (2, [], mb_191)) (by decide) rfl rfl ?_
  refine mj_blk rfl ?_
  simp +decide only [mjs_0, mjs_1, mjs_2, mjs_3, mjs_ble, true_and, Bool.false_eq_true, if_false, if_true, Nat.reduceAdd, Nat.reduceSub, Nat.reduceLeDiff]
  refine ⟨fun _ => mj_blk rfl ?_, fun q => q.elim⟩
  simp +decide only [mjs_0, mjs_1, mjs_2, mjs_3, mjs_ble, true_and, Bool.false_eq_true, if_false, if_true, Nat.reduceAdd, Nat.reduceSub, Nat.reduceLeDiff]
  refine mj_blk rfl ?_
  simp +decide only [mjs_0, mjs_1, mjs_2, mjs_3, mjs_ble, true_and, Bool.false_eq_true, if_false, if_true, Nat.reduceAdd, Nat.reduceSub, Nat.reduceLeDiff]
  exact hQ
theorem tk_sub {t c : Nat} (ht : t < 2 ^ 30) (hc : c < 2 ^ 30) : (nI t - nI c).toInt = (t : Int) - c := pk_sub_toInt ht hc
theorem c_191 (ht : t < 2 ^ 30) (hQ : Q (.inl (some (.int (if 3120 ≤ t ∧ t ≤ 3129 then nI (t - 3120) else -1)))) S) : mj_call X mj_P (mj_bi X) (d + 1) 191 [.int (nI t)] S Q := by
  have e : (nI t - 3072 : Int32).toInt = (t : Int) - 3072 := tk_sub ht (c := 3072) (by decide)
  refine mj_enter (z := (2, [], mb_191)) (by decide) rfl rfl ?_
  refine mj_blk rfl ?_
  simp +decide only [mjs_0, mjs_1, mjs_2, mjs_3, mjs_ble, true_and, Bool.false_eq_true, if_false, if_true, Nat.reduceAdd, Nat.reduceSub, Nat.reduceLeDiff]
  have R : (¬ (3120 ≤ t ∧ t ≤ 3129)) → ∀ lv : mj_LV, lv.length = 2 → mj_rn X (mj_hd []) (mj_call X mj_P (mj_bi X) d) mb_191 25 lv [] S Q := by
    intro h lv hl
    rw [if_neg h] at hQ
    match lv, hl with
    | [a, b], _ =>
      refine mj_blk rfl ?_
      simp +decide only [mjs_0, mjs_1, mjs_2, mjs_3, mjs_ble, true_and, Bool.false_eq_true, if_false, if_true, Nat.reduceAdd, Nat.reduceSub, Nat.reduceLeDiff]
      refine mj_blk rfl ?_
      simp +decide only [mjs_0, mjs_1, mjs_2, mjs_3, mjs_ble, true_and, Bool.false_eq_true, if_false, if_true, Nat.reduceAdd, Nat.reduceSub, Nat.reduceLeDiff]
      exact hQ
  refine ⟨fun q => R ?_ _ rfl, fun q => mj_blk rfl ?_⟩
  · rw [Int32.lt_iff_toInt_lt, e] at q
    have : (48 : Int32).toInt = 48 := by decide
    omega
  · simp +decide only [mjs_0, mjs_1, mjs_2, mjs_3, mjs_ble, true_and, Bool.false_eq_true, if_false, if_true, Nat.reduceAdd, Nat.reduceSub, Nat.reduceLeDiff]
    rw [Int32.lt_iff_toInt_lt, e] at q
    have e48 : (48 : Int32).toInt = 48 := by decide
    have e57 : (57 : Int32).toInt = 57 := by decide
    refine ⟨fun q' => R ?_ _ rfl, fun q' => mj_blk rfl ?_⟩
    · rw [Int32.lt_iff_toInt_lt, e] at q'
      omega
    · rw [Int32.lt_iff_toInt_lt, e] at q'
      have h : 3120 ≤ t ∧ t ≤ 3129 := by omega
      have e2 : (nI t - 3072 - 48 : Int32) = nI (t - 3120) := by
        have a1 : nI t - nI 3072 = nI (t - 3072) := pk_sub (by omega)
        have a2 : nI (t - 3072) - nI 48 = nI (t - 3072 - 48) := pk_sub (by omega)
        rw [show (3072 : Int32) = nI 3072 from rfl, show (48 : Int32) = nI 48 from rfl, a1, a2, Nat.sub_sub]
      rw [if_pos h, ← e2] at hQ
      simp +decide only [mjs_0, mjs_1, mjs_2, mjs_3, mjs_ble, true_and, Bool.false_eq_true, if_false, if_true, Nat.reduceAdd, Nat.reduceSub, Nat.reduceLeDiff]
      refine mj_blk rfl ?_
      simp +decide only [mjs_0, mjs_1, mjs_2, mjs_3, mjs_ble, true_and, Bool.false_eq_true, if_false, if_true, Nat.reduceAdd, Nat.reduceSub, Nat.reduceLeDiff]
      exact hQ
theorem c_192 (ht : t < 2 ^ 31) (hQ : Q (.inl (some (.int (nI (if t / 65536 % 2 = 1 then 768 + t % 65536 else 512 + t % 256))))) S) : mj_call X mj_P (mj_bi X) (d + 1) 192 [.int (nI t)] S Q := by
  refine mj_enter (z := (1, [], mb_192)) (by decide) rfl rfl ?_
  refine mj_blk rfl ?_
  simp +decide only [mjs_0, mjs_1, mjs_2, mjs_3, mjs_ble, true_and, Bool.false_eq_true, if_false, if_true, Nat.reduceAdd, Nat.reduceSub, Nat.reduceLeDiff, bt_16]
  refine ⟨fun q => mj_blk rfl ?_, fun q => mj_blk rfl ?_⟩
  · have h := tk_0 (by omega) q
    rw [if_neg (by omega)] at hQ
    have e : (512 : Int32) + nI (t % 256) = nI (512 + t % 256) := nI_add 512 _
    simp +decide only [mjs_0, mjs_1, mjs_2, mjs_3, mjs_ble, true_and, Bool.false_eq_true, if_false, if_true, Nat.reduceAdd, Nat.reduceSub, Nat.reduceLeDiff, bt_255, e]
    refine mj_blk rfl ?_
    simp +decide only [mjs_0, mjs_1, mjs_2, mjs_3, mjs_ble, true_and, Bool.false_eq_true, if_false, if_true, Nat.reduceAdd, Nat.reduceSub, Nat.reduceLeDiff]
    exact hQ
  · have h : t / 65536 % 2 = 1 := by
      rcases Nat.mod_two_eq_zero_or_one (t / 65536) with h | h
      · exact absurd (by rw [h]; rfl) q
      · exact h
    rw [if_pos h] at hQ
    have e : (768 : Int32) + nI (t % 65536) = nI (768 + t % 65536) := nI_add 768 _
    simp +decide only [mjs_0, mjs_1, mjs_2, mjs_3, mjs_ble, true_and, Bool.false_eq_true, if_false, if_true, Nat.reduceAdd, Nat.reduceSub, Nat.reduceLeDiff, bt_65535, e]
    refine mj_blk rfl ?_
    simp +decide only [mjs_0, mjs_1, mjs_2, mjs_3, mjs_ble, true_and, Bool.false_eq_true, if_false, if_true, Nat.reduceAdd, Nat.reduceSub, Nat.reduceLeDiff]
    exact hQ
theorem c_93 (ht : t < 2 ^ 31) (hQ : Q (.inl (some (.int (nI (t / 65536))))) S) : mj_call X mj_P (mj_bi X) (d + 1) 93 [.int (nI t)] S Q := by
  refine mj_enter (z := (1, [], mb_93)) (by decide) rfl rfl ?_
  refine mj_blk rfl ?_
  simp +decide only [mjs_0, mjs_1, mjs_2, mjs_3, mjs_ble, true_and, Bool.false_eq_true, if_false, if_true, Nat.reduceAdd, Nat.reduceSub, Nat.reduceLeDiff, bt_shr16 ht]
  exact hQ
theorem c_94 (hQ : Q (.inl (some (.int (nI (t % 65536))))) S) : mj_call X mj_P (mj_bi X) (d + 1) 94 [.int (nI t)] S Q := by
  refine mj_enter (z := (1, [], mb_94)) (by decide) rfl rfl ?_
  refine mj_blk rfl ?_
  simp +decide only [mjs_0, mjs_1, mjs_2, mjs_3, mjs_ble, true_and, Bool.false_eq_true, if_false, if_true, Nat.reduceAdd, Nat.reduceSub, Nat.reduceLeDiff, bt_65535]
  exact hQ
end MJTOK
