/-! THE REFERENCE's tests of tokens, exact -/
section MJRP
variable {X : mj_X} {d nc ns m lv r : Nat} {Q : mj_Q} {sh : List (Nat × Nat)} {I : Nat → Nat → Int32} {Lg : Nat → Nat → Int64} {Rf : Nat → Nat → Option Nat} {S : mj_S}
theorem r_120 {t : Int32} {a b : Nat} (hQ : Q (.inl (some (.int (if t = nI (256 * a + b) then 1 else 0)))) S) : mj_call X mj_P (mj_bi X) (d + 1) 120 [.int t, .int (nI a), .int (nI b)] S Q := by
  have e : (256 : Int32) * nI a + nI b = nI (256 * a + b) := by
    rw [show (256 : Int32) * nI a = nI (256 * a) from pk_mul 256 a, nI_add]
  refine mj_enter (z := (3, [], mb_120)) (by decide) rfl rfl ?_
  refine mj_blk rfl ?_
  simp +decide only [mjs_0, mjs_1, mjs_2, mjs_3, mjs_ble, true_and, Bool.false_eq_true, if_false, if_true, Nat.reduceAdd, Nat.reduceSub, Nat.reduceLeDiff, e]
  refine ⟨fun q => mj_blk rfl ?_, fun q => mj_blk rfl ?_⟩
  · rw [if_neg q] at hQ
    simp +decide only [mjs_0, mjs_1, mjs_2, mjs_3, mjs_ble, true_and, Bool.false_eq_true, if_false, if_true, Nat.reduceAdd, Nat.reduceSub, Nat.reduceLeDiff]
    refine mj_blk rfl ?_
    simp +decide only [mjs_0, mjs_1, mjs_2, mjs_3, mjs_ble, true_and, Bool.false_eq_true, if_false, if_true, Nat.reduceAdd, Nat.reduceSub, Nat.reduceLeDiff]
    exact hQ
  · rw [if_pos (Decidable.not_not.mp q)] at hQ
    simp +decide only [mjs_0, mjs_1, mjs_2, mjs_3, mjs_ble, true_and, Bool.false_eq_true, if_false, if_true, Nat.reduceAdd, Nat.reduceSub, Nat.reduceLeDiff]
    refine mj_blk rfl ?_
    simp +decide only [mjs_0, mjs_1, mjs_2, mjs_3, mjs_ble, true_and, Bool.false_eq_true, if_false, if_true, Nat.reduceAdd, Nat.reduceSub, Nat.reduceLeDiff]
    exact hQ
theorem r_121 {k : Nat} (hr : r < 2 ^ 31) (hk : k < 256) (hQ : Q (.inl (some (.int (if r / 256 = k then 1 else 0)))) S) : mj_call X mj_P (mj_bi X) (d + 2) 121 [.int (nI r), .int (nI k)] S Q := by
  have e : nI r / 256 = nI (r / 256) := pk_div (d := 256) hr (by decide) (by decide)
  have K0 : (¬ r / 256 = k) → ∀ lv : mj_LV, lv.length = 2 → mj_rn X (mj_hd []) (mj_call X mj_P (mj_bi X) (d + 1)) mb_121 20 lv [] S Q := by
    intro h lv hl
    rw [if_neg h] at hQ
    match lv, hl with
    | [a, b], _ =>
      refine mj_blk rfl ?_
      simp +decide only [mjs_0, mjs_1, mjs_2, mjs_3, mjs_ble, true_and, Bool.false_eq_true, if_false, if_true, Nat.reduceAdd, Nat.reduceSub, Nat.reduceLeDiff]
      refine mj_blk rfl ?_
      simp +decide only [mjs_0, mjs_1, mjs_2, mjs_3, mjs_ble, true_and, Bool.false_eq_true, if_false, if_true, Nat.reduceAdd, Nat.reduceSub, Nat.reduceLeDiff]
      exact hQ
  refine mj_enter (z := (2, [], mb_121)) (by decide) rfl rfl ?_
  refine mj_blk rfl ?_
  simp +decide only [mjs_0, mjs_1, mjs_2, mjs_3, mjs_ble, true_and, Bool.false_eq_true, if_false, if_true, Nat.reduceAdd, Nat.reduceSub, Nat.reduceLeDiff]
  refine r_119 hr ?_
  by_cases h2 : r < 65536
  · simp +decide only [mjs_0, mjs_1, mjs_2, mjs_3, mjs_ble, true_and, Bool.false_eq_true, if_false, if_true, Nat.reduceAdd, Nat.reduceSub, Nat.reduceLeDiff, h2]
    refine ⟨fun q => q.elim, fun _ => mj_blk rfl ?_⟩
    simp +decide only [mjs_0, mjs_1, mjs_2, mjs_3, mjs_ble, true_and, Bool.false_eq_true, if_false, if_true, Nat.reduceAdd, Nat.reduceSub, Nat.reduceLeDiff, e]
    refine ⟨fun q => K0 (fun h => q (by rw [h])) _ rfl, fun q => mj_blk rfl ?_⟩
    have h : r / 256 = k := (nI_eq (by omega) (by omega)).mp (Decidable.not_not.mp q)
    rw [if_pos h] at hQ
    simp +decide only [mjs_0, mjs_1, mjs_2, mjs_3, mjs_ble, true_and, Bool.false_eq_true, if_false, if_true, Nat.reduceAdd, Nat.reduceSub, Nat.reduceLeDiff]
    refine mj_blk rfl ?_
    simp +decide only [mjs_0, mjs_1, mjs_2, mjs_3, mjs_ble, true_and, Bool.false_eq_true, if_false, if_true, Nat.reduceAdd, Nat.reduceSub, Nat.reduceLeDiff]
    exact hQ
  · simp +decide only [mjs_0, mjs_1, mjs_2, mjs_3, mjs_ble, true_and, Bool.false_eq_true, if_false, if_true, Nat.reduceAdd, Nat.reduceSub, Nat.reduceLeDiff, h2]
    exact ⟨fun _ => K0 (by omega) _ rfl, fun q => q.elim⟩
theorem r_126 (hW : mr_W sh Rf m) (hr : r < 2 ^ 31) (hlv : I m 17 = nI lv) (hl : lv ≤ 100) (hid : 65536 ≤ r → r < 524288 → mr_id r < 1400) {k : Nat} (hQ : Q (.inl (some (.int (if mr_me I m lv r = nI (1000 + k) then 1 else 0)))) (sh, I, Lg, Rf, nc, ns)) : mj_call X mj_P (mj_bi X) (d + 4) 126 [.ref m, .int (nI r), .int (nI k)] (sh, I, Lg, Rf, nc, ns) Q := by
  have e : (1000 : Int32) + nI k = nI (1000 + k) := nI_add 1000 k
  refine mj_enter (z := (3, [], mb_126)) (by decide) rfl rfl ?_
  refine mj_blk rfl ?_
  simp +decide only [mjs_0, mjs_1, mjs_2, mjs_3, mjs_ble, true_and, Bool.false_eq_true, if_false, if_true, Nat.reduceAdd, Nat.reduceSub, Nat.reduceLeDiff]
  refine ⟨fun q => absurd (show (-1 : Int32) = nI r from q.symm) (nm_len_ne hr), fun _ => mj_blk rfl ?_⟩
  simp +decide only [mjs_0, mjs_1, mjs_2, mjs_3, mjs_ble, true_and, Bool.false_eq_true, if_false, if_true, Nat.reduceAdd, Nat.reduceSub, Nat.reduceLeDiff, mjs_rc hW.1]
  refine r_125 hW hr hlv hl hid ?_
  simp +decide only [mjs_0, mjs_1, mjs_2, mjs_3, mjs_ble, true_and, Bool.false_eq_true, if_false, if_true, Nat.reduceAdd, Nat.reduceSub, Nat.reduceLeDiff, e]
  refine ⟨fun q => mj_blk rfl ?_, fun q => mj_blk rfl ?_⟩
  · rw [if_neg q] at hQ
    simp +decide only [mjs_0, mjs_1, mjs_2, mjs_3, mjs_ble, true_and, Bool.false_eq_true, if_false, if_true, Nat.reduceAdd, Nat.reduceSub, Nat.reduceLeDiff]
    refine mj_blk rfl ?_
    simp +decide only [mjs_0, mjs_1, mjs_2, mjs_3, mjs_ble, true_and, Bool.false_eq_true, if_false, if_true, Nat.reduceAdd, Nat.reduceSub, Nat.reduceLeDiff]
    exact hQ
  · rw [if_pos (Decidable.not_not.mp q)] at hQ
    simp +decide only [mjs_0, mjs_1, mjs_2, mjs_3, mjs_ble, true_and, Bool.false_eq_true, if_false, if_true, Nat.reduceAdd, Nat.reduceSub, Nat.reduceLeDiff]
    refine mj_blk rfl ?_
    simp +decide only [mjs_0, mjs_1, mjs_2, mjs_3, mjs_ble, true_and, Bool.false_eq_true, if_false, if_true, Nat.reduceAdd, Nat.reduceSub, Nat.reduceLeDiff]
    exact hQ
theorem r_126e {k : Int32} {o : Nat} (hQ : Q (.inl (some (.int 0))) S) : mj_call X mj_P (mj_bi X) (d + 1) 126 [.ref o, .int (-1), .int k] S Q := by
  refine mj_enter (z := (3, [], mb_126)) (by decide) rfl rfl ?_
  refine mj_blk rfl ?_
  simp +decide only [mjs_0, mjs_1, mjs_2, mjs_3, mjs_ble, true_and, Bool.false_eq_true, if_false, if_true, Nat.reduceAdd, Nat.reduceSub, Nat.reduceLeDiff]
  refine ⟨fun _ => mj_blk rfl ?_, fun q => q.elim⟩
  simp +decide only [mjs_0, mjs_1, mjs_2, mjs_3, mjs_ble, true_and, Bool.false_eq_true, if_false, if_true, Nat.reduceAdd, Nat.reduceSub, Nat.reduceLeDiff]
  refine mj_blk rfl ?_
  simp +decide only [mjs_0, mjs_1, mjs_2, mjs_3, mjs_ble, true_and, Bool.false_eq_true, if_false, if_true, Nat.reduceAdd, Nat.reduceSub, Nat.reduceLeDiff]
  exact hQ
/-- an expandable meaning -/
def mr_ex (v : Int32) : Prop := (1000 ≤ v ∧ v ≤ 1017) ∨ (100000 ≤ v ∧ v < 2000000)
theorem r_127 (hW : mr_W sh Rf m) (hr : r < 2 ^ 31) (hlv : I m 17 = nI lv) (hl : lv ≤ 100) (hid : 65536 ≤ r → r < 524288 → mr_id r < 1400)
    (hQ1 : (65536 ≤ r ∧ r < 524288) ∧ mr_ex (mr_me I m lv r) → Q (.inl (some (.int 1))) (sh, I, Lg, Rf, nc, ns)) (hQ0 : ¬ ((65536 ≤ r ∧ r < 524288) ∧ mr_ex (mr_me I m lv r)) → Q (.inl (some (.int 0))) (sh, I, Lg, Rf, nc, ns)) : mj_call X mj_P (mj_bi X) (d + 4) 127 [.ref m, .int (nI r)] (sh, I, Lg, Rf, nc, ns) Q := by
  have K19 : ¬ (65536 ≤ r ∧ r < 524288) → ∀ lv : mj_LV, lv.length = 3 → mj_rn X (mj_hd []) (mj_call X mj_P (mj_bi X) (d + 3)) mb_127 19 lv [] (sh, I, Lg, Rf, nc, ns) Q := by
    intro h lv hl
    match lv, hl with
    | [a, b, c], _ =>
      refine mj_blk rfl ?_
      simp +decide only [mjs_0, mjs_1, mjs_2, mjs_3, mjs_ble, true_and, Bool.false_eq_true, if_false, if_true, Nat.reduceAdd, Nat.reduceSub, Nat.reduceLeDiff]
      exact hQ0 (fun q => h q.1)
  refine mj_enter (z := (3, [], mb_127)) (by decide) rfl rfl ?_
  refine mj_blk rfl ?_
  simp +decide only [mjs_0, mjs_1, mjs_2, mjs_3, mjs_ble, true_and, Bool.false_eq_true, if_false, if_true, Nat.reduceAdd, Nat.reduceSub, Nat.reduceLeDiff]
  refine ⟨fun q => absurd (show (-1 : Int32) = nI r from q.symm) (nm_len_ne hr), fun _ => mj_blk rfl ?_⟩
  simp +decide only [mjs_0, mjs_1, mjs_2, mjs_3, mjs_ble, true_and, Bool.false_eq_true, if_false, if_true, Nat.reduceAdd, Nat.reduceSub, Nat.reduceLeDiff]
  refine r_122 hr ?_
  by_cases h1 : 524288 ≤ r
  · simp +decide only [mjs_0, mjs_1, mjs_2, mjs_3, mjs_ble, true_and, Bool.false_eq_true, if_false, if_true, Nat.reduceAdd, Nat.reduceSub, Nat.reduceLeDiff, h1]
    exact ⟨fun _ => K19 (by omega) _ rfl, fun q => q.elim⟩
  · simp +decide only [mjs_0, mjs_1, mjs_2, mjs_3, mjs_ble, true_and, Bool.false_eq_true, if_false, if_true, Nat.reduceAdd, Nat.reduceSub, Nat.reduceLeDiff, h1]
    refine ⟨fun q => q.elim, fun _ => mj_blk rfl ?_⟩
    simp +decide only [mjs_0, mjs_1, mjs_2, mjs_3, mjs_ble, true_and, Bool.false_eq_true, if_false, if_true, Nat.reduceAdd, Nat.reduceSub, Nat.reduceLeDiff]
    refine r_119 hr ?_
    by_cases h2 : r < 65536
    · simp +decide only [mjs_0, mjs_1, mjs_2, mjs_3, mjs_ble, true_and, Bool.false_eq_true, if_false, if_true, Nat.reduceAdd, Nat.reduceSub, Nat.reduceLeDiff, h2]
      refine ⟨fun q => q.elim, fun _ => K19 (by omega) _ rfl⟩
    · simp +decide only [mjs_0, mjs_1, mjs_2, mjs_3, mjs_ble, true_and, Bool.false_eq_true, if_false, if_true, Nat.reduceAdd, Nat.reduceSub, Nat.reduceLeDiff, h2]
      refine ⟨fun _ => mj_blk rfl ?_, fun q => q.elim⟩
      simp +decide only [mjs_0, mjs_1, mjs_2, mjs_3, mjs_ble, true_and, Bool.false_eq_true, if_false, if_true, Nat.reduceAdd, Nat.reduceSub, Nat.reduceLeDiff, mjs_rc hW.1]
      refine r_125 hW hr hlv hl hid ?_
      have hrr : 65536 ≤ r ∧ r < 524288 := by omega
      generalize mr_me I m lv r = v at hQ1 hQ0
      have K53 : mr_ex v → ∀ lv : mj_LV, lv.length = 3 → mj_rn X (mj_hd []) (mj_call X mj_P (mj_bi X) (d + 3)) mb_127 53 lv [] (sh, I, Lg, Rf, nc, ns) Q := by
        intro h lv hl
        match lv, hl with
        | [a, b, c], _ =>
          refine mj_blk rfl ?_
          simp +decide only [mjs_0, mjs_1, mjs_2, mjs_3, mjs_ble, true_and, Bool.false_eq_true, if_false, if_true, Nat.reduceAdd, Nat.reduceSub, Nat.reduceLeDiff]
          refine mj_blk rfl ?_
          simp +decide only [mjs_0, mjs_1, mjs_2, mjs_3, mjs_ble, true_and, Bool.false_eq_true, if_false, if_true, Nat.reduceAdd, Nat.reduceSub, Nat.reduceLeDiff]
          exact hQ1 ⟨hrr, h⟩
      have K57 : ¬ mr_ex v → ∀ lv : mj_LV, lv.length = 3 → mj_rn X (mj_hd []) (mj_call X mj_P (mj_bi X) (d + 3)) mb_127 57 lv [] (sh, I, Lg, Rf, nc, ns) Q := by
        intro h lv hl
        match lv, hl with
        | [a, b, c], _ =>
          refine mj_blk rfl ?_
          simp +decide only [mjs_0, mjs_1, mjs_2, mjs_3, mjs_ble, true_and, Bool.false_eq_true, if_false, if_true, Nat.reduceAdd, Nat.reduceSub, Nat.reduceLeDiff]
          refine mj_blk rfl ?_
          simp +decide only [mjs_0, mjs_1, mjs_2, mjs_3, mjs_ble, true_and, Bool.false_eq_true, if_false, if_true, Nat.reduceAdd, Nat.reduceSub, Nat.reduceLeDiff]
          exact hQ0 (fun q => h q.2)
      have K41 : ¬ (1000 ≤ v ∧ v ≤ 1017) → ∀ lv : mj_LV, lv.length = 3 → lv.getD 2 none = some (.int v) → mj_rn X (mj_hd []) (mj_call X mj_P (mj_bi X) (d + 3)) mb_127 41 lv [] (sh, I, Lg, Rf, nc, ns) Q := by
        intro h lv hl h3
        match lv, hl, h3 with
        | [a, b, c], _, h3 =>
          obtain rfl : c = some (.int v) := h3
          refine mj_blk rfl ?_
          simp +decide only [mjs_0, mjs_1, mjs_2, mjs_3, mjs_ble, true_and, Bool.false_eq_true, if_false, if_true, Nat.reduceAdd, Nat.reduceSub, Nat.reduceLeDiff]
          refine ⟨fun q => K57 (fun w => w.elim h (fun w => absurd q (Int32.not_lt.mpr w.1))) _ rfl, fun q => mj_blk rfl ?_⟩
          simp +decide only [mjs_0, mjs_1, mjs_2, mjs_3, mjs_ble, true_and, Bool.false_eq_true, if_false, if_true, Nat.reduceAdd, Nat.reduceSub, Nat.reduceLeDiff]
          exact ⟨fun q' => K57 (fun w => w.elim h (fun w => absurd w.2 (Int32.not_lt.mpr q'))) _ rfl, fun q' => K53 (Or.inr ⟨Int32.not_lt.mp q, Int32.not_le.mp q'⟩) _ rfl⟩
      simp +decide only [mjs_0, mjs_1, mjs_2, mjs_3, mjs_ble, true_and, Bool.false_eq_true, if_false, if_true, Nat.reduceAdd, Nat.reduceSub, Nat.reduceLeDiff]
      refine ⟨fun q => K41 (fun w => absurd q (Int32.not_lt.mpr w.1)) _ rfl rfl, fun q => mj_blk rfl ?_⟩
      simp +decide only [mjs_0, mjs_1, mjs_2, mjs_3, mjs_ble, true_and, Bool.false_eq_true, if_false, if_true, Nat.reduceAdd, Nat.reduceSub, Nat.reduceLeDiff]
      exact ⟨fun q' => K53 (Or.inl ⟨Int32.not_lt.mp q, q'⟩) _ rfl, fun q' => K41 (fun w => q' w.2) _ rfl rfl⟩
theorem r_151 (hW : mr_W sh Rf m) (hr : r < 2 ^ 31) (hlv : I m 17 = nI lv) (hl : lv ≤ 100) (hid : 65536 ≤ r → r < 524288 → mr_id r < 1400) (hQ1 : 1007 ≤ mr_me I m lv r ∧ mr_me I m lv r ≤ 1014 → Q (.inl (some (.int 1))) (sh, I, Lg, Rf, nc, ns)) (hQ0 : ¬ (1007 ≤ mr_me I m lv r ∧ mr_me I m lv r ≤ 1014) → Q (.inl (some (.int 0))) (sh, I, Lg, Rf, nc, ns)) : mj_call X mj_P (mj_bi X) (d + 4) 151 [.ref m, .int (nI r)] (sh, I, Lg, Rf, nc, ns) Q := by
  refine mj_enter (z := (3, [], mb_151)) (by decide) rfl rfl ?_
  refine mj_blk rfl ?_
  simp +decide only [mjs_0, mjs_1, mjs_2, mjs_3, mjs_ble, true_and, Bool.false_eq_true, if_false, if_true, Nat.reduceAdd, Nat.reduceSub, Nat.reduceLeDiff, mjs_rc hW.1]
  refine r_125 hW hr hlv hl hid ?_
  generalize mr_me I m lv r = v at hQ1 hQ0
  have K24 : ¬ (1007 ≤ v ∧ v ≤ 1014) → ∀ lv : mj_LV, lv.length = 3 → mj_rn X (mj_hd []) (mj_call X mj_P (mj_bi X) (d + 3)) mb_151 24 lv [] (sh, I, Lg, Rf, nc, ns) Q := by
    intro h lv hl
    match lv, hl with
    | [a, b, c], _ =>
      refine mj_blk rfl ?_
      simp +decide only [mjs_0, mjs_1, mjs_2, mjs_3, mjs_ble, true_and, Bool.false_eq_true, if_false, if_true, Nat.reduceAdd, Nat.reduceSub, Nat.reduceLeDiff]
      refine mj_blk rfl ?_
      simp +decide only [mjs_0, mjs_1, mjs_2, mjs_3, mjs_ble, true_and, Bool.false_eq_true, if_false, if_true, Nat.reduceAdd, Nat.reduceSub, Nat.reduceLeDiff]
      exact hQ0 h
  simp +decide only [mjs_0, mjs_1, mjs_2, mjs_3, mjs_ble, true_and, Bool.false_eq_true, if_false, if_true, Nat.reduceAdd, Nat.reduceSub, Nat.reduceLeDiff]
  refine ⟨fun q => K24 (fun w => absurd q (Int32.not_lt.mpr w.1)) _ rfl, fun q => mj_blk rfl ?_⟩
  simp +decide only [mjs_0, mjs_1, mjs_2, mjs_3, mjs_ble, true_and, Bool.false_eq_true, if_false, if_true, Nat.reduceAdd, Nat.reduceSub, Nat.reduceLeDiff]
  refine ⟨fun q' => K24 (fun w => absurd q' (Int32.not_lt.mpr w.2)) _ rfl, fun q' => mj_blk rfl ?_⟩
  simp +decide only [mjs_0, mjs_1, mjs_2, mjs_3, mjs_ble, true_and, Bool.false_eq_true, if_false, if_true, Nat.reduceAdd, Nat.reduceSub, Nat.reduceLeDiff]
  refine mj_blk rfl ?_
  simp +decide only [mjs_0, mjs_1, mjs_2, mjs_3, mjs_ble, true_and, Bool.false_eq_true, if_false, if_true, Nat.reduceAdd, Nat.reduceSub, Nat.reduceLeDiff]
  exact hQ1 ⟨Int32.not_lt.mp q, Int32.not_lt.mp q'⟩
theorem r_157 {t : Int32} (hQ1 : 3120 ≤ t ∧ t ≤ 3129 → Q (.inl (some (.int 1))) S) (hQ0 : ¬ (3120 ≤ t ∧ t ≤ 3129) → Q (.inl (some (.int 0))) S) : mj_call X mj_P (mj_bi X) (d + 1) 157 [.int t] S Q := by
  have K18 : ¬ (3120 ≤ t ∧ t ≤ 3129) → ∀ lv : mj_LV, lv.length = 1 → mj_rn X (mj_hd []) (mj_call X mj_P (mj_bi X) d) mb_157 18 lv [] S Q := by
    intro h lv hl
    match lv, hl with
    | [a], _ =>
      refine mj_blk rfl ?_
      simp +decide only [mjs_0, mjs_1, mjs_2, mjs_3, mjs_ble, true_and, Bool.false_eq_true, if_false, if_true, Nat.reduceAdd, Nat.reduceSub, Nat.reduceLeDiff]
      refine mj_blk rfl ?_
      simp +decide only [mjs_0, mjs_1, mjs_2, mjs_3, mjs_ble, true_and, Bool.false_eq_true, if_false, if_true, Nat.reduceAdd, Nat.reduceSub, Nat.reduceLeDiff]
      exact hQ0 h
  refine mj_enter (z := (1, [], mb_157)) (by decide) rfl rfl ?_
  refine mj_blk rfl ?_
  simp +decide only [mjs_0, mjs_1, mjs_2, mjs_3, mjs_ble, true_and, Bool.false_eq_true, if_false, if_true, Nat.reduceAdd, Nat.reduceSub, Nat.reduceLeDiff]
  refine ⟨fun q => K18 (fun w => absurd q (Int32.not_lt.mpr w.1)) _ rfl, fun q => mj_blk rfl ?_⟩
  simp +decide only [mjs_0, mjs_1, mjs_2, mjs_3, mjs_ble, true_and, Bool.false_eq_true, if_false, if_true, Nat.reduceAdd, Nat.reduceSub, Nat.reduceLeDiff]
  refine ⟨fun q' => K18 (fun w => absurd q' (Int32.not_lt.mpr w.2)) _ rfl, fun q' => mj_blk rfl ?_⟩
  simp +decide only [mjs_0, mjs_1, mjs_2, mjs_3, mjs_ble, true_and, Bool.false_eq_true, if_false, if_true, Nat.reduceAdd, Nat.reduceSub, Nat.reduceLeDiff]
  refine mj_blk rfl ?_
  simp +decide only [mjs_0, mjs_1, mjs_2, mjs_3, mjs_ble, true_and, Bool.false_eq_true, if_false, if_true, Nat.reduceAdd, Nat.reduceSub, Nat.reduceLeDiff]
  exact hQ1 ⟨Int32.not_lt.mp q, Int32.not_lt.mp q'⟩
end MJRP
