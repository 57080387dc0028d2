/-! THE REFERENCE's leaves: tokens, meanings, categories, what is pending -/
def mr_L : List (Nat × Nat × Nat × Nat) := [(2, 1, 1004, 4000), (4, 2, 1004, 8000), (7, 3, 1000, 4001), (12, 4, 1004, 44000), (13, 5, 1000, 1100), (14, 6, 1000, 41), (16, 7, 1000, 1722), (18, 8, 1003, 102), (19, 9, 1000, 141400), (20, 10, 1000, 25856), (21, 11, 1000, 25856), (23, 12, 1000, 30002), (24, 13, 1000, 30002), (25, 14, 1000, 30002), (26, 15, 1000, 30002), (28, 16, 1000, 10001), (30, 17, 1000, 10600), (31, 18, 1000, 99000), (32, 19, 1000, 9), (34, 20, 1003, 101), (35, 21, 1000, 101)]
/-- the reference's cells: itself at m, its rows behind it -/
def mr_W (sh : List (Nat × Nat)) (Rf : Nat → Nat → Option Nat) (m : Nat) : Prop := sh[m]? = some (10, 41) ∧ ∀ a b k n, (a, b, k, n) ∈ mr_L → Rf m a = some (m + b) ∧ sh[m + b]? = some (k, n)
def mr_id (r : Nat) : Nat := if 131072 ≤ r then 1100 + (r - 131072) else r - 65536
def mr_ba (r : Nat) : Nat := if 524288 ≤ r then r - 524288 else r
def mr_me (I : Nat → Nat → Int32) (m lv r : Nat) : Int32 := if 524288 ≤ r then 1018 else if r < 65536 then nI (2000000 + r) else I (m + 9) (1400 * lv + mr_id r)
section MJRL
variable {X : mj_X} {d nc ns m lv r : Nat} {Q : mj_Q} {sh : List (Nat × Nat)} {I : Nat → Nat → Int32} {Lg : Nat → Nat → Int64} {Rf : Nat → Nat → Option Nat} {S : mj_S}
theorem ri_lt {a b : Nat} (ha : a < 2 ^ 31) (hb : b < 2 ^ 31) {P : Prop} (h1 : a < b → P) (h2 : b ≤ a → P) : P := by
  by_cases h : a < b
  · exact h1 h
  · exact h2 (by omega)
theorem r_119 (hr : r < 2 ^ 31) (hQ : Q (.inl (some (.int (if r < 65536 then 1 else 0)))) S) : mj_call X mj_P (mj_bi X) (d + 1) 119 [.int (nI r)] S Q := by
  refine mj_enter (z := (1, [], mb_119)) (by decide) rfl rfl ?_
  refine mj_blk rfl ?_
  simp +decide only [mjs_0, mjs_1, mjs_2, mjs_3, mjs_ble, true_and, Bool.false_eq_true, if_false, if_true, Nat.reduceAdd, Nat.reduceSub, Nat.reduceLeDiff]
  refine ⟨fun q => absurd q (nI_pos hr), fun _ => mj_blk rfl ?_⟩
  simp +decide only [mjs_0, mjs_1, mjs_2, mjs_3, mjs_ble, true_and, Bool.false_eq_true, if_false, if_true, Nat.reduceAdd, Nat.reduceSub, Nat.reduceLeDiff]
  refine ⟨fun q => mj_blk rfl ?_, fun q => mj_blk rfl ?_⟩
  · have h := (nI_leI (by decide) hr).mp (show nI 65536 ≤ nI r from q)
    rw [if_neg (by omega)] at hQ
    simp +decide only [mjs_0, mjs_1, mjs_2, mjs_3, mjs_ble, true_and, Bool.false_eq_true, if_false, if_true, Nat.reduceAdd, Nat.reduceSub, Nat.reduceLeDiff]
    refine mj_blk rfl ?_
    simp +decide only [mjs_0, mjs_1, mjs_2, mjs_3, mjs_ble, true_and, Bool.false_eq_true, if_false, if_true, Nat.reduceAdd, Nat.reduceSub, Nat.reduceLeDiff]
    exact hQ
  · have h : r < 65536 := by
      by_cases h : r < 65536
      · exact h
      · exact absurd (show nI 65536 ≤ nI r from nI_le (by omega) hr) q
    rw [if_pos h] at hQ
    simp +decide only [mjs_0, mjs_1, mjs_2, mjs_3, mjs_ble, true_and, Bool.false_eq_true, if_false, if_true, Nat.reduceAdd, Nat.reduceSub, Nat.reduceLeDiff]
    refine mj_blk rfl ?_
    simp +decide only [mjs_0, mjs_1, mjs_2, mjs_3, mjs_ble, true_and, Bool.false_eq_true, if_false, if_true, Nat.reduceAdd, Nat.reduceSub, Nat.reduceLeDiff]
    exact hQ
theorem r_122 (hr : r < 2 ^ 31) (hQ : Q (.inl (some (.int (if 524288 ≤ r then 1 else 0)))) S) : mj_call X mj_P (mj_bi X) (d + 1) 122 [.int (nI r)] S Q := by
  refine mj_enter (z := (1, [], mb_122)) (by decide) rfl rfl ?_
  refine mj_blk rfl ?_
  simp +decide only [mjs_0, mjs_1, mjs_2, mjs_3, mjs_ble, true_and, Bool.false_eq_true, if_false, if_true, Nat.reduceAdd, Nat.reduceSub, Nat.reduceLeDiff]
  refine ⟨fun q => mj_blk rfl ?_, fun q => mj_blk rfl ?_⟩
  · have h := (nI_ltI hr (by decide)).mp (show nI r < nI 524288 from q)
    rw [if_neg (by omega)] at hQ
    simp +decide only [mjs_0, mjs_1, mjs_2, mjs_3, mjs_ble, true_and, Bool.false_eq_true, if_false, if_true, Nat.reduceAdd, Nat.reduceSub, Nat.reduceLeDiff]
    refine mj_blk rfl ?_
    simp +decide only [mjs_0, mjs_1, mjs_2, mjs_3, mjs_ble, true_and, Bool.false_eq_true, if_false, if_true, Nat.reduceAdd, Nat.reduceSub, Nat.reduceLeDiff]
    exact hQ
  · have h : 524288 ≤ r := by
      by_cases h : 524288 ≤ r
      · exact h
      · exact absurd (show nI r < nI 524288 from nI_lt (by omega) (by decide)) q
    rw [if_pos h] at hQ
    simp +decide only [mjs_0, mjs_1, mjs_2, mjs_3, mjs_ble, true_and, Bool.false_eq_true, if_false, if_true, Nat.reduceAdd, Nat.reduceSub, Nat.reduceLeDiff]
    refine mj_blk rfl ?_
    simp +decide only [mjs_0, mjs_1, mjs_2, mjs_3, mjs_ble, true_and, Bool.false_eq_true, if_false, if_true, Nat.reduceAdd, Nat.reduceSub, Nat.reduceLeDiff]
    exact hQ
theorem r_123 (hr : r < 2 ^ 31) (hQ : Q (.inl (some (.int (nI (mr_ba r))))) S) : mj_call X mj_P (mj_bi X) (d + 1) 123 [.int (nI r)] S Q := by
  unfold mr_ba at hQ
  refine mj_enter (z := (1, [], mb_123)) (by decide) rfl rfl ?_
  refine mj_blk rfl ?_
  simp +decide only [mjs_0, mjs_1, mjs_2, mjs_3, mjs_ble, true_and, Bool.false_eq_true, if_false, if_true, Nat.reduceAdd, Nat.reduceSub, Nat.reduceLeDiff]
  refine ⟨fun q => mj_blk rfl ?_, fun q => mj_blk rfl ?_⟩
  · have h := (nI_ltI hr (by decide)).mp (show nI r < nI 524288 from q)
    rw [if_neg (by omega)] at hQ
    simp +decide only [mjs_0, mjs_1, mjs_2, mjs_3, mjs_ble, true_and, Bool.false_eq_true, if_false, if_true, Nat.reduceAdd, Nat.reduceSub, Nat.reduceLeDiff]
    refine mj_blk rfl ?_
    simp +decide only [mjs_0, mjs_1, mjs_2, mjs_3, mjs_ble, true_and, Bool.false_eq_true, if_false, if_true, Nat.reduceAdd, Nat.reduceSub, Nat.reduceLeDiff]
    exact hQ
  · have h : 524288 ≤ r := by
      by_cases h : 524288 ≤ r
      · exact h
      · exact absurd (show nI r < nI 524288 from nI_lt (by omega) (by decide)) q
    rw [if_pos h] at hQ
    have e : nI r - 524288 = nI (r - 524288) := pk_sub (b := 524288) h
    simp +decide only [mjs_0, mjs_1, mjs_2, mjs_3, mjs_ble, true_and, Bool.false_eq_true, if_false, if_true, Nat.reduceAdd, Nat.reduceSub, Nat.reduceLeDiff, e]
    refine mj_blk rfl ?_
    simp +decide only [mjs_0, mjs_1, mjs_2, mjs_3, mjs_ble, true_and, Bool.false_eq_true, if_false, if_true, Nat.reduceAdd, Nat.reduceSub, Nat.reduceLeDiff]
    exact hQ
theorem r_124 {o : Nat} (hr : r < 2 ^ 31) (hb : 65536 ≤ mr_ba r) (hQ : Q (.inl (some (.int (nI (mr_id (mr_ba r)))))) S) : mj_call X mj_P (mj_bi X) (d + 2) 124 [.ref o, .int (nI r)] S Q := by
  have hl : mr_ba r < 2 ^ 31 := by unfold mr_ba; split <;> omega
  refine mj_enter (z := (3, [], mb_124)) (by decide) rfl rfl ?_
  refine mj_blk rfl ?_
  simp +decide only [mjs_0, mjs_1, mjs_2, mjs_3, mjs_ble, true_and, Bool.false_eq_true, if_false, if_true, Nat.reduceAdd, Nat.reduceSub, Nat.reduceLeDiff]
  refine r_123 hr ?_
  generalize mr_ba r = b at hb hl hQ
  unfold mr_id at hQ
  simp +decide only [mjs_0, mjs_1, mjs_2, mjs_3, mjs_ble, true_and, Bool.false_eq_true, if_false, if_true, Nat.reduceAdd, Nat.reduceSub, Nat.reduceLeDiff]
  refine ⟨fun q => mj_blk rfl ?_, fun q => mj_blk rfl ?_⟩
  · have h := (nI_ltI hl (by decide)).mp (show nI b < nI 131072 from q)
    rw [if_neg (by omega)] at hQ
    have e : nI b - 65536 = nI (b - 65536) := pk_sub (b := 65536) hb
    simp +decide only [mjs_0, mjs_1, mjs_2, mjs_3, mjs_ble, true_and, Bool.false_eq_true, if_false, if_true, Nat.reduceAdd, Nat.reduceSub, Nat.reduceLeDiff, e]
    refine mj_blk rfl ?_
    simp +decide only [mjs_0, mjs_1, mjs_2, mjs_3, mjs_ble, true_and, Bool.false_eq_true, if_false, if_true, Nat.reduceAdd, Nat.reduceSub, Nat.reduceLeDiff]
    exact hQ
  · have h : 131072 ≤ b := by
      by_cases h : 131072 ≤ b
      · exact h
      · exact absurd (show nI b < nI 131072 from nI_lt (by omega) (by decide)) q
    rw [if_pos h] at hQ
    have e : (1100 : Int32) + nI b - 131072 = nI (1100 + (b - 131072)) := by
      have a1 : (1100 : Int32) + nI b = nI (1100 + b) := nI_add 1100 b
      have a2 : nI (1100 + b) - nI 131072 = nI (1100 + b - 131072) := pk_sub (by omega)
      rw [a1, show (131072 : Int32) = nI 131072 from rfl, a2, show 1100 + b - 131072 = 1100 + (b - 131072) by omega]
    simp +decide only [mjs_0, mjs_1, mjs_2, mjs_3, mjs_ble, true_and, Bool.false_eq_true, if_false, if_true, Nat.reduceAdd, Nat.reduceSub, Nat.reduceLeDiff, e]
    refine mj_blk rfl ?_
    simp +decide only [mjs_0, mjs_1, mjs_2, mjs_3, mjs_ble, true_and, Bool.false_eq_true, if_false, if_true, Nat.reduceAdd, Nat.reduceSub, Nat.reduceLeDiff]
    exact hQ
theorem r_125 (hW : mr_W sh Rf m) (hr : r < 2 ^ 31) (hlv : I m 17 = nI lv) (hl : lv ≤ 100) (hid : 65536 ≤ r → r < 524288 → mr_id r < 1400) (hQ : Q (.inl (some (.int (mr_me I m lv r)))) (sh, I, Lg, Rf, nc, ns)) : mj_call X mj_P (mj_bi X) (d + 3) 125 [.ref m, .int (nI r)] (sh, I, Lg, Rf, nc, ns) Q := by
  obtain ⟨c1, hA⟩ := hW
  obtain ⟨r19, s19⟩ := hA 19 9 1000 141400 (by decide)
  unfold mr_me at hQ
  refine mj_enter (z := (2, [], mb_125)) (by decide) rfl rfl ?_
  refine mj_blk rfl ?_
  simp +decide only [mjs_0, mjs_1, mjs_2, mjs_3, mjs_ble, true_and, Bool.false_eq_true, if_false, if_true, Nat.reduceAdd, Nat.reduceSub, Nat.reduceLeDiff]
  refine r_122 hr ?_
  by_cases h1 : 524288 ≤ r
  · rw [if_pos h1] at hQ
    simp +decide only [mjs_0, mjs_1, mjs_2, mjs_3, mjs_ble, true_and, Bool.false_eq_true, if_false, if_true, Nat.reduceAdd, Nat.reduceSub, Nat.reduceLeDiff, h1]
    refine ⟨fun q => q.elim, fun _ => mj_blk rfl ?_⟩
    simp +decide only [mjs_0, mjs_1, mjs_2, mjs_3, mjs_ble, true_and, Bool.false_eq_true, if_false, if_true, Nat.reduceAdd, Nat.reduceSub, Nat.reduceLeDiff]
    exact hQ
  · rw [if_neg h1] at hQ
    simp +decide only [mjs_0, mjs_1, mjs_2, mjs_3, mjs_ble, true_and, Bool.false_eq_true, if_false, if_true, Nat.reduceAdd, Nat.reduceSub, Nat.reduceLeDiff, h1]
    refine ⟨fun _ => mj_blk rfl ?_, fun q => q.elim⟩
    simp +decide only [mjs_0, mjs_1, mjs_2, mjs_3, mjs_ble, true_and, Bool.false_eq_true, if_false, if_true, Nat.reduceAdd, Nat.reduceSub, Nat.reduceLeDiff]
    refine r_119 hr ?_
    by_cases h2 : r < 65536
    · rw [if_pos h2] at hQ
      have e : (2000000 : Int32) + nI r = nI (2000000 + r) := nI_add 2000000 r
      simp +decide only [mjs_0, mjs_1, mjs_2, mjs_3, mjs_ble, true_and, Bool.false_eq_true, if_false, if_true, Nat.reduceAdd, Nat.reduceSub, Nat.reduceLeDiff, h2]
      refine ⟨fun q => q.elim, fun _ => mj_blk rfl ?_⟩
      simp +decide only [mjs_0, mjs_1, mjs_2, mjs_3, mjs_ble, true_and, Bool.false_eq_true, if_false, if_true, Nat.reduceAdd, Nat.reduceSub, Nat.reduceLeDiff, e]
      refine mj_blk rfl ?_
      simp +decide only [mjs_0, mjs_1, mjs_2, mjs_3, mjs_ble, true_and, Bool.false_eq_true, if_false, if_true, Nat.reduceAdd, Nat.reduceSub, Nat.reduceLeDiff]
      exact hQ
    · rw [if_neg h2] at hQ
      have hb : mr_ba r = r := if_neg h1
      have hi := hid (by omega) (by omega)
      have e : (1400 : Int32) * nI lv = nI (1400 * lv) := pk_mul 1400 lv
      have e2 : (nI (1400 * lv + mr_id r)).toNatClampNeg = 1400 * lv + mr_id r := nI_clamp (by omega)
      simp +decide only [mjs_0, mjs_1, mjs_2, mjs_3, mjs_ble, true_and, Bool.false_eq_true, if_false, if_true, Nat.reduceAdd, Nat.reduceSub, Nat.reduceLeDiff, h2]
      refine ⟨fun _ => mj_blk rfl ?_, fun q => q.elim⟩
      simp +decide only [mjs_0, mjs_1, mjs_2, mjs_3, mjs_ble, true_and, Bool.false_eq_true, if_false, if_true, Nat.reduceAdd, Nat.reduceSub, Nat.reduceLeDiff, mjs_ob c1, r19, hlv, e, mjs_rc c1]
      refine r_124 hr (by rw [hb]; omega) ?_
      rw [hb]
      simp +decide only [mjs_0, mjs_1, mjs_2, mjs_3, mjs_ble, true_and, Bool.false_eq_true, if_false, if_true, Nat.reduceAdd, Nat.reduceSub, Nat.reduceLeDiff, nI_add, mjs_ar (t := 0) s19, e2]
      refine ⟨nI_in (by omega) (by decide), mj_blk rfl ?_⟩
      simp +decide only [mjs_0, mjs_1, mjs_2, mjs_3, mjs_ble, true_and, Bool.false_eq_true, if_false, if_true, Nat.reduceAdd, Nat.reduceSub, Nat.reduceLeDiff]
      exact hQ
theorem r_112 (hW : mr_W sh Rf m) {c : Nat} (hc : c < 256) (hlv : I m 17 = nI lv) (hl : lv ≤ 100) (hQ : Q (.inl (some (.int (I (m + 11) (256 * lv + c))))) (sh, I, Lg, Rf, nc, ns)) : mj_call X mj_P (mj_bi X) (d + 1) 112 [.ref m, .int (nI c)] (sh, I, Lg, Rf, nc, ns) Q := by
  obtain ⟨c1, hA⟩ := hW
  obtain ⟨r21, s21⟩ := hA 21 11 1000 25856 (by decide)
  have e : (256 : Int32) * nI lv = nI (256 * lv) := pk_mul 256 lv
  have e2 : (nI (256 * lv + c)).toNatClampNeg = 256 * lv + c := nI_clamp (by omega)
  refine mj_enter (z := (2, [], mb_112)) (by decide) rfl rfl ?_
  refine mj_blk rfl ?_
  simp +decide only [mjs_0, mjs_1, mjs_2, mjs_3, mjs_ble, true_and, Bool.false_eq_true, if_false, if_true, Nat.reduceAdd, Nat.reduceSub, Nat.reduceLeDiff, mjs_ob c1, r21, hlv, e, nI_add, mjs_ar (t := 0) s21, e2]
  exact ⟨nI_in (by omega) (by decide), hQ⟩
theorem r_118 (hW : mr_W sh Rf m) {p : Nat} (hp : p < 10600) (h39 : I m 39 = 0) (h29 : I m 29 = nI p) (hr : r < 2 ^ 31) (hQ : Q (.inl none) (sh, mj_up (mj_up I (m + 17) p (nI r)) m 29 (nI (p + 1)), Lg, Rf, nc, ns)) : mj_call X mj_P (mj_bi X) (d + 1) 118 [.ref m, .int (nI r)] (sh, I, Lg, Rf, nc, ns) Q := by
  obtain ⟨c1, hA⟩ := hW
  obtain ⟨r30, s30⟩ := hA 30 17 1000 10600 (by decide)
  have e2 : (nI p).toNatClampNeg = p := nI_clamp (by omega)
  have u1 : ∀ (J : Nat → Nat → Int32) (j : Nat) (w : Int32) (q : Nat), mj_up J (m + 17) j w m q = J m q := fun J j w q => mjs_up_c (by omega)
  refine mj_enter (z := (2, [], mb_118)) (by decide) rfl rfl ?_
  refine mj_blk rfl ?_
  simp +decide only [mjs_0, mjs_1, mjs_2, mjs_3, mjs_ble, true_and, Bool.false_eq_true, if_false, if_true, Nat.reduceAdd, Nat.reduceSub, Nat.reduceLeDiff]
  refine ⟨fun q => absurd (show (-1 : Int32) = nI r from q.symm) (nm_len_ne hr), fun _ => mj_blk rfl ?_⟩
  simp +decide only [mjs_0, mjs_1, mjs_2, mjs_3, mjs_ble, true_and, Bool.false_eq_true, if_false, if_true, Nat.reduceAdd, Nat.reduceSub, Nat.reduceLeDiff, mjs_ob c1, h39]
  refine ⟨fun q => q.elim, fun _ => mj_blk rfl ?_⟩
  simp +decide only [mjs_0, mjs_1, mjs_2, mjs_3, mjs_ble, true_and, Bool.false_eq_true, if_false, if_true, Nat.reduceAdd, Nat.reduceSub, Nat.reduceLeDiff, mjs_ob c1, r30, h29, mjs_ar (t := 0) s30, e2, u1, nI_1]
  refine ⟨nI_in (by omega) (by decide), mj_blk rfl ?_⟩
  simp +decide only [mjs_0, mjs_1, mjs_2, mjs_3, mjs_ble, true_and, Bool.false_eq_true, if_false, if_true, Nat.reduceAdd, Nat.reduceSub, Nat.reduceLeDiff]
  exact hQ
theorem r_116p (hW : mr_W sh Rf m) {p : Nat} (hp : p < 10600) (h39 : I m 39 = 0) (h29 : I m 29 = nI (p + 1)) (hQ : Q (.inl (some (.int (I (m + 17) p)))) (sh, mj_up I m 29 (nI p), Lg, Rf, nc, ns)) : mj_call X mj_P (mj_bi X) (d + 1) 116 [.ref m] (sh, I, Lg, Rf, nc, ns) Q := by
  obtain ⟨c1, hA⟩ := hW
  obtain ⟨r30, s30⟩ := hA 30 17 1000 10600 (by decide)
  have e2 : (nI p).toNatClampNeg = p := nI_clamp (by omega)
  have u1 : ∀ (w : Int32) (q : Nat), mj_up I m 29 w (m + 17) q = I (m + 17) q := fun w q => mjs_up_c (by omega)
  refine mj_enter (z := (1, [], mb_116)) (by decide) rfl rfl ?_
  refine mj_blk rfl ?_
  simp +decide only [mjs_0, mjs_1, mjs_2, mjs_3, mjs_ble, true_and, Bool.false_eq_true, if_false, if_true, Nat.reduceAdd, Nat.reduceSub, Nat.reduceLeDiff, mjs_ob c1, h39]
  refine ⟨fun _ => mj_blk rfl ?_, fun q => q.elim⟩
  simp +decide only [mjs_0, mjs_1, mjs_2, mjs_3, mjs_ble, true_and, Bool.false_eq_true, if_false, if_true, Nat.reduceAdd, Nat.reduceSub, Nat.reduceLeDiff, mjs_ob c1, h29]
  refine ⟨fun q => absurd q (nI_nle (by omega) (by omega)), fun _ => mj_blk rfl ?_⟩
  simp +decide only [mjs_0, mjs_1, mjs_2, mjs_3, mjs_ble, true_and, Bool.false_eq_true, if_false, if_true, Nat.reduceAdd, Nat.reduceSub, Nat.reduceLeDiff, mjs_ob c1, h29, nI_pred, r30, mjs_up_at, mjs_ar (t := 0) s30, e2, u1]
  exact ⟨nI_in (by omega) (by decide), hQ⟩
end MJRL
