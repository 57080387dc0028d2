/-! NAMES: made -/
theorem mj_t2l : mj_t2.length = 237 := by decide +kernel
theorem mj_t2c : (40000 + nI 237 : Int32).toNatClampNeg = 40237 := by decide
theorem mj_n1037 : (1037 : Int32).toNatClampNeg = 1037 := by decide
theorem mj_n256 : (256 : Int32).toNatClampNeg = 256 := by decide
theorem mj_n1036 : (1036 : Int32).toNatClampNeg = 1036 := by decide
theorem mj_n40 : (40 : Int32).toNatClampNeg = 40 := by decide
def sh7 : List (Nat × Nat) := [(0, 8), (7, 4), (5, 6), (1002, 40237), (1000, 1037), (1000, 256), (1000, 1036)]
def sh8 : List (Nat × Nat) := [(0, 8), (7, 4), (5, 6), (1002, 40237), (1000, 1037), (1000, 256), (1000, 1036), (1000, 40)]
def sh9 : List (Nat × Nat) := [(0, 8), (7, 4), (5, 6), (1002, 40237), (1000, 1037), (1000, 256), (1000, 1036), (1000, 40), (1000, 256)]
theorem mjs_row_c {α : Type} {f : Nat → Nat → α} {a b k : Nat} {g : Nat → α} (h : b ≠ a) : mj_row f a g b k = f b k := if_neg h
theorem nm_I.to {I I' : Nat → Nat → Int32} {o s f n k M : Nat} (h : nm_I I o s f n k M) (h1 : ∀ b q, b = o ∨ b = s ∨ b = f ∨ b = n → I' b q = I b q) : nm_I I' o s f n k M := by
  obtain ⟨i1, i2, i3, i4, i5, i6⟩ := h
  exact ⟨(h1 o 5 (Or.inl rfl)).trans i1, i2, i3, fun j hj => by rw [h1 f j (Or.inr (Or.inr (Or.inl rfl)))]; exact i4 j hj, fun j hj => by rw [h1 n j (Or.inr (Or.inr (Or.inr rfl)))]; exact i5 j hj, fun j hj => by rw [h1 s j (Or.inr (Or.inl rfl))]; exact i6 j hj⟩
section MJN0
variable {L d nc ns : Nat} {xs : Nat → Int32} {Q : mj_Q} {I : Nat → Nat → Int32} {Lg : Nat → Nat → Int64} {Rf : Nat → Nat → Option Nat}
theorem f54_A (hr : Rf 2 2 = some 5) (hk : ∀ I' : Nat → Nat → Int32, (∀ q, q < 256 → I' 5 q = -1) → (∀ b q, b ≠ 5 → I' b q = I b q) → mj_rn (mj_X0 L xs) (mj_hd []) (mj_call (mj_X0 L xs) mj_P (mj_bi (mj_X0 L xs)) d) mb_54 67 [some (.ref 2), some (.int (nI 256)), none, none, none] [] (sh7, I', Lg, Rf, nc, ns) Q) :
    ∀ (m j : Nat) (I' : Nat → Nat → Int32), j + m = 256 → (∀ q, q < j → I' 5 q = -1) → (∀ b q, b ≠ 5 → I' b q = I b q) → mj_rn (mj_X0 L xs) (mj_hd []) (mj_call (mj_X0 L xs) mj_P (mj_bi (mj_X0 L xs)) d) mb_54 47 [some (.ref 2), some (.int (nI j)), none, none, none] [] (sh7, I', Lg, Rf, nc, ns) Q := by
  intro m
  induction m with
  | zero =>
    intro j I' hj h1 h2
    obtain rfl : j = 256 := by omega
    refine mj_blk rfl ?_
    simp +decide only [mjs_0, mjs_1, mjs_2, mjs_3, mjs_ble, true_and, Bool.false_eq_true, if_false, if_true, Nat.reduceAdd, Nat.reduceSub, Nat.reduceLeDiff]
    exact ⟨fun _ => hk I' h1 h2, fun q => q.elim⟩
  | succ m ih =>
    intro j I' hj h1 h2
    refine mj_blk rfl ?_
    simp +decide only [mjs_0, mjs_1, mjs_2, mjs_3, mjs_ble, true_and, Bool.false_eq_true, if_false, if_true, Nat.reduceAdd, Nat.reduceSub, Nat.reduceLeDiff]
    refine ⟨fun q => absurd q (nI_ge (a := j) (b := 256) (by omega) (by decide)), fun _ => mj_blk rfl ?_⟩
    have e0 : (nI j).toNatClampNeg = j := nI_clamp (by omega)
    simp +decide only [mjs_0, mjs_1, mjs_2, mjs_3, mjs_ble, true_and, Bool.false_eq_true, if_false, if_true, Nat.reduceAdd, Nat.reduceSub, Nat.reduceLeDiff, mjs_lit, mjs_ttb, Nat.reduceEqDiff, sh7, hr, e0, nI_1]
    refine ⟨nI_in (by omega) (by decide), ih (j + 1) _ (by omega) (fun q hq => ?_) (fun b q hb => ?_)⟩
    · by_cases hqj : q = j
      · rw [hqj, mjs_up_at]
      · rw [mjs_up_ne (Or.inr hqj)]
        exact h1 q (by omega)
    · rw [mjs_up_c hb]
      exact h2 b q hb
theorem nm_C8 (r0 : Rf 2 0 = some 3) (r1 : Rf 2 1 = some 4) (r2 : Rf 2 2 = some 5) (r4 : Rf 2 4 = some 6) : nm_C sh8 Rf 2 3 4 5 6 := ⟨rfl, rfl, rfl, rfl, rfl, r0, r1, r2, r4⟩
theorem f54_B (r0 : Rf 2 0 = some 3) (r1 : Rf 2 1 = some 4) (r2 : Rf 2 2 = some 5) (r4 : Rf 2 4 = some 6)
    (hk : ∀ (I' : Nat → Nat → Int32) (k : Nat) (x : Int32), nm_I I' 2 4 5 6 k 237 → (∀ b q, b < 2 → I' b q = I b q) → mj_rn (mj_X0 L xs) (mj_hd []) (mj_call (mj_X0 L xs) mj_P (mj_bi (mj_X0 L xs)) (d + 1)) mb_54 133 [some (.ref 2), some (.ref 7), some (.int x), some (.int (nI 237)), none] [] (sh8, I', Lg, Rf, nc, ns) Q) :
    ∀ (m i len k : Nat) (I' : Nat → Nat → Int32) (w : Option Value), i + m = 237 → len ≤ 40 → k ≤ i → nm_I I' 2 4 5 6 k 237 → (∀ b q, b < 2 → I' b q = I b q) → mj_rn (mj_X0 L xs) (mj_hd []) (mj_call (mj_X0 L xs) mj_P (mj_bi (mj_X0 L xs)) (d + 1)) mb_54 76 [some (.ref 2), some (.ref 7), some (.int (nI len)), some (.int (nI i)), w] [] (sh8, I', Lg, Rf, nc, ns) Q := by
  intro m
  induction m with
  | zero =>
    intro i len k I' w hi hlen hki hI h2
    obtain rfl : i = 237 := by omega
    refine mj_blk rfl ?_
    simp +decide only [mjs_0, mjs_1, mjs_2, mjs_3, mjs_ble, true_and, Bool.false_eq_true, if_false, if_true, Nat.reduceAdd, Nat.reduceSub, Nat.reduceLeDiff]
    refine c_904 (tx := mj_t2) (by decide) rfl ?_
    simp +decide only [mjs_0, mjs_1, mjs_2, mjs_3, mjs_ble, true_and, Bool.false_eq_true, if_false, if_true, Nat.reduceAdd, Nat.reduceSub, Nat.reduceLeDiff, mj_t2l]
    exact ⟨fun _ => hk I' k _ hI h2, fun q => q.elim⟩
  | succ m ih =>
    intro i len k I' w hi hlen hki hI h2
    refine mj_blk rfl ?_
    simp +decide only [mjs_0, mjs_1, mjs_2, mjs_3, mjs_ble, true_and, Bool.false_eq_true, if_false, if_true, Nat.reduceAdd, Nat.reduceSub, Nat.reduceLeDiff]
    refine c_904 (tx := mj_t2) (by decide) rfl ?_
    simp +decide only [mjs_0, mjs_1, mjs_2, mjs_3, mjs_ble, true_and, Bool.false_eq_true, if_false, if_true, Nat.reduceAdd, Nat.reduceSub, Nat.reduceLeDiff, mj_t2l]
    refine ⟨fun q => absurd q (nI_ge (by omega) (by decide)), fun _ => mj_blk rfl ?_⟩
    simp +decide only [mjs_0, mjs_1, mjs_2, mjs_3, mjs_ble, true_and, Bool.false_eq_true, if_false, if_true, Nat.reduceAdd, Nat.reduceSub, Nat.reduceLeDiff]
    refine c_905 (tx := mj_t2) (by decide) rfl (nI_in (by rw [mj_t2l]; omega) (by rw [mj_t2l]; decide)) ?_
    simp +decide only [mjs_0, mjs_1, mjs_2, mjs_3, mjs_ble, true_and, Bool.false_eq_true, if_false, if_true, Nat.reduceAdd, Nat.reduceSub, Nat.reduceLeDiff]
    have K127 : ∀ (len' k' : Nat) (I2 : Nat → Nat → Int32) (w : Option Value), len' ≤ 40 → k' ≤ i + 1 → nm_I I2 2 4 5 6 k' 237 → (∀ b q, b < 2 → I2 b q = I b q) → mj_rn (mj_X0 L xs) (mj_hd []) (mj_call (mj_X0 L xs) mj_P (mj_bi (mj_X0 L xs)) (d + 1)) mb_54 127 [some (.ref 2), some (.ref 7), some (.int (nI len')), some (.int (nI i)), w] [] (sh8, I2, Lg, Rf, nc, ns) Q := by
      intro len' k' I2 w hl' hk' hI2 h22
      refine mj_blk rfl ?_
      simp +decide only [mjs_0, mjs_1, mjs_2, mjs_3, mjs_ble, true_and, Bool.false_eq_true, if_false, if_true, Nat.reduceAdd, Nat.reduceSub, Nat.reduceLeDiff, nI_1]
      exact ih (i + 1) len' k' I2 _ (by omega) hl' hk' hI2 h22
    refine ⟨fun _ => mj_blk rfl ?_, fun _ => mj_blk rfl ?_⟩
    · simp +decide only [mjs_0, mjs_1, mjs_2, mjs_3, mjs_ble, true_and, Bool.false_eq_true, if_false, if_true, Nat.reduceAdd, Nat.reduceSub, Nat.reduceLeDiff]
      refine ⟨fun _ => K127 len k I' _ hlen (by omega) hI h2, fun q => mj_blk rfl ?_⟩
      have hl40 : len < 40 := by
        by_cases h : len < 40
        · exact h
        · exact absurd (show nI 40 ≤ nI len from nI_le (by omega) (by omega)) q
      have e0 : (nI len).toNatClampNeg = len := nI_clamp (by omega)
      simp +decide only [mjs_0, mjs_1, mjs_2, mjs_3, mjs_ble, true_and, Bool.false_eq_true, if_false, if_true, Nat.reduceAdd, Nat.reduceSub, Nat.reduceLeDiff, mjs_lit, mjs_ttb, Nat.reduceEqDiff, sh8, nI_1, e0]
      refine ⟨nI_in (by omega) (by decide), K127 (len + 1) k _ _ (by omega) (by omega) ?_ (fun b q hb => ?_)⟩
      · obtain ⟨i1, i2, i3, i4, i5, i6⟩ := hI
        refine ⟨by rw [mjs_up_c (by decide)]; exact i1, i2, i3, fun j hj => by rw [mjs_up_c (by decide)]; exact i4 j hj, fun j hj => by rw [mjs_up_c (by decide)]; exact i5 j hj, fun j hj => by rw [mjs_up_c (by decide)]; exact i6 j hj⟩
      · rw [mjs_up_c (by omega)]
        exact h2 b q hb
    · simp +decide only [mjs_0, mjs_1, mjs_2, mjs_3, mjs_ble, true_and, Bool.false_eq_true, if_false, if_true, Nat.reduceAdd, Nat.reduceSub, Nat.reduceLeDiff, mjs_lit, mjs_ttb, Nat.reduceEqDiff, sh8]
      refine c_57 (l := 3) (s := 4) (f := 5) (n := 6) (a := 0) (M := 237) (k := k) (rn := 40) (nm_C8 r0 r1 r2 r4) rfl (by decide) (by omega) hlen hI (Or.inl (by omega)) (fun I2 k2 v hI2 hk2 hk3 hv hf1 hf2 => ?_)
      simp +decide only [mjs_0, mjs_1, mjs_2, mjs_3, mjs_ble, true_and, Bool.false_eq_true, if_false, if_true, Nat.reduceAdd, Nat.reduceSub, Nat.reduceLeDiff]
      refine K127 0 k2 I2 _ (by omega) (by omega) hI2 (fun b q hb => ?_)
      rw [hf1 b q (by omega) (by omega) (by omega) (by omega) (by omega)]
      exact h2 b q hb
theorem c_54 (h5 : I 2 5 = 0) (hQ : ∀ (I' : Nat → Nat → Int32) (Lg' : Nat → Nat → Int64) (Rf' : Nat → Nat → Option Nat) (k : Nat), nm_I I' 2 4 5 6 k 237 → (∀ b q, b < 2 → I' b q = I b q) → (∀ b q, b < 2 → Rf' b q = Rf b q) → Rf' 2 0 = some 3 → Rf' 2 1 = some 4 → Rf' 2 2 = some 5 → Rf' 2 3 = some 8 → Rf' 2 4 = some 6 → Q (.inl none) (sh9, I', Lg', Rf', 9, 42880)) :
    mj_call (mj_X0 L xs) mj_P (mj_bi (mj_X0 L xs)) (d + 2) 54 [.ref 2] ([(0, 8), (7, 4), (5, 6)], I, Lg, Rf, 3, 18) Q := by
  refine mj_enter (z := (5, [], mb_54)) (by decide) rfl rfl ?_
  refine mj_blk rfl ?_
  simp +decide only [mjs_0, mjs_1, mjs_2, mjs_3, mjs_ble, true_and, Bool.false_eq_true, if_false, if_true, Nat.reduceAdd, Nat.reduceSub, Nat.reduceLeDiff, mjs_lit, mjs_ttb, Nat.reduceEqDiff]
  refine c_904 (tx := mj_t2) (by decide) rfl ?_
  simp +decide only [mjs_0, mjs_1, mjs_2, mjs_3, mjs_ble, true_and, Bool.false_eq_true, if_false, if_true, Nat.reduceAdd, Nat.reduceSub, Nat.reduceLeDiff, mjs_lit, mjs_ttb, Nat.reduceEqDiff, mj_t2l, mj_t2c, mj_n1037, mj_n256, mj_n1036]
  refine f54_A (by simp +decide only [mjs_0, mjs_1, mjs_2, mjs_3, mjs_ble, true_and, Bool.false_eq_true, if_false, if_true, Nat.reduceAdd, Nat.reduceSub, Nat.reduceLeDiff, mjs_lit, mjs_ttb, Nat.reduceEqDiff]) (fun I1 h1 h2 => ?_) 256 0 _ rfl (fun q hq => absurd hq (Nat.not_lt_zero q)) (fun _ _ _ => rfl)
  refine mj_blk rfl ?_
  simp +decide only [mjs_0, mjs_1, mjs_2, mjs_3, mjs_ble, true_and, Bool.false_eq_true, if_false, if_true, Nat.reduceAdd, Nat.reduceSub, Nat.reduceLeDiff, mjs_lit, mjs_ttb, Nat.reduceEqDiff, sh7, mj_n40]
  refine f54_B (I := I) (by simp +decide only [mjs_0, mjs_1, mjs_2, mjs_3, mjs_ble, true_and, Bool.false_eq_true, if_false, if_true, Nat.reduceAdd, Nat.reduceSub, Nat.reduceLeDiff, mjs_lit, mjs_ttb, Nat.reduceEqDiff]) (by simp +decide only [mjs_0, mjs_1, mjs_2, mjs_3, mjs_ble, true_and, Bool.false_eq_true, if_false, if_true, Nat.reduceAdd, Nat.reduceSub, Nat.reduceLeDiff, mjs_lit, mjs_ttb, Nat.reduceEqDiff]) (by simp +decide only [mjs_0, mjs_1, mjs_2, mjs_3, mjs_ble, true_and, Bool.false_eq_true, if_false, if_true, Nat.reduceAdd, Nat.reduceSub, Nat.reduceLeDiff, mjs_lit, mjs_ttb, Nat.reduceEqDiff]) (by simp +decide only [mjs_0, mjs_1, mjs_2, mjs_3, mjs_ble, true_and, Bool.false_eq_true, if_false, if_true, Nat.reduceAdd, Nat.reduceSub, Nat.reduceLeDiff, mjs_lit, mjs_ttb, Nat.reduceEqDiff]) (fun I2 k x hI2 h22 => ?_) 237 0 0 0 _ _ rfl (by decide) (Nat.le_refl _) ?_ ?_
  · refine mj_blk rfl ?_
    simp +decide only [mjs_0, mjs_1, mjs_2, mjs_3, mjs_ble, true_and, Bool.false_eq_true, if_false, if_true, Nat.reduceAdd, Nat.reduceSub, Nat.reduceLeDiff, mjs_lit, mjs_ttb, Nat.reduceEqDiff, sh8]
    refine c_903 (n := 256) rfl ⟨Nat.le_of_ble_eq_true rfl, Nat.le_of_ble_eq_true rfl⟩ ?_
    simp +decide only [mjs_0, mjs_1, mjs_2, mjs_3, mjs_ble, true_and, Bool.false_eq_true, if_false, if_true, Nat.reduceAdd, Nat.reduceSub, Nat.reduceLeDiff, mjs_lit, mjs_ttb, Nat.reduceEqDiff]
    refine hQ _ _ _ k (hI2.to fun b q hb => mjs_row_c (by omega)) (fun b q hb => ?_) (fun b q hb => ?_) ?_ ?_ ?_ ?_ ?_
    · rw [mjs_row_c (by omega)]
      exact h22 b q hb
    · rcases (show b = 0 ∨ b = 1 by omega) with rfl | rfl <;> simp +decide only [mjs_0, mjs_1, mjs_2, mjs_3, mjs_ble, true_and, Bool.false_eq_true, if_false, if_true, Nat.reduceAdd, Nat.reduceSub, Nat.reduceLeDiff, mjs_lit, mjs_ttb, Nat.reduceEqDiff]
    all_goals simp +decide only [mjs_0, mjs_1, mjs_2, mjs_3, mjs_ble, true_and, Bool.false_eq_true, if_false, if_true, Nat.reduceAdd, Nat.reduceSub, Nat.reduceLeDiff, mjs_lit, mjs_ttb, Nat.reduceEqDiff]
  · refine ⟨?_, by decide, by decide, fun j hj => ?_, fun j hj => absurd hj (Nat.not_lt_zero j), fun j hj => ⟨0, ?_, by omega⟩⟩
    · rw [mjs_row_c (by decide), h2 2 5 (by decide)]
      simp +decide only [mjs_0, mjs_1, mjs_2, mjs_3, mjs_ble, true_and, Bool.false_eq_true, if_false, if_true, Nat.reduceAdd, Nat.reduceSub, Nat.reduceLeDiff, mjs_lit, mjs_ttb, Nat.reduceEqDiff]
      exact h5
    · rw [mjs_row_c (by decide), h1 j hj]
      exact Or.inl rfl
    · obtain rfl : j = 0 := by omega
      rw [mjs_row_c (by decide), h2 4 0 (by decide)]
      simp +decide only [mjs_0, mjs_1, mjs_2, mjs_3, mjs_ble, true_and, Bool.false_eq_true, if_false, if_true, Nat.reduceAdd, Nat.reduceSub, Nat.reduceLeDiff, mjs_lit, mjs_ttb, Nat.reduceEqDiff]
  · intro b q hb
    rw [mjs_row_c (by omega), h2 b q (by omega)]
    rcases (show b = 0 ∨ b = 1 by omega) with rfl | rfl <;> simp +decide only [mjs_0, mjs_1, mjs_2, mjs_3, mjs_ble, true_and, Bool.false_eq_true, if_false, if_true, Nat.reduceAdd, Nat.reduceSub, Nat.reduceLeDiff, mjs_lit, mjs_ttb, Nat.reduceEqDiff]
end MJN0
