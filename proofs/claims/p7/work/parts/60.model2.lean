/-! THE REFERENCE: cleared, and made -/
section MJM2
variable {L d nc ns : Nat} {xs : Nat → Int32} {Q : mj_Q} {sh : List (Nat × Nat)} {I : Nat → Nat → Int32} {Lg : Nat → Nat → Int64} {Rf : Nat → Nat → Option Nat}
def mm_cf : List Nat := [3, 5, 6, 8, 9, 10, 17, 22, 27, 29, 33, 36, 38, 39, 40]
def mm_Cl (I I' : Nat → Nat → Int32) : Prop := (∀ b q, b ≠ 36 → b ≠ 40 → b ≠ 41 → b ≠ 42 → b ≠ 45 → b ≠ 46 → b ≠ 47 → I' b q = I b q) ∧ (∀ q, q ∈ mm_cf → I' 36 q = 0) ∧ (I' 36 0 = I 36 0 ∧ I' 36 1 = I 36 1 ∧ I' 36 37 = I 36 37) ∧ ∀ q, q < 256 → I' 46 q = 0
theorem f107_A (hC : mm_C sh) (hR : mj_Rt mm_R Rf) (hk : ∀ (I' : Nat → Nat → Int32), (∀ b q, b ≠ 45 → I' b q = I b q) → mj_rn (mj_X0 L xs) (mj_hd []) (mj_call (mj_X0 L xs) mj_P (mj_bi (mj_X0 L xs)) d) mb_107 102 [some (.ref 36), some (.int (nI 1400)), none] [] (sh, I', Lg, Rf, nc, ns) Q) :
    ∀ (m j : Nat) (I' : Nat → Nat → Int32), j + m = 1400 → (∀ b q, b ≠ 45 → I' b q = I b q) → mj_rn (mj_X0 L xs) (mj_hd []) (mj_call (mj_X0 L xs) mj_P (mj_bi (mj_X0 L xs)) d) mb_107 82 [some (.ref 36), some (.int (nI j)), none] [] (sh, I', Lg, Rf, nc, ns) Q := by
  obtain ⟨c1, c2, c3, c4, c5, c6, c7⟩ := hC
  have r19 := hR.at (a := 36) (b := 19) (c := 45) (by decide)
  intro m
  induction m with
  | zero =>
    intro j I' hj h2
    obtain rfl : j = 1400 := by omega
    refine mj_blk rfl ?_
    simp +decide only [mjs_0, mjs_1, mjs_2, mjs_3, mjs_ble, true_and, Bool.false_eq_true, if_false, if_true, Nat.reduceAdd, Nat.reduceSub, Nat.reduceLeDiff]
    exact ⟨fun _ => hk I' h2, fun q => q.elim⟩
  | succ m ih =>
    intro j I' hj h2
    refine mj_blk rfl ?_
    simp +decide only [mjs_0, mjs_1, mjs_2, mjs_3, mjs_ble, true_and, Bool.false_eq_true, if_false, if_true, Nat.reduceAdd, Nat.reduceSub, Nat.reduceLeDiff]
    refine ⟨fun q => absurd q (nI_ge (a := j) (b := 1400) (by omega) (by decide)), fun _ => mj_blk rfl ?_⟩
    simp +decide only [mjs_0, mjs_1, mjs_2, mjs_3, mjs_ble, true_and, Bool.false_eq_true, if_false, if_true, Nat.reduceAdd, Nat.reduceSub, Nat.reduceLeDiff, mjs_ob c1, r19, mjs_ar (t := 0) c5, nI_1]
    refine ⟨nI_in (by omega) (by decide), ih (j + 1) _ (by omega) (fun b q hb => ?_)⟩
    rw [mjs_up_c hb]
    exact h2 b q hb
theorem f107_B (hC : mm_C sh) (hR : mj_Rt mm_R Rf) (hk : ∀ (I' : Nat → Nat → Int32), (∀ b q, b ≠ 46 → b ≠ 47 → I' b q = I b q) → (∀ q, q < 256 → I' 46 q = 0) → mj_rn (mj_X0 L xs) (mj_hd []) (mj_call (mj_X0 L xs) mj_P (mj_bi (mj_X0 L xs)) d) mb_107 171 [some (.ref 36), some (.int (nI 256)), none] [] (sh, I', Lg, Rf, nc, ns) Q) :
    ∀ (m j : Nat) (I' : Nat → Nat → Int32) (w : Option Value), j + m = 256 → (∀ b q, b ≠ 46 → b ≠ 47 → I' b q = I b q) → (∀ q, q < j → I' 46 q = 0) → mj_rn (mj_X0 L xs) (mj_hd []) (mj_call (mj_X0 L xs) mj_P (mj_bi (mj_X0 L xs)) d) mb_107 104 [some (.ref 36), some (.int (nI j)), w] [] (sh, I', Lg, Rf, nc, ns) Q := by
  obtain ⟨c1, c2, c3, c4, c5, c6, c7⟩ := hC
  have r20 := hR.at (a := 36) (b := 20) (c := 46) (by decide)
  have r21 := hR.at (a := 36) (b := 21) (c := 47) (by decide)
  intro m
  induction m with
  | zero =>
    intro j I' w hj h2 h3
    obtain rfl : j = 256 := by omega
    refine mj_blk rfl ?_
    simp +decide only [mjs_0, mjs_1, mjs_2, mjs_3, mjs_ble, true_and, Bool.false_eq_true, if_false, if_true, Nat.reduceAdd, Nat.reduceSub, Nat.reduceLeDiff]
    exact ⟨fun _ => hk I' h2 h3, fun q => q.elim⟩
  | succ m ih =>
    intro j I' w hj h2 h3
    have e0 : (nI j).toNatClampNeg = j := nI_clamp (by omega)
    refine mj_blk rfl ?_
    simp +decide only [mjs_0, mjs_1, mjs_2, mjs_3, mjs_ble, true_and, Bool.false_eq_true, if_false, if_true, Nat.reduceAdd, Nat.reduceSub, Nat.reduceLeDiff]
    refine ⟨fun q => absurd q (nI_ge (a := j) (b := 256) (by omega) (by decide)), fun _ => mj_blk rfl ?_⟩
    simp +decide only [mjs_0, mjs_1, mjs_2, mjs_3, mjs_ble, true_and, Bool.false_eq_true, if_false, if_true, Nat.reduceAdd, Nat.reduceSub, Nat.reduceLeDiff, mjs_ob c1, r20, mjs_ar (t := 0) c6, e0]
    have h2' : ∀ b q, b ≠ 46 → b ≠ 47 → mj_up I' 46 j 0 b q = I b q := fun b q h46 h47 => by
      rw [mjs_up_c h46]
      exact h2 b q h46 h47
    have h3' : ∀ q, q < j + 1 → mj_up I' 46 j 0 46 q = 0 := fun q hq => by
      by_cases h : q = j
      · rw [h, mjs_up_at]
      · rw [mjs_up_ne (Or.inr h)]
        exact h3 q (by omega)
    have K164 : ∀ (v : Int32) (w : Option Value), mj_rn (mj_X0 L xs) (mj_hd []) (mj_call (mj_X0 L xs) mj_P (mj_bi (mj_X0 L xs)) d) mb_107 164 [some (.ref 36), some (.int (nI j)), w] [.int v, .int (nI j), .ref 47] (sh, mj_up I' 46 j 0, Lg, Rf, nc, ns) Q := by
      intro v w
      refine mj_blk rfl ?_
      simp +decide only [mjs_0, mjs_1, mjs_2, mjs_3, mjs_ble, true_and, Bool.false_eq_true, if_false, if_true, Nat.reduceAdd, Nat.reduceSub, Nat.reduceLeDiff, mjs_ar (t := 0) c7, nI_1]
      refine ⟨nI_in (by omega) (by decide), ih (j + 1) _ _ (by omega) (fun b q h46 h47 => ?_) (fun q hq => ?_)⟩
      · rw [mjs_up_c h47]
        exact h2' b q h46 h47
      · rw [mjs_up_c (by decide)]
        exact h3' q hq
    have K147 : ∀ (v : Int32) (w : Option Value), mj_rn (mj_X0 L xs) (mj_hd []) (mj_call (mj_X0 L xs) mj_P (mj_bi (mj_X0 L xs)) d) mb_107 147 [some (.ref 36), some (.int (nI j)), w] [.int v] (sh, mj_up I' 46 j 0, Lg, Rf, nc, ns) Q := by
      intro v w
      refine mj_blk rfl ?_
      simp +decide only [mjs_0, mjs_1, mjs_2, mjs_3, mjs_ble, true_and, Bool.false_eq_true, if_false, if_true, Nat.reduceAdd, Nat.reduceSub, Nat.reduceLeDiff, mjs_ob c1, r21]
      refine ⟨fun _ => mj_blk rfl ?_, fun _ => mj_blk rfl ?_⟩
      · simp +decide only [mjs_0, mjs_1, mjs_2, mjs_3, mjs_ble, true_and, Bool.false_eq_true, if_false, if_true, Nat.reduceAdd, Nat.reduceSub, Nat.reduceLeDiff]
        exact K164 _ _
      · simp +decide only [mjs_0, mjs_1, mjs_2, mjs_3, mjs_ble, true_and, Bool.false_eq_true, if_false, if_true, Nat.reduceAdd, Nat.reduceSub, Nat.reduceLeDiff]
        exact K164 _ _
    have K146 : ∀ (w : Option Value), mj_rn (mj_X0 L xs) (mj_hd []) (mj_call (mj_X0 L xs) mj_P (mj_bi (mj_X0 L xs)) d) mb_107 146 [some (.ref 36), some (.int (nI j)), w] [] (sh, mj_up I' 46 j 0, Lg, Rf, nc, ns) Q := by
      intro w
      refine mj_blk rfl ?_
      simp +decide only [mjs_0, mjs_1, mjs_2, mjs_3, mjs_ble, true_and, Bool.false_eq_true, if_false, if_true, Nat.reduceAdd, Nat.reduceSub, Nat.reduceLeDiff]
      exact K147 _ _
    have K142 : ∀ (w : Option Value), mj_rn (mj_X0 L xs) (mj_hd []) (mj_call (mj_X0 L xs) mj_P (mj_bi (mj_X0 L xs)) d) mb_107 142 [some (.ref 36), some (.int (nI j)), w] [] (sh, mj_up I' 46 j 0, Lg, Rf, nc, ns) Q := by
      intro w
      refine mj_blk rfl ?_
      simp +decide only [mjs_0, mjs_1, mjs_2, mjs_3, mjs_ble, true_and, Bool.false_eq_true, if_false, if_true, Nat.reduceAdd, Nat.reduceSub, Nat.reduceLeDiff]
      exact K147 _ _
    have K130 : ∀ (w : Option Value), mj_rn (mj_X0 L xs) (mj_hd []) (mj_call (mj_X0 L xs) mj_P (mj_bi (mj_X0 L xs)) d) mb_107 130 [some (.ref 36), some (.int (nI j)), w] [] (sh, mj_up I' 46 j 0, Lg, Rf, nc, ns) Q := by
      intro w
      refine mj_blk rfl ?_
      simp +decide only [mjs_0, mjs_1, mjs_2, mjs_3, mjs_ble, true_and, Bool.false_eq_true, if_false, if_true, Nat.reduceAdd, Nat.reduceSub, Nat.reduceLeDiff]
      refine ⟨fun _ => K146 _, fun _ => mj_blk rfl ?_⟩
      simp +decide only [mjs_0, mjs_1, mjs_2, mjs_3, mjs_ble, true_and, Bool.false_eq_true, if_false, if_true, Nat.reduceAdd, Nat.reduceSub, Nat.reduceLeDiff]
      exact ⟨fun _ => K146 _, fun _ => K142 _⟩
    refine ⟨nI_in (by omega) (by decide), fun _ => K130 _, fun _ => mj_blk rfl ?_⟩
    simp +decide only [mjs_0, mjs_1, mjs_2, mjs_3, mjs_ble, true_and, Bool.false_eq_true, if_false, if_true, Nat.reduceAdd, Nat.reduceSub, Nat.reduceLeDiff]
    exact ⟨fun _ => K142 _, fun _ => K130 _⟩
theorem c_107 (hC : mm_C sh) (hR : mj_Rt mm_R Rf) (hQ : ∀ I' : Nat → Nat → Int32, mm_Cl I I' → Q (.inl none) (sh, I', Lg, Rf, nc, ns)) :
    mj_call (mj_X0 L xs) mj_P (mj_bi (mj_X0 L xs)) (d + 3) 107 [.ref 36] (sh, I, Lg, Rf, nc, ns) Q := by
  have hC' := hC
  obtain ⟨c1, c2, c3, c4, c5, c6, c7⟩ := hC
  have r21 := hR.at (a := 36) (b := 21) (c := 47) (by decide)
  refine mj_enter (z := (3, [], mb_107)) (by decide) rfl rfl ?_
  refine mj_blk rfl ?_
  simp +decide only [mjs_0, mjs_1, mjs_2, mjs_3, mjs_ble, true_and, Bool.false_eq_true, if_false, if_true, Nat.reduceAdd, Nat.reduceSub, Nat.reduceLeDiff, mjs_ob c1]
  refine f107_A hC' hR (fun I1 h1 => ?_) 1400 0 _ rfl (fun _ _ _ => rfl)
  refine mj_blk rfl ?_
  simp +decide only [mjs_0, mjs_1, mjs_2, mjs_3, mjs_ble, true_and, Bool.false_eq_true, if_false, if_true, Nat.reduceAdd, Nat.reduceSub, Nat.reduceLeDiff]
  refine f107_B hC' hR (fun I2 h2 h3 => ?_) 256 0 I1 _ rfl (fun _ _ _ _ => rfl) (fun q hq => absurd hq (Nat.not_lt_zero q))
  refine mj_blk rfl ?_
  simp +decide only [mjs_0, mjs_1, mjs_2, mjs_3, mjs_ble, true_and, Bool.false_eq_true, if_false, if_true, Nat.reduceAdd, Nat.reduceSub, Nat.reduceLeDiff, mjs_ob c1, r21, mjs_ar (t := 0) c7, mjs_rc c1]
  refine ⟨by unfold vp_in; decide, by unfold vp_in; decide, by unfold vp_in; decide, by unfold vp_in; decide, by unfold vp_in; decide, by unfold vp_in; decide, by unfold vp_in; decide, by unfold vp_in; decide, by unfold vp_in; decide, by unfold vp_in; decide, by unfold vp_in; decide, by unfold vp_in; decide, by unfold vp_in; decide, by unfold vp_in; decide, by unfold vp_in; decide, ?_⟩
  refine c_108 hC' hR ?_ (fun I3 hP => hQ I3 ⟨fun b q b1 b2 b3 b4 b5 b6 b7 => ?_, fun q hq => ?_, ⟨?_, ?_, ?_⟩, fun q hq => ?_⟩)
  · simp only [mjs_up_c (show (36 : Nat) ≠ 47 by decide)]
    rw [h2 36 11 (by decide) (by decide), h1 36 11 (by decide)]
    simp +decide only [mjs_0, mjs_1, mjs_2, mjs_3, mjs_ble, true_and, Bool.false_eq_true, if_false, if_true, Nat.reduceAdd, Nat.reduceSub, Nat.reduceLeDiff, mjs_lit, mjs_ttb, Nat.reduceEqDiff]
  · rw [hP.1 b q b1 b2 b3 b4 b5]
    simp only [mjs_up_c b7]
    rw [h2 b q b6 b7, h1 b q b5]
    simp only [mjs_up_c b1]
  · have hq' : q ≠ 11 ∧ q ≠ 15 := by
      constructor <;> (rintro rfl; revert hq; decide)
    rw [hP.2 q hq'.1 hq'.2]
    simp only [mjs_up_c (show (36 : Nat) ≠ 47 by decide)]
    rw [h2 36 q (by decide) (by decide), h1 36 q (by decide)]
    unfold mm_cf at hq
    simp only [List.mem_cons, List.not_mem_nil, or_false] at hq
    rcases hq with rfl | rfl | rfl | rfl | rfl | rfl | rfl | rfl | rfl | rfl | rfl | rfl | rfl | rfl | rfl <;> simp +decide only [mjs_0, mjs_1, mjs_2, mjs_3, mjs_ble, true_and, Bool.false_eq_true, if_false, if_true, Nat.reduceAdd, Nat.reduceSub, Nat.reduceLeDiff, mjs_lit, mjs_ttb, Nat.reduceEqDiff]
  · rw [hP.2 0 (by decide) (by decide)]
    simp only [mjs_up_c (show (36 : Nat) ≠ 47 by decide)]
    rw [h2 36 0 (by decide) (by decide), h1 36 0 (by decide)]
    simp +decide only [mjs_0, mjs_1, mjs_2, mjs_3, mjs_ble, true_and, Bool.false_eq_true, if_false, if_true, Nat.reduceAdd, Nat.reduceSub, Nat.reduceLeDiff, mjs_lit, mjs_ttb, Nat.reduceEqDiff]
  · rw [hP.2 1 (by decide) (by decide)]
    simp only [mjs_up_c (show (36 : Nat) ≠ 47 by decide)]
    rw [h2 36 1 (by decide) (by decide), h1 36 1 (by decide)]
    simp +decide only [mjs_0, mjs_1, mjs_2, mjs_3, mjs_ble, true_and, Bool.false_eq_true, if_false, if_true, Nat.reduceAdd, Nat.reduceSub, Nat.reduceLeDiff, mjs_lit, mjs_ttb, Nat.reduceEqDiff]
  · rw [hP.2 37 (by decide) (by decide)]
    simp only [mjs_up_c (show (36 : Nat) ≠ 47 by decide)]
    rw [h2 36 37 (by decide) (by decide), h1 36 37 (by decide)]
    simp +decide only [mjs_0, mjs_1, mjs_2, mjs_3, mjs_ble, true_and, Bool.false_eq_true, if_false, if_true, Nat.reduceAdd, Nat.reduceSub, Nat.reduceLeDiff, mjs_lit, mjs_ttb, Nat.reduceEqDiff]
  · rw [hP.1 46 q (by decide) (by decide) (by decide) (by decide) (by decide)]
    simp only [mjs_up_c (show (46 : Nat) ≠ 47 by decide)]
    exact h3 q hq
end MJM2
