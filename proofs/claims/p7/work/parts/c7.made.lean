/-! A NEW MacroPress, exact -/
/-- where the primitives' letters begin -/
def stp : Nat → Nat
  | 0 => 0
  | k + 1 => stp k + pml k
theorem stp_ck : ((List.range 36).all fun k => decide ((k + 1 < 36 → stp k + pml k ≤ 1440) ∧ (36 ≤ k + 1 → stp k + pml k + 40 * (1036 - (k + 1)) ≤ 40237))) = true := by decide +kernel
theorem stp_at {k : Nat} (h : k < 36) : (k + 1 < 36 → stp k + pml k ≤ 1440) ∧ (36 ≤ k + 1 → stp k + pml k + 40 * (1036 - (k + 1)) ≤ 40237) := of_decide_eq_true (List.all_eq_true.mp stp_ck k (List.mem_range.mpr h))
section MJMX
variable {X : mj_X} {L d nc ns p : Nat} {xs : Nat → Int32} {Q : mj_Q} {I : Nat → Nat → Int32} {Lg : Nat → Nat → Int64} {Rf : Nat → Nat → Option Nat} {S : mj_S}
/-- firstCategory -/
theorem c_91x {c : Nat} (hc : c < 256) (hQ : Q (.inl (some (.int (nI (ct c))))) S) : mj_call X mj_P (mj_bi X) (d + 1) 91 [.int (nI c)] S Q := by
  by_cases hsp : c = 92 ∨ c = 123 ∨ c = 125 ∨ c = 36 ∨ c = 38 ∨ c = 13 ∨ c = 35 ∨ c = 94 ∨ c = 95 ∨ c = 0 ∨ c = 32 ∨ c = 9 ∨ c = 126 ∨ c = 37 ∨ c = 127
  · rcases hsp with rfl | rfl | rfl | rfl | rfl | rfl | rfl | rfl | rfl | rfl | rfl | rfl | rfl | rfl | rfl
    all_goals
      refine mj_enter (z := (1, [], mb_91)) (by decide) rfl rfl ?_
      repeat
        refine mj_blk rfl ?_
        simp +decide only [mjs_0, mjs_1, mjs_2, mjs_3, mjs_ble, true_and, Bool.false_eq_true, if_false, if_true, Nat.reduceAdd, Nat.reduceSub, Nat.reduceLeDiff, false_implies, true_implies, not_false_eq_true, not_true_eq_false, and_true]
      exact hQ
  · have ne : ∀ b, (b = 92 ∨ b = 123 ∨ b = 125 ∨ b = 36 ∨ b = 38 ∨ b = 13 ∨ b = 35 ∨ b = 94 ∨ b = 95 ∨ b = 0 ∨ b = 32 ∨ b = 9 ∨ b = 126 ∨ b = 37 ∨ b = 127) → ¬ nI c = nI b := fun b hb q => by
      have := (nI_eq (by omega) (by omega)).mp q
      subst this
      exact hsp hb
    have n92 : ¬ nI c = 92 := ne 92 (by decide)
    have n123 : ¬ nI c = 123 := ne 123 (by decide)
    have n125 : ¬ nI c = 125 := ne 125 (by decide)
    have n36 : ¬ nI c = 36 := ne 36 (by decide)
    have n38 : ¬ nI c = 38 := ne 38 (by decide)
    have n13 : ¬ nI c = 13 := ne 13 (by decide)
    have n35 : ¬ nI c = 35 := ne 35 (by decide)
    have n94 : ¬ nI c = 94 := ne 94 (by decide)
    have n95 : ¬ nI c = 95 := ne 95 (by decide)
    have n0 : ¬ nI c = 0 := ne 0 (by decide)
    have n32 : ¬ nI c = 32 := ne 32 (by decide)
    have n9 : ¬ nI c = 9 := ne 9 (by decide)
    have n126 : ¬ nI c = 126 := ne 126 (by decide)
    have n37 : ¬ nI c = 37 := ne 37 (by decide)
    have n127 : ¬ nI c = 127 := ne 127 (by decide)
    have hct : ct c = clb c := by
      unfold ct clb
      rw [if_neg (by omega), if_neg (by omega), if_neg (by omega), if_neg (by omega), if_neg (by omega), if_neg (by omega), if_neg (by omega), if_neg (by omega), if_neg (by omega), if_neg (by omega), if_neg (by omega), if_neg (by omega), if_neg (by omega), if_neg (by omega), if_neg (by omega)]
    rw [hct] at hQ
    have r24 : ((97 ≤ c ∧ c ≤ 122) ∨ (65 ≤ c ∧ c ≤ 90)) → mj_rn X (mj_hd []) (mj_call X mj_P (mj_bi X) d) mb_91 24 [some (.int (nI c))] [] S Q := by
      intro hyes
      have e : (11 : Int32) = nI (clb c) := by
        unfold clb
        rw [if_pos hyes]
        rfl
      refine mj_blk rfl ?_
      simp +decide only [mjs_0, mjs_1, mjs_2, mjs_3, mjs_ble, true_and, Bool.false_eq_true, if_false, if_true, Nat.reduceAdd, Nat.reduceSub, Nat.reduceLeDiff]
      rw [e]
      exact hQ
    have r27 : ¬ ((97 ≤ c ∧ c ≤ 122) ∨ (65 ≤ c ∧ c ≤ 90)) → mj_rn X (mj_hd []) (mj_call X mj_P (mj_bi X) d) mb_91 27 [some (.int (nI c))] [] S Q := by
      intro hno
      have e : (12 : Int32) = nI (clb c) := by
        unfold clb
        rw [if_neg hno]
        rfl
      refine mj_blk rfl ?_
      simp +decide only [mjs_0, mjs_1, mjs_2, mjs_3, mjs_ble, true_and, Bool.false_eq_true, if_false, if_true, Nat.reduceAdd, Nat.reduceSub, Nat.reduceLeDiff]
      repeat' refine And.intro (fun _ => ?_) (fun _ => ?_)
      all_goals first
        | contradiction
        | (refine mj_blk rfl ?_
           simp +decide only [mjs_0, mjs_1, mjs_2, mjs_3, mjs_ble, true_and, Bool.false_eq_true, if_false, if_true, Nat.reduceAdd, Nat.reduceSub, Nat.reduceLeDiff]
           rw [e]
           exact hQ)
    have r12 : ¬ (97 ≤ c ∧ c ≤ 122) → mj_rn X (mj_hd []) (mj_call X mj_P (mj_bi X) d) mb_91 12 [some (.int (nI c))] [] S Q := by
      intro hno
      refine mj_blk rfl ?_
      simp +decide only [mjs_0, mjs_1, mjs_2, mjs_3, mjs_ble, true_and, Bool.false_eq_true, if_false, if_true, Nat.reduceAdd, Nat.reduceSub, Nat.reduceLeDiff]
      refine ⟨fun q => r27 (by have := (nI_ltI (b := 65) (by omega) (by decide)).mp q; omega), fun q => mj_blk rfl ?_⟩
      have q65 : ¬ c < 65 := fun h => q (nI_lt (b := 65) h (by decide))
      simp +decide only [mjs_0, mjs_1, mjs_2, mjs_3, mjs_ble, true_and, Bool.false_eq_true, if_false, if_true, Nat.reduceAdd, Nat.reduceSub, Nat.reduceLeDiff]
      exact ⟨fun q2 => r27 (by have := (nI_ltI (a := 90) (by decide) (by omega)).mp q2; omega), fun q2 => r24 (Or.inr ⟨by omega, by
        by_cases h : c ≤ 90
        · exact h
        · exact absurd (nI_lt (a := 90) (by omega) (by omega)) q2⟩)⟩
    refine mj_enter (z := (1, [], mb_91)) (by decide) rfl rfl ?_
    refine mj_blk rfl ?_
    simp +decide only [mjs_0, mjs_1, mjs_2, mjs_3, mjs_ble, true_and, Bool.false_eq_true, if_false, if_true, Nat.reduceAdd, Nat.reduceSub, Nat.reduceLeDiff]
    refine ⟨fun q => r12 (by have := (nI_ltI (b := 97) (by omega) (by decide)).mp q; omega), fun q => mj_blk rfl ?_⟩
    have q97 : ¬ c < 97 := fun h => q (nI_lt (b := 97) h (by decide))
    simp +decide only [mjs_0, mjs_1, mjs_2, mjs_3, mjs_ble, true_and, Bool.false_eq_true, if_false, if_true, Nat.reduceAdd, Nat.reduceSub, Nat.reduceLeDiff]
    exact ⟨fun q2 => r24 (Or.inl ⟨by omega, (nI_leI (b := 122) (by omega) (by decide)).mp q2⟩), fun q2 => r12 (fun h => q2 (nI_le (b := 122) h.2 (by decide)))⟩
/-- the store's tables of the beginning -/
def vbS (x : Nat) : Int32 := if x < 256 then 0 else if x < 512 then nI (ct (x - 256)) else if x < 768 then 0 else if x < 804 then nI (65536 + (x - 768 + 1)) else 0
theorem f89_Ax (hr : Rf 9 1 = some 11) (hk : ∀ I' : Nat → Nat → Int32, (∀ b q, b ≠ 11 → I' b q = I b q) → (∀ q, q < 512 → I' 11 q = vbS q) → (∀ q, 512 ≤ q → I' 11 q = I 11 q) → mj_rn X (mj_hd []) (mj_call X mj_P (mj_bi X) (d + 1)) mb_89 99 [some (.ref 9), none, some (.int (nI 256))] [] (sh17, I', Lg, Rf, nc, ns) Q) :
    ∀ (m j : Nat) (I' : Nat → Nat → Int32) (w : Option Value), j + m = 256 → (∀ b q, b ≠ 11 → I' b q = I b q) → (∀ q, q < 256 + j → I' 11 q = vbS q) → (∀ q, 256 + j ≤ q → I' 11 q = I 11 q) → mj_rn X (mj_hd []) (mj_call X mj_P (mj_bi X) (d + 1)) mb_89 72 [some (.ref 9), w, some (.int (nI j))] [] (sh17, I', Lg, Rf, nc, ns) Q := by
  intro m
  induction m with
  | zero =>
    intro j I' w hj h2 h3 h4
    obtain rfl : j = 256 := by omega
    refine mj_blk rfl ?_
    simp +decide only [mjs_0, mjs_1, mjs_2, mjs_3, mjs_ble, true_and, Bool.false_eq_true, if_false, if_true, Nat.reduceAdd, Nat.reduceSub, Nat.reduceLeDiff]
    exact ⟨fun _ => hk I' h2 h3 h4, fun q => q.elim⟩
  | succ m ih =>
    intro j I' w hj h2 h3 h4
    refine mj_blk rfl ?_
    simp +decide only [mjs_0, mjs_1, mjs_2, mjs_3, mjs_ble, true_and, Bool.false_eq_true, if_false, if_true, Nat.reduceAdd, Nat.reduceSub, Nat.reduceLeDiff]
    refine ⟨fun q => absurd q (nI_ge (a := j) (b := 256) (by omega) (by decide)), fun _ => mj_blk rfl ?_⟩
    simp +decide only [mjs_0, mjs_1, mjs_2, mjs_3, mjs_ble, true_and, Bool.false_eq_true, if_false, if_true, Nat.reduceAdd, Nat.reduceSub, Nat.reduceLeDiff, mjs_lit, mjs_ttb, Nat.reduceEqDiff, sh17, hr]
    refine c_91x (c := j) (by omega) ?_
    have e0 : (256 : Int32) + nI j = nI (256 + j) := nI_add 256 j
    have e1 : (nI (256 + j)).toNatClampNeg = 256 + j := nI_clamp (by omega)
    simp +decide only [mjs_0, mjs_1, mjs_2, mjs_3, mjs_ble, true_and, Bool.false_eq_true, if_false, if_true, Nat.reduceAdd, Nat.reduceSub, Nat.reduceLeDiff, mjs_lit, mjs_ttb, Nat.reduceEqDiff, nI_1, e0, e1]
    refine ⟨nI_in (by omega) (by decide), ih (j + 1) _ _ (by omega) (fun b q hb => ?_) (fun q hq => ?_) (fun q hq => ?_)⟩
    · rw [mjs_up_c hb]
      exact h2 b q hb
    · by_cases e : q = 256 + j
      · rw [e, mjs_up_at]
        unfold vbS
        rw [if_neg (by omega), if_pos (by omega), Nat.add_sub_cancel_left]
      · rw [mjs_up_ne (Or.inr e)]
        exact h3 q (by omega)
    · rw [mjs_up_ne (Or.inr (by omega))]
      exact h4 q (by omega)
theorem f89_Bx (hr : Rf 9 1 = some 11) (hk : ∀ I' : Nat → Nat → Int32, (∀ b q, b ≠ 11 → I' b q = I b q) → (∀ q, q < 768 → I' 11 q = I 11 q) → (∀ q, q < 36 → I' 11 (768 + q) = nI (65536 + (q + 1))) → (∀ q, 804 ≤ q → I' 11 q = I 11 q) → Q (.inl none) (sh17, I', Lg, Rf, nc, ns)) :
    ∀ (m j : Nat) (I' : Nat → Nat → Int32), j + m = 36 → (∀ b q, b ≠ 11 → I' b q = I b q) → (∀ q, q < 768 → I' 11 q = I 11 q) → (∀ q, q < j → I' 11 (768 + q) = nI (65536 + (q + 1))) → (∀ q, 768 + j ≤ q → I' 11 q = I 11 q) → mj_rn X (mj_hd []) (mj_call X mj_P (mj_bi X) (d + 1)) mb_89 101 [some (.ref 9), none, some (.int (nI j))] [] (sh17, I', Lg, Rf, nc, ns) Q := by
  intro m
  induction m with
  | zero =>
    intro j I' hj h2 h3 h4 h5
    obtain rfl : j = 36 := by omega
    refine mj_blk rfl ?_
    simp +decide only [mjs_0, mjs_1, mjs_2, mjs_3, mjs_ble, true_and, Bool.false_eq_true, if_false, if_true, Nat.reduceAdd, Nat.reduceSub, Nat.reduceLeDiff]
    refine ⟨fun _ => mj_blk rfl ?_, fun q => q.elim⟩
    simp +decide only [mjs_0, mjs_1, mjs_2, mjs_3, mjs_ble, true_and, Bool.false_eq_true, if_false, if_true, Nat.reduceAdd, Nat.reduceSub, Nat.reduceLeDiff]
    exact hk I' h2 h3 h4 h5
  | succ m ih =>
    intro j I' hj h2 h3 h4 h5
    refine mj_blk rfl ?_
    simp +decide only [mjs_0, mjs_1, mjs_2, mjs_3, mjs_ble, true_and, Bool.false_eq_true, if_false, if_true, Nat.reduceAdd, Nat.reduceSub, Nat.reduceLeDiff]
    refine ⟨fun q => absurd q (nI_ge (a := j) (b := 36) (by omega) (by decide)), fun _ => mj_blk rfl ?_⟩
    simp +decide only [mjs_0, mjs_1, mjs_2, mjs_3, mjs_ble, true_and, Bool.false_eq_true, if_false, if_true, Nat.reduceAdd, Nat.reduceSub, Nat.reduceLeDiff, mjs_lit, mjs_ttb, Nat.reduceEqDiff, sh17, hr, nI_1]
    refine c_92 ?_
    have e0 : (768 : Int32) + nI j = nI (768 + j) := nI_add 768 j
    have e1 : (nI (768 + j)).toNatClampNeg = 768 + j := nI_clamp (by omega)
    have e2 : (1 : Int32) <<< (16 &&& 31) + nI (j + 1) = nI (65536 + (j + 1)) := by
      rw [show (1 : Int32) <<< (16 &&& 31) = nI 65536 by decide]
      exact nI_add _ _
    simp +decide only [mjs_0, mjs_1, mjs_2, mjs_3, mjs_ble, true_and, Bool.false_eq_true, if_false, if_true, Nat.reduceAdd, Nat.reduceSub, Nat.reduceLeDiff, mjs_lit, mjs_ttb, Nat.reduceEqDiff, nI_1, e0, e1, e2]
    refine ⟨nI_in (by omega) (by decide), ih (j + 1) _ (by omega) (fun b q hb => ?_) (fun q hq => ?_) (fun q hq => ?_) (fun q hq => ?_)⟩
    · rw [mjs_up_c hb]
      exact h2 b q hb
    · rw [mjs_up_ne (Or.inr (by omega))]
      exact h3 q hq
    · by_cases e : q = j
      · rw [e, mjs_up_at]
      · rw [mjs_up_ne (Or.inr (by omega))]
        exact h4 q (by omega)
    · rw [mjs_up_ne (Or.inr (by omega))]
      exact h5 q (by omega)
set_option maxRecDepth 20000 in
theorem c_89x (hQ : ∀ (I' : Nat → Nat → Int32) (Lg' : Nat → Nat → Int64) (Rf' : Nat → Nat → Option Nat), (∀ b q, b < 10 → I' b q = I b q) → (∀ b q, 10 ≤ b → b < 17 → b ≠ 11 → I' b q = 0) → (∀ x, x < 1804 → I' 11 x = vbS x) → (∀ b q, b < 9 → Rf' b q = Rf b q) → Rf' 9 0 = some 10 → Rf' 9 1 = some 11 → Rf' 9 2 = some 12 → Rf' 9 3 = some 13 → Rf' 9 4 = some 14 → Rf' 9 6 = some 15 → Rf' 9 7 = some 16 → Rf' 9 9 = some p → Q (.inl none) (sh17, I', Lg', Rf', 17, 108504)) :
    mj_call (mj_X0 L xs) mj_P (mj_bi (mj_X0 L xs)) (d + 2) 89 [.ref 9, .ref p] (sh10, I, Lg, Rf, 10, 42890) Q := by
  refine mj_enter (z := (3, [], mb_89)) (by decide) rfl rfl ?_
  refine mj_blk rfl ?_
  simp +decide only [mjs_0, mjs_1, mjs_2, mjs_3, mjs_ble, true_and, Bool.false_eq_true, if_false, if_true, Nat.reduceAdd, Nat.reduceSub, Nat.reduceLeDiff, mjs_lit, mjs_ttb, Nat.reduceEqDiff, sh10, mj_n1804, mj_n30001, mj_n100]
  refine f89_Ax (by simp +decide only [mjs_0, mjs_1, mjs_2, mjs_3, mjs_ble, true_and, Bool.false_eq_true, if_false, if_true, Nat.reduceAdd, Nat.reduceSub, Nat.reduceLeDiff, mjs_lit, mjs_ttb, Nat.reduceEqDiff]) (fun I1 h1 h1a h1b => ?_) 256 0 _ _ rfl (fun _ _ _ => rfl) (fun q hq => ?_) (fun _ _ => rfl)
  · refine mj_blk rfl ?_
    simp +decide only [mjs_0, mjs_1, mjs_2, mjs_3, mjs_ble, true_and, Bool.false_eq_true, if_false, if_true, Nat.reduceAdd, Nat.reduceSub, Nat.reduceLeDiff]
    refine f89_Bx (by simp +decide only [mjs_0, mjs_1, mjs_2, mjs_3, mjs_ble, true_and, Bool.false_eq_true, if_false, if_true, Nat.reduceAdd, Nat.reduceSub, Nat.reduceLeDiff, mjs_lit, mjs_ttb, Nat.reduceEqDiff]) (fun I2 h2 h2a h2b h2c => ?_) 36 0 _ rfl (fun _ _ _ => rfl) (fun _ _ => rfl) (fun q hq => absurd hq (Nat.not_lt_zero _)) (fun _ _ => rfl)
    refine hQ _ _ _ (fun b q hb => ?_) (fun b q h10 h17 h11 => ?_) (fun x hx => ?_) (fun b q hb => ?_) ?_ ?_ ?_ ?_ ?_ ?_ ?_ ?_
    · rw [h2 b q (by omega), h1 b q (by omega), mjs_row_c (by omega), mjs_row_c (by omega), mjs_row_c (by omega), mjs_row_c (by omega), mjs_row_c (by omega), mjs_row_c (by omega), mjs_row_c (by omega)]
    · rw [h2 b q h11, h1 b q h11]
      rcases (show b = 10 ∨ b = 12 ∨ b = 13 ∨ b = 14 ∨ b = 15 ∨ b = 16 by omega) with rfl | rfl | rfl | rfl | rfl | rfl <;> simp +decide only [mjs_0, mjs_1, mjs_2, mjs_3, mjs_ble, true_and, Bool.false_eq_true, if_false, if_true, Nat.reduceAdd, Nat.reduceSub, Nat.reduceLeDiff, mjs_lit, mjs_ttb, Nat.reduceEqDiff]
    · by_cases x1 : x < 512
      · rw [h2a x (by omega)]
        exact h1a x x1
      · by_cases x2 : 768 ≤ x ∧ x < 804
        · have := h2b (x - 768) (by omega)
          rw [show 768 + (x - 768) = x by omega] at this
          rw [this]
          unfold vbS
          rw [if_neg (by omega), if_neg (by omega), if_neg (by omega), if_pos (by omega)]
        · have e : I2 11 x = I1 11 x := by
            by_cases x3 : x < 768
            · exact h2a x x3
            · exact h2c x (by omega)
          rw [e, h1b x (by omega)]
          have e2 : vbS x = 0 := by
            unfold vbS
            by_cases x3 : x < 768
            · rw [if_neg (by omega), if_neg (by omega), if_pos x3]
            · rw [if_neg (by omega), if_neg (by omega), if_neg (by omega), if_neg (by omega)]
          rw [e2]
          simp +decide only [mjs_0, mjs_1, mjs_2, mjs_3, mjs_ble, true_and, Bool.false_eq_true, if_false, if_true, Nat.reduceAdd, Nat.reduceSub, Nat.reduceLeDiff, mjs_lit, mjs_ttb, Nat.reduceEqDiff]
    · have n9 : b ≠ 9 := by omega
      simp only [mjs_row_c (show b ≠ 16 by omega), mjs_row_c (show b ≠ 15 by omega), mjs_row_c (show b ≠ 14 by omega), mjs_row_c (show b ≠ 13 by omega), mjs_row_c (show b ≠ 12 by omega), mjs_row_c (show b ≠ 11 by omega), mjs_row_c (show b ≠ 10 by omega), mjs_up_c n9]
    all_goals simp +decide only [mjs_0, mjs_1, mjs_2, mjs_3, mjs_ble, true_and, Bool.false_eq_true, if_false, if_true, Nat.reduceAdd, Nat.reduceSub, Nat.reduceLeDiff, mjs_lit, mjs_ttb, Nat.reduceEqDiff]
  · have hq' : q < 256 := hq
    have e2 : vbS q = 0 := if_pos hq'
    rw [e2]
    simp +decide only [mjs_0, mjs_1, mjs_2, mjs_3, mjs_ble, true_and, Bool.false_eq_true, if_false, if_true, Nat.reduceAdd, Nat.reduceSub, Nat.reduceLeDiff, mjs_lit, mjs_ttb, Nat.reduceEqDiff]
/-- Names -/
theorem f54_Bx (r0 : Rf 2 0 = some 3) (r1 : Rf 2 1 = some 4) (r2 : Rf 2 2 = some 5) (r4 : Rf 2 4 = some 6)
    (hk : ∀ (I' : Nat → Nat → Int32) (x : Int32), fd_C I' 2 3 4 5 6 pmc pml stp 36 → fd_H I' 5 6 pmc pml 36 → (∀ b q, b < 2 → I' b q = I b q) → mj_rn (mj_X0 L xs) (mj_hd []) (mj_call (mj_X0 L xs) mj_P (mj_bi (mj_X0 L xs)) (d + 1)) mb_54 133 [some (.ref 2), some (.ref 7), some (.int x), some (.int (nI 237)), none] [] (sh8, I', Lg, Rf, nc, ns) Q) :
    ∀ (m k len : Nat) (I' : Nat → Nat → Int32) (w : Option Value), wof pml k + len + m = 237 → k ≤ 36 → (k < 36 → len ≤ pml k) → (k = 36 → len = 0) → fd_C I' 2 3 4 5 6 pmc pml stp k → fd_H I' 5 6 pmc pml k → (∀ j, j < len → I' 7 j = nI (pmc k j)) → (∀ b q, b < 2 → I' b q = I b q) → mj_rn (mj_X0 L xs) (mj_hd []) (mj_call (mj_X0 L xs) mj_P (mj_bi (mj_X0 L xs)) (d + 1)) mb_54 76 [some (.ref 2), some (.ref 7), some (.int (nI len)), some (.int (nI (wof pml k + len))), w] [] (sh8, I', Lg, Rf, nc, ns) Q := by
  intro m
  induction m with
  | zero =>
    intro k len I' w hi hk36 hl hl36 hC hH hrow h2
    have ek : k = 36 := by
      by_cases e : k = 36
      · exact e
      · exfalso
        have h1 : wof pml (k + 1) ≤ wof pml (k + 1 + (35 - k)) := wof_le
        rw [show k + 1 + (35 - k) = 36 by omega, w2e] at h1
        have h2 : wof pml (k + 1) = wof pml k + (pml k + 1) := rfl
        have := hl (by omega)
        omega
    subst ek
    obtain rfl : len = 0 := hl36 rfl
    rw [w2e]
    refine mj_blk rfl ?_
    simp +decide only [mjs_0, mjs_1, mjs_2, mjs_3, mjs_ble, true_and, Bool.false_eq_true, if_false, if_true, Nat.reduceAdd, Nat.reduceSub, Nat.reduceLeDiff]
    refine c_904 (tx := mj_t2) (by decide) rfl ?_
    simp +decide only [mjs_0, mjs_1, mjs_2, mjs_3, mjs_ble, true_and, Bool.false_eq_true, if_false, if_true, Nat.reduceAdd, Nat.reduceSub, Nat.reduceLeDiff, mj_t2l]
    exact ⟨fun _ => hk I' _ hC hH h2, fun q => q.elim⟩
  | succ m ih =>
    intro k len I' w hi hk36 hl hl36 hC hH hrow h2
    have ek : k < 36 := by
      by_cases e : k = 36
      · exfalso
        subst e
        rw [w2e, hl36 rfl] at hi
        omega
      · omega
    have hlen := hl ek
    have h40 := (pm_len ek).1
    have h256 := (pm_len ek).2
    have e0 : (nI (wof pml k + len)).toNatClampNeg = wof pml k + len := nI_clamp (by omega)
    have K127 : ∀ (k' len' : Nat) (I2 : Nat → Nat → Int32) (w : Option Value), wof pml k' + len' = wof pml k + len + 1 → k' ≤ 36 → (k' < 36 → len' ≤ pml k') → (k' = 36 → len' = 0) → fd_C I2 2 3 4 5 6 pmc pml stp k' → fd_H I2 5 6 pmc pml k' → (∀ j, j < len' → I2 7 j = nI (pmc k' j)) → (∀ b q, b < 2 → I2 b q = I b q) → mj_rn (mj_X0 L xs) (mj_hd []) (mj_call (mj_X0 L xs) mj_P (mj_bi (mj_X0 L xs)) (d + 1)) mb_54 127 [some (.ref 2), some (.ref 7), some (.int (nI len')), some (.int (nI (wof pml k + len))), w] [] (sh8, I2, Lg, Rf, nc, ns) Q := by
      intro k' len' I2 w e1 a1 a2 a3 a4 a5 a6 a7
      refine mj_blk rfl ?_
      simp +decide only [mjs_0, mjs_1, mjs_2, mjs_3, mjs_ble, true_and, Bool.false_eq_true, if_false, if_true, Nat.reduceAdd, Nat.reduceSub, Nat.reduceLeDiff, nI_1]
      rw [← e1]
      exact ih k' len' I2 _ (by omega) a1 a2 a3 a4 a5 a6 a7
    refine mj_blk rfl ?_
    simp +decide only [mjs_0, mjs_1, mjs_2, mjs_3, mjs_ble, true_and, Bool.false_eq_true, if_false, if_true, Nat.reduceAdd, Nat.reduceSub, Nat.reduceLeDiff]
    refine c_904 (tx := mj_t2) (by decide) rfl ?_
    simp +decide only [mjs_0, mjs_1, mjs_2, mjs_3, mjs_ble, true_and, Bool.false_eq_true, if_false, if_true, Nat.reduceAdd, Nat.reduceSub, Nat.reduceLeDiff, mj_t2l]
    refine ⟨fun q => absurd q (nI_ge (by omega) (by decide)), fun _ => mj_blk rfl ?_⟩
    simp +decide only [mjs_0, mjs_1, mjs_2, mjs_3, mjs_ble, true_and, Bool.false_eq_true, if_false, if_true, Nat.reduceAdd, Nat.reduceSub, Nat.reduceLeDiff]
    refine c_905 (tx := mj_t2) (by decide) rfl (nI_in (by rw [mj_t2l]; omega) (by rw [mj_t2l]; decide)) ?_
    by_cases e : len = pml k
    · have ht : mj_t2.getD (wof pml k + len) 0 = 32 := by rw [e]; exact (wck_at w2 ek).1
      simp +decide only [mjs_0, mjs_1, mjs_2, mjs_3, mjs_ble, true_and, Bool.false_eq_true, if_false, if_true, Nat.reduceAdd, Nat.reduceSub, Nat.reduceLeDiff, e0, ht]
      refine ⟨fun q => q.elim, fun _ => mj_blk rfl ?_⟩
      simp +decide only [mjs_0, mjs_1, mjs_2, mjs_3, mjs_ble, true_and, Bool.false_eq_true, if_false, if_true, Nat.reduceAdd, Nat.reduceSub, Nat.reduceLeDiff, mjs_lit, mjs_ttb, Nat.reduceEqDiff, sh8]
      refine c_57x (l := 3) (s := 4) (f := 5) (n := 6) (a := 0) (k := k) (rn := 40) (w := pmc k) (nm_C8 r0 r1 r2 r4) rfl (by decide) (by omega) (by omega) (fun j hj => ⟨by rw [Nat.zero_add]; exact hrow j hj, by have := h256 j (by omega); omega⟩) hC hH (fun _ => by rw [e]; exact stp_at ek) (fun x hx hf => ?_) (fun hx => absurd hx (by omega)) (fun _ _ I2 b1 b2 b3 b4 => ?_)
      · rw [e] at hf
        have := pm_ne (by omega) ek hf
        omega
      · rw [e, ud_same (f := pmc), ud_same (f := pml), show stp k + pml k = stp (k + 1) from rfl, ud_same (f := stp)] at b1
        rw [e, ud_same (f := pmc), ud_same (f := pml)] at b2
        simp +decide only [mjs_0, mjs_1, mjs_2, mjs_3, mjs_ble, true_and, Bool.false_eq_true, if_false, if_true, Nat.reduceAdd, Nat.reduceSub, Nat.reduceLeDiff]
        refine K127 (k + 1) 0 I2 _ ?_ (by omega) (fun _ => Nat.zero_le _) (fun _ => rfl) b1 b2 (fun j hj => absurd hj (Nat.not_lt_zero _)) (fun b q hb => ?_)
        · show wof pml k + (pml k + 1) + 0 = _
          omega
        · rw [b3 b q (by omega) (by omega) (by omega) (by omega) (by omega)]
          exact h2 b q hb
    · have ht := (wck_at w2 ek).2 len (by omega)
      simp +decide only [mjs_0, mjs_1, mjs_2, mjs_3, mjs_ble, true_and, Bool.false_eq_true, if_false, if_true, Nat.reduceAdd, Nat.reduceSub, Nat.reduceLeDiff, e0, ht.1]
      refine ⟨fun _ => mj_blk rfl ?_, fun q => absurd ht.2 q⟩
      simp +decide only [mjs_0, mjs_1, mjs_2, mjs_3, mjs_ble, true_and, Bool.false_eq_true, if_false, if_true, Nat.reduceAdd, Nat.reduceSub, Nat.reduceLeDiff]
      refine ⟨fun q => absurd q (nI_ge (a := len) (b := 40) (by omega) (by decide)), fun _ => mj_blk rfl ?_⟩
      have el : (nI len).toNatClampNeg = len := nI_clamp (by omega)
      simp +decide only [mjs_0, mjs_1, mjs_2, mjs_3, mjs_ble, true_and, Bool.false_eq_true, if_false, if_true, Nat.reduceAdd, Nat.reduceSub, Nat.reduceLeDiff, mjs_lit, mjs_ttb, Nat.reduceEqDiff, sh8, nI_1, el]
      refine ⟨nI_in (by omega) (by decide), K127 k (len + 1) _ _ rfl (by omega) (fun _ => by omega) (fun h => absurd h (by omega)) hC hH (fun j hj => ?_) (fun b q hb => ?_)⟩
      · by_cases ej : j = len
        · rw [ej, mjs_up_at]
        · rw [mjs_up_ne (Or.inr ej)]
          exact hrow j (by omega)
      · rw [mjs_up_c (by omega)]
        exact h2 b q hb
theorem c_54x (h5 : I 2 5 = 0) (hQ : ∀ (I' : Nat → Nat → Int32) (Lg' : Nat → Nat → Int64) (Rf' : Nat → Nat → Option Nat), fd_C I' 2 3 4 5 6 pmc pml stp 36 → fd_H I' 5 6 pmc pml 36 → (∀ q, I' 8 q = I' 5 q) → (∀ b q, b < 2 → I' b q = I b q) → (∀ b q, b < 2 → Rf' b q = Rf b q) → Rf' 2 0 = some 3 → Rf' 2 1 = some 4 → Rf' 2 2 = some 5 → Rf' 2 3 = some 8 → Rf' 2 4 = some 6 → Q (.inl none) (sh9, I', Lg', Rf', 9, 42880)) :
    mj_call (mj_X0 L xs) mj_P (mj_bi (mj_X0 L xs)) (d + 2) 54 [.ref 2] ([(0, 8), (7, 4), (5, 6)], I, Lg, Rf, 3, 18) Q := by
  refine mj_enter (z := (5, [], mb_54)) (by decide) rfl rfl ?_
  refine mj_blk rfl ?_
  simp +decide only [mjs_0, mjs_1, mjs_2, mjs_3, mjs_ble, true_and, Bool.false_eq_true, if_false, if_true, Nat.reduceAdd, Nat.reduceSub, Nat.reduceLeDiff, mjs_lit, mjs_ttb, Nat.reduceEqDiff]
  refine c_904 (tx := mj_t2) (by decide) rfl ?_
  simp +decide only [mjs_0, mjs_1, mjs_2, mjs_3, mjs_ble, true_and, Bool.false_eq_true, if_false, if_true, Nat.reduceAdd, Nat.reduceSub, Nat.reduceLeDiff, mjs_lit, mjs_ttb, Nat.reduceEqDiff, mj_t2l, mj_t2c, mj_n1037, mj_n256, mj_n1036]
  refine f54_A (by simp +decide only [mjs_0, mjs_1, mjs_2, mjs_3, mjs_ble, true_and, Bool.false_eq_true, if_false, if_true, Nat.reduceAdd, Nat.reduceSub, Nat.reduceLeDiff, mjs_lit, mjs_ttb, Nat.reduceEqDiff]) (fun I1 h1 h2 => ?_) 256 0 _ rfl (fun q hq => absurd hq (Nat.not_lt_zero q)) (fun _ _ _ => rfl)
  refine mj_blk rfl ?_
  simp +decide only [mjs_0, mjs_1, mjs_2, mjs_3, mjs_ble, true_and, Bool.false_eq_true, if_false, if_true, Nat.reduceAdd, Nat.reduceSub, Nat.reduceLeDiff, mjs_lit, mjs_ttb, Nat.reduceEqDiff, sh7, mj_n40]
  refine f54_Bx (I := I) (by simp +decide only [mjs_0, mjs_1, mjs_2, mjs_3, mjs_ble, true_and, Bool.false_eq_true, if_false, if_true, Nat.reduceAdd, Nat.reduceSub, Nat.reduceLeDiff, mjs_lit, mjs_ttb, Nat.reduceEqDiff]) (by simp +decide only [mjs_0, mjs_1, mjs_2, mjs_3, mjs_ble, true_and, Bool.false_eq_true, if_false, if_true, Nat.reduceAdd, Nat.reduceSub, Nat.reduceLeDiff, mjs_lit, mjs_ttb, Nat.reduceEqDiff]) (by simp +decide only [mjs_0, mjs_1, mjs_2, mjs_3, mjs_ble, true_and, Bool.false_eq_true, if_false, if_true, Nat.reduceAdd, Nat.reduceSub, Nat.reduceLeDiff, mjs_lit, mjs_ttb, Nat.reduceEqDiff]) (by simp +decide only [mjs_0, mjs_1, mjs_2, mjs_3, mjs_ble, true_and, Bool.false_eq_true, if_false, if_true, Nat.reduceAdd, Nat.reduceSub, Nat.reduceLeDiff, mjs_lit, mjs_ttb, Nat.reduceEqDiff]) (fun I2 x hC2 hH2 h22 => ?_) 237 0 0 _ _ rfl (by decide) (fun _ => Nat.zero_le _) (fun _ => rfl) ?_ ?_ (fun j hj => absurd hj (Nat.not_lt_zero _)) ?_
  · refine mj_blk rfl ?_
    simp +decide only [mjs_0, mjs_1, mjs_2, mjs_3, mjs_ble, true_and, Bool.false_eq_true, if_false, if_true, Nat.reduceAdd, Nat.reduceSub, Nat.reduceLeDiff, mjs_lit, mjs_ttb, Nat.reduceEqDiff, sh8]
    refine c_903 (n := 256) rfl ⟨Nat.le_of_ble_eq_true rfl, Nat.le_of_ble_eq_true rfl⟩ ?_
    simp +decide only [mjs_0, mjs_1, mjs_2, mjs_3, mjs_ble, true_and, Bool.false_eq_true, if_false, if_true, Nat.reduceAdd, Nat.reduceSub, Nat.reduceLeDiff, mjs_lit, mjs_ttb, Nat.reduceEqDiff]
    refine hQ _ _ _ hC2 hH2 (fun q => rfl) (fun b q hb => ?_) (fun b q hb => ?_) ?_ ?_ ?_ ?_ ?_
    · rw [mjs_row_c (by omega)]
      exact h22 b q hb
    · rcases (show b = 0 ∨ b = 1 by omega) with rfl | rfl <;> simp +decide only [mjs_0, mjs_1, mjs_2, mjs_3, mjs_ble, true_and, Bool.false_eq_true, if_false, if_true, Nat.reduceAdd, Nat.reduceSub, Nat.reduceLeDiff, mjs_lit, mjs_ttb, Nat.reduceEqDiff]
    all_goals simp +decide only [mjs_0, mjs_1, mjs_2, mjs_3, mjs_ble, true_and, Bool.false_eq_true, if_false, if_true, Nat.reduceAdd, Nat.reduceSub, Nat.reduceLeDiff, mjs_lit, mjs_ttb, Nat.reduceEqDiff]
  · refine ⟨?_, by decide, fun j hj => ?_, fun j hj => absurd hj (Nat.not_lt_zero j), fun j hj => ?_, fun id j hid => absurd hid (Nat.not_lt_zero id)⟩
    · rw [mjs_row_c (by decide), h2 2 5 (by decide)]
      simp +decide only [mjs_0, mjs_1, mjs_2, mjs_3, mjs_ble, true_and, Bool.false_eq_true, if_false, if_true, Nat.reduceAdd, Nat.reduceSub, Nat.reduceLeDiff, mjs_lit, mjs_ttb, Nat.reduceEqDiff]
      exact h5
    · obtain rfl : j = 0 := by omega
      rw [mjs_row_c (by decide), h2 4 0 (by decide)]
      simp +decide only [mjs_0, mjs_1, mjs_2, mjs_3, mjs_ble, true_and, Bool.false_eq_true, if_false, if_true, Nat.reduceAdd, Nat.reduceSub, Nat.reduceLeDiff, mjs_lit, mjs_ttb, Nat.reduceEqDiff]
    · obtain rfl : j = 0 := by omega
      exact ⟨fun _ => by decide, fun h => absurd h (by decide)⟩
  · refine ⟨fun b hb => Or.inl ⟨?_, fun i hi => absurd hi (Nat.not_lt_zero i)⟩, fun j hj => absurd hj (Nat.not_lt_zero j)⟩
    rw [mjs_row_c (by decide)]
    exact h1 b hb
  · intro b q hb
    rw [mjs_row_c (by omega), h2 b q (by omega)]
    rcases (show b = 0 ∨ b = 1 by omega) with rfl | rfl <;> simp +decide only [mjs_0, mjs_1, mjs_2, mjs_3, mjs_ble, true_and, Bool.false_eq_true, if_false, if_true, Nat.reduceAdd, Nat.reduceSub, Nat.reduceLeDiff, mjs_lit, mjs_ttb, Nat.reduceEqDiff]
set_option maxRecDepth 20000 in
set_option maxHeartbeats 1000000 in
theorem c_0x (hz : ∀ q, I 0 q = 0) (hQ : ∀ (I' : Nat → Nat → Int32) (Lg' : Nat → Nat → Int64) (Rf' : Nat → Nat → Option Nat), (∀ b q, b < 36 → mz b → I' b q = 0) → fd_C I' 2 3 4 5 6 pmc pml stp 36 → fd_H I' 5 6 pmc pml 36 → (∀ q, I' 8 q = I' 5 q) → (∀ x, x < 1804 → I' 11 x = vbS x) → mj_Rt mp_R Rf' → Q (.inl none) (sh36, I', Lg', Rf', 36, 176631)) :
    mj_call (mj_X0 L xs) mj_P (mj_bi (mj_X0 L xs)) (d + 3) 0 [.ref 0] ([(0, 8)], I, Lg, Rf, 1, 8) Q := by
  refine mj_enter (z := (1, [], mb_0)) (by decide) rfl rfl ?_
  refine mj_blk rfl ?_
  simp +decide only [mjs_0, mjs_1, mjs_2, mjs_3, mjs_ble, true_and, Bool.false_eq_true, if_false, if_true, Nat.reduceAdd, Nat.reduceSub, Nat.reduceLeDiff, mjs_lit, mjs_ttb, Nat.reduceEqDiff]
  refine c_75 ?_
  simp +decide only [mjs_0, mjs_1, mjs_2, mjs_3, mjs_ble, true_and, Bool.false_eq_true, if_false, if_true, Nat.reduceAdd, Nat.reduceSub, Nat.reduceLeDiff, mjs_lit, mjs_ttb, Nat.reduceEqDiff]
  refine c_54x (by simp +decide only [mjs_0, mjs_1, mjs_2, mjs_3, mjs_ble, true_and, Bool.false_eq_true, if_false, if_true, Nat.reduceAdd, Nat.reduceSub, Nat.reduceLeDiff, mjs_lit, mjs_ttb, Nat.reduceEqDiff]) (fun I1 Lg1 Rf1 hn1 hn2 hn3 hi1 hr1 n0 n1 n2 n3 n4 => ?_)
  simp +decide only [mjs_0, mjs_1, mjs_2, mjs_3, mjs_ble, true_and, Bool.false_eq_true, if_false, if_true, Nat.reduceAdd, Nat.reduceSub, Nat.reduceLeDiff, mjs_lit, mjs_ttb, Nat.reduceEqDiff, sh9, hr1]
  refine c_89x (p := 1) (fun I2 Lg2 Rf2 hi2 hv2 hv11 hr2 s0 s1 s2 s3 s4 s6 s7 s9 => ?_)
  simp +decide only [mjs_0, mjs_1, mjs_2, mjs_3, mjs_ble, true_and, Bool.false_eq_true, if_false, if_true, Nat.reduceAdd, Nat.reduceSub, Nat.reduceLeDiff, mjs_lit, mjs_ttb, Nat.reduceEqDiff, sh17, hr2, hr1]
  have z18 : ∀ b q, b < 18 → mz b → mj_row I2 17 (fun _ => 0) b q = 0 := by
    intro b q hb hm
    unfold mz at hm
    by_cases h17 : b = 17
    · subst h17
      simp +decide only [mjs_0, mjs_1, mjs_2, mjs_3, mjs_ble, true_and, Bool.false_eq_true, if_false, if_true, Nat.reduceAdd, Nat.reduceSub, Nat.reduceLeDiff, mjs_lit, mjs_ttb, Nat.reduceEqDiff]
    rw [mjs_row_c h17]
    by_cases h10 : b < 10
    · rw [hi2 b q h10]
      by_cases h9 : b = 9
      · subst h9
        simp +decide only [mjs_0, mjs_1, mjs_2, mjs_3, mjs_ble, true_and, Bool.false_eq_true, if_false, if_true, Nat.reduceAdd, Nat.reduceSub, Nat.reduceLeDiff, mjs_lit, mjs_ttb, Nat.reduceEqDiff]
      rw [mjs_row_c h9, hi1 b q (by omega)]
      rcases (show b = 0 ∨ b = 1 by omega) with rfl | rfl <;> simp +decide only [mjs_0, mjs_1, mjs_2, mjs_3, mjs_ble, true_and, Bool.false_eq_true, if_false, if_true, Nat.reduceAdd, Nat.reduceSub, Nat.reduceLeDiff, mjs_lit, mjs_ttb, Nat.reduceEqDiff, hz]
    · exact hv2 b q (by omega) (by omega) (by omega)
  refine c_81 (a1 := 2) (a2 := 9) (a3 := 1) z18 (fun I3 Lg3 Rf3 z3 y3 hr3 g0 g1 g2 g3 g4 g5 => ?_)
  simp +decide only [mjs_0, mjs_1, mjs_2, mjs_3, mjs_ble, true_and, Bool.false_eq_true, if_false, if_true, Nat.reduceAdd, Nat.reduceSub, Nat.reduceLeDiff, mjs_lit, mjs_ttb, Nat.reduceEqDiff, sh21, hr3, hr2, hr1]
  refine c_45 (a1 := 1) (fun b q hb hm => mz_row z3 hb hm) (fun I4 Lg4 Rf4 z4 y4 hr4 k0 k1 k2 k3 => ?_)
  simp +decide only [mjs_0, mjs_1, mjs_2, mjs_3, mjs_ble, true_and, Bool.false_eq_true, if_false, if_true, Nat.reduceAdd, Nat.reduceSub, Nat.reduceLeDiff, mjs_lit, mjs_ttb, Nat.reduceEqDiff, sh25, hr4, hr3, hr2, hr1]
  refine c_17 (a1 := 17) (a2 := 9) (a3 := 1) (fun b q hb hm => mz_row z4 hb hm) (fun I5 Lg5 Rf5 z5 y5 hr5 q0 q1 q2 q3 q4 => ?_)
  simp +decide only [mjs_0, mjs_1, mjs_2, mjs_3, mjs_ble, true_and, Bool.false_eq_true, if_false, if_true, Nat.reduceAdd, Nat.reduceSub, Nat.reduceLeDiff, mjs_lit, mjs_ttb, Nat.reduceEqDiff, sh28, hr5, hr4, hr3, hr2, hr1]
  refine c_21 (a1 := 17) (a2 := 2) (a3 := 9) (a4 := 21) (a5 := 25) (a6 := 1) (fun b q hb hm => mz_row z5 hb hm) (fun I6 Lg6 Rf6 z6 y6 hr6 e0 e1 e2 e3 e4 e5 e6 e7 m0 m1 m2 m3 m4 m5 => ?_)
  simp +decide only [mjs_0, mjs_1, mjs_2, mjs_3, mjs_ble, true_and, Bool.false_eq_true, if_false, if_true, Nat.reduceAdd, Nat.reduceSub, Nat.reduceLeDiff, mjs_lit, mjs_ttb, Nat.reduceEqDiff, sh34, hr6, hr5, hr4, hr3, hr2, hr1]
  refine c_58 (a1 := 28) (a2 := 17) (a3 := 9) (a4 := 21) (a5 := 1) (fun b q hb hm => mz_row z6 hb hm) (fun I7 Lg7 Rf7 z7 y7 hr7 w0 w1 w2 w3 w4 w5 => ?_)
  simp +decide only [mjs_0, mjs_1, mjs_2, mjs_3, mjs_ble, true_and, Bool.false_eq_true, if_false, if_true, Nat.reduceAdd, Nat.reduceSub, Nat.reduceLeDiff, mjs_lit, mjs_ttb, Nat.reduceEqDiff, sh36]
  have kp : ∀ b q, (b < 9 ∧ 2 ≤ b) ∨ b = 11 → I7 b q = I2 b q := fun b q hb => by
    have nz : ¬ mz b := by unfold mz; omega
    rw [y7 b q (by omega) nz, mjs_row_c (by omega), y6 b q (by omega) nz, mjs_row_c (by omega), y5 b q (by omega) nz, mjs_row_c (by omega), y4 b q (by omega) nz, mjs_row_c (by omega), y3 b q (by omega) nz, mjs_row_c (by omega)]
  have kn : ∀ b q, b < 9 ∧ 2 ≤ b → I7 b q = I1 b q := fun b q hb => by
    rw [kp b q (Or.inl hb), hi2 b q (by omega), mjs_row_c (by omega)]
  obtain ⟨f1, f2, f3, f4, f5, f6⟩ := hn1
  refine hQ _ _ _ z7 ⟨(kn 2 5 (by omega)).trans f1, f2, fun j hj => (kn 4 j (by omega)).trans (f3 j hj), f4, f5, fun id j hid hj => ?_⟩ ⟨fun b hb => ?_, fun j hj => ?_⟩ (fun q => ?_) (fun x hx => ?_) ?_
  · rw [kn 3 _ (by omega)]
    exact f6 id j hid hj
  · rw [kn 5 b (by omega)]
    exact hn2.1 b hb
  · rw [kn 6 j (by omega)]
    exact hn2.2 j hj
  · rw [kn 8 q (by omega), kn 5 q (by omega)]
    exact hn3 q
  · rw [kp 11 x (Or.inr rfl)]
    exact hv11 x hx
  · simp +decide only [mp_R, mj_Rt, mjs_0, mjs_1, mjs_2, mjs_3, mjs_ble, true_and, Bool.false_eq_true, if_false, if_true, Nat.reduceAdd, Nat.reduceSub, Nat.reduceLeDiff, mjs_lit, mjs_ttb, Nat.reduceEqDiff, hr7, hr6, hr5, hr4, hr3, hr2, hr1, n0, n1, n2, n3, n4, s0, s1, s2, s3, s4, s6, s7, s9, g0, g1, g2, g3, g4, g5, k0, k1, k2, k3, q0, q1, q2, q3, q4, e0, e1, e2, e3, e4, e5, e6, e7, m0, m1, m2, m3, m4, m5, w0, w1, w2, w3, w4, w5, and_self]
end MJMX
