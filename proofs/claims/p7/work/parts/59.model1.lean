/-! THE REFERENCE: its primitives, all cleared -/
section MJM1
variable {L d nc ns : Nat} {xs : Nat → Int32} {Q : mj_Q} {sh : List (Nat × Nat)} {I : Nat → Nat → Int32} {Lg : Nat → Nat → Int64} {Rf : Nat → Nat → Option Nat}
/-- what 'primitives' may change -/
def mm_P (I I' : Nat → Nat → Int32) : Prop := (∀ b q, b ≠ 36 → b ≠ 40 → b ≠ 41 → b ≠ 42 → b ≠ 45 → I' b q = I b q) ∧ ∀ q, q ≠ 11 → q ≠ 15 → I' 36 q = I 36 q
theorem f108 (hC : mm_C sh) (hR : mj_Rt mm_R Rf) (hQ : ∀ I' : Nat → Nat → Int32, mm_P I I' → Q (.inl none) (sh, I', Lg, Rf, nc, ns)) :
    ∀ (ts : List Int32) (i n nm : Nat) (I' : Nat → Nat → Int32) (w : Option Value), mj_t3.drop i = ts → mj_rls ts n = true → nm ≤ i → i ≤ 237 → I' 36 11 = nI nm → I' 36 15 = nI n → mm_P I I' →
      mj_rn (mj_X0 L xs) (mj_hd []) (mj_call (mj_X0 L xs) mj_P (mj_bi (mj_X0 L xs)) (d + 1)) mb_108 7 [some (.ref 36), some (.ref 900003), some (.int (nI i)), w] [] (sh, I', Lg, Rf, nc, ns) Q := by
  have hC' := hC
  obtain ⟨c1, c2, c3, c4, c5, c6, c7⟩ := hC
  have r14 := hR.at (a := 36) (b := 14) (c := 42) (by decide)
  have r19 := hR.at (a := 36) (b := 19) (c := 45) (by decide)
  intro ts
  induction ts with
  | nil =>
    intro i n nm I' w hd hrl hni hi h11 h15 hP
    have hl : 237 ≤ i := by
      have := List.drop_eq_nil_iff.mp hd
      rw [mj_t3l] at this
      exact this
    obtain rfl : i = 237 := by omega
    refine mj_blk rfl ?_
    simp +decide only [mjs_0, mjs_1, mjs_2, mjs_3, mjs_ble, true_and, Bool.false_eq_true, if_false, if_true, Nat.reduceAdd, Nat.reduceSub, Nat.reduceLeDiff]
    refine c_904 (tx := mj_t3) (by decide) rfl ?_
    simp +decide only [mjs_0, mjs_1, mjs_2, mjs_3, mjs_ble, true_and, Bool.false_eq_true, if_false, if_true, Nat.reduceAdd, Nat.reduceSub, Nat.reduceLeDiff, mj_t3l]
    refine ⟨fun _ => mj_blk rfl ?_, fun q => q.elim⟩
    simp +decide only [mjs_0, mjs_1, mjs_2, mjs_3, mjs_ble, true_and, Bool.false_eq_true, if_false, if_true, Nat.reduceAdd, Nat.reduceSub, Nat.reduceLeDiff]
    exact hQ I' hP
  | cons t ts ih =>
    intro i n nm I' w hd hrl hni hi h11 h15 hP
    have hlt : i < mj_t3.length := by
      by_cases h : i < mj_t3.length
      · exact h
      · rw [List.drop_eq_nil_iff.mpr (by omega)] at hd
        cases hd
    have hlt' : i < 237 := by rw [mj_t3l] at hlt; exact hlt
    rw [List.drop_eq_getElem_cons hlt] at hd
    have ht : mj_t3.getD i 0 = t := by
      rw [List.getD_eq_getElem?_getD, List.getElem?_eq_getElem hlt]
      exact (List.cons.inj hd).1
    have hd' : mj_t3.drop (i + 1) = ts := (List.cons.inj hd).2
    unfold mj_rls at hrl
    rw [Bool.and_eq_true] at hrl
    have hn40 : n ≤ 40 := Nat.le_of_ble_eq_true hrl.1
    have e0 : (nI i).toNatClampNeg = i := nI_clamp (by omega)
    have K73 : ∀ (n' nm' : Nat) (I2 : Nat → Nat → Int32) (w : Option Value), mj_rls ts n' = true → nm' ≤ i + 1 → I2 36 11 = nI nm' → I2 36 15 = nI n' → mm_P I I2 → mj_rn (mj_X0 L xs) (mj_hd []) (mj_call (mj_X0 L xs) mj_P (mj_bi (mj_X0 L xs)) (d + 1)) mb_108 73 [some (.ref 36), some (.ref 900003), some (.int (nI i)), w] [] (sh, I2, Lg, Rf, nc, ns) Q := by
      intro n' nm' I2 w a1 a2 a3 a4 a5
      refine mj_blk rfl ?_
      simp +decide only [mjs_0, mjs_1, mjs_2, mjs_3, mjs_ble, true_and, Bool.false_eq_true, if_false, if_true, Nat.reduceAdd, Nat.reduceSub, Nat.reduceLeDiff, nI_1]
      exact ih (i + 1) n' nm' I2 _ hd' a1 a2 (by omega) a3 a4 a5
    refine mj_blk rfl ?_
    simp +decide only [mjs_0, mjs_1, mjs_2, mjs_3, mjs_ble, true_and, Bool.false_eq_true, if_false, if_true, Nat.reduceAdd, Nat.reduceSub, Nat.reduceLeDiff]
    refine c_904 (tx := mj_t3) (by decide) rfl ?_
    simp +decide only [mjs_0, mjs_1, mjs_2, mjs_3, mjs_ble, true_and, Bool.false_eq_true, if_false, if_true, Nat.reduceAdd, Nat.reduceSub, Nat.reduceLeDiff, mj_t3l]
    refine ⟨fun q => absurd q (nI_ge (by omega) (by decide)), fun _ => mj_blk rfl ?_⟩
    simp +decide only [mjs_0, mjs_1, mjs_2, mjs_3, mjs_ble, true_and, Bool.false_eq_true, if_false, if_true, Nat.reduceAdd, Nat.reduceSub, Nat.reduceLeDiff]
    refine c_905 (tx := mj_t3) (by decide) rfl (nI_in (by omega) (by rw [mj_t3l]; decide)) ?_
    simp +decide only [mjs_0, mjs_1, mjs_2, mjs_3, mjs_ble, true_and, Bool.false_eq_true, if_false, if_true, Nat.reduceAdd, Nat.reduceSub, Nat.reduceLeDiff, e0, ht]
    refine ⟨fun q => mj_blk rfl ?_, fun q => mj_blk rfl ?_⟩
    · rw [if_neg q] at hrl
      simp +decide only [mjs_0, mjs_1, mjs_2, mjs_3, mjs_ble, true_and, Bool.false_eq_true, if_false, if_true, Nat.reduceAdd, Nat.reduceSub, Nat.reduceLeDiff, mjs_ob c1, r14, h15]
      refine c_905 (tx := mj_t3) (by decide) rfl (nI_in (by omega) (by rw [mj_t3l]; decide)) ?_
      have u1 : ∀ (J : Nat → Nat → Int32) (j : Nat) (w : Int32) (q : Nat), mj_up J 42 j w 36 q = J 36 q := fun J j w q => mjs_up_c (by decide)
      simp +decide only [mjs_0, mjs_1, mjs_2, mjs_3, mjs_ble, true_and, Bool.false_eq_true, if_false, if_true, Nat.reduceAdd, Nat.reduceSub, Nat.reduceLeDiff, mjs_ob c1, mjs_ar (t := 0) c4, u1, h15, nI_1]
      refine ⟨nI_in (by omega) (by decide), K73 (n + 1) nm _ _ hrl.2 (by omega) ?_ mjs_up_at ⟨fun b q h1 h2 h3 h4 h5 => ?_, fun q h1 h2 => ?_⟩⟩
      · rw [mjs_up_ne (Or.inr (by decide)), mjs_up_c (by decide)]
        exact h11
      · rw [mjs_up_c h1, mjs_up_c h4]
        exact hP.1 b q h1 h2 h3 h4 h5
      · rw [mjs_up_ne (Or.inr h2), mjs_up_c (by decide)]
        exact hP.2 q h1 h2
    · rw [if_pos (Decidable.not_not.mp q)] at hrl
      simp +decide only [mjs_0, mjs_1, mjs_2, mjs_3, mjs_ble, true_and, Bool.false_eq_true, if_false, if_true, Nat.reduceAdd, Nat.reduceSub, Nat.reduceLeDiff, mjs_rc c1]
      refine c_109 hC' hR (nm := nm) (sz := n) (by omega) hn40 h11 h15 (fun I2 hf1 hf2 hf3 => ?_)
      have e1 : (1000 : Int32) + nI nm = nI (1000 + nm) := nI_add 1000 nm
      simp +decide only [mjs_0, mjs_1, mjs_2, mjs_3, mjs_ble, true_and, Bool.false_eq_true, if_false, if_true, Nat.reduceAdd, Nat.reduceSub, Nat.reduceLeDiff, mjs_ob c1, r19, mjs_ar (t := 0) c5]
      refine ⟨nI_in (by omega) (by decide), K73 0 (nm + 1) _ _ hrl.2 (by omega) ?_ mjs_up_at ⟨fun b q h1 h2 h3 h4 h5 => ?_, fun q h1 h2 => ?_⟩⟩
      · rw [mjs_up_ne (Or.inr (by decide)), mjs_up_c (by decide)]
        exact hf3
      · rw [mjs_up_c h1, mjs_up_c h5, hf1 b q h1 h2 h3]
        exact hP.1 b q h1 h2 h3 h4 h5
      · rw [mjs_up_ne (Or.inr h2), mjs_up_c (by decide), hf2 q h1]
        exact hP.2 q h1 h2
theorem c_108 (hC : mm_C sh) (hR : mj_Rt mm_R Rf) (h11 : I 36 11 = 0) (hQ : ∀ I' : Nat → Nat → Int32, mm_P I I' → Q (.inl none) (sh, I', Lg, Rf, nc, ns)) :
    mj_call (mj_X0 L xs) mj_P (mj_bi (mj_X0 L xs)) (d + 2) 108 [.ref 36, .ref 900003] (sh, I, Lg, Rf, nc, ns) Q := by
  have c1 := hC.1
  refine mj_enter (z := (4, [], mb_108)) (by decide) rfl rfl ?_
  refine mj_blk rfl ?_
  simp +decide only [mjs_0, mjs_1, mjs_2, mjs_3, mjs_ble, true_and, Bool.false_eq_true, if_false, if_true, Nat.reduceAdd, Nat.reduceSub, Nat.reduceLeDiff, mjs_ob c1]
  refine f108 hC hR hQ mj_t3 0 0 0 _ _ rfl mj_t3r (Nat.le_refl _) (by decide) ?_ mjs_up_at ⟨fun b q h1 h2 h3 h4 h5 => mjs_up_c h1, fun q h1 h2 => mjs_up_ne (Or.inr h2)⟩
  rw [mjs_up_ne (Or.inr (by decide))]
  exact h11
end MJM1
