/-! THE CLASS: a line begun -/
section MJCLN
variable {X : mj_X} {d nc ns n nl ln : Nat} {Q : mj_Q} {sh : List (Nat × Nat)} {I : Nat → Nat → Int32} {Lg : Nat → Nat → Int64} {Rf : Nat → Nat → Option Nat}
def cl_ln (I I' : Nat → Nat → Int32) (nl ln e a : Nat) : Prop := (∀ c q, c ≠ 17 → c ≠ 18 → I' c q = I c q) ∧ (∀ q, q ≠ 2 → q ≠ 3 → q ≠ 4 → q ≠ 5 → q ≠ 6 → I' 17 q = I 17 q) ∧ I' 17 2 = nI (e + 1) ∧ I' 17 3 = nI nl ∧ I' 17 4 = nI a ∧ I' 17 5 = 0 ∧ I' 17 6 = nI (ln + 1) ∧ I' 18 a = 13 ∧ ∀ i, i ≠ a → I' 18 i = I 18 i
theorem c_87g (c1 : sh[17]? = some (8, 13)) (s18 : sh[18]? = some (1000, 4001)) (r0 : Rf 17 0 = some 18) (hn : n ≤ 4000) (h1 : I 17 1 = nI n) (h5 : I 17 2 = nI nl) (h6 : I 17 6 = nI ln) (hnl : nl ≤ 4001)
    (hQ0 : n ≤ nl → Q (.inl (some (.int 0))) (sh, I, Lg, Rf, nc, ns)) (hQ1 : nl < n → ∀ (e a : Nat) (I' : Nat → Nat → Int32), ln_E (I 18) n nl e → ln_A (I 18) nl e a → cl_ln I I' nl ln e a → Q (.inl (some (.int 1))) (sh, I', Lg, Rf, nc, ns)) : mj_call X mj_P (mj_bi X) (d + 1) 87 [.ref 17] (sh, I, Lg, Rf, nc, ns) Q := by
  refine mj_enter (z := (2, [], mb_87)) (by decide) rfl rfl ?_
  refine mj_blk rfl ?_
  simp +decide only [mjs_0, mjs_1, mjs_2, mjs_3, mjs_ble, true_and, Bool.false_eq_true, if_false, if_true, Nat.reduceAdd, Nat.reduceSub, Nat.reduceLeDiff, mjs_ob c1, h1, h5]
  refine ⟨fun q => mj_blk rfl ?_, fun q => mj_blk rfl ?_⟩
  · have hlt : nl < n := (nI_ltI (by omega) (by omega)).mp q
    have K85 : ∀ (e a : Nat), ln_E (I 18) n nl e → ln_A (I 18) nl e a →
        mj_rn X (mj_hd []) (mj_call X mj_P (mj_bi X) d) mb_87 85 [some (.ref 17), some (.int (nI a))] [] (sh, mj_up (mj_up I 17 3 (nI nl)) 17 2 (nI (e + 1)), Lg, Rf, nc, ns) Q := by
      intro e a hE hAa
      have e1 : (nI a).toNatClampNeg = a := nI_clamp (by have := hAa.2.1; have := hE.2.1; omega)
      have u6 : ∀ (J : Nat → Nat → Int32) (j : Nat) (w : Int32), mj_up J 18 j w 17 6 = J 17 6 := fun J j w => mjs_up_c (by decide)
      refine mj_blk rfl ?_
      simp +decide only [mjs_0, mjs_1, mjs_2, mjs_3, mjs_ble, true_and, Bool.false_eq_true, if_false, if_true, Nat.reduceAdd, Nat.reduceSub, Nat.reduceLeDiff, mjs_ob c1, r0, mjs_ar (t := 0) s18, e1, nI_1]
      refine ⟨nI_in (by have := hAa.2.1; have := hE.2.1; omega) (by decide), hQ1 hlt e a _ hE hAa ⟨fun c q b1 b2 => ?_, fun q b1 b2 b3 b4 b5 => ?_, ?_, ?_, ?_, ?_, ?_, ?_, fun i hi => ?_⟩⟩
      · simp only [mjs_up_c b1, mjs_up_c b2]
      · rw [mjs_up_ne (Or.inr b5), mjs_up_ne (Or.inr b4), mjs_up_ne (Or.inr b3), mjs_up_c (by decide), mjs_up_ne (Or.inr b1), mjs_up_ne (Or.inr b2)]
      · simp +decide only [mjs_0, mjs_1, mjs_2, mjs_3, mjs_ble, true_and, Bool.false_eq_true, if_false, if_true, Nat.reduceAdd, Nat.reduceSub, Nat.reduceLeDiff, mjs_lit, mjs_ttb, Nat.reduceEqDiff]
      · simp +decide only [mjs_0, mjs_1, mjs_2, mjs_3, mjs_ble, true_and, Bool.false_eq_true, if_false, if_true, Nat.reduceAdd, Nat.reduceSub, Nat.reduceLeDiff, mjs_lit, mjs_ttb, Nat.reduceEqDiff]
      · simp +decide only [mjs_0, mjs_1, mjs_2, mjs_3, mjs_ble, true_and, Bool.false_eq_true, if_false, if_true, Nat.reduceAdd, Nat.reduceSub, Nat.reduceLeDiff, mjs_lit, mjs_ttb, Nat.reduceEqDiff]
      · simp +decide only [mjs_0, mjs_1, mjs_2, mjs_3, mjs_ble, true_and, Bool.false_eq_true, if_false, if_true, Nat.reduceAdd, Nat.reduceSub, Nat.reduceLeDiff, mjs_lit, mjs_ttb, Nat.reduceEqDiff]
      · simp +decide only [mjs_0, mjs_1, mjs_2, mjs_3, mjs_ble, true_and, Bool.false_eq_true, if_false, if_true, Nat.reduceAdd, Nat.reduceSub, Nat.reduceLeDiff, mjs_lit, mjs_ttb, Nat.reduceEqDiff, h6, nI_1]
      · simp +decide only [mjs_0, mjs_1, mjs_2, mjs_3, mjs_ble, true_and, Bool.false_eq_true, if_false, if_true, Nat.reduceAdd, Nat.reduceSub, Nat.reduceLeDiff, mjs_lit, mjs_ttb, Nat.reduceEqDiff]
      · simp +decide only [mjs_0, mjs_1, mjs_2, mjs_3, mjs_ble, true_and, Bool.false_eq_true, if_false, if_true, Nat.reduceAdd, Nat.reduceSub, Nat.reduceLeDiff, mjs_lit, mjs_ttb, Nat.reduceEqDiff, hi]
    have L58 : ∀ (e : Nat), ln_E (I 18) n nl e → ∀ (k a : Nat), a = nl + k → a ≤ e → (∀ j, a ≤ j → j < e → I 18 j = 32) →
        mj_rn X (mj_hd []) (mj_call X mj_P (mj_bi X) d) mb_87 58 [some (.ref 17), some (.int (nI a))] [] (sh, mj_up (mj_up I 17 3 (nI nl)) 17 2 (nI (e + 1)), Lg, Rf, nc, ns) Q := by
      intro e hE k
      have E := hE
      obtain ⟨E1, E2, E3, E4⟩ := E
      have g3 : mj_up (mj_up I 17 3 (nI nl)) 17 2 (nI (e + 1)) 17 3 = nI nl := by simp +decide only [mjs_0, mjs_1, mjs_2, mjs_3, mjs_ble, true_and, Bool.false_eq_true, if_false, if_true, Nat.reduceAdd, Nat.reduceSub, Nat.reduceLeDiff, mjs_lit, mjs_ttb, Nat.reduceEqDiff]
      have g18 : ∀ q, mj_up (mj_up I 17 3 (nI nl)) 17 2 (nI (e + 1)) 18 q = I 18 q := fun q => by simp +decide only [mjs_0, mjs_1, mjs_2, mjs_3, mjs_ble, true_and, Bool.false_eq_true, if_false, if_true, Nat.reduceAdd, Nat.reduceSub, Nat.reduceLeDiff, mjs_lit, mjs_ttb, Nat.reduceEqDiff]
      induction k with
      | zero =>
        intro a ha hae hsp
        obtain rfl : a = nl := by omega
        refine mj_blk rfl ?_
        simp +decide only [mjs_0, mjs_1, mjs_2, mjs_3, mjs_ble, true_and, Bool.false_eq_true, if_false, if_true, Nat.reduceAdd, Nat.reduceSub, Nat.reduceLeDiff, mjs_ob c1, g3]
        exact ⟨fun _ => K85 e a hE ⟨Nat.le_refl _, hae, hsp, Or.inl rfl⟩, fun q => absurd (nI_le (Nat.le_refl a) (by omega)) q⟩
      | succ k ih =>
        intro a ha hae hsp
        obtain ⟨a', rfl⟩ : ∃ a', a = a' + 1 := ⟨a - 1, by omega⟩
        have e2 : (nI a').toNatClampNeg = a' := nI_clamp (by omega)
        refine mj_blk rfl ?_
        simp +decide only [mjs_0, mjs_1, mjs_2, mjs_3, mjs_ble, true_and, Bool.false_eq_true, if_false, if_true, Nat.reduceAdd, Nat.reduceSub, Nat.reduceLeDiff, mjs_ob c1, g3]
        refine ⟨fun q => absurd ((nI_leI (by omega) (by omega)).mp q) (by omega), fun _ => mj_blk rfl ?_⟩
        simp +decide only [mjs_0, mjs_1, mjs_2, mjs_3, mjs_ble, true_and, Bool.false_eq_true, if_false, if_true, Nat.reduceAdd, Nat.reduceSub, Nat.reduceLeDiff, mjs_ob c1, r0, nI_pred, mjs_ar (t := 0) s18, e2, g18]
        refine ⟨nI_in (by omega) (by decide), fun q => K85 e (a' + 1) hE ⟨by omega, hae, hsp, Or.inr q⟩, fun q => mj_blk rfl ?_⟩
        have e3 : nI (a' + 1) + (-1) = nI a' := pk_m1 a'
        simp +decide only [mjs_0, mjs_1, mjs_2, mjs_3, mjs_ble, true_and, Bool.false_eq_true, if_false, if_true, Nat.reduceAdd, Nat.reduceSub, Nat.reduceLeDiff, e3]
        refine ih a' (by omega) (by omega) (fun j b1 b2 => ?_)
        by_cases hj : j = a'
        · rw [hj]
          exact Decidable.not_not.mp q
        · exact hsp j (by omega) b2
    have L18 : ∀ (k j : Nat), nl ≤ j → j + k = n → (∀ i, nl ≤ i → i < j → ¬ I 18 i = 10) →
        mj_rn X (mj_hd []) (mj_call X mj_P (mj_bi X) d) mb_87 18 [some (.ref 17), some (.int (nI j))] [] (sh, I, Lg, Rf, nc, ns) Q := by
      intro k
      have K43 : ∀ j, nl ≤ j → j ≤ n → (∀ i, nl ≤ i → i < j → ¬ I 18 i = 10) → (j = n ∨ I 18 j = 10) → mj_rn X (mj_hd []) (mj_call X mj_P (mj_bi X) d) mb_87 43 [some (.ref 17), some (.int (nI j))] [] (sh, I, Lg, Rf, nc, ns) Q := by
        intro j b1 b2 b3 b4
        refine mj_blk rfl ?_
        simp +decide only [mjs_0, mjs_1, mjs_2, mjs_3, mjs_ble, true_and, Bool.false_eq_true, if_false, if_true, Nat.reduceAdd, Nat.reduceSub, Nat.reduceLeDiff, mjs_ob c1, h5, nI_1]
        exact L58 j ⟨b1, b2, b3, b4⟩ (j - nl) j (by omega) (Nat.le_refl _) (fun i a1 a2 => absurd a1 (by omega))
      induction k with
      | zero =>
        intro j hj hk hne
        obtain rfl : j = n := by omega
        refine mj_blk rfl ?_
        simp +decide only [mjs_0, mjs_1, mjs_2, mjs_3, mjs_ble, true_and, Bool.false_eq_true, if_false, if_true, Nat.reduceAdd, Nat.reduceSub, Nat.reduceLeDiff, mjs_ob c1, h1]
        exact ⟨fun _ => K43 j hj (Nat.le_refl _) hne (Or.inl rfl), fun q => absurd (nI_le (Nat.le_refl j) (by omega)) q⟩
      | succ k ih =>
        intro j hj hk hne
        have e2 : (nI j).toNatClampNeg = j := nI_clamp (by omega)
        refine mj_blk rfl ?_
        simp +decide only [mjs_0, mjs_1, mjs_2, mjs_3, mjs_ble, true_and, Bool.false_eq_true, if_false, if_true, Nat.reduceAdd, Nat.reduceSub, Nat.reduceLeDiff, mjs_ob c1, h1]
        refine ⟨fun q => absurd q (nI_ge (by omega) (by omega)), fun _ => mj_blk rfl ?_⟩
        simp +decide only [mjs_0, mjs_1, mjs_2, mjs_3, mjs_ble, true_and, Bool.false_eq_true, if_false, if_true, Nat.reduceAdd, Nat.reduceSub, Nat.reduceLeDiff, mjs_ob c1, r0, mjs_ar (t := 0) s18, e2]
        refine ⟨nI_in (by omega) (by decide), fun q => K43 j hj (by omega) hne (Or.inr q), fun q => mj_blk rfl ?_⟩
        simp +decide only [mjs_0, mjs_1, mjs_2, mjs_3, mjs_ble, true_and, Bool.false_eq_true, if_false, if_true, Nat.reduceAdd, Nat.reduceSub, Nat.reduceLeDiff, nI_1]
        refine ih (j + 1) (by omega) (by omega) (fun i a1 a2 => ?_)
        by_cases hi : i = j
        · rw [hi]
          exact q
        · exact hne i a1 (by omega)
    simp +decide only [mjs_0, mjs_1, mjs_2, mjs_3, mjs_ble, true_and, Bool.false_eq_true, if_false, if_true, Nat.reduceAdd, Nat.reduceSub, Nat.reduceLeDiff, mjs_ob c1, h5]
    exact L18 (n - nl) nl (Nat.le_refl _) (by omega) (fun i a1 a2 => absurd a1 (by omega))
  · have h : n ≤ nl := by
      by_cases h : n ≤ nl
      · exact h
      · exact absurd (nI_lt (by omega) (by omega)) q
    simp +decide only [mjs_0, mjs_1, mjs_2, mjs_3, mjs_ble, true_and, Bool.false_eq_true, if_false, if_true, Nat.reduceAdd, Nat.reduceSub, Nat.reduceLeDiff]
    exact hQ0 h
/-- a line's end and its spaces' beginning are one each -/
theorem ln_E_one {v : Nat → Int32} {e e' : Nat} (h : ln_E v n nl e) (h' : ln_E v n nl e') : e = e' := by
  obtain ⟨a1, a2, a3, a4⟩ := h
  obtain ⟨b1, b2, b3, b4⟩ := h'
  rcases Nat.lt_trichotomy e e' with q | q | q
  · rcases a4 with w | w
    · omega
    · exact absurd w (b3 e a1 q)
  · exact q
  · rcases b4 with w | w
    · omega
    · exact absurd w (a3 e' b1 q)
theorem ln_A_one {v : Nat → Int32} {e a a' : Nat} (h : ln_A v nl e a) (h' : ln_A v nl e a') : a = a' := by
  obtain ⟨a1, a2, a3, a4⟩ := h
  obtain ⟨b1, b2, b3, b4⟩ := h'
  rcases Nat.lt_trichotomy a a' with q | q | q
  · rcases b4 with w | w
    · omega
    · exact absurd (a3 (a' - 1) (by omega) (by omega)) w
  · exact q
  · rcases a4 with w | w
    · omega
    · exact absurd (b3 (a - 1) (by omega) (by omega)) w
end MJCLN
