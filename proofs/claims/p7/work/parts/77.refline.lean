/-! THE REFERENCE: a line begun -/
/-- where the line that begins at nl ends (e), and where its spaces begin (a) -/
def ln_E (v : Nat → Int32) (n nl e : Nat) : Prop := nl ≤ e ∧ e ≤ n ∧ (∀ j, nl ≤ j → j < e → ¬ v j = 10) ∧ (e = n ∨ v e = 10)
def ln_A (v : Nat → Int32) (nl e a : Nat) : Prop := nl ≤ a ∧ a ≤ e ∧ (∀ j, a ≤ j → j < e → v j = 32) ∧ (a = nl ∨ ¬ v (a - 1) = 32)
section MJRLN
variable {X : mj_X} {d nc ns m n nl ln : Nat} {Q : mj_Q} {sh : List (Nat × Nat)} {I : Nat → Nat → Int32} {Lg : Nat → Nat → Int64} {Rf : Nat → Nat → Option Nat}
def mr_ln (I I' : Nat → Nat → Int32) (m nl ln e a : Nat) : Prop := (∀ c q, c ≠ m → c ≠ m + 3 → I' c q = I c q) ∧ (∀ q, q ≠ 5 → q ≠ 6 → q ≠ 8 → q ≠ 9 → q ≠ 10 → I' m q = I m q) ∧ I' m 5 = nI (e + 1) ∧ I' m 6 = nI (ln + 1) ∧ I' m 8 = nI (a - nl + 1) ∧ I' m 9 = 0 ∧ I' m 10 = 0 ∧ (∀ i, i < a - nl → I' (m + 3) i = I (m + 1) (nl + i) &&& 255) ∧ I' (m + 3) (a - nl) = 13
theorem r_113 (hW : mr_W sh Rf m) (hn : n ≤ 4000) (h1 : I m 1 = nI n) (h5 : I m 5 = nI nl) (h6 : I m 6 = nI ln) (hln : ln < 2 ^ 30) (hnl : nl ≤ 4001)
    (hQ0 : n ≤ nl → Q (.inl (some (.int 0))) (sh, I, Lg, Rf, nc, ns)) (hQ1 : nl < n → ∀ (e a : Nat) (I' : Nat → Nat → Int32), ln_E (I (m + 1)) n nl e → ln_A (I (m + 1)) nl e a → mr_ln I I' m nl ln e a → Q (.inl (some (.int 1))) (sh, I', Lg, Rf, nc, ns)) : mj_call X mj_P (mj_bi X) (d + 1) 113 [.ref m] (sh, I, Lg, Rf, nc, ns) Q := by
  obtain ⟨c1, hA⟩ := hW
  obtain ⟨r2, s2⟩ := hA 2 1 1004 4000 (by decide)
  obtain ⟨r7, s7⟩ := hA 7 3 1000 4001 (by decide)
  refine mj_enter (z := (4, [], mb_113)) (by decide) rfl rfl ?_
  refine mj_blk rfl ?_
  simp +decide only [mjs_0, mjs_1, mjs_2, mjs_3, mjs_ble, true_and, Bool.false_eq_true, if_false, if_true, Nat.reduceAdd, Nat.reduceSub, Nat.reduceLeDiff, mjs_ob c1, h1, h5]
  refine ⟨fun q => mj_blk rfl ?_, fun q => mj_blk rfl ?_⟩
  · have hlt : nl < n := (nI_ltI (by omega) (by omega)).mp q
    -- copying
    have L82 : ∀ (e a : Nat), ln_E (I (m + 1)) n nl e → ln_A (I (m + 1)) nl e a → ∀ (k j : Nat) (I' : Nat → Nat → Int32), nl ≤ j → j + k = a → (∀ c q, c ≠ m → c ≠ m + 3 → I' c q = I c q) → (∀ q, q ≠ 8 → I' m q = I m q) → I' m 8 = nI (j - nl) → (∀ i, i < j - nl → I' (m + 3) i = I (m + 1) (nl + i) &&& 255) →
        mj_rn X (mj_hd []) (mj_call X mj_P (mj_bi X) d) mb_113 82 [some (.ref m), some (.int (nI e)), some (.int (nI a)), some (.int (nI j))] [] (sh, I', Lg, Rf, nc, ns) Q := by
      intro e a hE hAa k
      obtain ⟨E1, E2, E3, E4⟩ := hE
      obtain ⟨A1, A2, A3, A4⟩ := hAa
      induction k with
      | zero =>
        intro j I' hj hk f1 f2 f3 f4
        obtain rfl : j = a := by omega
        refine mj_blk rfl ?_
        simp +decide only [mjs_0, mjs_1, mjs_2, mjs_3, mjs_ble, true_and, Bool.false_eq_true, if_false, if_true, Nat.reduceAdd, Nat.reduceSub, Nat.reduceLeDiff]
        refine ⟨fun _ => mj_blk rfl ?_, fun q => absurd (nI_le (Nat.le_refl j) (by omega)) q⟩
        have u1 : ∀ (J : Nat → Nat → Int32) (i : Nat) (w : Int32) (q : Nat), mj_up J (m + 3) i w m q = J m q := fun J i w q => mjs_up_c (by omega)
        have e1 : (nI (j - nl)).toNatClampNeg = j - nl := nI_clamp (by omega)
        have g6 : I' m 6 = nI ln := (f2 6 (by decide)).trans h6
        have u6 : ∀ (J : Nat → Nat → Int32) (w : Int32), mj_up J m 8 w m 6 = J m 6 := fun J w => mjs_up_ne (Or.inr (by decide))
        have u7 : ∀ (J : Nat → Nat → Int32) (w : Int32), mj_up J m 9 w m 6 = J m 6 := fun J w => mjs_up_ne (Or.inr (by decide))
        have u8 : ∀ (J : Nat → Nat → Int32) (w : Int32), mj_up J m 5 w m 6 = J m 6 := fun J w => mjs_up_ne (Or.inr (by decide))
        simp +decide only [mjs_0, mjs_1, mjs_2, mjs_3, mjs_ble, true_and, Bool.false_eq_true, if_false, if_true, Nat.reduceAdd, Nat.reduceSub, Nat.reduceLeDiff, mjs_ob c1, r7, f3, mjs_ar (t := 0) s7, e1, u1, nI_1, u6, u7, u8, g6]
        refine ⟨nI_in (by omega) (by decide), hQ1 hlt e j _ ⟨E1, E2, E3, E4⟩ ⟨A1, A2, A3, A4⟩ ⟨fun c q b1 b2 => ?_, fun q b1 b2 b3 b4 b5 => ?_, ?_, ?_, ?_, ?_, ?_, fun i hi => ?_, ?_⟩⟩
        · simp only [mjs_up_c b1, mjs_up_c b2]
          exact f1 c q b1 b2
        · rw [mjs_up_ne (Or.inr b5), mjs_up_ne (Or.inr b2), mjs_up_ne (Or.inr b1), mjs_up_ne (Or.inr b4), mjs_up_ne (Or.inr b3), u1]
          exact f2 q b3
        · rw [mjs_up_ne (Or.inr (by decide)), mjs_up_ne (Or.inr (by decide)), mjs_up_at]
        · rw [mjs_up_ne (Or.inr (by decide)), mjs_up_at]
        · rw [mjs_up_ne (Or.inr (by decide)), mjs_up_ne (Or.inr (by decide)), mjs_up_ne (Or.inr (by decide)), mjs_up_ne (Or.inr (by decide)), mjs_up_at]
        · rw [mjs_up_ne (Or.inr (by decide)), mjs_up_ne (Or.inr (by decide)), mjs_up_ne (Or.inr (by decide)), mjs_up_at]
        · rw [mjs_up_at]
        · simp only [mjs_up_c (show m + 3 ≠ m by omega)]
          rw [mjs_up_ne (Or.inr (by omega))]
          exact f4 i hi
        · simp only [mjs_up_c (show m + 3 ≠ m by omega)]
          rw [mjs_up_at]
      | succ k ih =>
        intro j I' hj hk f1 f2 f3 f4
        have u1 : ∀ (J : Nat → Nat → Int32) (i : Nat) (w : Int32) (q : Nat), mj_up J (m + 3) i w m q = J m q := fun J i w q => mjs_up_c (by omega)
        have e1 : (nI (j - nl)).toNatClampNeg = j - nl := nI_clamp (by omega)
        have e2 : (nI j).toNatClampNeg = j := nI_clamp (by omega)
        refine mj_blk rfl ?_
        simp +decide only [mjs_0, mjs_1, mjs_2, mjs_3, mjs_ble, true_and, Bool.false_eq_true, if_false, if_true, Nat.reduceAdd, Nat.reduceSub, Nat.reduceLeDiff]
        refine ⟨fun q => absurd q (nI_ge (by omega) (by omega)), fun _ => mj_blk rfl ?_⟩
        simp +decide only [mjs_0, mjs_1, mjs_2, mjs_3, mjs_ble, true_and, Bool.false_eq_true, if_false, if_true, Nat.reduceAdd, Nat.reduceSub, Nat.reduceLeDiff, mjs_ob c1, r7, r2, f3, mjs_ar (t := 4) s2, mjs_ar (t := 0) s7, e1, e2, u1, nI_1]
        refine ⟨nI_in (by omega) (by decide), nI_in (by omega) (by decide), ih (j + 1) _ (by omega) (by omega) (fun c q b1 b2 => ?_) (fun q hq => ?_) ?_ (fun i hi => ?_)⟩
        · rw [mjs_up_c b1, mjs_up_c b2]
          exact f1 c q b1 b2
        · rw [mjs_up_ne (Or.inr hq), u1]
          exact f2 q hq
        · rw [mjs_up_at, show j + 1 - nl = j - nl + 1 by omega]
        · rw [mjs_up_c (by omega)]
          by_cases hi' : i = j - nl
          · rw [hi', mjs_up_at, f1 (m + 1) j (by omega) (by omega), show nl + (j - nl) = j by omega]
          · rw [mjs_up_ne (Or.inr hi')]
            exact f4 i (by omega)
    -- the spaces at the end
    have L45 : ∀ (e : Nat), ln_E (I (m + 1)) n nl e → ∀ (k a : Nat) (w : Option Value), a = nl + k → a ≤ e → (∀ j, a ≤ j → j < e → I (m + 1) j = 32) →
        mj_rn X (mj_hd []) (mj_call X mj_P (mj_bi X) d) mb_113 45 [some (.ref m), some (.int (nI e)), some (.int (nI a)), w] [] (sh, I, Lg, Rf, nc, ns) Q := by
      intro e hE k
      have E := hE
      obtain ⟨E1, E2, E3, E4⟩ := E
      have K72 : ∀ (a : Nat) (w : Option Value), ln_A (I (m + 1)) nl e a → mj_rn X (mj_hd []) (mj_call X mj_P (mj_bi X) d) mb_113 72 [some (.ref m), some (.int (nI e)), some (.int (nI a)), w] [] (sh, I, Lg, Rf, nc, ns) Q := by
        intro a w hAa
        have g5 : mj_up I m 8 0 m 5 = nI nl := (mjs_up_ne (Or.inr (by decide))).trans h5
        refine mj_blk rfl ?_
        simp +decide only [mjs_0, mjs_1, mjs_2, mjs_3, mjs_ble, true_and, Bool.false_eq_true, if_false, if_true, Nat.reduceAdd, Nat.reduceSub, Nat.reduceLeDiff, mjs_ob c1, g5]
        refine L82 e a hE hAa (a - nl) nl _ (Nat.le_refl _) (by have := hAa.1; omega) (fun c q b1 b2 => mjs_up_c b1) (fun q hq => mjs_up_ne (Or.inr hq)) ?_ (fun i hi => absurd hi (by omega))
        rw [mjs_up_at, Nat.sub_self]
        rfl
      induction k with
      | zero =>
        intro a w ha hae hsp
        obtain rfl : a = nl := by omega
        refine mj_blk rfl ?_
        simp +decide only [mjs_0, mjs_1, mjs_2, mjs_3, mjs_ble, true_and, Bool.false_eq_true, if_false, if_true, Nat.reduceAdd, Nat.reduceSub, Nat.reduceLeDiff, mjs_ob c1, h5]
        exact ⟨fun _ => K72 a _ ⟨Nat.le_refl _, hae, hsp, Or.inl rfl⟩, fun q => absurd (nI_le (Nat.le_refl a) (by omega)) q⟩
      | succ k ih =>
        intro a w ha hae hsp
        obtain ⟨a', rfl⟩ : ∃ a', a = a' + 1 := ⟨a - 1, by omega⟩
        have e2 : (nI a').toNatClampNeg = a' := nI_clamp (by omega)
        refine mj_blk rfl ?_
        simp +decide only [mjs_0, mjs_1, mjs_2, mjs_3, mjs_ble, true_and, Bool.false_eq_true, if_false, if_true, Nat.reduceAdd, Nat.reduceSub, Nat.reduceLeDiff, mjs_ob c1, h5]
        refine ⟨fun q => absurd ((nI_leI (by omega) (by omega)).mp q) (by omega), fun _ => mj_blk rfl ?_⟩
        simp +decide only [mjs_0, mjs_1, mjs_2, mjs_3, mjs_ble, true_and, Bool.false_eq_true, if_false, if_true, Nat.reduceAdd, Nat.reduceSub, Nat.reduceLeDiff, mjs_ob c1, r2, nI_pred, mjs_ar (t := 4) s2, e2]
        refine ⟨nI_in (by omega) (by decide), fun q => K72 (a' + 1) _ ⟨by omega, hae, hsp, Or.inr q⟩, fun q => mj_blk rfl ?_⟩
        have e3 : nI (a' + 1) + (-1) = nI a' := pk_m1 a'
        simp +decide only [mjs_0, mjs_1, mjs_2, mjs_3, mjs_ble, true_and, Bool.false_eq_true, if_false, if_true, Nat.reduceAdd, Nat.reduceSub, Nat.reduceLeDiff, e3]
        refine ih a' _ (by omega) (by omega) (fun j b1 b2 => ?_)
        by_cases hj : j = a'
        · rw [hj]
          exact Decidable.not_not.mp q
        · exact hsp j (by omega) b2
    -- the line's end
    have L18 : ∀ (k j : Nat), nl ≤ j → j + k = n → (∀ i, nl ≤ i → i < j → ¬ I (m + 1) i = 10) →
        mj_rn X (mj_hd []) (mj_call X mj_P (mj_bi X) d) mb_113 18 [some (.ref m), some (.int (nI j)), none, none] [] (sh, I, Lg, Rf, nc, ns) Q := by
      intro k
      have K43 : ∀ j, nl ≤ j → j ≤ n → (∀ i, nl ≤ i → i < j → ¬ I (m + 1) i = 10) → (j = n ∨ I (m + 1) j = 10) → mj_rn X (mj_hd []) (mj_call X mj_P (mj_bi X) d) mb_113 43 [some (.ref m), some (.int (nI j)), none, none] [] (sh, I, Lg, Rf, nc, ns) Q := by
        intro j b1 b2 b3 b4
        refine mj_blk rfl ?_
        simp +decide only [mjs_0, mjs_1, mjs_2, mjs_3, mjs_ble, true_and, Bool.false_eq_true, if_false, if_true, Nat.reduceAdd, Nat.reduceSub, Nat.reduceLeDiff]
        exact L45 j ⟨b1, b2, b3, b4⟩ (j - nl) j _ (by omega) (Nat.le_refl _) (fun i a1 a2 => absurd a1 (by omega))
      induction k with
      | zero =>
        intro j hj hk hne
        obtain rfl : j = n := by omega
        refine mj_blk rfl ?_
        simp +decide only [mjs_0, mjs_1, mjs_2, mjs_3, mjs_ble, true_and, Bool.false_eq_true, if_false, if_true, Nat.reduceAdd, Nat.reduceSub, Nat.reduceLeDiff, mjs_ob c1, h1]
        exact ⟨fun _ => K43 j hj (Nat.le_refl _) hne (Or.inl rfl), fun q => absurd (nI_le (Nat.le_refl j) (by omega)) q⟩
      | succ k ih =>
        intro j hj hk hne
        have e2 : (nI j).toNatClampNeg = j := nI_clamp (by omega)
        refine mj_blk rfl ?_
        simp +decide only [mjs_0, mjs_1, mjs_2, mjs_3, mjs_ble, true_and, Bool.false_eq_true, if_false, if_true, Nat.reduceAdd, Nat.reduceSub, Nat.reduceLeDiff, mjs_ob c1, h1]
        refine ⟨fun q => absurd q (nI_ge (by omega) (by omega)), fun _ => mj_blk rfl ?_⟩
        simp +decide only [mjs_0, mjs_1, mjs_2, mjs_3, mjs_ble, true_and, Bool.false_eq_true, if_false, if_true, Nat.reduceAdd, Nat.reduceSub, Nat.reduceLeDiff, mjs_ob c1, r2, mjs_ar (t := 4) s2, e2]
        refine ⟨nI_in (by omega) (by decide), fun q => K43 j hj (by omega) hne (Or.inr q), fun q => mj_blk rfl ?_⟩
        simp +decide only [mjs_0, mjs_1, mjs_2, mjs_3, mjs_ble, true_and, Bool.false_eq_true, if_false, if_true, Nat.reduceAdd, Nat.reduceSub, Nat.reduceLeDiff, nI_1]
        refine ih (j + 1) (by omega) (by omega) (fun i a1 a2 => ?_)
        by_cases hi : i = j
        · rw [hi]
          exact q
        · exact hne i a1 (by omega)
    simp +decide only [mjs_0, mjs_1, mjs_2, mjs_3, mjs_ble, true_and, Bool.false_eq_true, if_false, if_true, Nat.reduceAdd, Nat.reduceSub, Nat.reduceLeDiff, mjs_ob c1, h5]
    exact L18 (n - nl) nl (Nat.le_refl _) (by omega) (fun i a1 a2 => absurd a1 (by omega))
  · have h : n ≤ nl := by
      by_cases h : n ≤ nl
      · exact h
      · exact absurd (nI_lt (by omega) (by omega)) q
    simp +decide only [mjs_0, mjs_1, mjs_2, mjs_3, mjs_ble, true_and, Bool.false_eq_true, if_false, if_true, Nat.reduceAdd, Nat.reduceSub, Nat.reduceLeDiff]
    exact hQ0 h
end MJRLN
