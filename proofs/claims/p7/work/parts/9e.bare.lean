/-! AN ARGUMENT WITH DELIMITERS: its braces left out, by the reference -/
theorem dq_s {f : Nat → Nat} {i : Nat} : dq f (i + 1) = (if cg (f i) = 1 then dq f i + 1 else if cg (f i) = 2 then dq f i - 1 else dq f i) := rfl
section MJBA
variable {X : mj_X} {d nc ns : Nat} {Q : mj_Q} {I I' J J' H : Nat → Nat → Int32} {Lg : Nat → Nat → Int64} {Rf : Nat → Nat → Option Nat} {fb : Nat → Nat → Int32} {vb : Nat → Int32} {K : Nat × Nat × Nat} {P : List Nat} {E : sgE} {N : sgN} {S : sgS} {M : sgM} {C : sgC} {O : sgO} {L L' : sgL} {t n bg fi : Nat} {A : Nat → (Nat → Nat) × Nat} {f : Nat → Nat} {len many first : Nat}
/-- the n-th row holds f, its size is len -/
def raB (n : Nat) (A : Nat → (Nat → Nat) × Nat) (f : Nat → Nat) (len : Nat) (H : Nat → Nat → Int32) : Prop := raP n A f len H ∧ H 55 n = nI len
theorem raB_end (hl : len ≤ 10000) (h : raB n A f len H) : raA (n + 1) (ud A n (f, len)) H := by
  obtain ⟨⟨h1, h2⟩, h3⟩ := h
  intro k hk
  by_cases e : k = n
  · subst e
    rw [ud_at]
    exact ⟨h3, hl, h2⟩
  · rw [ud_ne e]
    exact h1 k (by omega)
/-- the scan for the brace that closes the first one -/
theorem r_146s (hM' : mj_Rt mm_R Rf) (hv : gv (K, P, E, N, S, M, C, O, L)) (hJ : RR H (K, P, E, N, S, M, C, O, L) J) (hA : raP n A f len H) (hn : n < 9) (hl : len ≤ 10000) (htv : ∀ i, i < len → tv N.2.2 (f i)) (hdv : ∀ i, i < len → cg (f i) = 2 → 1 ≤ dq f i)
    (hq1 : (∀ i, i + 1 < len → dq f (i + 1) ≠ 0) → mj_rn X (mj_hd []) (mj_call X mj_P (mj_bi X) (d + 2)) mb_146 107 [some (.ref 36), some (.int (nI n)), some (.int (nI len)), none, none, none] [] (sh59, J, Lg, Rf, nc, ns) Q) (hq0 : ¬ (∀ i, i + 1 < len → dq f (i + 1) ≠ 0) → Q (.inl none) (sh59, J, Lg, Rf, nc, ns)) : ∀ j i, i + j = len → (∀ q, q < i → q + 1 < len → dq f (q + 1) ≠ 0) → mj_rn X (mj_hd []) (mj_call X mj_P (mj_bi X) (d + 2)) mb_146 35 [some (.ref 36), some (.int (nI n)), some (.int (nI len)), some (.int (nI (dq f i))), some (.int (nI i)), none] [] (sh59, J, Lg, Rf, nc, ns) Q := by
  have hm := mm_rf hM'
  have hk : N.2.2 ≤ 1036 := (gv_d hv).2.2.1.2.1
  have hk1 : 36 ≤ N.2.2 := (gv_d hv).2.2.1.1
  obtain ⟨jK, jP, jE, jN, jS, jM, jC, jO, jL, jZ⟩ := rr_d hJ
  intro j
  induction j with
  | zero =>
    intro i hi hh
    have : i = len := by omega
    subst this
    refine mj_blk rfl ?_
    simp +decide only [mjs_0, mjs_1, mjs_2, mjs_3, mjs_ble, true_and, Bool.false_eq_true, if_false, if_true, Nat.reduceAdd, Nat.reduceSub, Nat.reduceLeDiff, false_implies, true_implies, not_false_eq_true, not_true_eq_false, and_true]
    refine ⟨fun _ => mj_nv (hq1 (fun q hq => hh q (by omega) hq)), fun q => absurd (nI_le (a := i) (b := i) (Nat.le_refl _) (by omega)) q⟩
  | succ j ih =>
    intro i hi hh
    have e1 : (11000 : Int32) * nI n = nI (11000 * n) := pk_mul 11000 n
    have e3 : (nI (11000 * n + i)).toNatClampNeg = 11000 * n + i := nI_clamp (by omega)
    have t1 : J 54 (11000 * n + i) = nI (rt (f i)) := by
      rw [congrFun (jZ 54 (by omega)) _]
      exact hA.2 i (by omega)
    have dl := dq_le (f := f) (c := i)
    have dl2 := dq_le (f := f) (c := i + 1)
    have hi1 := htv i (by omega)
    have K87 : ∀ w5 : Option Value, mj_rn X (mj_hd []) (mj_call X mj_P (mj_bi X) (d + 2)) mb_146 87 [some (.ref 36), some (.int (nI n)), some (.int (nI len)), some (.int (nI (dq f i))), some (.int (nI i)), w5] [.int (nI (dq f (i + 1)))] (sh59, J, Lg, Rf, nc, ns) Q := by
      intro w5
      have en : nI len - 1 = nI (len - 1) := by
        obtain ⟨l, rfl⟩ : ∃ l, len = l + 1 := ⟨len - 1, by omega⟩
        exact nI_pred l
      have go : (i + 1 < len → dq f (i + 1) ≠ 0) → ∀ w5 : Option Value, mj_rn X (mj_hd []) (mj_call X mj_P (mj_bi X) (d + 2)) mb_146 101 [some (.ref 36), some (.int (nI n)), some (.int (nI len)), some (.int (nI (dq f (i + 1)))), some (.int (nI i)), w5] [] (sh59, J, Lg, Rf, nc, ns) Q := by
        intro hz w5
        refine mj_blk rfl ?_
        simp +decide only [mjs_0, mjs_1, mjs_2, mjs_3, mjs_ble, true_and, Bool.false_eq_true, if_false, if_true, Nat.reduceAdd, Nat.reduceSub, Nat.reduceLeDiff, false_implies, true_implies, not_false_eq_true, not_true_eq_false, and_true, nI_1]
        refine mj_nv (ih (i + 1) (by omega) (fun q hq hq2 => ?_))
        by_cases eq : q = i
        · rw [eq] at hq2 ⊢
          exact hz hq2
        · exact hh q (by omega) hq2
      refine mj_blk rfl ?_
      simp +decide only [mjs_0, mjs_1, mjs_2, mjs_3, mjs_ble, true_and, Bool.false_eq_true, if_false, if_true, Nat.reduceAdd, Nat.reduceSub, Nat.reduceLeDiff, false_implies, true_implies, not_false_eq_true, not_true_eq_false, and_true]
      by_cases e : dq f (i + 1) = 0
      · refine ⟨fun q => absurd (by rw [e]; rfl) q, fun _ => mj_blk rfl ?_⟩
        simp +decide only [mjs_0, mjs_1, mjs_2, mjs_3, mjs_ble, true_and, Bool.false_eq_true, if_false, if_true, Nat.reduceAdd, Nat.reduceSub, Nat.reduceLeDiff, false_implies, true_implies, not_false_eq_true, not_true_eq_false, and_true, en]
        by_cases hlt : i + 1 < len
        · refine ⟨fun q => absurd q (nI_ge (a := i) (b := len - 1) (by omega) (by omega)), fun _ => mj_blk rfl ?_⟩
          simp +decide only [mjs_0, mjs_1, mjs_2, mjs_3, mjs_ble, true_and, Bool.false_eq_true, if_false, if_true, Nat.reduceAdd, Nat.reduceSub, Nat.reduceLeDiff, false_implies, true_implies, not_false_eq_true, not_true_eq_false, and_true]
          exact hq0 (fun hh => hh i hlt e)
        · exact ⟨fun _ => mj_nv (go (fun h => absurd h hlt) none), fun q => absurd (nI_le (a := len - 1) (b := i) (by omega) (by omega)) q⟩
      · exact ⟨fun _ => mj_nv (go (fun _ => e) none), fun q => absurd (nI_ne0 (by omega) (by omega)) q⟩
    refine mj_blk rfl ?_
    simp +decide only [mjs_0, mjs_1, mjs_2, mjs_3, mjs_ble, true_and, Bool.false_eq_true, if_false, if_true, Nat.reduceAdd, Nat.reduceSub, Nat.reduceLeDiff, false_implies, true_implies, not_false_eq_true, not_true_eq_false, and_true]
    refine ⟨fun q => absurd q (nI_ge (a := i) (b := len) (by omega) (by omega)), fun _ => mj_blk rfl ?_⟩
    simp +decide only [mjs_0, mjs_1, mjs_2, mjs_3, mjs_ble, true_and, Bool.false_eq_true, if_false, if_true, Nat.reduceAdd, Nat.reduceSub, Nat.reduceLeDiff, false_implies, true_implies, not_false_eq_true, not_true_eq_false, and_true, mm_sh, hm, mjs_up_at, mjs_up_c, mjs_up_f, e1, nI_add, e3, t1]
    refine ⟨nI_in (by omega) (by decide), ?_⟩
    refine rq_121 (c := 1) hk hk1 hi1 (by decide) (fun c1 => ?_) (fun c1 => ?_)
    · have := K87
      rw [dq_s, if_pos c1] at this
      simp +decide only [mjs_0, mjs_1, mjs_2, mjs_3, mjs_ble, true_and, Bool.false_eq_true, if_false, if_true, Nat.reduceAdd, Nat.reduceSub, Nat.reduceLeDiff, false_implies, true_implies, not_false_eq_true, not_true_eq_false, and_true]
      refine mj_blk rfl ?_
      simp +decide only [mjs_0, mjs_1, mjs_2, mjs_3, mjs_ble, true_and, Bool.false_eq_true, if_false, if_true, Nat.reduceAdd, Nat.reduceSub, Nat.reduceLeDiff, false_implies, true_implies, not_false_eq_true, not_true_eq_false, and_true, nI_1]
      exact mj_nv (this none)
    · simp +decide only [mjs_0, mjs_1, mjs_2, mjs_3, mjs_ble, true_and, Bool.false_eq_true, if_false, if_true, Nat.reduceAdd, Nat.reduceSub, Nat.reduceLeDiff, false_implies, true_implies, not_false_eq_true, not_true_eq_false, and_true]
      refine mj_blk rfl ?_
      simp +decide only [mjs_0, mjs_1, mjs_2, mjs_3, mjs_ble, true_and, Bool.false_eq_true, if_false, if_true, Nat.reduceAdd, Nat.reduceSub, Nat.reduceLeDiff, false_implies, true_implies, not_false_eq_true, not_true_eq_false, and_true]
      refine rq_121 (c := 2) hk hk1 hi1 (by decide) (fun c2 => ?_) (fun c2 => ?_)
      · obtain ⟨z, hz⟩ : ∃ z, dq f i = z + 1 := ⟨dq f i - 1, by have := hdv i (by omega) c2; omega⟩
        have := K87
        rw [dq_s, if_neg c1, if_pos c2, hz, Nat.add_sub_cancel] at this
        simp +decide only [mjs_0, mjs_1, mjs_2, mjs_3, mjs_ble, true_and, Bool.false_eq_true, if_false, if_true, Nat.reduceAdd, Nat.reduceSub, Nat.reduceLeDiff, false_implies, true_implies, not_false_eq_true, not_true_eq_false, and_true]
        refine mj_blk rfl ?_
        simp +decide only [mjs_0, mjs_1, mjs_2, mjs_3, mjs_ble, true_and, Bool.false_eq_true, if_false, if_true, Nat.reduceAdd, Nat.reduceSub, Nat.reduceLeDiff, false_implies, true_implies, not_false_eq_true, not_true_eq_false, and_true, hz, nI_pred]
        exact mj_nv (this none)
      · have := K87
        rw [dq_s, if_neg c1, if_neg c2] at this
        simp +decide only [mjs_0, mjs_1, mjs_2, mjs_3, mjs_ble, true_and, Bool.false_eq_true, if_false, if_true, Nat.reduceAdd, Nat.reduceSub, Nat.reduceLeDiff, false_implies, true_implies, not_false_eq_true, not_true_eq_false, and_true]
        refine mj_blk rfl ?_
        simp +decide only [mjs_0, mjs_1, mjs_2, mjs_3, mjs_ble, true_and, Bool.false_eq_true, if_false, if_true, Nat.reduceAdd, Nat.reduceSub, Nat.reduceLeDiff, false_implies, true_implies, not_false_eq_true, not_true_eq_false, and_true]
        exact mj_nv (this none)
/-- the row moved down by one -/
theorem r_146m (hM' : mj_Rt mm_R Rf) (hn : n < 9) (hl : len ≤ 10000) (h2 : 2 ≤ len) (hq : ∀ H' J', hx H H' → RR H' (K, P, E, N, S, M, C, O, L) J' → raB n A (fun i => f (i + 1)) (len - 2) H' → Q (.inl none) (sh59, J', Lg, Rf, nc, ns)) : ∀ j i (H' J' : Nat → Nat → Int32), i + j = len - 2 → hx H H' → RR H' (K, P, E, N, S, M, C, O, L) J' → raA n A H' → (∀ q, q < i → H' 54 (11000 * n + q) = nI (rt (f (q + 1)))) → (∀ q, i ≤ q → q < len → H' 54 (11000 * n + q) = nI (rt (f q))) → mj_rn X (mj_hd []) (mj_call X mj_P (mj_bi X) (d + 2)) mb_146 110 [some (.ref 36), some (.int (nI n)), some (.int (nI len)), none, some (.int (nI i)), none] [] (sh59, J', Lg, Rf, nc, ns) Q := by
  have hm := mm_rf hM'
  have en : nI len - 2 = nI (len - 2) := by
    obtain ⟨l, rfl⟩ : ∃ l, len = l + 2 := ⟨len - 2, by omega⟩
    rw [Nat.add_sub_cancel, show (2 : Int32) = nI 2 from rfl, pk_sub (by omega), Nat.add_sub_cancel]
  have e0 : (nI n).toNatClampNeg = n := nI_clamp (by omega)
  intro j
  induction j with
  | zero =>
    intro i H' J' hi hx1 hJ hA a1 a2
    have : i = len - 2 := by omega
    subst this
    refine mj_blk rfl ?_
    simp +decide only [mjs_0, mjs_1, mjs_2, mjs_3, mjs_ble, true_and, Bool.false_eq_true, if_false, if_true, Nat.reduceAdd, Nat.reduceSub, Nat.reduceLeDiff, false_implies, true_implies, not_false_eq_true, not_true_eq_false, and_true, en]
    refine ⟨fun _ => mj_blk rfl ?_, fun q => absurd (nI_le (a := len - 2) (b := len - 2) (Nat.le_refl _) (by omega)) q⟩
    simp +decide only [mjs_0, mjs_1, mjs_2, mjs_3, mjs_ble, true_and, Bool.false_eq_true, if_false, if_true, Nat.reduceAdd, Nat.reduceSub, Nat.reduceLeDiff, false_implies, true_implies, not_false_eq_true, not_true_eq_false, and_true, mm_sh, hm, mjs_up_at, mjs_up_c, mjs_up_f, en, e0]
    refine ⟨nI_in hn (by decide), ?_⟩
    exact hq _ _ (hx_tr hx1 (hx_up (by decide))) (rr_55 hJ) ⟨⟨raA_55 hA, fun q hq => a1 q hq⟩, mjs_up_at⟩
  | succ j ih =>
    intro i H' J' hi hx1 hJ hA a1 a2
    obtain ⟨jK, jP, jE, jN, jS, jM, jC, jO, jL, jZ⟩ := rr_d hJ
    have e1 : (11000 : Int32) * nI n = nI (11000 * n) := pk_mul 11000 n
    have e3 : (nI (11000 * n + i)).toNatClampNeg = 11000 * n + i := nI_clamp (by omega)
    have e4 : (nI (11000 * n + i + 1)).toNatClampNeg = 11000 * n + i + 1 := nI_clamp (by omega)
    have t1 : J' 54 (11000 * n + i + 1) = nI (rt (f (i + 1))) := by
      rw [congrFun (jZ 54 (by omega)) _, Nat.add_assoc]
      exact a2 (i + 1) (by omega) (by omega)
    refine mj_blk rfl ?_
    simp +decide only [mjs_0, mjs_1, mjs_2, mjs_3, mjs_ble, true_and, Bool.false_eq_true, if_false, if_true, Nat.reduceAdd, Nat.reduceSub, Nat.reduceLeDiff, false_implies, true_implies, not_false_eq_true, not_true_eq_false, and_true, en]
    refine ⟨fun q => absurd q (nI_ge (a := i) (b := len - 2) (by omega) (by omega)), fun _ => mj_blk rfl ?_⟩
    simp +decide only [mjs_0, mjs_1, mjs_2, mjs_3, mjs_ble, true_and, Bool.false_eq_true, if_false, if_true, Nat.reduceAdd, Nat.reduceSub, Nat.reduceLeDiff, false_implies, true_implies, not_false_eq_true, not_true_eq_false, and_true, mm_sh, hm, mjs_up_at, mjs_up_c, mjs_up_f, e1, nI_add, e3, nI_1, e4, t1]
    refine ⟨nI_in (by omega) (by decide), nI_in (by omega) (by decide), ?_⟩
    refine mj_nv (ih (i + 1) (mj_up H' 54 (11000 * n + i) (nI (rt (f (i + 1))))) (mj_up J' 54 (11000 * n + i) (nI (rt (f (i + 1))))) (by omega) (hx_tr hx1 (hx_up (by decide))) (rr_54 hJ) (fun k hk => ?_) (fun q hq => ?_) (fun q hq hq2 => ?_))
    · obtain ⟨b1, b2, b3⟩ := hA k hk
      refine ⟨by rw [mjs_up_c (by decide)]; exact b1, b2, fun z hz => ?_⟩
      rw [mjs_up_f (by omega)]
      exact b3 z hz
    · by_cases e : q = i
      · rw [e, mjs_up_at]
      · rw [mjs_up_f (by omega)]
        exact a1 q (by omega)
    · rw [mjs_up_f (by omega)]
      exact a2 q (by omega) hq2
/-- bareOf -/
theorem rx_146 (hM' : mj_Rt mm_R Rf) (hv : gv (K, P, E, N, S, M, C, O, L)) (hn : n < 9) (hl : len ≤ 10000) (htv : ∀ i, i < len → tv N.2.2 (f i)) (hdv : ∀ i, i < len → cg (f i) = 2 → 1 ≤ dq f i) : (brd f len → RX X Rf 3 146 [.ref 36, .int (nI n)] (K, P, E, N, S, M, C, O, L) (raB n A f len) none (K, P, E, N, S, M, C, O, L) (raA (n + 1) (ud A n (fun i => f (i + 1), len - 2)))) ∧ (¬ brd f len → RX X Rf 3 146 [.ref 36, .int (nI n)] (K, P, E, N, S, M, C, O, L) (raB n A f len) none (K, P, E, N, S, M, C, O, L) (raA (n + 1) (ud A n (f, len)))) := by
  have hm := mm_rf hM'
  have hk : N.2.2 ≤ 1036 := (gv_d hv).2.2.1.2.1
  have hk1 : 36 ≤ N.2.2 := (gv_d hv).2.2.1.1
  have e0 : (nI n).toNatClampNeg = n := nI_clamp (by omega)
  have e1 : (11000 : Int32) * nI n = nI (11000 * n) := pk_mul 11000 n
  have e3 : (nI (11000 * n)).toNatClampNeg = 11000 * n := nI_clamp (by omega)
  have main : ∀ (H : Nat → Nat → Int32) (Lg : Nat → Nat → Int64) (d nc ns : Nat) (J : Nat → Nat → Int32) (Q : mj_Q), RR H (K, P, E, N, S, M, C, O, L) J → raB n A f len H → (brd f len → ∀ H' J', hx H H' → RR H' (K, P, E, N, S, M, C, O, L) J' → raB n A (fun i => f (i + 1)) (len - 2) H' → Q (.inl none) (sh59, J', Lg, Rf, nc, ns)) → (¬ brd f len → Q (.inl none) (sh59, J, Lg, Rf, nc, ns)) → mj_call X mj_P (mj_bi X) (d + 3) 146 [.ref 36, .int (nI n)] (sh59, J, Lg, Rf, nc, ns) Q := by
    intro H Lg d nc ns J Q hJ hA hq1 hq0
    obtain ⟨jK, jP, jE, jN, jS, jM, jC, jO, jL, jZ⟩ := rr_d hJ
    have s1 : J 55 n = nI len := (congrFun (jZ 55 (by omega)) n).trans hA.2
    refine mj_enter (z := (6, [], mb_146)) (by decide) rfl rfl ?_
    refine mj_blk rfl ?_
    simp +decide only [mjs_0, mjs_1, mjs_2, mjs_3, mjs_ble, true_and, Bool.false_eq_true, if_false, if_true, Nat.reduceAdd, Nat.reduceSub, Nat.reduceLeDiff, false_implies, true_implies, not_false_eq_true, not_true_eq_false, and_true, mm_sh, hm, mjs_up_at, mjs_up_c, mjs_up_f, e0, s1]
    refine ⟨nI_in hn (by decide), ?_⟩
    by_cases h2 : 2 ≤ len
    · have t1 : J 54 (11000 * n) = nI (rt (f 0)) := (congrFun (jZ 54 (by omega)) _).trans (hA.1.2 0 (by omega))
      refine ⟨fun q => absurd q (nI_nlt (a := len) (b := 2) h2 (by omega)), fun _ => mj_blk rfl ?_⟩
      simp +decide only [mjs_0, mjs_1, mjs_2, mjs_3, mjs_ble, true_and, Bool.false_eq_true, if_false, if_true, Nat.reduceAdd, Nat.reduceSub, Nat.reduceLeDiff, false_implies, true_implies, not_false_eq_true, not_true_eq_false, and_true, mm_sh, hm, mjs_up_at, mjs_up_c, mjs_up_f, e1, e3, t1]
      refine ⟨nI_in (by omega) (by decide), ?_⟩
      refine rq_121 (c := 1) hk hk1 (htv 0 (by omega)) (by decide) (fun c1 => ?_) (fun c1 => ?_)
      · simp +decide only [mjs_0, mjs_1, mjs_2, mjs_3, mjs_ble, true_and, Bool.false_eq_true, if_false, if_true, Nat.reduceAdd, Nat.reduceSub, Nat.reduceLeDiff, false_implies, true_implies, not_false_eq_true, not_true_eq_false, and_true]
        refine mj_blk rfl ?_
        simp +decide only [mjs_0, mjs_1, mjs_2, mjs_3, mjs_ble, true_and, Bool.false_eq_true, if_false, if_true, Nat.reduceAdd, Nat.reduceSub, Nat.reduceLeDiff, false_implies, true_implies, not_false_eq_true, not_true_eq_false, and_true]
        refine mj_nv (r_146s hM' hv hJ hA.1 hn hl htv hdv (fun hz => ?_) (fun hz => hq0 (fun hb => hz hb.2.2)) len 0 (by omega) (fun q hq => absurd hq (Nat.not_lt_zero _)))
        refine mj_blk rfl ?_
        simp +decide only [mjs_0, mjs_1, mjs_2, mjs_3, mjs_ble, true_and, Bool.false_eq_true, if_false, if_true, Nat.reduceAdd, Nat.reduceSub, Nat.reduceLeDiff, false_implies, true_implies, not_false_eq_true, not_true_eq_false, and_true]
        exact mj_nv (r_146m (H := H) hM' hn hl h2 (fun H' J' b1 b2 b3 => hq1 ⟨h2, c1, hz⟩ H' J' b1 b2 b3) (len - 2) 0 H J (by omega) hx_rf hJ hA.1.1 (fun q hq => absurd hq (Nat.not_lt_zero _)) (fun q _ hq2 => hA.1.2 q hq2))
      · simp +decide only [mjs_0, mjs_1, mjs_2, mjs_3, mjs_ble, true_and, Bool.false_eq_true, if_false, if_true, Nat.reduceAdd, Nat.reduceSub, Nat.reduceLeDiff, false_implies, true_implies, not_false_eq_true, not_true_eq_false, and_true]
        refine mj_blk rfl ?_
        simp +decide only [mjs_0, mjs_1, mjs_2, mjs_3, mjs_ble, true_and, Bool.false_eq_true, if_false, if_true, Nat.reduceAdd, Nat.reduceSub, Nat.reduceLeDiff, false_implies, true_implies, not_false_eq_true, not_true_eq_false, and_true]
        exact hq0 (fun hb => c1 hb.2.1)
    · refine ⟨fun _ => mj_blk rfl ?_, fun q => absurd (nI_lt (a := len) (b := 2) (by omega) (by decide)) q⟩
      simp +decide only [mjs_0, mjs_1, mjs_2, mjs_3, mjs_ble, true_and, Bool.false_eq_true, if_false, if_true, Nat.reduceAdd, Nat.reduceSub, Nat.reduceLeDiff, false_implies, true_implies, not_false_eq_true, not_true_eq_false, and_true]
      exact hq0 (fun hb => h2 hb.1)
  constructor
  · intro hb H Lg d nc ns J Q hJ hA hq
    exact main H Lg d nc ns J Q hJ hA (fun _ H' J' b1 b2 b3 => hq H' J' b1 b2 (raB_end (by omega) b3)) (fun hn => absurd hb hn)
  · intro hb H Lg d nc ns J Q hJ hA hq
    exact main H Lg d nc ns J Q hJ hA (fun hb' => absurd hb' hb) (fun _ => hq H J hx_rf hJ (raB_end hl hA))
end MJBA
