/-! THE REFERENCE READS A NAME -/
section MJRN
variable {X : mj_X} {d nc ns : Nat} {Q : mj_Q} {I I' J J' H : Nat → Nat → Int32} {Lg : Nat → Nat → Int64} {Rf : Nat → Nat → Option Nat} {fb : Nat → Nat → Int32} {vb : Nat → Int32} {K : Nat × Nat × Nat} {P : List Nat} {E : sgE} {N : sgN} {S : sgS} {M : sgM} {C : sgC} {O : sgO} {L L' : sgL}
theorem gv_L (h : gv (K, P, E, N, S, M, C, O, L)) (h' : gvL L') : gv (K, P, E, N, S, M, C, O, L') := ⟨h.1, h.2.1, h.2.2.1, h.2.2.2.1, h.2.2.2.2.1, h.2.2.2.2.2.1, h.2.2.2.2.2.2.1, h'⟩
theorem sc_gvL {cur : List Nat} {st n nl : Nat} {v : Nat → Nat} (h : gvL (cur, st, v, n, nl)) : gvL ((sc S cur).2.2.1, (sc S cur).2.2.2, v, n, nl) := by
  have hp := sc_p S cur
  obtain ⟨⟨h1, h2, h3, h4⟩, h5, h6⟩ := h
  exact ⟨⟨h1, h2, hp.2.1, Nat.le_trans hp.1 h4⟩, (hp.2.2 h5).1, h6⟩
theorem rrL_eat {c st st' n nl : Nat} {r : List Nat} {v : Nat → Nat} (h : rrL (c :: r, st, v, n, nl) J) (h1 : J' 36 1 = J 36 1) (h2 : J' 36 5 = J 36 5) (h3 : J' 36 6 = J 36 6) (h4 : J' 36 8 = J 36 8) (h39 : ∀ q, J' 39 q = J 39 q) (h37 : ∀ q, J' 37 q = J 37 q) (h5 : r ≠ [] → J' 36 10 = nI st') (h9 : J' 36 9 = J 36 9 + 1) : rrL (r, st', v, n, nl) J' := by
  obtain ⟨l1, l2, l3, ⟨lp, l4, l5, l6, l7⟩, ⟨ln, l8, l9⟩, l10⟩ := h
  refine ⟨h1.trans l1, h2.trans l2, h5, ⟨lp + 1, by rw [h9, l4, nI_1], ?_, ?_, fun i hi => ?_⟩, ⟨ln, h3.trans l8, l9⟩, fun j a b => by rw [h37]; exact l10 j a b⟩
  · rw [h4, l5]
    simp only [List.length_cons]
    congr 1
    omega
  · simp only [List.length_cons] at l6 ⊢
    omega
  · have := l7 (i + 1) (by simp only [List.length_cons] at hi ⊢; omega)
    rw [h39, show lp + 1 + i = lp + (i + 1) by omega, this]
    rfl
theorem r_111 (hM' : mj_Rt mm_R Rf) {k : Nat} {c : Int32} (hk : k ≤ 40) (h15 : J 36 15 = nI k) (h39 : J 36 39 = 0) (hQ1 : k < 40 → Q (.inl none) (sh59, mj_up (mj_up J 42 k c) 36 15 (nI (k + 1)), Lg, Rf, nc, ns)) (hQ2 : k = 40 → Q (.inl none) (sh59, mj_up J 36 39 (nI 2), Lg, Rf, nc, ns)) : mj_call X mj_P (mj_bi X) (d + 2) 111 [.ref 36, .int c] (sh59, J, Lg, Rf, nc, ns) Q := by
  have hm := mm_rf hM'
  have e0 : (nI k).toNatClampNeg = k := nI_clamp (by omega)
  refine mj_enter (z := (2, [], mb_111)) (by decide) rfl rfl ?_
  refine mj_blk rfl ?_
  simp +decide only [mjs_0, mjs_1, mjs_2, mjs_3, mjs_ble, true_and, Bool.false_eq_true, if_false, if_true, Nat.reduceAdd, Nat.reduceSub, Nat.reduceLeDiff, false_implies, true_implies, not_false_eq_true, not_true_eq_false, and_true, mm_sh, hm, mjs_up_at, mjs_up_c, mjs_up_f, h15]
  refine ⟨fun q => mj_blk rfl ?_, fun q => mj_blk rfl ?_⟩
  · have hlt : k < 40 := by
      rcases Nat.lt_or_eq_of_le hk with h | h
      · exact h
      · exact absurd (by rw [h]; rfl) q
    simp +decide only [mjs_0, mjs_1, mjs_2, mjs_3, mjs_ble, true_and, Bool.false_eq_true, if_false, if_true, Nat.reduceAdd, Nat.reduceSub, Nat.reduceLeDiff, false_implies, true_implies, not_false_eq_true, not_true_eq_false, and_true, mm_sh, hm, mjs_up_at, mjs_up_c, mjs_up_f, h15, e0, nI_1]
    refine ⟨nI_in (by omega) (by decide), mj_blk rfl ?_⟩
    simp +decide only [mjs_0, mjs_1, mjs_2, mjs_3, mjs_ble, true_and, Bool.false_eq_true, if_false, if_true, Nat.reduceAdd, Nat.reduceSub, Nat.reduceLeDiff, false_implies, true_implies, not_false_eq_true, not_true_eq_false, and_true, mm_sh, hm, mjs_up_at, mjs_up_c, mjs_up_f]
    exact hQ1 hlt
  · have hk' : k = 40 := (nI_eq (by omega) (by decide)).mp (show nI k = nI 40 from Decidable.not_not.mp q)
    simp +decide only [mjs_0, mjs_1, mjs_2, mjs_3, mjs_ble, true_and, Bool.false_eq_true, if_false, if_true, Nat.reduceAdd, Nat.reduceSub, Nat.reduceLeDiff, false_implies, true_implies, not_false_eq_true, not_true_eq_false, and_true, mm_sh, hm, mjs_up_at, mjs_up_c, mjs_up_f]
    refine c_106 s59_36 ?_
    rw [if_pos h39]
    simp +decide only [mjs_0, mjs_1, mjs_2, mjs_3, mjs_ble, true_and, Bool.false_eq_true, if_false, if_true, Nat.reduceAdd, Nat.reduceSub, Nat.reduceLeDiff, false_implies, true_implies, not_false_eq_true, not_true_eq_false, and_true, mm_sh, hm, mjs_up_at, mjs_up_c, mjs_up_f]
    refine mj_blk rfl ?_
    simp +decide only [mjs_0, mjs_1, mjs_2, mjs_3, mjs_ble, true_and, Bool.false_eq_true, if_false, if_true, Nat.reduceAdd, Nat.reduceSub, Nat.reduceLeDiff, false_implies, true_implies, not_false_eq_true, not_true_eq_false, and_true, mm_sh, hm, mjs_up_at, mjs_up_c, mjs_up_f]
    exact hQ2 hk'
theorem r_114 (hM' : mj_Rt mm_R Rf) {cur : List Nat} {st n nl : Nat} {v : Nat → Nat} (hv : gv (K, P, E, N, S, M, C, O, (cur, st, v, n, nl))) (h : RR H (K, P, E, N, S, M, C, O, (cur, st, v, n, nl)) J)
    (hQ0 : 40 < (sc S cur).1 → ∀ J', RD H (K, P, E, N, S, M, C, O, ((sc S cur).2.2.1, (sc S cur).2.2.2, v, n, nl)) J' → Q (.inl (some (.int (-1)))) (sh59, J', Lg, Rf, nc, ns))
    (hQ1 : (sc S cur).1 ≤ 40 → ∀ x, x < N.2.2 → fd_is N.1 N.2.1 (sc S cur).2.1 (sc S cur).1 x → ∀ J', RR H (K, P, E, N, S, M, C, O, ((sc S cur).2.2.1, (sc S cur).2.2.2, v, n, nl)) J' → Q (.inl (some (.int (nI (65536 + rp x))))) (sh59, J', Lg, Rf, nc, ns))
    (hQ2 : (sc S cur).1 ≤ 40 → N.2.2 = 1036 → (∀ i, i < N.2.2 → ¬ fd_is N.1 N.2.1 (sc S cur).2.1 (sc S cur).1 i) → ∀ J', RD H (K, P, E, N, S, M, C, O, ((sc S cur).2.2.1, (sc S cur).2.2.2, v, n, nl)) J' → Q (.inl (some (.int (-1)))) (sh59, J', Lg, Rf, nc, ns))
    (hQ3 : (sc S cur).1 ≤ 40 → N.2.2 < 1036 → (∀ i, i < N.2.2 → ¬ fd_is N.1 N.2.1 (sc S cur).2.1 (sc S cur).1 i) → ∀ J', RR H (K, P, E, nN N (sc S cur).2.1 (sc S cur).1, S, M, C, O, ((sc S cur).2.2.1, (sc S cur).2.2.2, v, n, nl)) J' → Q (.inl (some (.int (nI (65536 + N.2.2))))) (sh59, J', Lg, Rf, nc, ns)) :
    mj_call X mj_P (mj_bi X) (d + 3) 114 [.ref 36] (sh59, J, Lg, Rf, nc, ns) Q := by
  have hm := mm_rf hM'
  have gS := (gv_d hv).2.2.2.1
  have gL := (gv_d hv).2.2.2.2.2.2.2
  have hG : S.2.2.1 ≤ 100 := gS.1
  have vL := sc_gvL (S := S) gL
  -- the end: the name is spelled, or a fault has come
  have F167 : ∀ J', RD H (K, P, E, N, S, M, C, O, ((sc S cur).2.2.1, (sc S cur).2.2.2, v, n, nl)) J' → 40 < (sc S cur).1 → mj_rn X (mj_hd []) (mj_call X mj_P (mj_bi X) (d + 2)) mb_114 167 [some (.ref 36)] [] (sh59, J', Lg, Rf, nc, ns) Q := by
    intro J' hD hlt
    obtain ⟨f, f0, f1, f2⟩ := hD.2.1
    refine mj_blk rfl ?_
    simp +decide only [mjs_0, mjs_1, mjs_2, mjs_3, mjs_ble, true_and, Bool.false_eq_true, if_false, if_true, Nat.reduceAdd, Nat.reduceSub, Nat.reduceLeDiff, false_implies, true_implies, not_false_eq_true, not_true_eq_false, and_true, mm_sh, hm, mjs_up_at, mjs_up_c, mjs_up_f, f2]
    refine ⟨fun q => absurd q (nI_nle f0 f1), fun _ => mj_blk rfl ?_⟩
    simp +decide only [mjs_0, mjs_1, mjs_2, mjs_3, mjs_ble, true_and, Bool.false_eq_true, if_false, if_true, Nat.reduceAdd, Nat.reduceSub, Nat.reduceLeDiff, false_implies, true_implies, not_false_eq_true, not_true_eq_false, and_true, mm_sh, hm, mjs_up_at, mjs_up_c, mjs_up_f]
    refine mj_blk rfl ?_
    simp +decide only [mjs_0, mjs_1, mjs_2, mjs_3, mjs_ble, true_and, Bool.false_eq_true, if_false, if_true, Nat.reduceAdd, Nat.reduceSub, Nat.reduceLeDiff, false_implies, true_implies, not_false_eq_true, not_true_eq_false, and_true, mm_sh, hm, mjs_up_at, mjs_up_c, mjs_up_f]
    exact hQ0 hlt J' hD
  have E167 : ∀ J', RR H (K, P, E, N, S, M, C, O, ((sc S cur).2.2.1, (sc S cur).2.2.2, v, n, nl)) J' → rd_S J' 36 (sc S cur).2.1 (sc S cur).1 → mj_rn X (mj_hd []) (mj_call X mj_P (mj_bi X) (d + 2)) mb_114 167 [some (.ref 36)] [] (sh59, J', Lg, Rf, nc, ns) Q := by
    intro J' hJ hs
    have hk : (sc S cur).1 ≤ 40 := hs.2.1
    have f39 := hJ.1.2.2.2
    have K182 : ∀ (x : Int32) (J2 : Nat → Nat → Int32), Q (.inl (some (.int x))) (sh59, J2, Lg, Rf, nc, ns) → mj_rn X (mj_hd []) (mj_call X mj_P (mj_bi X) (d + 2)) mb_114 182 [some (.ref 36)] [.int x] (sh59, J2, Lg, Rf, nc, ns) Q := by
      intro x J2 hq
      refine mj_blk rfl ?_
      simp +decide only [mjs_0, mjs_1, mjs_2, mjs_3, mjs_ble, true_and, Bool.false_eq_true, if_false, if_true, Nat.reduceAdd, Nat.reduceSub, Nat.reduceLeDiff, false_implies, true_implies, not_false_eq_true, not_true_eq_false, and_true, mm_sh, hm, mjs_up_at, mjs_up_c, mjs_up_f]
      exact hq
    refine mj_blk rfl ?_
    simp +decide only [mjs_0, mjs_1, mjs_2, mjs_3, mjs_ble, true_and, Bool.false_eq_true, if_false, if_true, Nat.reduceAdd, Nat.reduceSub, Nat.reduceLeDiff, false_implies, true_implies, not_false_eq_true, not_true_eq_false, and_true, mm_sh, hm, mjs_up_at, mjs_up_c, mjs_up_f, f39]
    refine mj_blk rfl ?_
    simp +decide only [mjs_0, mjs_1, mjs_2, mjs_3, mjs_ble, true_and, Bool.false_eq_true, if_false, if_true, Nat.reduceAdd, Nat.reduceSub, Nat.reduceLeDiff, false_implies, true_implies, not_false_eq_true, not_true_eq_false, and_true, mm_sh, hm, mjs_up_at, mjs_up_c, mjs_up_f]
    refine rq_110 hM' hJ (gv_L hv vL) hs (fun x hx hi => ?_) (fun hk' hno J2 hD => ?_) (fun hk' hno J2 hJ2 => ?_)
    · simp +decide only [mjs_0, mjs_1, mjs_2, mjs_3, mjs_ble, true_and, Bool.false_eq_true, if_false, if_true, Nat.reduceAdd, Nat.reduceSub, Nat.reduceLeDiff, false_implies, true_implies, not_false_eq_true, not_true_eq_false, and_true, mm_sh, hm, mjs_up_at, mjs_up_c, mjs_up_f]
      exact K182 _ _ (hQ1 hk x hx hi J' hJ)
    · simp +decide only [mjs_0, mjs_1, mjs_2, mjs_3, mjs_ble, true_and, Bool.false_eq_true, if_false, if_true, Nat.reduceAdd, Nat.reduceSub, Nat.reduceLeDiff, false_implies, true_implies, not_false_eq_true, not_true_eq_false, and_true, mm_sh, hm, mjs_up_at, mjs_up_c, mjs_up_f]
      exact K182 _ _ (hQ2 hk hk' hno J2 hD)
    · simp +decide only [mjs_0, mjs_1, mjs_2, mjs_3, mjs_ble, true_and, Bool.false_eq_true, if_false, if_true, Nat.reduceAdd, Nat.reduceSub, Nat.reduceLeDiff, false_implies, true_implies, not_false_eq_true, not_true_eq_false, and_true, mm_sh, hm, mjs_up_at, mjs_up_c, mjs_up_f]
      exact K182 _ _ (hQ3 hk hk' hno J2 hJ2)
  have L44 : ∀ (r : List Nat) (k : Nat) (w : Nat → Nat) (J : Nat → Nat → Int32), (∀ c ∈ r, c < 256) → RR H (K, P, E, N, S, M, C, O, (r, 2, v, n, nl)) J → rd_S J 36 w k →
      ((sw S r k w).1 ≤ 40 → ∀ J', RR H (K, P, E, N, S, M, C, O, ((sw S r k w).2.2, 2, v, n, nl)) J' → rd_S J' 36 (sw S r k w).2.1 (sw S r k w).1 → mj_rn X (mj_hd []) (mj_call X mj_P (mj_bi X) (d + 2)) mb_114 167 [some (.ref 36)] [] (sh59, J', Lg, Rf, nc, ns) Q) →
      (40 < (sw S r k w).1 → ∀ J', RD H (K, P, E, N, S, M, C, O, (r, 2, v, n, nl)) J' → mj_rn X (mj_hd []) (mj_call X mj_P (mj_bi X) (d + 2)) mb_114 167 [some (.ref 36)] [] (sh59, J', Lg, Rf, nc, ns) Q) →
      mj_rn X (mj_hd []) (mj_call X mj_P (mj_bi X) (d + 2)) mb_114 44 [some (.ref 36)] [] (sh59, J, Lg, Rf, nc, ns) Q := by
    intro r
    induction r with
    | nil =>
      intro k w J hc h hs hA hB
      obtain ⟨l1, l2, l3, ⟨lp, l4, l5, l6, l7⟩, -, -⟩ := h.2.2.2.2.2.2.2.2.1
      have l5 : J 36 8 = nI lp := l5
      have l6 : lp ≤ 4001 := l6
      refine mj_blk rfl ?_
      simp +decide only [mjs_0, mjs_1, mjs_2, mjs_3, mjs_ble, true_and, Bool.false_eq_true, if_false, if_true, Nat.reduceAdd, Nat.reduceSub, Nat.reduceLeDiff, false_implies, true_implies, not_false_eq_true, not_true_eq_false, and_true, mm_sh, hm, mjs_up_at, mjs_up_c, mjs_up_f, h.1.2.2.2]
      refine mj_blk rfl ?_
      simp +decide only [mjs_0, mjs_1, mjs_2, mjs_3, mjs_ble, true_and, Bool.false_eq_true, if_false, if_true, Nat.reduceAdd, Nat.reduceSub, Nat.reduceLeDiff, false_implies, true_implies, not_false_eq_true, not_true_eq_false, and_true, mm_sh, hm, mjs_up_at, mjs_up_c, mjs_up_f, l4, l5]
      exact ⟨fun _ => hA hs.2.1 J h hs, fun q => absurd (nI_le (Nat.le_refl lp) (by omega)) q⟩
    | cons c r ih =>
      intro k w J hc h hs hA hB
      have h' := h
      have hc256 : c < 256 := hc c List.mem_cons_self
      have ct := ctg_of gS hc256
      obtain ⟨hK, hP, hE, hN, hS, hM, hC, hO, hL, hZ⟩ := rr_d (h)
      have hL' := hL
      obtain ⟨l1, l2, l3, ⟨lp, l4, l5, l6, l7⟩, l8, l9⟩ := hL
      have l5 : J 36 8 = nI (lp + (r.length + 1)) := l5
      have l6 : lp + (r.length + 1) ≤ 4001 := l6
      have hc0 : J 39 lp = nI c := l7 0 (by simp)
      have e1 : (nI lp).toNatClampNeg = lp := nI_clamp (by omega)
      have c47 : J (36 + 11) (256 * S.2.2.1 + c) = nI (ctg S c) := (hS.2.2.1 S.2.2.1 c (Nat.le_refl _) hc256).2.1.trans ct.1
      refine mj_blk rfl ?_
      simp +decide only [mjs_0, mjs_1, mjs_2, mjs_3, mjs_ble, true_and, Bool.false_eq_true, if_false, if_true, Nat.reduceAdd, Nat.reduceSub, Nat.reduceLeDiff, false_implies, true_implies, not_false_eq_true, not_true_eq_false, and_true, mm_sh, hm, mjs_up_at, mjs_up_c, mjs_up_f, hK.2.2.2]
      refine mj_blk rfl ?_
      simp +decide only [mjs_0, mjs_1, mjs_2, mjs_3, mjs_ble, true_and, Bool.false_eq_true, if_false, if_true, Nat.reduceAdd, Nat.reduceSub, Nat.reduceLeDiff, false_implies, true_implies, not_false_eq_true, not_true_eq_false, and_true, mm_sh, hm, mjs_up_at, mjs_up_c, mjs_up_f, l4, l5]
      refine ⟨fun q => absurd q (nI_ge (by omega) (by omega)), fun _ => mj_blk rfl ?_⟩
      simp +decide only [mjs_0, mjs_1, mjs_2, mjs_3, mjs_ble, true_and, Bool.false_eq_true, if_false, if_true, Nat.reduceAdd, Nat.reduceSub, Nat.reduceLeDiff, false_implies, true_implies, not_false_eq_true, not_true_eq_false, and_true, mm_sh, hm, mjs_up_at, mjs_up_c, mjs_up_f, l4, e1, hc0]
      refine ⟨nI_in (by omega) (by decide), r_112 (mm_W hM') hc256 hS.1 hG ?_⟩
      rw [c47]
      simp +decide only [mjs_0, mjs_1, mjs_2, mjs_3, mjs_ble, true_and, Bool.false_eq_true, if_false, if_true, Nat.reduceAdd, Nat.reduceSub, Nat.reduceLeDiff, false_implies, true_implies, not_false_eq_true, not_true_eq_false, and_true, mm_sh, hm, mjs_up_at, mjs_up_c, mjs_up_f]
      refine ⟨fun q => ?_, fun q => mj_blk rfl ?_⟩
      · have hne : ctg S c ≠ 11 := fun e => q (by rw [e]; rfl)
        unfold sw at hA
        rw [if_neg hne] at hA
        exact hA hs.2.1 J h' hs
      · have heq : ctg S c = 11 := (nI_eq (by omega) (by decide)).mp (show nI (ctg S c) = nI 11 from Decidable.not_not.mp q)
        unfold sw at hA hB
        rw [if_pos heq] at hA hB
        simp +decide only [mjs_0, mjs_1, mjs_2, mjs_3, mjs_ble, true_and, Bool.false_eq_true, if_false, if_true, Nat.reduceAdd, Nat.reduceSub, Nat.reduceLeDiff, false_implies, true_implies, not_false_eq_true, not_true_eq_false, and_true, mm_sh, hm, mjs_up_at, mjs_up_c, mjs_up_f, l4, e1, hc0]
        refine ⟨nI_in (by omega) (by decide), r_111 hM' hs.2.1 hs.1 hK.2.2.2 (fun hlt => ?_) (fun hk => ?_)⟩
        · simp +decide only [mjs_0, mjs_1, mjs_2, mjs_3, mjs_ble, true_and, Bool.false_eq_true, if_false, if_true, Nat.reduceAdd, Nat.reduceSub, Nat.reduceLeDiff, false_implies, true_implies, not_false_eq_true, not_true_eq_false, and_true, mm_sh, hm, mjs_up_at, mjs_up_c, mjs_up_f, l4, nI_1]
          refine ih (k + 1) (ud w k c) _ (fun x hx => hc x (List.mem_cons_of_mem _ hx)) (rr_L h' (fun b q b1 b2 b3 => ?_) (fun q q1 q2 q3 q4 q5 q6 => ?_) (rrL_eat hL' ?_ ?_ ?_ ?_ (fun q => ?_) (fun q => ?_) (fun _ => ?_) ?_)) ⟨?_, by omega, fun j hj => ?_⟩ hA hB
          · rw [mjs_up_c b1, mjs_up_c b1, mjs_up_c b3]
          · rw [mjs_up_f q4, mjs_up_f q6, mjs_up_c (by decide)]
          · rw [mjs_up_f (by decide), mjs_up_f (by decide), mjs_up_c (by decide)]
          · rw [mjs_up_f (by decide), mjs_up_f (by decide), mjs_up_c (by decide)]
          · rw [mjs_up_f (by decide), mjs_up_f (by decide), mjs_up_c (by decide)]
          · rw [mjs_up_f (by decide), mjs_up_f (by decide), mjs_up_c (by decide)]
          · rw [mjs_up_c (by decide), mjs_up_c (by decide), mjs_up_c (by decide)]
          · rw [mjs_up_c (by decide), mjs_up_c (by decide), mjs_up_c (by decide)]
          · rw [mjs_up_f (by decide), mjs_up_f (by decide), mjs_up_c (by decide)]
            exact l3 (by simp)
          · rw [mjs_up_at, l4, nI_1]
          · rw [mjs_up_f (by decide), mjs_up_at]
          · show mj_up (mj_up (mj_up J 42 k (nI c)) 36 15 _) 36 9 _ 42 j = _ ∧ _
            rw [mjs_up_c (by decide), mjs_up_c (by decide)]
            by_cases e : j = k
            · rw [e, mjs_up_at, ud_at]
              exact ⟨rfl, hc256⟩
            · rw [mjs_up_ne (Or.inr e), ud_ne e]
              exact hs.2.2 j (by omega)
        · have hk1 := (sw_p S r (k + 1) (ud w k c)).1
          simp +decide only [mjs_0, mjs_1, mjs_2, mjs_3, mjs_ble, true_and, Bool.false_eq_true, if_false, if_true, Nat.reduceAdd, Nat.reduceSub, Nat.reduceLeDiff, false_implies, true_implies, not_false_eq_true, not_true_eq_false, and_true, mm_sh, hm, mjs_up_at, mjs_up_c, mjs_up_f, l4, nI_1]
          refine mj_blk rfl ?_
          simp +decide only [mjs_0, mjs_1, mjs_2, mjs_3, mjs_ble, true_and, Bool.false_eq_true, if_false, if_true, Nat.reduceAdd, Nat.reduceSub, Nat.reduceLeDiff, false_implies, true_implies, not_false_eq_true, not_true_eq_false, and_true, mm_sh, hm, mjs_up_at, mjs_up_c, mjs_up_f]
          refine hB (by omega) _ ?_
          obtain ⟨d1, d2, d3, d4, d5⟩ := rr_f (f := 2) (by decide) (by decide) h'
          refine ⟨d1, ⟨2, by decide, by decide, ?_⟩, d3, d4, fun c hc => ?_⟩
          · rw [mjs_up_f (by decide), mjs_up_at]
          · rw [mj_up_off (by omega)]
            exact d5 c hc
  have w0 : ∀ w, rd_S (mj_up (mj_up J 36 15 0) 36 10 1) 36 w 0 := fun w => ⟨rfl, by decide, fun j hj => absurd hj (Nat.not_lt_zero _)⟩
  have h0 : ∀ (st' : Nat) (x : Int32), (cur ≠ [] → x = nI st') → RR H (K, P, E, N, S, M, C, O, (cur, st', v, n, nl)) (mj_up (mj_up J 36 15 0) 36 10 x) := by
    intro st' x hx
    refine rr_L h (fun b q b1 b2 b3 => ?_) (fun q q1 q2 q3 q4 q5 q6 => ?_) ?_
    · rw [mjs_up_c b1, mjs_up_c b1]
    · rw [mjs_up_f q5, mjs_up_f q6]
    · obtain ⟨l1, l2, l3, l4, l5, l6⟩ := h.2.2.2.2.2.2.2.2.1
      exact ⟨l1, l2, hx, l4, l5, l6⟩
  obtain ⟨hK, hP, hE, hN, hS, hM, hC, hO, hL, hZ⟩ := rr_d (h0 1 1 (fun _ => rfl))
  refine mj_enter (z := (1, [], mb_114)) (by decide) rfl rfl ?_
  cases cur with
  | nil =>
    have hsc : sc S [] = (0, fun _ => 0, [], 1) := rfl
    obtain ⟨l1, l2, l3, ⟨lp, l4, l5, l6, l7⟩, -, -⟩ := h.2.2.2.2.2.2.2.2.1
    have l5 : J 36 8 = nI lp := l5
    have l6 : lp ≤ 4001 := l6
    refine mj_blk rfl ?_
    simp +decide only [mjs_0, mjs_1, mjs_2, mjs_3, mjs_ble, true_and, Bool.false_eq_true, if_false, if_true, Nat.reduceAdd, Nat.reduceSub, Nat.reduceLeDiff, false_implies, true_implies, not_false_eq_true, not_true_eq_false, and_true, mm_sh, hm, mjs_up_at, mjs_up_c, mjs_up_f, l4, l5]
    have K106 : mj_rn X (mj_hd []) (mj_call X mj_P (mj_bi X) (d + 2)) mb_114 106 [some (.ref 36)] [] (sh59, mj_up (mj_up J 36 15 0) 36 10 1, Lg, Rf, nc, ns) Q := by
      refine mj_blk rfl ?_
      simp +decide only [mjs_0, mjs_1, mjs_2, mjs_3, mjs_ble, true_and, Bool.false_eq_true, if_false, if_true, Nat.reduceAdd, Nat.reduceSub, Nat.reduceLeDiff, false_implies, true_implies, not_false_eq_true, not_true_eq_false, and_true, mm_sh, hm, mjs_up_at, mjs_up_c, mjs_up_f, l4, l5]
      refine ⟨fun _ => E167 _ (h0 1 1 (fun _ => rfl)) (w0 _), fun q => absurd (nI_le (Nat.le_refl lp) (by omega)) q⟩
    exact ⟨fun _ => K106, fun q => absurd (nI_le (Nat.le_refl lp) (by omega)) q⟩
  | cons c r =>
    have hc256 : c < 256 := gL.2.1 c List.mem_cons_self
    have ct := ctg_of gS hc256
    obtain ⟨l1, l2, l3, ⟨lp, l4, l5, l6, l7⟩, l8, l9⟩ := h.2.2.2.2.2.2.2.2.1
    have l5 : J 36 8 = nI (lp + (r.length + 1)) := l5
    have l6 : lp + (r.length + 1) ≤ 4001 := l6
    have hc0 : J 39 lp = nI c := l7 0 (by simp)
    have e1 : (nI lp).toNatClampNeg = lp := nI_clamp (by omega)
    have c47 : mj_up (mj_up J 36 15 0) 36 10 1 (36 + 11) (256 * S.2.2.1 + c) = nI (ctg S c) := (hS.2.2.1 S.2.2.1 c (Nat.le_refl _) hc256).2.1.trans ct.1
    refine mj_blk rfl ?_
    simp +decide only [mjs_0, mjs_1, mjs_2, mjs_3, mjs_ble, true_and, Bool.false_eq_true, if_false, if_true, Nat.reduceAdd, Nat.reduceSub, Nat.reduceLeDiff, false_implies, true_implies, not_false_eq_true, not_true_eq_false, and_true, mm_sh, hm, mjs_up_at, mjs_up_c, mjs_up_f, l4, l5]
    refine ⟨fun q => absurd q (nI_ge (by omega) (by omega)), fun _ => mj_blk rfl ?_⟩
    simp +decide only [mjs_0, mjs_1, mjs_2, mjs_3, mjs_ble, true_and, Bool.false_eq_true, if_false, if_true, Nat.reduceAdd, Nat.reduceSub, Nat.reduceLeDiff, false_implies, true_implies, not_false_eq_true, not_true_eq_false, and_true, mm_sh, hm, mjs_up_at, mjs_up_c, mjs_up_f, l4, e1, hc0]
    refine ⟨nI_in (by omega) (by decide), r_112 (mm_W hM') hc256 hS.1 hG ?_⟩
    rw [c47]
    simp +decide only [mjs_0, mjs_1, mjs_2, mjs_3, mjs_ble, true_and, Bool.false_eq_true, if_false, if_true, Nat.reduceAdd, Nat.reduceSub, Nat.reduceLeDiff, false_implies, true_implies, not_false_eq_true, not_true_eq_false, and_true, mm_sh, hm, mjs_up_at, mjs_up_c, mjs_up_f]
    refine ⟨fun q => ?_, fun q => mj_blk rfl ?_⟩
    · have hne : ctg S c ≠ 11 := fun e => q (by rw [e]; rfl)
      have hsc : sc S (c :: r) = (1, ud (fun _ => 0) 0 c, r, if ctg S c = 10 then 2 else 1) := by
        unfold sc sw
        rw [if_neg hne, if_pos rfl]
      have K141 : ∀ st', st' = (if ctg S c = 10 then 2 else 1) → mj_rn X (mj_hd []) (mj_call X mj_P (mj_bi X) (d + 2)) mb_114 141 [some (.ref 36)] [.int (nI st'), .ref 36] (sh59, mj_up (mj_up J 36 15 0) 36 10 1, Lg, Rf, nc, ns) Q := by
        intro st' hst
        refine mj_blk rfl ?_
        simp +decide only [mjs_0, mjs_1, mjs_2, mjs_3, mjs_ble, true_and, Bool.false_eq_true, if_false, if_true, Nat.reduceAdd, Nat.reduceSub, Nat.reduceLeDiff, false_implies, true_implies, not_false_eq_true, not_true_eq_false, and_true, mm_sh, hm, mjs_up_at, mjs_up_c, mjs_up_f, l4, e1, hc0]
        refine ⟨nI_in (by omega) (by decide), r_111 hM' (k := 0) (by decide) rfl hK.2.2.2 (fun hlt => ?_) (fun hk => by omega)⟩
        simp +decide only [mjs_0, mjs_1, mjs_2, mjs_3, mjs_ble, true_and, Bool.false_eq_true, if_false, if_true, Nat.reduceAdd, Nat.reduceSub, Nat.reduceLeDiff, false_implies, true_implies, not_false_eq_true, not_true_eq_false, and_true, mm_sh, hm, mjs_up_at, mjs_up_c, mjs_up_f, l4, nI_1]
        rw [hsc] at E167
        refine E167 _ (rr_L h (fun b q b1 b2 b3 => ?_) (fun q q1 q2 q3 q4 q5 q6 => ?_) (rrL_eat h.2.2.2.2.2.2.2.2.1 ?_ ?_ ?_ ?_ (fun q => ?_) (fun q => ?_) (fun _ => ?_) ?_)) ⟨?_, Nat.le_add_left 1 39, fun j hj => ?_⟩
        · rw [mjs_up_c b1, mjs_up_c b1, mjs_up_c b3, mjs_up_c b1, mjs_up_c b1, mjs_up_c b1]
        · rw [mjs_up_f q4, mjs_up_f q6, mjs_up_c (by decide), mjs_up_f q5, mjs_up_f q5, mjs_up_f q6]
        · rfl
        · rfl
        · rfl
        · rfl
        · rfl
        · rfl
        · rw [← hst]
          rfl
        · rw [mjs_up_at, l4, nI_1]
        · rfl
        · obtain rfl : j = 0 := by dsimp only at hj; omega
          exact ⟨rfl, show ud (fun _ => 0) 0 c 0 < 256 by rw [ud_at]; exact hc256⟩
      refine mj_blk rfl ?_
      simp +decide only [mjs_0, mjs_1, mjs_2, mjs_3, mjs_ble, true_and, Bool.false_eq_true, if_false, if_true, Nat.reduceAdd, Nat.reduceSub, Nat.reduceLeDiff, false_implies, true_implies, not_false_eq_true, not_true_eq_false, and_true, mm_sh, hm, mjs_up_at, mjs_up_c, mjs_up_f, l4, l5]
      refine ⟨fun q => absurd q (nI_ge (by omega) (by omega)), fun _ => mj_blk rfl ?_⟩
      simp +decide only [mjs_0, mjs_1, mjs_2, mjs_3, mjs_ble, true_and, Bool.false_eq_true, if_false, if_true, Nat.reduceAdd, Nat.reduceSub, Nat.reduceLeDiff, false_implies, true_implies, not_false_eq_true, not_true_eq_false, and_true, mm_sh, hm, mjs_up_at, mjs_up_c, mjs_up_f, l4, e1, hc0]
      refine ⟨nI_in (by omega) (by decide), r_112 (mm_W hM') hc256 hS.1 hG ?_⟩
      rw [c47]
      simp +decide only [mjs_0, mjs_1, mjs_2, mjs_3, mjs_ble, true_and, Bool.false_eq_true, if_false, if_true, Nat.reduceAdd, Nat.reduceSub, Nat.reduceLeDiff, false_implies, true_implies, not_false_eq_true, not_true_eq_false, and_true, mm_sh, hm, mjs_up_at, mjs_up_c, mjs_up_f]
      refine ⟨fun q => mj_blk rfl ?_, fun q => mj_blk rfl ?_⟩
      · have h10 : ctg S c ≠ 10 := fun e => q (by rw [e]; rfl)
        simp +decide only [mjs_0, mjs_1, mjs_2, mjs_3, mjs_ble, true_and, Bool.false_eq_true, if_false, if_true, Nat.reduceAdd, Nat.reduceSub, Nat.reduceLeDiff, false_implies, true_implies, not_false_eq_true, not_true_eq_false, and_true, mm_sh, hm, mjs_up_at, mjs_up_c, mjs_up_f]
        exact K141 1 (by rw [if_neg h10])
      · have h10 : ctg S c = 10 := (nI_eq (by omega) (by decide)).mp (show nI (ctg S c) = nI 10 from Decidable.not_not.mp q)
        simp +decide only [mjs_0, mjs_1, mjs_2, mjs_3, mjs_ble, true_and, Bool.false_eq_true, if_false, if_true, Nat.reduceAdd, Nat.reduceSub, Nat.reduceLeDiff, false_implies, true_implies, not_false_eq_true, not_true_eq_false, and_true, mm_sh, hm, mjs_up_at, mjs_up_c, mjs_up_f]
        exact K141 2 (by rw [if_pos h10])
    · have heq : ctg S c = 11 := (nI_eq (by omega) (by decide)).mp (show nI (ctg S c) = nI 11 from Decidable.not_not.mp q)
      have hsw : 1 ≤ (sw S (c :: r) 0 (fun _ => 0)).1 := by
        unfold sw
        rw [if_pos heq]
        exact (sw_p S r 1 _).1
      have hsc : sc S (c :: r) = ((sw S (c :: r) 0 (fun _ => 0)).1, (sw S (c :: r) 0 (fun _ => 0)).2.1, (sw S (c :: r) 0 (fun _ => 0)).2.2, 2) := by
        unfold sc
        rw [if_neg (by omega)]
      simp +decide only [mjs_0, mjs_1, mjs_2, mjs_3, mjs_ble, true_and, Bool.false_eq_true, if_false, if_true, Nat.reduceAdd, Nat.reduceSub, Nat.reduceLeDiff, false_implies, true_implies, not_false_eq_true, not_true_eq_false, and_true, mm_sh, hm, mjs_up_at, mjs_up_c, mjs_up_f]
      have e10 : mj_up (mj_up (mj_up J 36 15 0) 36 10 1) 36 10 2 = mj_up (mj_up J 36 15 0) 36 10 2 := by
        funext b q
        unfold mj_up
        split
        · split <;> rfl
        · rfl
      rw [e10]
      refine L44 (c :: r) 0 (fun _ => 0) _ gL.2.1 (h0 2 2 (fun _ => rfl)) ⟨rfl, by decide, fun j hj => absurd hj (Nat.not_lt_zero _)⟩ (fun hle J' a1 a2 => ?_) (fun hlt J' a1 => ?_)
      · rw [hsc] at E167
        exact E167 J' a1 a2
      · rw [hsc] at F167
        exact F167 J' a1 hlt
end MJRN
