/-! A MACRO'S BODY: places and signs; the loop, in both -/
def psl (t n : Nat) : Prop := 3121 ≤ t ∧ t ≤ 3129 ∧ t - 3120 ≤ n
section MJBL
variable {X : mj_X} {d nc ns : Nat} {Q : mj_Q} {I I' J J' H : Nat → Nat → Int32} {Lg : Nat → Nat → Int64} {Rf : Nat → Nat → Option Nat} {fb fb' : Nat → Nat → Int32} {vb : Nat → Int32} {K K' K2 : Nat × Nat × Nat} {P P' P2 : List Nat} {E : sgE} {N N' N2 : sgN} {S S' S2 : sgS} {M M' : sgM} {C C' C2 : sgC} {O : sgO} {L L' L2 : sgL} {t n kc kr gl s' k a v xf h0 m b dp : Nat} {u : Int32} {g g' : sg}
theorem cq_68 (hR : mj_Rt mp_R Rf) (hr' : nc + 1 ≤ X.2.2.1 ∧ ns + 6 ≤ X.2.2.2) (ht : t < 2 ^ 30) (hn : n ≤ 9) (hv : gv (K, P, E, N, S, M, C, O, L)) (h : RC fb vb (K, P, E, N, S, M, C, O, L) I) (hQ1 : psl t n → Q (.inl (some (.int (nI (2097152 + (t - 3120)))))) (sh59, I, Lg, Rf, nc, ns)) (hQ2 : ¬ psl t n → cg t = 6 → Q (.inl (some (.int (nI t)))) (sh59, I, Lg, Rf, nc, ns)) (hQ3 : ¬ psl t n → cg t ≠ 6 → ∀ I', RCf fb vb (K, P, E, N, S, M, C, O, L) I' → Q (.inr 500) (sh59, I', Lg, Rf, nc + 1, ns + 6)) : mj_call X mj_P (mj_bi X) (d + 2) 68 [.ref 34, .int (nI t), .int (nI n)] (sh59, I, Lg, Rf, nc, ns) Q := by
  have hr := mc_rf hR
  have no : ¬ psl t n → mj_rn X (mj_hd []) (mj_call X mj_P (mj_bi X) (d + 1)) mb_68 20 [some (.ref 34), some (.int (nI t)), none, none] [] (sh59, I, Lg, Rf, nc, ns) Q := by
    intro hq
    have hcl := cg_le (t := t)
    refine mj_blk rfl ?_
    simp +decide only [mjs_0, mjs_1, mjs_2, mjs_3, mjs_ble, true_and, Bool.false_eq_true, if_false, if_true, Nat.reduceAdd, Nat.reduceSub, Nat.reduceLeDiff, false_implies, true_implies, not_false_eq_true, not_true_eq_false, and_true]
    refine c_189 (by omega) ?_
    rw [cg_eq]
    simp +decide only [mjs_0, mjs_1, mjs_2, mjs_3, mjs_ble, true_and, Bool.false_eq_true, if_false, if_true, Nat.reduceAdd, Nat.reduceSub, Nat.reduceLeDiff, false_implies, true_implies, not_false_eq_true, not_true_eq_false, and_true]
    by_cases e6 : cg t = 6
    · refine ⟨fun q => absurd (by rw [e6]; rfl) q, fun _ => mj_blk rfl ?_⟩
      simp +decide only [mjs_0, mjs_1, mjs_2, mjs_3, mjs_ble, true_and, Bool.false_eq_true, if_false, if_true, Nat.reduceAdd, Nat.reduceSub, Nat.reduceLeDiff, false_implies, true_implies, not_false_eq_true, not_true_eq_false, and_true]
      refine mj_blk rfl ?_
      simp +decide only [mjs_0, mjs_1, mjs_2, mjs_3, mjs_ble, true_and, Bool.false_eq_true, if_false, if_true, Nat.reduceAdd, Nat.reduceSub, Nat.reduceLeDiff, false_implies, true_implies, not_false_eq_true, not_true_eq_false, and_true]
      exact hQ2 hq e6
    · refine ⟨fun _ => mj_blk rfl ?_, fun q => absurd (fun q => e6 ((nI_eq (b := 6) (by omega) (by decide)).mp q)) q⟩
      simp +decide only [mjs_0, mjs_1, mjs_2, mjs_3, mjs_ble, true_and, Bool.false_eq_true, if_false, if_true, Nat.reduceAdd, Nat.reduceSub, Nat.reduceLeDiff, false_implies, true_implies, not_false_eq_true, not_true_eq_false, and_true, mc_sh, hr, mjs_up_at, mjs_up_c, mjs_up_f]
      refine c_80 s59_1 hr' ?_
      simp +decide only [mjs_0, mjs_1, mjs_2, mjs_3, mjs_ble, true_and, Bool.false_eq_true, if_false, if_true, Nat.reduceAdd, Nat.reduceSub, Nat.reduceLeDiff, false_implies, true_implies, not_false_eq_true, not_true_eq_false, and_true]
      exact hQ3 hq e6 _ (rc_f hv h)
  refine mj_enter (z := (4, [], mb_68)) (by decide) rfl rfl ?_
  refine mj_blk rfl ?_
  simp +decide only [mjs_0, mjs_1, mjs_2, mjs_3, mjs_ble, true_and, Bool.false_eq_true, if_false, if_true, Nat.reduceAdd, Nat.reduceSub, Nat.reduceLeDiff, false_implies, true_implies, not_false_eq_true, not_true_eq_false, and_true]
  refine c_191 ht ?_
  by_cases hd : 3120 ≤ t ∧ t ≤ 3129
  · rw [if_pos hd]
    simp +decide only [mjs_0, mjs_1, mjs_2, mjs_3, mjs_ble, true_and, Bool.false_eq_true, if_false, if_true, Nat.reduceAdd, Nat.reduceSub, Nat.reduceLeDiff, false_implies, true_implies, not_false_eq_true, not_true_eq_false, and_true]
    by_cases h1 : t = 3120
    · refine ⟨fun _ => mj_nv (no (fun q => by unfold psl at q; omega)), fun q => absurd ?_ q⟩
      rw [h1]
      decide
    · refine ⟨fun q => absurd q (nI_nlt (a := t - 3120) (b := 1) (by omega) (by omega)), fun _ => mj_blk rfl ?_⟩
      simp +decide only [mjs_0, mjs_1, mjs_2, mjs_3, mjs_ble, true_and, Bool.false_eq_true, if_false, if_true, Nat.reduceAdd, Nat.reduceSub, Nat.reduceLeDiff, false_implies, true_implies, not_false_eq_true, not_true_eq_false, and_true]
      by_cases h2 : t - 3120 ≤ n
      · refine ⟨fun q => absurd q (nI_nlt (by omega) (by omega)), fun _ => mj_blk rfl ?_⟩
        simp +decide only [mjs_0, mjs_1, mjs_2, mjs_3, mjs_ble, true_and, Bool.false_eq_true, if_false, if_true, Nat.reduceAdd, Nat.reduceSub, Nat.reduceLeDiff, false_implies, true_implies, not_false_eq_true, not_true_eq_false, and_true, show (2097152 : Int32) + nI (t - 3120) = nI (2097152 + (t - 3120)) from nI_add 2097152 (t - 3120)]
        exact hQ1 ⟨by omega, hd.2, h2⟩
      · exact ⟨fun _ => mj_nv (no (fun q => h2 q.2.2)), fun q => absurd (nI_lt (by omega) (by omega)) q⟩
  · rw [if_neg hd]
    simp +decide only [mjs_0, mjs_1, mjs_2, mjs_3, mjs_ble, true_and, Bool.false_eq_true, if_false, if_true, Nat.reduceAdd, Nat.reduceSub, Nat.reduceLeDiff, false_implies, true_implies, not_false_eq_true, not_true_eq_false, and_true]
    exact mj_nv (no (fun q => by unfold psl at q; omega))
theorem r_242 (hM' : mj_Rt mm_R Rf) {D kk : Nat} (hd : 0 < dp ∧ dp < 2 ^ 31) (hn : n ≤ 9) (hk : kk ≤ 1036) (h3 : 36 ≤ kk) (ht : tv kk t) (hJ : RR H g J)
    (hq1 : psl t n → mj_rn X (mj_hd []) (mj_call X mj_P (mj_bi X) (D + 5)) mb_177 325 (z7 xf gl u h0 n (nI (262144 + (t - 3120))) b dp) [] (sh59, J, Lg, Rf, nc, ns) Q)
    (hq2 : ¬ psl t n → cg t = 6 → mj_rn X (mj_hd []) (mj_call X mj_P (mj_bi X) (D + 5)) mb_177 325 (z7 xf gl u h0 n (nI (rt t)) b dp) [] (sh59, J, Lg, Rf, nc, ns) Q)
    (hq3 : ¬ psl t n → cg t ≠ 6 → ∀ J', RD H g J' → Q (.inl none) (sh59, J', Lg, Rf, nc, ns)) :
    mj_rn X (mj_hd []) (mj_call X mj_P (mj_bi X) (D + 5)) mb_177 242 (z8 xf gl u h0 n b dp) [.int (nI (rt t))] (sh59, J, Lg, Rf, nc, ns) Q := by
  have hm := mm_rf hM'
  have ho : ov kk (some t) := fun u hu => by cases hu; exact ht
  have hrt := rt_lt hk h3 ht
  have bad : ∀ y : Int32, ¬ psl t n → cg t ≠ 6 → mj_rn X (mj_hd []) (mj_call X mj_P (mj_bi X) (D + 5)) mb_177 296 (z9 xf gl u h0 n (nI (rt t)) b dp y) [] (sh59, J, Lg, Rf, nc, ns) Q := by
    intro y q1 q2
    unfold z9
    refine mj_blk rfl ?_
    simp +decide only [mjs_0, mjs_1, mjs_2, mjs_3, mjs_ble, true_and, Bool.false_eq_true, if_false, if_true, Nat.reduceAdd, Nat.reduceSub, Nat.reduceLeDiff, false_implies, true_implies, not_false_eq_true, not_true_eq_false, and_true, mm_sh, hm, mjs_up_at, mjs_up_c, mjs_up_f]
    refine c_106 s59_36 ?_
    rw [if_pos hJ.1.2.2.2]
    have hJ12 := rr_f (f := 12) (by decide) (by decide) hJ
    simp +decide only [mjs_0, mjs_1, mjs_2, mjs_3, mjs_ble, true_and, Bool.false_eq_true, if_false, if_true, Nat.reduceAdd, Nat.reduceSub, Nat.reduceLeDiff, false_implies, true_implies, not_false_eq_true, not_true_eq_false, and_true, mm_sh, hm, mjs_up_at, mjs_up_c, mjs_up_f]
    exact mj_nv (f_302 (xf := xf) (gl := gl) (u := u) (h0 := h0) (n := n) (b := b) (dp := dp) (x := nI (rt t)) (y := y) hM' hd hJ12 (hq3 q1 q2 _ hJ12))
  unfold z8
  refine mj_blk rfl ?_
  simp +decide only [mjs_0, mjs_1, mjs_2, mjs_3, mjs_ble, true_and, Bool.false_eq_true, if_false, if_true, Nat.reduceAdd, Nat.reduceSub, Nat.reduceLeDiff, false_implies, true_implies, not_false_eq_true, not_true_eq_false, and_true, mm_sh, hm, mjs_up_at, mjs_up_c, mjs_up_f]
  refine rq_157 (o := some t) hk h3 ho (fun hdg => ?_) (fun hdg => ?_)
  · obtain ⟨t', e4, e5, e7⟩ := hdg
    cases e4
    have ert : rt t = t := by
      unfold rt rb
      rw [if_neg (by omega), if_pos (by omega)]
    have e6 : cg t ≠ 6 := by
      unfold cg
      split <;> omega
    have f1 : nI t - nI t / 256 * 256 = nI (t % 256) := pk_rem (d := 256) (by omega) (by decide) (by decide)
    have f2 : nI (t % 256) - 48 = nI (t - 3120) := by
      rw [show (48 : Int32) = nI 48 from rfl, pk_sub (by omega)]
      exact congrArg nI (by omega)
    simp +decide only [mjs_0, mjs_1, mjs_2, mjs_3, mjs_ble, true_and, Bool.false_eq_true, if_false, if_true, Nat.reduceAdd, Nat.reduceSub, Nat.reduceLeDiff, false_implies, true_implies, not_false_eq_true, not_true_eq_false, and_true, mm_sh, hm, mjs_up_at, mjs_up_c, mjs_up_f]
    refine mj_blk rfl ?_
    simp only [ert]
    simp +decide only [mjs_0, mjs_1, mjs_2, mjs_3, mjs_ble, true_and, Bool.false_eq_true, if_false, if_true, Nat.reduceAdd, Nat.reduceSub, Nat.reduceLeDiff, false_implies, true_implies, not_false_eq_true, not_true_eq_false, and_true, mm_sh, hm, mjs_up_at, mjs_up_c, mjs_up_f, f1, f2]
    refine mj_blk rfl ?_
    simp +decide only [mjs_0, mjs_1, mjs_2, mjs_3, mjs_ble, true_and, Bool.false_eq_true, if_false, if_true, Nat.reduceAdd, Nat.reduceSub, Nat.reduceLeDiff, false_implies, true_implies, not_false_eq_true, not_true_eq_false, and_true, mm_sh, hm, mjs_up_at, mjs_up_c, mjs_up_f, hJ.1.2.2.2]
    refine mj_blk rfl ?_
    rw [← ert]
    simp +decide only [mjs_0, mjs_1, mjs_2, mjs_3, mjs_ble, true_and, Bool.false_eq_true, if_false, if_true, Nat.reduceAdd, Nat.reduceSub, Nat.reduceLeDiff, false_implies, true_implies, not_false_eq_true, not_true_eq_false, and_true, mm_sh, hm, mjs_up_at, mjs_up_c, mjs_up_f]
    refine rq_121 (c := 6) hk h3 ht (by decide) (fun q => absurd q e6) (fun _ => ?_)
    simp +decide only [mjs_0, mjs_1, mjs_2, mjs_3, mjs_ble, true_and, Bool.false_eq_true, if_false, if_true, Nat.reduceAdd, Nat.reduceSub, Nat.reduceLeDiff, false_implies, true_implies, not_false_eq_true, not_true_eq_false, and_true, mm_sh, hm, mjs_up_at, mjs_up_c, mjs_up_f]
    refine mj_blk rfl ?_
    simp +decide only [mjs_0, mjs_1, mjs_2, mjs_3, mjs_ble, true_and, Bool.false_eq_true, if_false, if_true, Nat.reduceAdd, Nat.reduceSub, Nat.reduceLeDiff, false_implies, true_implies, not_false_eq_true, not_true_eq_false, and_true, mm_sh, hm, mjs_up_at, mjs_up_c, mjs_up_f]
    by_cases h1 : t = 3120
    · have hz : nI (rt t - 3120) = 0 := by
        rw [ert, h1]
        rfl
      refine ⟨fun _ => mj_nv (bad _ (fun q => by unfold psl at q; omega) e6), fun q => absurd hz q⟩
    · have hz : ¬ nI (rt t - 3120) = 0 := by
        rw [ert]
        exact nI_ne0 (by omega) (by omega)
      refine ⟨fun q => absurd q hz, fun _ => mj_blk rfl ?_⟩
      simp +decide only [mjs_0, mjs_1, mjs_2, mjs_3, mjs_ble, true_and, Bool.false_eq_true, if_false, if_true, Nat.reduceAdd, Nat.reduceSub, Nat.reduceLeDiff, false_implies, true_implies, not_false_eq_true, not_true_eq_false, and_true, mm_sh, hm, mjs_up_at, mjs_up_c, mjs_up_f]
      by_cases h2 : t - 3120 ≤ n
      · refine ⟨fun _ => mj_blk rfl ?_, fun q => absurd (nI_le (a := rt t - 3120) (b := n) (by rw [ert]; exact h2) (Nat.lt_of_le_of_lt hn (by decide))) q⟩
        simp +decide only [mjs_0, mjs_1, mjs_2, mjs_3, mjs_ble, true_and, Bool.false_eq_true, if_false, if_true, Nat.reduceAdd, Nat.reduceSub, Nat.reduceLeDiff, false_implies, true_implies, not_false_eq_true, not_true_eq_false, and_true, mm_sh, hm, mjs_up_at, mjs_up_c, mjs_up_f]
        refine ⟨fun q => absurd q (nI_nle (by omega) (by omega)), fun _ => mj_blk rfl ?_⟩
        simp +decide only [mjs_0, mjs_1, mjs_2, mjs_3, mjs_ble, true_and, Bool.false_eq_true, if_false, if_true, Nat.reduceAdd, Nat.reduceSub, Nat.reduceLeDiff, false_implies, true_implies, not_false_eq_true, not_true_eq_false, and_true, mm_sh, hm, mjs_up_at, mjs_up_c, mjs_up_f, show (262144 : Int32) + nI (rt t - 3120) = nI (262144 + (rt t - 3120)) from nI_add 262144 (rt t - 3120)]
        refine mj_blk rfl ?_
        simp +decide only [mjs_0, mjs_1, mjs_2, mjs_3, mjs_ble, true_and, Bool.false_eq_true, if_false, if_true, Nat.reduceAdd, Nat.reduceSub, Nat.reduceLeDiff, false_implies, true_implies, not_false_eq_true, not_true_eq_false, and_true, mm_sh, hm, mjs_up_at, mjs_up_c, mjs_up_f]
        refine mj_blk rfl ?_
        simp +decide only [mjs_0, mjs_1, mjs_2, mjs_3, mjs_ble, true_and, Bool.false_eq_true, if_false, if_true, Nat.reduceAdd, Nat.reduceSub, Nat.reduceLeDiff, false_implies, true_implies, not_false_eq_true, not_true_eq_false, and_true, mm_sh, hm, mjs_up_at, mjs_up_c, mjs_up_f]
        refine ⟨fun q => absurd q (nI_nle hd.1 hd.2), fun _ => ?_⟩
        have hq := hq1 ⟨by omega, e7, h2⟩
        unfold z7 at hq
        rw [ert]
        exact mj_nv hq
      · refine ⟨fun q => absurd ((nI_leI (a := rt t - 3120) (b := n) (by rw [ert]; omega) (Nat.lt_of_le_of_lt hn (by decide))).mp q) (by rw [ert]; exact h2), fun _ => mj_nv (bad _ (fun q => h2 q.2.2) e6)⟩
  · have hps : ¬ psl t n := fun q => hdg ⟨t, rfl, by have := q.1; omega, q.2.1⟩
    simp +decide only [mjs_0, mjs_1, mjs_2, mjs_3, mjs_ble, true_and, Bool.false_eq_true, if_false, if_true, Nat.reduceAdd, Nat.reduceSub, Nat.reduceLeDiff, false_implies, true_implies, not_false_eq_true, not_true_eq_false, and_true, mm_sh, hm, mjs_up_at, mjs_up_c, mjs_up_f]
    refine mj_blk rfl ?_
    simp +decide only [mjs_0, mjs_1, mjs_2, mjs_3, mjs_ble, true_and, Bool.false_eq_true, if_false, if_true, Nat.reduceAdd, Nat.reduceSub, Nat.reduceLeDiff, false_implies, true_implies, not_false_eq_true, not_true_eq_false, and_true, mm_sh, hm, mjs_up_at, mjs_up_c, mjs_up_f]
    refine mj_blk rfl ?_
    simp +decide only [mjs_0, mjs_1, mjs_2, mjs_3, mjs_ble, true_and, Bool.false_eq_true, if_false, if_true, Nat.reduceAdd, Nat.reduceSub, Nat.reduceLeDiff, false_implies, true_implies, not_false_eq_true, not_true_eq_false, and_true, mm_sh, hm, mjs_up_at, mjs_up_c, mjs_up_f, hJ.1.2.2.2]
    refine mj_blk rfl ?_
    simp +decide only [mjs_0, mjs_1, mjs_2, mjs_3, mjs_ble, true_and, Bool.false_eq_true, if_false, if_true, Nat.reduceAdd, Nat.reduceSub, Nat.reduceLeDiff, false_implies, true_implies, not_false_eq_true, not_true_eq_false, and_true, mm_sh, hm, mjs_up_at, mjs_up_c, mjs_up_f]
    refine rq_121 (c := 6) hk h3 ht (by decide) (fun e6 => ?_) (fun e6 => ?_)
    · simp +decide only [mjs_0, mjs_1, mjs_2, mjs_3, mjs_ble, true_and, Bool.false_eq_true, if_false, if_true, Nat.reduceAdd, Nat.reduceSub, Nat.reduceLeDiff, false_implies, true_implies, not_false_eq_true, not_true_eq_false, and_true, mm_sh, hm, mjs_up_at, mjs_up_c, mjs_up_f]
      refine mj_blk rfl ?_
      simp +decide only [mjs_0, mjs_1, mjs_2, mjs_3, mjs_ble, true_and, Bool.false_eq_true, if_false, if_true, Nat.reduceAdd, Nat.reduceSub, Nat.reduceLeDiff, false_implies, true_implies, not_false_eq_true, not_true_eq_false, and_true, mm_sh, hm, mjs_up_at, mjs_up_c, mjs_up_f]
      refine mj_blk rfl ?_
      simp +decide only [mjs_0, mjs_1, mjs_2, mjs_3, mjs_ble, true_and, Bool.false_eq_true, if_false, if_true, Nat.reduceAdd, Nat.reduceSub, Nat.reduceLeDiff, false_implies, true_implies, not_false_eq_true, not_true_eq_false, and_true, mm_sh, hm, mjs_up_at, mjs_up_c, mjs_up_f]
      refine mj_blk rfl ?_
      simp +decide only [mjs_0, mjs_1, mjs_2, mjs_3, mjs_ble, true_and, Bool.false_eq_true, if_false, if_true, Nat.reduceAdd, Nat.reduceSub, Nat.reduceLeDiff, false_implies, true_implies, not_false_eq_true, not_true_eq_false, and_true, mm_sh, hm, mjs_up_at, mjs_up_c, mjs_up_f]
      refine mj_blk rfl ?_
      simp +decide only [mjs_0, mjs_1, mjs_2, mjs_3, mjs_ble, true_and, Bool.false_eq_true, if_false, if_true, Nat.reduceAdd, Nat.reduceSub, Nat.reduceLeDiff, false_implies, true_implies, not_false_eq_true, not_true_eq_false, and_true, mm_sh, hm, mjs_up_at, mjs_up_c, mjs_up_f]
      refine ⟨fun q => absurd q (nI_nle hd.1 hd.2), fun _ => ?_⟩
      have hq := hq2 hps e6
      unfold z7 at hq
      exact mj_nv hq
    · simp +decide only [mjs_0, mjs_1, mjs_2, mjs_3, mjs_ble, true_and, Bool.false_eq_true, if_false, if_true, Nat.reduceAdd, Nat.reduceSub, Nat.reduceLeDiff, false_implies, true_implies, not_false_eq_true, not_true_eq_false, and_true, mm_sh, hm, mjs_up_at, mjs_up_c, mjs_up_f]
      refine mj_blk rfl ?_
      simp +decide only [mjs_0, mjs_1, mjs_2, mjs_3, mjs_ble, true_and, Bool.false_eq_true, if_false, if_true, Nat.reduceAdd, Nat.reduceSub, Nat.reduceLeDiff, false_implies, true_implies, not_false_eq_true, not_true_eq_false, and_true, mm_sh, hm, mjs_up_at, mjs_up_c, mjs_up_f]
      exact mj_nv (bad _ hps e6)
end MJBL
