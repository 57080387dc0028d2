/-! get AND need, in both -/
section MJTG
variable {X : mj_X} {d nc ns : Nat} {Q : mj_Q} {I I' J J' H : Nat → Nat → Int32} {Lg : Nat → Nat → Int64} {Rf : Nat → Nat → Option Nat} {fb : Nat → Nat → Int32} {vb : Nat → Int32} {K : Nat × Nat × Nat} {P : List Nat} {E : sgE} {N : sgN} {S : sgS} {M : sgM} {C : sgC} {O : sgO} {L L' : sgL}
/-- the reference behind a fault stays there -/
theorem rd_up {g : sg} {q : Nat} {x : Int32} (h : RD H g J) (h1 : q ≠ 3 ∧ q ≠ 36 ∧ q ≠ 39 ∧ q ≠ 17) : RD H g (mj_up J 36 q x) := by
  obtain ⟨d1, ⟨f, f1, f2, f3⟩, d3, ⟨d4, lv, l1, l2⟩, d5⟩ := h
  refine ⟨?_, ⟨f, f1, f2, ?_⟩, ⟨?_, d3.2⟩, ⟨d4, lv, l1, by rw [mjs_up_f (Ne.symm h1.2.2.2)]; exact l2⟩, fun c hc => ?_⟩
  · rw [mjs_up_f (Ne.symm h1.2.1)]
    exact d1
  · rw [mjs_up_f (Ne.symm h1.2.2.1)]
    exact f3
  · rw [mjs_up_f (Ne.symm h1.1)]
    exact d3.1
  · rw [mj_up_off (by omega)]
    exact d5 c hc
theorem rd_ne {g : sg} (h : RD H g J) : ¬ J 36 39 = 0 := by
  obtain ⟨f, f1, f2, f3⟩ := h.2.1
  rw [f3]
  exact nI_ne0 f1 f2
theorem rd_nle {g : sg} (h : RD H g J) : ¬ J 36 39 ≤ 0 := by
  obtain ⟨f, f1, f2, f3⟩ := h.2.1
  rw [f3]
  exact nI_nle f1 f2
theorem rs_117 {g g' : sg} {t : Nat} (ht : t < 2 ^ 31) (h : RS X Rf 5 116 [.ref 36] g (some (.int (nI t))) g') : RS X Rf 6 117 [.ref 36] g (some (.int (nI t))) g' := by
  intro H Lg d nc ns J Q hJ hq
  have hne : ¬ nI t = -1 := fun e => absurd (nI_pos ht) (by rw [e]; decide)
  refine mj_enter (z := (2, [], mb_117)) (by decide) rfl rfl ?_
  refine mj_blk rfl ?_
  simp +decide only [mjs_0, mjs_1, mjs_2, mjs_3, mjs_ble, true_and, Bool.false_eq_true, if_false, if_true, Nat.reduceAdd, Nat.reduceSub, Nat.reduceLeDiff, false_implies, true_implies, not_false_eq_true, not_true_eq_false, and_true, mm_sh]
  refine h H Lg d nc ns J _ hJ (fun J' hJ' => ?_)
  simp +decide only [mjs_0, mjs_1, mjs_2, mjs_3, mjs_ble, true_and, Bool.false_eq_true, if_false, if_true, Nat.reduceAdd, Nat.reduceSub, Nat.reduceLeDiff, false_implies, true_implies, not_false_eq_true, not_true_eq_false, and_true]
  refine ⟨fun _ => mj_blk rfl ?_, fun q => absurd hne q⟩
  simp +decide only [mjs_0, mjs_1, mjs_2, mjs_3, mjs_ble, true_and, Bool.false_eq_true, if_false, if_true, Nat.reduceAdd, Nat.reduceSub, Nat.reduceLeDiff, false_implies, true_implies, not_false_eq_true, not_true_eq_false, and_true]
  exact hq J' hJ'
theorem rf_117e {g g' : sg} (h : RS X Rf 5 116 [.ref 36] g (some (.int (-1))) g') : RF X Rf 6 117 [.ref 36] g (some (.int (-1))) g' := by
  intro H Lg d nc ns J Q hJ hq
  refine mj_enter (z := (2, [], mb_117)) (by decide) rfl rfl ?_
  refine mj_blk rfl ?_
  simp +decide only [mjs_0, mjs_1, mjs_2, mjs_3, mjs_ble, true_and, Bool.false_eq_true, if_false, if_true, Nat.reduceAdd, Nat.reduceSub, Nat.reduceLeDiff, false_implies, true_implies, not_false_eq_true, not_true_eq_false, and_true, mm_sh]
  refine h H Lg d nc ns J _ hJ (fun J' hJ' => ?_)
  simp +decide only [mjs_0, mjs_1, mjs_2, mjs_3, mjs_ble, true_and, Bool.false_eq_true, if_false, if_true, Nat.reduceAdd, Nat.reduceSub, Nat.reduceLeDiff, false_implies, true_implies, not_false_eq_true, not_true_eq_false, and_true]
  refine mj_blk rfl ?_
  simp +decide only [mjs_0, mjs_1, mjs_2, mjs_3, mjs_ble, true_and, Bool.false_eq_true, if_false, if_true, Nat.reduceAdd, Nat.reduceSub, Nat.reduceLeDiff, false_implies, true_implies, not_false_eq_true, not_true_eq_false, and_true, mm_sh]
  refine c_106 s59_36 ?_
  rw [if_pos hJ'.1.2.2.2]
  simp +decide only [mjs_0, mjs_1, mjs_2, mjs_3, mjs_ble, true_and, Bool.false_eq_true, if_false, if_true, Nat.reduceAdd, Nat.reduceSub, Nat.reduceLeDiff, false_implies, true_implies, not_false_eq_true, not_true_eq_false, and_true]
  refine mj_blk rfl ?_
  simp +decide only [mjs_0, mjs_1, mjs_2, mjs_3, mjs_ble, true_and, Bool.false_eq_true, if_false, if_true, Nat.reduceAdd, Nat.reduceSub, Nat.reduceLeDiff, false_implies, true_implies, not_false_eq_true, not_true_eq_false, and_true]
  exact hq _ (rr_f (f := 9) (by decide) (by decide) hJ')
theorem rf_117 {g g' : sg} (h : RF X Rf 5 116 [.ref 36] g (some (.int (-1))) g') : RF X Rf 6 117 [.ref 36] g (some (.int (-1))) g' := by
  intro H Lg d nc ns J Q hJ hq
  refine mj_enter (z := (2, [], mb_117)) (by decide) rfl rfl ?_
  refine mj_blk rfl ?_
  simp +decide only [mjs_0, mjs_1, mjs_2, mjs_3, mjs_ble, true_and, Bool.false_eq_true, if_false, if_true, Nat.reduceAdd, Nat.reduceSub, Nat.reduceLeDiff, false_implies, true_implies, not_false_eq_true, not_true_eq_false, and_true, mm_sh]
  refine h H Lg d nc ns J _ hJ (fun J' hJ' => ?_)
  simp +decide only [mjs_0, mjs_1, mjs_2, mjs_3, mjs_ble, true_and, Bool.false_eq_true, if_false, if_true, Nat.reduceAdd, Nat.reduceSub, Nat.reduceLeDiff, false_implies, true_implies, not_false_eq_true, not_true_eq_false, and_true]
  refine mj_blk rfl ?_
  simp +decide only [mjs_0, mjs_1, mjs_2, mjs_3, mjs_ble, true_and, Bool.false_eq_true, if_false, if_true, Nat.reduceAdd, Nat.reduceSub, Nat.reduceLeDiff, false_implies, true_implies, not_false_eq_true, not_true_eq_false, and_true, mm_sh]
  refine f_106 s59_36 (rd_ne hJ') ?_
  simp +decide only [mjs_0, mjs_1, mjs_2, mjs_3, mjs_ble, true_and, Bool.false_eq_true, if_false, if_true, Nat.reduceAdd, Nat.reduceSub, Nat.reduceLeDiff, false_implies, true_implies, not_false_eq_true, not_true_eq_false, and_true]
  refine mj_blk rfl ?_
  simp +decide only [mjs_0, mjs_1, mjs_2, mjs_3, mjs_ble, true_and, Bool.false_eq_true, if_false, if_true, Nat.reduceAdd, Nat.reduceSub, Nat.reduceLeDiff, false_implies, true_implies, not_false_eq_true, not_true_eq_false, and_true]
  exact hq _ hJ'
theorem p_85 (hR : mj_Rt mp_R Rf) (hM' : mj_Rt mm_R Rf) (hv : gv (K, P, E, N, S, M, C, O, L)) (h : RC fb vb (K, P, E, N, S, M, C, O, L) I) (hp : P.length ≤ 10000) (hr' : nc + 1 ≤ X.2.2.1 ∧ ns + 6 ≤ X.2.2.2) {b : Nat} (hb : b = 0 ∨ b = 1)
    (hQ1 : ∀ t P' N' L' I', gv (K, P', E, N', S, M, C, O, L') → RC fb vb (K, P', E, N', S, M, C, O, L') I' → nx N N' → P'.length + tl L' < P.length + tl L → P'.length ≤ 9999 ∧ P'.length ≤ P.length → tl L' ≤ tl L → tv N'.2.2 t → RS X Rf 5 116 [.ref 36] (K, P, E, N, S, M, C, O, L) (some (.int (nI (rt t)))) (K, P', E, N', S, M, C, O, L') → Q (.inl (some (.int (nI t)))) (sh59, I', Lg, Rf, nc, ns))
    (hQ2 : b = 1 → P = [] → ∀ L' I', gv (K, [], E, N, S, M, C, O, L') → RC fb vb (K, [], E, N, S, M, C, O, L') I' → tl L' ≤ tl L → RS X Rf 5 116 [.ref 36] (K, P, E, N, S, M, C, O, L) (some (.int (-1))) (K, [], E, N, S, M, C, O, L') → Q (.inl (some (.int (-1)))) (sh59, I', Lg, Rf, nc, ns))
    (hQ3 : ∀ g' I', RCf fb vb g' I' → (b = 1 → RF X Rf 5 116 [.ref 36] (K, P, E, N, S, M, C, O, L) (some (.int (-1))) g') → RF X Rf 6 117 [.ref 36] (K, P, E, N, S, M, C, O, L) (some (.int (-1))) g' → Q (.inr 500) (sh59, I', Lg, Rf, nc + 1, ns + 6)) :
    mj_call X mj_P (mj_bi X) (d + 2) 85 [.ref 17, .int (nI b)] (sh59, I, Lg, Rf, nc, ns) Q := by
  have hr := mc_rf hR
  have hm := mm_rf hM'
  cases P with
  | cons t P' =>
    obtain ⟨hK, hP, hE, hN, hS, hM, hC, hO, hL, hZ⟩ := rc_d (h)
    have hlen : P'.length + 1 ≤ 10000 := hp
    refine c_85p (d := d + 1) hR (k := P'.length) (by omega) hP.1 ?_
    rw [hP.2.2.1]
    have k1 := (gv_d hv).2.2.1.1
    have k2 := (gv_d hv).2.2.1.2.1
    have tvt := (gv_d hv).1 t List.mem_cons_self
    refine hQ1 t P' N L _ ⟨fun x hx => (gv_d hv).1 x (List.mem_cons_of_mem _ hx), (gv_d hv).2⟩ ⟨hK, ⟨rfl, show P'.length < 10100 by omega, hP.2.2.2⟩, hE, hN, hS, hM, hC, hO, hL, hZ⟩ nx_rf (by simp only [List.length_cons]; omega) ⟨by omega, by simp⟩ (Nat.le_refl _) tvt ?_
    intro H Lg d nc ns J Q hJ hq
    obtain ⟨jK, jP, jE, jN, jS, jM, jC, jO, jL, jZ⟩ := rr_d hJ
    refine r_116p (d := d + 4) (mm_W hM') (p := P'.length) (by omega) jK.2.2.2 jP.1 ?_
    have e : J (36 + 17) P'.length = nI (rt t) := by
      have := jP.2.1
      rw [List.length_map] at this
      exact this
    rw [e]
    exact hq _ ⟨jK, ⟨rfl, jP.2.2⟩, jE, jN, jS, jM, jC, jO, jL, fun c hc => by rw [mj_up_off (by omega)]; exact jZ c hc⟩
  | nil =>
    have tle := tl_le (gv_d hv).2.2.2.2.2.2.2
    have hP := h.2.1
    have h8 : I 17 8 = 0 := hP.1
    have r116 : ∀ (H : Nat → Nat → Int32) (Lg : Nat → Nat → Int64) (d nc ns : Nat) (J : Nat → Nat → Int32) (Q : mj_Q), RR H (K, [], E, N, S, M, C, O, L) J → (∀ K' : mj_Q, (∀ (x : Int32) (J' : Nat → Nat → Int32), Q (.inl (some (.int x))) (sh59, J', Lg, Rf, nc, ns) → K' (.inl (some (.int x))) (sh59, J', Lg, Rf, nc, ns)) → mj_rn X (mj_hd []) (mj_call X mj_P (mj_bi X) (d + 3)) mb_115 0 [some (.ref 36), none, none] [] (sh59, J, Lg, Rf, nc, ns) K') → mj_call X mj_P (mj_bi X) (d + 5) 116 [.ref 36] (sh59, J, Lg, Rf, nc, ns) Q := by
      intro H Lg d nc ns J Q hJ hq
      have j29 : J 36 29 = 0 := hJ.2.1.1
      refine mj_enter (z := (1, [], mb_116)) (by decide) rfl rfl ?_
      refine mj_blk rfl ?_
      simp +decide only [mjs_0, mjs_1, mjs_2, mjs_3, mjs_ble, true_and, Bool.false_eq_true, if_false, if_true, Nat.reduceAdd, Nat.reduceSub, Nat.reduceLeDiff, false_implies, true_implies, not_false_eq_true, not_true_eq_false, and_true, mm_sh, hm, mjs_up_at, mjs_up_c, mjs_up_f, hJ.1.2.2.2]
      refine mj_blk rfl ?_
      simp +decide only [mjs_0, mjs_1, mjs_2, mjs_3, mjs_ble, true_and, Bool.false_eq_true, if_false, if_true, Nat.reduceAdd, Nat.reduceSub, Nat.reduceLeDiff, false_implies, true_implies, not_false_eq_true, not_true_eq_false, and_true, mm_sh, hm, mjs_up_at, mjs_up_c, mjs_up_f, j29]
      refine mj_blk rfl ?_
      simp +decide only [mjs_0, mjs_1, mjs_2, mjs_3, mjs_ble, true_and, Bool.false_eq_true, if_false, if_true, Nat.reduceAdd, Nat.reduceSub, Nat.reduceLeDiff, false_implies, true_implies, not_false_eq_true, not_true_eq_false, and_true, mm_sh, hm, mjs_up_at, mjs_up_c, mjs_up_f]
      refine mj_enter (z := (3, [], mb_115)) (by decide) rfl rfl ?_
      refine hq _ (fun x J' hx => ?_)
      simp +decide only [mjs_0, mjs_1, mjs_2, mjs_3, mjs_ble, true_and, Bool.false_eq_true, if_false, if_true, Nat.reduceAdd, Nat.reduceSub, Nat.reduceLeDiff, false_implies, true_implies, not_false_eq_true, not_true_eq_false, and_true, mm_sh, hm, mjs_up_at, mjs_up_c, mjs_up_f]
      exact hx
    refine mj_enter (z := (7, [], mb_85)) (by decide) rfl rfl ?_
    refine mj_blk rfl ?_
    simp +decide only [mjs_0, mjs_1, mjs_2, mjs_3, mjs_ble, true_and, Bool.false_eq_true, if_false, if_true, Nat.reduceAdd, Nat.reduceSub, Nat.reduceLeDiff, false_implies, true_implies, not_false_eq_true, not_true_eq_false, and_true, mc_sh, hr, mjs_up_at, mjs_up_c, mjs_up_f, h8]
    refine mj_blk rfl ?_
    simp +decide only [mjs_0, mjs_1, mjs_2, mjs_3, mjs_ble, true_and, Bool.false_eq_true, if_false, if_true, Nat.reduceAdd, Nat.reduceSub, Nat.reduceLeDiff, false_implies, true_implies, not_false_eq_true, not_true_eq_false, and_true, mc_sh, hr, mjs_up_at, mjs_up_c, mjs_up_f]
    refine p_29 hR hM' hr' 4001 L 0 I (by omega) (by omega) hv h ⟨fun t N' L' I' a1 a2 a3 a4 a5 a6 => ?_, fun L' I' a1 a2 a3 a4 w => ?_, fun g' I' a1 a2 => ?_⟩
    · refine hQ1 t [] N' L' I' a1 a2 a3 (by simpa using a4) (by simp) (by omega) a5 ?_
      intro H Lg d nc ns J Q hJ hq
      exact r116 H Lg d nc ns J Q hJ (fun K' hK' => a6 H Lg d nc ns J K' hJ (fun J' hJ' => hK' _ _ (hq J' hJ')))
    · have rs : RS X Rf 5 116 [.ref 36] (K, [], E, N, S, M, C, O, L) (some (.int (-1))) (K, [], E, N, S, M, C, O, L') := by
        intro H Lg d nc ns J Q hJ hq
        exact r116 H Lg d nc ns J Q hJ (fun K' hK' => a4 H Lg d nc ns J K' hJ (fun J' hJ' => hK' _ _ (hq J' hJ')))
      rcases hb with rfl | rfl
      · refine mj_blk rfl ?_
        simp +decide only [mjs_0, mjs_1, mjs_2, mjs_3, mjs_ble, true_and, Bool.false_eq_true, if_false, if_true, Nat.reduceAdd, Nat.reduceSub, Nat.reduceLeDiff, false_implies, true_implies, not_false_eq_true, not_true_eq_false, and_true, mc_sh, hr, mjs_up_at, mjs_up_c, mjs_up_f]
        refine mj_blk rfl ?_
        simp +decide only [mjs_0, mjs_1, mjs_2, mjs_3, mjs_ble, true_and, Bool.false_eq_true, if_false, if_true, Nat.reduceAdd, Nat.reduceSub, Nat.reduceLeDiff, false_implies, true_implies, not_false_eq_true, not_true_eq_false, and_true, mc_sh, hr, mjs_up_at, mjs_up_c, mjs_up_f]
        refine c_80 s59_1 hr' ?_
        simp +decide only [mjs_0, mjs_1, mjs_2, mjs_3, mjs_ble, true_and, Bool.false_eq_true, if_false, if_true, Nat.reduceAdd, Nat.reduceSub, Nat.reduceLeDiff, false_implies, true_implies, not_false_eq_true, not_true_eq_false, and_true]
        exact hQ3 _ _ (rc_f a1 a2) (fun e => absurd e (by decide)) (rf_117e rs)
      · refine mj_blk rfl ?_
        simp +decide only [mjs_0, mjs_1, mjs_2, mjs_3, mjs_ble, true_and, Bool.false_eq_true, if_false, if_true, Nat.reduceAdd, Nat.reduceSub, Nat.reduceLeDiff, false_implies, true_implies, not_false_eq_true, not_true_eq_false, and_true, mc_sh, hr, mjs_up_at, mjs_up_c, mjs_up_f]
        refine mj_blk rfl ?_
        simp +decide only [mjs_0, mjs_1, mjs_2, mjs_3, mjs_ble, true_and, Bool.false_eq_true, if_false, if_true, Nat.reduceAdd, Nat.reduceSub, Nat.reduceLeDiff, false_implies, true_implies, not_false_eq_true, not_true_eq_false, and_true, mc_sh, hr, mjs_up_at, mjs_up_c, mjs_up_f]
        refine mj_blk rfl ?_
        simp +decide only [mjs_0, mjs_1, mjs_2, mjs_3, mjs_ble, true_and, Bool.false_eq_true, if_false, if_true, Nat.reduceAdd, Nat.reduceSub, Nat.reduceLeDiff, false_implies, true_implies, not_false_eq_true, not_true_eq_false, and_true, mc_sh, hr, mjs_up_at, mjs_up_c, mjs_up_f]
        exact hQ2 rfl rfl L' I' a1 a2 (by omega) rs
    · have rf : RF X Rf 5 116 [.ref 36] (K, [], E, N, S, M, C, O, L) (some (.int (-1))) g' := by
        intro H Lg d nc ns J Q hJ hq
        exact r116 H Lg d nc ns J Q hJ (fun K' hK' => a2 H Lg d nc ns J K' hJ (fun J' hJ' => hK' _ _ (hq J' hJ')))
      exact hQ3 g' I' a1 (fun _ => rf) (rf_117 rf)
/-- with b = 0: need -/
theorem p_85n (hR : mj_Rt mp_R Rf) (hM' : mj_Rt mm_R Rf) (hv : gv (K, P, E, N, S, M, C, O, L)) (h : RC fb vb (K, P, E, N, S, M, C, O, L) I) (hp : P.length ≤ 10000) (hr' : nc + 1 ≤ X.2.2.1 ∧ ns + 6 ≤ X.2.2.2)
    (hQ1 : ∀ t P' N' L' I', gv (K, P', E, N', S, M, C, O, L') → RC fb vb (K, P', E, N', S, M, C, O, L') I' → nx N N' → P'.length + tl L' < P.length + tl L → P'.length ≤ 9999 ∧ P'.length ≤ P.length → tl L' ≤ tl L → tv N'.2.2 t → RS X Rf 6 117 [.ref 36] (K, P, E, N, S, M, C, O, L) (some (.int (nI (rt t)))) (K, P', E, N', S, M, C, O, L') → Q (.inl (some (.int (nI t)))) (sh59, I', Lg, Rf, nc, ns))
    (hQ3 : ∀ g' I', RCf fb vb g' I' → RF X Rf 6 117 [.ref 36] (K, P, E, N, S, M, C, O, L) (some (.int (-1))) g' → Q (.inr 500) (sh59, I', Lg, Rf, nc + 1, ns + 6)) :
    mj_call X mj_P (mj_bi X) (d + 2) 85 [.ref 17, .int 0] (sh59, I, Lg, Rf, nc, ns) Q := by
  refine p_85 (b := 0) hR hM' hv h hp hr' (Or.inl rfl) (fun t P' N' L' I' a1 a2 a3 a4 a5 a6 a7 a8 => hQ1 t P' N' L' I' a1 a2 a3 a4 a5 a6 a7 (rs_117 ?_ a8)) (fun e => absurd e (by decide)) (fun g' I' a1 a2 a3 => hQ3 g' I' a1 a3)
  have := rt_lt a1.2.2.1.2.1 a1.2.2.1.1 a7
  omega
end MJTG
