/-! A TOKEN PERFORMED, in both -/
section MJPE
variable {X : mj_X} {d nc ns : Nat} {Q : mj_Q} {I I' J J' H : Nat → Nat → Int32} {Lg : Nat → Nat → Int64} {Rf : Nat → Nat → Option Nat} {fb fb' : Nat → Nat → Int32} {vb : Nat → Int32} {K K' K'' : Nat × Nat × Nat} {P P' P'' : List Nat} {E : sgE} {N N' N'' : sgN} {S S' S'' : sgS} {M : sgM} {C C' C'' : sgC} {O : sgO} {L L' L'' : sgL} {t n kc kr c gl v b s' k : Nat} {g g' : sg}
/-- done, to its primitive -/
theorem r_167p (hM' : mj_Rt mm_R Rf) (hv : gv (K, P, E, N, S, M, C, O, L)) (ht : tv N.2.2 t) {p : Nat} (hp1 : 1 ≤ p ∧ p ≤ 36) (hgm : gm S t = 65536 + p) {D : Nat} (hJ : RR H (K, P, E, N, S, M, C, O, L) J) (hq : ∀ K' : mj_Q, (∀ J', Q (.inl none) (sh59, J', Lg, Rf, nc, ns) → K' (.inl none) (sh59, J', Lg, Rf, nc, ns)) → mj_call X mj_P (mj_bi X) (D + 3) 168 [.ref 36, .int (nI (rp (p - 1))), .int 0] (sh59, J, Lg, Rf, nc, ns) K') : mj_call X mj_P (mj_bi X) (D + 4) 167 [.ref 36, .int (nI (rt t))] (sh59, J, Lg, Rf, nc, ns) Q := by
  have hm := mm_rf hM'
  have hk : N.2.2 ≤ 1036 := (gv_d hv).2.2.1.2.1
  have hk1 : 36 ≤ N.2.2 := (gv_d hv).2.2.1.1
  have rl := rt_lt hk hk1 ht
  have me := rr_me hJ hv ht
  have hM := (gv_d hv).2.2.2.2.1
  have hmade := gvM_made hM
  have hrp := rp_lt (i := p - 1) (k := 36) (by omega) (by decide)
  have hy : mr_me J 36 S.2.2.1 (rt t) = nI (1000 + rp (p - 1)) := by
    rcases mw_n hM (by omega) me.1 with ⟨z, y⟩ | ⟨p', p1, p2, z, y⟩ | ⟨a, b, z, b1, y, hq⟩ | ⟨c, c1, z, y⟩ | ⟨m, m1, z, y⟩
    · omega
    · rw [y, show p' = p by omega]
    · omega
    · omega
    · omega
  have hs : nI (1000 + rp (p - 1)) - 1000 = nI (rp (p - 1)) := by
    rw [show (1000 : Int32) = nI 1000 from rfl, pk_sub (by omega)]
    exact congrArg nI (by omega)
  refine mj_enter (z := (3, [], mb_167)) (by decide) rfl rfl ?_
  refine mj_blk rfl ?_
  simp +decide only [mjs_0, mjs_1, mjs_2, mjs_3, mjs_ble, true_and, Bool.false_eq_true, if_false, if_true, Nat.reduceAdd, Nat.reduceSub, Nat.reduceLeDiff, false_implies, true_implies, not_false_eq_true, not_true_eq_false, and_true, mm_sh, hm, mjs_up_at, mjs_up_c, mjs_up_f]
  refine r_125 (mm_W hM') (by omega) (rr_d hJ).2.2.2.2.1.1 (rr_d hJ).2.2.2.2.1.2.2.2.2 me.2.1 ?_
  simp +decide only [mjs_0, mjs_1, mjs_2, mjs_3, mjs_ble, true_and, Bool.false_eq_true, if_false, if_true, Nat.reduceAdd, Nat.reduceSub, Nat.reduceLeDiff, false_implies, true_implies, not_false_eq_true, not_true_eq_false, and_true, mm_sh, hm, mjs_up_at, mjs_up_c, mjs_up_f, hy]
  refine ⟨fun _ => mj_blk rfl ?_, fun q => absurd (nI_ne0 (by omega) (by omega)) q⟩
  simp +decide only [mjs_0, mjs_1, mjs_2, mjs_3, mjs_ble, true_and, Bool.false_eq_true, if_false, if_true, Nat.reduceAdd, Nat.reduceSub, Nat.reduceLeDiff, false_implies, true_implies, not_false_eq_true, not_true_eq_false, and_true, mm_sh, hm, mjs_up_at, mjs_up_c, mjs_up_f]
  refine ⟨fun _ => mj_blk rfl ?_, fun q => absurd (nI_lt (b := 3000000) (by omega) (by decide)) q⟩
  simp +decide only [mjs_0, mjs_1, mjs_2, mjs_3, mjs_ble, true_and, Bool.false_eq_true, if_false, if_true, Nat.reduceAdd, Nat.reduceSub, Nat.reduceLeDiff, false_implies, true_implies, not_false_eq_true, not_true_eq_false, and_true, mm_sh, hm, mjs_up_at, mjs_up_c, mjs_up_f]
  refine ⟨fun _ => mj_blk rfl ?_, fun q => absurd (nI_lt (b := 2000000) (by omega) (by decide)) q⟩
  simp +decide only [mjs_0, mjs_1, mjs_2, mjs_3, mjs_ble, true_and, Bool.false_eq_true, if_false, if_true, Nat.reduceAdd, Nat.reduceSub, Nat.reduceLeDiff, false_implies, true_implies, not_false_eq_true, not_true_eq_false, and_true, mm_sh, hm, mjs_up_at, mjs_up_c, mjs_up_f, hs]
  refine hq _ (fun J' hJ' => ?_)
  simp +decide only [mjs_0, mjs_1, mjs_2, mjs_3, mjs_ble, true_and, Bool.false_eq_true, if_false, if_true, Nat.reduceAdd, Nat.reduceSub, Nat.reduceLeDiff, false_implies, true_implies, not_false_eq_true, not_true_eq_false, and_true, mm_sh, hm, mjs_up_at, mjs_up_c, mjs_up_f]
  refine mj_blk rfl ?_
  simp +decide only [mjs_0, mjs_1, mjs_2, mjs_3, mjs_ble, true_and, Bool.false_eq_true, if_false, if_true, Nat.reduceAdd, Nat.reduceSub, Nat.reduceLeDiff, false_implies, true_implies, not_false_eq_true, not_true_eq_false, and_true, mm_sh, hm, mjs_up_at, mjs_up_c, mjs_up_f]
  exact hJ'
end MJPE
