/-! A TOKEN PERFORMED, in both -/
section MJPE
variable {X : mj_X} {d nc ns : Nat} {Q : mj_Q} {I I' J J' H : Nat → Nat → Int32} {Lg : Nat → Nat → Int64} {Rf : Nat → Nat → Option Nat} {fb fb' : Nat → Nat → Int32} {vb : Nat → Int32} {K K' K'' : Nat × Nat × Nat} {P P' P'' : List Nat} {E : sgE} {N N' N'' : sgN} {S S' S'' : sgS} {M : sgM} {C C' C'' : sgC} {O : sgO} {L L' L'' : sgL} {t n kc kr c gl v b s' k : Nat} {g g' : sg}
/-- done, to its primitive -/
theorem r_167p (hM' : mj_Rt mm_R Rf) (hv : gv (K, P, E, N, S, M, C, O, L)) (ht : tv N.2.2 t) {p : Nat} (hp1 : 1 ≤ p ∧ p ≤ 36) (hgm : gm S t = 65536 + p) {D : Nat} (hJ : RR H (K, P, E, N, S, M, C, O, L) J) (hq : ∀ K' : mj_Q, (∀ J', Q (.inl none) (sh59, J', Lg, Rf, nc, ns) → K' (.inl none) (sh59, J', Lg, Rf, nc, ns)) → mj_call X mj_P (mj_bi X) (D + 3) 168 [.ref 36, .int (nI (rp (p - 1))), .int 0] (sh59, J, Lg, Rf, nc, ns) K') : mj_call X mj_P (mj_bi X) (D + 4) 167 [.ref 36, .int (nI (rt t))] (sh59, J, Lg, Rf, nc, ns) Q := by
  have hm := mm_rf hM'
  have hk : N.2.2 ≤ 1036 := (gv_d hv).2.2.1.2.1
  have hk1 : 36 ≤ N.2.2 := (gv_d hv).2.2.1.1
  have rl := rt_lt hk hk1 ht
  have me := rr_me hJ hv ht
  have hM := (gv_d hv).2.2.2.2.1
  have hmade := gvM_made hM
  have hrp := rp_lt (i := p - 1) (k := 36) (by omega) (by decide)
  have hy : mr_me J 36 S.2.2.1 (rt t) = nI (1000 + rp (p - 1)) := by
    rcases mw_n hM (by omega) me.1 with ⟨z, y⟩ | ⟨p', p1, p2, z, y⟩ | ⟨a, b, z, b1, y, hq⟩ | ⟨c, c1, z, y⟩ | ⟨m, m1, z, y⟩
    · omega
    · rw [y, show p' = p by omega]
    · omega
    · omega
    · omega
  have hs : nI (1000 + rp (p - 1)) - 1000 = nI (rp (p - 1)) := by
    rw [show (1000 : Int32) = nI 1000 from rfl, pk_sub (by omega)]
    exact congrArg nI (by omega)
  refine mj_enter (z := (3, [], mb_167)) (by decide) rfl rfl ?_
  refine mj_blk rfl ?_
  simp +decide only [mjs_0, mjs_1, mjs_2, mjs_3, mjs_ble, true_and, Bool.false_eq_true, if_false, if_true, Nat.reduceAdd, Nat.reduceSub, Nat.reduceLeDiff, false_implies, true_implies, not_false_eq_true, not_true_eq_false, and_true, mm_sh, hm, mjs_up_at, mjs_up_c, mjs_up_f]
  refine r_125 (mm_W hM') (by omega) (rr_d hJ).2.2.2.2.1.1 (rr_d hJ).2.2.2.2.1.2.2.2.2 me.2.1 ?_
  simp +decide only [mjs_0, mjs_1, mjs_2, mjs_3, mjs_ble, true_and, Bool.false_eq_true, if_false, if_true, Nat.reduceAdd, Nat.reduceSub, Nat.reduceLeDiff, false_implies, true_implies, not_false_eq_true, not_true_eq_false, and_true, mm_sh, hm, mjs_up_at, mjs_up_c, mjs_up_f, hy]
  refine ⟨fun _ => mj_blk rfl ?_, fun q => absurd (nI_ne0 (by omega) (by omega)) q⟩
  simp +decide only [mjs_0, mjs_1, mjs_2, mjs_3, mjs_ble, true_and, Bool.false_eq_true, if_false, if_true, Nat.reduceAdd, Nat.reduceSub, Nat.reduceLeDiff, false_implies, true_implies, not_false_eq_true, not_true_eq_false, and_true, mm_sh, hm, mjs_up_at, mjs_up_c, mjs_up_f]
  refine ⟨fun _ => mj_blk rfl ?_, fun q => absurd (nI_lt (b := 3000000) (by omega) (by decide)) q⟩
  simp +decide only [mjs_0, mjs_1, mjs_2, mjs_3, mjs_ble, true_and, Bool.false_eq_true, if_false, if_true, Nat.reduceAdd, Nat.reduceSub, Nat.reduceLeDiff, false_implies, true_implies, not_false_eq_true, not_true_eq_false, and_true, mm_sh, hm, mjs_up_at, mjs_up_c, mjs_up_f]
  refine ⟨fun _ => mj_blk rfl ?_, fun q => absurd (nI_lt (b := 2000000) (by omega) (by decide)) q⟩
  simp +decide only [mjs_0, mjs_1, mjs_2, mjs_3, mjs_ble, true_and, Bool.false_eq_true, if_false, if_true, Nat.reduceAdd, Nat.reduceSub, Nat.reduceLeDiff, false_implies, true_implies, not_false_eq_true, not_true_eq_false, and_true, mm_sh, hm, mjs_up_at, mjs_up_c, mjs_up_f, hs]
  refine hq _ (fun J' hJ' => ?_)
  simp +decide only [mjs_0, mjs_1, mjs_2, mjs_3, mjs_ble, true_and, Bool.false_eq_true, if_false, if_true, Nat.reduceAdd, Nat.reduceSub, Nat.reduceLeDiff, false_implies, true_implies, not_false_eq_true, not_true_eq_false, and_true, mm_sh, hm, mjs_up_at, mjs_up_c, mjs_up_f]
  refine mj_blk rfl ?_
  simp +decide only [mjs_0, mjs_1, mjs_2, mjs_3, mjs_ble, true_and, Bool.false_eq_true, if_false, if_true, Nat.reduceAdd, Nat.reduceSub, Nat.reduceLeDiff, false_implies, true_implies, not_false_eq_true, not_true_eq_false, and_true, mm_sh, hm, mjs_up_at, mjs_up_c, mjs_up_f]
  exact hJ'
/-- done, to a character -/
theorem r_167c (hM' : mj_Rt mm_R Rf) (hv : gv (K, P, E, N, S, M, C, O, L)) (ht : tv N.2.2 t) {x : Nat} (hx : x < 3328) (hgm : gm S t = 196608 + x) {D : Nat} (hJ : RR H (K, P, E, N, S, M, C, O, L) J) (hq : ∀ K' : mj_Q, (∀ J', Q (.inl none) (sh59, J', Lg, Rf, nc, ns) → K' (.inl none) (sh59, J', Lg, Rf, nc, ns)) → mj_call X mj_P (mj_bi X) (D + 3) 166 [.ref 36, .int (nI x)] (sh59, J, Lg, Rf, nc, ns) K') : mj_call X mj_P (mj_bi X) (D + 4) 167 [.ref 36, .int (nI (rt t))] (sh59, J, Lg, Rf, nc, ns) Q := by
  have hm := mm_rf hM'
  have hk : N.2.2 ≤ 1036 := (gv_d hv).2.2.1.2.1
  have hk1 : 36 ≤ N.2.2 := (gv_d hv).2.2.1.1
  have rl := rt_lt hk hk1 ht
  have me := rr_me hJ hv ht
  have hM := (gv_d hv).2.2.2.2.1
  have hmade := gvM_made hM
  have hy : mr_me J 36 S.2.2.1 (rt t) = nI (2000000 + x) := by
    rcases mw_n hM (by omega) me.1 with ⟨z, y⟩ | ⟨p', p1, p2, z, y⟩ | ⟨a, b, z, b1, y, hq⟩ | ⟨c, c1, z, y⟩ | ⟨m, m1, z, y⟩
    · omega
    · omega
    · have := hq.1
      omega
    · rw [y, show c = x by omega]
    · omega
  have hs : nI (2000000 + x) - 2000000 = nI x := by
    rw [show (2000000 : Int32) = nI 2000000 from rfl, pk_sub (by omega)]
    exact congrArg nI (by omega)
  refine mj_enter (z := (3, [], mb_167)) (by decide) rfl rfl ?_
  refine mj_blk rfl ?_
  simp +decide only [mjs_0, mjs_1, mjs_2, mjs_3, mjs_ble, true_and, Bool.false_eq_true, if_false, if_true, Nat.reduceAdd, Nat.reduceSub, Nat.reduceLeDiff, false_implies, true_implies, not_false_eq_true, not_true_eq_false, and_true, mm_sh, hm, mjs_up_at, mjs_up_c, mjs_up_f]
  refine r_125 (mm_W hM') (by omega) (rr_d hJ).2.2.2.2.1.1 (rr_d hJ).2.2.2.2.1.2.2.2.2 me.2.1 ?_
  simp +decide only [mjs_0, mjs_1, mjs_2, mjs_3, mjs_ble, true_and, Bool.false_eq_true, if_false, if_true, Nat.reduceAdd, Nat.reduceSub, Nat.reduceLeDiff, false_implies, true_implies, not_false_eq_true, not_true_eq_false, and_true, mm_sh, hm, mjs_up_at, mjs_up_c, mjs_up_f, hy]
  refine ⟨fun _ => mj_blk rfl ?_, fun q => absurd (nI_ne0 (by omega) (by omega)) q⟩
  simp +decide only [mjs_0, mjs_1, mjs_2, mjs_3, mjs_ble, true_and, Bool.false_eq_true, if_false, if_true, Nat.reduceAdd, Nat.reduceSub, Nat.reduceLeDiff, false_implies, true_implies, not_false_eq_true, not_true_eq_false, and_true, mm_sh, hm, mjs_up_at, mjs_up_c, mjs_up_f]
  refine ⟨fun _ => mj_blk rfl ?_, fun q => absurd (nI_lt (b := 3000000) (by omega) (by decide)) q⟩
  simp +decide only [mjs_0, mjs_1, mjs_2, mjs_3, mjs_ble, true_and, Bool.false_eq_true, if_false, if_true, Nat.reduceAdd, Nat.reduceSub, Nat.reduceLeDiff, false_implies, true_implies, not_false_eq_true, not_true_eq_false, and_true, mm_sh, hm, mjs_up_at, mjs_up_c, mjs_up_f]
  refine ⟨fun q => absurd q (fun q' => absurd ((nI_ltI (b := 2000000) (by omega) (by decide)).mp q') (by omega)), fun _ => mj_blk rfl ?_⟩
  simp +decide only [mjs_0, mjs_1, mjs_2, mjs_3, mjs_ble, true_and, Bool.false_eq_true, if_false, if_true, Nat.reduceAdd, Nat.reduceSub, Nat.reduceLeDiff, false_implies, true_implies, not_false_eq_true, not_true_eq_false, and_true, mm_sh, hm, mjs_up_at, mjs_up_c, mjs_up_f, hs]
  refine hq _ (fun J' hJ' => ?_)
  simp +decide only [mjs_0, mjs_1, mjs_2, mjs_3, mjs_ble, true_and, Bool.false_eq_true, if_false, if_true, Nat.reduceAdd, Nat.reduceSub, Nat.reduceLeDiff, false_implies, true_implies, not_false_eq_true, not_true_eq_false, and_true, mm_sh, hm, mjs_up_at, mjs_up_c, mjs_up_f]
  refine mj_blk rfl ?_
  simp +decide only [mjs_0, mjs_1, mjs_2, mjs_3, mjs_ble, true_and, Bool.false_eq_true, if_false, if_true, Nat.reduceAdd, Nat.reduceSub, Nat.reduceLeDiff, false_implies, true_implies, not_false_eq_true, not_true_eq_false, and_true, mm_sh, hm, mjs_up_at, mjs_up_c, mjs_up_f]
  exact hJ'
/-- done, to a number -/
theorem r_167e (hM' : mj_Rt mm_R Rf) (hv : gv (K, P, E, N, S, M, C, O, L)) (ht : tv N.2.2 t) {x : Nat} (hx : x < 256) (hgm : gm S t = 262144 + x) {D : Nat} (hJ : RR H (K, P, E, N, S, M, C, O, L) J) (hq : ∀ K' : mj_Q, (∀ J', Q (.inl none) (sh59, J', Lg, Rf, nc, ns) → K' (.inl none) (sh59, J', Lg, Rf, nc, ns)) → mj_call X mj_P (mj_bi X) (D + 3) 163 [.ref 36, .int (nI x)] (sh59, J, Lg, Rf, nc, ns) K') : mj_call X mj_P (mj_bi X) (D + 4) 167 [.ref 36, .int (nI (rt t))] (sh59, J, Lg, Rf, nc, ns) Q := by
  have hm := mm_rf hM'
  have hk : N.2.2 ≤ 1036 := (gv_d hv).2.2.1.2.1
  have hk1 : 36 ≤ N.2.2 := (gv_d hv).2.2.1.1
  have rl := rt_lt hk hk1 ht
  have me := rr_me hJ hv ht
  have hM := (gv_d hv).2.2.2.2.1
  have hmade := gvM_made hM
  have hy : mr_me J 36 S.2.2.1 (rt t) = nI (3000000 + x) := by
    rcases mw_n hM (by omega) me.1 with ⟨z, y⟩ | ⟨p', p1, p2, z, y⟩ | ⟨a, b, z, b1, y, hq⟩ | ⟨c, c1, z, y⟩ | ⟨m, m1, z, y⟩
    · omega
    · omega
    · have := hq.1
      omega
    · omega
    · rw [y, show m = x by omega]
  have hs : nI (3000000 + x) - 3000000 = nI x := by
    rw [show (3000000 : Int32) = nI 3000000 from rfl, pk_sub (by omega)]
    exact congrArg nI (by omega)
  refine mj_enter (z := (3, [], mb_167)) (by decide) rfl rfl ?_
  refine mj_blk rfl ?_
  simp +decide only [mjs_0, mjs_1, mjs_2, mjs_3, mjs_ble, true_and, Bool.false_eq_true, if_false, if_true, Nat.reduceAdd, Nat.reduceSub, Nat.reduceLeDiff, false_implies, true_implies, not_false_eq_true, not_true_eq_false, and_true, mm_sh, hm, mjs_up_at, mjs_up_c, mjs_up_f]
  refine r_125 (mm_W hM') (by omega) (rr_d hJ).2.2.2.2.1.1 (rr_d hJ).2.2.2.2.1.2.2.2.2 me.2.1 ?_
  simp +decide only [mjs_0, mjs_1, mjs_2, mjs_3, mjs_ble, true_and, Bool.false_eq_true, if_false, if_true, Nat.reduceAdd, Nat.reduceSub, Nat.reduceLeDiff, false_implies, true_implies, not_false_eq_true, not_true_eq_false, and_true, mm_sh, hm, mjs_up_at, mjs_up_c, mjs_up_f, hy]
  refine ⟨fun _ => mj_blk rfl ?_, fun q => absurd (nI_ne0 (by omega) (by omega)) q⟩
  simp +decide only [mjs_0, mjs_1, mjs_2, mjs_3, mjs_ble, true_and, Bool.false_eq_true, if_false, if_true, Nat.reduceAdd, Nat.reduceSub, Nat.reduceLeDiff, false_implies, true_implies, not_false_eq_true, not_true_eq_false, and_true, mm_sh, hm, mjs_up_at, mjs_up_c, mjs_up_f]
  refine ⟨fun q => absurd q (fun q' => absurd ((nI_ltI (b := 3000000) (by omega) (by decide)).mp q') (by omega)), fun _ => mj_blk rfl ?_⟩
  simp +decide only [mjs_0, mjs_1, mjs_2, mjs_3, mjs_ble, true_and, Bool.false_eq_true, if_false, if_true, Nat.reduceAdd, Nat.reduceSub, Nat.reduceLeDiff, false_implies, true_implies, not_false_eq_true, not_true_eq_false, and_true, mm_sh, hm, mjs_up_at, mjs_up_c, mjs_up_f, hs]
  refine hq _ (fun J' hJ' => ?_)
  simp +decide only [mjs_0, mjs_1, mjs_2, mjs_3, mjs_ble, true_and, Bool.false_eq_true, if_false, if_true, Nat.reduceAdd, Nat.reduceSub, Nat.reduceLeDiff, false_implies, true_implies, not_false_eq_true, not_true_eq_false, and_true, mm_sh, hm, mjs_up_at, mjs_up_c, mjs_up_f]
  refine mj_blk rfl ?_
  simp +decide only [mjs_0, mjs_1, mjs_2, mjs_3, mjs_ble, true_and, Bool.false_eq_true, if_false, if_true, Nat.reduceAdd, Nat.reduceSub, Nat.reduceLeDiff, false_implies, true_implies, not_false_eq_true, not_true_eq_false, and_true, mm_sh, hm, mjs_up_at, mjs_up_c, mjs_up_f]
  exact hJ'
/-- done of what means nothing -/
theorem r_167u (hM' : mj_Rt mm_R Rf) (hv : gv (K, P, E, N, S, M, C, O, L)) (ht : tv N.2.2 t) (hgm : gm S t = 0) {D : Nat} (hJ : RR H (K, P, E, N, S, M, C, O, L) J) (hq : ∀ J', RD H (K, P, E, N, S, M, C, O, L) J' → Q (.inl none) (sh59, J', Lg, Rf, nc, ns)) : mj_call X mj_P (mj_bi X) (D + 4) 167 [.ref 36, .int (nI (rt t))] (sh59, J, Lg, Rf, nc, ns) Q := by
  have hm := mm_rf hM'
  have hk : N.2.2 ≤ 1036 := (gv_d hv).2.2.1.2.1
  have hk1 : 36 ≤ N.2.2 := (gv_d hv).2.2.1.1
  have rl := rt_lt hk hk1 ht
  have me := rr_me hJ hv ht
  have hM := (gv_d hv).2.2.2.2.1
  have hmade := gvM_made hM
  have hy : mr_me J 36 S.2.2.1 (rt t) = 0 := by
    rcases mw_n hM (by omega) me.1 with ⟨z, y⟩ | ⟨p', p1, p2, z, y⟩ | ⟨a, b, z, b1, y, hq⟩ | ⟨c, c1, z, y⟩ | ⟨m, m1, z, y⟩
    · exact y
    · omega
    · omega
    · omega
    · omega
  refine mj_enter (z := (3, [], mb_167)) (by decide) rfl rfl ?_
  refine mj_blk rfl ?_
  simp +decide only [mjs_0, mjs_1, mjs_2, mjs_3, mjs_ble, true_and, Bool.false_eq_true, if_false, if_true, Nat.reduceAdd, Nat.reduceSub, Nat.reduceLeDiff, false_implies, true_implies, not_false_eq_true, not_true_eq_false, and_true, mm_sh, hm, mjs_up_at, mjs_up_c, mjs_up_f]
  refine r_125 (mm_W hM') (by omega) (rr_d hJ).2.2.2.2.1.1 (rr_d hJ).2.2.2.2.1.2.2.2.2 me.2.1 ?_
  simp +decide only [mjs_0, mjs_1, mjs_2, mjs_3, mjs_ble, true_and, Bool.false_eq_true, if_false, if_true, Nat.reduceAdd, Nat.reduceSub, Nat.reduceLeDiff, false_implies, true_implies, not_false_eq_true, not_true_eq_false, and_true, mm_sh, hm, mjs_up_at, mjs_up_c, mjs_up_f, hy]
  refine mj_blk rfl ?_
  simp +decide only [mjs_0, mjs_1, mjs_2, mjs_3, mjs_ble, true_and, Bool.false_eq_true, if_false, if_true, Nat.reduceAdd, Nat.reduceSub, Nat.reduceLeDiff, false_implies, true_implies, not_false_eq_true, not_true_eq_false, and_true, mm_sh, hm, mjs_up_at, mjs_up_c, mjs_up_f]
  refine c_106 s59_36 ?_
  rw [if_pos (rr_d hJ).1.2.2.2]
  simp +decide only [mjs_0, mjs_1, mjs_2, mjs_3, mjs_ble, true_and, Bool.false_eq_true, if_false, if_true, Nat.reduceAdd, Nat.reduceSub, Nat.reduceLeDiff, false_implies, true_implies, not_false_eq_true, not_true_eq_false, and_true, mm_sh, hm, mjs_up_at, mjs_up_c, mjs_up_f]
  refine mj_blk rfl ?_
  simp +decide only [mjs_0, mjs_1, mjs_2, mjs_3, mjs_ble, true_and, Bool.false_eq_true, if_false, if_true, Nat.reduceAdd, Nat.reduceSub, Nat.reduceLeDiff, false_implies, true_implies, not_false_eq_true, not_true_eq_false, and_true, mm_sh, hm, mjs_up_at, mjs_up_c, mjs_up_f]
  exact hq _ (rr_f (f := 11) (by decide) (by decide) hJ)
/-- the codes that perform hands to its caller -/
theorem c_62a {p : Nat} {St : mj_S} (hp : 24 ≤ p ∧ p ≤ 36) (hQ : Q (.inl (some (.int (nI p)))) St) : mj_call X mj_P (mj_bi X) (d + 1) 62 [.ref 34, .int (nI p)] St Q := by
  obtain ⟨sh, I, Lg, Rf, nc, ns⟩ := St
  have : p = 24 ∨ p = 25 ∨ p = 26 ∨ p = 27 ∨ p = 28 ∨ p = 29 ∨ p = 30 ∨ p = 31 ∨ p = 32 ∨ p = 33 ∨ p = 34 ∨ p = 35 ∨ p = 36 := by omega
  rcases this with rfl | rfl | rfl | rfl | rfl | rfl | rfl | rfl | rfl | rfl | rfl | rfl | rfl
  all_goals
    refine mj_enter (z := (2, [], mb_62)) (by decide) rfl rfl ?_
    refine mj_blk rfl ?_
    simp +decide only [mjs_0, mjs_1, mjs_2, mjs_3, mjs_ble, true_and, Bool.false_eq_true, if_false, if_true, Nat.reduceAdd, Nat.reduceSub, Nat.reduceLeDiff, false_implies, true_implies, not_false_eq_true, not_true_eq_false, and_true]
    refine mj_blk rfl ?_
    simp +decide only [mjs_0, mjs_1, mjs_2, mjs_3, mjs_ble, true_and, Bool.false_eq_true, if_false, if_true, Nat.reduceAdd, Nat.reduceSub, Nat.reduceLeDiff, false_implies, true_implies, not_false_eq_true, not_true_eq_false, and_true]
    exact hQ
/-- end: the reference's flag -/
theorem r_167n (hM' : mj_Rt mm_R Rf) (hv : gv (K, P, E, N, S, M, C, O, L)) (ht : tv N.2.2 t) (hgm : gm S t = 65536 + 24) {D : Nat} (hJ : RR H (K, P, E, N, S, M, C, O, L) J) (hq : Q (.inl none) (sh59, mj_up J 36 40 1, Lg, Rf, nc, ns)) : mj_call X mj_P (mj_bi X) (D + 4) 167 [.ref 36, .int (nI (rt t))] (sh59, J, Lg, Rf, nc, ns) Q := by
  have hm := mm_rf hM'
  refine r_167p hM' hv ht (p := 24) (by decide) hgm hJ (fun K' hK' => ?_)
  show mj_call X mj_P (mj_bi X) (D + 3) 168 [.ref 36, .int (nI 35), .int 0] _ _
  refine mj_enter (z := (6, [], mb_168)) (by decide) rfl rfl ?_
  refine mj_blk rfl ?_
  simp +decide only [mjs_0, mjs_1, mjs_2, mjs_3, mjs_ble, true_and, Bool.false_eq_true, if_false, if_true, Nat.reduceAdd, Nat.reduceSub, Nat.reduceLeDiff, false_implies, true_implies, not_false_eq_true, not_true_eq_false, and_true, mm_sh, hm, mjs_up_at, mjs_up_c, mjs_up_f]
  refine mj_blk rfl ?_
  simp +decide only [mjs_0, mjs_1, mjs_2, mjs_3, mjs_ble, true_and, Bool.false_eq_true, if_false, if_true, Nat.reduceAdd, Nat.reduceSub, Nat.reduceLeDiff, false_implies, true_implies, not_false_eq_true, not_true_eq_false, and_true, mm_sh, hm, mjs_up_at, mjs_up_c, mjs_up_f]
  refine mj_blk rfl ?_
  simp +decide only [mjs_0, mjs_1, mjs_2, mjs_3, mjs_ble, true_and, Bool.false_eq_true, if_false, if_true, Nat.reduceAdd, Nat.reduceSub, Nat.reduceLeDiff, false_implies, true_implies, not_false_eq_true, not_true_eq_false, and_true, mm_sh, hm, mjs_up_at, mjs_up_c, mjs_up_f]
  exact hK' _ hq
/-- an assignment in the reference -/
theorem r_167a (hM' : mj_Rt mm_R Rf) (hv : gv (K, P, E, N, S, M, C, O, L)) (ht : tv N.2.2 t) (hc : 25 ≤ c ∧ c ≤ 36) (hgm : gm S t = 65536 + c) {D : Nat} (hJ : RR H (K, P, E, N, S, M, C, O, L) J) (hq : ∀ K' : mj_Q, (∀ J', Q (.inl none) (sh59, J', Lg, Rf, nc, ns) → K' (.inl none) (sh59, J', Lg, Rf, nc, ns)) → mj_call X mj_P (mj_bi X) (D + 3) 168 [.ref 36, .int (nI (c - 2)), .int (nI 0)] (sh59, J, Lg, Rf, nc, ns) K') : mj_call X mj_P (mj_bi X) (D + 4) 167 [.ref 36, .int (nI (rt t))] (sh59, J, Lg, Rf, nc, ns) Q := by
  refine r_167p hM' hv ht (p := c) (by omega) hgm hJ (fun K' hK' => ?_)
  have e : rp (c - 1) = c - 2 := by
    unfold rp
    rw [if_neg (by omega), if_pos (by omega)]
    omega
  rw [e]
  exact hq K' hK'
/-- perform, done -/
theorem p_59 (hR : mj_Rt mp_R Rf) (hM' : mj_Rt mm_R Rf) (hr' : nc + 1 ≤ X.2.2.1 ∧ ns + 6 ≤ X.2.2.2) (hv : gv (K, P, E, N, S, M, C, O, L)) (hw : gw K S) (hk : ∀ l, l < S.2.2.1 → S.2.1 l ≤ 1) (h : RC fb vb (K, P, E, N, S, M, C, O, L) I) (ht : tv N.2.2 t) (hgx : ¬ gx S t)
    (hQ0 : ∀ S' O' I', gv (K, P, E, N, S', M, C, O', L) → RC fb vb (K, P, E, N, S', M, C, O', L) I' → gw K S' → (∀ l, l < S'.2.2.1 → S'.2.1 l ≤ 1) → RX X Rf 8 167 [.ref 36, .int (nI (rt t))] (K, P, E, N, S, M, C, O, L) na none (K, P, E, N, S', M, C, O', L) na → Q (.inl (some (.int 0))) (sh59, I', Lg, Rf, nc, ns))
    (hQE : gm S t = 65536 + 24 → Q (.inl (some (.int 24))) (sh59, I, Lg, Rf, nc, ns))
    (hQA : ∀ c, 25 ≤ c → c ≤ 36 → gm S t = 65536 + c → Q (.inl (some (.int (nI c)))) (sh59, I, Lg, Rf, nc, ns))
    (hQ3 : ∀ g' I', RCf fb vb g' I' → RY X Rf 8 167 [.ref 36, .int (nI (rt t))] (K, P, E, N, S, M, C, O, L) na none g' → Q (.inr 500) (sh59, I', Lg, Rf, nc + 1, ns + 6)) :
    mj_call X mj_P (mj_bi X) (d + 4) 59 [.ref 34, .int (nI t)] (sh59, I, Lg, Rf, nc, ns) Q := by
  have hr := mc_rf hR
  have hm := mm_rf hM'
  have hgl := gm_lt hv ht
  have hmv := (gm_v hv ht).1
  have hmade := gvM_made (gv_d hv).2.2.2.2.1
  rcases hmv with e | ⟨e1, e2⟩ | ⟨a, a1, e⟩ | ⟨e1, e2⟩ | ⟨e1, e2⟩
  · -- nothing
    refine mj_enter (z := (4, [], mb_59)) (by decide) rfl rfl ?_
    refine mj_blk rfl ?_
    simp +decide only [mjs_0, mjs_1, mjs_2, mjs_3, mjs_ble, true_and, Bool.false_eq_true, if_false, if_true, Nat.reduceAdd, Nat.reduceSub, Nat.reduceLeDiff, false_implies, true_implies, not_false_eq_true, not_true_eq_false, and_true, mc_sh, hr, mjs_up_at, mjs_up_c, mjs_up_f]
    refine cq_96 hR h hv ht ?_
    rw [e]
    simp +decide only [mjs_0, mjs_1, mjs_2, mjs_3, mjs_ble, true_and, Bool.false_eq_true, if_false, if_true, Nat.reduceAdd, Nat.reduceSub, Nat.reduceLeDiff, false_implies, true_implies, not_false_eq_true, not_true_eq_false, and_true]
    refine c_94 ?_
    simp +decide only [mjs_0, mjs_1, mjs_2, mjs_3, mjs_ble, true_and, Bool.false_eq_true, if_false, if_true, Nat.reduceAdd, Nat.reduceSub, Nat.reduceLeDiff, false_implies, true_implies, not_false_eq_true, not_true_eq_false, and_true]
    refine c_93 (by decide) ?_
    simp +decide only [mjs_0, mjs_1, mjs_2, mjs_3, mjs_ble, true_and, Bool.false_eq_true, if_false, if_true, Nat.reduceAdd, Nat.reduceSub, Nat.reduceLeDiff, false_implies, true_implies, not_false_eq_true, not_true_eq_false, and_true]
    refine mj_blk rfl ?_
    simp +decide only [mjs_0, mjs_1, mjs_2, mjs_3, mjs_ble, true_and, Bool.false_eq_true, if_false, if_true, Nat.reduceAdd, Nat.reduceSub, Nat.reduceLeDiff, false_implies, true_implies, not_false_eq_true, not_true_eq_false, and_true, mc_sh, hr, mjs_up_at, mjs_up_c, mjs_up_f]
    refine c_80 s59_1 hr' ?_
    simp +decide only [mjs_0, mjs_1, mjs_2, mjs_3, mjs_ble, true_and, Bool.false_eq_true, if_false, if_true, Nat.reduceAdd, Nat.reduceSub, Nat.reduceLeDiff, false_implies, true_implies, not_false_eq_true, not_true_eq_false, and_true]
    refine hQ3 _ _ (rc_f hv h) ?_
    intro H Lg d nc ns J Q hJ hA hq
    exact r_167u (D := d + 4) hM' hv ht e hJ hq
  · obtain ⟨p, hp⟩ : ∃ p, gm S t = 65536 + p := ⟨gm S t - 65536, by omega⟩
    have hp19 : 19 ≤ p ∧ p ≤ 36 := by
      refine ⟨?_, by omega⟩
      by_cases q : p ≤ 18
      · exact absurd (Or.inr ⟨by omega, by omega⟩) hgx
      · omega
    have ek : (65536 + p) / 65536 = 1 := by omega
    have em : (65536 + p) % 65536 = p := by omega
    refine mj_enter (z := (4, [], mb_59)) (by decide) rfl rfl ?_
    refine mj_blk rfl ?_
    simp +decide only [mjs_0, mjs_1, mjs_2, mjs_3, mjs_ble, true_and, Bool.false_eq_true, if_false, if_true, Nat.reduceAdd, Nat.reduceSub, Nat.reduceLeDiff, false_implies, true_implies, not_false_eq_true, not_true_eq_false, and_true, mc_sh, hr, mjs_up_at, mjs_up_c, mjs_up_f]
    refine cq_96 hR h hv ht ?_
    rw [hp]
    simp +decide only [mjs_0, mjs_1, mjs_2, mjs_3, mjs_ble, true_and, Bool.false_eq_true, if_false, if_true, Nat.reduceAdd, Nat.reduceSub, Nat.reduceLeDiff, false_implies, true_implies, not_false_eq_true, not_true_eq_false, and_true]
    refine c_94 ?_
    rw [em]
    simp +decide only [mjs_0, mjs_1, mjs_2, mjs_3, mjs_ble, true_and, Bool.false_eq_true, if_false, if_true, Nat.reduceAdd, Nat.reduceSub, Nat.reduceLeDiff, false_implies, true_implies, not_false_eq_true, not_true_eq_false, and_true]
    refine c_93 (by omega) ?_
    rw [ek]
    simp +decide only [mjs_0, mjs_1, mjs_2, mjs_3, mjs_ble, true_and, Bool.false_eq_true, if_false, if_true, Nat.reduceAdd, Nat.reduceSub, Nat.reduceLeDiff, false_implies, true_implies, not_false_eq_true, not_true_eq_false, and_true]
    refine mj_blk rfl ?_
    simp +decide only [mjs_0, mjs_1, mjs_2, mjs_3, mjs_ble, true_and, Bool.false_eq_true, if_false, if_true, Nat.reduceAdd, Nat.reduceSub, Nat.reduceLeDiff, false_implies, true_implies, not_false_eq_true, not_true_eq_false, and_true, mc_sh, hr, mjs_up_at, mjs_up_c, mjs_up_f]
    by_cases q24 : 24 ≤ p
    · refine c_62a ⟨q24, hp19.2⟩ ?_
      simp +decide only [mjs_0, mjs_1, mjs_2, mjs_3, mjs_ble, true_and, Bool.false_eq_true, if_false, if_true, Nat.reduceAdd, Nat.reduceSub, Nat.reduceLeDiff, false_implies, true_implies, not_false_eq_true, not_true_eq_false, and_true]
      by_cases q25 : p = 24
      · subst q25
        exact hQE hp
      · exact hQA p (by omega) hp19.2 hp
    · have : p = 19 ∨ p = 20 ∨ p = 21 ∨ p = 22 ∨ p = 23 := by omega
      rcases this with rfl | rfl | rfl | rfl | rfl
      · refine mj_enter (z := (2, [], mb_62)) (by decide) rfl rfl ?_
        refine mj_blk rfl ?_
        simp +decide only [mjs_0, mjs_1, mjs_2, mjs_3, mjs_ble, true_and, Bool.false_eq_true, if_false, if_true, Nat.reduceAdd, Nat.reduceSub, Nat.reduceLeDiff, false_implies, true_implies, not_false_eq_true, not_true_eq_false, and_true]
        refine mj_blk rfl ?_
        simp +decide only [mjs_0, mjs_1, mjs_2, mjs_3, mjs_ble, true_and, Bool.false_eq_true, if_false, if_true, Nat.reduceAdd, Nat.reduceSub, Nat.reduceLeDiff, false_implies, true_implies, not_false_eq_true, not_true_eq_false, and_true]
        refine hQ0 S O I hv h hw hk ?_
        intro H Lg d nc ns J Q hJ hA hq
        refine r_167p (D := d + 4) hM' hv ht (p := 19) (by decide) hp hJ (fun K' hK' => ?_)
        show mj_call X mj_P (mj_bi X) (d + 4 + 3) 168 [.ref 36, .int (nI 18), .int 0] _ _
        refine mj_enter (z := (6, [], mb_168)) (by decide) rfl rfl ?_
        refine mj_blk rfl ?_
        simp +decide only [mjs_0, mjs_1, mjs_2, mjs_3, mjs_ble, true_and, Bool.false_eq_true, if_false, if_true, Nat.reduceAdd, Nat.reduceSub, Nat.reduceLeDiff, false_implies, true_implies, not_false_eq_true, not_true_eq_false, and_true, mm_sh, hm, mjs_up_at, mjs_up_c, mjs_up_f]
        refine mj_blk rfl ?_
        simp +decide only [mjs_0, mjs_1, mjs_2, mjs_3, mjs_ble, true_and, Bool.false_eq_true, if_false, if_true, Nat.reduceAdd, Nat.reduceSub, Nat.reduceLeDiff, false_implies, true_implies, not_false_eq_true, not_true_eq_false, and_true, mm_sh, hm, mjs_up_at, mjs_up_c, mjs_up_f]
        refine mj_blk rfl ?_
        simp +decide only [mjs_0, mjs_1, mjs_2, mjs_3, mjs_ble, true_and, Bool.false_eq_true, if_false, if_true, Nat.reduceAdd, Nat.reduceSub, Nat.reduceLeDiff, false_implies, true_implies, not_false_eq_true, not_true_eq_false, and_true, mm_sh, hm, mjs_up_at, mjs_up_c, mjs_up_f]
        exact hK' _ (hq H J hx_rf hJ trivial)
      · refine mj_enter (z := (2, [], mb_62)) (by decide) rfl rfl ?_
        refine mj_blk rfl ?_
        simp +decide only [mjs_0, mjs_1, mjs_2, mjs_3, mjs_ble, true_and, Bool.false_eq_true, if_false, if_true, Nat.reduceAdd, Nat.reduceSub, Nat.reduceLeDiff, false_implies, true_implies, not_false_eq_true, not_true_eq_false, and_true]
        refine mj_blk rfl ?_
        simp +decide only [mjs_0, mjs_1, mjs_2, mjs_3, mjs_ble, true_and, Bool.false_eq_true, if_false, if_true, Nat.reduceAdd, Nat.reduceSub, Nat.reduceLeDiff, false_implies, true_implies, not_false_eq_true, not_true_eq_false, and_true]
        refine cq_61o (v := 10) hR hv h hr' (fun hlt I' c1 => ?_) (fun he I' c1 => ?_)
        · simp +decide only [mjs_0, mjs_1, mjs_2, mjs_3, mjs_ble, true_and, Bool.false_eq_true, if_false, if_true, Nat.reduceAdd, Nat.reduceSub, Nat.reduceLeDiff, false_implies, true_implies, not_false_eq_true, not_true_eq_false, and_true]
          refine hQ0 S (emO O 10) I' (gv_em hv hlt (by decide)) c1 hw hk ?_
          intro H Lg d nc ns J Q hJ hA hq
          refine r_167p (D := d + 4) hM' hv ht (p := 20) (by decide) hp hJ (fun K' hK' => ?_)
          show mj_call X mj_P (mj_bi X) (d + 4 + 3) 168 [.ref 36, .int (nI 19), .int 0] _ _
          refine mj_enter (z := (6, [], mb_168)) (by decide) rfl rfl ?_
          refine mj_blk rfl ?_
          simp +decide only [mjs_0, mjs_1, mjs_2, mjs_3, mjs_ble, true_and, Bool.false_eq_true, if_false, if_true, Nat.reduceAdd, Nat.reduceSub, Nat.reduceLeDiff, false_implies, true_implies, not_false_eq_true, not_true_eq_false, and_true, mm_sh, hm, mjs_up_at, mjs_up_c, mjs_up_f]
          refine mj_blk rfl ?_
          simp +decide only [mjs_0, mjs_1, mjs_2, mjs_3, mjs_ble, true_and, Bool.false_eq_true, if_false, if_true, Nat.reduceAdd, Nat.reduceSub, Nat.reduceLeDiff, false_implies, true_implies, not_false_eq_true, not_true_eq_false, and_true, mm_sh, hm, mjs_up_at, mjs_up_c, mjs_up_f]
          refine rq_163o (v := 10) hM' hv hJ (fun _ J1 f1 => ?_) (fun q => absurd q (by omega))
          simp +decide only [mjs_0, mjs_1, mjs_2, mjs_3, mjs_ble, true_and, Bool.false_eq_true, if_false, if_true, Nat.reduceAdd, Nat.reduceSub, Nat.reduceLeDiff, false_implies, true_implies, not_false_eq_true, not_true_eq_false, and_true, mm_sh, hm, mjs_up_at, mjs_up_c, mjs_up_f]
          refine mj_blk rfl ?_
          simp +decide only [mjs_0, mjs_1, mjs_2, mjs_3, mjs_ble, true_and, Bool.false_eq_true, if_false, if_true, Nat.reduceAdd, Nat.reduceSub, Nat.reduceLeDiff, false_implies, true_implies, not_false_eq_true, not_true_eq_false, and_true, mm_sh, hm, mjs_up_at, mjs_up_c, mjs_up_f]
          exact hK' _ (hq H J1 hx_rf f1 trivial)
        · simp +decide only [mjs_0, mjs_1, mjs_2, mjs_3, mjs_ble, true_and, Bool.false_eq_true, if_false, if_true, Nat.reduceAdd, Nat.reduceSub, Nat.reduceLeDiff, false_implies, true_implies, not_false_eq_true, not_true_eq_false, and_true]
          refine hQ3 _ I' c1 ?_
          intro H Lg d nc ns J Q hJ hA hq
          refine r_167p (D := d + 4) hM' hv ht (p := 20) (by decide) hp hJ (fun K' hK' => ?_)
          show mj_call X mj_P (mj_bi X) (d + 4 + 3) 168 [.ref 36, .int (nI 19), .int 0] _ _
          refine mj_enter (z := (6, [], mb_168)) (by decide) rfl rfl ?_
          refine mj_blk rfl ?_
          simp +decide only [mjs_0, mjs_1, mjs_2, mjs_3, mjs_ble, true_and, Bool.false_eq_true, if_false, if_true, Nat.reduceAdd, Nat.reduceSub, Nat.reduceLeDiff, false_implies, true_implies, not_false_eq_true, not_true_eq_false, and_true, mm_sh, hm, mjs_up_at, mjs_up_c, mjs_up_f]
          refine mj_blk rfl ?_
          simp +decide only [mjs_0, mjs_1, mjs_2, mjs_3, mjs_ble, true_and, Bool.false_eq_true, if_false, if_true, Nat.reduceAdd, Nat.reduceSub, Nat.reduceLeDiff, false_implies, true_implies, not_false_eq_true, not_true_eq_false, and_true, mm_sh, hm, mjs_up_at, mjs_up_c, mjs_up_f]
          refine rq_163o (v := 10) hM' hv hJ (fun q => absurd q (by omega)) (fun _ J1 f1 => ?_)
          simp +decide only [mjs_0, mjs_1, mjs_2, mjs_3, mjs_ble, true_and, Bool.false_eq_true, if_false, if_true, Nat.reduceAdd, Nat.reduceSub, Nat.reduceLeDiff, false_implies, true_implies, not_false_eq_true, not_true_eq_false, and_true, mm_sh, hm, mjs_up_at, mjs_up_c, mjs_up_f]
          refine mj_blk rfl ?_
          simp +decide only [mjs_0, mjs_1, mjs_2, mjs_3, mjs_ble, true_and, Bool.false_eq_true, if_false, if_true, Nat.reduceAdd, Nat.reduceSub, Nat.reduceLeDiff, false_implies, true_implies, not_false_eq_true, not_true_eq_false, and_true, mm_sh, hm, mjs_up_at, mjs_up_c, mjs_up_f]
          exact hK' _ (hq J1 f1)
      · refine mj_enter (z := (2, [], mb_62)) (by decide) rfl rfl ?_
        refine mj_blk rfl ?_
        simp +decide only [mjs_0, mjs_1, mjs_2, mjs_3, mjs_ble, true_and, Bool.false_eq_true, if_false, if_true, Nat.reduceAdd, Nat.reduceSub, Nat.reduceLeDiff, false_implies, true_implies, not_false_eq_true, not_true_eq_false, and_true]
        refine mj_blk rfl ?_
        simp +decide only [mjs_0, mjs_1, mjs_2, mjs_3, mjs_ble, true_and, Bool.false_eq_true, if_false, if_true, Nat.reduceAdd, Nat.reduceSub, Nat.reduceLeDiff, false_implies, true_implies, not_false_eq_true, not_true_eq_false, and_true, mc_sh, hr, mjs_up_at, mjs_up_c, mjs_up_f]
        refine cq_99 (b := 1) hR hv h hr' (fun hlt I' c1 => ?_) (fun he I' c1 => ?_)
        · simp +decide only [mjs_0, mjs_1, mjs_2, mjs_3, mjs_ble, true_and, Bool.false_eq_true, if_false, if_true, Nat.reduceAdd, Nat.reduceSub, Nat.reduceLeDiff, false_implies, true_implies, not_false_eq_true, not_true_eq_false, and_true]
          refine hQ0 (opS S 1) O I' (gv_op hv hlt) c1 (gw_op hw) (kd_op hk (by decide)) ?_
          intro H Lg d nc ns J Q hJ hA hq
          refine r_167p (D := d + 4) hM' hv ht (p := 21) (by decide) hp hJ (fun K' hK' => ?_)
          show mj_call X mj_P (mj_bi X) (d + 4 + 3) 168 [.ref 36, .int (nI 20), .int 0] _ _
          refine mj_enter (z := (6, [], mb_168)) (by decide) rfl rfl ?_
          refine mj_blk rfl ?_
          simp +decide only [mjs_0, mjs_1, mjs_2, mjs_3, mjs_ble, true_and, Bool.false_eq_true, if_false, if_true, Nat.reduceAdd, Nat.reduceSub, Nat.reduceLeDiff, false_implies, true_implies, not_false_eq_true, not_true_eq_false, and_true, mm_sh, hm, mjs_up_at, mjs_up_c, mjs_up_f]
          refine mj_blk rfl ?_
          simp +decide only [mjs_0, mjs_1, mjs_2, mjs_3, mjs_ble, true_and, Bool.false_eq_true, if_false, if_true, Nat.reduceAdd, Nat.reduceSub, Nat.reduceLeDiff, false_implies, true_implies, not_false_eq_true, not_true_eq_false, and_true, mm_sh, hm, mjs_up_at, mjs_up_c, mjs_up_f]
          refine rq_164 (b := 1) hM' hJ (by decide) (fun _ J1 f1 => ?_) (fun q => absurd q (by omega))
          simp +decide only [mjs_0, mjs_1, mjs_2, mjs_3, mjs_ble, true_and, Bool.false_eq_true, if_false, if_true, Nat.reduceAdd, Nat.reduceSub, Nat.reduceLeDiff, false_implies, true_implies, not_false_eq_true, not_true_eq_false, and_true, mm_sh, hm, mjs_up_at, mjs_up_c, mjs_up_f]
          refine mj_blk rfl ?_
          simp +decide only [mjs_0, mjs_1, mjs_2, mjs_3, mjs_ble, true_and, Bool.false_eq_true, if_false, if_true, Nat.reduceAdd, Nat.reduceSub, Nat.reduceLeDiff, false_implies, true_implies, not_false_eq_true, not_true_eq_false, and_true, mm_sh, hm, mjs_up_at, mjs_up_c, mjs_up_f]
          exact hK' _ (hq H J1 hx_rf f1 trivial)
        · simp +decide only [mjs_0, mjs_1, mjs_2, mjs_3, mjs_ble, true_and, Bool.false_eq_true, if_false, if_true, Nat.reduceAdd, Nat.reduceSub, Nat.reduceLeDiff, false_implies, true_implies, not_false_eq_true, not_true_eq_false, and_true]
          refine hQ3 _ I' c1 ?_
          intro H Lg d nc ns J Q hJ hA hq
          refine r_167p (D := d + 4) hM' hv ht (p := 21) (by decide) hp hJ (fun K' hK' => ?_)
          show mj_call X mj_P (mj_bi X) (d + 4 + 3) 168 [.ref 36, .int (nI 20), .int 0] _ _
          refine mj_enter (z := (6, [], mb_168)) (by decide) rfl rfl ?_
          refine mj_blk rfl ?_
          simp +decide only [mjs_0, mjs_1, mjs_2, mjs_3, mjs_ble, true_and, Bool.false_eq_true, if_false, if_true, Nat.reduceAdd, Nat.reduceSub, Nat.reduceLeDiff, false_implies, true_implies, not_false_eq_true, not_true_eq_false, and_true, mm_sh, hm, mjs_up_at, mjs_up_c, mjs_up_f]
          refine mj_blk rfl ?_
          simp +decide only [mjs_0, mjs_1, mjs_2, mjs_3, mjs_ble, true_and, Bool.false_eq_true, if_false, if_true, Nat.reduceAdd, Nat.reduceSub, Nat.reduceLeDiff, false_implies, true_implies, not_false_eq_true, not_true_eq_false, and_true, mm_sh, hm, mjs_up_at, mjs_up_c, mjs_up_f]
          refine rq_164 (b := 1) hM' hJ (by decide) (fun q => absurd q (by omega)) (fun _ J1 f1 => ?_)
          simp +decide only [mjs_0, mjs_1, mjs_2, mjs_3, mjs_ble, true_and, Bool.false_eq_true, if_false, if_true, Nat.reduceAdd, Nat.reduceSub, Nat.reduceLeDiff, false_implies, true_implies, not_false_eq_true, not_true_eq_false, and_true, mm_sh, hm, mjs_up_at, mjs_up_c, mjs_up_f]
          refine mj_blk rfl ?_
          simp +decide only [mjs_0, mjs_1, mjs_2, mjs_3, mjs_ble, true_and, Bool.false_eq_true, if_false, if_true, Nat.reduceAdd, Nat.reduceSub, Nat.reduceLeDiff, false_implies, true_implies, not_false_eq_true, not_true_eq_false, and_true, mm_sh, hm, mjs_up_at, mjs_up_c, mjs_up_f]
          exact hK' _ (hq J1 f1)
      · refine mj_enter (z := (2, [], mb_62)) (by decide) rfl rfl ?_
        refine mj_blk rfl ?_
        simp +decide only [mjs_0, mjs_1, mjs_2, mjs_3, mjs_ble, true_and, Bool.false_eq_true, if_false, if_true, Nat.reduceAdd, Nat.reduceSub, Nat.reduceLeDiff, false_implies, true_implies, not_false_eq_true, not_true_eq_false, and_true]
        refine mj_blk rfl ?_
        simp +decide only [mjs_0, mjs_1, mjs_2, mjs_3, mjs_ble, true_and, Bool.false_eq_true, if_false, if_true, Nat.reduceAdd, Nat.reduceSub, Nat.reduceLeDiff, false_implies, true_implies, not_false_eq_true, not_true_eq_false, and_true, mc_sh, hr, mjs_up_at, mjs_up_c, mjs_up_f]
        refine cq_100 (b := 1) hR hv h hr' hk (by decide) (fun hlt I' s' cs c1 => ?_) (fun he I' c1 => ?_)
        · simp +decide only [mjs_0, mjs_1, mjs_2, mjs_3, mjs_ble, true_and, Bool.false_eq_true, if_false, if_true, Nat.reduceAdd, Nat.reduceSub, Nat.reduceLeDiff, false_implies, true_implies, not_false_eq_true, not_true_eq_false, and_true]
          refine hQ0 (clS S s') O I' (gv_cl hv) c1 (gw_cl hw cs) (kd_cl hk) ?_
          intro H Lg d nc ns J Q hJ hA hq
          refine r_167p (D := d + 4) hM' hv ht (p := 22) (by decide) hp hJ (fun K' hK' => ?_)
          show mj_call X mj_P (mj_bi X) (d + 4 + 3) 168 [.ref 36, .int (nI 21), .int 0] _ _
          refine mj_enter (z := (6, [], mb_168)) (by decide) rfl rfl ?_
          refine mj_blk rfl ?_
          simp +decide only [mjs_0, mjs_1, mjs_2, mjs_3, mjs_ble, true_and, Bool.false_eq_true, if_false, if_true, Nat.reduceAdd, Nat.reduceSub, Nat.reduceLeDiff, false_implies, true_implies, not_false_eq_true, not_true_eq_false, and_true, mm_sh, hm, mjs_up_at, mjs_up_c, mjs_up_f]
          refine mj_blk rfl ?_
          simp +decide only [mjs_0, mjs_1, mjs_2, mjs_3, mjs_ble, true_and, Bool.false_eq_true, if_false, if_true, Nat.reduceAdd, Nat.reduceSub, Nat.reduceLeDiff, false_implies, true_implies, not_false_eq_true, not_true_eq_false, and_true, mm_sh, hm, mjs_up_at, mjs_up_c, mjs_up_f]
          refine rq_165 (b := 1) hM' hJ hk (by decide) (fun _ J1 f1 => ?_) (fun q => absurd hlt q)
          simp +decide only [mjs_0, mjs_1, mjs_2, mjs_3, mjs_ble, true_and, Bool.false_eq_true, if_false, if_true, Nat.reduceAdd, Nat.reduceSub, Nat.reduceLeDiff, false_implies, true_implies, not_false_eq_true, not_true_eq_false, and_true, mm_sh, hm, mjs_up_at, mjs_up_c, mjs_up_f]
          refine mj_blk rfl ?_
          simp +decide only [mjs_0, mjs_1, mjs_2, mjs_3, mjs_ble, true_and, Bool.false_eq_true, if_false, if_true, Nat.reduceAdd, Nat.reduceSub, Nat.reduceLeDiff, false_implies, true_implies, not_false_eq_true, not_true_eq_false, and_true, mm_sh, hm, mjs_up_at, mjs_up_c, mjs_up_f]
          exact hK' _ (hq H J1 hx_rf (f1 s') trivial)
        · simp +decide only [mjs_0, mjs_1, mjs_2, mjs_3, mjs_ble, true_and, Bool.false_eq_true, if_false, if_true, Nat.reduceAdd, Nat.reduceSub, Nat.reduceLeDiff, false_implies, true_implies, not_false_eq_true, not_true_eq_false, and_true]
          refine hQ3 _ I' c1 ?_
          intro H Lg d nc ns J Q hJ hA hq
          refine r_167p (D := d + 4) hM' hv ht (p := 22) (by decide) hp hJ (fun K' hK' => ?_)
          show mj_call X mj_P (mj_bi X) (d + 4 + 3) 168 [.ref 36, .int (nI 21), .int 0] _ _
          refine mj_enter (z := (6, [], mb_168)) (by decide) rfl rfl ?_
          refine mj_blk rfl ?_
          simp +decide only [mjs_0, mjs_1, mjs_2, mjs_3, mjs_ble, true_and, Bool.false_eq_true, if_false, if_true, Nat.reduceAdd, Nat.reduceSub, Nat.reduceLeDiff, false_implies, true_implies, not_false_eq_true, not_true_eq_false, and_true, mm_sh, hm, mjs_up_at, mjs_up_c, mjs_up_f]
          refine mj_blk rfl ?_
          simp +decide only [mjs_0, mjs_1, mjs_2, mjs_3, mjs_ble, true_and, Bool.false_eq_true, if_false, if_true, Nat.reduceAdd, Nat.reduceSub, Nat.reduceLeDiff, false_implies, true_implies, not_false_eq_true, not_true_eq_false, and_true, mm_sh, hm, mjs_up_at, mjs_up_c, mjs_up_f]
          refine rq_165 (b := 1) hM' hJ hk (by decide) (fun q => absurd q he) (fun _ J1 f1 => ?_)
          simp +decide only [mjs_0, mjs_1, mjs_2, mjs_3, mjs_ble, true_and, Bool.false_eq_true, if_false, if_true, Nat.reduceAdd, Nat.reduceSub, Nat.reduceLeDiff, false_implies, true_implies, not_false_eq_true, not_true_eq_false, and_true, mm_sh, hm, mjs_up_at, mjs_up_c, mjs_up_f]
          refine mj_blk rfl ?_
          simp +decide only [mjs_0, mjs_1, mjs_2, mjs_3, mjs_ble, true_and, Bool.false_eq_true, if_false, if_true, Nat.reduceAdd, Nat.reduceSub, Nat.reduceLeDiff, false_implies, true_implies, not_false_eq_true, not_true_eq_false, and_true, mm_sh, hm, mjs_up_at, mjs_up_c, mjs_up_f]
          exact hK' _ (hq J1 f1)
      · refine mj_enter (z := (2, [], mb_62)) (by decide) rfl rfl ?_
        refine mj_blk rfl ?_
        simp +decide only [mjs_0, mjs_1, mjs_2, mjs_3, mjs_ble, true_and, Bool.false_eq_true, if_false, if_true, Nat.reduceAdd, Nat.reduceSub, Nat.reduceLeDiff, false_implies, true_implies, not_false_eq_true, not_true_eq_false, and_true]
        refine mj_blk rfl ?_
        simp +decide only [mjs_0, mjs_1, mjs_2, mjs_3, mjs_ble, true_and, Bool.false_eq_true, if_false, if_true, Nat.reduceAdd, Nat.reduceSub, Nat.reduceLeDiff, false_implies, true_implies, not_false_eq_true, not_true_eq_false, and_true, mc_sh, hr, mjs_up_at, mjs_up_c, mjs_up_f]
        refine c_80 s59_1 hr' ?_
        simp +decide only [mjs_0, mjs_1, mjs_2, mjs_3, mjs_ble, true_and, Bool.false_eq_true, if_false, if_true, Nat.reduceAdd, Nat.reduceSub, Nat.reduceLeDiff, false_implies, true_implies, not_false_eq_true, not_true_eq_false, and_true]
        refine hQ3 _ _ (rc_f hv h) ?_
        intro H Lg d nc ns J Q hJ hA hq
        refine r_167p (D := d + 4) hM' hv ht (p := 23) (by decide) hp hJ (fun K' hK' => ?_)
        show mj_call X mj_P (mj_bi X) (d + 4 + 3) 168 [.ref 36, .int (nI 22), .int 0] _ _
        refine mj_enter (z := (6, [], mb_168)) (by decide) rfl rfl ?_
        refine mj_blk rfl ?_
        simp +decide only [mjs_0, mjs_1, mjs_2, mjs_3, mjs_ble, true_and, Bool.false_eq_true, if_false, if_true, Nat.reduceAdd, Nat.reduceSub, Nat.reduceLeDiff, false_implies, true_implies, not_false_eq_true, not_true_eq_false, and_true, mm_sh, hm, mjs_up_at, mjs_up_c, mjs_up_f]
        refine mj_blk rfl ?_
        simp +decide only [mjs_0, mjs_1, mjs_2, mjs_3, mjs_ble, true_and, Bool.false_eq_true, if_false, if_true, Nat.reduceAdd, Nat.reduceSub, Nat.reduceLeDiff, false_implies, true_implies, not_false_eq_true, not_true_eq_false, and_true, mm_sh, hm, mjs_up_at, mjs_up_c, mjs_up_f]
        refine c_106 s59_36 ?_
        rw [if_pos (rr_d hJ).1.2.2.2]
        simp +decide only [mjs_0, mjs_1, mjs_2, mjs_3, mjs_ble, true_and, Bool.false_eq_true, if_false, if_true, Nat.reduceAdd, Nat.reduceSub, Nat.reduceLeDiff, false_implies, true_implies, not_false_eq_true, not_true_eq_false, and_true, mm_sh, hm, mjs_up_at, mjs_up_c, mjs_up_f]
        refine mj_blk rfl ?_
        simp +decide only [mjs_0, mjs_1, mjs_2, mjs_3, mjs_ble, true_and, Bool.false_eq_true, if_false, if_true, Nat.reduceAdd, Nat.reduceSub, Nat.reduceLeDiff, false_implies, true_implies, not_false_eq_true, not_true_eq_false, and_true, mm_sh, hm, mjs_up_at, mjs_up_c, mjs_up_f]
        exact hK' _ (hq _ (rr_f (f := 6) (by decide) (by decide) hJ))
  · exact absurd (Or.inl (by omega)) hgx
  · obtain ⟨x, hx⟩ : ∃ x, gm S t = 196608 + x := ⟨gm S t - 196608, by omega⟩
    have hx2 : x < 3328 := by omega
    have ek : (196608 + x) / 65536 = 3 := by omega
    have em : (196608 + x) % 65536 = x := by omega
    have ex : 256 * (x / 256) + x % 256 = x := by omega
    have s8 := bt_shr8 (t := x) (by omega)
    have m8 := bt_255 x
    refine mj_enter (z := (4, [], mb_59)) (by decide) rfl rfl ?_
    refine mj_blk rfl ?_
    simp +decide only [mjs_0, mjs_1, mjs_2, mjs_3, mjs_ble, true_and, Bool.false_eq_true, if_false, if_true, Nat.reduceAdd, Nat.reduceSub, Nat.reduceLeDiff, false_implies, true_implies, not_false_eq_true, not_true_eq_false, and_true, mc_sh, hr, mjs_up_at, mjs_up_c, mjs_up_f]
    refine cq_96 hR h hv ht ?_
    rw [hx]
    simp +decide only [mjs_0, mjs_1, mjs_2, mjs_3, mjs_ble, true_and, Bool.false_eq_true, if_false, if_true, Nat.reduceAdd, Nat.reduceSub, Nat.reduceLeDiff, false_implies, true_implies, not_false_eq_true, not_true_eq_false, and_true]
    refine c_94 ?_
    rw [em]
    simp +decide only [mjs_0, mjs_1, mjs_2, mjs_3, mjs_ble, true_and, Bool.false_eq_true, if_false, if_true, Nat.reduceAdd, Nat.reduceSub, Nat.reduceLeDiff, false_implies, true_implies, not_false_eq_true, not_true_eq_false, and_true]
    refine c_93 (by omega) ?_
    rw [ek]
    simp +decide only [mjs_0, mjs_1, mjs_2, mjs_3, mjs_ble, true_and, Bool.false_eq_true, if_false, if_true, Nat.reduceAdd, Nat.reduceSub, Nat.reduceLeDiff, false_implies, true_implies, not_false_eq_true, not_true_eq_false, and_true]
    refine mj_blk rfl ?_
    simp +decide only [mjs_0, mjs_1, mjs_2, mjs_3, mjs_ble, true_and, Bool.false_eq_true, if_false, if_true, Nat.reduceAdd, Nat.reduceSub, Nat.reduceLeDiff, false_implies, true_implies, not_false_eq_true, not_true_eq_false, and_true, s8, m8]
    refine p_60 hR hM' hr' hv hw hk h (c := x / 256) (v := x % 256) (by omega) (by omega) (fun S' O' I' a1 a2 a3 a4 a5 => ?_) (fun g' I' a1 a2 => ?_)
    · simp +decide only [mjs_0, mjs_1, mjs_2, mjs_3, mjs_ble, true_and, Bool.false_eq_true, if_false, if_true, Nat.reduceAdd, Nat.reduceSub, Nat.reduceLeDiff, false_implies, true_implies, not_false_eq_true, not_true_eq_false, and_true]
      rw [ex] at a5
      refine hQ0 S' O' I' a1 a2 a3 a4 ?_
      intro H Lg d nc ns J Q hJ hA hq
      exact r_167c (D := d + 4) hM' hv ht hx2 hx hJ (fun K' hK' => rx_at a5 (by omega) hJ trivial (fun H' J' b1 b2 b3 => hK' _ (hq H' J' b1 b2 b3)))
    · simp +decide only [mjs_0, mjs_1, mjs_2, mjs_3, mjs_ble, true_and, Bool.false_eq_true, if_false, if_true, Nat.reduceAdd, Nat.reduceSub, Nat.reduceLeDiff, false_implies, true_implies, not_false_eq_true, not_true_eq_false, and_true]
      rw [ex] at a2
      refine hQ3 g' I' a1 ?_
      intro H Lg d nc ns J Q hJ hA hq
      exact r_167c (D := d + 4) hM' hv ht hx2 hx hJ (fun K' hK' => ry_at a2 (by omega) hJ trivial (fun J' b1 => hK' _ (hq J' b1)))
  · obtain ⟨x, hx⟩ : ∃ x, gm S t = 262144 + x := ⟨gm S t - 262144, by omega⟩
    have hx2 : x < 256 := by omega
    have ek : (262144 + x) / 65536 = 4 := by omega
    have em : (262144 + x) % 65536 = x := by omega
    refine mj_enter (z := (4, [], mb_59)) (by decide) rfl rfl ?_
    refine mj_blk rfl ?_
    simp +decide only [mjs_0, mjs_1, mjs_2, mjs_3, mjs_ble, true_and, Bool.false_eq_true, if_false, if_true, Nat.reduceAdd, Nat.reduceSub, Nat.reduceLeDiff, false_implies, true_implies, not_false_eq_true, not_true_eq_false, and_true, mc_sh, hr, mjs_up_at, mjs_up_c, mjs_up_f]
    refine cq_96 hR h hv ht ?_
    rw [hx]
    simp +decide only [mjs_0, mjs_1, mjs_2, mjs_3, mjs_ble, true_and, Bool.false_eq_true, if_false, if_true, Nat.reduceAdd, Nat.reduceSub, Nat.reduceLeDiff, false_implies, true_implies, not_false_eq_true, not_true_eq_false, and_true]
    refine c_94 ?_
    rw [em]
    simp +decide only [mjs_0, mjs_1, mjs_2, mjs_3, mjs_ble, true_and, Bool.false_eq_true, if_false, if_true, Nat.reduceAdd, Nat.reduceSub, Nat.reduceLeDiff, false_implies, true_implies, not_false_eq_true, not_true_eq_false, and_true]
    refine c_93 (by omega) ?_
    rw [ek]
    simp +decide only [mjs_0, mjs_1, mjs_2, mjs_3, mjs_ble, true_and, Bool.false_eq_true, if_false, if_true, Nat.reduceAdd, Nat.reduceSub, Nat.reduceLeDiff, false_implies, true_implies, not_false_eq_true, not_true_eq_false, and_true]
    refine mj_blk rfl ?_
    simp +decide only [mjs_0, mjs_1, mjs_2, mjs_3, mjs_ble, true_and, Bool.false_eq_true, if_false, if_true, Nat.reduceAdd, Nat.reduceSub, Nat.reduceLeDiff, false_implies, true_implies, not_false_eq_true, not_true_eq_false, and_true]
    refine cq_61o (v := x) hR hv h hr' (fun hlt I' c1 => ?_) (fun he I' c1 => ?_)
    · simp +decide only [mjs_0, mjs_1, mjs_2, mjs_3, mjs_ble, true_and, Bool.false_eq_true, if_false, if_true, Nat.reduceAdd, Nat.reduceSub, Nat.reduceLeDiff, false_implies, true_implies, not_false_eq_true, not_true_eq_false, and_true]
      refine hQ0 S (emO O x) I' (gv_em hv hlt hx2) c1 hw hk ?_
      intro H Lg d nc ns J Q hJ hA hq
      refine r_167e (D := d + 4) hM' hv ht hx2 hx hJ (fun K' hK' => ?_)
      exact rq_163o (v := x) hM' hv hJ (fun _ J1 f1 => hK' _ (hq H J1 hx_rf f1 trivial)) (fun q => absurd q (by omega))
    · simp +decide only [mjs_0, mjs_1, mjs_2, mjs_3, mjs_ble, true_and, Bool.false_eq_true, if_false, if_true, Nat.reduceAdd, Nat.reduceSub, Nat.reduceLeDiff, false_implies, true_implies, not_false_eq_true, not_true_eq_false, and_true]
      refine hQ3 _ I' c1 ?_
      intro H Lg d nc ns J Q hJ hA hq
      refine r_167e (D := d + 4) hM' hv ht hx2 hx hJ (fun K' hK' => ?_)
      exact rq_163o (v := x) hM' hv hJ (fun q => absurd q (by omega)) (fun _ J1 f1 => hK' _ (hq J1 f1))
end MJPE
